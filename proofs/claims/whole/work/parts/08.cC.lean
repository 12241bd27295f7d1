/-! the methods meet their functions (by program) -/
theorem o6_in : oS yX6_in cX6_in 6 (some .boolean) 3 := ⟨tw665, tw664, tw45, ⟨by decide +kernel, by decide +kernel⟩, by decide +kernel⟩
abbrev rm6_in : Room := { frames := 0, cells := 0, slots := 0, locals := 0 }
set_option maxHeartbeats 4000000 in
set_option maxRecDepth 100000 in
theorem c6_in {l : Launch} {G : va_G} {cI cZ : ClassId} {v0 : Int64} {v2 : Int64} {v4 : Int64} {u : Int32} (hE : f6_in v0 v2 v4 = some u) : Met l yX6_in (Cond.code yX6_in cX6_in 6 (some .boolean) :: TB) rm6_in (PcR G cI cZ [] ([.long v0, .long v2, .long v4] : List Value)) (QcRead u) 0 0 (fun _ => False) := by
  refine metR (own := RX6) (by decide +kernel) rfl (Nat.le_of_ble_eq_true rfl) ?_
  intro p e s m below meth c ls X hP hK hl
  have hl : lv_has ls 6 [(0, .long v0), (2, .long v2), (4, .long v4)] := hl
  unfold f6_in at hE
  refine lv_lload_n X.1.1 X.1.2.1 dX6_in_0 rfl (lv_at hl 0 rfl) ?_
  refine lv_lload_n X.1.1 X.1.2.1 dX6_in_1 rfl (lv_at hl 1 rfl) ?_
  refine W.lcmp X.1.1 X.1.2.1 dX6_in_2 ?_
  refine lv_if_lt (tgt := 17) X.1.1 X.1.2.1 dX6_in_3 (by decide) (fun c_3 => ?_) (fun c_3 => ?_)
  · have hE := ite_t hE c_3
    refine lv_iconst (v := (iI 0)) X.1.1 X.1.2.1 dX6_in_17 rfl ?_
    cases hE
    exact retRZ X okB_0 dX6_in_18
  · have hE := ite_f hE c_3
    refine lv_lload_n X.1.1 X.1.2.1 dX6_in_6 rfl (lv_at hl 0 rfl) ?_
    refine lv_lload X.1.1 X.1.2.1 dX6_in_7 (lv_at hl 2 rfl) ?_
    refine W.lcmp X.1.1 X.1.2.1 dX6_in_9 ?_
    refine lv_if_gt (tgt := 17) X.1.1 X.1.2.1 dX6_in_10 (by decide) (fun c_10 => ?_) (fun c_10 => ?_)
    · have hE := ite_t hE c_10
      refine lv_iconst (v := (iI 0)) X.1.1 X.1.2.1 dX6_in_17 rfl ?_
      cases hE
      exact retRZ X okB_0 dX6_in_18
    · have hE := ite_f hE c_10
      refine lv_iconst (v := (iI 1)) X.1.1 X.1.2.1 dX6_in_13 rfl ?_
      refine lv_goto (tgt := 18) X.1.1 X.1.2.1 dX6_in_14 (by decide) ?_
      cases hE
      exact retRZ X okB_1 dX6_in_18
theorem o6_has : oS yX6_has cX6_has 2 (some .boolean) 2 := ⟨tw712, tw711, tw45, ⟨by decide +kernel, by decide +kernel⟩, by decide +kernel⟩
abbrev rm6_has : Room := { frames := 0, cells := 0, slots := 0, locals := 0 }
set_option maxHeartbeats 4000000 in
set_option maxRecDepth 100000 in
theorem c6_has {l : Launch} {G : va_G} {cI cZ : ClassId} {v0 : Int32} {v1 : Int32} {u : Int32} (hE : f6_has v0 v1 = some u) : Met l yX6_has (Cond.code yX6_has cX6_has 2 (some .boolean) :: TB) rm6_has (PcR G cI cZ [] ([.int v0, .int v1] : List Value)) (QcRead u) 0 0 (fun _ => False) := by
  refine metR (own := RX6) (by decide +kernel) rfl (Nat.le_of_ble_eq_true rfl) ?_
  intro p e s m below meth c ls X hP hK hl
  have hl : lv_has ls 2 [(0, .int v0), (1, .int v1)] := hl
  unfold f6_has at hE
  refine lv_iload_n X.1.1 X.1.2.1 dX6_has_0 rfl (lv_at hl 0 rfl) ?_
  refine lv_iload_n X.1.1 X.1.2.1 dX6_has_1 rfl (lv_at hl 1 rfl) ?_
  refine lv_ishr X.1.1 X.1.2.1 dX6_has_2 ?_
  refine lv_iconst (v := (iI 1)) X.1.1 X.1.2.1 dX6_has_3 rfl ?_
  refine lv_iand X.1.1 X.1.2.1 dX6_has_4 ?_
  refine lv_iconst (v := (iI 1)) X.1.1 X.1.2.1 dX6_has_5 rfl ?_
  refine lv_icmp_ne (tgt := 13) X.1.1 X.1.2.1 dX6_has_6 (by decide) (fun c_6 => ?_) (fun c_6 => ?_)
  · have hE := ite_f hE c_6
    refine lv_iconst (v := (iI 0)) X.1.1 X.1.2.1 dX6_has_13 rfl ?_
    cases hE
    exact retRZ X okB_0 dX6_has_14
  · have hE := ite_t hE c_6
    refine lv_iconst (v := (iI 1)) X.1.1 X.1.2.1 dX6_has_9 rfl ?_
    refine lv_goto (tgt := 14) X.1.1 X.1.2.1 dX6_has_10 (by decide) ?_
    cases hE
    exact retRZ X okB_1 dX6_has_14
theorem o6_ones : oS yX6_ones cX6_ones 3 (some .int) 1 := ⟨tw836, tw835, tw45, ⟨by decide +kernel, by decide +kernel⟩, by decide +kernel⟩
abbrev rm6_ones : Room := { frames := 0, cells := 0, slots := 0, locals := 0 }
set_option maxHeartbeats 4000000 in
set_option maxRecDepth 100000 in
theorem c6_ones {l : Launch} {G : va_G} {cI cZ : ClassId} {v0 : Int32} {u : Int32} (hE : f6_ones v0 = some u) : Met l yX6_ones (Cond.code yX6_ones cX6_ones 3 (some .int) :: TB) rm6_ones (PcR G cI cZ [] ([.int v0] : List Value)) (QcRead u) 0 0 (fun _ => False) := by
  refine metR (own := RX6) (by decide +kernel) rfl (Nat.le_of_ble_eq_true rfl) ?_
  intro p e s m below meth c ls X hP hK hl
  have hl : lv_has ls 3 [(0, .int v0)] := hl
  unfold f6_ones at hE
  refine lv_iconst (v := (iI 0)) X.1.1 X.1.2.1 dX6_ones_0 rfl ?_
  refine lv_istore_n (lv' := [(1, .int (iI 0)), (0, .int v0)]) X.1.1 X.1.2.1 dX6_ones_1 rfl hl (by decide) rfl (fun ls hl => ?_)
  refine lv_iconst (v := (iI 0)) X.1.1 X.1.2.1 dX6_ones_2 rfl ?_
  refine lv_istore_n (lv' := [(2, .int (iI 0)), (1, .int (iI 0)), (0, .int v0)]) X.1.1 X.1.2.1 dX6_ones_3 rfl hl (by decide) rfl (fun ls hl => ?_)
  have lp4 : ∀ (k : Int32 → Int32 → Option Int32), (∀ (v1_1001 : Int32) (v2_1001 : Int32) (ls : Array Slot), lv_has ls 3 [(0, .int v0), (1, .int v1_1001), (2, .int v2_1001)] → k v1_1001 v2_1001 = some u → W p l e rm6_ones s m ([.int v0] : List Value).toArray below meth c s.heap [] 0 0 (MQ below (QcRead u) ([.int v0] : List Value).toArray s 0 0 (fun _ => False)) (F0 m 23 ls [])) → ∀ (n : Nat) (v1_1001 : Int32) (v2_1001 : Int32) (ls : Array Slot), lv_has ls 3 [(0, .int v0), (1, .int v1_1001), (2, .int v2_1001)] → l6_ones_4 k v0 n v1_1001 v2_1001 = some u → W p l e rm6_ones s m ([.int v0] : List Value).toArray below meth c s.heap [] 0 0 (MQ below (QcRead u) ([.int v0] : List Value).toArray s 0 0 (fun _ => False)) (F0 m 4 ls []) := by
    intro k hex n
    induction n with
    | zero =>
      intro v1_1001 v2_1001 ls hl hE
      exact absurd (show (none : Option Int32) = some u from hE) (fun h => by cases h)
    | succ n ih =>
      intro v1_1001 v2_1001 ls hl hE
      rw [l6_ones_4] at hE
      refine lv_iload_n X.1.1 X.1.2.1 dX6_ones_4 rfl (lv_at hl 2 rfl) ?_
      refine lv_iconst (v := (iI 4)) X.1.1 X.1.2.1 dX6_ones_5 rfl ?_
      refine lv_icmp_ge (tgt := 23) X.1.1 X.1.2.1 dX6_ones_6 (by decide) (fun c_6 => ?_) (fun c_6 => ?_)
      · have hE := ite_t hE c_6
        exact hex v1_1001 v2_1001 ls (lv_sub hl [0, 1, 2] rfl) hE
      · have hE := ite_f hE c_6
        refine lv_iload_n X.1.1 X.1.2.1 dX6_ones_9 rfl (lv_at hl 1 rfl) ?_
        refine lv_iload_n X.1.1 X.1.2.1 dX6_ones_10 rfl (lv_at hl 0 rfl) ?_
        refine lv_iload_n X.1.1 X.1.2.1 dX6_ones_11 rfl (lv_at hl 2 rfl) ?_
        refine lv_ishr X.1.1 X.1.2.1 dX6_ones_12 ?_
        refine lv_iconst (v := (iI 1)) X.1.1 X.1.2.1 dX6_ones_13 rfl ?_
        refine lv_iand X.1.1 X.1.2.1 dX6_ones_14 ?_
        refine lv_iadd X.1.1 X.1.2.1 dX6_ones_15 ?_
        refine lv_istore_n (lv' := [(1, .int (v1_1001 + ((v0 >>> (v2_1001 &&& 31)) &&& (iI 1)))), (0, .int v0), (2, .int v2_1001)]) X.1.1 X.1.2.1 dX6_ones_16 rfl hl (by decide) rfl (fun ls hl => ?_)
        refine lv_iinc (v := (v2_1001 + (iI 1))) (lv' := [(2, .int (v2_1001 + (iI 1))), (1, .int (v1_1001 + ((v0 >>> (v2_1001 &&& 31)) &&& (iI 1)))), (0, .int v0)]) X.1.1 X.1.2.1 dX6_ones_17 hl (k := 2) rfl rfl (by decide) rfl (fun ls hl => ?_)
        refine lv_goto (tgt := 4) X.1.1 X.1.2.1 dX6_ones_20 (by decide) ?_
        exact ih (v1_1001 + ((v0 >>> (v2_1001 &&& 31)) &&& (iI 1))) (v2_1001 + (iI 1)) ls (lv_sub hl [2, 1, 0] rfl) hE
  refine lp4 _ (fun v1_1001 v2_1001 ls hl hE => ?_) FU (iI 0) (iI 0) ls (lv_sub hl [2, 1, 0] rfl) hE
  refine lv_iload_n X.1.1 X.1.2.1 dX6_ones_23 rfl (lv_at hl 1 rfl) ?_
  cases hE
  exact retR X dX6_ones_24
theorem o6_write : oV yX6_write RX6 cX6_write 2 (some .int) 1 := ⟨tw661, tw659, tw660, tw45, ⟨by decide +kernel, by decide +kernel⟩, by decide +kernel⟩
abbrev rm6_write : Room := { frames := 1, cells := 0, slots := 0, locals := 25 }
set_option maxHeartbeats 4000000 in
set_option maxRecDepth 100000 in
theorem c6_write {l : Launch} {G : va_G} {cI cZ : ClassId} {m0 m1 m2 m3 m4 m5 m6 m7 m8 m9 m10 m11 m12 m13 : Nat} {mwo : Int32} {mth : Int32} {mrn : Int32} {mrm : Int32} {mln : Int32} {mat : Int32} {mfa : Int32} {mac : Int32} {mnx : Int32} {mse : Int32} {msd : Int64} {mki : Nat → Int32} {mof : Nat → Int32} {mpu : Nat → Int32} {mno : Nat → Int32} {mrw : Nat → Int32} {mrt : Nat → Int32} {mtx : Nat → Int32} {mro : Nat → Int32} {mso : Nat → Int32} {msf : Nat → Int32} {msc : Nat → Int32} {mik : Nat → Int32} {mkt : Nat → Int32} {v1 : Int32} {sz : Nat} {u : Int32 × Int32 × (Nat → Int32)} (hE : f6_write v1 mln mtx = some u) : Met l yX6_write (Cond.code yX6_write cX6_write 2 (some .int) :: TB) rm6_write (PcW G cI cZ (wM cI cZ m0 m1 m2 m3 m4 m5 m6 m7 m8 m9 m10 m11 m12 m13 mwo mth mrn mrm mln mat mfa mac mnx mse msd mki mof mpu mno mrw mrt mtx mro mso msf msc mik mkt) sz ([.ref m0, .int v1] : List Value)) (QW G (some (.int u.1)) (wM cI cZ m0 m1 m2 m3 m4 m5 m6 m7 m8 m9 m10 m11 m12 m13 mwo mth mrn mrm u.2.1 mat mfa mac mnx mse msd mki mof mpu mno mrw mrt u.2.2 mro mso msf msc mik mkt) (va_A (wM cI cZ m0 m1 m2 m3 m4 m5 m6 m7 m8 m9 m10 m11 m12 m13 mwo mth mrn mrm mln mat mfa mac mnx mse msd mki mof mpu mno mrw mrt mtx mro mso msf msc mik mkt) sz)) 0 0 (va_A (wM cI cZ m0 m1 m2 m3 m4 m5 m6 m7 m8 m9 m10 m11 m12 m13 mwo mth mrn mrm mln mat mfa mac mnx mse msd mki mof mpu mno mrw mrt mtx mro mso msf msc mik mkt) sz) := by
  refine metW (own := RX6) (by decide +kernel) rfl (Nat.le_of_ble_eq_true rfl) ?_
  intro p e s m below meth c ls A X hA hP hK hD hl
  have hS : va_S A s.heap s.heap [] := va_S.rf
  have hl : lv_has ls 2 [(0, .ref m0), (1, .int v1)] := hl
  unfold f6_write at hE
  refine lv_iload_n X.1.1 X.1.2.1 dX6_write_0 rfl (lv_at hl 1 rfl) ?_
  refine lv_i2l (v := v1.toInt64) X.1.1 X.1.2.1 dX6_write_1 rfl ?_
  refine lv_lconst (v := (Int64.ofNat 0)) X.1.1 X.1.2.1 dX6_write_2 rfl ?_
  refine lv_ldc2 X.1.1 X.1.2.1 X.1.2.2.2.1 (X.1.2.2.2.2 _ tw662) dX6_write_3 ?_
  obtain ⟨u1001, e_u1001, hE⟩ := bd_some hE
  refine callRS (wsC := []) (As := [.long (v1.toInt64), .long (Int64.ofNat 0), .long (255 : Int64)]) (rest := []) (cI := cI) (cZ := cZ) X (c6_in (l := l) (G := G) (cI := cI) (cZ := cZ) e_u1001) o6_in tw663 ⟨rfl, rfl, Nat.le_of_ble_eq_true rfl, Nat.le_of_ble_eq_true rfl⟩ va_P_nil hK rfl hl rfl (by decide) ⟨Nat.le_refl _, Nat.le_refl _⟩ dX6_write_6 ?_
  refine lv_if_ne (tgt := 15) X.1.1 X.1.2.1 dX6_write_9 (by decide) (fun c_9 => ?_) (fun c_9 => ?_)
  · have hE := ite_f hE c_9
    refine lv_aload_n X.1.1 X.1.2.1 dX6_write_15 rfl (lv_at hl 0 rfl) ?_
    refine gf6_56 X hK hP 0 rfl rfl dX6_write_16 ?_
    refine lv_bipush (v := (iI 36)) X.1.1 X.1.2.1 dX6_write_19 (by decide) ?_
    refine lv_icmp_ne (tgt := 27) X.1.1 X.1.2.1 dX6_write_21 (by decide) (fun c_21 => ?_) (fun c_21 => ?_)
    · have hE := ite_f hE c_21
      refine lv_aload_n X.1.1 X.1.2.1 dX6_write_27 rfl (lv_at hl 0 rfl) ?_
      refine gf6_28 X hK hP 0 rfl rfl dX6_write_28 ?_
      refine lv_aload_n X.1.1 X.1.2.1 dX6_write_31 rfl (lv_at hl 0 rfl) ?_
      refine gf6_56 X hK hP 0 rfl rfl dX6_write_32 ?_
      refine lv_iload_n X.1.1 X.1.2.1 dX6_write_35 rfl (lv_at hl 1 rfl) ?_
      obtain ⟨i_36, hE⟩ := ib_some hE
      refine astI (t0 := 0) (ws' := (wM cI cZ m0 m1 m2 m3 m4 m5 m6 m7 m8 m9 m10 m11 m12 m13 mwo mth mrn mrm mln mat mfa mac mnx mse msd mki mof mpu mno mrw mrt (upd mtx mln.toNatClampNeg v1) mro mso msf msc mik mkt)) X hK hP hD hS 7 0 rfl rfl i_36 rfl dX6_write_36 (fun H locs hP hD hS => ?_)
      refine lv_aload_n X.1.1 X.1.2.1 dX6_write_37 rfl (lv_at hl 0 rfl) ?_
      refine lv_dup X.1.1 X.1.2.1 dX6_write_38 rfl ?_
      refine gf6_56 X hK hP 0 rfl rfl dX6_write_39 ?_
      refine lv_iconst (v := (iI 1)) X.1.1 X.1.2.1 dX6_write_42 rfl ?_
      refine lv_iadd X.1.1 X.1.2.1 dX6_write_43 ?_
      refine pf6_56 (ws2 := (wM cI cZ m0 m1 m2 m3 m4 m5 m6 m7 m8 m9 m10 m11 m12 m13 mwo mth mrn mrm (mln + (iI 1)) mat mfa mac mnx mse msd mki mof mpu mno mrw mrt (upd mtx mln.toNatClampNeg v1) mro mso msf msc mik mkt)) X hK hP hD hS 0 rfl (Nat.le_of_ble_eq_true rfl) rfl dX6_write_44 (fun H locs hP hD hS => ?_)
      refine lv_aload_n X.1.1 X.1.2.1 dX6_write_47 rfl (lv_at hl 0 rfl) ?_
      refine gf6_56 X hK hP 0 rfl rfl dX6_write_48 ?_
      cases hE
      exact retW X hP hS dX6_write_51
    · have hE := ite_t hE c_21
      refine lv_bipush (v := (iI (-4))) X.1.1 X.1.2.1 dX6_write_24 (by decide) ?_
      cases hE
      exact retW X hP hS dX6_write_26
  · have hE := ite_t hE c_9
    refine lv_bipush (v := (iI (-2))) X.1.1 X.1.2.1 dX6_write_12 (by decide) ?_
    cases hE
    exact retW X hP hS dX6_write_14
theorem o6_wipe : oV yX6_wipe RX6 cX6_wipe 2 (some .int) 0 := ⟨tw669, tw667, tw668, tw45, ⟨by decide +kernel, by decide +kernel⟩, by decide +kernel⟩
abbrev rm6_wipe : Room := { frames := 0, cells := 0, slots := 0, locals := 0 }
set_option maxHeartbeats 4000000 in
set_option maxRecDepth 100000 in
theorem c6_wipe {l : Launch} {G : va_G} {cI cZ : ClassId} {m0 m1 m2 m3 m4 m5 m6 m7 m8 m9 m10 m11 m12 m13 : Nat} {mwo : Int32} {mth : Int32} {mrn : Int32} {mrm : Int32} {mln : Int32} {mat : Int32} {mfa : Int32} {mac : Int32} {mnx : Int32} {mse : Int32} {msd : Int64} {mki : Nat → Int32} {mof : Nat → Int32} {mpu : Nat → Int32} {mno : Nat → Int32} {mrw : Nat → Int32} {mrt : Nat → Int32} {mtx : Nat → Int32} {mro : Nat → Int32} {mso : Nat → Int32} {msf : Nat → Int32} {msc : Nat → Int32} {mik : Nat → Int32} {mkt : Nat → Int32} {sz : Nat} {u : Int32 × Int32} (hE : f6_wipe mln = some u) : Met l yX6_wipe (Cond.code yX6_wipe cX6_wipe 2 (some .int) :: TB) rm6_wipe (PcW G cI cZ (wM cI cZ m0 m1 m2 m3 m4 m5 m6 m7 m8 m9 m10 m11 m12 m13 mwo mth mrn mrm mln mat mfa mac mnx mse msd mki mof mpu mno mrw mrt mtx mro mso msf msc mik mkt) sz ([.ref m0] : List Value)) (QW G (some (.int u.1)) (wM cI cZ m0 m1 m2 m3 m4 m5 m6 m7 m8 m9 m10 m11 m12 m13 mwo mth mrn mrm u.2 mat mfa mac mnx mse msd mki mof mpu mno mrw mrt mtx mro mso msf msc mik mkt) (va_A (wM cI cZ m0 m1 m2 m3 m4 m5 m6 m7 m8 m9 m10 m11 m12 m13 mwo mth mrn mrm mln mat mfa mac mnx mse msd mki mof mpu mno mrw mrt mtx mro mso msf msc mik mkt) sz)) 0 0 (va_A (wM cI cZ m0 m1 m2 m3 m4 m5 m6 m7 m8 m9 m10 m11 m12 m13 mwo mth mrn mrm mln mat mfa mac mnx mse msd mki mof mpu mno mrw mrt mtx mro mso msf msc mik mkt) sz) := by
  refine metW (own := RX6) (by decide +kernel) rfl (Nat.le_of_ble_eq_true rfl) ?_
  intro p e s m below meth c ls A X hA hP hK hD hl
  have hS : va_S A s.heap s.heap [] := va_S.rf
  have hl : lv_has ls 2 [(0, .ref m0)] := hl
  unfold f6_wipe at hE
  refine lv_aload_n X.1.1 X.1.2.1 dX6_wipe_0 rfl (lv_at hl 0 rfl) ?_
  refine gf6_56 X hK hP 0 rfl rfl dX6_wipe_1 ?_
  refine lv_istore_n (lv' := [(1, .int mln), (0, .ref m0)]) X.1.1 X.1.2.1 dX6_wipe_4 rfl hl (by decide) rfl (fun ls hl => ?_)
  refine lv_aload_n X.1.1 X.1.2.1 dX6_wipe_5 rfl (lv_at hl 1 rfl) ?_
  refine lv_iconst (v := (iI 0)) X.1.1 X.1.2.1 dX6_wipe_6 rfl ?_
  refine pf6_56 (ws2 := (wM cI cZ m0 m1 m2 m3 m4 m5 m6 m7 m8 m9 m10 m11 m12 m13 mwo mth mrn mrm (iI 0) mat mfa mac mnx mse msd mki mof mpu mno mrw mrt mtx mro mso msf msc mik mkt)) X hK hP hD hS 0 rfl (Nat.le_of_ble_eq_true rfl) rfl dX6_wipe_7 (fun H locs hP hD hS => ?_)
  refine lv_iload_n X.1.1 X.1.2.1 dX6_wipe_10 rfl (lv_at hl 0 rfl) ?_
  cases hE
  exact retW X hP hS dX6_wipe_11
theorem o6_figure : oV yX6_figure RX6 cX6_figure 4 (some .int) 2 := ⟨tw681, tw680, tw17, tw45, ⟨by decide +kernel, by decide +kernel⟩, by decide +kernel⟩
abbrev rm6_figure : Room := { frames := 1, cells := 0, slots := 0, locals := 25 }
set_option maxHeartbeats 4000000 in
set_option maxRecDepth 100000 in
theorem c6_figure {l : Launch} {G : va_G} {cI cZ : ClassId} {m0 m1 m2 m3 m4 m5 m6 m7 m8 m9 m10 m11 m12 m13 : Nat} {mwo : Int32} {mth : Int32} {mrn : Int32} {mrm : Int32} {mln : Int32} {mat : Int32} {mfa : Int32} {mac : Int32} {mnx : Int32} {mse : Int32} {msd : Int64} {mki : Nat → Int32} {mof : Nat → Int32} {mpu : Nat → Int32} {mno : Nat → Int32} {mrw : Nat → Int32} {mrt : Nat → Int32} {mtx : Nat → Int32} {mro : Nat → Int32} {mso : Nat → Int32} {msf : Nat → Int32} {msc : Nat → Int32} {mik : Nat → Int32} {mkt : Nat → Int32} {v1 : Int32} {v2 : Int32} {sz : Nat} {u : Int32 × Int32 × Int32} (hE : f6_figure v1 v2 mln mat mfa mtx = some u) : Met l yX6_figure (Cond.code yX6_figure cX6_figure 4 (some .int) :: TB) rm6_figure (PcW G cI cZ (wM cI cZ m0 m1 m2 m3 m4 m5 m6 m7 m8 m9 m10 m11 m12 m13 mwo mth mrn mrm mln mat mfa mac mnx mse msd mki mof mpu mno mrw mrt mtx mro mso msf msc mik mkt) sz ([.ref m0, .int v1, .int v2] : List Value)) (QW G (some (.int u.1)) (wM cI cZ m0 m1 m2 m3 m4 m5 m6 m7 m8 m9 m10 m11 m12 m13 mwo mth mrn mrm mln u.2.1 u.2.2 mac mnx mse msd mki mof mpu mno mrw mrt mtx mro mso msf msc mik mkt) (va_A (wM cI cZ m0 m1 m2 m3 m4 m5 m6 m7 m8 m9 m10 m11 m12 m13 mwo mth mrn mrm mln mat mfa mac mnx mse msd mki mof mpu mno mrw mrt mtx mro mso msf msc mik mkt) sz)) 0 0 (va_A (wM cI cZ m0 m1 m2 m3 m4 m5 m6 m7 m8 m9 m10 m11 m12 m13 mwo mth mrn mrm mln mat mfa mac mnx mse msd mki mof mpu mno mrw mrt mtx mro mso msf msc mik mkt) sz) := by
  refine metW (own := RX6) (by decide +kernel) rfl (Nat.le_of_ble_eq_true rfl) ?_
  intro p e s m below meth c ls A X hA hP hK hD hl
  have hS : va_S A s.heap s.heap [] := va_S.rf
  have hl : lv_has ls 4 [(0, .ref m0), (1, .int v1), (2, .int v2)] := hl
  unfold f6_figure at hE
  refine lv_aload_n X.1.1 X.1.2.1 dX6_figure_0 rfl (lv_at hl 0 rfl) ?_
  refine gf6_60 X hK hP 0 rfl rfl dX6_figure_1 ?_
  refine lv_bipush (v := (iI (-9))) X.1.1 X.1.2.1 dX6_figure_4 (by decide) ?_
  refine lv_icmp_ne (tgt := 35) X.1.1 X.1.2.1 dX6_figure_6 (by decide) (fun c_6 => ?_) (fun c_6 => ?_)
  · have hE := ite_f hE c_6
    refine lv_bipush (v := (iI (-9))) X.1.1 X.1.2.1 dX6_figure_35 (by decide) ?_
    refine lv_istore_n (lv' := [(3, .int (iI (-9))), (0, .ref m0), (1, .int v1), (2, .int v2)]) X.1.1 X.1.2.1 dX6_figure_37 rfl hl (by decide) rfl (fun ls hl => ?_)
    refine lv_iload_n X.1.1 X.1.2.1 dX6_figure_38 rfl (lv_at hl 0 rfl) ?_
    refine lv_i2l (v := (iI (-9)).toInt64) X.1.1 X.1.2.1 dX6_figure_39 rfl ?_
    refine lv_iload_n X.1.1 X.1.2.1 dX6_figure_40 rfl (lv_at hl 2 rfl) ?_
    refine lv_i2l (v := v1.toInt64) X.1.1 X.1.2.1 dX6_figure_41 rfl ?_
    refine lv_iload_n X.1.1 X.1.2.1 dX6_figure_42 rfl (lv_at hl 3 rfl) ?_
    refine lv_i2l (v := v2.toInt64) X.1.1 X.1.2.1 dX6_figure_43 rfl ?_
    obtain ⟨u1001, e_u1001, hE⟩ := bd_some hE
    refine callRS (wsC := []) (As := [.long ((iI (-9)).toInt64), .long (v1.toInt64), .long (v2.toInt64)]) (rest := []) (cI := cI) (cZ := cZ) X (c6_in (l := l) (G := G) (cI := cI) (cZ := cZ) e_u1001) o6_in tw663 ⟨rfl, rfl, Nat.le_of_ble_eq_true rfl, Nat.le_of_ble_eq_true rfl⟩ va_P_nil hK rfl hl rfl (by decide) ⟨Nat.le_refl _, Nat.le_refl _⟩ dX6_figure_44 ?_
    refine lv_if_ne (tgt := 76) X.1.1 X.1.2.1 dX6_figure_47 (by decide) (fun c_47 => ?_) (fun c_47 => ?_)
    · have hE := ite_f hE c_47
      refine lv_aload_n X.1.1 X.1.2.1 dX6_figure_76 rfl (lv_at hl 1 rfl) ?_
      refine lv_dup X.1.1 X.1.2.1 dX6_figure_77 rfl ?_
      refine gf6_63 X hK hP 0 rfl rfl dX6_figure_78 ?_
      refine lv_iconst (v := (iI 1)) X.1.1 X.1.2.1 dX6_figure_81 rfl ?_
      refine lv_iadd X.1.1 X.1.2.1 dX6_figure_82 ?_
      refine pf6_63 (ws2 := (wM cI cZ m0 m1 m2 m3 m4 m5 m6 m7 m8 m9 m10 m11 m12 m13 mwo mth mrn mrm mln (mat + (iI 1)) mfa mac mnx mse msd mki mof mpu mno mrw mrt mtx mro mso msf msc mik mkt)) X hK hP hD hS 0 rfl (Nat.le_of_ble_eq_true rfl) rfl dX6_figure_83 (fun H locs hP hD hS => ?_)
      refine lv_iload_n X.1.1 X.1.2.1 dX6_figure_86 rfl (lv_at hl 0 rfl) ?_
      cases hE
      exact retW X hP hS dX6_figure_87
    · have hE := ite_t hE c_47
      refine lv_aload_n X.1.1 X.1.2.1 dX6_figure_50 rfl (lv_at hl 1 rfl) ?_
      refine lv_aload_n X.1.1 X.1.2.1 dX6_figure_51 rfl (lv_at hl 1 rfl) ?_
      refine gf6_60 X hK hP 0 rfl rfl dX6_figure_52 ?_
      refine lv_bipush (v := (iI (-9))) X.1.1 X.1.2.1 dX6_figure_55 (by decide) ?_
      refine lv_icmp_ne (tgt := 67) X.1.1 X.1.2.1 dX6_figure_57 (by decide) (fun c_57 => ?_) (fun c_57 => ?_)
      · have hE := ite_f hE c_57
        refine lv_aload_n X.1.1 X.1.2.1 dX6_figure_67 rfl (lv_at hl 1 rfl) ?_
        refine gf6_60 X hK hP 0 rfl rfl dX6_figure_68 ?_
        refine pf6_60 (ws2 := (wM cI cZ m0 m1 m2 m3 m4 m5 m6 m7 m8 m9 m10 m11 m12 m13 mwo mth mrn mrm mln mat mfa mac mnx mse msd mki mof mpu mno mrw mrt mtx mro mso msf msc mik mkt)) X hK hP hD hS 0 rfl (Nat.le_of_ble_eq_true rfl) rfl dX6_figure_71 (fun H locs hP hD hS => ?_)
        refine lv_iload_n X.1.1 X.1.2.1 dX6_figure_74 rfl (lv_at hl 2 rfl) ?_
        cases hE
        exact retW X hP hS dX6_figure_75
      · have hE := ite_t hE c_57
        refine lv_aload_n X.1.1 X.1.2.1 dX6_figure_60 rfl (lv_at hl 1 rfl) ?_
        refine gf6_63 X hK hP 0 rfl rfl dX6_figure_61 ?_
        refine lv_goto (tgt := 71) X.1.1 X.1.2.1 dX6_figure_64 (by decide) ?_
        refine pf6_60 (ws2 := (wM cI cZ m0 m1 m2 m3 m4 m5 m6 m7 m8 m9 m10 m11 m12 m13 mwo mth mrn mrm mln mat mat mac mnx mse msd mki mof mpu mno mrw mrt mtx mro mso msf msc mik mkt)) X hK hP hD hS 0 rfl (Nat.le_of_ble_eq_true rfl) rfl dX6_figure_71 (fun H locs hP hD hS => ?_)
        refine lv_iload_n X.1.1 X.1.2.1 dX6_figure_74 rfl (lv_at hl 2 rfl) ?_
        cases hE
        exact retW X hP hS dX6_figure_75
  · have hE := ite_t hE c_6
    refine lv_aload_n X.1.1 X.1.2.1 dX6_figure_9 rfl (lv_at hl 0 rfl) ?_
    refine gf6_63 X hK hP 0 rfl rfl dX6_figure_10 ?_
    refine lv_aload_n X.1.1 X.1.2.1 dX6_figure_13 rfl (lv_at hl 0 rfl) ?_
    refine gf6_56 X hK hP 0 rfl rfl dX6_figure_14 ?_
    refine lv_icmp_ge (tgt := 35) X.1.1 X.1.2.1 dX6_figure_17 (by decide) (fun c_17 => ?_) (fun c_17 => ?_)
    · have hE := ite_t hE c_17
      refine lv_bipush (v := (iI (-9))) X.1.1 X.1.2.1 dX6_figure_35 (by decide) ?_
      refine lv_istore_n (lv' := [(3, .int (iI (-9))), (0, .ref m0), (1, .int v1), (2, .int v2)]) X.1.1 X.1.2.1 dX6_figure_37 rfl hl (by decide) rfl (fun ls hl => ?_)
      refine lv_iload_n X.1.1 X.1.2.1 dX6_figure_38 rfl (lv_at hl 0 rfl) ?_
      refine lv_i2l (v := (iI (-9)).toInt64) X.1.1 X.1.2.1 dX6_figure_39 rfl ?_
      refine lv_iload_n X.1.1 X.1.2.1 dX6_figure_40 rfl (lv_at hl 2 rfl) ?_
      refine lv_i2l (v := v1.toInt64) X.1.1 X.1.2.1 dX6_figure_41 rfl ?_
      refine lv_iload_n X.1.1 X.1.2.1 dX6_figure_42 rfl (lv_at hl 3 rfl) ?_
      refine lv_i2l (v := v2.toInt64) X.1.1 X.1.2.1 dX6_figure_43 rfl ?_
      obtain ⟨u1002, e_u1002, hE⟩ := bd_some hE
      refine callRS (wsC := []) (As := [.long ((iI (-9)).toInt64), .long (v1.toInt64), .long (v2.toInt64)]) (rest := []) (cI := cI) (cZ := cZ) X (c6_in (l := l) (G := G) (cI := cI) (cZ := cZ) e_u1002) o6_in tw663 ⟨rfl, rfl, Nat.le_of_ble_eq_true rfl, Nat.le_of_ble_eq_true rfl⟩ va_P_nil hK rfl hl rfl (by decide) ⟨Nat.le_refl _, Nat.le_refl _⟩ dX6_figure_44 ?_
      refine lv_if_ne (tgt := 76) X.1.1 X.1.2.1 dX6_figure_47 (by decide) (fun c_47 => ?_) (fun c_47 => ?_)
      · have hE := ite_f hE c_47
        refine lv_aload_n X.1.1 X.1.2.1 dX6_figure_76 rfl (lv_at hl 1 rfl) ?_
        refine lv_dup X.1.1 X.1.2.1 dX6_figure_77 rfl ?_
        refine gf6_63 X hK hP 0 rfl rfl dX6_figure_78 ?_
        refine lv_iconst (v := (iI 1)) X.1.1 X.1.2.1 dX6_figure_81 rfl ?_
        refine lv_iadd X.1.1 X.1.2.1 dX6_figure_82 ?_
        refine pf6_63 (ws2 := (wM cI cZ m0 m1 m2 m3 m4 m5 m6 m7 m8 m9 m10 m11 m12 m13 mwo mth mrn mrm mln (mat + (iI 1)) mfa mac mnx mse msd mki mof mpu mno mrw mrt mtx mro mso msf msc mik mkt)) X hK hP hD hS 0 rfl (Nat.le_of_ble_eq_true rfl) rfl dX6_figure_83 (fun H locs hP hD hS => ?_)
        refine lv_iload_n X.1.1 X.1.2.1 dX6_figure_86 rfl (lv_at hl 0 rfl) ?_
        cases hE
        exact retW X hP hS dX6_figure_87
      · have hE := ite_t hE c_47
        refine lv_aload_n X.1.1 X.1.2.1 dX6_figure_50 rfl (lv_at hl 1 rfl) ?_
        refine lv_aload_n X.1.1 X.1.2.1 dX6_figure_51 rfl (lv_at hl 1 rfl) ?_
        refine gf6_60 X hK hP 0 rfl rfl dX6_figure_52 ?_
        refine lv_bipush (v := (iI (-9))) X.1.1 X.1.2.1 dX6_figure_55 (by decide) ?_
        refine lv_icmp_ne (tgt := 67) X.1.1 X.1.2.1 dX6_figure_57 (by decide) (fun c_57 => ?_) (fun c_57 => ?_)
        · have hE := ite_f hE c_57
          refine lv_aload_n X.1.1 X.1.2.1 dX6_figure_67 rfl (lv_at hl 1 rfl) ?_
          refine gf6_60 X hK hP 0 rfl rfl dX6_figure_68 ?_
          refine pf6_60 (ws2 := (wM cI cZ m0 m1 m2 m3 m4 m5 m6 m7 m8 m9 m10 m11 m12 m13 mwo mth mrn mrm mln mat mfa mac mnx mse msd mki mof mpu mno mrw mrt mtx mro mso msf msc mik mkt)) X hK hP hD hS 0 rfl (Nat.le_of_ble_eq_true rfl) rfl dX6_figure_71 (fun H locs hP hD hS => ?_)
          refine lv_iload_n X.1.1 X.1.2.1 dX6_figure_74 rfl (lv_at hl 2 rfl) ?_
          cases hE
          exact retW X hP hS dX6_figure_75
        · have hE := ite_t hE c_57
          refine lv_aload_n X.1.1 X.1.2.1 dX6_figure_60 rfl (lv_at hl 1 rfl) ?_
          refine gf6_63 X hK hP 0 rfl rfl dX6_figure_61 ?_
          refine lv_goto (tgt := 71) X.1.1 X.1.2.1 dX6_figure_64 (by decide) ?_
          refine pf6_60 (ws2 := (wM cI cZ m0 m1 m2 m3 m4 m5 m6 m7 m8 m9 m10 m11 m12 m13 mwo mth mrn mrm mln mat mat mac mnx mse msd mki mof mpu mno mrw mrt mtx mro mso msf msc mik mkt)) X hK hP hD hS 0 rfl (Nat.le_of_ble_eq_true rfl) rfl dX6_figure_71 (fun H locs hP hD hS => ?_)
          refine lv_iload_n X.1.1 X.1.2.1 dX6_figure_74 rfl (lv_at hl 2 rfl) ?_
          cases hE
          exact retW X hP hS dX6_figure_75
    · have hE := ite_f hE c_17
      refine lv_aload_n X.1.1 X.1.2.1 dX6_figure_20 rfl (lv_at hl 0 rfl) ?_
      refine gf6_28 X hK hP 0 rfl rfl dX6_figure_21 ?_
      refine lv_aload_n X.1.1 X.1.2.1 dX6_figure_24 rfl (lv_at hl 0 rfl) ?_
      refine gf6_63 X hK hP 0 rfl rfl dX6_figure_25 ?_
      obtain ⟨i_28, hE⟩ := ib_some hE
      refine va_iald X.1.1 X.1.2.1 hK hP 7 0 rfl rfl i_28 dX6_figure_28 ?_
      refine lv_bipush (v := (iI 48)) X.1.1 X.1.2.1 dX6_figure_29 (by decide) ?_
      refine lv_isub X.1.1 X.1.2.1 dX6_figure_31 ?_
      refine lv_goto (tgt := 37) X.1.1 X.1.2.1 dX6_figure_32 (by decide) ?_
      refine lv_istore_n (lv' := [(3, .int ((mtx mat.toNatClampNeg) - (iI 48))), (0, .ref m0), (1, .int v1), (2, .int v2)]) X.1.1 X.1.2.1 dX6_figure_37 rfl hl (by decide) rfl (fun ls hl => ?_)
      refine lv_iload_n X.1.1 X.1.2.1 dX6_figure_38 rfl (lv_at hl 0 rfl) ?_
      refine lv_i2l (v := ((mtx mat.toNatClampNeg) - (iI 48)).toInt64) X.1.1 X.1.2.1 dX6_figure_39 rfl ?_
      refine lv_iload_n X.1.1 X.1.2.1 dX6_figure_40 rfl (lv_at hl 2 rfl) ?_
      refine lv_i2l (v := v1.toInt64) X.1.1 X.1.2.1 dX6_figure_41 rfl ?_
      refine lv_iload_n X.1.1 X.1.2.1 dX6_figure_42 rfl (lv_at hl 3 rfl) ?_
      refine lv_i2l (v := v2.toInt64) X.1.1 X.1.2.1 dX6_figure_43 rfl ?_
      obtain ⟨u1003, e_u1003, hE⟩ := bd_some hE
      refine callRS (wsC := []) (As := [.long (((mtx mat.toNatClampNeg) - (iI 48)).toInt64), .long (v1.toInt64), .long (v2.toInt64)]) (rest := []) (cI := cI) (cZ := cZ) X (c6_in (l := l) (G := G) (cI := cI) (cZ := cZ) e_u1003) o6_in tw663 ⟨rfl, rfl, Nat.le_of_ble_eq_true rfl, Nat.le_of_ble_eq_true rfl⟩ va_P_nil hK rfl hl rfl (by decide) ⟨Nat.le_refl _, Nat.le_refl _⟩ dX6_figure_44 ?_
      refine lv_if_ne (tgt := 76) X.1.1 X.1.2.1 dX6_figure_47 (by decide) (fun c_47 => ?_) (fun c_47 => ?_)
      · have hE := ite_f hE c_47
        refine lv_aload_n X.1.1 X.1.2.1 dX6_figure_76 rfl (lv_at hl 1 rfl) ?_
        refine lv_dup X.1.1 X.1.2.1 dX6_figure_77 rfl ?_
        refine gf6_63 X hK hP 0 rfl rfl dX6_figure_78 ?_
        refine lv_iconst (v := (iI 1)) X.1.1 X.1.2.1 dX6_figure_81 rfl ?_
        refine lv_iadd X.1.1 X.1.2.1 dX6_figure_82 ?_
        refine pf6_63 (ws2 := (wM cI cZ m0 m1 m2 m3 m4 m5 m6 m7 m8 m9 m10 m11 m12 m13 mwo mth mrn mrm mln (mat + (iI 1)) mfa mac mnx mse msd mki mof mpu mno mrw mrt mtx mro mso msf msc mik mkt)) X hK hP hD hS 0 rfl (Nat.le_of_ble_eq_true rfl) rfl dX6_figure_83 (fun H locs hP hD hS => ?_)
        refine lv_iload_n X.1.1 X.1.2.1 dX6_figure_86 rfl (lv_at hl 0 rfl) ?_
        cases hE
        exact retW X hP hS dX6_figure_87
      · have hE := ite_t hE c_47
        refine lv_aload_n X.1.1 X.1.2.1 dX6_figure_50 rfl (lv_at hl 1 rfl) ?_
        refine lv_aload_n X.1.1 X.1.2.1 dX6_figure_51 rfl (lv_at hl 1 rfl) ?_
        refine gf6_60 X hK hP 0 rfl rfl dX6_figure_52 ?_
        refine lv_bipush (v := (iI (-9))) X.1.1 X.1.2.1 dX6_figure_55 (by decide) ?_
        refine lv_icmp_ne (tgt := 67) X.1.1 X.1.2.1 dX6_figure_57 (by decide) (fun c_57 => ?_) (fun c_57 => ?_)
        · have hE := ite_f hE c_57
          refine lv_aload_n X.1.1 X.1.2.1 dX6_figure_67 rfl (lv_at hl 1 rfl) ?_
          refine gf6_60 X hK hP 0 rfl rfl dX6_figure_68 ?_
          refine pf6_60 (ws2 := (wM cI cZ m0 m1 m2 m3 m4 m5 m6 m7 m8 m9 m10 m11 m12 m13 mwo mth mrn mrm mln mat mfa mac mnx mse msd mki mof mpu mno mrw mrt mtx mro mso msf msc mik mkt)) X hK hP hD hS 0 rfl (Nat.le_of_ble_eq_true rfl) rfl dX6_figure_71 (fun H locs hP hD hS => ?_)
          refine lv_iload_n X.1.1 X.1.2.1 dX6_figure_74 rfl (lv_at hl 2 rfl) ?_
          cases hE
          exact retW X hP hS dX6_figure_75
        · have hE := ite_t hE c_57
          refine lv_aload_n X.1.1 X.1.2.1 dX6_figure_60 rfl (lv_at hl 1 rfl) ?_
          refine gf6_63 X hK hP 0 rfl rfl dX6_figure_61 ?_
          refine lv_goto (tgt := 71) X.1.1 X.1.2.1 dX6_figure_64 (by decide) ?_
          refine pf6_60 (ws2 := (wM cI cZ m0 m1 m2 m3 m4 m5 m6 m7 m8 m9 m10 m11 m12 m13 mwo mth mrn mrm mln mat mat mac mnx mse msd mki mof mpu mno mrw mrt mtx mro mso msf msc mik mkt)) X hK hP hD hS 0 rfl (Nat.le_of_ble_eq_true rfl) rfl dX6_figure_71 (fun H locs hP hD hS => ?_)
          refine lv_iload_n X.1.1 X.1.2.1 dX6_figure_74 rfl (lv_at hl 2 rfl) ?_
          cases hE
          exact retW X hP hS dX6_figure_75
theorem o6_readText : oV yX6_readText RX6 cX6_readText 1 (some .int) 0 := ⟨tw677, tw676, tw16, tw45, ⟨by decide +kernel, by decide +kernel⟩, by decide +kernel⟩
abbrev rm6_readText : Room := { frames := 2, cells := 0, slots := 0, locals := 48 }
set_option maxHeartbeats 4000000 in
set_option maxRecDepth 100000 in
theorem c6_readText {l : Launch} {G : va_G} {cI cZ : ClassId} {m0 m1 m2 m3 m4 m5 m6 m7 m8 m9 m10 m11 m12 m13 : Nat} {mwo : Int32} {mth : Int32} {mrn : Int32} {mrm : Int32} {mln : Int32} {mat : Int32} {mfa : Int32} {mac : Int32} {mnx : Int32} {mse : Int32} {msd : Int64} {mki : Nat → Int32} {mof : Nat → Int32} {mpu : Nat → Int32} {mno : Nat → Int32} {mrw : Nat → Int32} {mrt : Nat → Int32} {mtx : Nat → Int32} {mro : Nat → Int32} {mso : Nat → Int32} {msf : Nat → Int32} {msc : Nat → Int32} {mik : Nat → Int32} {mkt : Nat → Int32} {sz : Nat} {u : Int32 × Int32 × Int32 × Int32 × Int32 × (Nat → Int32) × (Nat → Int32)} (hE : f6_readText mrn mrm mln mat mfa mrw mrt mtx = some u) : Met l yX6_readText (Cond.code yX6_readText cX6_readText 1 (some .int) :: TB) rm6_readText (PcW G cI cZ (wM cI cZ m0 m1 m2 m3 m4 m5 m6 m7 m8 m9 m10 m11 m12 m13 mwo mth mrn mrm mln mat mfa mac mnx mse msd mki mof mpu mno mrw mrt mtx mro mso msf msc mik mkt) sz ([.ref m0] : List Value)) (QW G (some (.int u.1)) (wM cI cZ m0 m1 m2 m3 m4 m5 m6 m7 m8 m9 m10 m11 m12 m13 mwo mth u.2.1 u.2.2.1 mln u.2.2.2.1 u.2.2.2.2.1 mac mnx mse msd mki mof mpu mno u.2.2.2.2.2.1 u.2.2.2.2.2.2 mtx mro mso msf msc mik mkt) (va_A (wM cI cZ m0 m1 m2 m3 m4 m5 m6 m7 m8 m9 m10 m11 m12 m13 mwo mth mrn mrm mln mat mfa mac mnx mse msd mki mof mpu mno mrw mrt mtx mro mso msf msc mik mkt) sz)) 0 0 (va_A (wM cI cZ m0 m1 m2 m3 m4 m5 m6 m7 m8 m9 m10 m11 m12 m13 mwo mth mrn mrm mln mat mfa mac mnx mse msd mki mof mpu mno mrw mrt mtx mro mso msf msc mik mkt) sz) := by
  refine metW (own := RX6) (by decide +kernel) rfl (Nat.le_of_ble_eq_true rfl) ?_
  intro p e s m below meth c ls A X hA hP hK hD hl
  have hS : va_S A s.heap s.heap [] := va_S.rf
  have hl : lv_has ls 1 [(0, .ref m0)] := hl
  unfold f6_readText at hE
  refine lv_aload_n X.1.1 X.1.2.1 dX6_readText_0 rfl (lv_at hl 0 rfl) ?_
  refine lv_iconst (v := (iI 0)) X.1.1 X.1.2.1 dX6_readText_1 rfl ?_
  refine pf6_63 (ws2 := (wM cI cZ m0 m1 m2 m3 m4 m5 m6 m7 m8 m9 m10 m11 m12 m13 mwo mth mrn mrm mln (iI 0) mfa mac mnx mse msd mki mof mpu mno mrw mrt mtx mro mso msf msc mik mkt)) X hK hP hD hS 0 rfl (Nat.le_of_ble_eq_true rfl) rfl dX6_readText_2 (fun H locs hP hD hS => ?_)
  refine lv_aload_n X.1.1 X.1.2.1 dX6_readText_5 rfl (lv_at hl 0 rfl) ?_
  refine lv_bipush (v := (iI (-9))) X.1.1 X.1.2.1 dX6_readText_6 (by decide) ?_
  refine pf6_60 (ws2 := (wM cI cZ m0 m1 m2 m3 m4 m5 m6 m7 m8 m9 m10 m11 m12 m13 mwo mth mrn mrm mln (iI 0) (iI (-9)) mac mnx mse msd mki mof mpu mno mrw mrt mtx mro mso msf msc mik mkt)) X hK hP hD hS 0 rfl (Nat.le_of_ble_eq_true rfl) rfl dX6_readText_8 (fun H locs hP hD hS => ?_)
  refine lv_aload_n X.1.1 X.1.2.1 dX6_readText_11 rfl (lv_at hl 0 rfl) ?_
  refine lv_iconst (v := (iI 0)) X.1.1 X.1.2.1 dX6_readText_12 rfl ?_
  refine pf6_66 (ws2 := (wM cI cZ m0 m1 m2 m3 m4 m5 m6 m7 m8 m9 m10 m11 m12 m13 mwo mth (iI 0) mrm mln (iI 0) (iI (-9)) mac mnx mse msd mki mof mpu mno mrw mrt mtx mro mso msf msc mik mkt)) X hK hP hD hS 0 rfl (Nat.le_of_ble_eq_true rfl) rfl dX6_readText_13 (fun H locs hP hD hS => ?_)
  refine lv_aload_n X.1.1 X.1.2.1 dX6_readText_16 rfl (lv_at hl 0 rfl) ?_
  refine lv_iconst (v := (iI 0)) X.1.1 X.1.2.1 dX6_readText_17 rfl ?_
  refine pf6_69 (ws2 := (wM cI cZ m0 m1 m2 m3 m4 m5 m6 m7 m8 m9 m10 m11 m12 m13 mwo mth (iI 0) (iI 0) mln (iI 0) (iI (-9)) mac mnx mse msd mki mof mpu mno mrw mrt mtx mro mso msf msc mik mkt)) X hK hP hD hS 0 rfl (Nat.le_of_ble_eq_true rfl) rfl dX6_readText_18 (fun H locs hP hD hS => ?_)
  refine lv_aload_n X.1.1 X.1.2.1 dX6_readText_21 rfl (lv_at hl 0 rfl) ?_
  refine gf6_56 X hK hP 0 rfl rfl dX6_readText_22 ?_
  refine lv_if_eq (tgt := 39) X.1.1 X.1.2.1 dX6_readText_25 (by decide) (fun c_25 => ?_) (fun c_25 => ?_)
  · have hE := ite_t hE c_25
    refine lv_iconst (v := (iI 0)) X.1.1 X.1.2.1 dX6_readText_39 rfl ?_
    cases hE
    exact retW X hP hS dX6_readText_40
  · have hE := ite_f hE c_25
    refine lv_aload_n X.1.1 X.1.2.1 dX6_readText_28 rfl (lv_at hl 0 rfl) ?_
    refine gf6_28 X hK hP 0 rfl rfl dX6_readText_29 ?_
    refine lv_iconst (v := (iI 0)) X.1.1 X.1.2.1 dX6_readText_32 rfl ?_
    refine va_iald X.1.1 X.1.2.1 hK hP 7 0 rfl rfl (vin (by decide)) dX6_readText_33 ?_
    refine lv_bipush (v := (iI 68)) X.1.1 X.1.2.1 dX6_readText_34 (by decide) ?_
    refine lv_icmp_eq (tgt := 41) X.1.1 X.1.2.1 dX6_readText_36 (by decide) (fun c_36 => ?_) (fun c_36 => ?_)
    · have hE := ite_t hE c_36
      refine lv_aload_n X.1.1 X.1.2.1 dX6_readText_41 rfl (lv_at hl 0 rfl) ?_
      refine lv_iconst (v := (iI 1)) X.1.1 X.1.2.1 dX6_readText_42 rfl ?_
      refine pf6_63 (ws2 := (wM cI cZ m0 m1 m2 m3 m4 m5 m6 m7 m8 m9 m10 m11 m12 m13 mwo mth (iI 0) (iI 0) mln (iI 1) (iI (-9)) mac mnx mse msd mki mof mpu mno mrw mrt mtx mro mso msf msc mik mkt)) X hK hP hD hS 0 rfl (Nat.le_of_ble_eq_true rfl) rfl dX6_readText_43 (fun H locs hP hD hS => ?_)
      refine lv_aload_n X.1.1 X.1.2.1 dX6_readText_46 rfl (lv_at hl 0 rfl) ?_
      refine lv_iconst (v := (iI 0)) X.1.1 X.1.2.1 dX6_readText_47 rfl ?_
      refine lv_bipush (v := (iI 9)) X.1.1 X.1.2.1 dX6_readText_48 (by decide) ?_
      obtain ⟨u1001, e_u1001, hE⟩ := bd_some hE
      refine callWF (ws := (wM cI cZ m0 m1 m2 m3 m4 m5 m6 m7 m8 m9 m10 m11 m12 m13 mwo mth (iI 0) (iI 0) mln (iI 1) (iI (-9)) mac mnx mse msd mki mof mpu mno mrw mrt mtx mro mso msf msc mik mkt)) (ws' := (wM cI cZ m0 m1 m2 m3 m4 m5 m6 m7 m8 m9 m10 m11 m12 m13 mwo mth (iI 0) (iI 0) mln u1001.2.1 u1001.2.2 mac mnx mse msd mki mof mpu mno mrw mrt mtx mro mso msf msc mik mkt)) (As := [.int (iI 0), .int (iI 9)]) (rest := []) (ov := (some (.int u1001.1))) (st1 := [.int u1001.1]) (ci := 6) X (c6_figure (l := l) e_u1001) o6_figure tw678 ⟨rfl, rfl, Nat.le_of_ble_eq_true rfl, Nat.le_of_ble_eq_true rfl⟩ hP hK hD hS hA (wM_fst.trans wM_fst.symm) 0 rfl rfl rfl rfl hl rfl (by decide) ⟨Nat.le_refl _, Nat.le_refl _⟩ rfl dX6_readText_50 (fun H locs hP hD hS => ?_)
      refine lv_pop X.1.1 X.1.2.1 dX6_readText_53 rfl ?_
      refine lv_aload_n X.1.1 X.1.2.1 dX6_readText_54 rfl (lv_at hl 0 rfl) ?_
      refine lv_iconst (v := (iI 0)) X.1.1 X.1.2.1 dX6_readText_55 rfl ?_
      refine lv_bipush (v := (iI 9)) X.1.1 X.1.2.1 dX6_readText_56 (by decide) ?_
      obtain ⟨u1002, e_u1002, hE⟩ := bd_some hE
      refine callWF (ws := (wM cI cZ m0 m1 m2 m3 m4 m5 m6 m7 m8 m9 m10 m11 m12 m13 mwo mth (iI 0) (iI 0) mln u1001.2.1 u1001.2.2 mac mnx mse msd mki mof mpu mno mrw mrt mtx mro mso msf msc mik mkt)) (ws' := (wM cI cZ m0 m1 m2 m3 m4 m5 m6 m7 m8 m9 m10 m11 m12 m13 mwo mth (iI 0) (iI 0) mln u1002.2.1 u1002.2.2 mac mnx mse msd mki mof mpu mno mrw mrt mtx mro mso msf msc mik mkt)) (As := [.int (iI 0), .int (iI 9)]) (rest := []) (ov := (some (.int u1002.1))) (st1 := [.int u1002.1]) (ci := 6) X (c6_figure (l := l) e_u1002) o6_figure tw678 ⟨rfl, rfl, Nat.le_of_ble_eq_true rfl, Nat.le_of_ble_eq_true rfl⟩ hP hK hD hS hA (wM_fst.trans wM_fst.symm) 0 rfl rfl rfl rfl hl rfl (by decide) ⟨Nat.le_refl _, Nat.le_refl _⟩ rfl dX6_readText_58 (fun H locs hP hD hS => ?_)
      refine lv_pop X.1.1 X.1.2.1 dX6_readText_61 rfl ?_
      have lp62 : ∀ (k : Int32 → Int32 → Int32 → Int32 → (Nat → Int32) → (Nat → Int32) → Option (Int32 × Int32 × Int32 × Int32 × Int32 × (Nat → Int32) × (Nat → Int32))), (∀ (mrn_1003 : Int32) (mrm_1003 : Int32) (mat_1003 : Int32) (mfa_1003 : Int32) (mrw_1003 : Nat → Int32) (mrt_1003 : Nat → Int32) (H : Heap) (locs : List Loc) (ls : Array Slot), va_P G vwCl (wM cI cZ m0 m1 m2 m3 m4 m5 m6 m7 m8 m9 m10 m11 m12 m13 mwo mth mrn_1003 mrm_1003 mln mat_1003 mfa_1003 mac mnx mse msd mki mof mpu mno mrw_1003 mrt_1003 mtx mro mso msf msc mik mkt) H → va_D A (wM cI cZ m0 m1 m2 m3 m4 m5 m6 m7 m8 m9 m10 m11 m12 m13 mwo mth mrn_1003 mrm_1003 mln mat_1003 mfa_1003 mac mnx mse msd mki mof mpu mno mrw_1003 mrt_1003 mtx mro mso msf msc mik mkt) → va_S A s.heap H locs → lv_has ls 1 [(0, .ref m0)] → k mrn_1003 mrm_1003 mat_1003 mfa_1003 mrw_1003 mrt_1003 = some u → W p l e rm6_readText s m ([.ref m0] : List Value).toArray below meth c H locs 0 0 (MQ below (QW G (some (.int u.1)) (wM cI cZ m0 m1 m2 m3 m4 m5 m6 m7 m8 m9 m10 m11 m12 m13 mwo mth u.2.1 u.2.2.1 mln u.2.2.2.1 u.2.2.2.2.1 mac mnx mse msd mki mof mpu mno u.2.2.2.2.2.1 u.2.2.2.2.2.2 mtx mro mso msf msc mik mkt) A) ([.ref m0] : List Value).toArray s 0 0 A) (F0 m 258 ls [])) → ∀ (n : Nat) (mrn_1003 : Int32) (mrm_1003 : Int32) (mat_1003 : Int32) (mfa_1003 : Int32) (mrw_1003 : Nat → Int32) (mrt_1003 : Nat → Int32) (H : Heap) (locs : List Loc) (ls : Array Slot), va_P G vwCl (wM cI cZ m0 m1 m2 m3 m4 m5 m6 m7 m8 m9 m10 m11 m12 m13 mwo mth mrn_1003 mrm_1003 mln mat_1003 mfa_1003 mac mnx mse msd mki mof mpu mno mrw_1003 mrt_1003 mtx mro mso msf msc mik mkt) H → va_D A (wM cI cZ m0 m1 m2 m3 m4 m5 m6 m7 m8 m9 m10 m11 m12 m13 mwo mth mrn_1003 mrm_1003 mln mat_1003 mfa_1003 mac mnx mse msd mki mof mpu mno mrw_1003 mrt_1003 mtx mro mso msf msc mik mkt) → va_S A s.heap H locs → lv_has ls 1 [(0, .ref m0)] → l6_readText_62 k mln mtx n mrn_1003 mrm_1003 mat_1003 mfa_1003 mrw_1003 mrt_1003 = some u → W p l e rm6_readText s m ([.ref m0] : List Value).toArray below meth c H locs 0 0 (MQ below (QW G (some (.int u.1)) (wM cI cZ m0 m1 m2 m3 m4 m5 m6 m7 m8 m9 m10 m11 m12 m13 mwo mth u.2.1 u.2.2.1 mln u.2.2.2.1 u.2.2.2.2.1 mac mnx mse msd mki mof mpu mno u.2.2.2.2.2.1 u.2.2.2.2.2.2 mtx mro mso msf msc mik mkt) A) ([.ref m0] : List Value).toArray s 0 0 A) (F0 m 62 ls []) := by
        intro k hex n
        induction n with
        | zero =>
          intro mrn_1003 mrm_1003 mat_1003 mfa_1003 mrw_1003 mrt_1003 H locs ls hP hD hS hl hE
          exact absurd (show (none : Option (Int32 × Int32 × Int32 × Int32 × Int32 × (Nat → Int32) × (Nat → Int32))) = some u from hE) (fun h => by cases h)
        | succ n ih =>
          intro mrn_1003 mrm_1003 mat_1003 mfa_1003 mrw_1003 mrt_1003 H locs ls hP hD hS hl hE
          rw [l6_readText_62] at hE
          refine lv_aload_n X.1.1 X.1.2.1 dX6_readText_62 rfl (lv_at hl 0 rfl) ?_
          refine gf6_60 X hK hP 0 rfl rfl dX6_readText_63 ?_
          refine lv_bipush (v := (iI (-9))) X.1.1 X.1.2.1 dX6_readText_66 (by decide) ?_
          refine lv_icmp_ne (tgt := 258) X.1.1 X.1.2.1 dX6_readText_68 (by decide) (fun c_68 => ?_) (fun c_68 => ?_)
          · have hE := ite_f hE c_68
            exact hex mrn_1003 mrm_1003 mat_1003 mfa_1003 mrw_1003 mrt_1003 H locs ls hP hD hS (lv_sub hl [0] rfl) hE
          · have hE := ite_t hE c_68
            refine lv_aload_n X.1.1 X.1.2.1 dX6_readText_71 rfl (lv_at hl 0 rfl) ?_
            refine gf6_63 X hK hP 0 rfl rfl dX6_readText_72 ?_
            refine lv_aload_n X.1.1 X.1.2.1 dX6_readText_75 rfl (lv_at hl 0 rfl) ?_
            refine gf6_56 X hK hP 0 rfl rfl dX6_readText_76 ?_
            refine lv_icmp_ge (tgt := 258) X.1.1 X.1.2.1 dX6_readText_79 (by decide) (fun c_79 => ?_) (fun c_79 => ?_)
            · have hE := ite_t hE c_79
              exact hex mrn_1003 mrm_1003 mat_1003 mfa_1003 mrw_1003 mrt_1003 H locs ls hP hD hS (lv_sub hl [0] rfl) hE
            · have hE := ite_f hE c_79
              refine lv_aload_n X.1.1 X.1.2.1 dX6_readText_82 rfl (lv_at hl 0 rfl) ?_
              refine gf6_28 X hK hP 0 rfl rfl dX6_readText_83 ?_
              refine lv_aload_n X.1.1 X.1.2.1 dX6_readText_86 rfl (lv_at hl 0 rfl) ?_
              refine gf6_63 X hK hP 0 rfl rfl dX6_readText_87 ?_
              obtain ⟨i_90, hE⟩ := ib_some hE
              refine va_iald X.1.1 X.1.2.1 hK hP 7 0 rfl rfl i_90 dX6_readText_90 ?_
              refine lv_bipush (v := (iI 87)) X.1.1 X.1.2.1 dX6_readText_91 (by decide) ?_
              refine lv_icmp_ne (tgt := 164) X.1.1 X.1.2.1 dX6_readText_93 (by decide) (fun c_93 => ?_) (fun c_93 => ?_)
              · have hE := ite_f hE c_93
                refine lv_aload_n X.1.1 X.1.2.1 dX6_readText_164 rfl (lv_at hl 0 rfl) ?_
                refine gf6_28 X hK hP 0 rfl rfl dX6_readText_165 ?_
                refine lv_aload_n X.1.1 X.1.2.1 dX6_readText_168 rfl (lv_at hl 0 rfl) ?_
                refine gf6_63 X hK hP 0 rfl rfl dX6_readText_169 ?_
                obtain ⟨i_172, hE⟩ := ib_some hE
                refine va_iald X.1.1 X.1.2.1 hK hP 7 0 rfl rfl i_172 dX6_readText_172 ?_
                refine lv_bipush (v := (iI 84)) X.1.1 X.1.2.1 dX6_readText_173 (by decide) ?_
                refine lv_icmp_ne (tgt := 247) X.1.1 X.1.2.1 dX6_readText_175 (by decide) (fun c_175 => ?_) (fun c_175 => ?_)
                · have hE := ite_f hE c_175
                  refine lv_aload_n X.1.1 X.1.2.1 dX6_readText_247 rfl (lv_at hl 0 rfl) ?_
                  refine lv_aload_n X.1.1 X.1.2.1 dX6_readText_248 rfl (lv_at hl 0 rfl) ?_
                  refine gf6_63 X hK hP 0 rfl rfl dX6_readText_249 ?_
                  refine pf6_60 (ws2 := (wM cI cZ m0 m1 m2 m3 m4 m5 m6 m7 m8 m9 m10 m11 m12 m13 mwo mth mrn_1003 mrm_1003 mln mat_1003 mat_1003 mac mnx mse msd mki mof mpu mno mrw_1003 mrt_1003 mtx mro mso msf msc mik mkt)) X hK hP hD hS 0 rfl (Nat.le_of_ble_eq_true rfl) rfl dX6_readText_252 (fun H locs hP hD hS => ?_)
                  refine lv_goto (tgt := 62) X.1.1 X.1.2.1 dX6_readText_255 (by decide) ?_
                  exact ih mrn_1003 mrm_1003 mat_1003 mat_1003 mrw_1003 mrt_1003 H locs ls hP hD hS (lv_sub hl [0] rfl) hE
                · have hE := ite_t hE c_175
                  refine lv_aload_n X.1.1 X.1.2.1 dX6_readText_178 rfl (lv_at hl 0 rfl) ?_
                  refine gf6_69 X hK hP 0 rfl rfl dX6_readText_179 ?_
                  refine lv_iconst (v := (iI 4)) X.1.1 X.1.2.1 dX6_readText_182 rfl ?_
                  refine lv_icmp_ge (tgt := 247) X.1.1 X.1.2.1 dX6_readText_183 (by decide) (fun c_183 => ?_) (fun c_183 => ?_)
                  · have hE := ite_t hE c_183
                    refine lv_aload_n X.1.1 X.1.2.1 dX6_readText_247 rfl (lv_at hl 0 rfl) ?_
                    refine lv_aload_n X.1.1 X.1.2.1 dX6_readText_248 rfl (lv_at hl 0 rfl) ?_
                    refine gf6_63 X hK hP 0 rfl rfl dX6_readText_249 ?_
                    refine pf6_60 (ws2 := (wM cI cZ m0 m1 m2 m3 m4 m5 m6 m7 m8 m9 m10 m11 m12 m13 mwo mth mrn_1003 mrm_1003 mln mat_1003 mat_1003 mac mnx mse msd mki mof mpu mno mrw_1003 mrt_1003 mtx mro mso msf msc mik mkt)) X hK hP hD hS 0 rfl (Nat.le_of_ble_eq_true rfl) rfl dX6_readText_252 (fun H locs hP hD hS => ?_)
                    refine lv_goto (tgt := 62) X.1.1 X.1.2.1 dX6_readText_255 (by decide) ?_
                    exact ih mrn_1003 mrm_1003 mat_1003 mat_1003 mrw_1003 mrt_1003 H locs ls hP hD hS (lv_sub hl [0] rfl) hE
                  · have hE := ite_f hE c_183
                    refine lv_aload_n X.1.1 X.1.2.1 dX6_readText_186 rfl (lv_at hl 0 rfl) ?_
                    refine lv_dup X.1.1 X.1.2.1 dX6_readText_187 rfl ?_
                    refine gf6_63 X hK hP 0 rfl rfl dX6_readText_188 ?_
                    refine lv_iconst (v := (iI 1)) X.1.1 X.1.2.1 dX6_readText_191 rfl ?_
                    refine lv_iadd X.1.1 X.1.2.1 dX6_readText_192 ?_
                    refine pf6_63 (ws2 := (wM cI cZ m0 m1 m2 m3 m4 m5 m6 m7 m8 m9 m10 m11 m12 m13 mwo mth mrn_1003 mrm_1003 mln (mat_1003 + (iI 1)) mfa_1003 mac mnx mse msd mki mof mpu mno mrw_1003 mrt_1003 mtx mro mso msf msc mik mkt)) X hK hP hD hS 0 rfl (Nat.le_of_ble_eq_true rfl) rfl dX6_readText_193 (fun H locs hP hD hS => ?_)
                    refine lv_aload_n X.1.1 X.1.2.1 dX6_readText_196 rfl (lv_at hl 0 rfl) ?_
                    refine gf6_25 X hK hP 0 rfl rfl dX6_readText_197 ?_
                    refine lv_iconst (v := (iI 2)) X.1.1 X.1.2.1 dX6_readText_200 rfl ?_
                    refine lv_aload_n X.1.1 X.1.2.1 dX6_readText_201 rfl (lv_at hl 0 rfl) ?_
                    refine gf6_69 X hK hP 0 rfl rfl dX6_readText_202 ?_
                    refine lv_imul X.1.1 X.1.2.1 dX6_readText_205 ?_
                    refine lv_aload_n X.1.1 X.1.2.1 dX6_readText_206 rfl (lv_at hl 0 rfl) ?_
                    refine lv_iconst (v := (iI 0)) X.1.1 X.1.2.1 dX6_readText_207 rfl ?_
                    refine lv_bipush (v := (iI 9)) X.1.1 X.1.2.1 dX6_readText_208 (by decide) ?_
                    obtain ⟨u1004, e_u1004, hE⟩ := bd_some hE
                    refine callWF (ws := (wM cI cZ m0 m1 m2 m3 m4 m5 m6 m7 m8 m9 m10 m11 m12 m13 mwo mth mrn_1003 mrm_1003 mln (mat_1003 + (iI 1)) mfa_1003 mac mnx mse msd mki mof mpu mno mrw_1003 mrt_1003 mtx mro mso msf msc mik mkt)) (ws' := (wM cI cZ m0 m1 m2 m3 m4 m5 m6 m7 m8 m9 m10 m11 m12 m13 mwo mth mrn_1003 mrm_1003 mln u1004.2.1 u1004.2.2 mac mnx mse msd mki mof mpu mno mrw_1003 mrt_1003 mtx mro mso msf msc mik mkt)) (As := [.int (iI 0), .int (iI 9)]) (rest := [.int ((iI 2) * mrm_1003), .ref m6]) (ov := (some (.int u1004.1))) (st1 := [.int u1004.1, .int ((iI 2) * mrm_1003), .ref m6]) (ci := 6) X (c6_figure (l := l) e_u1004) o6_figure tw678 ⟨rfl, rfl, Nat.le_of_ble_eq_true rfl, Nat.le_of_ble_eq_true rfl⟩ hP hK hD hS hA (wM_fst.trans wM_fst.symm) 0 rfl rfl rfl rfl hl rfl (Nat.le_of_ble_eq_true rfl) ⟨Nat.le_refl _, Nat.le_refl _⟩ rfl dX6_readText_210 (fun H locs hP hD hS => ?_)
                    obtain ⟨i_213, hE⟩ := ib_some hE
                    refine astI (t0 := 0) (ws' := (wM cI cZ m0 m1 m2 m3 m4 m5 m6 m7 m8 m9 m10 m11 m12 m13 mwo mth mrn_1003 mrm_1003 mln u1004.2.1 u1004.2.2 mac mnx mse msd mki mof mpu mno mrw_1003 (upd mrt_1003 ((iI 2) * mrm_1003).toNatClampNeg u1004.1) mtx mro mso msf msc mik mkt)) X hK hP hD hS 6 0 rfl rfl i_213 rfl dX6_readText_213 (fun H locs hP hD hS => ?_)
                    refine lv_aload_n X.1.1 X.1.2.1 dX6_readText_214 rfl (lv_at hl 0 rfl) ?_
                    refine gf6_25 X hK hP 0 rfl rfl dX6_readText_215 ?_
                    refine lv_iconst (v := (iI 2)) X.1.1 X.1.2.1 dX6_readText_218 rfl ?_
                    refine lv_aload_n X.1.1 X.1.2.1 dX6_readText_219 rfl (lv_at hl 0 rfl) ?_
                    refine gf6_69 X hK hP 0 rfl rfl dX6_readText_220 ?_
                    refine lv_imul X.1.1 X.1.2.1 dX6_readText_223 ?_
                    refine lv_iconst (v := (iI 1)) X.1.1 X.1.2.1 dX6_readText_224 rfl ?_
                    refine lv_iadd X.1.1 X.1.2.1 dX6_readText_225 ?_
                    refine lv_aload_n X.1.1 X.1.2.1 dX6_readText_226 rfl (lv_at hl 0 rfl) ?_
                    refine lv_iconst (v := (iI 1)) X.1.1 X.1.2.1 dX6_readText_227 rfl ?_
                    refine lv_bipush (v := (iI 9)) X.1.1 X.1.2.1 dX6_readText_228 (by decide) ?_
                    obtain ⟨u1005, e_u1005, hE⟩ := bd_some hE
                    refine callWF (ws := (wM cI cZ m0 m1 m2 m3 m4 m5 m6 m7 m8 m9 m10 m11 m12 m13 mwo mth mrn_1003 mrm_1003 mln u1004.2.1 u1004.2.2 mac mnx mse msd mki mof mpu mno mrw_1003 (upd mrt_1003 ((iI 2) * mrm_1003).toNatClampNeg u1004.1) mtx mro mso msf msc mik mkt)) (ws' := (wM cI cZ m0 m1 m2 m3 m4 m5 m6 m7 m8 m9 m10 m11 m12 m13 mwo mth mrn_1003 mrm_1003 mln u1005.2.1 u1005.2.2 mac mnx mse msd mki mof mpu mno mrw_1003 (upd mrt_1003 ((iI 2) * mrm_1003).toNatClampNeg u1004.1) mtx mro mso msf msc mik mkt)) (As := [.int (iI 1), .int (iI 9)]) (rest := [.int (((iI 2) * mrm_1003) + (iI 1)), .ref m6]) (ov := (some (.int u1005.1))) (st1 := [.int u1005.1, .int (((iI 2) * mrm_1003) + (iI 1)), .ref m6]) (ci := 6) X (c6_figure (l := l) e_u1005) o6_figure tw678 ⟨rfl, rfl, Nat.le_of_ble_eq_true rfl, Nat.le_of_ble_eq_true rfl⟩ hP hK hD hS hA (wM_fst.trans wM_fst.symm) 0 rfl rfl rfl rfl hl rfl (Nat.le_of_ble_eq_true rfl) ⟨Nat.le_refl _, Nat.le_refl _⟩ rfl dX6_readText_230 (fun H locs hP hD hS => ?_)
                    obtain ⟨i_233, hE⟩ := ib_some hE
                    refine astI (t0 := 0) (ws' := (wM cI cZ m0 m1 m2 m3 m4 m5 m6 m7 m8 m9 m10 m11 m12 m13 mwo mth mrn_1003 mrm_1003 mln u1005.2.1 u1005.2.2 mac mnx mse msd mki mof mpu mno mrw_1003 (upd (upd mrt_1003 ((iI 2) * mrm_1003).toNatClampNeg u1004.1) (((iI 2) * mrm_1003) + (iI 1)).toNatClampNeg u1005.1) mtx mro mso msf msc mik mkt)) X hK hP hD hS 6 0 rfl rfl i_233 rfl dX6_readText_233 (fun H locs hP hD hS => ?_)
                    refine lv_aload_n X.1.1 X.1.2.1 dX6_readText_234 rfl (lv_at hl 0 rfl) ?_
                    refine lv_dup X.1.1 X.1.2.1 dX6_readText_235 rfl ?_
                    refine gf6_69 X hK hP 0 rfl rfl dX6_readText_236 ?_
                    refine lv_iconst (v := (iI 1)) X.1.1 X.1.2.1 dX6_readText_239 rfl ?_
                    refine lv_iadd X.1.1 X.1.2.1 dX6_readText_240 ?_
                    refine pf6_69 (ws2 := (wM cI cZ m0 m1 m2 m3 m4 m5 m6 m7 m8 m9 m10 m11 m12 m13 mwo mth mrn_1003 (mrm_1003 + (iI 1)) mln u1005.2.1 u1005.2.2 mac mnx mse msd mki mof mpu mno mrw_1003 (upd (upd mrt_1003 ((iI 2) * mrm_1003).toNatClampNeg u1004.1) (((iI 2) * mrm_1003) + (iI 1)).toNatClampNeg u1005.1) mtx mro mso msf msc mik mkt)) X hK hP hD hS 0 rfl (Nat.le_of_ble_eq_true rfl) rfl dX6_readText_241 (fun H locs hP hD hS => ?_)
                    refine lv_goto (tgt := 62) X.1.1 X.1.2.1 dX6_readText_244 (by decide) ?_
                    exact ih mrn_1003 (mrm_1003 + (iI 1)) u1005.2.1 u1005.2.2 mrw_1003 (upd (upd mrt_1003 ((iI 2) * mrm_1003).toNatClampNeg u1004.1) (((iI 2) * mrm_1003) + (iI 1)).toNatClampNeg u1005.1) H locs ls hP hD hS (lv_sub hl [0] rfl) hE
              · have hE := ite_t hE c_93
                refine lv_aload_n X.1.1 X.1.2.1 dX6_readText_96 rfl (lv_at hl 0 rfl) ?_
                refine gf6_66 X hK hP 0 rfl rfl dX6_readText_97 ?_
                refine lv_iconst (v := (iI 4)) X.1.1 X.1.2.1 dX6_readText_100 rfl ?_
                refine lv_icmp_ge (tgt := 164) X.1.1 X.1.2.1 dX6_readText_101 (by decide) (fun c_101 => ?_) (fun c_101 => ?_)
                · have hE := ite_t hE c_101
                  refine lv_aload_n X.1.1 X.1.2.1 dX6_readText_164 rfl (lv_at hl 0 rfl) ?_
                  refine gf6_28 X hK hP 0 rfl rfl dX6_readText_165 ?_
                  refine lv_aload_n X.1.1 X.1.2.1 dX6_readText_168 rfl (lv_at hl 0 rfl) ?_
                  refine gf6_63 X hK hP 0 rfl rfl dX6_readText_169 ?_
                  obtain ⟨i_172, hE⟩ := ib_some hE
                  refine va_iald X.1.1 X.1.2.1 hK hP 7 0 rfl rfl i_172 dX6_readText_172 ?_
                  refine lv_bipush (v := (iI 84)) X.1.1 X.1.2.1 dX6_readText_173 (by decide) ?_
                  refine lv_icmp_ne (tgt := 247) X.1.1 X.1.2.1 dX6_readText_175 (by decide) (fun c_175 => ?_) (fun c_175 => ?_)
                  · have hE := ite_f hE c_175
                    refine lv_aload_n X.1.1 X.1.2.1 dX6_readText_247 rfl (lv_at hl 0 rfl) ?_
                    refine lv_aload_n X.1.1 X.1.2.1 dX6_readText_248 rfl (lv_at hl 0 rfl) ?_
                    refine gf6_63 X hK hP 0 rfl rfl dX6_readText_249 ?_
                    refine pf6_60 (ws2 := (wM cI cZ m0 m1 m2 m3 m4 m5 m6 m7 m8 m9 m10 m11 m12 m13 mwo mth mrn_1003 mrm_1003 mln mat_1003 mat_1003 mac mnx mse msd mki mof mpu mno mrw_1003 mrt_1003 mtx mro mso msf msc mik mkt)) X hK hP hD hS 0 rfl (Nat.le_of_ble_eq_true rfl) rfl dX6_readText_252 (fun H locs hP hD hS => ?_)
                    refine lv_goto (tgt := 62) X.1.1 X.1.2.1 dX6_readText_255 (by decide) ?_
                    exact ih mrn_1003 mrm_1003 mat_1003 mat_1003 mrw_1003 mrt_1003 H locs ls hP hD hS (lv_sub hl [0] rfl) hE
                  · have hE := ite_t hE c_175
                    refine lv_aload_n X.1.1 X.1.2.1 dX6_readText_178 rfl (lv_at hl 0 rfl) ?_
                    refine gf6_69 X hK hP 0 rfl rfl dX6_readText_179 ?_
                    refine lv_iconst (v := (iI 4)) X.1.1 X.1.2.1 dX6_readText_182 rfl ?_
                    refine lv_icmp_ge (tgt := 247) X.1.1 X.1.2.1 dX6_readText_183 (by decide) (fun c_183 => ?_) (fun c_183 => ?_)
                    · have hE := ite_t hE c_183
                      refine lv_aload_n X.1.1 X.1.2.1 dX6_readText_247 rfl (lv_at hl 0 rfl) ?_
                      refine lv_aload_n X.1.1 X.1.2.1 dX6_readText_248 rfl (lv_at hl 0 rfl) ?_
                      refine gf6_63 X hK hP 0 rfl rfl dX6_readText_249 ?_
                      refine pf6_60 (ws2 := (wM cI cZ m0 m1 m2 m3 m4 m5 m6 m7 m8 m9 m10 m11 m12 m13 mwo mth mrn_1003 mrm_1003 mln mat_1003 mat_1003 mac mnx mse msd mki mof mpu mno mrw_1003 mrt_1003 mtx mro mso msf msc mik mkt)) X hK hP hD hS 0 rfl (Nat.le_of_ble_eq_true rfl) rfl dX6_readText_252 (fun H locs hP hD hS => ?_)
                      refine lv_goto (tgt := 62) X.1.1 X.1.2.1 dX6_readText_255 (by decide) ?_
                      exact ih mrn_1003 mrm_1003 mat_1003 mat_1003 mrw_1003 mrt_1003 H locs ls hP hD hS (lv_sub hl [0] rfl) hE
                    · have hE := ite_f hE c_183
                      refine lv_aload_n X.1.1 X.1.2.1 dX6_readText_186 rfl (lv_at hl 0 rfl) ?_
                      refine lv_dup X.1.1 X.1.2.1 dX6_readText_187 rfl ?_
                      refine gf6_63 X hK hP 0 rfl rfl dX6_readText_188 ?_
                      refine lv_iconst (v := (iI 1)) X.1.1 X.1.2.1 dX6_readText_191 rfl ?_
                      refine lv_iadd X.1.1 X.1.2.1 dX6_readText_192 ?_
                      refine pf6_63 (ws2 := (wM cI cZ m0 m1 m2 m3 m4 m5 m6 m7 m8 m9 m10 m11 m12 m13 mwo mth mrn_1003 mrm_1003 mln (mat_1003 + (iI 1)) mfa_1003 mac mnx mse msd mki mof mpu mno mrw_1003 mrt_1003 mtx mro mso msf msc mik mkt)) X hK hP hD hS 0 rfl (Nat.le_of_ble_eq_true rfl) rfl dX6_readText_193 (fun H locs hP hD hS => ?_)
                      refine lv_aload_n X.1.1 X.1.2.1 dX6_readText_196 rfl (lv_at hl 0 rfl) ?_
                      refine gf6_25 X hK hP 0 rfl rfl dX6_readText_197 ?_
                      refine lv_iconst (v := (iI 2)) X.1.1 X.1.2.1 dX6_readText_200 rfl ?_
                      refine lv_aload_n X.1.1 X.1.2.1 dX6_readText_201 rfl (lv_at hl 0 rfl) ?_
                      refine gf6_69 X hK hP 0 rfl rfl dX6_readText_202 ?_
                      refine lv_imul X.1.1 X.1.2.1 dX6_readText_205 ?_
                      refine lv_aload_n X.1.1 X.1.2.1 dX6_readText_206 rfl (lv_at hl 0 rfl) ?_
                      refine lv_iconst (v := (iI 0)) X.1.1 X.1.2.1 dX6_readText_207 rfl ?_
                      refine lv_bipush (v := (iI 9)) X.1.1 X.1.2.1 dX6_readText_208 (by decide) ?_
                      obtain ⟨u1006, e_u1006, hE⟩ := bd_some hE
                      refine callWF (ws := (wM cI cZ m0 m1 m2 m3 m4 m5 m6 m7 m8 m9 m10 m11 m12 m13 mwo mth mrn_1003 mrm_1003 mln (mat_1003 + (iI 1)) mfa_1003 mac mnx mse msd mki mof mpu mno mrw_1003 mrt_1003 mtx mro mso msf msc mik mkt)) (ws' := (wM cI cZ m0 m1 m2 m3 m4 m5 m6 m7 m8 m9 m10 m11 m12 m13 mwo mth mrn_1003 mrm_1003 mln u1006.2.1 u1006.2.2 mac mnx mse msd mki mof mpu mno mrw_1003 mrt_1003 mtx mro mso msf msc mik mkt)) (As := [.int (iI 0), .int (iI 9)]) (rest := [.int ((iI 2) * mrm_1003), .ref m6]) (ov := (some (.int u1006.1))) (st1 := [.int u1006.1, .int ((iI 2) * mrm_1003), .ref m6]) (ci := 6) X (c6_figure (l := l) e_u1006) o6_figure tw678 ⟨rfl, rfl, Nat.le_of_ble_eq_true rfl, Nat.le_of_ble_eq_true rfl⟩ hP hK hD hS hA (wM_fst.trans wM_fst.symm) 0 rfl rfl rfl rfl hl rfl (Nat.le_of_ble_eq_true rfl) ⟨Nat.le_refl _, Nat.le_refl _⟩ rfl dX6_readText_210 (fun H locs hP hD hS => ?_)
                      obtain ⟨i_213, hE⟩ := ib_some hE
                      refine astI (t0 := 0) (ws' := (wM cI cZ m0 m1 m2 m3 m4 m5 m6 m7 m8 m9 m10 m11 m12 m13 mwo mth mrn_1003 mrm_1003 mln u1006.2.1 u1006.2.2 mac mnx mse msd mki mof mpu mno mrw_1003 (upd mrt_1003 ((iI 2) * mrm_1003).toNatClampNeg u1006.1) mtx mro mso msf msc mik mkt)) X hK hP hD hS 6 0 rfl rfl i_213 rfl dX6_readText_213 (fun H locs hP hD hS => ?_)
                      refine lv_aload_n X.1.1 X.1.2.1 dX6_readText_214 rfl (lv_at hl 0 rfl) ?_
                      refine gf6_25 X hK hP 0 rfl rfl dX6_readText_215 ?_
                      refine lv_iconst (v := (iI 2)) X.1.1 X.1.2.1 dX6_readText_218 rfl ?_
                      refine lv_aload_n X.1.1 X.1.2.1 dX6_readText_219 rfl (lv_at hl 0 rfl) ?_
                      refine gf6_69 X hK hP 0 rfl rfl dX6_readText_220 ?_
                      refine lv_imul X.1.1 X.1.2.1 dX6_readText_223 ?_
                      refine lv_iconst (v := (iI 1)) X.1.1 X.1.2.1 dX6_readText_224 rfl ?_
                      refine lv_iadd X.1.1 X.1.2.1 dX6_readText_225 ?_
                      refine lv_aload_n X.1.1 X.1.2.1 dX6_readText_226 rfl (lv_at hl 0 rfl) ?_
                      refine lv_iconst (v := (iI 1)) X.1.1 X.1.2.1 dX6_readText_227 rfl ?_
                      refine lv_bipush (v := (iI 9)) X.1.1 X.1.2.1 dX6_readText_228 (by decide) ?_
                      obtain ⟨u1007, e_u1007, hE⟩ := bd_some hE
                      refine callWF (ws := (wM cI cZ m0 m1 m2 m3 m4 m5 m6 m7 m8 m9 m10 m11 m12 m13 mwo mth mrn_1003 mrm_1003 mln u1006.2.1 u1006.2.2 mac mnx mse msd mki mof mpu mno mrw_1003 (upd mrt_1003 ((iI 2) * mrm_1003).toNatClampNeg u1006.1) mtx mro mso msf msc mik mkt)) (ws' := (wM cI cZ m0 m1 m2 m3 m4 m5 m6 m7 m8 m9 m10 m11 m12 m13 mwo mth mrn_1003 mrm_1003 mln u1007.2.1 u1007.2.2 mac mnx mse msd mki mof mpu mno mrw_1003 (upd mrt_1003 ((iI 2) * mrm_1003).toNatClampNeg u1006.1) mtx mro mso msf msc mik mkt)) (As := [.int (iI 1), .int (iI 9)]) (rest := [.int (((iI 2) * mrm_1003) + (iI 1)), .ref m6]) (ov := (some (.int u1007.1))) (st1 := [.int u1007.1, .int (((iI 2) * mrm_1003) + (iI 1)), .ref m6]) (ci := 6) X (c6_figure (l := l) e_u1007) o6_figure tw678 ⟨rfl, rfl, Nat.le_of_ble_eq_true rfl, Nat.le_of_ble_eq_true rfl⟩ hP hK hD hS hA (wM_fst.trans wM_fst.symm) 0 rfl rfl rfl rfl hl rfl (Nat.le_of_ble_eq_true rfl) ⟨Nat.le_refl _, Nat.le_refl _⟩ rfl dX6_readText_230 (fun H locs hP hD hS => ?_)
                      obtain ⟨i_233, hE⟩ := ib_some hE
                      refine astI (t0 := 0) (ws' := (wM cI cZ m0 m1 m2 m3 m4 m5 m6 m7 m8 m9 m10 m11 m12 m13 mwo mth mrn_1003 mrm_1003 mln u1007.2.1 u1007.2.2 mac mnx mse msd mki mof mpu mno mrw_1003 (upd (upd mrt_1003 ((iI 2) * mrm_1003).toNatClampNeg u1006.1) (((iI 2) * mrm_1003) + (iI 1)).toNatClampNeg u1007.1) mtx mro mso msf msc mik mkt)) X hK hP hD hS 6 0 rfl rfl i_233 rfl dX6_readText_233 (fun H locs hP hD hS => ?_)
                      refine lv_aload_n X.1.1 X.1.2.1 dX6_readText_234 rfl (lv_at hl 0 rfl) ?_
                      refine lv_dup X.1.1 X.1.2.1 dX6_readText_235 rfl ?_
                      refine gf6_69 X hK hP 0 rfl rfl dX6_readText_236 ?_
                      refine lv_iconst (v := (iI 1)) X.1.1 X.1.2.1 dX6_readText_239 rfl ?_
                      refine lv_iadd X.1.1 X.1.2.1 dX6_readText_240 ?_
                      refine pf6_69 (ws2 := (wM cI cZ m0 m1 m2 m3 m4 m5 m6 m7 m8 m9 m10 m11 m12 m13 mwo mth mrn_1003 (mrm_1003 + (iI 1)) mln u1007.2.1 u1007.2.2 mac mnx mse msd mki mof mpu mno mrw_1003 (upd (upd mrt_1003 ((iI 2) * mrm_1003).toNatClampNeg u1006.1) (((iI 2) * mrm_1003) + (iI 1)).toNatClampNeg u1007.1) mtx mro mso msf msc mik mkt)) X hK hP hD hS 0 rfl (Nat.le_of_ble_eq_true rfl) rfl dX6_readText_241 (fun H locs hP hD hS => ?_)
                      refine lv_goto (tgt := 62) X.1.1 X.1.2.1 dX6_readText_244 (by decide) ?_
                      exact ih mrn_1003 (mrm_1003 + (iI 1)) u1007.2.1 u1007.2.2 mrw_1003 (upd (upd mrt_1003 ((iI 2) * mrm_1003).toNatClampNeg u1006.1) (((iI 2) * mrm_1003) + (iI 1)).toNatClampNeg u1007.1) H locs ls hP hD hS (lv_sub hl [0] rfl) hE
                · have hE := ite_f hE c_101
                  refine lv_aload_n X.1.1 X.1.2.1 dX6_readText_104 rfl (lv_at hl 0 rfl) ?_
                  refine lv_dup X.1.1 X.1.2.1 dX6_readText_105 rfl ?_
                  refine gf6_63 X hK hP 0 rfl rfl dX6_readText_106 ?_
                  refine lv_iconst (v := (iI 1)) X.1.1 X.1.2.1 dX6_readText_109 rfl ?_
                  refine lv_iadd X.1.1 X.1.2.1 dX6_readText_110 ?_
                  refine pf6_63 (ws2 := (wM cI cZ m0 m1 m2 m3 m4 m5 m6 m7 m8 m9 m10 m11 m12 m13 mwo mth mrn_1003 mrm_1003 mln (mat_1003 + (iI 1)) mfa_1003 mac mnx mse msd mki mof mpu mno mrw_1003 mrt_1003 mtx mro mso msf msc mik mkt)) X hK hP hD hS 0 rfl (Nat.le_of_ble_eq_true rfl) rfl dX6_readText_111 (fun H locs hP hD hS => ?_)
                  refine lv_aload_n X.1.1 X.1.2.1 dX6_readText_114 rfl (lv_at hl 0 rfl) ?_
                  refine gf6_22 X hK hP 0 rfl rfl dX6_readText_115 ?_
                  refine lv_iconst (v := (iI 2)) X.1.1 X.1.2.1 dX6_readText_118 rfl ?_
                  refine lv_aload_n X.1.1 X.1.2.1 dX6_readText_119 rfl (lv_at hl 0 rfl) ?_
                  refine gf6_66 X hK hP 0 rfl rfl dX6_readText_120 ?_
                  refine lv_imul X.1.1 X.1.2.1 dX6_readText_123 ?_
                  refine lv_aload_n X.1.1 X.1.2.1 dX6_readText_124 rfl (lv_at hl 0 rfl) ?_
                  refine lv_iconst (v := (iI 0)) X.1.1 X.1.2.1 dX6_readText_125 rfl ?_
                  refine lv_bipush (v := (iI 9)) X.1.1 X.1.2.1 dX6_readText_126 (by decide) ?_
                  obtain ⟨u1008, e_u1008, hE⟩ := bd_some hE
                  refine callWF (ws := (wM cI cZ m0 m1 m2 m3 m4 m5 m6 m7 m8 m9 m10 m11 m12 m13 mwo mth mrn_1003 mrm_1003 mln (mat_1003 + (iI 1)) mfa_1003 mac mnx mse msd mki mof mpu mno mrw_1003 mrt_1003 mtx mro mso msf msc mik mkt)) (ws' := (wM cI cZ m0 m1 m2 m3 m4 m5 m6 m7 m8 m9 m10 m11 m12 m13 mwo mth mrn_1003 mrm_1003 mln u1008.2.1 u1008.2.2 mac mnx mse msd mki mof mpu mno mrw_1003 mrt_1003 mtx mro mso msf msc mik mkt)) (As := [.int (iI 0), .int (iI 9)]) (rest := [.int ((iI 2) * mrn_1003), .ref m5]) (ov := (some (.int u1008.1))) (st1 := [.int u1008.1, .int ((iI 2) * mrn_1003), .ref m5]) (ci := 6) X (c6_figure (l := l) e_u1008) o6_figure tw678 ⟨rfl, rfl, Nat.le_of_ble_eq_true rfl, Nat.le_of_ble_eq_true rfl⟩ hP hK hD hS hA (wM_fst.trans wM_fst.symm) 0 rfl rfl rfl rfl hl rfl (Nat.le_of_ble_eq_true rfl) ⟨Nat.le_refl _, Nat.le_refl _⟩ rfl dX6_readText_128 (fun H locs hP hD hS => ?_)
                  obtain ⟨i_131, hE⟩ := ib_some hE
                  refine astI (t0 := 0) (ws' := (wM cI cZ m0 m1 m2 m3 m4 m5 m6 m7 m8 m9 m10 m11 m12 m13 mwo mth mrn_1003 mrm_1003 mln u1008.2.1 u1008.2.2 mac mnx mse msd mki mof mpu mno (upd mrw_1003 ((iI 2) * mrn_1003).toNatClampNeg u1008.1) mrt_1003 mtx mro mso msf msc mik mkt)) X hK hP hD hS 5 0 rfl rfl i_131 rfl dX6_readText_131 (fun H locs hP hD hS => ?_)
                  refine lv_aload_n X.1.1 X.1.2.1 dX6_readText_132 rfl (lv_at hl 0 rfl) ?_
                  refine gf6_22 X hK hP 0 rfl rfl dX6_readText_133 ?_
                  refine lv_iconst (v := (iI 2)) X.1.1 X.1.2.1 dX6_readText_136 rfl ?_
                  refine lv_aload_n X.1.1 X.1.2.1 dX6_readText_137 rfl (lv_at hl 0 rfl) ?_
                  refine gf6_66 X hK hP 0 rfl rfl dX6_readText_138 ?_
                  refine lv_imul X.1.1 X.1.2.1 dX6_readText_141 ?_
                  refine lv_iconst (v := (iI 1)) X.1.1 X.1.2.1 dX6_readText_142 rfl ?_
                  refine lv_iadd X.1.1 X.1.2.1 dX6_readText_143 ?_
                  refine lv_aload_n X.1.1 X.1.2.1 dX6_readText_144 rfl (lv_at hl 0 rfl) ?_
                  refine lv_iconst (v := (iI 0)) X.1.1 X.1.2.1 dX6_readText_145 rfl ?_
                  refine lv_iconst (v := (iI 3)) X.1.1 X.1.2.1 dX6_readText_146 rfl ?_
                  obtain ⟨u1009, e_u1009, hE⟩ := bd_some hE
                  refine callWF (ws := (wM cI cZ m0 m1 m2 m3 m4 m5 m6 m7 m8 m9 m10 m11 m12 m13 mwo mth mrn_1003 mrm_1003 mln u1008.2.1 u1008.2.2 mac mnx mse msd mki mof mpu mno (upd mrw_1003 ((iI 2) * mrn_1003).toNatClampNeg u1008.1) mrt_1003 mtx mro mso msf msc mik mkt)) (ws' := (wM cI cZ m0 m1 m2 m3 m4 m5 m6 m7 m8 m9 m10 m11 m12 m13 mwo mth mrn_1003 mrm_1003 mln u1009.2.1 u1009.2.2 mac mnx mse msd mki mof mpu mno (upd mrw_1003 ((iI 2) * mrn_1003).toNatClampNeg u1008.1) mrt_1003 mtx mro mso msf msc mik mkt)) (As := [.int (iI 0), .int (iI 3)]) (rest := [.int (((iI 2) * mrn_1003) + (iI 1)), .ref m5]) (ov := (some (.int u1009.1))) (st1 := [.int u1009.1, .int (((iI 2) * mrn_1003) + (iI 1)), .ref m5]) (ci := 6) X (c6_figure (l := l) e_u1009) o6_figure tw678 ⟨rfl, rfl, Nat.le_of_ble_eq_true rfl, Nat.le_of_ble_eq_true rfl⟩ hP hK hD hS hA (wM_fst.trans wM_fst.symm) 0 rfl rfl rfl rfl hl rfl (Nat.le_of_ble_eq_true rfl) ⟨Nat.le_refl _, Nat.le_refl _⟩ rfl dX6_readText_147 (fun H locs hP hD hS => ?_)
                  obtain ⟨i_150, hE⟩ := ib_some hE
                  refine astI (t0 := 0) (ws' := (wM cI cZ m0 m1 m2 m3 m4 m5 m6 m7 m8 m9 m10 m11 m12 m13 mwo mth mrn_1003 mrm_1003 mln u1009.2.1 u1009.2.2 mac mnx mse msd mki mof mpu mno (upd (upd mrw_1003 ((iI 2) * mrn_1003).toNatClampNeg u1008.1) (((iI 2) * mrn_1003) + (iI 1)).toNatClampNeg u1009.1) mrt_1003 mtx mro mso msf msc mik mkt)) X hK hP hD hS 5 0 rfl rfl i_150 rfl dX6_readText_150 (fun H locs hP hD hS => ?_)
                  refine lv_aload_n X.1.1 X.1.2.1 dX6_readText_151 rfl (lv_at hl 0 rfl) ?_
                  refine lv_dup X.1.1 X.1.2.1 dX6_readText_152 rfl ?_
                  refine gf6_66 X hK hP 0 rfl rfl dX6_readText_153 ?_
                  refine lv_iconst (v := (iI 1)) X.1.1 X.1.2.1 dX6_readText_156 rfl ?_
                  refine lv_iadd X.1.1 X.1.2.1 dX6_readText_157 ?_
                  refine pf6_66 (ws2 := (wM cI cZ m0 m1 m2 m3 m4 m5 m6 m7 m8 m9 m10 m11 m12 m13 mwo mth (mrn_1003 + (iI 1)) mrm_1003 mln u1009.2.1 u1009.2.2 mac mnx mse msd mki mof mpu mno (upd (upd mrw_1003 ((iI 2) * mrn_1003).toNatClampNeg u1008.1) (((iI 2) * mrn_1003) + (iI 1)).toNatClampNeg u1009.1) mrt_1003 mtx mro mso msf msc mik mkt)) X hK hP hD hS 0 rfl (Nat.le_of_ble_eq_true rfl) rfl dX6_readText_158 (fun H locs hP hD hS => ?_)
                  refine lv_goto (tgt := 62) X.1.1 X.1.2.1 dX6_readText_161 (by decide) ?_
                  exact ih (mrn_1003 + (iI 1)) mrm_1003 u1009.2.1 u1009.2.2 (upd (upd mrw_1003 ((iI 2) * mrn_1003).toNatClampNeg u1008.1) (((iI 2) * mrn_1003) + (iI 1)).toNatClampNeg u1009.1) mrt_1003 H locs ls hP hD hS (lv_sub hl [0] rfl) hE
      refine lp62 _ (fun mrn_1003 mrm_1003 mat_1003 mfa_1003 mrw_1003 mrt_1003 H locs ls hP hD hS hl hE => ?_) FU (iI 0) (iI 0) u1002.2.1 u1002.2.2 mrw mrt _ _ ls hP hD hS (lv_sub hl [0] rfl) hE
      refine lv_aload_n X.1.1 X.1.2.1 dX6_readText_258 rfl (lv_at hl 0 rfl) ?_
      refine gf6_60 X hK hP 0 rfl rfl dX6_readText_259 ?_
      cases hE
      exact retW X hP hS dX6_readText_262
    · have hE := ite_f hE c_36
      refine lv_iconst (v := (iI 0)) X.1.1 X.1.2.1 dX6_readText_39 rfl ?_
      cases hE
      exact retW X hP hS dX6_readText_40
theorem o6_fault : oV yX6_fault RX6 cX6_fault 1 (some .int) 0 := ⟨tw673, tw671, tw672, tw45, ⟨by decide +kernel, by decide +kernel⟩, by decide +kernel⟩
abbrev rm6_fault : Room := { frames := 3, cells := 0, slots := 0, locals := 68 }
set_option maxHeartbeats 4000000 in
set_option maxRecDepth 100000 in
theorem c6_fault {l : Launch} {G : va_G} {cI cZ : ClassId} {m0 m1 m2 m3 m4 m5 m6 m7 m8 m9 m10 m11 m12 m13 : Nat} {mwo : Int32} {mth : Int32} {mrn : Int32} {mrm : Int32} {mln : Int32} {mat : Int32} {mfa : Int32} {mac : Int32} {mnx : Int32} {mse : Int32} {msd : Int64} {mki : Nat → Int32} {mof : Nat → Int32} {mpu : Nat → Int32} {mno : Nat → Int32} {mrw : Nat → Int32} {mrt : Nat → Int32} {mtx : Nat → Int32} {mro : Nat → Int32} {mso : Nat → Int32} {msf : Nat → Int32} {msc : Nat → Int32} {mik : Nat → Int32} {mkt : Nat → Int32} {sz : Nat} {u : Int32 × Int32 × Int32 × Int32 × Int32 × (Nat → Int32) × (Nat → Int32)} (hE : f6_fault mrn mrm mln mat mfa mrw mrt mtx = some u) : Met l yX6_fault (Cond.code yX6_fault cX6_fault 1 (some .int) :: TB) rm6_fault (PcW G cI cZ (wM cI cZ m0 m1 m2 m3 m4 m5 m6 m7 m8 m9 m10 m11 m12 m13 mwo mth mrn mrm mln mat mfa mac mnx mse msd mki mof mpu mno mrw mrt mtx mro mso msf msc mik mkt) sz ([.ref m0] : List Value)) (QW G (some (.int u.1)) (wM cI cZ m0 m1 m2 m3 m4 m5 m6 m7 m8 m9 m10 m11 m12 m13 mwo mth u.2.1 u.2.2.1 mln u.2.2.2.1 u.2.2.2.2.1 mac mnx mse msd mki mof mpu mno u.2.2.2.2.2.1 u.2.2.2.2.2.2 mtx mro mso msf msc mik mkt) (va_A (wM cI cZ m0 m1 m2 m3 m4 m5 m6 m7 m8 m9 m10 m11 m12 m13 mwo mth mrn mrm mln mat mfa mac mnx mse msd mki mof mpu mno mrw mrt mtx mro mso msf msc mik mkt) sz)) 0 0 (va_A (wM cI cZ m0 m1 m2 m3 m4 m5 m6 m7 m8 m9 m10 m11 m12 m13 mwo mth mrn mrm mln mat mfa mac mnx mse msd mki mof mpu mno mrw mrt mtx mro mso msf msc mik mkt) sz) := by
  refine metW (own := RX6) (by decide +kernel) rfl (Nat.le_of_ble_eq_true rfl) ?_
  intro p e s m below meth c ls A X hA hP hK hD hl
  have hS : va_S A s.heap s.heap [] := va_S.rf
  have hl : lv_has ls 1 [(0, .ref m0)] := hl
  unfold f6_fault at hE
  refine lv_aload_n X.1.1 X.1.2.1 dX6_fault_0 rfl (lv_at hl 0 rfl) ?_
  obtain ⟨u1001, e_u1001, hE⟩ := bd_some hE
  refine callWF (ws := (wM cI cZ m0 m1 m2 m3 m4 m5 m6 m7 m8 m9 m10 m11 m12 m13 mwo mth mrn mrm mln mat mfa mac mnx mse msd mki mof mpu mno mrw mrt mtx mro mso msf msc mik mkt)) (ws' := (wM cI cZ m0 m1 m2 m3 m4 m5 m6 m7 m8 m9 m10 m11 m12 m13 mwo mth u1001.2.1 u1001.2.2.1 mln u1001.2.2.2.1 u1001.2.2.2.2.1 mac mnx mse msd mki mof mpu mno u1001.2.2.2.2.2.1 u1001.2.2.2.2.2.2 mtx mro mso msf msc mik mkt)) (As := []) (rest := []) (ov := (some (.int u1001.1))) (st1 := [.int u1001.1]) (ci := 6) X (c6_readText (l := l) e_u1001) o6_readText tw674 ⟨rfl, rfl, Nat.le_of_ble_eq_true rfl, Nat.le_of_ble_eq_true rfl⟩ hP hK hD hS hA (wM_fst.trans wM_fst.symm) 0 rfl rfl rfl rfl hl rfl (by decide) ⟨Nat.le_refl _, Nat.le_refl _⟩ rfl dX6_fault_1 (fun H locs hP hD hS => ?_)
  cases hE
  exact retW X hP hS dX6_fault_4
theorem o6_walk : oV yX6_walk RX6 cX6_walk 2 (some .int) 0 := ⟨tw685, tw683, tw684, tw45, ⟨by decide +kernel, by decide +kernel⟩, by decide +kernel⟩
abbrev rm6_walk : Room := { frames := 3, cells := 0, slots := 0, locals := 68 }
set_option maxHeartbeats 4000000 in
set_option maxRecDepth 100000 in
theorem c6_walk {l : Launch} {G : va_G} {cI cZ : ClassId} {m0 m1 m2 m3 m4 m5 m6 m7 m8 m9 m10 m11 m12 m13 : Nat} {mwo : Int32} {mth : Int32} {mrn : Int32} {mrm : Int32} {mln : Int32} {mat : Int32} {mfa : Int32} {mac : Int32} {mnx : Int32} {mse : Int32} {msd : Int64} {mki : Nat → Int32} {mof : Nat → Int32} {mpu : Nat → Int32} {mno : Nat → Int32} {mrw : Nat → Int32} {mrt : Nat → Int32} {mtx : Nat → Int32} {mro : Nat → Int32} {mso : Nat → Int32} {msf : Nat → Int32} {msc : Nat → Int32} {mik : Nat → Int32} {mkt : Nat → Int32} {sz : Nat} {u : Int32 × Int32 × Int32 × Int32 × Int32 × Int32 × Int32 × Int32 × (Nat → Int32) × (Nat → Int32) × (Nat → Int32) × (Nat → Int32) × (Nat → Int32) × (Nat → Int32) × (Nat → Int32)} (hE : f6_walk mwo mth mrn mrm mln mat mfa mac mki mof mpu mno mrw mrt mtx mik = some u) : Met l yX6_walk (Cond.code yX6_walk cX6_walk 2 (some .int) :: TB) rm6_walk (PcW G cI cZ (wM cI cZ m0 m1 m2 m3 m4 m5 m6 m7 m8 m9 m10 m11 m12 m13 mwo mth mrn mrm mln mat mfa mac mnx mse msd mki mof mpu mno mrw mrt mtx mro mso msf msc mik mkt) sz ([.ref m0] : List Value)) (QW G (some (.int u.1)) (wM cI cZ m0 m1 m2 m3 m4 m5 m6 m7 m8 m9 m10 m11 m12 m13 u.2.1 u.2.2.1 u.2.2.2.1 u.2.2.2.2.1 mln u.2.2.2.2.2.1 u.2.2.2.2.2.2.1 u.2.2.2.2.2.2.2.1 mnx mse msd u.2.2.2.2.2.2.2.2.1 u.2.2.2.2.2.2.2.2.2.1 u.2.2.2.2.2.2.2.2.2.2.1 u.2.2.2.2.2.2.2.2.2.2.2.1 u.2.2.2.2.2.2.2.2.2.2.2.2.1 u.2.2.2.2.2.2.2.2.2.2.2.2.2.1 mtx mro mso msf msc u.2.2.2.2.2.2.2.2.2.2.2.2.2.2 mkt) (va_A (wM cI cZ m0 m1 m2 m3 m4 m5 m6 m7 m8 m9 m10 m11 m12 m13 mwo mth mrn mrm mln mat mfa mac mnx mse msd mki mof mpu mno mrw mrt mtx mro mso msf msc mik mkt) sz)) 0 0 (va_A (wM cI cZ m0 m1 m2 m3 m4 m5 m6 m7 m8 m9 m10 m11 m12 m13 mwo mth mrn mrm mln mat mfa mac mnx mse msd mki mof mpu mno mrw mrt mtx mro mso msf msc mik mkt) sz) := by
  refine metW (own := RX6) (by decide +kernel) rfl (Nat.le_of_ble_eq_true rfl) ?_
  intro p e s m below meth c ls A X hA hP hK hD hl
  have hS : va_S A s.heap s.heap [] := va_S.rf
  have hl : lv_has ls 2 [(0, .ref m0)] := hl
  unfold f6_walk at hE
  refine lv_aload_n X.1.1 X.1.2.1 dX6_walk_0 rfl (lv_at hl 0 rfl) ?_
  obtain ⟨u1001, e_u1001, hE⟩ := bd_some hE
  refine callWF (ws := (wM cI cZ m0 m1 m2 m3 m4 m5 m6 m7 m8 m9 m10 m11 m12 m13 mwo mth mrn mrm mln mat mfa mac mnx mse msd mki mof mpu mno mrw mrt mtx mro mso msf msc mik mkt)) (ws' := (wM cI cZ m0 m1 m2 m3 m4 m5 m6 m7 m8 m9 m10 m11 m12 m13 mwo mth u1001.2.1 u1001.2.2.1 mln u1001.2.2.2.1 u1001.2.2.2.2.1 mac mnx mse msd mki mof mpu mno u1001.2.2.2.2.2.1 u1001.2.2.2.2.2.2 mtx mro mso msf msc mik mkt)) (As := []) (rest := []) (ov := (some (.int u1001.1))) (st1 := [.int u1001.1]) (ci := 6) X (c6_readText (l := l) e_u1001) o6_readText tw674 ⟨rfl, rfl, Nat.le_of_ble_eq_true rfl, Nat.le_of_ble_eq_true rfl⟩ hP hK hD hS hA (wM_fst.trans wM_fst.symm) 0 rfl rfl rfl rfl hl rfl (by decide) ⟨Nat.le_refl _, Nat.le_refl _⟩ rfl dX6_walk_1 (fun H locs hP hD hS => ?_)
  refine lv_bipush (v := (iI (-9))) X.1.1 X.1.2.1 dX6_walk_4 (by decide) ?_
  refine lv_icmp_eq (tgt := 12) X.1.1 X.1.2.1 dX6_walk_6 (by decide) (fun c_6 => ?_) (fun c_6 => ?_)
  · have hE := ite_t hE c_6
    refine lv_aload_n X.1.1 X.1.2.1 dX6_walk_12 rfl (lv_at hl 0 rfl) ?_
    refine lv_aload_n X.1.1 X.1.2.1 dX6_walk_13 rfl (lv_at hl 0 rfl) ?_
    refine gf6_66 X hK hP 0 rfl rfl dX6_walk_14 ?_
    refine pf6_80 (ws2 := (wM cI cZ m0 m1 m2 m3 m4 m5 m6 m7 m8 m9 m10 m11 m12 m13 u1001.2.1 mth u1001.2.1 u1001.2.2.1 mln u1001.2.2.2.1 u1001.2.2.2.2.1 mac mnx mse msd mki mof mpu mno u1001.2.2.2.2.2.1 u1001.2.2.2.2.2.2 mtx mro mso msf msc mik mkt)) X hK hP hD hS 0 rfl (Nat.le_of_ble_eq_true rfl) rfl dX6_walk_17 (fun H locs hP hD hS => ?_)
    refine lv_aload_n X.1.1 X.1.2.1 dX6_walk_20 rfl (lv_at hl 0 rfl) ?_
    refine lv_aload_n X.1.1 X.1.2.1 dX6_walk_21 rfl (lv_at hl 0 rfl) ?_
    refine gf6_69 X hK hP 0 rfl rfl dX6_walk_22 ?_
    refine pf6_83 (ws2 := (wM cI cZ m0 m1 m2 m3 m4 m5 m6 m7 m8 m9 m10 m11 m12 m13 u1001.2.1 u1001.2.2.1 u1001.2.1 u1001.2.2.1 mln u1001.2.2.2.1 u1001.2.2.2.2.1 mac mnx mse msd mki mof mpu mno u1001.2.2.2.2.2.1 u1001.2.2.2.2.2.2 mtx mro mso msf msc mik mkt)) X hK hP hD hS 0 rfl (Nat.le_of_ble_eq_true rfl) rfl dX6_walk_25 (fun H locs hP hD hS => ?_)
    refine lv_iconst (v := (iI 0)) X.1.1 X.1.2.1 dX6_walk_28 rfl ?_
    refine lv_istore_n (lv' := [(1, .int (iI 0)), (0, .ref m0)]) X.1.1 X.1.2.1 dX6_walk_29 rfl hl (by decide) rfl (fun ls hl => ?_)
    have lp30 : ∀ (k : Int32 → (Nat → Int32) → Option (Int32 × Int32 × Int32 × Int32 × Int32 × Int32 × Int32 × Int32 × (Nat → Int32) × (Nat → Int32) × (Nat → Int32) × (Nat → Int32) × (Nat → Int32) × (Nat → Int32) × (Nat → Int32))), (∀ (v1_1002 : Int32) (mno_1002 : Nat → Int32) (H : Heap) (locs : List Loc) (ls : Array Slot), va_P G vwCl (wM cI cZ m0 m1 m2 m3 m4 m5 m6 m7 m8 m9 m10 m11 m12 m13 u1001.2.1 u1001.2.2.1 u1001.2.1 u1001.2.2.1 mln u1001.2.2.2.1 u1001.2.2.2.2.1 mac mnx mse msd mki mof mpu mno_1002 u1001.2.2.2.2.2.1 u1001.2.2.2.2.2.2 mtx mro mso msf msc mik mkt) H → va_D A (wM cI cZ m0 m1 m2 m3 m4 m5 m6 m7 m8 m9 m10 m11 m12 m13 u1001.2.1 u1001.2.2.1 u1001.2.1 u1001.2.2.1 mln u1001.2.2.2.1 u1001.2.2.2.2.1 mac mnx mse msd mki mof mpu mno_1002 u1001.2.2.2.2.2.1 u1001.2.2.2.2.2.2 mtx mro mso msf msc mik mkt) → va_S A s.heap H locs → lv_has ls 2 [(0, .ref m0), (1, .int v1_1002)] → k v1_1002 mno_1002 = some u → W p l e rm6_walk s m ([.ref m0] : List Value).toArray below meth c H locs 0 0 (MQ below (QW G (some (.int u.1)) (wM cI cZ m0 m1 m2 m3 m4 m5 m6 m7 m8 m9 m10 m11 m12 m13 u.2.1 u.2.2.1 u.2.2.2.1 u.2.2.2.2.1 mln u.2.2.2.2.2.1 u.2.2.2.2.2.2.1 u.2.2.2.2.2.2.2.1 mnx mse msd u.2.2.2.2.2.2.2.2.1 u.2.2.2.2.2.2.2.2.2.1 u.2.2.2.2.2.2.2.2.2.2.1 u.2.2.2.2.2.2.2.2.2.2.2.1 u.2.2.2.2.2.2.2.2.2.2.2.2.1 u.2.2.2.2.2.2.2.2.2.2.2.2.2.1 mtx mro mso msf msc u.2.2.2.2.2.2.2.2.2.2.2.2.2.2 mkt) A) ([.ref m0] : List Value).toArray s 0 0 A) (F0 m 49 ls [])) → ∀ (n : Nat) (v1_1002 : Int32) (mno_1002 : Nat → Int32) (H : Heap) (locs : List Loc) (ls : Array Slot), va_P G vwCl (wM cI cZ m0 m1 m2 m3 m4 m5 m6 m7 m8 m9 m10 m11 m12 m13 u1001.2.1 u1001.2.2.1 u1001.2.1 u1001.2.2.1 mln u1001.2.2.2.1 u1001.2.2.2.2.1 mac mnx mse msd mki mof mpu mno_1002 u1001.2.2.2.2.2.1 u1001.2.2.2.2.2.2 mtx mro mso msf msc mik mkt) H → va_D A (wM cI cZ m0 m1 m2 m3 m4 m5 m6 m7 m8 m9 m10 m11 m12 m13 u1001.2.1 u1001.2.2.1 u1001.2.1 u1001.2.2.1 mln u1001.2.2.2.1 u1001.2.2.2.2.1 mac mnx mse msd mki mof mpu mno_1002 u1001.2.2.2.2.2.1 u1001.2.2.2.2.2.2 mtx mro mso msf msc mik mkt) → va_S A s.heap H locs → lv_has ls 2 [(0, .ref m0), (1, .int v1_1002)] → l6_walk_30 k n v1_1002 mno_1002 = some u → W p l e rm6_walk s m ([.ref m0] : List Value).toArray below meth c H locs 0 0 (MQ below (QW G (some (.int u.1)) (wM cI cZ m0 m1 m2 m3 m4 m5 m6 m7 m8 m9 m10 m11 m12 m13 u.2.1 u.2.2.1 u.2.2.2.1 u.2.2.2.2.1 mln u.2.2.2.2.2.1 u.2.2.2.2.2.2.1 u.2.2.2.2.2.2.2.1 mnx mse msd u.2.2.2.2.2.2.2.2.1 u.2.2.2.2.2.2.2.2.2.1 u.2.2.2.2.2.2.2.2.2.2.1 u.2.2.2.2.2.2.2.2.2.2.2.1 u.2.2.2.2.2.2.2.2.2.2.2.2.1 u.2.2.2.2.2.2.2.2.2.2.2.2.2.1 mtx mro mso msf msc u.2.2.2.2.2.2.2.2.2.2.2.2.2.2 mkt) A) ([.ref m0] : List Value).toArray s 0 0 A) (F0 m 30 ls []) := by
      intro k hex n
      induction n with
      | zero =>
        intro v1_1002 mno_1002 H locs ls hP hD hS hl hE
        exact absurd (show (none : Option (Int32 × Int32 × Int32 × Int32 × Int32 × Int32 × Int32 × Int32 × (Nat → Int32) × (Nat → Int32) × (Nat → Int32) × (Nat → Int32) × (Nat → Int32) × (Nat → Int32) × (Nat → Int32))) = some u from hE) (fun h => by cases h)
      | succ n ih =>
        intro v1_1002 mno_1002 H locs ls hP hD hS hl hE
        rw [l6_walk_30] at hE
        refine lv_iload_n X.1.1 X.1.2.1 dX6_walk_30 rfl (lv_at hl 1 rfl) ?_
        refine lv_bipush (v := (iI 10)) X.1.1 X.1.2.1 dX6_walk_31 (by decide) ?_
        refine lv_icmp_ge (tgt := 49) X.1.1 X.1.2.1 dX6_walk_33 (by decide) (fun c_33 => ?_) (fun c_33 => ?_)
        · have hE := ite_t hE c_33
          exact hex v1_1002 mno_1002 H locs ls hP hD hS (lv_sub hl [0, 1] rfl) hE
        · have hE := ite_f hE c_33
          refine lv_aload_n X.1.1 X.1.2.1 dX6_walk_36 rfl (lv_at hl 0 rfl) ?_
          refine gf6_19 X hK hP 0 rfl rfl dX6_walk_37 ?_
          refine lv_iload_n X.1.1 X.1.2.1 dX6_walk_40 rfl (lv_at hl 1 rfl) ?_
          refine lv_iconst (v := (iI 0)) X.1.1 X.1.2.1 dX6_walk_41 rfl ?_
          obtain ⟨i_42, hE⟩ := ib_some hE
          refine astI (t0 := 0) (ws' := (wM cI cZ m0 m1 m2 m3 m4 m5 m6 m7 m8 m9 m10 m11 m12 m13 u1001.2.1 u1001.2.2.1 u1001.2.1 u1001.2.2.1 mln u1001.2.2.2.1 u1001.2.2.2.2.1 mac mnx mse msd mki mof mpu (upd mno_1002 v1_1002.toNatClampNeg (iI 0)) u1001.2.2.2.2.2.1 u1001.2.2.2.2.2.2 mtx mro mso msf msc mik mkt)) X hK hP hD hS 4 0 rfl rfl i_42 rfl dX6_walk_42 (fun H locs hP hD hS => ?_)
          refine lv_iinc (v := (v1_1002 + (iI 1))) (lv' := [(1, .int (v1_1002 + (iI 1))), (0, .ref m0)]) X.1.1 X.1.2.1 dX6_walk_43 hl (k := 1) rfl rfl (by decide) rfl (fun ls hl => ?_)
          refine lv_goto (tgt := 30) X.1.1 X.1.2.1 dX6_walk_46 (by decide) ?_
          exact ih (v1_1002 + (iI 1)) (upd mno_1002 v1_1002.toNatClampNeg (iI 0)) H locs ls hP hD hS (lv_sub hl [1, 0] rfl) hE
    refine lp30 _ (fun v1_1002 mno_1002 H locs ls hP hD hS hl hE => ?_) FU (iI 0) mno _ _ ls hP hD hS (lv_sub hl [1, 0] rfl) hE
    refine lv_iconst (v := (iI 0)) X.1.1 X.1.2.1 dX6_walk_49 rfl ?_
    refine lv_istore_n (lv' := [(1, .int (iI 0)), (0, .ref m0)]) X.1.1 X.1.2.1 dX6_walk_50 rfl hl (by decide) rfl (fun ls hl => ?_)
    have lp51 : ∀ (k : Int32 → (Nat → Int32) → (Nat → Int32) → Option (Int32 × Int32 × Int32 × Int32 × Int32 × Int32 × Int32 × Int32 × (Nat → Int32) × (Nat → Int32) × (Nat → Int32) × (Nat → Int32) × (Nat → Int32) × (Nat → Int32) × (Nat → Int32))), (∀ (v1_1003 : Int32) (mki_1003 : Nat → Int32) (mno_1003 : Nat → Int32) (H : Heap) (locs : List Loc) (ls : Array Slot), va_P G vwCl (wM cI cZ m0 m1 m2 m3 m4 m5 m6 m7 m8 m9 m10 m11 m12 m13 u1001.2.1 u1001.2.2.1 u1001.2.1 u1001.2.2.1 mln u1001.2.2.2.1 u1001.2.2.2.2.1 mac mnx mse msd mki_1003 mof mpu mno_1003 u1001.2.2.2.2.2.1 u1001.2.2.2.2.2.2 mtx mro mso msf msc mik mkt) H → va_D A (wM cI cZ m0 m1 m2 m3 m4 m5 m6 m7 m8 m9 m10 m11 m12 m13 u1001.2.1 u1001.2.2.1 u1001.2.1 u1001.2.2.1 mln u1001.2.2.2.1 u1001.2.2.2.2.1 mac mnx mse msd mki_1003 mof mpu mno_1003 u1001.2.2.2.2.2.1 u1001.2.2.2.2.2.2 mtx mro mso msf msc mik mkt) → va_S A s.heap H locs → lv_has ls 2 [(0, .ref m0), (1, .int v1_1003)] → k v1_1003 mki_1003 mno_1003 = some u → W p l e rm6_walk s m ([.ref m0] : List Value).toArray below meth c H locs 0 0 (MQ below (QW G (some (.int u.1)) (wM cI cZ m0 m1 m2 m3 m4 m5 m6 m7 m8 m9 m10 m11 m12 m13 u.2.1 u.2.2.1 u.2.2.2.1 u.2.2.2.2.1 mln u.2.2.2.2.2.1 u.2.2.2.2.2.2.1 u.2.2.2.2.2.2.2.1 mnx mse msd u.2.2.2.2.2.2.2.2.1 u.2.2.2.2.2.2.2.2.2.1 u.2.2.2.2.2.2.2.2.2.2.1 u.2.2.2.2.2.2.2.2.2.2.2.1 u.2.2.2.2.2.2.2.2.2.2.2.2.1 u.2.2.2.2.2.2.2.2.2.2.2.2.2.1 mtx mro mso msf msc u.2.2.2.2.2.2.2.2.2.2.2.2.2.2 mkt) A) ([.ref m0] : List Value).toArray s 0 0 A) (F0 m 95 ls [])) → ∀ (n : Nat) (v1_1003 : Int32) (mki_1003 : Nat → Int32) (mno_1003 : Nat → Int32) (H : Heap) (locs : List Loc) (ls : Array Slot), va_P G vwCl (wM cI cZ m0 m1 m2 m3 m4 m5 m6 m7 m8 m9 m10 m11 m12 m13 u1001.2.1 u1001.2.2.1 u1001.2.1 u1001.2.2.1 mln u1001.2.2.2.1 u1001.2.2.2.2.1 mac mnx mse msd mki_1003 mof mpu mno_1003 u1001.2.2.2.2.2.1 u1001.2.2.2.2.2.2 mtx mro mso msf msc mik mkt) H → va_D A (wM cI cZ m0 m1 m2 m3 m4 m5 m6 m7 m8 m9 m10 m11 m12 m13 u1001.2.1 u1001.2.2.1 u1001.2.1 u1001.2.2.1 mln u1001.2.2.2.1 u1001.2.2.2.2.1 mac mnx mse msd mki_1003 mof mpu mno_1003 u1001.2.2.2.2.2.1 u1001.2.2.2.2.2.2 mtx mro mso msf msc mik mkt) → va_S A s.heap H locs → lv_has ls 2 [(0, .ref m0), (1, .int v1_1003)] → l6_walk_51 k u1001.2.1 u1001.2.2.2.2.2.1 n v1_1003 mki_1003 mno_1003 = some u → W p l e rm6_walk s m ([.ref m0] : List Value).toArray below meth c H locs 0 0 (MQ below (QW G (some (.int u.1)) (wM cI cZ m0 m1 m2 m3 m4 m5 m6 m7 m8 m9 m10 m11 m12 m13 u.2.1 u.2.2.1 u.2.2.2.1 u.2.2.2.2.1 mln u.2.2.2.2.2.1 u.2.2.2.2.2.2.1 u.2.2.2.2.2.2.2.1 mnx mse msd u.2.2.2.2.2.2.2.2.1 u.2.2.2.2.2.2.2.2.2.1 u.2.2.2.2.2.2.2.2.2.2.1 u.2.2.2.2.2.2.2.2.2.2.2.1 u.2.2.2.2.2.2.2.2.2.2.2.2.1 u.2.2.2.2.2.2.2.2.2.2.2.2.2.1 mtx mro mso msf msc u.2.2.2.2.2.2.2.2.2.2.2.2.2.2 mkt) A) ([.ref m0] : List Value).toArray s 0 0 A) (F0 m 51 ls []) := by
      intro k hex n
      induction n with
      | zero =>
        intro v1_1003 mki_1003 mno_1003 H locs ls hP hD hS hl hE
        exact absurd (show (none : Option (Int32 × Int32 × Int32 × Int32 × Int32 × Int32 × Int32 × Int32 × (Nat → Int32) × (Nat → Int32) × (Nat → Int32) × (Nat → Int32) × (Nat → Int32) × (Nat → Int32) × (Nat → Int32))) = some u from hE) (fun h => by cases h)
      | succ n ih =>
        intro v1_1003 mki_1003 mno_1003 H locs ls hP hD hS hl hE
        rw [l6_walk_51] at hE
        refine lv_iload_n X.1.1 X.1.2.1 dX6_walk_51 rfl (lv_at hl 1 rfl) ?_
        refine lv_aload_n X.1.1 X.1.2.1 dX6_walk_52 rfl (lv_at hl 0 rfl) ?_
        refine gf6_80 X hK hP 0 rfl rfl dX6_walk_53 ?_
        refine lv_icmp_ge (tgt := 95) X.1.1 X.1.2.1 dX6_walk_56 (by decide) (fun c_56 => ?_) (fun c_56 => ?_)
        · have hE := ite_t hE c_56
          exact hex v1_1003 mki_1003 mno_1003 H locs ls hP hD hS (lv_sub hl [0, 1] rfl) hE
        · have hE := ite_f hE c_56
          refine lv_aload_n X.1.1 X.1.2.1 dX6_walk_59 rfl (lv_at hl 0 rfl) ?_
          refine gf6_19 X hK hP 0 rfl rfl dX6_walk_60 ?_
          refine lv_iload_n X.1.1 X.1.2.1 dX6_walk_63 rfl (lv_at hl 1 rfl) ?_
          refine lv_aload_n X.1.1 X.1.2.1 dX6_walk_64 rfl (lv_at hl 0 rfl) ?_
          refine gf6_22 X hK hP 0 rfl rfl dX6_walk_65 ?_
          refine lv_iconst (v := (iI 2)) X.1.1 X.1.2.1 dX6_walk_68 rfl ?_
          refine lv_iload_n X.1.1 X.1.2.1 dX6_walk_69 rfl (lv_at hl 1 rfl) ?_
          refine lv_imul X.1.1 X.1.2.1 dX6_walk_70 ?_
          obtain ⟨i_71, hE⟩ := ib_some hE
          refine va_iald X.1.1 X.1.2.1 hK hP 5 0 rfl rfl i_71 dX6_walk_71 ?_
          obtain ⟨i_72, hE⟩ := ib_some hE
          refine astI (t0 := 0) (ws' := (wM cI cZ m0 m1 m2 m3 m4 m5 m6 m7 m8 m9 m10 m11 m12 m13 u1001.2.1 u1001.2.2.1 u1001.2.1 u1001.2.2.1 mln u1001.2.2.2.1 u1001.2.2.2.2.1 mac mnx mse msd mki_1003 mof mpu (upd mno_1003 v1_1003.toNatClampNeg (u1001.2.2.2.2.2.1 ((iI 2) * v1_1003).toNatClampNeg)) u1001.2.2.2.2.2.1 u1001.2.2.2.2.2.2 mtx mro mso msf msc mik mkt)) X hK hP hD hS 4 0 rfl rfl i_72 rfl dX6_walk_72 (fun H locs hP hD hS => ?_)
          refine lv_aload_n X.1.1 X.1.2.1 dX6_walk_73 rfl (lv_at hl 0 rfl) ?_
          refine gf6_7 X hK hP 0 rfl rfl dX6_walk_74 ?_
          refine lv_iload_n X.1.1 X.1.2.1 dX6_walk_77 rfl (lv_at hl 1 rfl) ?_
          refine lv_aload_n X.1.1 X.1.2.1 dX6_walk_78 rfl (lv_at hl 0 rfl) ?_
          refine gf6_22 X hK hP 0 rfl rfl dX6_walk_79 ?_
          refine lv_iconst (v := (iI 2)) X.1.1 X.1.2.1 dX6_walk_82 rfl ?_
          refine lv_iload_n X.1.1 X.1.2.1 dX6_walk_83 rfl (lv_at hl 1 rfl) ?_
          refine lv_imul X.1.1 X.1.2.1 dX6_walk_84 ?_
          refine lv_iconst (v := (iI 1)) X.1.1 X.1.2.1 dX6_walk_85 rfl ?_
          refine lv_iadd X.1.1 X.1.2.1 dX6_walk_86 ?_
          obtain ⟨i_87, hE⟩ := ib_some hE
          refine va_iald X.1.1 X.1.2.1 hK hP 5 0 rfl rfl i_87 dX6_walk_87 ?_
          obtain ⟨i_88, hE⟩ := ib_some hE
          refine astI (t0 := 0) (ws' := (wM cI cZ m0 m1 m2 m3 m4 m5 m6 m7 m8 m9 m10 m11 m12 m13 u1001.2.1 u1001.2.2.1 u1001.2.1 u1001.2.2.1 mln u1001.2.2.2.1 u1001.2.2.2.2.1 mac mnx mse msd (upd mki_1003 v1_1003.toNatClampNeg (u1001.2.2.2.2.2.1 (((iI 2) * v1_1003) + (iI 1)).toNatClampNeg)) mof mpu (upd mno_1003 v1_1003.toNatClampNeg (u1001.2.2.2.2.2.1 ((iI 2) * v1_1003).toNatClampNeg)) u1001.2.2.2.2.2.1 u1001.2.2.2.2.2.2 mtx mro mso msf msc mik mkt)) X hK hP hD hS 1 0 rfl rfl i_88 rfl dX6_walk_88 (fun H locs hP hD hS => ?_)
          refine lv_iinc (v := (v1_1003 + (iI 1))) (lv' := [(1, .int (v1_1003 + (iI 1))), (0, .ref m0)]) X.1.1 X.1.2.1 dX6_walk_89 hl (k := 1) rfl rfl (by decide) rfl (fun ls hl => ?_)
          refine lv_goto (tgt := 51) X.1.1 X.1.2.1 dX6_walk_92 (by decide) ?_
          exact ih (v1_1003 + (iI 1)) (upd mki_1003 v1_1003.toNatClampNeg (u1001.2.2.2.2.2.1 (((iI 2) * v1_1003) + (iI 1)).toNatClampNeg)) (upd mno_1003 v1_1003.toNatClampNeg (u1001.2.2.2.2.2.1 ((iI 2) * v1_1003).toNatClampNeg)) H locs ls hP hD hS (lv_sub hl [1, 0] rfl) hE
    refine lp51 _ (fun v1_1003 mki_1003 mno_1003 H locs ls hP hD hS hl hE => ?_) FU (iI 0) mki mno_1002 _ _ ls hP hD hS (lv_sub hl [1, 0] rfl) hE
    refine lv_iconst (v := (iI 0)) X.1.1 X.1.2.1 dX6_walk_95 rfl ?_
    refine lv_istore_n (lv' := [(1, .int (iI 0)), (0, .ref m0)]) X.1.1 X.1.2.1 dX6_walk_96 rfl hl (by decide) rfl (fun ls hl => ?_)
    have lp97 : ∀ (k : Int32 → (Nat → Int32) → (Nat → Int32) → Option (Int32 × Int32 × Int32 × Int32 × Int32 × Int32 × Int32 × Int32 × (Nat → Int32) × (Nat → Int32) × (Nat → Int32) × (Nat → Int32) × (Nat → Int32) × (Nat → Int32) × (Nat → Int32))), (∀ (v1_1004 : Int32) (mof_1004 : Nat → Int32) (mpu_1004 : Nat → Int32) (H : Heap) (locs : List Loc) (ls : Array Slot), va_P G vwCl (wM cI cZ m0 m1 m2 m3 m4 m5 m6 m7 m8 m9 m10 m11 m12 m13 u1001.2.1 u1001.2.2.1 u1001.2.1 u1001.2.2.1 mln u1001.2.2.2.1 u1001.2.2.2.2.1 mac mnx mse msd mki_1003 mof_1004 mpu_1004 mno_1003 u1001.2.2.2.2.2.1 u1001.2.2.2.2.2.2 mtx mro mso msf msc mik mkt) H → va_D A (wM cI cZ m0 m1 m2 m3 m4 m5 m6 m7 m8 m9 m10 m11 m12 m13 u1001.2.1 u1001.2.2.1 u1001.2.1 u1001.2.2.1 mln u1001.2.2.2.1 u1001.2.2.2.2.1 mac mnx mse msd mki_1003 mof_1004 mpu_1004 mno_1003 u1001.2.2.2.2.2.1 u1001.2.2.2.2.2.2 mtx mro mso msf msc mik mkt) → va_S A s.heap H locs → lv_has ls 2 [(0, .ref m0), (1, .int v1_1004)] → k v1_1004 mof_1004 mpu_1004 = some u → W p l e rm6_walk s m ([.ref m0] : List Value).toArray below meth c H locs 0 0 (MQ below (QW G (some (.int u.1)) (wM cI cZ m0 m1 m2 m3 m4 m5 m6 m7 m8 m9 m10 m11 m12 m13 u.2.1 u.2.2.1 u.2.2.2.1 u.2.2.2.2.1 mln u.2.2.2.2.2.1 u.2.2.2.2.2.2.1 u.2.2.2.2.2.2.2.1 mnx mse msd u.2.2.2.2.2.2.2.2.1 u.2.2.2.2.2.2.2.2.2.1 u.2.2.2.2.2.2.2.2.2.2.1 u.2.2.2.2.2.2.2.2.2.2.2.1 u.2.2.2.2.2.2.2.2.2.2.2.2.1 u.2.2.2.2.2.2.2.2.2.2.2.2.2.1 mtx mro mso msf msc u.2.2.2.2.2.2.2.2.2.2.2.2.2.2 mkt) A) ([.ref m0] : List Value).toArray s 0 0 A) (F0 m 141 ls [])) → ∀ (n : Nat) (v1_1004 : Int32) (mof_1004 : Nat → Int32) (mpu_1004 : Nat → Int32) (H : Heap) (locs : List Loc) (ls : Array Slot), va_P G vwCl (wM cI cZ m0 m1 m2 m3 m4 m5 m6 m7 m8 m9 m10 m11 m12 m13 u1001.2.1 u1001.2.2.1 u1001.2.1 u1001.2.2.1 mln u1001.2.2.2.1 u1001.2.2.2.2.1 mac mnx mse msd mki_1003 mof_1004 mpu_1004 mno_1003 u1001.2.2.2.2.2.1 u1001.2.2.2.2.2.2 mtx mro mso msf msc mik mkt) H → va_D A (wM cI cZ m0 m1 m2 m3 m4 m5 m6 m7 m8 m9 m10 m11 m12 m13 u1001.2.1 u1001.2.2.1 u1001.2.1 u1001.2.2.1 mln u1001.2.2.2.1 u1001.2.2.2.2.1 mac mnx mse msd mki_1003 mof_1004 mpu_1004 mno_1003 u1001.2.2.2.2.2.1 u1001.2.2.2.2.2.2 mtx mro mso msf msc mik mkt) → va_S A s.heap H locs → lv_has ls 2 [(0, .ref m0), (1, .int v1_1004)] → l6_walk_97 k u1001.2.2.1 u1001.2.2.2.2.2.2 n v1_1004 mof_1004 mpu_1004 = some u → W p l e rm6_walk s m ([.ref m0] : List Value).toArray below meth c H locs 0 0 (MQ below (QW G (some (.int u.1)) (wM cI cZ m0 m1 m2 m3 m4 m5 m6 m7 m8 m9 m10 m11 m12 m13 u.2.1 u.2.2.1 u.2.2.2.1 u.2.2.2.2.1 mln u.2.2.2.2.2.1 u.2.2.2.2.2.2.1 u.2.2.2.2.2.2.2.1 mnx mse msd u.2.2.2.2.2.2.2.2.1 u.2.2.2.2.2.2.2.2.2.1 u.2.2.2.2.2.2.2.2.2.2.1 u.2.2.2.2.2.2.2.2.2.2.2.1 u.2.2.2.2.2.2.2.2.2.2.2.2.1 u.2.2.2.2.2.2.2.2.2.2.2.2.2.1 mtx mro mso msf msc u.2.2.2.2.2.2.2.2.2.2.2.2.2.2 mkt) A) ([.ref m0] : List Value).toArray s 0 0 A) (F0 m 97 ls []) := by
      intro k hex n
      induction n with
      | zero =>
        intro v1_1004 mof_1004 mpu_1004 H locs ls hP hD hS hl hE
        exact absurd (show (none : Option (Int32 × Int32 × Int32 × Int32 × Int32 × Int32 × Int32 × Int32 × (Nat → Int32) × (Nat → Int32) × (Nat → Int32) × (Nat → Int32) × (Nat → Int32) × (Nat → Int32) × (Nat → Int32))) = some u from hE) (fun h => by cases h)
      | succ n ih =>
        intro v1_1004 mof_1004 mpu_1004 H locs ls hP hD hS hl hE
        rw [l6_walk_97] at hE
        refine lv_iload_n X.1.1 X.1.2.1 dX6_walk_97 rfl (lv_at hl 1 rfl) ?_
        refine lv_aload_n X.1.1 X.1.2.1 dX6_walk_98 rfl (lv_at hl 0 rfl) ?_
        refine gf6_83 X hK hP 0 rfl rfl dX6_walk_99 ?_
        refine lv_icmp_ge (tgt := 141) X.1.1 X.1.2.1 dX6_walk_102 (by decide) (fun c_102 => ?_) (fun c_102 => ?_)
        · have hE := ite_t hE c_102
          exact hex v1_1004 mof_1004 mpu_1004 H locs ls hP hD hS (lv_sub hl [0, 1] rfl) hE
        · have hE := ite_f hE c_102
          refine lv_aload_n X.1.1 X.1.2.1 dX6_walk_105 rfl (lv_at hl 0 rfl) ?_
          refine gf6_13 X hK hP 0 rfl rfl dX6_walk_106 ?_
          refine lv_iload_n X.1.1 X.1.2.1 dX6_walk_109 rfl (lv_at hl 1 rfl) ?_
          refine lv_aload_n X.1.1 X.1.2.1 dX6_walk_110 rfl (lv_at hl 0 rfl) ?_
          refine gf6_25 X hK hP 0 rfl rfl dX6_walk_111 ?_
          refine lv_iconst (v := (iI 2)) X.1.1 X.1.2.1 dX6_walk_114 rfl ?_
          refine lv_iload_n X.1.1 X.1.2.1 dX6_walk_115 rfl (lv_at hl 1 rfl) ?_
          refine lv_imul X.1.1 X.1.2.1 dX6_walk_116 ?_
          obtain ⟨i_117, hE⟩ := ib_some hE
          refine va_iald X.1.1 X.1.2.1 hK hP 6 0 rfl rfl i_117 dX6_walk_117 ?_
          obtain ⟨i_118, hE⟩ := ib_some hE
          refine astI (t0 := 0) (ws' := (wM cI cZ m0 m1 m2 m3 m4 m5 m6 m7 m8 m9 m10 m11 m12 m13 u1001.2.1 u1001.2.2.1 u1001.2.1 u1001.2.2.1 mln u1001.2.2.2.1 u1001.2.2.2.2.1 mac mnx mse msd mki_1003 (upd mof_1004 v1_1004.toNatClampNeg (u1001.2.2.2.2.2.2 ((iI 2) * v1_1004).toNatClampNeg)) mpu_1004 mno_1003 u1001.2.2.2.2.2.1 u1001.2.2.2.2.2.2 mtx mro mso msf msc mik mkt)) X hK hP hD hS 2 0 rfl rfl i_118 rfl dX6_walk_118 (fun H locs hP hD hS => ?_)
          refine lv_aload_n X.1.1 X.1.2.1 dX6_walk_119 rfl (lv_at hl 0 rfl) ?_
          refine gf6_16 X hK hP 0 rfl rfl dX6_walk_120 ?_
          refine lv_iload_n X.1.1 X.1.2.1 dX6_walk_123 rfl (lv_at hl 1 rfl) ?_
          refine lv_aload_n X.1.1 X.1.2.1 dX6_walk_124 rfl (lv_at hl 0 rfl) ?_
          refine gf6_25 X hK hP 0 rfl rfl dX6_walk_125 ?_
          refine lv_iconst (v := (iI 2)) X.1.1 X.1.2.1 dX6_walk_128 rfl ?_
          refine lv_iload_n X.1.1 X.1.2.1 dX6_walk_129 rfl (lv_at hl 1 rfl) ?_
          refine lv_imul X.1.1 X.1.2.1 dX6_walk_130 ?_
          refine lv_iconst (v := (iI 1)) X.1.1 X.1.2.1 dX6_walk_131 rfl ?_
          refine lv_iadd X.1.1 X.1.2.1 dX6_walk_132 ?_
          obtain ⟨i_133, hE⟩ := ib_some hE
          refine va_iald X.1.1 X.1.2.1 hK hP 6 0 rfl rfl i_133 dX6_walk_133 ?_
          obtain ⟨i_134, hE⟩ := ib_some hE
          refine astI (t0 := 0) (ws' := (wM cI cZ m0 m1 m2 m3 m4 m5 m6 m7 m8 m9 m10 m11 m12 m13 u1001.2.1 u1001.2.2.1 u1001.2.1 u1001.2.2.1 mln u1001.2.2.2.1 u1001.2.2.2.2.1 mac mnx mse msd mki_1003 (upd mof_1004 v1_1004.toNatClampNeg (u1001.2.2.2.2.2.2 ((iI 2) * v1_1004).toNatClampNeg)) (upd mpu_1004 v1_1004.toNatClampNeg (u1001.2.2.2.2.2.2 (((iI 2) * v1_1004) + (iI 1)).toNatClampNeg)) mno_1003 u1001.2.2.2.2.2.1 u1001.2.2.2.2.2.2 mtx mro mso msf msc mik mkt)) X hK hP hD hS 3 0 rfl rfl i_134 rfl dX6_walk_134 (fun H locs hP hD hS => ?_)
          refine lv_iinc (v := (v1_1004 + (iI 1))) (lv' := [(1, .int (v1_1004 + (iI 1))), (0, .ref m0)]) X.1.1 X.1.2.1 dX6_walk_135 hl (k := 1) rfl rfl (by decide) rfl (fun ls hl => ?_)
          refine lv_goto (tgt := 97) X.1.1 X.1.2.1 dX6_walk_138 (by decide) ?_
          exact ih (v1_1004 + (iI 1)) (upd mof_1004 v1_1004.toNatClampNeg (u1001.2.2.2.2.2.2 ((iI 2) * v1_1004).toNatClampNeg)) (upd mpu_1004 v1_1004.toNatClampNeg (u1001.2.2.2.2.2.2 (((iI 2) * v1_1004) + (iI 1)).toNatClampNeg)) H locs ls hP hD hS (lv_sub hl [1, 0] rfl) hE
    refine lp97 _ (fun v1_1004 mof_1004 mpu_1004 H locs ls hP hD hS hl hE => ?_) FU (iI 0) mof mpu _ _ ls hP hD hS (lv_sub hl [1, 0] rfl) hE
    refine lv_aload_n X.1.1 X.1.2.1 dX6_walk_141 rfl (lv_at hl 0 rfl) ?_
    refine gf6_19 X hK hP 0 rfl rfl dX6_walk_142 ?_
    refine lv_iconst (v := (iI 4)) X.1.1 X.1.2.1 dX6_walk_145 rfl ?_
    refine lv_aload_n X.1.1 X.1.2.1 dX6_walk_146 rfl (lv_at hl 0 rfl) ?_
    refine gf6_28 X hK hP 0 rfl rfl dX6_walk_147 ?_
    refine lv_iconst (v := (iI 1)) X.1.1 X.1.2.1 dX6_walk_150 rfl ?_
    refine va_iald X.1.1 X.1.2.1 hK hP 7 0 rfl rfl (vin (by decide)) dX6_walk_151 ?_
    refine lv_bipush (v := (iI 48)) X.1.1 X.1.2.1 dX6_walk_152 (by decide) ?_
    refine lv_isub X.1.1 X.1.2.1 dX6_walk_154 ?_
    refine astI (t0 := 0) (ws' := (wM cI cZ m0 m1 m2 m3 m4 m5 m6 m7 m8 m9 m10 m11 m12 m13 u1001.2.1 u1001.2.2.1 u1001.2.1 u1001.2.2.1 mln u1001.2.2.2.1 u1001.2.2.2.2.1 mac mnx mse msd mki_1003 mof_1004 mpu_1004 (upd mno_1003 (iI 4).toNatClampNeg ((mtx (iI 1).toNatClampNeg) - (iI 48))) u1001.2.2.2.2.2.1 u1001.2.2.2.2.2.2 mtx mro mso msf msc mik mkt)) X hK hP hD hS 4 0 rfl rfl (vin (by decide)) rfl dX6_walk_155 (fun H locs hP hD hS => ?_)
    refine lv_aload_n X.1.1 X.1.2.1 dX6_walk_156 rfl (lv_at hl 0 rfl) ?_
    refine gf6_19 X hK hP 0 rfl rfl dX6_walk_157 ?_
    refine lv_iconst (v := (iI 5)) X.1.1 X.1.2.1 dX6_walk_160 rfl ?_
    refine lv_aload_n X.1.1 X.1.2.1 dX6_walk_161 rfl (lv_at hl 0 rfl) ?_
    refine gf6_28 X hK hP 0 rfl rfl dX6_walk_162 ?_
    refine lv_iconst (v := (iI 2)) X.1.1 X.1.2.1 dX6_walk_165 rfl ?_
    refine va_iald X.1.1 X.1.2.1 hK hP 7 0 rfl rfl (vin (by decide)) dX6_walk_166 ?_
    refine lv_bipush (v := (iI 48)) X.1.1 X.1.2.1 dX6_walk_167 (by decide) ?_
    refine lv_isub X.1.1 X.1.2.1 dX6_walk_169 ?_
    refine astI (t0 := 0) (ws' := (wM cI cZ m0 m1 m2 m3 m4 m5 m6 m7 m8 m9 m10 m11 m12 m13 u1001.2.1 u1001.2.2.1 u1001.2.1 u1001.2.2.1 mln u1001.2.2.2.1 u1001.2.2.2.2.1 mac mnx mse msd mki_1003 mof_1004 mpu_1004 (upd (upd mno_1003 (iI 4).toNatClampNeg ((mtx (iI 1).toNatClampNeg) - (iI 48))) (iI 5).toNatClampNeg ((mtx (iI 2).toNatClampNeg) - (iI 48))) u1001.2.2.2.2.2.1 u1001.2.2.2.2.2.2 mtx mro mso msf msc mik mkt)) X hK hP hD hS 4 0 rfl rfl (vin (by decide)) rfl dX6_walk_170 (fun H locs hP hD hS => ?_)
    refine lv_aload_n X.1.1 X.1.2.1 dX6_walk_171 rfl (lv_at hl 0 rfl) ?_
    refine gf6_19 X hK hP 0 rfl rfl dX6_walk_172 ?_
    refine lv_bipush (v := (iI 6)) X.1.1 X.1.2.1 dX6_walk_175 (by decide) ?_
    refine lv_bipush (v := (iI (-9))) X.1.1 X.1.2.1 dX6_walk_177 (by decide) ?_
    refine astI (t0 := 0) (ws' := (wM cI cZ m0 m1 m2 m3 m4 m5 m6 m7 m8 m9 m10 m11 m12 m13 u1001.2.1 u1001.2.2.1 u1001.2.1 u1001.2.2.1 mln u1001.2.2.2.1 u1001.2.2.2.2.1 mac mnx mse msd mki_1003 mof_1004 mpu_1004 (upd (upd (upd mno_1003 (iI 4).toNatClampNeg ((mtx (iI 1).toNatClampNeg) - (iI 48))) (iI 5).toNatClampNeg ((mtx (iI 2).toNatClampNeg) - (iI 48))) (iI 6).toNatClampNeg (iI (-9))) u1001.2.2.2.2.2.1 u1001.2.2.2.2.2.2 mtx mro mso msf msc mik mkt)) X hK hP hD hS 4 0 rfl rfl (vin (by decide)) rfl dX6_walk_179 (fun H locs hP hD hS => ?_)
    refine lv_aload_n X.1.1 X.1.2.1 dX6_walk_180 rfl (lv_at hl 0 rfl) ?_
    refine lv_iconst (v := (iI 0)) X.1.1 X.1.2.1 dX6_walk_181 rfl ?_
    refine pf6_86 (ws2 := (wM cI cZ m0 m1 m2 m3 m4 m5 m6 m7 m8 m9 m10 m11 m12 m13 u1001.2.1 u1001.2.2.1 u1001.2.1 u1001.2.2.1 mln u1001.2.2.2.1 u1001.2.2.2.2.1 (iI 0) mnx mse msd mki_1003 mof_1004 mpu_1004 (upd (upd (upd mno_1003 (iI 4).toNatClampNeg ((mtx (iI 1).toNatClampNeg) - (iI 48))) (iI 5).toNatClampNeg ((mtx (iI 2).toNatClampNeg) - (iI 48))) (iI 6).toNatClampNeg (iI (-9))) u1001.2.2.2.2.2.1 u1001.2.2.2.2.2.2 mtx mro mso msf msc mik mkt)) X hK hP hD hS 0 rfl (Nat.le_of_ble_eq_true rfl) rfl dX6_walk_182 (fun H locs hP hD hS => ?_)
    refine lv_aload_n X.1.1 X.1.2.1 dX6_walk_185 rfl (lv_at hl 0 rfl) ?_
    refine gf6_43 X hK hP 0 rfl rfl dX6_walk_186 ?_
    refine lv_iconst (v := (iI 0)) X.1.1 X.1.2.1 dX6_walk_189 rfl ?_
    refine lv_iconst (v := (iI 0)) X.1.1 X.1.2.1 dX6_walk_190 rfl ?_
    refine astZ (t0 := 0) (ws' := (wM cI cZ m0 m1 m2 m3 m4 m5 m6 m7 m8 m9 m10 m11 m12 m13 u1001.2.1 u1001.2.2.1 u1001.2.1 u1001.2.2.1 mln u1001.2.2.2.1 u1001.2.2.2.2.1 (iI 0) mnx mse msd mki_1003 mof_1004 mpu_1004 (upd (upd (upd mno_1003 (iI 4).toNatClampNeg ((mtx (iI 1).toNatClampNeg) - (iI 48))) (iI 5).toNatClampNeg ((mtx (iI 2).toNatClampNeg) - (iI 48))) (iI 6).toNatClampNeg (iI (-9))) u1001.2.2.2.2.2.1 u1001.2.2.2.2.2.2 mtx mro mso msf msc (upd mik (iI 0).toNatClampNeg (vp_nar .boolean (iI 0))) mkt)) X hK hP hD hS 12 1 rfl rfl (vin (by decide)) rfl dX6_walk_191 (fun H locs hP hD hS => ?_)
    refine lv_aload_n X.1.1 X.1.2.1 dX6_walk_192 rfl (lv_at hl 0 rfl) ?_
    refine gf6_43 X hK hP 0 rfl rfl dX6_walk_193 ?_
    refine lv_iconst (v := (iI 1)) X.1.1 X.1.2.1 dX6_walk_196 rfl ?_
    refine lv_iconst (v := (iI 0)) X.1.1 X.1.2.1 dX6_walk_197 rfl ?_
    refine astZ (t0 := 0) (ws' := (wM cI cZ m0 m1 m2 m3 m4 m5 m6 m7 m8 m9 m10 m11 m12 m13 u1001.2.1 u1001.2.2.1 u1001.2.1 u1001.2.2.1 mln u1001.2.2.2.1 u1001.2.2.2.2.1 (iI 0) mnx mse msd mki_1003 mof_1004 mpu_1004 (upd (upd (upd mno_1003 (iI 4).toNatClampNeg ((mtx (iI 1).toNatClampNeg) - (iI 48))) (iI 5).toNatClampNeg ((mtx (iI 2).toNatClampNeg) - (iI 48))) (iI 6).toNatClampNeg (iI (-9))) u1001.2.2.2.2.2.1 u1001.2.2.2.2.2.2 mtx mro mso msf msc (upd (upd mik (iI 0).toNatClampNeg (vp_nar .boolean (iI 0))) (iI 1).toNatClampNeg (vp_nar .boolean (iI 0))) mkt)) X hK hP hD hS 12 1 rfl rfl (vin (by decide)) rfl dX6_walk_198 (fun H locs hP hD hS => ?_)
    refine lv_bipush (v := (iI 10)) X.1.1 X.1.2.1 dX6_walk_199 (by decide) ?_
    refine lv_aload_n X.1.1 X.1.2.1 dX6_walk_201 rfl (lv_at hl 0 rfl) ?_
    refine gf6_80 X hK hP 0 rfl rfl dX6_walk_202 ?_
    refine lv_imul X.1.1 X.1.2.1 dX6_walk_205 ?_
    refine lv_aload_n X.1.1 X.1.2.1 dX6_walk_206 rfl (lv_at hl 0 rfl) ?_
    refine gf6_83 X hK hP 0 rfl rfl dX6_walk_207 ?_
    refine lv_iadd X.1.1 X.1.2.1 dX6_walk_210 ?_
    cases hE
    exact retW X hP hS dX6_walk_211
  · have hE := ite_f hE c_6
    refine lv_bipush (v := (iI (-3))) X.1.1 X.1.2.1 dX6_walk_9 (by decide) ?_
    cases hE
    exact retW X hP hS dX6_walk_11
theorem o6_isWord : oV yX6_isWord RX6 cX6_isWord 2 (some .boolean) 1 := ⟨tw693, tw692, tw18, tw45, ⟨by decide +kernel, by decide +kernel⟩, by decide +kernel⟩
abbrev rm6_isWord : Room := { frames := 1, cells := 0, slots := 0, locals := 25 }
set_option maxHeartbeats 4000000 in
set_option maxRecDepth 100000 in
theorem c6_isWord {l : Launch} {G : va_G} {cI cZ : ClassId} {m0 m1 m2 m3 m4 m5 m6 m7 m8 m9 m10 m11 m12 m13 : Nat} {mwo : Int32} {mth : Int32} {mrn : Int32} {mrm : Int32} {mln : Int32} {mat : Int32} {mfa : Int32} {mac : Int32} {mnx : Int32} {mse : Int32} {msd : Int64} {mki : Nat → Int32} {mof : Nat → Int32} {mpu : Nat → Int32} {mno : Nat → Int32} {mrw : Nat → Int32} {mrt : Nat → Int32} {mtx : Nat → Int32} {mro : Nat → Int32} {mso : Nat → Int32} {msf : Nat → Int32} {msc : Nat → Int32} {mik : Nat → Int32} {mkt : Nat → Int32} {v1 : Int32} {u : Int32} (hE : f6_isWord v1 mwo = some u) : Met l yX6_isWord (Cond.code yX6_isWord cX6_isWord 2 (some .boolean) :: TB) rm6_isWord (PcR G cI cZ (wM cI cZ m0 m1 m2 m3 m4 m5 m6 m7 m8 m9 m10 m11 m12 m13 mwo mth mrn mrm mln mat mfa mac mnx mse msd mki mof mpu mno mrw mrt mtx mro mso msf msc mik mkt) ([.ref m0, .int v1] : List Value)) (QcRead u) 0 0 (fun _ => False) := by
  refine metR (own := RX6) (by decide +kernel) rfl (Nat.le_of_ble_eq_true rfl) ?_
  intro p e s m below meth c ls X hP hK hl
  have hl : lv_has ls 2 [(0, .ref m0), (1, .int v1)] := hl
  unfold f6_isWord at hE
  refine lv_iload_n X.1.1 X.1.2.1 dX6_isWord_0 rfl (lv_at hl 1 rfl) ?_
  refine lv_i2l (v := v1.toInt64) X.1.1 X.1.2.1 dX6_isWord_1 rfl ?_
  refine lv_lconst (v := (Int64.ofNat 0)) X.1.1 X.1.2.1 dX6_isWord_2 rfl ?_
  refine lv_aload_n X.1.1 X.1.2.1 dX6_isWord_3 rfl (lv_at hl 0 rfl) ?_
  refine gf6_80 X hK hP 0 rfl rfl dX6_isWord_4 ?_
  refine lv_iconst (v := (iI 1)) X.1.1 X.1.2.1 dX6_isWord_7 rfl ?_
  refine lv_isub X.1.1 X.1.2.1 dX6_isWord_8 ?_
  refine lv_i2l (v := (mwo - (iI 1)).toInt64) X.1.1 X.1.2.1 dX6_isWord_9 rfl ?_
  obtain ⟨u1001, e_u1001, hE⟩ := bd_some hE
  refine callRS (wsC := []) (As := [.long (v1.toInt64), .long (Int64.ofNat 0), .long ((mwo - (iI 1)).toInt64)]) (rest := []) (cI := cI) (cZ := cZ) X (c6_in (l := l) (G := G) (cI := cI) (cZ := cZ) e_u1001) o6_in tw663 ⟨rfl, rfl, Nat.le_of_ble_eq_true rfl, Nat.le_of_ble_eq_true rfl⟩ va_P_nil hK rfl hl rfl (by decide) ⟨Nat.le_refl _, Nat.le_refl _⟩ dX6_isWord_10 ?_
  obtain ⟨z_r, hE⟩ := okB_some hE
  cases hE
  exact retRZ X z_r dX6_isWord_13
theorem o6_pullAt : oV yX6_pullAt RX6 cX6_pullAt 6 (some .int) 2 := ⟨tw709, tw708, tw22, tw45, ⟨by decide +kernel, by decide +kernel⟩, by decide +kernel⟩
abbrev rm6_pullAt : Room := { frames := 1, cells := 0, slots := 0, locals := 21 }
set_option maxHeartbeats 4000000 in
set_option maxRecDepth 100000 in
theorem c6_pullAt {l : Launch} {G : va_G} {cI cZ : ClassId} {m0 m1 m2 m3 m4 m5 m6 m7 m8 m9 m10 m11 m12 m13 : Nat} {mwo : Int32} {mth : Int32} {mrn : Int32} {mrm : Int32} {mln : Int32} {mat : Int32} {mfa : Int32} {mac : Int32} {mnx : Int32} {mse : Int32} {msd : Int64} {mki : Nat → Int32} {mof : Nat → Int32} {mpu : Nat → Int32} {mno : Nat → Int32} {mrw : Nat → Int32} {mrt : Nat → Int32} {mtx : Nat → Int32} {mro : Nat → Int32} {mso : Nat → Int32} {msf : Nat → Int32} {msc : Nat → Int32} {mik : Nat → Int32} {mkt : Nat → Int32} {v1 : Int32} {v2 : Int32} {u : Int32} (hE : f6_pullAt v1 v2 mth mof mpu = some u) : Met l yX6_pullAt (Cond.code yX6_pullAt cX6_pullAt 6 (some .int) :: TB) rm6_pullAt (PcR G cI cZ (wM cI cZ m0 m1 m2 m3 m4 m5 m6 m7 m8 m9 m10 m11 m12 m13 mwo mth mrn mrm mln mat mfa mac mnx mse msd mki mof mpu mno mrw mrt mtx mro mso msf msc mik mkt) ([.ref m0, .int v1, .int v2] : List Value)) (QcRead u) 0 0 (fun _ => False) := by
  refine metR (own := RX6) (by decide +kernel) rfl (Nat.le_of_ble_eq_true rfl) ?_
  intro p e s m below meth c ls X hP hK hl
  have hl : lv_has ls 6 [(0, .ref m0), (1, .int v1), (2, .int v2)] := hl
  unfold f6_pullAt at hE
  refine lv_iconst (v := (iI 0)) X.1.1 X.1.2.1 dX6_pullAt_0 rfl ?_
  refine lv_istore_n (lv' := [(3, .int (iI 0)), (0, .ref m0), (1, .int v1), (2, .int v2)]) X.1.1 X.1.2.1 dX6_pullAt_1 rfl hl (by decide) rfl (fun ls hl => ?_)
  refine lv_iconst (v := (iI 0)) X.1.1 X.1.2.1 dX6_pullAt_2 rfl ?_
  refine lv_istore (lv' := [(4, .int (iI 0)), (3, .int (iI 0)), (0, .ref m0), (1, .int v1), (2, .int v2)]) X.1.1 X.1.2.1 dX6_pullAt_3 hl (by decide) rfl (fun ls hl => ?_)
  have lp5 : ∀ (k : Int32 → Int32 → Option Int32), (∀ (v3_1001 : Int32) (v4_1001 : Int32) (ls : Array Slot), lv_has ls 6 [(0, .ref m0), (1, .int v1), (2, .int v2), (3, .int v3_1001), (4, .int v4_1001)] → k v3_1001 v4_1001 = some u → W p l e rm6_pullAt s m ([.ref m0, .int v1, .int v2] : List Value).toArray below meth c s.heap [] 0 0 (MQ below (QcRead u) ([.ref m0, .int v1, .int v2] : List Value).toArray s 0 0 (fun _ => False)) (F0 m 84 ls [])) → ∀ (n : Nat) (v3_1001 : Int32) (v4_1001 : Int32) (ls : Array Slot), lv_has ls 6 [(0, .ref m0), (1, .int v1), (2, .int v2), (3, .int v3_1001), (4, .int v4_1001)] → l6_pullAt_5 k v1 v2 mth mof mpu n v3_1001 v4_1001 = some u → W p l e rm6_pullAt s m ([.ref m0, .int v1, .int v2] : List Value).toArray below meth c s.heap [] 0 0 (MQ below (QcRead u) ([.ref m0, .int v1, .int v2] : List Value).toArray s 0 0 (fun _ => False)) (F0 m 5 ls []) := by
    intro k hex n
    induction n with
    | zero =>
      intro v3_1001 v4_1001 ls hl hE
      exact absurd (show (none : Option Int32) = some u from hE) (fun h => by cases h)
    | succ n ih =>
      intro v3_1001 v4_1001 ls hl hE
      rw [l6_pullAt_5] at hE
      refine lv_iload X.1.1 X.1.2.1 dX6_pullAt_5 (lv_at hl 4 rfl) ?_
      refine lv_aload_n X.1.1 X.1.2.1 dX6_pullAt_7 rfl (lv_at hl 0 rfl) ?_
      refine gf6_83 X hK hP 0 rfl rfl dX6_pullAt_8 ?_
      refine lv_icmp_ge (tgt := 84) X.1.1 X.1.2.1 dX6_pullAt_11 (by decide) (fun c_11 => ?_) (fun c_11 => ?_)
      · have hE := ite_t hE c_11
        exact hex v3_1001 v4_1001 ls (lv_sub hl [0, 1, 2, 3, 4] rfl) hE
      · have hE := ite_f hE c_11
        refine lv_aload_n X.1.1 X.1.2.1 dX6_pullAt_14 rfl (lv_at hl 0 rfl) ?_
        refine gf6_16 X hK hP 0 rfl rfl dX6_pullAt_15 ?_
        refine lv_iload X.1.1 X.1.2.1 dX6_pullAt_18 (lv_at hl 4 rfl) ?_
        obtain ⟨i_20, hE⟩ := ib_some hE
        refine va_iald X.1.1 X.1.2.1 hK hP 3 0 rfl rfl i_20 dX6_pullAt_20 ?_
        refine lv_iload_n X.1.1 X.1.2.1 dX6_pullAt_21 rfl (lv_at hl 1 rfl) ?_
        refine lv_aload_n X.1.1 X.1.2.1 dX6_pullAt_22 rfl (lv_at hl 0 rfl) ?_
        refine gf6_13 X hK hP 0 rfl rfl dX6_pullAt_23 ?_
        refine lv_iload X.1.1 X.1.2.1 dX6_pullAt_26 (lv_at hl 4 rfl) ?_
        obtain ⟨i_28, hE⟩ := ib_some hE
        refine va_iald X.1.1 X.1.2.1 hK hP 2 0 rfl rfl i_28 dX6_pullAt_28 ?_
        refine lv_icmp_le (tgt := 44) X.1.1 X.1.2.1 dX6_pullAt_29 (by decide) (fun c_29 => ?_) (fun c_29 => ?_)
        · have hE := ite_t hE c_29
          refine lv_aload_n X.1.1 X.1.2.1 dX6_pullAt_44 rfl (lv_at hl 0 rfl) ?_
          refine gf6_13 X hK hP 0 rfl rfl dX6_pullAt_45 ?_
          refine lv_iload X.1.1 X.1.2.1 dX6_pullAt_48 (lv_at hl 4 rfl) ?_
          obtain ⟨i_50, hE⟩ := ib_some hE
          refine va_iald X.1.1 X.1.2.1 hK hP 2 0 rfl rfl i_50 dX6_pullAt_50 ?_
          refine lv_iload_n X.1.1 X.1.2.1 dX6_pullAt_51 rfl (lv_at hl 1 rfl) ?_
          refine lv_isub X.1.1 X.1.2.1 dX6_pullAt_52 ?_
          refine lv_isub X.1.1 X.1.2.1 dX6_pullAt_53 ?_
          refine lv_istore (lv' := [(5, .int ((mpu v4_1001.toNatClampNeg) - ((mof v4_1001.toNatClampNeg) - v1))), (0, .ref m0), (1, .int v1), (2, .int v2), (3, .int v3_1001), (4, .int v4_1001)]) X.1.1 X.1.2.1 dX6_pullAt_54 hl (by decide) rfl (fun ls hl => ?_)
          refine lv_iload_n X.1.1 X.1.2.1 dX6_pullAt_56 rfl (lv_at hl 3 rfl) ?_
          refine lv_iload X.1.1 X.1.2.1 dX6_pullAt_57 (lv_at hl 5 rfl) ?_
          obtain ⟨u1002, e_u1002, hE⟩ := bd_some hE
          refine callRS (wsC := []) (As := [.int v2, .int v4_1001]) (rest := []) (cI := cI) (cZ := cZ) X (c6_has (l := l) (G := G) (cI := cI) (cZ := cZ) e_u1002) o6_has tw710 ⟨rfl, rfl, Nat.le_of_ble_eq_true rfl, Nat.le_of_ble_eq_true rfl⟩ va_P_nil hK rfl hl rfl (by decide) ⟨Nat.le_refl _, Nat.le_refl _⟩ dX6_pullAt_59 ?_
          refine lv_if_eq (tgt := 76) X.1.1 X.1.2.1 dX6_pullAt_62 (by decide) (fun c_62 => ?_) (fun c_62 => ?_)
          · have hE := ite_t hE c_62
            refine lv_iload_n X.1.1 X.1.2.1 dX6_pullAt_76 rfl (lv_at hl 4 rfl) ?_
            refine lv_istore_n (lv' := [(3, .int v3_1001), (5, .int ((mpu v4_1001.toNatClampNeg) - ((mof v4_1001.toNatClampNeg) - v1))), (0, .ref m0), (1, .int v1), (2, .int v2), (4, .int v4_1001)]) X.1.1 X.1.2.1 dX6_pullAt_77 rfl hl (by decide) rfl (fun ls hl => ?_)
            refine lv_iinc (v := (v4_1001 + (iI 1))) (lv' := [(4, .int (v4_1001 + (iI 1))), (3, .int v3_1001), (5, .int ((mpu v4_1001.toNatClampNeg) - ((mof v4_1001.toNatClampNeg) - v1))), (0, .ref m0), (1, .int v1), (2, .int v2)]) X.1.1 X.1.2.1 dX6_pullAt_78 hl (k := 5) rfl rfl (by decide) rfl (fun ls hl => ?_)
            refine lv_goto (tgt := 5) X.1.1 X.1.2.1 dX6_pullAt_81 (by decide) ?_
            exact ih v3_1001 (v4_1001 + (iI 1)) ls (lv_sub hl [3, 4, 5, 1, 0] rfl) hE
          · have hE := ite_f hE c_62
            refine lv_iload X.1.1 X.1.2.1 dX6_pullAt_65 (lv_at hl 0 rfl) ?_
            refine lv_iload_n X.1.1 X.1.2.1 dX6_pullAt_67 rfl (lv_at hl 4 rfl) ?_
            refine lv_icmp_le (tgt := 76) X.1.1 X.1.2.1 dX6_pullAt_68 (by decide) (fun c_68 => ?_) (fun c_68 => ?_)
            · have hE := ite_t hE c_68
              refine lv_iload_n X.1.1 X.1.2.1 dX6_pullAt_76 rfl (lv_at hl 4 rfl) ?_
              refine lv_istore_n (lv' := [(3, .int v3_1001), (5, .int ((mpu v4_1001.toNatClampNeg) - ((mof v4_1001.toNatClampNeg) - v1))), (0, .ref m0), (1, .int v1), (2, .int v2), (4, .int v4_1001)]) X.1.1 X.1.2.1 dX6_pullAt_77 rfl hl (by decide) rfl (fun ls hl => ?_)
              refine lv_iinc (v := (v4_1001 + (iI 1))) (lv' := [(4, .int (v4_1001 + (iI 1))), (3, .int v3_1001), (5, .int ((mpu v4_1001.toNatClampNeg) - ((mof v4_1001.toNatClampNeg) - v1))), (0, .ref m0), (1, .int v1), (2, .int v2)]) X.1.1 X.1.2.1 dX6_pullAt_78 hl (k := 5) rfl rfl (by decide) rfl (fun ls hl => ?_)
              refine lv_goto (tgt := 5) X.1.1 X.1.2.1 dX6_pullAt_81 (by decide) ?_
              exact ih v3_1001 (v4_1001 + (iI 1)) ls (lv_sub hl [3, 4, 5, 1, 0] rfl) hE
            · have hE := ite_f hE c_68
              refine lv_iload X.1.1 X.1.2.1 dX6_pullAt_71 (lv_at hl 0 rfl) ?_
              refine lv_goto (tgt := 77) X.1.1 X.1.2.1 dX6_pullAt_73 (by decide) ?_
              refine lv_istore_n (lv' := [(3, .int ((mpu v4_1001.toNatClampNeg) - ((mof v4_1001.toNatClampNeg) - v1))), (5, .int ((mpu v4_1001.toNatClampNeg) - ((mof v4_1001.toNatClampNeg) - v1))), (0, .ref m0), (1, .int v1), (2, .int v2), (4, .int v4_1001)]) X.1.1 X.1.2.1 dX6_pullAt_77 rfl hl (by decide) rfl (fun ls hl => ?_)
              refine lv_iinc (v := (v4_1001 + (iI 1))) (lv' := [(4, .int (v4_1001 + (iI 1))), (3, .int ((mpu v4_1001.toNatClampNeg) - ((mof v4_1001.toNatClampNeg) - v1))), (5, .int ((mpu v4_1001.toNatClampNeg) - ((mof v4_1001.toNatClampNeg) - v1))), (0, .ref m0), (1, .int v1), (2, .int v2)]) X.1.1 X.1.2.1 dX6_pullAt_78 hl (k := 5) rfl rfl (by decide) rfl (fun ls hl => ?_)
              refine lv_goto (tgt := 5) X.1.1 X.1.2.1 dX6_pullAt_81 (by decide) ?_
              exact ih ((mpu v4_1001.toNatClampNeg) - ((mof v4_1001.toNatClampNeg) - v1)) (v4_1001 + (iI 1)) ls (lv_sub hl [3, 4, 5, 1, 0] rfl) hE
        · have hE := ite_f hE c_29
          refine lv_iload_n X.1.1 X.1.2.1 dX6_pullAt_32 rfl (lv_at hl 1 rfl) ?_
          refine lv_aload_n X.1.1 X.1.2.1 dX6_pullAt_33 rfl (lv_at hl 0 rfl) ?_
          refine gf6_13 X hK hP 0 rfl rfl dX6_pullAt_34 ?_
          refine lv_iload X.1.1 X.1.2.1 dX6_pullAt_37 (lv_at hl 4 rfl) ?_
          obtain ⟨i_39, hE⟩ := ib_some hE
          refine va_iald X.1.1 X.1.2.1 hK hP 2 0 rfl rfl i_39 dX6_pullAt_39 ?_
          refine lv_isub X.1.1 X.1.2.1 dX6_pullAt_40 ?_
          refine lv_goto (tgt := 53) X.1.1 X.1.2.1 dX6_pullAt_41 (by decide) ?_
          refine lv_isub X.1.1 X.1.2.1 dX6_pullAt_53 ?_
          refine lv_istore (lv' := [(5, .int ((mpu v4_1001.toNatClampNeg) - (v1 - (mof v4_1001.toNatClampNeg)))), (0, .ref m0), (1, .int v1), (2, .int v2), (3, .int v3_1001), (4, .int v4_1001)]) X.1.1 X.1.2.1 dX6_pullAt_54 hl (by decide) rfl (fun ls hl => ?_)
          refine lv_iload_n X.1.1 X.1.2.1 dX6_pullAt_56 rfl (lv_at hl 3 rfl) ?_
          refine lv_iload X.1.1 X.1.2.1 dX6_pullAt_57 (lv_at hl 5 rfl) ?_
          obtain ⟨u1003, e_u1003, hE⟩ := bd_some hE
          refine callRS (wsC := []) (As := [.int v2, .int v4_1001]) (rest := []) (cI := cI) (cZ := cZ) X (c6_has (l := l) (G := G) (cI := cI) (cZ := cZ) e_u1003) o6_has tw710 ⟨rfl, rfl, Nat.le_of_ble_eq_true rfl, Nat.le_of_ble_eq_true rfl⟩ va_P_nil hK rfl hl rfl (by decide) ⟨Nat.le_refl _, Nat.le_refl _⟩ dX6_pullAt_59 ?_
          refine lv_if_eq (tgt := 76) X.1.1 X.1.2.1 dX6_pullAt_62 (by decide) (fun c_62 => ?_) (fun c_62 => ?_)
          · have hE := ite_t hE c_62
            refine lv_iload_n X.1.1 X.1.2.1 dX6_pullAt_76 rfl (lv_at hl 4 rfl) ?_
            refine lv_istore_n (lv' := [(3, .int v3_1001), (5, .int ((mpu v4_1001.toNatClampNeg) - (v1 - (mof v4_1001.toNatClampNeg)))), (0, .ref m0), (1, .int v1), (2, .int v2), (4, .int v4_1001)]) X.1.1 X.1.2.1 dX6_pullAt_77 rfl hl (by decide) rfl (fun ls hl => ?_)
            refine lv_iinc (v := (v4_1001 + (iI 1))) (lv' := [(4, .int (v4_1001 + (iI 1))), (3, .int v3_1001), (5, .int ((mpu v4_1001.toNatClampNeg) - (v1 - (mof v4_1001.toNatClampNeg)))), (0, .ref m0), (1, .int v1), (2, .int v2)]) X.1.1 X.1.2.1 dX6_pullAt_78 hl (k := 5) rfl rfl (by decide) rfl (fun ls hl => ?_)
            refine lv_goto (tgt := 5) X.1.1 X.1.2.1 dX6_pullAt_81 (by decide) ?_
            exact ih v3_1001 (v4_1001 + (iI 1)) ls (lv_sub hl [3, 4, 5, 1, 0] rfl) hE
          · have hE := ite_f hE c_62
            refine lv_iload X.1.1 X.1.2.1 dX6_pullAt_65 (lv_at hl 0 rfl) ?_
            refine lv_iload_n X.1.1 X.1.2.1 dX6_pullAt_67 rfl (lv_at hl 4 rfl) ?_
            refine lv_icmp_le (tgt := 76) X.1.1 X.1.2.1 dX6_pullAt_68 (by decide) (fun c_68 => ?_) (fun c_68 => ?_)
            · have hE := ite_t hE c_68
              refine lv_iload_n X.1.1 X.1.2.1 dX6_pullAt_76 rfl (lv_at hl 4 rfl) ?_
              refine lv_istore_n (lv' := [(3, .int v3_1001), (5, .int ((mpu v4_1001.toNatClampNeg) - (v1 - (mof v4_1001.toNatClampNeg)))), (0, .ref m0), (1, .int v1), (2, .int v2), (4, .int v4_1001)]) X.1.1 X.1.2.1 dX6_pullAt_77 rfl hl (by decide) rfl (fun ls hl => ?_)
              refine lv_iinc (v := (v4_1001 + (iI 1))) (lv' := [(4, .int (v4_1001 + (iI 1))), (3, .int v3_1001), (5, .int ((mpu v4_1001.toNatClampNeg) - (v1 - (mof v4_1001.toNatClampNeg)))), (0, .ref m0), (1, .int v1), (2, .int v2)]) X.1.1 X.1.2.1 dX6_pullAt_78 hl (k := 5) rfl rfl (by decide) rfl (fun ls hl => ?_)
              refine lv_goto (tgt := 5) X.1.1 X.1.2.1 dX6_pullAt_81 (by decide) ?_
              exact ih v3_1001 (v4_1001 + (iI 1)) ls (lv_sub hl [3, 4, 5, 1, 0] rfl) hE
            · have hE := ite_f hE c_68
              refine lv_iload X.1.1 X.1.2.1 dX6_pullAt_71 (lv_at hl 0 rfl) ?_
              refine lv_goto (tgt := 77) X.1.1 X.1.2.1 dX6_pullAt_73 (by decide) ?_
              refine lv_istore_n (lv' := [(3, .int ((mpu v4_1001.toNatClampNeg) - (v1 - (mof v4_1001.toNatClampNeg)))), (5, .int ((mpu v4_1001.toNatClampNeg) - (v1 - (mof v4_1001.toNatClampNeg)))), (0, .ref m0), (1, .int v1), (2, .int v2), (4, .int v4_1001)]) X.1.1 X.1.2.1 dX6_pullAt_77 rfl hl (by decide) rfl (fun ls hl => ?_)
              refine lv_iinc (v := (v4_1001 + (iI 1))) (lv' := [(4, .int (v4_1001 + (iI 1))), (3, .int ((mpu v4_1001.toNatClampNeg) - (v1 - (mof v4_1001.toNatClampNeg)))), (5, .int ((mpu v4_1001.toNatClampNeg) - (v1 - (mof v4_1001.toNatClampNeg)))), (0, .ref m0), (1, .int v1), (2, .int v2)]) X.1.1 X.1.2.1 dX6_pullAt_78 hl (k := 5) rfl rfl (by decide) rfl (fun ls hl => ?_)
              refine lv_goto (tgt := 5) X.1.1 X.1.2.1 dX6_pullAt_81 (by decide) ?_
              exact ih ((mpu v4_1001.toNatClampNeg) - (v1 - (mof v4_1001.toNatClampNeg))) (v4_1001 + (iI 1)) ls (lv_sub hl [3, 4, 5, 1, 0] rfl) hE
  refine lp5 _ (fun v3_1001 v4_1001 ls hl hE => ?_) FU (iI 0) (iI 0) ls (lv_sub hl [2, 3, 4, 1, 0] rfl) hE
  refine lv_iload_n X.1.1 X.1.2.1 dX6_pullAt_84 rfl (lv_at hl 3 rfl) ?_
  cases hE
  exact retR X dX6_pullAt_85
theorem o6_power : oV yX6_power RX6 cX6_power 4 (some .int) 3 := ⟨tw697, tw696, tw19, tw45, ⟨by decide +kernel, by decide +kernel⟩, by decide +kernel⟩
abbrev rm6_power : Room := { frames := 0, cells := 0, slots := 0, locals := 0 }
set_option maxHeartbeats 4000000 in
set_option maxRecDepth 100000 in
theorem c6_power {l : Launch} {G : va_G} {cI cZ : ClassId} {m0 m1 m2 m3 m4 m5 m6 m7 m8 m9 m10 m11 m12 m13 : Nat} {mwo : Int32} {mth : Int32} {mrn : Int32} {mrm : Int32} {mln : Int32} {mat : Int32} {mfa : Int32} {mac : Int32} {mnx : Int32} {mse : Int32} {msd : Int64} {mki : Nat → Int32} {mof : Nat → Int32} {mpu : Nat → Int32} {mno : Nat → Int32} {mrw : Nat → Int32} {mrt : Nat → Int32} {mtx : Nat → Int32} {mro : Nat → Int32} {mso : Nat → Int32} {msf : Nat → Int32} {msc : Nat → Int32} {mik : Nat → Int32} {mkt : Nat → Int32} {v1 : Int32} {v2 : Int32} {v3 : Int32} {u : Int32} (hE : f6_power v1 v2 v3 mki mno = some u) : Met l yX6_power (Cond.code yX6_power cX6_power 4 (some .int) :: TB) rm6_power (PcR G cI cZ (wM cI cZ m0 m1 m2 m3 m4 m5 m6 m7 m8 m9 m10 m11 m12 m13 mwo mth mrn mrm mln mat mfa mac mnx mse msd mki mof mpu mno mrw mrt mtx mro mso msf msc mik mkt) ([.ref m0, .int v1, .int v2, .int v3] : List Value)) (QcRead u) 0 0 (fun _ => False) := by
  refine metR (own := RX6) (by decide +kernel) rfl (Nat.le_of_ble_eq_true rfl) ?_
  intro p e s m below meth c ls X hP hK hl
  have hl : lv_has ls 4 [(0, .ref m0), (1, .int v1), (2, .int v2), (3, .int v3)] := hl
  unfold f6_power at hE
  refine lv_iload_n X.1.1 X.1.2.1 dX6_power_0 rfl (lv_at hl 1 rfl) ?_
  refine lv_aload_n X.1.1 X.1.2.1 dX6_power_1 rfl (lv_at hl 0 rfl) ?_
  refine gf6_19 X hK hP 0 rfl rfl dX6_power_2 ?_
  refine lv_bipush (v := (iI 7)) X.1.1 X.1.2.1 dX6_power_5 (by decide) ?_
  refine va_iald X.1.1 X.1.2.1 hK hP 4 0 rfl rfl (vin (by decide)) dX6_power_7 ?_
  refine lv_iadd X.1.1 X.1.2.1 dX6_power_8 ?_
  refine lv_iload_n X.1.1 X.1.2.1 dX6_power_9 rfl (lv_at hl 3 rfl) ?_
  refine lv_aload_n X.1.1 X.1.2.1 dX6_power_10 rfl (lv_at hl 0 rfl) ?_
  refine gf6_7 X hK hP 0 rfl rfl dX6_power_11 ?_
  refine lv_iload_n X.1.1 X.1.2.1 dX6_power_14 rfl (lv_at hl 2 rfl) ?_
  obtain ⟨i_15, hE⟩ := ib_some hE
  refine va_iald X.1.1 X.1.2.1 hK hP 1 0 rfl rfl i_15 dX6_power_15 ?_
  refine lv_iconst (v := (iI 1)) X.1.1 X.1.2.1 dX6_power_16 rfl ?_
  refine lv_icmp_ne (tgt := 24) X.1.1 X.1.2.1 dX6_power_17 (by decide) (fun c_17 => ?_) (fun c_17 => ?_)
  · have hE := ite_f hE c_17
    refine lv_iconst (v := (iI 2)) X.1.1 X.1.2.1 dX6_power_24 rfl ?_
    refine lv_idiv X.1.1 X.1.2.1 dX6_power_25 (by decide) ?_
    refine lv_isub X.1.1 X.1.2.1 dX6_power_26 ?_
    cases hE
    exact retR X dX6_power_27
  · have hE := ite_t hE c_17
    refine lv_iconst (v := (iI 4)) X.1.1 X.1.2.1 dX6_power_20 rfl ?_
    refine lv_goto (tgt := 25) X.1.1 X.1.2.1 dX6_power_21 (by decide) ?_
    refine lv_idiv X.1.1 X.1.2.1 dX6_power_25 (by decide) ?_
    refine lv_isub X.1.1 X.1.2.1 dX6_power_26 ?_
    cases hE
    exact retR X dX6_power_27
theorem o6_comesBy : oV yX6_comesBy RX6 cX6_comesBy 6 (some .boolean) 4 := ⟨tw705, tw704, tw21, tw45, ⟨by decide +kernel, by decide +kernel⟩, by decide +kernel⟩
abbrev rm6_comesBy : Room := { frames := 2, cells := 0, slots := 0, locals := 46 }
set_option maxHeartbeats 4000000 in
set_option maxRecDepth 100000 in
theorem c6_comesBy {l : Launch} {G : va_G} {cI cZ : ClassId} {m0 m1 m2 m3 m4 m5 m6 m7 m8 m9 m10 m11 m12 m13 : Nat} {mwo : Int32} {mth : Int32} {mrn : Int32} {mrm : Int32} {mln : Int32} {mat : Int32} {mfa : Int32} {mac : Int32} {mnx : Int32} {mse : Int32} {msd : Int64} {mki : Nat → Int32} {mof : Nat → Int32} {mpu : Nat → Int32} {mno : Nat → Int32} {mrw : Nat → Int32} {mrt : Nat → Int32} {mtx : Nat → Int32} {mro : Nat → Int32} {mso : Nat → Int32} {msf : Nat → Int32} {msc : Nat → Int32} {mik : Nat → Int32} {mkt : Nat → Int32} {v1 : Int32} {v2 : Int32} {v3 : Int32} {v4 : Int32} {u : Int32} (hE : f6_comesBy v1 v2 v3 v4 mth mki mof mpu mno = some u) : Met l yX6_comesBy (Cond.code yX6_comesBy cX6_comesBy 6 (some .boolean) :: TB) rm6_comesBy (PcR G cI cZ (wM cI cZ m0 m1 m2 m3 m4 m5 m6 m7 m8 m9 m10 m11 m12 m13 mwo mth mrn mrm mln mat mfa mac mnx mse msd mki mof mpu mno mrw mrt mtx mro mso msf msc mik mkt) ([.ref m0, .int v1, .int v2, .int v3, .int v4] : List Value)) (QcRead u) 0 0 (fun _ => False) := by
  refine metR (own := RX6) (by decide +kernel) rfl (Nat.le_of_ble_eq_true rfl) ?_
  intro p e s m below meth c ls X hP hK hl
  have hl : lv_has ls 6 [(0, .ref m0), (1, .int v1), (2, .int v2), (3, .int v3), (4, .int v4)] := hl
  unfold f6_comesBy at hE
  refine lv_aload_n X.1.1 X.1.2.1 dX6_comesBy_0 rfl (lv_at hl 0 rfl) ?_
  refine lv_iload_n X.1.1 X.1.2.1 dX6_comesBy_1 rfl (lv_at hl 1 rfl) ?_
  refine lv_iload_n X.1.1 X.1.2.1 dX6_comesBy_2 rfl (lv_at hl 2 rfl) ?_
  refine lv_iload_n X.1.1 X.1.2.1 dX6_comesBy_3 rfl (lv_at hl 3 rfl) ?_
  obtain ⟨u1001, e_u1001, hE⟩ := bd_some hE
  refine callRV (wsC := (wM cI cZ m0 m1 m2 m3 m4 m5 m6 m7 m8 m9 m10 m11 m12 m13 mwo mth mrn mrm mln mat mfa mac mnx mse msd mki mof mpu mno mrw mrt mtx mro mso msf msc mik mkt)) (As := [.int v1, .int v2, .int v3]) (rest := []) (ci := 6) X (c6_power (l := l) e_u1001) o6_power tw694 ⟨rfl, rfl, Nat.le_of_ble_eq_true rfl, Nat.le_of_ble_eq_true rfl⟩ hP hK 0 rfl rfl rfl rfl hl rfl (by decide) ⟨Nat.le_refl _, Nat.le_refl _⟩ dX6_comesBy_4 ?_
  refine lv_istore (lv' := [(5, .int u1001), (0, .ref m0), (1, .int v1), (2, .int v2), (3, .int v3), (4, .int v4)]) X.1.1 X.1.2.1 dX6_comesBy_7 hl (by decide) rfl (fun ls hl => ?_)
  refine lv_iload X.1.1 X.1.2.1 dX6_comesBy_9 (lv_at hl 0 rfl) ?_
  refine lv_if_le (tgt := 30) X.1.1 X.1.2.1 dX6_comesBy_11 (by decide) (fun c_11 => ?_) (fun c_11 => ?_)
  · have hE := ite_t hE c_11
    refine lv_iconst (v := (iI 0)) X.1.1 X.1.2.1 dX6_comesBy_30 rfl ?_
    cases hE
    exact retRZ X okB_0 dX6_comesBy_31
  · have hE := ite_f hE c_11
    refine lv_iload X.1.1 X.1.2.1 dX6_comesBy_14 (lv_at hl 0 rfl) ?_
    refine lv_aload_n X.1.1 X.1.2.1 dX6_comesBy_16 rfl (lv_at hl 1 rfl) ?_
    refine lv_iload_n X.1.1 X.1.2.1 dX6_comesBy_17 rfl (lv_at hl 4 rfl) ?_
    refine lv_iload X.1.1 X.1.2.1 dX6_comesBy_18 (lv_at hl 5 rfl) ?_
    obtain ⟨u1002, e_u1002, hE⟩ := bd_some hE
    refine callRV (wsC := (wM cI cZ m0 m1 m2 m3 m4 m5 m6 m7 m8 m9 m10 m11 m12 m13 mwo mth mrn mrm mln mat mfa mac mnx mse msd mki mof mpu mno mrw mrt mtx mro mso msf msc mik mkt)) (As := [.int v3, .int v4]) (rest := [.int u1001]) (ci := 6) X (c6_pullAt (l := l) e_u1002) o6_pullAt tw706 ⟨rfl, rfl, Nat.le_of_ble_eq_true rfl, Nat.le_of_ble_eq_true rfl⟩ hP hK 0 rfl rfl rfl rfl hl rfl (Nat.le_of_ble_eq_true rfl) ⟨Nat.le_refl _, Nat.le_refl _⟩ dX6_comesBy_20 ?_
    refine lv_icmp_lt (tgt := 30) X.1.1 X.1.2.1 dX6_comesBy_23 (by decide) (fun c_23 => ?_) (fun c_23 => ?_)
    · have hE := ite_t hE c_23
      refine lv_iconst (v := (iI 0)) X.1.1 X.1.2.1 dX6_comesBy_30 rfl ?_
      cases hE
      exact retRZ X okB_0 dX6_comesBy_31
    · have hE := ite_f hE c_23
      refine lv_iconst (v := (iI 1)) X.1.1 X.1.2.1 dX6_comesBy_26 rfl ?_
      refine lv_goto (tgt := 31) X.1.1 X.1.2.1 dX6_comesBy_27 (by decide) ?_
      cases hE
      exact retRZ X okB_1 dX6_comesBy_31
theorem o6_comesNow : oV yX6_comesNow RX6 cX6_comesNow 3 (some .boolean) 2 := ⟨tw701, tw700, tw20, tw45, ⟨by decide +kernel, by decide +kernel⟩, by decide +kernel⟩
abbrev rm6_comesNow : Room := { frames := 3, cells := 0, slots := 0, locals := 71 }
set_option maxHeartbeats 4000000 in
set_option maxRecDepth 100000 in
theorem c6_comesNow {l : Launch} {G : va_G} {cI cZ : ClassId} {m0 m1 m2 m3 m4 m5 m6 m7 m8 m9 m10 m11 m12 m13 : Nat} {mwo : Int32} {mth : Int32} {mrn : Int32} {mrm : Int32} {mln : Int32} {mat : Int32} {mfa : Int32} {mac : Int32} {mnx : Int32} {mse : Int32} {msd : Int64} {mki : Nat → Int32} {mof : Nat → Int32} {mpu : Nat → Int32} {mno : Nat → Int32} {mrw : Nat → Int32} {mrt : Nat → Int32} {mtx : Nat → Int32} {mro : Nat → Int32} {mso : Nat → Int32} {msf : Nat → Int32} {msc : Nat → Int32} {mik : Nat → Int32} {mkt : Nat → Int32} {v1 : Int32} {v2 : Int32} {u : Int32} (hE : f6_comesNow v1 v2 mth mki mof mpu mno = some u) : Met l yX6_comesNow (Cond.code yX6_comesNow cX6_comesNow 3 (some .boolean) :: TB) rm6_comesNow (PcR G cI cZ (wM cI cZ m0 m1 m2 m3 m4 m5 m6 m7 m8 m9 m10 m11 m12 m13 mwo mth mrn mrm mln mat mfa mac mnx mse msd mki mof mpu mno mrw mrt mtx mro mso msf msc mik mkt) ([.ref m0, .int v1, .int v2] : List Value)) (QcRead u) 0 0 (fun _ => False) := by
  refine metR (own := RX6) (by decide +kernel) rfl (Nat.le_of_ble_eq_true rfl) ?_
  intro p e s m below meth c ls X hP hK hl
  have hl : lv_has ls 3 [(0, .ref m0), (1, .int v1), (2, .int v2)] := hl
  unfold f6_comesNow at hE
  refine lv_aload_n X.1.1 X.1.2.1 dX6_comesNow_0 rfl (lv_at hl 0 rfl) ?_
  refine lv_aload_n X.1.1 X.1.2.1 dX6_comesNow_1 rfl (lv_at hl 0 rfl) ?_
  refine gf6_19 X hK hP 0 rfl rfl dX6_comesNow_2 ?_
  refine lv_iload_n X.1.1 X.1.2.1 dX6_comesNow_5 rfl (lv_at hl 1 rfl) ?_
  obtain ⟨i_6, hE⟩ := ib_some hE
  refine va_iald X.1.1 X.1.2.1 hK hP 4 0 rfl rfl i_6 dX6_comesNow_6 ?_
  refine lv_iload_n X.1.1 X.1.2.1 dX6_comesNow_7 rfl (lv_at hl 1 rfl) ?_
  refine lv_iload_n X.1.1 X.1.2.1 dX6_comesNow_8 rfl (lv_at hl 2 rfl) ?_
  refine lv_bipush (v := (iI 15)) X.1.1 X.1.2.1 dX6_comesNow_9 (by decide) ?_
  obtain ⟨u1001, e_u1001, hE⟩ := bd_some hE
  refine callRV (wsC := (wM cI cZ m0 m1 m2 m3 m4 m5 m6 m7 m8 m9 m10 m11 m12 m13 mwo mth mrn mrm mln mat mfa mac mnx mse msd mki mof mpu mno mrw mrt mtx mro mso msf msc mik mkt)) (As := [.int (mno v1.toNatClampNeg), .int v1, .int v2, .int (iI 15)]) (rest := []) (ci := 6) X (c6_comesBy (l := l) e_u1001) o6_comesBy tw702 ⟨rfl, rfl, Nat.le_of_ble_eq_true rfl, Nat.le_of_ble_eq_true rfl⟩ hP hK 0 rfl rfl rfl rfl hl rfl (by decide) ⟨Nat.le_refl _, Nat.le_refl _⟩ dX6_comesNow_11 ?_
  obtain ⟨z_r, hE⟩ := okB_some hE
  cases hE
  exact retRZ X z_r dX6_comesNow_14
theorem o6_farOf : oV yX6_farOf RX6 cX6_farOf 4 (some .int) 1 := ⟨tw716, tw715, tw23, tw45, ⟨by decide +kernel, by decide +kernel⟩, by decide +kernel⟩
abbrev rm6_farOf : Room := { frames := 4, cells := 0, slots := 0, locals := 93 }
set_option maxHeartbeats 4000000 in
set_option maxRecDepth 100000 in
theorem c6_farOf {l : Launch} {G : va_G} {cI cZ : ClassId} {m0 m1 m2 m3 m4 m5 m6 m7 m8 m9 m10 m11 m12 m13 : Nat} {mwo : Int32} {mth : Int32} {mrn : Int32} {mrm : Int32} {mln : Int32} {mat : Int32} {mfa : Int32} {mac : Int32} {mnx : Int32} {mse : Int32} {msd : Int64} {mki : Nat → Int32} {mof : Nat → Int32} {mpu : Nat → Int32} {mno : Nat → Int32} {mrw : Nat → Int32} {mrt : Nat → Int32} {mtx : Nat → Int32} {mro : Nat → Int32} {mso : Nat → Int32} {msf : Nat → Int32} {msc : Nat → Int32} {mik : Nat → Int32} {mkt : Nat → Int32} {v1 : Int32} {u : Int32} (hE : f6_farOf v1 mth mki mof mpu mno = some u) : Met l yX6_farOf (Cond.code yX6_farOf cX6_farOf 4 (some .int) :: TB) rm6_farOf (PcR G cI cZ (wM cI cZ m0 m1 m2 m3 m4 m5 m6 m7 m8 m9 m10 m11 m12 m13 mwo mth mrn mrm mln mat mfa mac mnx mse msd mki mof mpu mno mrw mrt mtx mro mso msf msc mik mkt) ([.ref m0, .int v1] : List Value)) (QcRead u) 0 0 (fun _ => False) := by
  refine metR (own := RX6) (by decide +kernel) rfl (Nat.le_of_ble_eq_true rfl) ?_
  intro p e s m below meth c ls X hP hK hl
  have hl : lv_has ls 4 [(0, .ref m0), (1, .int v1)] := hl
  unfold f6_farOf at hE
  refine lv_bipush (v := (iI (-9))) X.1.1 X.1.2.1 dX6_farOf_0 (by decide) ?_
  refine lv_istore_n (lv' := [(2, .int (iI (-9))), (0, .ref m0), (1, .int v1)]) X.1.1 X.1.2.1 dX6_farOf_2 rfl hl (by decide) rfl (fun ls hl => ?_)
  refine lv_iconst (v := (iI 0)) X.1.1 X.1.2.1 dX6_farOf_3 rfl ?_
  refine lv_istore_n (lv' := [(3, .int (iI 0)), (2, .int (iI (-9))), (0, .ref m0), (1, .int v1)]) X.1.1 X.1.2.1 dX6_farOf_4 rfl hl (by decide) rfl (fun ls hl => ?_)
  have lp5 : ∀ (k : Int32 → Int32 → Option Int32), (∀ (v2_1001 : Int32) (v3_1001 : Int32) (ls : Array Slot), lv_has ls 4 [(0, .ref m0), (1, .int v1), (2, .int v2_1001), (3, .int v3_1001)] → k v2_1001 v3_1001 = some u → W p l e rm6_farOf s m ([.ref m0, .int v1] : List Value).toArray below meth c s.heap [] 0 0 (MQ below (QcRead u) ([.ref m0, .int v1] : List Value).toArray s 0 0 (fun _ => False)) (F0 m 32 ls [])) → ∀ (n : Nat) (v2_1001 : Int32) (v3_1001 : Int32) (ls : Array Slot), lv_has ls 4 [(0, .ref m0), (1, .int v1), (2, .int v2_1001), (3, .int v3_1001)] → l6_farOf_5 k v1 mth mki mof mpu mno n v2_1001 v3_1001 = some u → W p l e rm6_farOf s m ([.ref m0, .int v1] : List Value).toArray below meth c s.heap [] 0 0 (MQ below (QcRead u) ([.ref m0, .int v1] : List Value).toArray s 0 0 (fun _ => False)) (F0 m 5 ls []) := by
    intro k hex n
    induction n with
    | zero =>
      intro v2_1001 v3_1001 ls hl hE
      exact absurd (show (none : Option Int32) = some u from hE) (fun h => by cases h)
    | succ n ih =>
      intro v2_1001 v3_1001 ls hl hE
      rw [l6_farOf_5] at hE
      refine lv_iload_n X.1.1 X.1.2.1 dX6_farOf_5 rfl (lv_at hl 3 rfl) ?_
      refine lv_bipush (v := (iI 10)) X.1.1 X.1.2.1 dX6_farOf_6 (by decide) ?_
      refine lv_icmp_ge (tgt := 32) X.1.1 X.1.2.1 dX6_farOf_8 (by decide) (fun c_8 => ?_) (fun c_8 => ?_)
      · have hE := ite_t hE c_8
        exact hex v2_1001 v3_1001 ls (lv_sub hl [0, 1, 2, 3] rfl) hE
      · have hE := ite_f hE c_8
        refine lv_aload_n X.1.1 X.1.2.1 dX6_farOf_11 rfl (lv_at hl 0 rfl) ?_
        refine lv_iload_n X.1.1 X.1.2.1 dX6_farOf_12 rfl (lv_at hl 1 rfl) ?_
        refine lv_iload_n X.1.1 X.1.2.1 dX6_farOf_13 rfl (lv_at hl 3 rfl) ?_
        obtain ⟨u1002, e_u1002, hE⟩ := bd_some hE
        refine callRV (wsC := (wM cI cZ m0 m1 m2 m3 m4 m5 m6 m7 m8 m9 m10 m11 m12 m13 mwo mth mrn mrm mln mat mfa mac mnx mse msd mki mof mpu mno mrw mrt mtx mro mso msf msc mik mkt)) (As := [.int v1, .int v3_1001]) (rest := []) (ci := 6) X (c6_comesNow (l := l) e_u1002) o6_comesNow tw698 ⟨rfl, rfl, Nat.le_of_ble_eq_true rfl, Nat.le_of_ble_eq_true rfl⟩ hP hK 0 rfl rfl rfl rfl hl rfl (by decide) ⟨Nat.le_refl _, Nat.le_refl _⟩ dX6_farOf_14 ?_
        refine lv_if_eq (tgt := 24) X.1.1 X.1.2.1 dX6_farOf_17 (by decide) (fun c_17 => ?_) (fun c_17 => ?_)
        · have hE := ite_t hE c_17
          refine lv_iload_n X.1.1 X.1.2.1 dX6_farOf_24 rfl (lv_at hl 2 rfl) ?_
          refine lv_istore_n (lv' := [(2, .int v2_1001), (0, .ref m0), (1, .int v1), (3, .int v3_1001)]) X.1.1 X.1.2.1 dX6_farOf_25 rfl hl (by decide) rfl (fun ls hl => ?_)
          refine lv_iinc (v := (v3_1001 + (iI 1))) (lv' := [(3, .int (v3_1001 + (iI 1))), (2, .int v2_1001), (0, .ref m0), (1, .int v1)]) X.1.1 X.1.2.1 dX6_farOf_26 hl (k := 3) rfl rfl (by decide) rfl (fun ls hl => ?_)
          refine lv_goto (tgt := 5) X.1.1 X.1.2.1 dX6_farOf_29 (by decide) ?_
          exact ih v2_1001 (v3_1001 + (iI 1)) ls (lv_sub hl [2, 3, 1, 0] rfl) hE
        · have hE := ite_f hE c_17
          refine lv_iload_n X.1.1 X.1.2.1 dX6_farOf_20 rfl (lv_at hl 3 rfl) ?_
          refine lv_goto (tgt := 25) X.1.1 X.1.2.1 dX6_farOf_21 (by decide) ?_
          refine lv_istore_n (lv' := [(2, .int v3_1001), (0, .ref m0), (1, .int v1), (3, .int v3_1001)]) X.1.1 X.1.2.1 dX6_farOf_25 rfl hl (by decide) rfl (fun ls hl => ?_)
          refine lv_iinc (v := (v3_1001 + (iI 1))) (lv' := [(3, .int (v3_1001 + (iI 1))), (2, .int v3_1001), (0, .ref m0), (1, .int v1)]) X.1.1 X.1.2.1 dX6_farOf_26 hl (k := 3) rfl rfl (by decide) rfl (fun ls hl => ?_)
          refine lv_goto (tgt := 5) X.1.1 X.1.2.1 dX6_farOf_29 (by decide) ?_
          exact ih v3_1001 (v3_1001 + (iI 1)) ls (lv_sub hl [2, 3, 1, 0] rfl) hE
  refine lp5 _ (fun v2_1001 v3_1001 ls hl hE => ?_) FU (iI (-9)) (iI 0) ls (lv_sub hl [2, 3, 1, 0] rfl) hE
  refine lv_iload_n X.1.1 X.1.2.1 dX6_farOf_32 rfl (lv_at hl 2 rfl) ?_
  cases hE
  exact retR X dX6_farOf_33
theorem o6_wears : oV yX6_wears RX6 cX6_wears 2 (some .int) 1 := ⟨tw720, tw719, tw24, tw45, ⟨by decide +kernel, by decide +kernel⟩, by decide +kernel⟩
abbrev rm6_wears : Room := { frames := 0, cells := 0, slots := 0, locals := 0 }
set_option maxHeartbeats 4000000 in
set_option maxRecDepth 100000 in
theorem c6_wears {l : Launch} {G : va_G} {cI cZ : ClassId} {m0 m1 m2 m3 m4 m5 m6 m7 m8 m9 m10 m11 m12 m13 : Nat} {mwo : Int32} {mth : Int32} {mrn : Int32} {mrm : Int32} {mln : Int32} {mat : Int32} {mfa : Int32} {mac : Int32} {mnx : Int32} {mse : Int32} {msd : Int64} {mki : Nat → Int32} {mof : Nat → Int32} {mpu : Nat → Int32} {mno : Nat → Int32} {mrw : Nat → Int32} {mrt : Nat → Int32} {mtx : Nat → Int32} {mro : Nat → Int32} {mso : Nat → Int32} {msf : Nat → Int32} {msc : Nat → Int32} {mik : Nat → Int32} {mkt : Nat → Int32} {v1 : Int32} {u : Int32} (hE : f6_wears v1 mki = some u) : Met l yX6_wears (Cond.code yX6_wears cX6_wears 2 (some .int) :: TB) rm6_wears (PcR G cI cZ (wM cI cZ m0 m1 m2 m3 m4 m5 m6 m7 m8 m9 m10 m11 m12 m13 mwo mth mrn mrm mln mat mfa mac mnx mse msd mki mof mpu mno mrw mrt mtx mro mso msf msc mik mkt) ([.ref m0, .int v1] : List Value)) (QcRead u) 0 0 (fun _ => False) := by
  refine metR (own := RX6) (by decide +kernel) rfl (Nat.le_of_ble_eq_true rfl) ?_
  intro p e s m below meth c ls X hP hK hl
  have hl : lv_has ls 2 [(0, .ref m0), (1, .int v1)] := hl
  unfold f6_wears at hE
  refine lv_aload_n X.1.1 X.1.2.1 dX6_wears_0 rfl (lv_at hl 0 rfl) ?_
  refine gf6_7 X hK hP 0 rfl rfl dX6_wears_1 ?_
  refine lv_iload_n X.1.1 X.1.2.1 dX6_wears_4 rfl (lv_at hl 1 rfl) ?_
  obtain ⟨i_5, hE⟩ := ib_some hE
  refine va_iald X.1.1 X.1.2.1 hK hP 1 0 rfl rfl i_5 dX6_wears_5 ?_
  refine lv_iconst (v := (iI 2)) X.1.1 X.1.2.1 dX6_wears_6 rfl ?_
  refine lv_icmp_ne (tgt := 14) X.1.1 X.1.2.1 dX6_wears_7 (by decide) (fun c_7 => ?_) (fun c_7 => ?_)
  · have hE := ite_f hE c_7
    refine lv_iconst (v := (iI 1)) X.1.1 X.1.2.1 dX6_wears_14 rfl ?_
    cases hE
    exact retR X dX6_wears_15
  · have hE := ite_t hE c_7
    refine lv_iconst (v := (iI 2)) X.1.1 X.1.2.1 dX6_wears_10 rfl ?_
    refine lv_goto (tgt := 15) X.1.1 X.1.2.1 dX6_wears_11 (by decide) ?_
    cases hE
    exact retR X dX6_wears_15
theorem o6_word : oV yX6_word RX6 cX6_word 3 (some .int) 2 := ⟨tw689, tw687, tw688, tw45, ⟨by decide +kernel, by decide +kernel⟩, by decide +kernel⟩
abbrev rm6_word : Room := { frames := 5, cells := 0, slots := 0, locals := 116 }
set_option maxHeartbeats 4000000 in
set_option maxRecDepth 100000 in
theorem c6_word {l : Launch} {G : va_G} {cI cZ : ClassId} {m0 m1 m2 m3 m4 m5 m6 m7 m8 m9 m10 m11 m12 m13 : Nat} {mwo : Int32} {mth : Int32} {mrn : Int32} {mrm : Int32} {mln : Int32} {mat : Int32} {mfa : Int32} {mac : Int32} {mnx : Int32} {mse : Int32} {msd : Int64} {mki : Nat → Int32} {mof : Nat → Int32} {mpu : Nat → Int32} {mno : Nat → Int32} {mrw : Nat → Int32} {mrt : Nat → Int32} {mtx : Nat → Int32} {mro : Nat → Int32} {mso : Nat → Int32} {msf : Nat → Int32} {msc : Nat → Int32} {mik : Nat → Int32} {mkt : Nat → Int32} {v1 : Int32} {v2 : Int32} {u : Int32} (hE : f6_word v1 v2 mwo mth mki mof mpu mno = some u) : Met l yX6_word (Cond.code yX6_word cX6_word 3 (some .int) :: TB) rm6_word (PcR G cI cZ (wM cI cZ m0 m1 m2 m3 m4 m5 m6 m7 m8 m9 m10 m11 m12 m13 mwo mth mrn mrm mln mat mfa mac mnx mse msd mki mof mpu mno mrw mrt mtx mro mso msf msc mik mkt) ([.ref m0, .int v1, .int v2] : List Value)) (QcRead u) 0 0 (fun _ => False) := by
  refine metR (own := RX6) (by decide +kernel) rfl (Nat.le_of_ble_eq_true rfl) ?_
  intro p e s m below meth c ls X hP hK hl
  have hl : lv_has ls 3 [(0, .ref m0), (1, .int v1), (2, .int v2)] := hl
  unfold f6_word at hE
  refine lv_aload_n X.1.1 X.1.2.1 dX6_word_0 rfl (lv_at hl 0 rfl) ?_
  refine lv_iload_n X.1.1 X.1.2.1 dX6_word_1 rfl (lv_at hl 1 rfl) ?_
  obtain ⟨u1001, e_u1001, hE⟩ := bd_some hE
  refine callRV (wsC := (wM cI cZ m0 m1 m2 m3 m4 m5 m6 m7 m8 m9 m10 m11 m12 m13 mwo mth mrn mrm mln mat mfa mac mnx mse msd mki mof mpu mno mrw mrt mtx mro mso msf msc mik mkt)) (As := [.int v1]) (rest := []) (ci := 6) X (c6_isWord (l := l) e_u1001) o6_isWord tw690 ⟨rfl, rfl, Nat.le_of_ble_eq_true rfl, Nat.le_of_ble_eq_true rfl⟩ hP hK 0 rfl rfl rfl rfl hl rfl (by decide) ⟨Nat.le_refl _, Nat.le_refl _⟩ dX6_word_2 ?_
  refine lv_if_ne (tgt := 10) X.1.1 X.1.2.1 dX6_word_5 (by decide) (fun c_5 => ?_) (fun c_5 => ?_)
  · have hE := ite_f hE c_5
    refine lv_iload_n X.1.1 X.1.2.1 dX6_word_10 rfl (lv_at hl 2 rfl) ?_
    by_cases s_11_0 : v2 = (iI 0)
    · have hE := ite_t hE s_11_0
      refine tbIn (k := 0) (off := 37) (tgt := 48) X dX6_word_11 s_11_0 (by decide) (by decide) (by decide) rfl (by decide) ?_
      refine lv_aload_n X.1.1 X.1.2.1 dX6_word_48 rfl (lv_at hl 0 rfl) ?_
      refine gf6_19 X hK hP 0 rfl rfl dX6_word_49 ?_
      refine lv_iload_n X.1.1 X.1.2.1 dX6_word_52 rfl (lv_at hl 1 rfl) ?_
      obtain ⟨i_53, hE⟩ := ib_some hE
      refine va_iald X.1.1 X.1.2.1 hK hP 4 0 rfl rfl i_53 dX6_word_53 ?_
      cases hE
      exact retR X dX6_word_54
    · have hE := ite_f hE s_11_0
      by_cases s_11_1 : v2 = (iI 1)
      · have hE := ite_t hE s_11_1
        refine tbIn (k := 1) (off := 44) (tgt := 55) X dX6_word_11 s_11_1 (by decide) (by decide) (by decide) rfl (by decide) ?_
        refine lv_aload_n X.1.1 X.1.2.1 dX6_word_55 rfl (lv_at hl 0 rfl) ?_
        refine gf6_7 X hK hP 0 rfl rfl dX6_word_56 ?_
        refine lv_iload_n X.1.1 X.1.2.1 dX6_word_59 rfl (lv_at hl 1 rfl) ?_
        obtain ⟨i_60, hE⟩ := ib_some hE
        refine va_iald X.1.1 X.1.2.1 hK hP 1 0 rfl rfl i_60 dX6_word_60 ?_
        cases hE
        exact retR X dX6_word_61
      · have hE := ite_f hE s_11_1
        by_cases s_11_2 : v2 = (iI 2)
        · have hE := ite_t hE s_11_2
          refine tbIn (k := 2) (off := 51) (tgt := 62) X dX6_word_11 s_11_2 (by decide) (by decide) (by decide) rfl (by decide) ?_
          refine lv_aload_n X.1.1 X.1.2.1 dX6_word_62 rfl (lv_at hl 0 rfl) ?_
          refine lv_aload_n X.1.1 X.1.2.1 dX6_word_63 rfl (lv_at hl 0 rfl) ?_
          refine gf6_19 X hK hP 0 rfl rfl dX6_word_64 ?_
          refine lv_iload_n X.1.1 X.1.2.1 dX6_word_67 rfl (lv_at hl 1 rfl) ?_
          obtain ⟨i_68, hE⟩ := ib_some hE
          refine va_iald X.1.1 X.1.2.1 hK hP 4 0 rfl rfl i_68 dX6_word_68 ?_
          refine lv_iload_n X.1.1 X.1.2.1 dX6_word_69 rfl (lv_at hl 1 rfl) ?_
          refine lv_aload_n X.1.1 X.1.2.1 dX6_word_70 rfl (lv_at hl 0 rfl) ?_
          refine gf6_19 X hK hP 0 rfl rfl dX6_word_71 ?_
          refine lv_iconst (v := (iI 5)) X.1.1 X.1.2.1 dX6_word_74 rfl ?_
          refine va_iald X.1.1 X.1.2.1 hK hP 4 0 rfl rfl (vin (by decide)) dX6_word_75 ?_
          obtain ⟨u1002, e_u1002, hE⟩ := bd_some hE
          refine callRV (wsC := (wM cI cZ m0 m1 m2 m3 m4 m5 m6 m7 m8 m9 m10 m11 m12 m13 mwo mth mrn mrm mln mat mfa mac mnx mse msd mki mof mpu mno mrw mrt mtx mro mso msf msc mik mkt)) (As := [.int (mno v1.toNatClampNeg), .int v1, .int (mno (iI 5).toNatClampNeg)]) (rest := []) (ci := 6) X (c6_power (l := l) e_u1002) o6_power tw694 ⟨rfl, rfl, Nat.le_of_ble_eq_true rfl, Nat.le_of_ble_eq_true rfl⟩ hP hK 0 rfl rfl rfl rfl hl rfl (by decide) ⟨Nat.le_refl _, Nat.le_refl _⟩ dX6_word_76 ?_
          cases hE
          exact retR X dX6_word_79
        · have hE := ite_f hE s_11_2
          by_cases s_11_3 : v2 = (iI 3)
          · have hE := ite_t hE s_11_3
            refine tbIn (k := 3) (off := 69) (tgt := 80) X dX6_word_11 s_11_3 (by decide) (by decide) (by decide) rfl (by decide) ?_
            refine lv_aload_n X.1.1 X.1.2.1 dX6_word_80 rfl (lv_at hl 0 rfl) ?_
            refine lv_iload_n X.1.1 X.1.2.1 dX6_word_81 rfl (lv_at hl 1 rfl) ?_
            refine lv_aload_n X.1.1 X.1.2.1 dX6_word_82 rfl (lv_at hl 0 rfl) ?_
            refine gf6_19 X hK hP 0 rfl rfl dX6_word_83 ?_
            refine lv_iconst (v := (iI 5)) X.1.1 X.1.2.1 dX6_word_86 rfl ?_
            refine va_iald X.1.1 X.1.2.1 hK hP 4 0 rfl rfl (vin (by decide)) dX6_word_87 ?_
            obtain ⟨u1003, e_u1003, hE⟩ := bd_some hE
            refine callRV (wsC := (wM cI cZ m0 m1 m2 m3 m4 m5 m6 m7 m8 m9 m10 m11 m12 m13 mwo mth mrn mrm mln mat mfa mac mnx mse msd mki mof mpu mno mrw mrt mtx mro mso msf msc mik mkt)) (As := [.int v1, .int (mno (iI 5).toNatClampNeg)]) (rest := []) (ci := 6) X (c6_comesNow (l := l) e_u1003) o6_comesNow tw698 ⟨rfl, rfl, Nat.le_of_ble_eq_true rfl, Nat.le_of_ble_eq_true rfl⟩ hP hK 0 rfl rfl rfl rfl hl rfl (by decide) ⟨Nat.le_refl _, Nat.le_refl _⟩ dX6_word_88 ?_
            refine lv_if_eq (tgt := 98) X.1.1 X.1.2.1 dX6_word_91 (by decide) (fun c_91 => ?_) (fun c_91 => ?_)
            · have hE := ite_t hE c_91
              refine lv_iconst (v := (iI 0)) X.1.1 X.1.2.1 dX6_word_98 rfl ?_
              cases hE
              exact retR X dX6_word_99
            · have hE := ite_f hE c_91
              refine lv_iconst (v := (iI 1)) X.1.1 X.1.2.1 dX6_word_94 rfl ?_
              refine lv_goto (tgt := 99) X.1.1 X.1.2.1 dX6_word_95 (by decide) ?_
              cases hE
              exact retR X dX6_word_99
          · have hE := ite_f hE s_11_3
            by_cases s_11_4 : v2 = (iI 4)
            · have hE := ite_t hE s_11_4
              refine tbIn (k := 4) (off := 89) (tgt := 100) X dX6_word_11 s_11_4 (by decide) (by decide) (by decide) rfl (by decide) ?_
              refine lv_aload_n X.1.1 X.1.2.1 dX6_word_100 rfl (lv_at hl 0 rfl) ?_
              refine lv_iload_n X.1.1 X.1.2.1 dX6_word_101 rfl (lv_at hl 1 rfl) ?_
              obtain ⟨u1004, e_u1004, hE⟩ := bd_some hE
              refine callRV (wsC := (wM cI cZ m0 m1 m2 m3 m4 m5 m6 m7 m8 m9 m10 m11 m12 m13 mwo mth mrn mrm mln mat mfa mac mnx mse msd mki mof mpu mno mrw mrt mtx mro mso msf msc mik mkt)) (As := [.int v1]) (rest := []) (ci := 6) X (c6_farOf (l := l) e_u1004) o6_farOf tw713 ⟨rfl, rfl, Nat.le_of_ble_eq_true rfl, Nat.le_of_ble_eq_true rfl⟩ hP hK 0 rfl rfl rfl rfl hl rfl (by decide) ⟨Nat.le_refl _, Nat.le_refl _⟩ dX6_word_102 ?_
              cases hE
              exact retR X dX6_word_105
            · have hE := ite_f hE s_11_4
              by_cases s_11_5 : v2 = (iI 5)
              · have hE := ite_t hE s_11_5
                refine tbIn (k := 5) (off := 95) (tgt := 106) X dX6_word_11 s_11_5 (by decide) (by decide) (by decide) rfl (by decide) ?_
                refine lv_aload_n X.1.1 X.1.2.1 dX6_word_106 rfl (lv_at hl 0 rfl) ?_
                refine gf6_19 X hK hP 0 rfl rfl dX6_word_107 ?_
                refine lv_iload_n X.1.1 X.1.2.1 dX6_word_110 rfl (lv_at hl 1 rfl) ?_
                obtain ⟨i_111, hE⟩ := ib_some hE
                refine va_iald X.1.1 X.1.2.1 hK hP 4 0 rfl rfl i_111 dX6_word_111 ?_
                refine lv_aload_n X.1.1 X.1.2.1 dX6_word_112 rfl (lv_at hl 0 rfl) ?_
                refine lv_iload_n X.1.1 X.1.2.1 dX6_word_113 rfl (lv_at hl 1 rfl) ?_
                obtain ⟨u1005, e_u1005, hE⟩ := bd_some hE
                refine callRV (wsC := (wM cI cZ m0 m1 m2 m3 m4 m5 m6 m7 m8 m9 m10 m11 m12 m13 mwo mth mrn mrm mln mat mfa mac mnx mse msd mki mof mpu mno mrw mrt mtx mro mso msf msc mik mkt)) (As := [.int v1]) (rest := [.int (mno v1.toNatClampNeg)]) (ci := 6) X (c6_wears (l := l) e_u1005) o6_wears tw717 ⟨rfl, rfl, Nat.le_of_ble_eq_true rfl, Nat.le_of_ble_eq_true rfl⟩ hP hK 0 rfl rfl rfl rfl hl rfl (Nat.le_of_ble_eq_true rfl) ⟨Nat.le_refl _, Nat.le_refl _⟩ dX6_word_114 ?_
                refine lv_iadd X.1.1 X.1.2.1 dX6_word_117 ?_
                refine lv_iconst (v := (iI 1)) X.1.1 X.1.2.1 dX6_word_118 rfl ?_
                refine lv_isub X.1.1 X.1.2.1 dX6_word_119 ?_
                refine lv_aload_n X.1.1 X.1.2.1 dX6_word_120 rfl (lv_at hl 0 rfl) ?_
                refine lv_iload_n X.1.1 X.1.2.1 dX6_word_121 rfl (lv_at hl 1 rfl) ?_
                obtain ⟨u1006, e_u1006, hE⟩ := bd_some hE
                refine callRV (wsC := (wM cI cZ m0 m1 m2 m3 m4 m5 m6 m7 m8 m9 m10 m11 m12 m13 mwo mth mrn mrm mln mat mfa mac mnx mse msd mki mof mpu mno mrw mrt mtx mro mso msf msc mik mkt)) (As := [.int v1]) (rest := [.int (((mno v1.toNatClampNeg) + u1005) - (iI 1))]) (ci := 6) X (c6_wears (l := l) e_u1006) o6_wears tw717 ⟨rfl, rfl, Nat.le_of_ble_eq_true rfl, Nat.le_of_ble_eq_true rfl⟩ hP hK 0 rfl rfl rfl rfl hl rfl (Nat.le_of_ble_eq_true rfl) ⟨Nat.le_refl _, Nat.le_refl _⟩ dX6_word_122 ?_
                obtain ⟨g_125, hE⟩ := nz_some hE
                refine lv_idiv X.1.1 X.1.2.1 dX6_word_125 g_125 ?_
                cases hE
                exact retR X dX6_word_126
              · have hE := ite_f hE s_11_5
                have ns_11_0 := sw_ne s_11_0 (by decide) (by decide)
                have ns_11_1 := sw_ne s_11_1 (by decide) (by decide)
                have ns_11_2 := sw_ne s_11_2 (by decide) (by decide)
                have ns_11_3 := sw_ne s_11_3 (by decide) (by decide)
                have ns_11_4 := sw_ne s_11_4 (by decide) (by decide)
                have ns_11_5 := sw_ne s_11_5 (by decide) (by decide)
                refine lv_tableOut (tgt := 127) X.1.1 X.1.2.1 dX6_word_11 (by omega) (by decide) ?_
                refine lv_bipush (v := (iI (-2))) X.1.1 X.1.2.1 dX6_word_127 (by decide) ?_
                cases hE
                exact retR X dX6_word_129
  · have hE := ite_t hE c_5
    refine lv_iconst (v := (iI (-1))) X.1.1 X.1.2.1 dX6_word_8 rfl ?_
    cases hE
    exact retR X dX6_word_9
theorem o6_thing : oV yX6_thing RX6 cX6_thing 3 (some .int) 2 := ⟨tw724, tw722, tw723, tw45, ⟨by decide +kernel, by decide +kernel⟩, by decide +kernel⟩
abbrev rm6_thing : Room := { frames := 1, cells := 0, slots := 0, locals := 25 }
set_option maxHeartbeats 4000000 in
set_option maxRecDepth 100000 in
theorem c6_thing {l : Launch} {G : va_G} {cI cZ : ClassId} {m0 m1 m2 m3 m4 m5 m6 m7 m8 m9 m10 m11 m12 m13 : Nat} {mwo : Int32} {mth : Int32} {mrn : Int32} {mrm : Int32} {mln : Int32} {mat : Int32} {mfa : Int32} {mac : Int32} {mnx : Int32} {mse : Int32} {msd : Int64} {mki : Nat → Int32} {mof : Nat → Int32} {mpu : Nat → Int32} {mno : Nat → Int32} {mrw : Nat → Int32} {mrt : Nat → Int32} {mtx : Nat → Int32} {mro : Nat → Int32} {mso : Nat → Int32} {msf : Nat → Int32} {msc : Nat → Int32} {mik : Nat → Int32} {mkt : Nat → Int32} {v1 : Int32} {v2 : Int32} {u : Int32} (hE : f6_thing v1 v2 mth mof mpu = some u) : Met l yX6_thing (Cond.code yX6_thing cX6_thing 3 (some .int) :: TB) rm6_thing (PcR G cI cZ (wM cI cZ m0 m1 m2 m3 m4 m5 m6 m7 m8 m9 m10 m11 m12 m13 mwo mth mrn mrm mln mat mfa mac mnx mse msd mki mof mpu mno mrw mrt mtx mro mso msf msc mik mkt) ([.ref m0, .int v1, .int v2] : List Value)) (QcRead u) 0 0 (fun _ => False) := by
  refine metR (own := RX6) (by decide +kernel) rfl (Nat.le_of_ble_eq_true rfl) ?_
  intro p e s m below meth c ls X hP hK hl
  have hl : lv_has ls 3 [(0, .ref m0), (1, .int v1), (2, .int v2)] := hl
  unfold f6_thing at hE
  refine lv_iload_n X.1.1 X.1.2.1 dX6_thing_0 rfl (lv_at hl 1 rfl) ?_
  refine lv_i2l (v := v1.toInt64) X.1.1 X.1.2.1 dX6_thing_1 rfl ?_
  refine lv_lconst (v := (Int64.ofNat 0)) X.1.1 X.1.2.1 dX6_thing_2 rfl ?_
  refine lv_aload_n X.1.1 X.1.2.1 dX6_thing_3 rfl (lv_at hl 0 rfl) ?_
  refine gf6_83 X hK hP 0 rfl rfl dX6_thing_4 ?_
  refine lv_iconst (v := (iI 1)) X.1.1 X.1.2.1 dX6_thing_7 rfl ?_
  refine lv_isub X.1.1 X.1.2.1 dX6_thing_8 ?_
  refine lv_i2l (v := (mth - (iI 1)).toInt64) X.1.1 X.1.2.1 dX6_thing_9 rfl ?_
  obtain ⟨u1001, e_u1001, hE⟩ := bd_some hE
  refine callRS (wsC := []) (As := [.long (v1.toInt64), .long (Int64.ofNat 0), .long ((mth - (iI 1)).toInt64)]) (rest := []) (cI := cI) (cZ := cZ) X (c6_in (l := l) (G := G) (cI := cI) (cZ := cZ) e_u1001) o6_in tw663 ⟨rfl, rfl, Nat.le_of_ble_eq_true rfl, Nat.le_of_ble_eq_true rfl⟩ va_P_nil hK rfl hl rfl (by decide) ⟨Nat.le_refl _, Nat.le_refl _⟩ dX6_thing_10 ?_
  refine lv_if_ne (tgt := 18) X.1.1 X.1.2.1 dX6_thing_13 (by decide) (fun c_13 => ?_) (fun c_13 => ?_)
  · have hE := ite_f hE c_13
    refine lv_iload_n X.1.1 X.1.2.1 dX6_thing_18 rfl (lv_at hl 2 rfl) ?_
    refine lv_if_ne (tgt := 31) X.1.1 X.1.2.1 dX6_thing_19 (by decide) (fun c_19 => ?_) (fun c_19 => ?_)
    · have hE := ite_f hE c_19
      refine lv_iload_n X.1.1 X.1.2.1 dX6_thing_31 rfl (lv_at hl 2 rfl) ?_
      refine lv_iconst (v := (iI 1)) X.1.1 X.1.2.1 dX6_thing_32 rfl ?_
      refine lv_icmp_ne (tgt := 45) X.1.1 X.1.2.1 dX6_thing_33 (by decide) (fun c_33 => ?_) (fun c_33 => ?_)
      · have hE := ite_f hE c_33
        refine lv_bipush (v := (iI (-2))) X.1.1 X.1.2.1 dX6_thing_45 (by decide) ?_
        cases hE
        exact retR X dX6_thing_47
      · have hE := ite_t hE c_33
        refine lv_aload_n X.1.1 X.1.2.1 dX6_thing_36 rfl (lv_at hl 0 rfl) ?_
        refine gf6_16 X hK hP 0 rfl rfl dX6_thing_37 ?_
        refine lv_iload_n X.1.1 X.1.2.1 dX6_thing_40 rfl (lv_at hl 1 rfl) ?_
        obtain ⟨i_41, hE⟩ := ib_some hE
        refine va_iald X.1.1 X.1.2.1 hK hP 3 0 rfl rfl i_41 dX6_thing_41 ?_
        refine lv_goto (tgt := 47) X.1.1 X.1.2.1 dX6_thing_42 (by decide) ?_
        cases hE
        exact retR X dX6_thing_47
    · have hE := ite_t hE c_19
      refine lv_aload_n X.1.1 X.1.2.1 dX6_thing_22 rfl (lv_at hl 0 rfl) ?_
      refine gf6_13 X hK hP 0 rfl rfl dX6_thing_23 ?_
      refine lv_iload_n X.1.1 X.1.2.1 dX6_thing_26 rfl (lv_at hl 1 rfl) ?_
      obtain ⟨i_27, hE⟩ := ib_some hE
      refine va_iald X.1.1 X.1.2.1 hK hP 2 0 rfl rfl i_27 dX6_thing_27 ?_
      refine lv_goto (tgt := 47) X.1.1 X.1.2.1 dX6_thing_28 (by decide) ?_
      cases hE
      exact retR X dX6_thing_47
  · have hE := ite_t hE c_13
    refine lv_iconst (v := (iI (-1))) X.1.1 X.1.2.1 dX6_thing_16 rfl ?_
    cases hE
    exact retR X dX6_thing_17
theorem o6_pull : oV yX6_pull RX6 cX6_pull 2 (some .int) 1 := ⟨tw728, tw726, tw727, tw45, ⟨by decide +kernel, by decide +kernel⟩, by decide +kernel⟩
abbrev rm6_pull : Room := { frames := 2, cells := 0, slots := 0, locals := 46 }
set_option maxHeartbeats 4000000 in
set_option maxRecDepth 100000 in
theorem c6_pull {l : Launch} {G : va_G} {cI cZ : ClassId} {m0 m1 m2 m3 m4 m5 m6 m7 m8 m9 m10 m11 m12 m13 : Nat} {mwo : Int32} {mth : Int32} {mrn : Int32} {mrm : Int32} {mln : Int32} {mat : Int32} {mfa : Int32} {mac : Int32} {mnx : Int32} {mse : Int32} {msd : Int64} {mki : Nat → Int32} {mof : Nat → Int32} {mpu : Nat → Int32} {mno : Nat → Int32} {mrw : Nat → Int32} {mrt : Nat → Int32} {mtx : Nat → Int32} {mro : Nat → Int32} {mso : Nat → Int32} {msf : Nat → Int32} {msc : Nat → Int32} {mik : Nat → Int32} {mkt : Nat → Int32} {v1 : Int32} {u : Int32} (hE : f6_pull v1 mth mof mpu = some u) : Met l yX6_pull (Cond.code yX6_pull cX6_pull 2 (some .int) :: TB) rm6_pull (PcR G cI cZ (wM cI cZ m0 m1 m2 m3 m4 m5 m6 m7 m8 m9 m10 m11 m12 m13 mwo mth mrn mrm mln mat mfa mac mnx mse msd mki mof mpu mno mrw mrt mtx mro mso msf msc mik mkt) ([.ref m0, .int v1] : List Value)) (QcRead u) 0 0 (fun _ => False) := by
  refine metR (own := RX6) (by decide +kernel) rfl (Nat.le_of_ble_eq_true rfl) ?_
  intro p e s m below meth c ls X hP hK hl
  have hl : lv_has ls 2 [(0, .ref m0), (1, .int v1)] := hl
  unfold f6_pull at hE
  refine lv_iload_n X.1.1 X.1.2.1 dX6_pull_0 rfl (lv_at hl 1 rfl) ?_
  refine lv_i2l (v := v1.toInt64) X.1.1 X.1.2.1 dX6_pull_1 rfl ?_
  refine lv_lconst (v := (Int64.ofNat 0)) X.1.1 X.1.2.1 dX6_pull_2 rfl ?_
  refine lv_ldc2 X.1.1 X.1.2.1 X.1.2.2.2.1 (X.1.2.2.2.2 _ tw729) dX6_pull_3 ?_
  obtain ⟨u1001, e_u1001, hE⟩ := bd_some hE
  refine callRS (wsC := []) (As := [.long (v1.toInt64), .long (Int64.ofNat 0), .long (9 : Int64)]) (rest := []) (cI := cI) (cZ := cZ) X (c6_in (l := l) (G := G) (cI := cI) (cZ := cZ) e_u1001) o6_in tw663 ⟨rfl, rfl, Nat.le_of_ble_eq_true rfl, Nat.le_of_ble_eq_true rfl⟩ va_P_nil hK rfl hl rfl (by decide) ⟨Nat.le_refl _, Nat.le_refl _⟩ dX6_pull_6 ?_
  refine lv_if_eq (tgt := 22) X.1.1 X.1.2.1 dX6_pull_9 (by decide) (fun c_9 => ?_) (fun c_9 => ?_)
  · have hE := ite_t hE c_9
    refine lv_bipush (v := (iI (-2))) X.1.1 X.1.2.1 dX6_pull_22 (by decide) ?_
    cases hE
    exact retR X dX6_pull_24
  · have hE := ite_f hE c_9
    refine lv_aload_n X.1.1 X.1.2.1 dX6_pull_12 rfl (lv_at hl 0 rfl) ?_
    refine lv_iload_n X.1.1 X.1.2.1 dX6_pull_13 rfl (lv_at hl 1 rfl) ?_
    refine lv_bipush (v := (iI 15)) X.1.1 X.1.2.1 dX6_pull_14 (by decide) ?_
    obtain ⟨u1002, e_u1002, hE⟩ := bd_some hE
    refine callRV (wsC := (wM cI cZ m0 m1 m2 m3 m4 m5 m6 m7 m8 m9 m10 m11 m12 m13 mwo mth mrn mrm mln mat mfa mac mnx mse msd mki mof mpu mno mrw mrt mtx mro mso msf msc mik mkt)) (As := [.int v1, .int (iI 15)]) (rest := []) (ci := 6) X (c6_pullAt (l := l) e_u1002) o6_pullAt tw706 ⟨rfl, rfl, Nat.le_of_ble_eq_true rfl, Nat.le_of_ble_eq_true rfl⟩ hP hK 0 rfl rfl rfl rfl hl rfl (by decide) ⟨Nat.le_refl _, Nat.le_refl _⟩ dX6_pull_16 ?_
    refine lv_goto (tgt := 24) X.1.1 X.1.2.1 dX6_pull_19 (by decide) ?_
    cases hE
    exact retR X dX6_pull_24
theorem o6_callOn : oV yX6_callOn RX6 cX6_callOn 8 (some .boolean) 2 := ⟨tw741, tw740, tw26, tw45, ⟨by decide +kernel, by decide +kernel⟩, by decide +kernel⟩
abbrev rm6_callOn : Room := { frames := 3, cells := 0, slots := 0, locals := 71 }
set_option maxHeartbeats 4000000 in
set_option maxRecDepth 100000 in
theorem c6_callOn {l : Launch} {G : va_G} {cI cZ : ClassId} {m0 m1 m2 m3 m4 m5 m6 m7 m8 m9 m10 m11 m12 m13 : Nat} {mwo : Int32} {mth : Int32} {mrn : Int32} {mrm : Int32} {mln : Int32} {mat : Int32} {mfa : Int32} {mac : Int32} {mnx : Int32} {mse : Int32} {msd : Int64} {mki : Nat → Int32} {mof : Nat → Int32} {mpu : Nat → Int32} {mno : Nat → Int32} {mrw : Nat → Int32} {mrt : Nat → Int32} {mtx : Nat → Int32} {mro : Nat → Int32} {mso : Nat → Int32} {msf : Nat → Int32} {msc : Nat → Int32} {mik : Nat → Int32} {mkt : Nat → Int32} {v1 : Int32} {v2 : Int32} {sz : Nat} {u : Int32 × (Nat → Int32)} (hE : f6_callOn v1 v2 mth mki mof mpu mno = some u) : Met l yX6_callOn (Cond.code yX6_callOn cX6_callOn 8 (some .boolean) :: TB) rm6_callOn (PcW G cI cZ (wM cI cZ m0 m1 m2 m3 m4 m5 m6 m7 m8 m9 m10 m11 m12 m13 mwo mth mrn mrm mln mat mfa mac mnx mse msd mki mof mpu mno mrw mrt mtx mro mso msf msc mik mkt) sz ([.ref m0, .int v1, .int v2] : List Value)) (QW G (some (.int u.1)) (wM cI cZ m0 m1 m2 m3 m4 m5 m6 m7 m8 m9 m10 m11 m12 m13 mwo mth mrn mrm mln mat mfa mac mnx mse msd mki mof mpu u.2 mrw mrt mtx mro mso msf msc mik mkt) (va_A (wM cI cZ m0 m1 m2 m3 m4 m5 m6 m7 m8 m9 m10 m11 m12 m13 mwo mth mrn mrm mln mat mfa mac mnx mse msd mki mof mpu mno mrw mrt mtx mro mso msf msc mik mkt) sz)) 0 0 (va_A (wM cI cZ m0 m1 m2 m3 m4 m5 m6 m7 m8 m9 m10 m11 m12 m13 mwo mth mrn mrm mln mat mfa mac mnx mse msd mki mof mpu mno mrw mrt mtx mro mso msf msc mik mkt) sz) := by
  refine metW (own := RX6) (by decide +kernel) rfl (Nat.le_of_ble_eq_true rfl) ?_
  intro p e s m below meth c ls A X hA hP hK hD hl
  have hS : va_S A s.heap s.heap [] := va_S.rf
  have hl : lv_has ls 8 [(0, .ref m0), (1, .int v1), (2, .int v2)] := hl
  unfold f6_callOn at hE
  refine lv_bipush (v := (iI 10)) X.1.1 X.1.2.1 dX6_callOn_0 (by decide) ?_
  refine lv_iload_n X.1.1 X.1.2.1 dX6_callOn_2 rfl (lv_at hl 1 rfl) ?_
  refine lv_imul X.1.1 X.1.2.1 dX6_callOn_3 ?_
  refine lv_istore_n (lv' := [(3, .int ((iI 10) * v1)), (0, .ref m0), (1, .int v1), (2, .int v2)]) X.1.1 X.1.2.1 dX6_callOn_4 rfl hl (by decide) rfl (fun ls hl => ?_)
  refine lv_aload_n X.1.1 X.1.2.1 dX6_callOn_5 rfl (lv_at hl 1 rfl) ?_
  refine gf6_19 X hK hP 0 rfl rfl dX6_callOn_6 ?_
  refine lv_iload_n X.1.1 X.1.2.1 dX6_callOn_9 rfl (lv_at hl 0 rfl) ?_
  refine lv_iconst (v := (iI 5)) X.1.1 X.1.2.1 dX6_callOn_10 rfl ?_
  refine lv_iadd X.1.1 X.1.2.1 dX6_callOn_11 ?_
  obtain ⟨i_12, hE⟩ := ib_some hE
  refine va_iald X.1.1 X.1.2.1 hK hP 4 0 rfl rfl i_12 dX6_callOn_12 ?_
  refine lv_istore (lv' := [(4, .int (mno (((iI 10) * v1) + (iI 5)).toNatClampNeg)), (3, .int ((iI 10) * v1)), (0, .ref m0), (1, .int v1), (2, .int v2)]) X.1.1 X.1.2.1 dX6_callOn_13 hl (by decide) rfl (fun ls hl => ?_)
  refine lv_aload_n X.1.1 X.1.2.1 dX6_callOn_15 rfl (lv_at hl 2 rfl) ?_
  refine gf6_19 X hK hP 0 rfl rfl dX6_callOn_16 ?_
  refine lv_iload_n X.1.1 X.1.2.1 dX6_callOn_19 rfl (lv_at hl 1 rfl) ?_
  refine lv_bipush (v := (iI 7)) X.1.1 X.1.2.1 dX6_callOn_20 (by decide) ?_
  refine lv_iadd X.1.1 X.1.2.1 dX6_callOn_22 ?_
  obtain ⟨i_23, hE⟩ := ib_some hE
  refine va_iald X.1.1 X.1.2.1 hK hP 4 0 rfl rfl i_23 dX6_callOn_23 ?_
  refine lv_aload_n X.1.1 X.1.2.1 dX6_callOn_24 rfl (lv_at hl 2 rfl) ?_
  refine gf6_19 X hK hP 0 rfl rfl dX6_callOn_25 ?_
  refine lv_bipush (v := (iI 7)) X.1.1 X.1.2.1 dX6_callOn_28 (by decide) ?_
  refine va_iald X.1.1 X.1.2.1 hK hP 4 0 rfl rfl (vin (by decide)) dX6_callOn_30 ?_
  refine lv_isub X.1.1 X.1.2.1 dX6_callOn_31 ?_
  refine lv_istore (lv' := [(5, .int ((mno (((iI 10) * v1) + (iI 7)).toNatClampNeg) - (mno (iI 7).toNatClampNeg))), (4, .int (mno (((iI 10) * v1) + (iI 5)).toNatClampNeg)), (3, .int ((iI 10) * v1)), (0, .ref m0), (1, .int v1), (2, .int v2)]) X.1.1 X.1.2.1 dX6_callOn_32 hl (by decide) rfl (fun ls hl => ?_)
  refine lv_aload_n X.1.1 X.1.2.1 dX6_callOn_34 rfl (lv_at hl 3 rfl) ?_
  refine lv_aload_n X.1.1 X.1.2.1 dX6_callOn_35 rfl (lv_at hl 3 rfl) ?_
  refine gf6_19 X hK hP 0 rfl rfl dX6_callOn_36 ?_
  refine lv_iload_n X.1.1 X.1.2.1 dX6_callOn_39 rfl (lv_at hl 2 rfl) ?_
  refine lv_iload_n X.1.1 X.1.2.1 dX6_callOn_40 rfl (lv_at hl 5 rfl) ?_
  refine lv_iadd X.1.1 X.1.2.1 dX6_callOn_41 ?_
  obtain ⟨i_42, hE⟩ := ib_some hE
  refine va_iald X.1.1 X.1.2.1 hK hP 4 0 rfl rfl i_42 dX6_callOn_42 ?_
  refine lv_iload X.1.1 X.1.2.1 dX6_callOn_43 (lv_at hl 0 rfl) ?_
  refine lv_iadd X.1.1 X.1.2.1 dX6_callOn_45 ?_
  refine lv_iload_n X.1.1 X.1.2.1 dX6_callOn_46 rfl (lv_at hl 5 rfl) ?_
  refine lv_iload X.1.1 X.1.2.1 dX6_callOn_47 (lv_at hl 1 rfl) ?_
  refine lv_bipush (v := (iI 15)) X.1.1 X.1.2.1 dX6_callOn_49 (by decide) ?_
  obtain ⟨u1001, e_u1001, hE⟩ := bd_some hE
  refine callRV (wsC := (wM cI cZ m0 m1 m2 m3 m4 m5 m6 m7 m8 m9 m10 m11 m12 m13 mwo mth mrn mrm mln mat mfa mac mnx mse msd mki mof mpu mno mrw mrt mtx mro mso msf msc mik mkt)) (As := [.int ((mno (((iI 10) * v1) + v2).toNatClampNeg) + ((mno (((iI 10) * v1) + (iI 7)).toNatClampNeg) - (mno (iI 7).toNatClampNeg))), .int v2, .int (mno (((iI 10) * v1) + (iI 5)).toNatClampNeg), .int (iI 15)]) (rest := []) (ci := 6) X (c6_comesBy (l := l) e_u1001) o6_comesBy tw702 ⟨rfl, rfl, Nat.le_of_ble_eq_true rfl, Nat.le_of_ble_eq_true rfl⟩ hP hK 0 rfl rfl rfl rfl hl rfl (by decide) ⟨Nat.le_refl _, Nat.le_refl _⟩ dX6_callOn_51 ?_
  refine lv_istore (lv' := [(6, .int u1001), (5, .int ((mno (((iI 10) * v1) + (iI 7)).toNatClampNeg) - (mno (iI 7).toNatClampNeg))), (4, .int (mno (((iI 10) * v1) + (iI 5)).toNatClampNeg)), (3, .int ((iI 10) * v1)), (0, .ref m0), (1, .int v1), (2, .int v2)]) X.1.1 X.1.2.1 dX6_callOn_54 hl (by decide) rfl (fun ls hl => ?_)
  refine lv_aload_n X.1.1 X.1.2.1 dX6_callOn_56 rfl (lv_at hl 4 rfl) ?_
  refine gf6_19 X hK hP 0 rfl rfl dX6_callOn_57 ?_
  refine lv_iload_n X.1.1 X.1.2.1 dX6_callOn_60 rfl (lv_at hl 3 rfl) ?_
  refine lv_bipush (v := (iI 9)) X.1.1 X.1.2.1 dX6_callOn_61 (by decide) ?_
  refine lv_iadd X.1.1 X.1.2.1 dX6_callOn_63 ?_
  refine lv_dup2_11 X.1.1 X.1.2.1 dX6_callOn_64 rfl rfl ?_
  obtain ⟨i_65, hE⟩ := ib_some hE
  refine va_iald X.1.1 X.1.2.1 hK hP 4 0 rfl rfl i_65 dX6_callOn_65 ?_
  refine lv_iconst (v := (iI 1)) X.1.1 X.1.2.1 dX6_callOn_66 rfl ?_
  refine lv_iadd X.1.1 X.1.2.1 dX6_callOn_67 ?_
  obtain ⟨i_68, hE⟩ := ib_some hE
  refine astI (t0 := 0) (ws' := (wM cI cZ m0 m1 m2 m3 m4 m5 m6 m7 m8 m9 m10 m11 m12 m13 mwo mth mrn mrm mln mat mfa mac mnx mse msd mki mof mpu (upd mno (((iI 10) * v1) + (iI 9)).toNatClampNeg ((mno (((iI 10) * v1) + (iI 9)).toNatClampNeg) + (iI 1))) mrw mrt mtx mro mso msf msc mik mkt)) X hK hP hD hS 4 0 rfl rfl i_68 rfl dX6_callOn_68 (fun H locs hP hD hS => ?_)
  refine lv_iload X.1.1 X.1.2.1 dX6_callOn_69 (lv_at hl 0 rfl) ?_
  refine lv_if_eq (tgt := 95) X.1.1 X.1.2.1 dX6_callOn_71 (by decide) (fun c_71 => ?_) (fun c_71 => ?_)
  · have hE := ite_t hE c_71
    refine lv_aload_n X.1.1 X.1.2.1 dX6_callOn_95 rfl (lv_at hl 4 rfl) ?_
    refine gf6_19 X hK hP 0 rfl rfl dX6_callOn_96 ?_
    refine lv_iload_n X.1.1 X.1.2.1 dX6_callOn_99 rfl (lv_at hl 3 rfl) ?_
    refine lv_iload_n X.1.1 X.1.2.1 dX6_callOn_100 rfl (lv_at hl 6 rfl) ?_
    refine lv_iadd X.1.1 X.1.2.1 dX6_callOn_101 ?_
    obtain ⟨i_102, hE⟩ := ib_some hE
    refine va_iald X.1.1 X.1.2.1 hK hP 4 0 rfl rfl i_102 dX6_callOn_102 ?_
    refine lv_aload_n X.1.1 X.1.2.1 dX6_callOn_103 rfl (lv_at hl 4 rfl) ?_
    refine lv_iload_n X.1.1 X.1.2.1 dX6_callOn_104 rfl (lv_at hl 6 rfl) ?_
    obtain ⟨u1002, e_u1002, hE⟩ := bd_some hE
    refine callRV (wsC := (wM cI cZ m0 m1 m2 m3 m4 m5 m6 m7 m8 m9 m10 m11 m12 m13 mwo mth mrn mrm mln mat mfa mac mnx mse msd mki mof mpu (upd mno (((iI 10) * v1) + (iI 9)).toNatClampNeg ((mno (((iI 10) * v1) + (iI 9)).toNatClampNeg) + (iI 1))) mrw mrt mtx mro mso msf msc mik mkt)) (As := [.int v2]) (rest := [.int ((upd mno (((iI 10) * v1) + (iI 9)).toNatClampNeg ((mno (((iI 10) * v1) + (iI 9)).toNatClampNeg) + (iI 1))) (((iI 10) * v1) + v2).toNatClampNeg)]) (ci := 6) X (c6_wears (l := l) e_u1002) o6_wears tw717 ⟨rfl, rfl, Nat.le_of_ble_eq_true rfl, Nat.le_of_ble_eq_true rfl⟩ hP hK 0 rfl rfl rfl rfl hl rfl (Nat.le_of_ble_eq_true rfl) ⟨Nat.le_refl _, Nat.le_refl _⟩ dX6_callOn_105 ?_
    refine lv_isub X.1.1 X.1.2.1 dX6_callOn_108 ?_
    refine lv_istore (lv' := [(7, .int (((upd mno (((iI 10) * v1) + (iI 9)).toNatClampNeg ((mno (((iI 10) * v1) + (iI 9)).toNatClampNeg) + (iI 1))) (((iI 10) * v1) + v2).toNatClampNeg) - u1002)), (6, .int u1001), (5, .int ((mno (((iI 10) * v1) + (iI 7)).toNatClampNeg) - (mno (iI 7).toNatClampNeg))), (4, .int (mno (((iI 10) * v1) + (iI 5)).toNatClampNeg)), (3, .int ((iI 10) * v1)), (0, .ref m0), (1, .int v1), (2, .int v2)]) X.1.1 X.1.2.1 dX6_callOn_109 hl (by decide) rfl (fun ls hl => ?_)
    refine lv_aload_n X.1.1 X.1.2.1 dX6_callOn_111 rfl (lv_at hl 5 rfl) ?_
    refine gf6_19 X hK hP 0 rfl rfl dX6_callOn_112 ?_
    refine lv_iload_n X.1.1 X.1.2.1 dX6_callOn_115 rfl (lv_at hl 4 rfl) ?_
    refine lv_iload_n X.1.1 X.1.2.1 dX6_callOn_116 rfl (lv_at hl 7 rfl) ?_
    refine lv_iadd X.1.1 X.1.2.1 dX6_callOn_117 ?_
    refine lv_iload X.1.1 X.1.2.1 dX6_callOn_118 (lv_at hl 0 rfl) ?_
    refine lv_if_ge (tgt := 127) X.1.1 X.1.2.1 dX6_callOn_120 (by decide) (fun c_120 => ?_) (fun c_120 => ?_)
    · have hE := ite_t hE c_120
      refine lv_iload X.1.1 X.1.2.1 dX6_callOn_127 (lv_at hl 0 rfl) ?_
      obtain ⟨i_129, hE⟩ := ib_some hE
      refine astI (t0 := 0) (ws' := (wM cI cZ m0 m1 m2 m3 m4 m5 m6 m7 m8 m9 m10 m11 m12 m13 mwo mth mrn mrm mln mat mfa mac mnx mse msd mki mof mpu (upd (upd mno (((iI 10) * v1) + (iI 9)).toNatClampNeg ((mno (((iI 10) * v1) + (iI 9)).toNatClampNeg) + (iI 1))) (((iI 10) * v1) + v2).toNatClampNeg (((upd mno (((iI 10) * v1) + (iI 9)).toNatClampNeg ((mno (((iI 10) * v1) + (iI 9)).toNatClampNeg) + (iI 1))) (((iI 10) * v1) + v2).toNatClampNeg) - u1002)) mrw mrt mtx mro mso msf msc mik mkt)) X hK hP hD hS 4 0 rfl rfl i_129 rfl dX6_callOn_129 (fun H locs hP hD hS => ?_)
      refine lv_aload_n X.1.1 X.1.2.1 dX6_callOn_130 rfl (lv_at hl 5 rfl) ?_
      refine gf6_19 X hK hP 0 rfl rfl dX6_callOn_131 ?_
      refine lv_iload_n X.1.1 X.1.2.1 dX6_callOn_134 rfl (lv_at hl 4 rfl) ?_
      refine lv_bipush (v := (iI 6)) X.1.1 X.1.2.1 dX6_callOn_135 (by decide) ?_
      refine lv_iadd X.1.1 X.1.2.1 dX6_callOn_137 ?_
      refine lv_bipush (v := (iI (-9))) X.1.1 X.1.2.1 dX6_callOn_138 (by decide) ?_
      obtain ⟨i_140, hE⟩ := ib_some hE
      refine astI (t0 := 0) (ws' := (wM cI cZ m0 m1 m2 m3 m4 m5 m6 m7 m8 m9 m10 m11 m12 m13 mwo mth mrn mrm mln mat mfa mac mnx mse msd mki mof mpu (upd (upd (upd mno (((iI 10) * v1) + (iI 9)).toNatClampNeg ((mno (((iI 10) * v1) + (iI 9)).toNatClampNeg) + (iI 1))) (((iI 10) * v1) + v2).toNatClampNeg (((upd mno (((iI 10) * v1) + (iI 9)).toNatClampNeg ((mno (((iI 10) * v1) + (iI 9)).toNatClampNeg) + (iI 1))) (((iI 10) * v1) + v2).toNatClampNeg) - u1002)) (((iI 10) * v1) + (iI 6)).toNatClampNeg (iI (-9))) mrw mrt mtx mro mso msf msc mik mkt)) X hK hP hD hS 4 0 rfl rfl i_140 rfl dX6_callOn_140 (fun H locs hP hD hS => ?_)
      refine lv_aload_n X.1.1 X.1.2.1 dX6_callOn_141 rfl (lv_at hl 5 rfl) ?_
      refine gf6_19 X hK hP 0 rfl rfl dX6_callOn_142 ?_
      refine lv_iload_n X.1.1 X.1.2.1 dX6_callOn_145 rfl (lv_at hl 4 rfl) ?_
      refine lv_iconst (v := (iI 5)) X.1.1 X.1.2.1 dX6_callOn_146 rfl ?_
      refine lv_iadd X.1.1 X.1.2.1 dX6_callOn_147 ?_
      refine lv_iload X.1.1 X.1.2.1 dX6_callOn_148 (lv_at hl 3 rfl) ?_
      refine lv_bipush (v := (iI 9)) X.1.1 X.1.2.1 dX6_callOn_150 (by decide) ?_
      refine lv_icmp_ge (tgt := 162) X.1.1 X.1.2.1 dX6_callOn_152 (by decide) (fun c_152 => ?_) (fun c_152 => ?_)
      · have hE := ite_t hE c_152
        refine lv_bipush (v := (iI 9)) X.1.1 X.1.2.1 dX6_callOn_162 (by decide) ?_
        obtain ⟨i_164, hE⟩ := ib_some hE
        refine astI (t0 := 0) (ws' := (wM cI cZ m0 m1 m2 m3 m4 m5 m6 m7 m8 m9 m10 m11 m12 m13 mwo mth mrn mrm mln mat mfa mac mnx mse msd mki mof mpu (upd (upd (upd (upd mno (((iI 10) * v1) + (iI 9)).toNatClampNeg ((mno (((iI 10) * v1) + (iI 9)).toNatClampNeg) + (iI 1))) (((iI 10) * v1) + v2).toNatClampNeg (((upd mno (((iI 10) * v1) + (iI 9)).toNatClampNeg ((mno (((iI 10) * v1) + (iI 9)).toNatClampNeg) + (iI 1))) (((iI 10) * v1) + v2).toNatClampNeg) - u1002)) (((iI 10) * v1) + (iI 6)).toNatClampNeg (iI (-9))) (((iI 10) * v1) + (iI 5)).toNatClampNeg (iI 9)) mrw mrt mtx mro mso msf msc mik mkt)) X hK hP hD hS 4 0 rfl rfl i_164 rfl dX6_callOn_164 (fun H locs hP hD hS => ?_)
        refine lv_iconst (v := (iI 0)) X.1.1 X.1.2.1 dX6_callOn_165 rfl ?_
        cases hE
        exact retWZ X hP hS okB_0 dX6_callOn_166
      · have hE := ite_f hE c_152
        refine lv_iload X.1.1 X.1.2.1 dX6_callOn_155 (lv_at hl 3 rfl) ?_
        refine lv_iconst (v := (iI 1)) X.1.1 X.1.2.1 dX6_callOn_157 rfl ?_
        refine lv_iadd X.1.1 X.1.2.1 dX6_callOn_158 ?_
        refine lv_goto (tgt := 164) X.1.1 X.1.2.1 dX6_callOn_159 (by decide) ?_
        obtain ⟨i_164, hE⟩ := ib_some hE
        refine astI (t0 := 0) (ws' := (wM cI cZ m0 m1 m2 m3 m4 m5 m6 m7 m8 m9 m10 m11 m12 m13 mwo mth mrn mrm mln mat mfa mac mnx mse msd mki mof mpu (upd (upd (upd (upd mno (((iI 10) * v1) + (iI 9)).toNatClampNeg ((mno (((iI 10) * v1) + (iI 9)).toNatClampNeg) + (iI 1))) (((iI 10) * v1) + v2).toNatClampNeg (((upd mno (((iI 10) * v1) + (iI 9)).toNatClampNeg ((mno (((iI 10) * v1) + (iI 9)).toNatClampNeg) + (iI 1))) (((iI 10) * v1) + v2).toNatClampNeg) - u1002)) (((iI 10) * v1) + (iI 6)).toNatClampNeg (iI (-9))) (((iI 10) * v1) + (iI 5)).toNatClampNeg ((mno (((iI 10) * v1) + (iI 5)).toNatClampNeg) + (iI 1))) mrw mrt mtx mro mso msf msc mik mkt)) X hK hP hD hS 4 0 rfl rfl i_164 rfl dX6_callOn_164 (fun H locs hP hD hS => ?_)
        refine lv_iconst (v := (iI 0)) X.1.1 X.1.2.1 dX6_callOn_165 rfl ?_
        cases hE
        exact retWZ X hP hS okB_0 dX6_callOn_166
    · have hE := ite_f hE c_120
      refine lv_iconst (v := (iI 0)) X.1.1 X.1.2.1 dX6_callOn_123 rfl ?_
      refine lv_goto (tgt := 129) X.1.1 X.1.2.1 dX6_callOn_124 (by decide) ?_
      obtain ⟨i_129, hE⟩ := ib_some hE
      refine astI (t0 := 0) (ws' := (wM cI cZ m0 m1 m2 m3 m4 m5 m6 m7 m8 m9 m10 m11 m12 m13 mwo mth mrn mrm mln mat mfa mac mnx mse msd mki mof mpu (upd (upd mno (((iI 10) * v1) + (iI 9)).toNatClampNeg ((mno (((iI 10) * v1) + (iI 9)).toNatClampNeg) + (iI 1))) (((iI 10) * v1) + v2).toNatClampNeg (iI 0)) mrw mrt mtx mro mso msf msc mik mkt)) X hK hP hD hS 4 0 rfl rfl i_129 rfl dX6_callOn_129 (fun H locs hP hD hS => ?_)
      refine lv_aload_n X.1.1 X.1.2.1 dX6_callOn_130 rfl (lv_at hl 5 rfl) ?_
      refine gf6_19 X hK hP 0 rfl rfl dX6_callOn_131 ?_
      refine lv_iload_n X.1.1 X.1.2.1 dX6_callOn_134 rfl (lv_at hl 4 rfl) ?_
      refine lv_bipush (v := (iI 6)) X.1.1 X.1.2.1 dX6_callOn_135 (by decide) ?_
      refine lv_iadd X.1.1 X.1.2.1 dX6_callOn_137 ?_
      refine lv_bipush (v := (iI (-9))) X.1.1 X.1.2.1 dX6_callOn_138 (by decide) ?_
      obtain ⟨i_140, hE⟩ := ib_some hE
      refine astI (t0 := 0) (ws' := (wM cI cZ m0 m1 m2 m3 m4 m5 m6 m7 m8 m9 m10 m11 m12 m13 mwo mth mrn mrm mln mat mfa mac mnx mse msd mki mof mpu (upd (upd (upd mno (((iI 10) * v1) + (iI 9)).toNatClampNeg ((mno (((iI 10) * v1) + (iI 9)).toNatClampNeg) + (iI 1))) (((iI 10) * v1) + v2).toNatClampNeg (iI 0)) (((iI 10) * v1) + (iI 6)).toNatClampNeg (iI (-9))) mrw mrt mtx mro mso msf msc mik mkt)) X hK hP hD hS 4 0 rfl rfl i_140 rfl dX6_callOn_140 (fun H locs hP hD hS => ?_)
      refine lv_aload_n X.1.1 X.1.2.1 dX6_callOn_141 rfl (lv_at hl 5 rfl) ?_
      refine gf6_19 X hK hP 0 rfl rfl dX6_callOn_142 ?_
      refine lv_iload_n X.1.1 X.1.2.1 dX6_callOn_145 rfl (lv_at hl 4 rfl) ?_
      refine lv_iconst (v := (iI 5)) X.1.1 X.1.2.1 dX6_callOn_146 rfl ?_
      refine lv_iadd X.1.1 X.1.2.1 dX6_callOn_147 ?_
      refine lv_iload X.1.1 X.1.2.1 dX6_callOn_148 (lv_at hl 3 rfl) ?_
      refine lv_bipush (v := (iI 9)) X.1.1 X.1.2.1 dX6_callOn_150 (by decide) ?_
      refine lv_icmp_ge (tgt := 162) X.1.1 X.1.2.1 dX6_callOn_152 (by decide) (fun c_152 => ?_) (fun c_152 => ?_)
      · have hE := ite_t hE c_152
        refine lv_bipush (v := (iI 9)) X.1.1 X.1.2.1 dX6_callOn_162 (by decide) ?_
        obtain ⟨i_164, hE⟩ := ib_some hE
        refine astI (t0 := 0) (ws' := (wM cI cZ m0 m1 m2 m3 m4 m5 m6 m7 m8 m9 m10 m11 m12 m13 mwo mth mrn mrm mln mat mfa mac mnx mse msd mki mof mpu (upd (upd (upd (upd mno (((iI 10) * v1) + (iI 9)).toNatClampNeg ((mno (((iI 10) * v1) + (iI 9)).toNatClampNeg) + (iI 1))) (((iI 10) * v1) + v2).toNatClampNeg (iI 0)) (((iI 10) * v1) + (iI 6)).toNatClampNeg (iI (-9))) (((iI 10) * v1) + (iI 5)).toNatClampNeg (iI 9)) mrw mrt mtx mro mso msf msc mik mkt)) X hK hP hD hS 4 0 rfl rfl i_164 rfl dX6_callOn_164 (fun H locs hP hD hS => ?_)
        refine lv_iconst (v := (iI 0)) X.1.1 X.1.2.1 dX6_callOn_165 rfl ?_
        cases hE
        exact retWZ X hP hS okB_0 dX6_callOn_166
      · have hE := ite_f hE c_152
        refine lv_iload X.1.1 X.1.2.1 dX6_callOn_155 (lv_at hl 3 rfl) ?_
        refine lv_iconst (v := (iI 1)) X.1.1 X.1.2.1 dX6_callOn_157 rfl ?_
        refine lv_iadd X.1.1 X.1.2.1 dX6_callOn_158 ?_
        refine lv_goto (tgt := 164) X.1.1 X.1.2.1 dX6_callOn_159 (by decide) ?_
        obtain ⟨i_164, hE⟩ := ib_some hE
        refine astI (t0 := 0) (ws' := (wM cI cZ m0 m1 m2 m3 m4 m5 m6 m7 m8 m9 m10 m11 m12 m13 mwo mth mrn mrm mln mat mfa mac mnx mse msd mki mof mpu (upd (upd (upd (upd mno (((iI 10) * v1) + (iI 9)).toNatClampNeg ((mno (((iI 10) * v1) + (iI 9)).toNatClampNeg) + (iI 1))) (((iI 10) * v1) + v2).toNatClampNeg (iI 0)) (((iI 10) * v1) + (iI 6)).toNatClampNeg (iI (-9))) (((iI 10) * v1) + (iI 5)).toNatClampNeg ((mno (((iI 10) * v1) + (iI 5)).toNatClampNeg) + (iI 1))) mrw mrt mtx mro mso msf msc mik mkt)) X hK hP hD hS 4 0 rfl rfl i_164 rfl dX6_callOn_164 (fun H locs hP hD hS => ?_)
        refine lv_iconst (v := (iI 0)) X.1.1 X.1.2.1 dX6_callOn_165 rfl ?_
        cases hE
        exact retWZ X hP hS okB_0 dX6_callOn_166
  · have hE := ite_f hE c_71
    refine lv_aload_n X.1.1 X.1.2.1 dX6_callOn_74 rfl (lv_at hl 4 rfl) ?_
    refine gf6_19 X hK hP 0 rfl rfl dX6_callOn_75 ?_
    refine lv_iload_n X.1.1 X.1.2.1 dX6_callOn_78 rfl (lv_at hl 3 rfl) ?_
    refine lv_iconst (v := (iI 5)) X.1.1 X.1.2.1 dX6_callOn_79 rfl ?_
    refine lv_iadd X.1.1 X.1.2.1 dX6_callOn_80 ?_
    refine lv_iconst (v := (iI 0)) X.1.1 X.1.2.1 dX6_callOn_81 rfl ?_
    obtain ⟨i_82, hE⟩ := ib_some hE
    refine astI (t0 := 0) (ws' := (wM cI cZ m0 m1 m2 m3 m4 m5 m6 m7 m8 m9 m10 m11 m12 m13 mwo mth mrn mrm mln mat mfa mac mnx mse msd mki mof mpu (upd (upd mno (((iI 10) * v1) + (iI 9)).toNatClampNeg ((mno (((iI 10) * v1) + (iI 9)).toNatClampNeg) + (iI 1))) (((iI 10) * v1) + (iI 5)).toNatClampNeg (iI 0)) mrw mrt mtx mro mso msf msc mik mkt)) X hK hP hD hS 4 0 rfl rfl i_82 rfl dX6_callOn_82 (fun H locs hP hD hS => ?_)
    refine lv_aload_n X.1.1 X.1.2.1 dX6_callOn_83 rfl (lv_at hl 4 rfl) ?_
    refine gf6_19 X hK hP 0 rfl rfl dX6_callOn_84 ?_
    refine lv_iload_n X.1.1 X.1.2.1 dX6_callOn_87 rfl (lv_at hl 3 rfl) ?_
    refine lv_bipush (v := (iI 6)) X.1.1 X.1.2.1 dX6_callOn_88 (by decide) ?_
    refine lv_iadd X.1.1 X.1.2.1 dX6_callOn_90 ?_
    refine lv_iload_n X.1.1 X.1.2.1 dX6_callOn_91 rfl (lv_at hl 6 rfl) ?_
    obtain ⟨i_92, hE⟩ := ib_some hE
    refine astI (t0 := 0) (ws' := (wM cI cZ m0 m1 m2 m3 m4 m5 m6 m7 m8 m9 m10 m11 m12 m13 mwo mth mrn mrm mln mat mfa mac mnx mse msd mki mof mpu (upd (upd (upd mno (((iI 10) * v1) + (iI 9)).toNatClampNeg ((mno (((iI 10) * v1) + (iI 9)).toNatClampNeg) + (iI 1))) (((iI 10) * v1) + (iI 5)).toNatClampNeg (iI 0)) (((iI 10) * v1) + (iI 6)).toNatClampNeg v2) mrw mrt mtx mro mso msf msc mik mkt)) X hK hP hD hS 4 0 rfl rfl i_92 rfl dX6_callOn_92 (fun H locs hP hD hS => ?_)
    refine lv_iconst (v := (iI 1)) X.1.1 X.1.2.1 dX6_callOn_93 rfl ?_
    cases hE
    exact retWZ X hP hS okB_1 dX6_callOn_94
theorem o6_canPay : oV yX6_canPay RX6 cX6_canPay 2 (some .boolean) 1 := ⟨tw749, tw748, tw27, tw45, ⟨by decide +kernel, by decide +kernel⟩, by decide +kernel⟩
abbrev rm6_canPay : Room := { frames := 0, cells := 0, slots := 0, locals := 0 }
set_option maxHeartbeats 4000000 in
set_option maxRecDepth 100000 in
theorem c6_canPay {l : Launch} {G : va_G} {cI cZ : ClassId} {m0 m1 m2 m3 m4 m5 m6 m7 m8 m9 m10 m11 m12 m13 : Nat} {mwo : Int32} {mth : Int32} {mrn : Int32} {mrm : Int32} {mln : Int32} {mat : Int32} {mfa : Int32} {mac : Int32} {mnx : Int32} {mse : Int32} {msd : Int64} {mki : Nat → Int32} {mof : Nat → Int32} {mpu : Nat → Int32} {mno : Nat → Int32} {mrw : Nat → Int32} {mrt : Nat → Int32} {mtx : Nat → Int32} {mro : Nat → Int32} {mso : Nat → Int32} {msf : Nat → Int32} {msc : Nat → Int32} {mik : Nat → Int32} {mkt : Nat → Int32} {v1 : Int32} {u : Int32} (hE : f6_canPay v1 mno = some u) : Met l yX6_canPay (Cond.code yX6_canPay cX6_canPay 2 (some .boolean) :: TB) rm6_canPay (PcR G cI cZ (wM cI cZ m0 m1 m2 m3 m4 m5 m6 m7 m8 m9 m10 m11 m12 m13 mwo mth mrn mrm mln mat mfa mac mnx mse msd mki mof mpu mno mrw mrt mtx mro mso msf msc mik mkt) ([.ref m0, .int v1] : List Value)) (QcRead u) 0 0 (fun _ => False) := by
  refine metR (own := RX6) (by decide +kernel) rfl (Nat.le_of_ble_eq_true rfl) ?_
  intro p e s m below meth c ls X hP hK hl
  have hl : lv_has ls 2 [(0, .ref m0), (1, .int v1)] := hl
  unfold f6_canPay at hE
  refine lv_aload_n X.1.1 X.1.2.1 dX6_canPay_0 rfl (lv_at hl 0 rfl) ?_
  refine gf6_19 X hK hP 0 rfl rfl dX6_canPay_1 ?_
  refine lv_bipush (v := (iI 10)) X.1.1 X.1.2.1 dX6_canPay_4 (by decide) ?_
  refine lv_iload_n X.1.1 X.1.2.1 dX6_canPay_6 rfl (lv_at hl 1 rfl) ?_
  refine lv_imul X.1.1 X.1.2.1 dX6_canPay_7 ?_
  refine lv_bipush (v := (iI 6)) X.1.1 X.1.2.1 dX6_canPay_8 (by decide) ?_
  refine lv_iadd X.1.1 X.1.2.1 dX6_canPay_10 ?_
  obtain ⟨i_11, hE⟩ := ib_some hE
  refine va_iald X.1.1 X.1.2.1 hK hP 4 0 rfl rfl i_11 dX6_canPay_11 ?_
  refine lv_bipush (v := (iI (-9))) X.1.1 X.1.2.1 dX6_canPay_12 (by decide) ?_
  refine lv_icmp_eq (tgt := 35) X.1.1 X.1.2.1 dX6_canPay_14 (by decide) (fun c_14 => ?_) (fun c_14 => ?_)
  · have hE := ite_t hE c_14
    refine lv_iconst (v := (iI 0)) X.1.1 X.1.2.1 dX6_canPay_35 rfl ?_
    cases hE
    exact retRZ X okB_0 dX6_canPay_36
  · have hE := ite_f hE c_14
    refine lv_aload_n X.1.1 X.1.2.1 dX6_canPay_17 rfl (lv_at hl 0 rfl) ?_
    refine gf6_19 X hK hP 0 rfl rfl dX6_canPay_18 ?_
    refine lv_bipush (v := (iI 10)) X.1.1 X.1.2.1 dX6_canPay_21 (by decide) ?_
    refine lv_iload_n X.1.1 X.1.2.1 dX6_canPay_23 rfl (lv_at hl 1 rfl) ?_
    refine lv_imul X.1.1 X.1.2.1 dX6_canPay_24 ?_
    refine lv_iconst (v := (iI 4)) X.1.1 X.1.2.1 dX6_canPay_25 rfl ?_
    refine lv_iadd X.1.1 X.1.2.1 dX6_canPay_26 ?_
    obtain ⟨i_27, hE⟩ := ib_some hE
    refine va_iald X.1.1 X.1.2.1 hK hP 4 0 rfl rfl i_27 dX6_canPay_27 ?_
    refine lv_if_le (tgt := 35) X.1.1 X.1.2.1 dX6_canPay_28 (by decide) (fun c_28 => ?_) (fun c_28 => ?_)
    · have hE := ite_t hE c_28
      refine lv_iconst (v := (iI 0)) X.1.1 X.1.2.1 dX6_canPay_35 rfl ?_
      cases hE
      exact retRZ X okB_0 dX6_canPay_36
    · have hE := ite_f hE c_28
      refine lv_iconst (v := (iI 1)) X.1.1 X.1.2.1 dX6_canPay_31 rfl ?_
      refine lv_goto (tgt := 36) X.1.1 X.1.2.1 dX6_canPay_32 (by decide) ?_
      cases hE
      exact retRZ X okB_1 dX6_canPay_36
theorem o6_payOn : oV yX6_payOn RX6 cX6_payOn 4 (some .int) 1 := ⟨tw753, tw752, tw28, tw45, ⟨by decide +kernel, by decide +kernel⟩, by decide +kernel⟩
abbrev rm6_payOn : Room := { frames := 0, cells := 0, slots := 0, locals := 0 }
set_option maxHeartbeats 4000000 in
set_option maxRecDepth 100000 in
theorem c6_payOn {l : Launch} {G : va_G} {cI cZ : ClassId} {m0 m1 m2 m3 m4 m5 m6 m7 m8 m9 m10 m11 m12 m13 : Nat} {mwo : Int32} {mth : Int32} {mrn : Int32} {mrm : Int32} {mln : Int32} {mat : Int32} {mfa : Int32} {mac : Int32} {mnx : Int32} {mse : Int32} {msd : Int64} {mki : Nat → Int32} {mof : Nat → Int32} {mpu : Nat → Int32} {mno : Nat → Int32} {mrw : Nat → Int32} {mrt : Nat → Int32} {mtx : Nat → Int32} {mro : Nat → Int32} {mso : Nat → Int32} {msf : Nat → Int32} {msc : Nat → Int32} {mik : Nat → Int32} {mkt : Nat → Int32} {v1 : Int32} {sz : Nat} {u : Int32 × (Nat → Int32)} (hE : f6_payOn v1 mno = some u) : Met l yX6_payOn (Cond.code yX6_payOn cX6_payOn 4 (some .int) :: TB) rm6_payOn (PcW G cI cZ (wM cI cZ m0 m1 m2 m3 m4 m5 m6 m7 m8 m9 m10 m11 m12 m13 mwo mth mrn mrm mln mat mfa mac mnx mse msd mki mof mpu mno mrw mrt mtx mro mso msf msc mik mkt) sz ([.ref m0, .int v1] : List Value)) (QW G (some (.int u.1)) (wM cI cZ m0 m1 m2 m3 m4 m5 m6 m7 m8 m9 m10 m11 m12 m13 mwo mth mrn mrm mln mat mfa mac mnx mse msd mki mof mpu u.2 mrw mrt mtx mro mso msf msc mik mkt) (va_A (wM cI cZ m0 m1 m2 m3 m4 m5 m6 m7 m8 m9 m10 m11 m12 m13 mwo mth mrn mrm mln mat mfa mac mnx mse msd mki mof mpu mno mrw mrt mtx mro mso msf msc mik mkt) sz)) 0 0 (va_A (wM cI cZ m0 m1 m2 m3 m4 m5 m6 m7 m8 m9 m10 m11 m12 m13 mwo mth mrn mrm mln mat mfa mac mnx mse msd mki mof mpu mno mrw mrt mtx mro mso msf msc mik mkt) sz) := by
  refine metW (own := RX6) (by decide +kernel) rfl (Nat.le_of_ble_eq_true rfl) ?_
  intro p e s m below meth c ls A X hA hP hK hD hl
  have hS : va_S A s.heap s.heap [] := va_S.rf
  have hl : lv_has ls 4 [(0, .ref m0), (1, .int v1)] := hl
  unfold f6_payOn at hE
  refine lv_bipush (v := (iI 10)) X.1.1 X.1.2.1 dX6_payOn_0 (by decide) ?_
  refine lv_iload_n X.1.1 X.1.2.1 dX6_payOn_2 rfl (lv_at hl 1 rfl) ?_
  refine lv_imul X.1.1 X.1.2.1 dX6_payOn_3 ?_
  refine lv_istore_n (lv' := [(2, .int ((iI 10) * v1)), (0, .ref m0), (1, .int v1)]) X.1.1 X.1.2.1 dX6_payOn_4 rfl hl (by decide) rfl (fun ls hl => ?_)
  refine lv_aload_n X.1.1 X.1.2.1 dX6_payOn_5 rfl (lv_at hl 1 rfl) ?_
  refine gf6_19 X hK hP 0 rfl rfl dX6_payOn_6 ?_
  refine lv_iload_n X.1.1 X.1.2.1 dX6_payOn_9 rfl (lv_at hl 0 rfl) ?_
  refine lv_bipush (v := (iI 6)) X.1.1 X.1.2.1 dX6_payOn_10 (by decide) ?_
  refine lv_iadd X.1.1 X.1.2.1 dX6_payOn_12 ?_
  obtain ⟨i_13, hE⟩ := ib_some hE
  refine va_iald X.1.1 X.1.2.1 hK hP 4 0 rfl rfl i_13 dX6_payOn_13 ?_
  refine lv_istore_n (lv' := [(3, .int (mno (((iI 10) * v1) + (iI 6)).toNatClampNeg)), (2, .int ((iI 10) * v1)), (0, .ref m0), (1, .int v1)]) X.1.1 X.1.2.1 dX6_payOn_14 rfl hl (by decide) rfl (fun ls hl => ?_)
  refine lv_aload_n X.1.1 X.1.2.1 dX6_payOn_15 rfl (lv_at hl 2 rfl) ?_
  refine gf6_19 X hK hP 0 rfl rfl dX6_payOn_16 ?_
  refine lv_iload_n X.1.1 X.1.2.1 dX6_payOn_19 rfl (lv_at hl 1 rfl) ?_
  refine lv_iconst (v := (iI 4)) X.1.1 X.1.2.1 dX6_payOn_20 rfl ?_
  refine lv_iadd X.1.1 X.1.2.1 dX6_payOn_21 ?_
  refine lv_dup2_11 X.1.1 X.1.2.1 dX6_payOn_22 rfl rfl ?_
  obtain ⟨i_23, hE⟩ := ib_some hE
  refine va_iald X.1.1 X.1.2.1 hK hP 4 0 rfl rfl i_23 dX6_payOn_23 ?_
  refine lv_iconst (v := (iI 1)) X.1.1 X.1.2.1 dX6_payOn_24 rfl ?_
  refine lv_isub X.1.1 X.1.2.1 dX6_payOn_25 ?_
  obtain ⟨i_26, hE⟩ := ib_some hE
  refine astI (t0 := 0) (ws' := (wM cI cZ m0 m1 m2 m3 m4 m5 m6 m7 m8 m9 m10 m11 m12 m13 mwo mth mrn mrm mln mat mfa mac mnx mse msd mki mof mpu (upd mno (((iI 10) * v1) + (iI 4)).toNatClampNeg ((mno (((iI 10) * v1) + (iI 4)).toNatClampNeg) - (iI 1))) mrw mrt mtx mro mso msf msc mik mkt)) X hK hP hD hS 4 0 rfl rfl i_26 rfl dX6_payOn_26 (fun H locs hP hD hS => ?_)
  refine lv_aload_n X.1.1 X.1.2.1 dX6_payOn_27 rfl (lv_at hl 2 rfl) ?_
  refine gf6_19 X hK hP 0 rfl rfl dX6_payOn_28 ?_
  refine lv_iload_n X.1.1 X.1.2.1 dX6_payOn_31 rfl (lv_at hl 1 rfl) ?_
  refine lv_iload_n X.1.1 X.1.2.1 dX6_payOn_32 rfl (lv_at hl 0 rfl) ?_
  refine lv_iadd X.1.1 X.1.2.1 dX6_payOn_33 ?_
  refine lv_dup2_11 X.1.1 X.1.2.1 dX6_payOn_34 rfl rfl ?_
  obtain ⟨i_35, hE⟩ := ib_some hE
  refine va_iald X.1.1 X.1.2.1 hK hP 4 0 rfl rfl i_35 dX6_payOn_35 ?_
  refine lv_aload_n X.1.1 X.1.2.1 dX6_payOn_36 rfl (lv_at hl 2 rfl) ?_
  refine gf6_19 X hK hP 0 rfl rfl dX6_payOn_37 ?_
  refine lv_iload_n X.1.1 X.1.2.1 dX6_payOn_40 rfl (lv_at hl 1 rfl) ?_
  refine lv_iload_n X.1.1 X.1.2.1 dX6_payOn_41 rfl (lv_at hl 0 rfl) ?_
  refine lv_iadd X.1.1 X.1.2.1 dX6_payOn_42 ?_
  obtain ⟨i_43, hE⟩ := ib_some hE
  refine va_iald X.1.1 X.1.2.1 hK hP 4 0 rfl rfl i_43 dX6_payOn_43 ?_
  refine lv_bipush (v := (iI 9)) X.1.1 X.1.2.1 dX6_payOn_44 (by decide) ?_
  refine lv_icmp_ge (tgt := 53) X.1.1 X.1.2.1 dX6_payOn_46 (by decide) (fun c_46 => ?_) (fun c_46 => ?_)
  · have hE := ite_t hE c_46
    refine lv_iconst (v := (iI 0)) X.1.1 X.1.2.1 dX6_payOn_53 rfl ?_
    refine lv_iadd X.1.1 X.1.2.1 dX6_payOn_54 ?_
    obtain ⟨i_55, hE⟩ := ib_some hE
    refine astI (t0 := 0) (ws' := (wM cI cZ m0 m1 m2 m3 m4 m5 m6 m7 m8 m9 m10 m11 m12 m13 mwo mth mrn mrm mln mat mfa mac mnx mse msd mki mof mpu (upd (upd mno (((iI 10) * v1) + (iI 4)).toNatClampNeg ((mno (((iI 10) * v1) + (iI 4)).toNatClampNeg) - (iI 1))) (((iI 10) * v1) + (mno (((iI 10) * v1) + (iI 6)).toNatClampNeg)).toNatClampNeg (((upd mno (((iI 10) * v1) + (iI 4)).toNatClampNeg ((mno (((iI 10) * v1) + (iI 4)).toNatClampNeg) - (iI 1))) (((iI 10) * v1) + (mno (((iI 10) * v1) + (iI 6)).toNatClampNeg)).toNatClampNeg) + (iI 0))) mrw mrt mtx mro mso msf msc mik mkt)) X hK hP hD hS 4 0 rfl rfl i_55 rfl dX6_payOn_55 (fun H locs hP hD hS => ?_)
    refine lv_aload_n X.1.1 X.1.2.1 dX6_payOn_56 rfl (lv_at hl 2 rfl) ?_
    refine gf6_19 X hK hP 0 rfl rfl dX6_payOn_57 ?_
    refine lv_iload_n X.1.1 X.1.2.1 dX6_payOn_60 rfl (lv_at hl 1 rfl) ?_
    refine lv_bipush (v := (iI 6)) X.1.1 X.1.2.1 dX6_payOn_61 (by decide) ?_
    refine lv_iadd X.1.1 X.1.2.1 dX6_payOn_63 ?_
    refine lv_bipush (v := (iI (-9))) X.1.1 X.1.2.1 dX6_payOn_64 (by decide) ?_
    obtain ⟨i_66, hE⟩ := ib_some hE
    refine astI (t0 := 0) (ws' := (wM cI cZ m0 m1 m2 m3 m4 m5 m6 m7 m8 m9 m10 m11 m12 m13 mwo mth mrn mrm mln mat mfa mac mnx mse msd mki mof mpu (upd (upd (upd mno (((iI 10) * v1) + (iI 4)).toNatClampNeg ((mno (((iI 10) * v1) + (iI 4)).toNatClampNeg) - (iI 1))) (((iI 10) * v1) + (mno (((iI 10) * v1) + (iI 6)).toNatClampNeg)).toNatClampNeg (((upd mno (((iI 10) * v1) + (iI 4)).toNatClampNeg ((mno (((iI 10) * v1) + (iI 4)).toNatClampNeg) - (iI 1))) (((iI 10) * v1) + (mno (((iI 10) * v1) + (iI 6)).toNatClampNeg)).toNatClampNeg) + (iI 0))) (((iI 10) * v1) + (iI 6)).toNatClampNeg (iI (-9))) mrw mrt mtx mro mso msf msc mik mkt)) X hK hP hD hS 4 0 rfl rfl i_66 rfl dX6_payOn_66 (fun H locs hP hD hS => ?_)
    refine lv_aload_n X.1.1 X.1.2.1 dX6_payOn_67 rfl (lv_at hl 2 rfl) ?_
    refine gf6_19 X hK hP 0 rfl rfl dX6_payOn_68 ?_
    refine lv_iload_n X.1.1 X.1.2.1 dX6_payOn_71 rfl (lv_at hl 1 rfl) ?_
    refine lv_iload_n X.1.1 X.1.2.1 dX6_payOn_72 rfl (lv_at hl 0 rfl) ?_
    refine lv_iadd X.1.1 X.1.2.1 dX6_payOn_73 ?_
    obtain ⟨i_74, hE⟩ := ib_some hE
    refine va_iald X.1.1 X.1.2.1 hK hP 4 0 rfl rfl i_74 dX6_payOn_74 ?_
    cases hE
    exact retW X hP hS dX6_payOn_75
  · have hE := ite_f hE c_46
    refine lv_iconst (v := (iI 1)) X.1.1 X.1.2.1 dX6_payOn_49 rfl ?_
    refine lv_goto (tgt := 54) X.1.1 X.1.2.1 dX6_payOn_50 (by decide) ?_
    refine lv_iadd X.1.1 X.1.2.1 dX6_payOn_54 ?_
    obtain ⟨i_55, hE⟩ := ib_some hE
    refine astI (t0 := 0) (ws' := (wM cI cZ m0 m1 m2 m3 m4 m5 m6 m7 m8 m9 m10 m11 m12 m13 mwo mth mrn mrm mln mat mfa mac mnx mse msd mki mof mpu (upd (upd mno (((iI 10) * v1) + (iI 4)).toNatClampNeg ((mno (((iI 10) * v1) + (iI 4)).toNatClampNeg) - (iI 1))) (((iI 10) * v1) + (mno (((iI 10) * v1) + (iI 6)).toNatClampNeg)).toNatClampNeg (((upd mno (((iI 10) * v1) + (iI 4)).toNatClampNeg ((mno (((iI 10) * v1) + (iI 4)).toNatClampNeg) - (iI 1))) (((iI 10) * v1) + (mno (((iI 10) * v1) + (iI 6)).toNatClampNeg)).toNatClampNeg) + (iI 1))) mrw mrt mtx mro mso msf msc mik mkt)) X hK hP hD hS 4 0 rfl rfl i_55 rfl dX6_payOn_55 (fun H locs hP hD hS => ?_)
    refine lv_aload_n X.1.1 X.1.2.1 dX6_payOn_56 rfl (lv_at hl 2 rfl) ?_
    refine gf6_19 X hK hP 0 rfl rfl dX6_payOn_57 ?_
    refine lv_iload_n X.1.1 X.1.2.1 dX6_payOn_60 rfl (lv_at hl 1 rfl) ?_
    refine lv_bipush (v := (iI 6)) X.1.1 X.1.2.1 dX6_payOn_61 (by decide) ?_
    refine lv_iadd X.1.1 X.1.2.1 dX6_payOn_63 ?_
    refine lv_bipush (v := (iI (-9))) X.1.1 X.1.2.1 dX6_payOn_64 (by decide) ?_
    obtain ⟨i_66, hE⟩ := ib_some hE
    refine astI (t0 := 0) (ws' := (wM cI cZ m0 m1 m2 m3 m4 m5 m6 m7 m8 m9 m10 m11 m12 m13 mwo mth mrn mrm mln mat mfa mac mnx mse msd mki mof mpu (upd (upd (upd mno (((iI 10) * v1) + (iI 4)).toNatClampNeg ((mno (((iI 10) * v1) + (iI 4)).toNatClampNeg) - (iI 1))) (((iI 10) * v1) + (mno (((iI 10) * v1) + (iI 6)).toNatClampNeg)).toNatClampNeg (((upd mno (((iI 10) * v1) + (iI 4)).toNatClampNeg ((mno (((iI 10) * v1) + (iI 4)).toNatClampNeg) - (iI 1))) (((iI 10) * v1) + (mno (((iI 10) * v1) + (iI 6)).toNatClampNeg)).toNatClampNeg) + (iI 1))) (((iI 10) * v1) + (iI 6)).toNatClampNeg (iI (-9))) mrw mrt mtx mro mso msf msc mik mkt)) X hK hP hD hS 4 0 rfl rfl i_66 rfl dX6_payOn_66 (fun H locs hP hD hS => ?_)
    refine lv_aload_n X.1.1 X.1.2.1 dX6_payOn_67 rfl (lv_at hl 2 rfl) ?_
    refine gf6_19 X hK hP 0 rfl rfl dX6_payOn_68 ?_
    refine lv_iload_n X.1.1 X.1.2.1 dX6_payOn_71 rfl (lv_at hl 1 rfl) ?_
    refine lv_iload_n X.1.1 X.1.2.1 dX6_payOn_72 rfl (lv_at hl 0 rfl) ?_
    refine lv_iadd X.1.1 X.1.2.1 dX6_payOn_73 ?_
    obtain ⟨i_74, hE⟩ := ib_some hE
    refine va_iald X.1.1 X.1.2.1 hK hP 4 0 rfl rfl i_74 dX6_payOn_74 ?_
    cases hE
    exact retW X hP hS dX6_payOn_75
theorem o6_runOn : oV yX6_runOn RX6 cX6_runOn 5 none 2 := ⟨tw761, tw760, tw29, tw45, ⟨by decide +kernel, by decide +kernel⟩, by decide +kernel⟩
abbrev rm6_runOn : Room := { frames := 0, cells := 0, slots := 0, locals := 0 }
set_option maxHeartbeats 4000000 in
set_option maxRecDepth 100000 in
theorem c6_runOn {l : Launch} {G : va_G} {cI cZ : ClassId} {m0 m1 m2 m3 m4 m5 m6 m7 m8 m9 m10 m11 m12 m13 : Nat} {mwo : Int32} {mth : Int32} {mrn : Int32} {mrm : Int32} {mln : Int32} {mat : Int32} {mfa : Int32} {mac : Int32} {mnx : Int32} {mse : Int32} {msd : Int64} {mki : Nat → Int32} {mof : Nat → Int32} {mpu : Nat → Int32} {mno : Nat → Int32} {mrw : Nat → Int32} {mrt : Nat → Int32} {mtx : Nat → Int32} {mro : Nat → Int32} {mso : Nat → Int32} {msf : Nat → Int32} {msc : Nat → Int32} {mik : Nat → Int32} {mkt : Nat → Int32} {v1 : Int32} {v2 : Int32} {sz : Nat} {u : (Nat → Int32)} (hE : f6_runOn v1 v2 mno = some u) : Met l yX6_runOn (Cond.code yX6_runOn cX6_runOn 5 none :: TB) rm6_runOn (PcW G cI cZ (wM cI cZ m0 m1 m2 m3 m4 m5 m6 m7 m8 m9 m10 m11 m12 m13 mwo mth mrn mrm mln mat mfa mac mnx mse msd mki mof mpu mno mrw mrt mtx mro mso msf msc mik mkt) sz ([.ref m0, .int v1, .int v2] : List Value)) (QW G none (wM cI cZ m0 m1 m2 m3 m4 m5 m6 m7 m8 m9 m10 m11 m12 m13 mwo mth mrn mrm mln mat mfa mac mnx mse msd mki mof mpu u mrw mrt mtx mro mso msf msc mik mkt) (va_A (wM cI cZ m0 m1 m2 m3 m4 m5 m6 m7 m8 m9 m10 m11 m12 m13 mwo mth mrn mrm mln mat mfa mac mnx mse msd mki mof mpu mno mrw mrt mtx mro mso msf msc mik mkt) sz)) 0 0 (va_A (wM cI cZ m0 m1 m2 m3 m4 m5 m6 m7 m8 m9 m10 m11 m12 m13 mwo mth mrn mrm mln mat mfa mac mnx mse msd mki mof mpu mno mrw mrt mtx mro mso msf msc mik mkt) sz) := by
  refine metW (own := RX6) (by decide +kernel) rfl (Nat.le_of_ble_eq_true rfl) ?_
  intro p e s m below meth c ls A X hA hP hK hD hl
  have hS : va_S A s.heap s.heap [] := va_S.rf
  have hl : lv_has ls 5 [(0, .ref m0), (1, .int v1), (2, .int v2)] := hl
  unfold f6_runOn at hE
  refine lv_bipush (v := (iI 10)) X.1.1 X.1.2.1 dX6_runOn_0 (by decide) ?_
  refine lv_iload_n X.1.1 X.1.2.1 dX6_runOn_2 rfl (lv_at hl 1 rfl) ?_
  refine lv_imul X.1.1 X.1.2.1 dX6_runOn_3 ?_
  refine lv_istore_n (lv' := [(3, .int ((iI 10) * v1)), (0, .ref m0), (1, .int v1), (2, .int v2)]) X.1.1 X.1.2.1 dX6_runOn_4 rfl hl (by decide) rfl (fun ls hl => ?_)
  refine lv_aload_n X.1.1 X.1.2.1 dX6_runOn_5 rfl (lv_at hl 1 rfl) ?_
  refine gf6_19 X hK hP 0 rfl rfl dX6_runOn_6 ?_
  refine lv_iload_n X.1.1 X.1.2.1 dX6_runOn_9 rfl (lv_at hl 0 rfl) ?_
  refine lv_iconst (v := (iI 5)) X.1.1 X.1.2.1 dX6_runOn_10 rfl ?_
  refine lv_iadd X.1.1 X.1.2.1 dX6_runOn_11 ?_
  obtain ⟨i_12, hE⟩ := ib_some hE
  refine va_iald X.1.1 X.1.2.1 hK hP 4 0 rfl rfl i_12 dX6_runOn_12 ?_
  refine lv_iload_n X.1.1 X.1.2.1 dX6_runOn_13 rfl (lv_at hl 3 rfl) ?_
  refine lv_iadd X.1.1 X.1.2.1 dX6_runOn_14 ?_
  refine lv_istore (lv' := [(4, .int ((mno (((iI 10) * v1) + (iI 5)).toNatClampNeg) + v2)), (3, .int ((iI 10) * v1)), (0, .ref m0), (1, .int v1), (2, .int v2)]) X.1.1 X.1.2.1 dX6_runOn_15 hl (by decide) rfl (fun ls hl => ?_)
  refine lv_aload_n X.1.1 X.1.2.1 dX6_runOn_17 rfl (lv_at hl 2 rfl) ?_
  refine gf6_19 X hK hP 0 rfl rfl dX6_runOn_18 ?_
  refine lv_iload_n X.1.1 X.1.2.1 dX6_runOn_21 rfl (lv_at hl 1 rfl) ?_
  refine lv_iconst (v := (iI 5)) X.1.1 X.1.2.1 dX6_runOn_22 rfl ?_
  refine lv_iadd X.1.1 X.1.2.1 dX6_runOn_23 ?_
  refine lv_iload X.1.1 X.1.2.1 dX6_runOn_24 (lv_at hl 0 rfl) ?_
  refine lv_bipush (v := (iI 9)) X.1.1 X.1.2.1 dX6_runOn_26 (by decide) ?_
  refine lv_icmp_le (tgt := 36) X.1.1 X.1.2.1 dX6_runOn_28 (by decide) (fun c_28 => ?_) (fun c_28 => ?_)
  · have hE := ite_t hE c_28
    refine lv_iload X.1.1 X.1.2.1 dX6_runOn_36 (lv_at hl 0 rfl) ?_
    obtain ⟨i_38, hE⟩ := ib_some hE
    refine astI (t0 := 0) (ws' := (wM cI cZ m0 m1 m2 m3 m4 m5 m6 m7 m8 m9 m10 m11 m12 m13 mwo mth mrn mrm mln mat mfa mac mnx mse msd mki mof mpu (upd mno (((iI 10) * v1) + (iI 5)).toNatClampNeg ((mno (((iI 10) * v1) + (iI 5)).toNatClampNeg) + v2)) mrw mrt mtx mro mso msf msc mik mkt)) X hK hP hD hS 4 0 rfl rfl i_38 rfl dX6_runOn_38 (fun H locs hP hD hS => ?_)
    refine lv_aload_n X.1.1 X.1.2.1 dX6_runOn_39 rfl (lv_at hl 2 rfl) ?_
    refine gf6_19 X hK hP 0 rfl rfl dX6_runOn_40 ?_
    refine lv_iload_n X.1.1 X.1.2.1 dX6_runOn_43 rfl (lv_at hl 1 rfl) ?_
    refine lv_bipush (v := (iI 6)) X.1.1 X.1.2.1 dX6_runOn_44 (by decide) ?_
    refine lv_iadd X.1.1 X.1.2.1 dX6_runOn_46 ?_
    refine lv_bipush (v := (iI (-9))) X.1.1 X.1.2.1 dX6_runOn_47 (by decide) ?_
    obtain ⟨i_49, hE⟩ := ib_some hE
    refine astI (t0 := 0) (ws' := (wM cI cZ m0 m1 m2 m3 m4 m5 m6 m7 m8 m9 m10 m11 m12 m13 mwo mth mrn mrm mln mat mfa mac mnx mse msd mki mof mpu (upd (upd mno (((iI 10) * v1) + (iI 5)).toNatClampNeg ((mno (((iI 10) * v1) + (iI 5)).toNatClampNeg) + v2)) (((iI 10) * v1) + (iI 6)).toNatClampNeg (iI (-9))) mrw mrt mtx mro mso msf msc mik mkt)) X hK hP hD hS 4 0 rfl rfl i_49 rfl dX6_runOn_49 (fun H locs hP hD hS => ?_)
    cases hE
    exact retWV X hP hS dX6_runOn_50
  · have hE := ite_f hE c_28
    refine lv_bipush (v := (iI 9)) X.1.1 X.1.2.1 dX6_runOn_31 (by decide) ?_
    refine lv_goto (tgt := 38) X.1.1 X.1.2.1 dX6_runOn_33 (by decide) ?_
    obtain ⟨i_38, hE⟩ := ib_some hE
    refine astI (t0 := 0) (ws' := (wM cI cZ m0 m1 m2 m3 m4 m5 m6 m7 m8 m9 m10 m11 m12 m13 mwo mth mrn mrm mln mat mfa mac mnx mse msd mki mof mpu (upd mno (((iI 10) * v1) + (iI 5)).toNatClampNeg (iI 9)) mrw mrt mtx mro mso msf msc mik mkt)) X hK hP hD hS 4 0 rfl rfl i_38 rfl dX6_runOn_38 (fun H locs hP hD hS => ?_)
    refine lv_aload_n X.1.1 X.1.2.1 dX6_runOn_39 rfl (lv_at hl 2 rfl) ?_
    refine gf6_19 X hK hP 0 rfl rfl dX6_runOn_40 ?_
    refine lv_iload_n X.1.1 X.1.2.1 dX6_runOn_43 rfl (lv_at hl 1 rfl) ?_
    refine lv_bipush (v := (iI 6)) X.1.1 X.1.2.1 dX6_runOn_44 (by decide) ?_
    refine lv_iadd X.1.1 X.1.2.1 dX6_runOn_46 ?_
    refine lv_bipush (v := (iI (-9))) X.1.1 X.1.2.1 dX6_runOn_47 (by decide) ?_
    obtain ⟨i_49, hE⟩ := ib_some hE
    refine astI (t0 := 0) (ws' := (wM cI cZ m0 m1 m2 m3 m4 m5 m6 m7 m8 m9 m10 m11 m12 m13 mwo mth mrn mrm mln mat mfa mac mnx mse msd mki mof mpu (upd (upd mno (((iI 10) * v1) + (iI 5)).toNatClampNeg (iI 9)) (((iI 10) * v1) + (iI 6)).toNatClampNeg (iI (-9))) mrw mrt mtx mro mso msf msc mik mkt)) X hK hP hD hS 4 0 rfl rfl i_49 rfl dX6_runOn_49 (fun H locs hP hD hS => ?_)
    cases hE
    exact retWV X hP hS dX6_runOn_50
theorem o6_canLead : oV yX6_canLead RX6 cX6_canLead 2 (some .boolean) 1 := ⟨tw769, tw768, tw30, tw45, ⟨by decide +kernel, by decide +kernel⟩, by decide +kernel⟩
abbrev rm6_canLead : Room := { frames := 0, cells := 0, slots := 0, locals := 0 }
set_option maxHeartbeats 4000000 in
set_option maxRecDepth 100000 in
theorem c6_canLead {l : Launch} {G : va_G} {cI cZ : ClassId} {m0 m1 m2 m3 m4 m5 m6 m7 m8 m9 m10 m11 m12 m13 : Nat} {mwo : Int32} {mth : Int32} {mrn : Int32} {mrm : Int32} {mln : Int32} {mat : Int32} {mfa : Int32} {mac : Int32} {mnx : Int32} {mse : Int32} {msd : Int64} {mki : Nat → Int32} {mof : Nat → Int32} {mpu : Nat → Int32} {mno : Nat → Int32} {mrw : Nat → Int32} {mrt : Nat → Int32} {mtx : Nat → Int32} {mro : Nat → Int32} {mso : Nat → Int32} {msf : Nat → Int32} {msc : Nat → Int32} {mik : Nat → Int32} {mkt : Nat → Int32} {v1 : Int32} {u : Int32} (hE : f6_canLead v1 mno = some u) : Met l yX6_canLead (Cond.code yX6_canLead cX6_canLead 2 (some .boolean) :: TB) rm6_canLead (PcR G cI cZ (wM cI cZ m0 m1 m2 m3 m4 m5 m6 m7 m8 m9 m10 m11 m12 m13 mwo mth mrn mrm mln mat mfa mac mnx mse msd mki mof mpu mno mrw mrt mtx mro mso msf msc mik mkt) ([.ref m0, .int v1] : List Value)) (QcRead u) 0 0 (fun _ => False) := by
  refine metR (own := RX6) (by decide +kernel) rfl (Nat.le_of_ble_eq_true rfl) ?_
  intro p e s m below meth c ls X hP hK hl
  have hl : lv_has ls 2 [(0, .ref m0), (1, .int v1)] := hl
  unfold f6_canLead at hE
  refine lv_aload_n X.1.1 X.1.2.1 dX6_canLead_0 rfl (lv_at hl 0 rfl) ?_
  refine gf6_19 X hK hP 0 rfl rfl dX6_canLead_1 ?_
  refine lv_bipush (v := (iI 10)) X.1.1 X.1.2.1 dX6_canLead_4 (by decide) ?_
  refine lv_iload_n X.1.1 X.1.2.1 dX6_canLead_6 rfl (lv_at hl 1 rfl) ?_
  refine lv_imul X.1.1 X.1.2.1 dX6_canLead_7 ?_
  refine lv_bipush (v := (iI 8)) X.1.1 X.1.2.1 dX6_canLead_8 (by decide) ?_
  refine lv_iadd X.1.1 X.1.2.1 dX6_canLead_10 ?_
  obtain ⟨i_11, hE⟩ := ib_some hE
  refine va_iald X.1.1 X.1.2.1 hK hP 4 0 rfl rfl i_11 dX6_canLead_11 ?_
  refine lv_iconst (v := (iI 1)) X.1.1 X.1.2.1 dX6_canLead_12 rfl ?_
  refine lv_icmp_eq (tgt := 30) X.1.1 X.1.2.1 dX6_canLead_13 (by decide) (fun c_13 => ?_) (fun c_13 => ?_)
  · have hE := ite_t hE c_13
    refine lv_iconst (v := (iI 1)) X.1.1 X.1.2.1 dX6_canLead_30 rfl ?_
    refine lv_goto (tgt := 35) X.1.1 X.1.2.1 dX6_canLead_31 (by decide) ?_
    cases hE
    exact retRZ X okB_1 dX6_canLead_35
  · have hE := ite_f hE c_13
    refine lv_aload_n X.1.1 X.1.2.1 dX6_canLead_16 rfl (lv_at hl 0 rfl) ?_
    refine gf6_19 X hK hP 0 rfl rfl dX6_canLead_17 ?_
    refine lv_bipush (v := (iI 10)) X.1.1 X.1.2.1 dX6_canLead_20 (by decide) ?_
    refine lv_iload_n X.1.1 X.1.2.1 dX6_canLead_22 rfl (lv_at hl 1 rfl) ?_
    refine lv_imul X.1.1 X.1.2.1 dX6_canLead_23 ?_
    refine lv_iconst (v := (iI 5)) X.1.1 X.1.2.1 dX6_canLead_24 rfl ?_
    refine lv_iadd X.1.1 X.1.2.1 dX6_canLead_25 ?_
    obtain ⟨i_26, hE⟩ := ib_some hE
    refine va_iald X.1.1 X.1.2.1 hK hP 4 0 rfl rfl i_26 dX6_canLead_26 ?_
    refine lv_if_ne (tgt := 34) X.1.1 X.1.2.1 dX6_canLead_27 (by decide) (fun c_27 => ?_) (fun c_27 => ?_)
    · have hE := ite_f hE c_27
      refine lv_iconst (v := (iI 0)) X.1.1 X.1.2.1 dX6_canLead_34 rfl ?_
      cases hE
      exact retRZ X okB_0 dX6_canLead_35
    · have hE := ite_t hE c_27
      refine lv_iconst (v := (iI 1)) X.1.1 X.1.2.1 dX6_canLead_30 rfl ?_
      refine lv_goto (tgt := 35) X.1.1 X.1.2.1 dX6_canLead_31 (by decide) ?_
      cases hE
      exact retRZ X okB_1 dX6_canLead_35
theorem o6_leadOn : oV yX6_leadOn RX6 cX6_leadOn 5 none 1 := ⟨tw773, tw772, tw31, tw45, ⟨by decide +kernel, by decide +kernel⟩, by decide +kernel⟩
abbrev rm6_leadOn : Room := { frames := 0, cells := 0, slots := 0, locals := 0 }
set_option maxHeartbeats 4000000 in
set_option maxRecDepth 100000 in
theorem c6_leadOn {l : Launch} {G : va_G} {cI cZ : ClassId} {m0 m1 m2 m3 m4 m5 m6 m7 m8 m9 m10 m11 m12 m13 : Nat} {mwo : Int32} {mth : Int32} {mrn : Int32} {mrm : Int32} {mln : Int32} {mat : Int32} {mfa : Int32} {mac : Int32} {mnx : Int32} {mse : Int32} {msd : Int64} {mki : Nat → Int32} {mof : Nat → Int32} {mpu : Nat → Int32} {mno : Nat → Int32} {mrw : Nat → Int32} {mrt : Nat → Int32} {mtx : Nat → Int32} {mro : Nat → Int32} {mso : Nat → Int32} {msf : Nat → Int32} {msc : Nat → Int32} {mik : Nat → Int32} {mkt : Nat → Int32} {v1 : Int32} {sz : Nat} {u : (Nat → Int32)} (hE : f6_leadOn v1 mki mno = some u) : Met l yX6_leadOn (Cond.code yX6_leadOn cX6_leadOn 5 none :: TB) rm6_leadOn (PcW G cI cZ (wM cI cZ m0 m1 m2 m3 m4 m5 m6 m7 m8 m9 m10 m11 m12 m13 mwo mth mrn mrm mln mat mfa mac mnx mse msd mki mof mpu mno mrw mrt mtx mro mso msf msc mik mkt) sz ([.ref m0, .int v1] : List Value)) (QW G none (wM cI cZ m0 m1 m2 m3 m4 m5 m6 m7 m8 m9 m10 m11 m12 m13 mwo mth mrn mrm mln mat mfa mac mnx mse msd mki mof mpu u mrw mrt mtx mro mso msf msc mik mkt) (va_A (wM cI cZ m0 m1 m2 m3 m4 m5 m6 m7 m8 m9 m10 m11 m12 m13 mwo mth mrn mrm mln mat mfa mac mnx mse msd mki mof mpu mno mrw mrt mtx mro mso msf msc mik mkt) sz)) 0 0 (va_A (wM cI cZ m0 m1 m2 m3 m4 m5 m6 m7 m8 m9 m10 m11 m12 m13 mwo mth mrn mrm mln mat mfa mac mnx mse msd mki mof mpu mno mrw mrt mtx mro mso msf msc mik mkt) sz) := by
  refine metW (own := RX6) (by decide +kernel) rfl (Nat.le_of_ble_eq_true rfl) ?_
  intro p e s m below meth c ls A X hA hP hK hD hl
  have hS : va_S A s.heap s.heap [] := va_S.rf
  have hl : lv_has ls 5 [(0, .ref m0), (1, .int v1)] := hl
  unfold f6_leadOn at hE
  refine lv_bipush (v := (iI 10)) X.1.1 X.1.2.1 dX6_leadOn_0 (by decide) ?_
  refine lv_iload_n X.1.1 X.1.2.1 dX6_leadOn_2 rfl (lv_at hl 1 rfl) ?_
  refine lv_imul X.1.1 X.1.2.1 dX6_leadOn_3 ?_
  refine lv_istore_n (lv' := [(2, .int ((iI 10) * v1)), (0, .ref m0), (1, .int v1)]) X.1.1 X.1.2.1 dX6_leadOn_4 rfl hl (by decide) rfl (fun ls hl => ?_)
  refine lv_aload_n X.1.1 X.1.2.1 dX6_leadOn_5 rfl (lv_at hl 1 rfl) ?_
  refine gf6_19 X hK hP 0 rfl rfl dX6_leadOn_6 ?_
  refine lv_iload_n X.1.1 X.1.2.1 dX6_leadOn_9 rfl (lv_at hl 0 rfl) ?_
  refine lv_bipush (v := (iI 6)) X.1.1 X.1.2.1 dX6_leadOn_10 (by decide) ?_
  refine lv_iadd X.1.1 X.1.2.1 dX6_leadOn_12 ?_
  obtain ⟨i_13, hE⟩ := ib_some hE
  refine va_iald X.1.1 X.1.2.1 hK hP 4 0 rfl rfl i_13 dX6_leadOn_13 ?_
  refine lv_istore_n (lv' := [(3, .int (mno (((iI 10) * v1) + (iI 6)).toNatClampNeg)), (2, .int ((iI 10) * v1)), (0, .ref m0), (1, .int v1)]) X.1.1 X.1.2.1 dX6_leadOn_14 rfl hl (by decide) rfl (fun ls hl => ?_)
  refine lv_aload_n X.1.1 X.1.2.1 dX6_leadOn_15 rfl (lv_at hl 2 rfl) ?_
  refine gf6_19 X hK hP 0 rfl rfl dX6_leadOn_16 ?_
  refine lv_iload_n X.1.1 X.1.2.1 dX6_leadOn_19 rfl (lv_at hl 1 rfl) ?_
  refine lv_bipush (v := (iI 8)) X.1.1 X.1.2.1 dX6_leadOn_20 (by decide) ?_
  refine lv_iadd X.1.1 X.1.2.1 dX6_leadOn_22 ?_
  obtain ⟨i_23, hE⟩ := ib_some hE
  refine va_iald X.1.1 X.1.2.1 hK hP 4 0 rfl rfl i_23 dX6_leadOn_23 ?_
  refine lv_if_ne (tgt := 89) X.1.1 X.1.2.1 dX6_leadOn_24 (by decide) (fun c_24 => ?_) (fun c_24 => ?_)
  · have hE := ite_f hE c_24
    refine lv_aload_n X.1.1 X.1.2.1 dX6_leadOn_89 rfl (lv_at hl 2 rfl) ?_
    refine gf6_19 X hK hP 0 rfl rfl dX6_leadOn_90 ?_
    refine lv_iload_n X.1.1 X.1.2.1 dX6_leadOn_93 rfl (lv_at hl 1 rfl) ?_
    refine lv_bipush (v := (iI 8)) X.1.1 X.1.2.1 dX6_leadOn_94 (by decide) ?_
    refine lv_iadd X.1.1 X.1.2.1 dX6_leadOn_96 ?_
    refine lv_iconst (v := (iI 1)) X.1.1 X.1.2.1 dX6_leadOn_97 rfl ?_
    refine lv_aload_n X.1.1 X.1.2.1 dX6_leadOn_98 rfl (lv_at hl 2 rfl) ?_
    refine gf6_19 X hK hP 0 rfl rfl dX6_leadOn_99 ?_
    refine lv_iload_n X.1.1 X.1.2.1 dX6_leadOn_102 rfl (lv_at hl 1 rfl) ?_
    refine lv_bipush (v := (iI 8)) X.1.1 X.1.2.1 dX6_leadOn_103 (by decide) ?_
    refine lv_iadd X.1.1 X.1.2.1 dX6_leadOn_105 ?_
    obtain ⟨i_106, hE⟩ := ib_some hE
    refine va_iald X.1.1 X.1.2.1 hK hP 4 0 rfl rfl i_106 dX6_leadOn_106 ?_
    refine lv_isub X.1.1 X.1.2.1 dX6_leadOn_107 ?_
    obtain ⟨i_108, hE⟩ := ib_some hE
    refine astI (t0 := 0) (ws' := (wM cI cZ m0 m1 m2 m3 m4 m5 m6 m7 m8 m9 m10 m11 m12 m13 mwo mth mrn mrm mln mat mfa mac mnx mse msd mki mof mpu (upd mno (((iI 10) * v1) + (iI 8)).toNatClampNeg ((iI 1) - (mno (((iI 10) * v1) + (iI 8)).toNatClampNeg))) mrw mrt mtx mro mso msf msc mik mkt)) X hK hP hD hS 4 0 rfl rfl i_108 rfl dX6_leadOn_108 (fun H locs hP hD hS => ?_)
    cases hE
    exact retWV X hP hS dX6_leadOn_109
  · have hE := ite_t hE c_24
    refine lv_iload_n X.1.1 X.1.2.1 dX6_leadOn_27 rfl (lv_at hl 0 rfl) ?_
    refine lv_bipush (v := (iI (-9))) X.1.1 X.1.2.1 dX6_leadOn_28 (by decide) ?_
    refine lv_icmp_eq (tgt := 89) X.1.1 X.1.2.1 dX6_leadOn_30 (by decide) (fun c_30 => ?_) (fun c_30 => ?_)
    · have hE := ite_t hE c_30
      refine lv_aload_n X.1.1 X.1.2.1 dX6_leadOn_89 rfl (lv_at hl 2 rfl) ?_
      refine gf6_19 X hK hP 0 rfl rfl dX6_leadOn_90 ?_
      refine lv_iload_n X.1.1 X.1.2.1 dX6_leadOn_93 rfl (lv_at hl 1 rfl) ?_
      refine lv_bipush (v := (iI 8)) X.1.1 X.1.2.1 dX6_leadOn_94 (by decide) ?_
      refine lv_iadd X.1.1 X.1.2.1 dX6_leadOn_96 ?_
      refine lv_iconst (v := (iI 1)) X.1.1 X.1.2.1 dX6_leadOn_97 rfl ?_
      refine lv_aload_n X.1.1 X.1.2.1 dX6_leadOn_98 rfl (lv_at hl 2 rfl) ?_
      refine gf6_19 X hK hP 0 rfl rfl dX6_leadOn_99 ?_
      refine lv_iload_n X.1.1 X.1.2.1 dX6_leadOn_102 rfl (lv_at hl 1 rfl) ?_
      refine lv_bipush (v := (iI 8)) X.1.1 X.1.2.1 dX6_leadOn_103 (by decide) ?_
      refine lv_iadd X.1.1 X.1.2.1 dX6_leadOn_105 ?_
      obtain ⟨i_106, hE⟩ := ib_some hE
      refine va_iald X.1.1 X.1.2.1 hK hP 4 0 rfl rfl i_106 dX6_leadOn_106 ?_
      refine lv_isub X.1.1 X.1.2.1 dX6_leadOn_107 ?_
      obtain ⟨i_108, hE⟩ := ib_some hE
      refine astI (t0 := 0) (ws' := (wM cI cZ m0 m1 m2 m3 m4 m5 m6 m7 m8 m9 m10 m11 m12 m13 mwo mth mrn mrm mln mat mfa mac mnx mse msd mki mof mpu (upd mno (((iI 10) * v1) + (iI 8)).toNatClampNeg ((iI 1) - (mno (((iI 10) * v1) + (iI 8)).toNatClampNeg))) mrw mrt mtx mro mso msf msc mik mkt)) X hK hP hD hS 4 0 rfl rfl i_108 rfl dX6_leadOn_108 (fun H locs hP hD hS => ?_)
      cases hE
      exact retWV X hP hS dX6_leadOn_109
    · have hE := ite_f hE c_30
      refine lv_aload_n X.1.1 X.1.2.1 dX6_leadOn_33 rfl (lv_at hl 2 rfl) ?_
      refine gf6_19 X hK hP 0 rfl rfl dX6_leadOn_34 ?_
      refine lv_iload_n X.1.1 X.1.2.1 dX6_leadOn_37 rfl (lv_at hl 1 rfl) ?_
      refine lv_iload_n X.1.1 X.1.2.1 dX6_leadOn_38 rfl (lv_at hl 0 rfl) ?_
      refine lv_iadd X.1.1 X.1.2.1 dX6_leadOn_39 ?_
      obtain ⟨i_40, hE⟩ := ib_some hE
      refine va_iald X.1.1 X.1.2.1 hK hP 4 0 rfl rfl i_40 dX6_leadOn_40 ?_
      refine lv_aload_n X.1.1 X.1.2.1 dX6_leadOn_41 rfl (lv_at hl 2 rfl) ?_
      refine gf6_7 X hK hP 0 rfl rfl dX6_leadOn_42 ?_
      refine lv_iload_n X.1.1 X.1.2.1 dX6_leadOn_45 rfl (lv_at hl 0 rfl) ?_
      obtain ⟨i_46, hE⟩ := ib_some hE
      refine va_iald X.1.1 X.1.2.1 hK hP 1 0 rfl rfl i_46 dX6_leadOn_46 ?_
      refine lv_iconst (v := (iI 3)) X.1.1 X.1.2.1 dX6_leadOn_47 rfl ?_
      refine lv_icmp_ne (tgt := 55) X.1.1 X.1.2.1 dX6_leadOn_48 (by decide) (fun c_48 => ?_) (fun c_48 => ?_)
      · have hE := ite_f hE c_48
        refine lv_iconst (v := (iI 2)) X.1.1 X.1.2.1 dX6_leadOn_55 rfl ?_
        refine lv_isub X.1.1 X.1.2.1 dX6_leadOn_56 ?_
        refine lv_istore (lv' := [(4, .int ((mno (((iI 10) * v1) + (mno (((iI 10) * v1) + (iI 6)).toNatClampNeg)).toNatClampNeg) - (iI 2))), (3, .int (mno (((iI 10) * v1) + (iI 6)).toNatClampNeg)), (2, .int ((iI 10) * v1)), (0, .ref m0), (1, .int v1)]) X.1.1 X.1.2.1 dX6_leadOn_57 hl (by decide) rfl (fun ls hl => ?_)
        refine lv_aload_n X.1.1 X.1.2.1 dX6_leadOn_59 rfl (lv_at hl 3 rfl) ?_
        refine gf6_19 X hK hP 0 rfl rfl dX6_leadOn_60 ?_
        refine lv_iload_n X.1.1 X.1.2.1 dX6_leadOn_63 rfl (lv_at hl 2 rfl) ?_
        refine lv_iload_n X.1.1 X.1.2.1 dX6_leadOn_64 rfl (lv_at hl 1 rfl) ?_
        refine lv_iadd X.1.1 X.1.2.1 dX6_leadOn_65 ?_
        refine lv_iload X.1.1 X.1.2.1 dX6_leadOn_66 (lv_at hl 0 rfl) ?_
        refine lv_if_ge (tgt := 75) X.1.1 X.1.2.1 dX6_leadOn_68 (by decide) (fun c_68 => ?_) (fun c_68 => ?_)
        · have hE := ite_t hE c_68
          refine lv_iload X.1.1 X.1.2.1 dX6_leadOn_75 (lv_at hl 0 rfl) ?_
          obtain ⟨i_77, hE⟩ := ib_some hE
          refine astI (t0 := 0) (ws' := (wM cI cZ m0 m1 m2 m3 m4 m5 m6 m7 m8 m9 m10 m11 m12 m13 mwo mth mrn mrm mln mat mfa mac mnx mse msd mki mof mpu (upd mno (((iI 10) * v1) + (mno (((iI 10) * v1) + (iI 6)).toNatClampNeg)).toNatClampNeg ((mno (((iI 10) * v1) + (mno (((iI 10) * v1) + (iI 6)).toNatClampNeg)).toNatClampNeg) - (iI 2))) mrw mrt mtx mro mso msf msc mik mkt)) X hK hP hD hS 4 0 rfl rfl i_77 rfl dX6_leadOn_77 (fun H locs hP hD hS => ?_)
          refine lv_aload_n X.1.1 X.1.2.1 dX6_leadOn_78 rfl (lv_at hl 3 rfl) ?_
          refine gf6_19 X hK hP 0 rfl rfl dX6_leadOn_79 ?_
          refine lv_iload_n X.1.1 X.1.2.1 dX6_leadOn_82 rfl (lv_at hl 2 rfl) ?_
          refine lv_bipush (v := (iI 6)) X.1.1 X.1.2.1 dX6_leadOn_83 (by decide) ?_
          refine lv_iadd X.1.1 X.1.2.1 dX6_leadOn_85 ?_
          refine lv_bipush (v := (iI (-9))) X.1.1 X.1.2.1 dX6_leadOn_86 (by decide) ?_
          obtain ⟨i_88, hE⟩ := ib_some hE
          refine astI (t0 := 0) (ws' := (wM cI cZ m0 m1 m2 m3 m4 m5 m6 m7 m8 m9 m10 m11 m12 m13 mwo mth mrn mrm mln mat mfa mac mnx mse msd mki mof mpu (upd (upd mno (((iI 10) * v1) + (mno (((iI 10) * v1) + (iI 6)).toNatClampNeg)).toNatClampNeg ((mno (((iI 10) * v1) + (mno (((iI 10) * v1) + (iI 6)).toNatClampNeg)).toNatClampNeg) - (iI 2))) (((iI 10) * v1) + (iI 6)).toNatClampNeg (iI (-9))) mrw mrt mtx mro mso msf msc mik mkt)) X hK hP hD hS 4 0 rfl rfl i_88 rfl dX6_leadOn_88 (fun H locs hP hD hS => ?_)
          refine lv_aload_n X.1.1 X.1.2.1 dX6_leadOn_89 rfl (lv_at hl 3 rfl) ?_
          refine gf6_19 X hK hP 0 rfl rfl dX6_leadOn_90 ?_
          refine lv_iload_n X.1.1 X.1.2.1 dX6_leadOn_93 rfl (lv_at hl 2 rfl) ?_
          refine lv_bipush (v := (iI 8)) X.1.1 X.1.2.1 dX6_leadOn_94 (by decide) ?_
          refine lv_iadd X.1.1 X.1.2.1 dX6_leadOn_96 ?_
          refine lv_iconst (v := (iI 1)) X.1.1 X.1.2.1 dX6_leadOn_97 rfl ?_
          refine lv_aload_n X.1.1 X.1.2.1 dX6_leadOn_98 rfl (lv_at hl 3 rfl) ?_
          refine gf6_19 X hK hP 0 rfl rfl dX6_leadOn_99 ?_
          refine lv_iload_n X.1.1 X.1.2.1 dX6_leadOn_102 rfl (lv_at hl 2 rfl) ?_
          refine lv_bipush (v := (iI 8)) X.1.1 X.1.2.1 dX6_leadOn_103 (by decide) ?_
          refine lv_iadd X.1.1 X.1.2.1 dX6_leadOn_105 ?_
          obtain ⟨i_106, hE⟩ := ib_some hE
          refine va_iald X.1.1 X.1.2.1 hK hP 4 0 rfl rfl i_106 dX6_leadOn_106 ?_
          refine lv_isub X.1.1 X.1.2.1 dX6_leadOn_107 ?_
          obtain ⟨i_108, hE⟩ := ib_some hE
          refine astI (t0 := 0) (ws' := (wM cI cZ m0 m1 m2 m3 m4 m5 m6 m7 m8 m9 m10 m11 m12 m13 mwo mth mrn mrm mln mat mfa mac mnx mse msd mki mof mpu (upd (upd (upd mno (((iI 10) * v1) + (mno (((iI 10) * v1) + (iI 6)).toNatClampNeg)).toNatClampNeg ((mno (((iI 10) * v1) + (mno (((iI 10) * v1) + (iI 6)).toNatClampNeg)).toNatClampNeg) - (iI 2))) (((iI 10) * v1) + (iI 6)).toNatClampNeg (iI (-9))) (((iI 10) * v1) + (iI 8)).toNatClampNeg ((iI 1) - ((upd (upd mno (((iI 10) * v1) + (mno (((iI 10) * v1) + (iI 6)).toNatClampNeg)).toNatClampNeg ((mno (((iI 10) * v1) + (mno (((iI 10) * v1) + (iI 6)).toNatClampNeg)).toNatClampNeg) - (iI 2))) (((iI 10) * v1) + (iI 6)).toNatClampNeg (iI (-9))) (((iI 10) * v1) + (iI 8)).toNatClampNeg))) mrw mrt mtx mro mso msf msc mik mkt)) X hK hP hD hS 4 0 rfl rfl i_108 rfl dX6_leadOn_108 (fun H locs hP hD hS => ?_)
          cases hE
          exact retWV X hP hS dX6_leadOn_109
        · have hE := ite_f hE c_68
          refine lv_iconst (v := (iI 0)) X.1.1 X.1.2.1 dX6_leadOn_71 rfl ?_
          refine lv_goto (tgt := 77) X.1.1 X.1.2.1 dX6_leadOn_72 (by decide) ?_
          obtain ⟨i_77, hE⟩ := ib_some hE
          refine astI (t0 := 0) (ws' := (wM cI cZ m0 m1 m2 m3 m4 m5 m6 m7 m8 m9 m10 m11 m12 m13 mwo mth mrn mrm mln mat mfa mac mnx mse msd mki mof mpu (upd mno (((iI 10) * v1) + (mno (((iI 10) * v1) + (iI 6)).toNatClampNeg)).toNatClampNeg (iI 0)) mrw mrt mtx mro mso msf msc mik mkt)) X hK hP hD hS 4 0 rfl rfl i_77 rfl dX6_leadOn_77 (fun H locs hP hD hS => ?_)
          refine lv_aload_n X.1.1 X.1.2.1 dX6_leadOn_78 rfl (lv_at hl 3 rfl) ?_
          refine gf6_19 X hK hP 0 rfl rfl dX6_leadOn_79 ?_
          refine lv_iload_n X.1.1 X.1.2.1 dX6_leadOn_82 rfl (lv_at hl 2 rfl) ?_
          refine lv_bipush (v := (iI 6)) X.1.1 X.1.2.1 dX6_leadOn_83 (by decide) ?_
          refine lv_iadd X.1.1 X.1.2.1 dX6_leadOn_85 ?_
          refine lv_bipush (v := (iI (-9))) X.1.1 X.1.2.1 dX6_leadOn_86 (by decide) ?_
          obtain ⟨i_88, hE⟩ := ib_some hE
          refine astI (t0 := 0) (ws' := (wM cI cZ m0 m1 m2 m3 m4 m5 m6 m7 m8 m9 m10 m11 m12 m13 mwo mth mrn mrm mln mat mfa mac mnx mse msd mki mof mpu (upd (upd mno (((iI 10) * v1) + (mno (((iI 10) * v1) + (iI 6)).toNatClampNeg)).toNatClampNeg (iI 0)) (((iI 10) * v1) + (iI 6)).toNatClampNeg (iI (-9))) mrw mrt mtx mro mso msf msc mik mkt)) X hK hP hD hS 4 0 rfl rfl i_88 rfl dX6_leadOn_88 (fun H locs hP hD hS => ?_)
          refine lv_aload_n X.1.1 X.1.2.1 dX6_leadOn_89 rfl (lv_at hl 3 rfl) ?_
          refine gf6_19 X hK hP 0 rfl rfl dX6_leadOn_90 ?_
          refine lv_iload_n X.1.1 X.1.2.1 dX6_leadOn_93 rfl (lv_at hl 2 rfl) ?_
          refine lv_bipush (v := (iI 8)) X.1.1 X.1.2.1 dX6_leadOn_94 (by decide) ?_
          refine lv_iadd X.1.1 X.1.2.1 dX6_leadOn_96 ?_
          refine lv_iconst (v := (iI 1)) X.1.1 X.1.2.1 dX6_leadOn_97 rfl ?_
          refine lv_aload_n X.1.1 X.1.2.1 dX6_leadOn_98 rfl (lv_at hl 3 rfl) ?_
          refine gf6_19 X hK hP 0 rfl rfl dX6_leadOn_99 ?_
          refine lv_iload_n X.1.1 X.1.2.1 dX6_leadOn_102 rfl (lv_at hl 2 rfl) ?_
          refine lv_bipush (v := (iI 8)) X.1.1 X.1.2.1 dX6_leadOn_103 (by decide) ?_
          refine lv_iadd X.1.1 X.1.2.1 dX6_leadOn_105 ?_
          obtain ⟨i_106, hE⟩ := ib_some hE
          refine va_iald X.1.1 X.1.2.1 hK hP 4 0 rfl rfl i_106 dX6_leadOn_106 ?_
          refine lv_isub X.1.1 X.1.2.1 dX6_leadOn_107 ?_
          obtain ⟨i_108, hE⟩ := ib_some hE
          refine astI (t0 := 0) (ws' := (wM cI cZ m0 m1 m2 m3 m4 m5 m6 m7 m8 m9 m10 m11 m12 m13 mwo mth mrn mrm mln mat mfa mac mnx mse msd mki mof mpu (upd (upd (upd mno (((iI 10) * v1) + (mno (((iI 10) * v1) + (iI 6)).toNatClampNeg)).toNatClampNeg (iI 0)) (((iI 10) * v1) + (iI 6)).toNatClampNeg (iI (-9))) (((iI 10) * v1) + (iI 8)).toNatClampNeg ((iI 1) - ((upd (upd mno (((iI 10) * v1) + (mno (((iI 10) * v1) + (iI 6)).toNatClampNeg)).toNatClampNeg (iI 0)) (((iI 10) * v1) + (iI 6)).toNatClampNeg (iI (-9))) (((iI 10) * v1) + (iI 8)).toNatClampNeg))) mrw mrt mtx mro mso msf msc mik mkt)) X hK hP hD hS 4 0 rfl rfl i_108 rfl dX6_leadOn_108 (fun H locs hP hD hS => ?_)
          cases hE
          exact retWV X hP hS dX6_leadOn_109
      · have hE := ite_t hE c_48
        refine lv_iconst (v := (iI 1)) X.1.1 X.1.2.1 dX6_leadOn_51 rfl ?_
        refine lv_goto (tgt := 56) X.1.1 X.1.2.1 dX6_leadOn_52 (by decide) ?_
        refine lv_isub X.1.1 X.1.2.1 dX6_leadOn_56 ?_
        refine lv_istore (lv' := [(4, .int ((mno (((iI 10) * v1) + (mno (((iI 10) * v1) + (iI 6)).toNatClampNeg)).toNatClampNeg) - (iI 1))), (3, .int (mno (((iI 10) * v1) + (iI 6)).toNatClampNeg)), (2, .int ((iI 10) * v1)), (0, .ref m0), (1, .int v1)]) X.1.1 X.1.2.1 dX6_leadOn_57 hl (by decide) rfl (fun ls hl => ?_)
        refine lv_aload_n X.1.1 X.1.2.1 dX6_leadOn_59 rfl (lv_at hl 3 rfl) ?_
        refine gf6_19 X hK hP 0 rfl rfl dX6_leadOn_60 ?_
        refine lv_iload_n X.1.1 X.1.2.1 dX6_leadOn_63 rfl (lv_at hl 2 rfl) ?_
        refine lv_iload_n X.1.1 X.1.2.1 dX6_leadOn_64 rfl (lv_at hl 1 rfl) ?_
        refine lv_iadd X.1.1 X.1.2.1 dX6_leadOn_65 ?_
        refine lv_iload X.1.1 X.1.2.1 dX6_leadOn_66 (lv_at hl 0 rfl) ?_
        refine lv_if_ge (tgt := 75) X.1.1 X.1.2.1 dX6_leadOn_68 (by decide) (fun c_68 => ?_) (fun c_68 => ?_)
        · have hE := ite_t hE c_68
          refine lv_iload X.1.1 X.1.2.1 dX6_leadOn_75 (lv_at hl 0 rfl) ?_
          obtain ⟨i_77, hE⟩ := ib_some hE
          refine astI (t0 := 0) (ws' := (wM cI cZ m0 m1 m2 m3 m4 m5 m6 m7 m8 m9 m10 m11 m12 m13 mwo mth mrn mrm mln mat mfa mac mnx mse msd mki mof mpu (upd mno (((iI 10) * v1) + (mno (((iI 10) * v1) + (iI 6)).toNatClampNeg)).toNatClampNeg ((mno (((iI 10) * v1) + (mno (((iI 10) * v1) + (iI 6)).toNatClampNeg)).toNatClampNeg) - (iI 1))) mrw mrt mtx mro mso msf msc mik mkt)) X hK hP hD hS 4 0 rfl rfl i_77 rfl dX6_leadOn_77 (fun H locs hP hD hS => ?_)
          refine lv_aload_n X.1.1 X.1.2.1 dX6_leadOn_78 rfl (lv_at hl 3 rfl) ?_
          refine gf6_19 X hK hP 0 rfl rfl dX6_leadOn_79 ?_
          refine lv_iload_n X.1.1 X.1.2.1 dX6_leadOn_82 rfl (lv_at hl 2 rfl) ?_
          refine lv_bipush (v := (iI 6)) X.1.1 X.1.2.1 dX6_leadOn_83 (by decide) ?_
          refine lv_iadd X.1.1 X.1.2.1 dX6_leadOn_85 ?_
          refine lv_bipush (v := (iI (-9))) X.1.1 X.1.2.1 dX6_leadOn_86 (by decide) ?_
          obtain ⟨i_88, hE⟩ := ib_some hE
          refine astI (t0 := 0) (ws' := (wM cI cZ m0 m1 m2 m3 m4 m5 m6 m7 m8 m9 m10 m11 m12 m13 mwo mth mrn mrm mln mat mfa mac mnx mse msd mki mof mpu (upd (upd mno (((iI 10) * v1) + (mno (((iI 10) * v1) + (iI 6)).toNatClampNeg)).toNatClampNeg ((mno (((iI 10) * v1) + (mno (((iI 10) * v1) + (iI 6)).toNatClampNeg)).toNatClampNeg) - (iI 1))) (((iI 10) * v1) + (iI 6)).toNatClampNeg (iI (-9))) mrw mrt mtx mro mso msf msc mik mkt)) X hK hP hD hS 4 0 rfl rfl i_88 rfl dX6_leadOn_88 (fun H locs hP hD hS => ?_)
          refine lv_aload_n X.1.1 X.1.2.1 dX6_leadOn_89 rfl (lv_at hl 3 rfl) ?_
          refine gf6_19 X hK hP 0 rfl rfl dX6_leadOn_90 ?_
          refine lv_iload_n X.1.1 X.1.2.1 dX6_leadOn_93 rfl (lv_at hl 2 rfl) ?_
          refine lv_bipush (v := (iI 8)) X.1.1 X.1.2.1 dX6_leadOn_94 (by decide) ?_
          refine lv_iadd X.1.1 X.1.2.1 dX6_leadOn_96 ?_
          refine lv_iconst (v := (iI 1)) X.1.1 X.1.2.1 dX6_leadOn_97 rfl ?_
          refine lv_aload_n X.1.1 X.1.2.1 dX6_leadOn_98 rfl (lv_at hl 3 rfl) ?_
          refine gf6_19 X hK hP 0 rfl rfl dX6_leadOn_99 ?_
          refine lv_iload_n X.1.1 X.1.2.1 dX6_leadOn_102 rfl (lv_at hl 2 rfl) ?_
          refine lv_bipush (v := (iI 8)) X.1.1 X.1.2.1 dX6_leadOn_103 (by decide) ?_
          refine lv_iadd X.1.1 X.1.2.1 dX6_leadOn_105 ?_
          obtain ⟨i_106, hE⟩ := ib_some hE
          refine va_iald X.1.1 X.1.2.1 hK hP 4 0 rfl rfl i_106 dX6_leadOn_106 ?_
          refine lv_isub X.1.1 X.1.2.1 dX6_leadOn_107 ?_
          obtain ⟨i_108, hE⟩ := ib_some hE
          refine astI (t0 := 0) (ws' := (wM cI cZ m0 m1 m2 m3 m4 m5 m6 m7 m8 m9 m10 m11 m12 m13 mwo mth mrn mrm mln mat mfa mac mnx mse msd mki mof mpu (upd (upd (upd mno (((iI 10) * v1) + (mno (((iI 10) * v1) + (iI 6)).toNatClampNeg)).toNatClampNeg ((mno (((iI 10) * v1) + (mno (((iI 10) * v1) + (iI 6)).toNatClampNeg)).toNatClampNeg) - (iI 1))) (((iI 10) * v1) + (iI 6)).toNatClampNeg (iI (-9))) (((iI 10) * v1) + (iI 8)).toNatClampNeg ((iI 1) - ((upd (upd mno (((iI 10) * v1) + (mno (((iI 10) * v1) + (iI 6)).toNatClampNeg)).toNatClampNeg ((mno (((iI 10) * v1) + (mno (((iI 10) * v1) + (iI 6)).toNatClampNeg)).toNatClampNeg) - (iI 1))) (((iI 10) * v1) + (iI 6)).toNatClampNeg (iI (-9))) (((iI 10) * v1) + (iI 8)).toNatClampNeg))) mrw mrt mtx mro mso msf msc mik mkt)) X hK hP hD hS 4 0 rfl rfl i_108 rfl dX6_leadOn_108 (fun H locs hP hD hS => ?_)
          cases hE
          exact retWV X hP hS dX6_leadOn_109
        · have hE := ite_f hE c_68
          refine lv_iconst (v := (iI 0)) X.1.1 X.1.2.1 dX6_leadOn_71 rfl ?_
          refine lv_goto (tgt := 77) X.1.1 X.1.2.1 dX6_leadOn_72 (by decide) ?_
          obtain ⟨i_77, hE⟩ := ib_some hE
          refine astI (t0 := 0) (ws' := (wM cI cZ m0 m1 m2 m3 m4 m5 m6 m7 m8 m9 m10 m11 m12 m13 mwo mth mrn mrm mln mat mfa mac mnx mse msd mki mof mpu (upd mno (((iI 10) * v1) + (mno (((iI 10) * v1) + (iI 6)).toNatClampNeg)).toNatClampNeg (iI 0)) mrw mrt mtx mro mso msf msc mik mkt)) X hK hP hD hS 4 0 rfl rfl i_77 rfl dX6_leadOn_77 (fun H locs hP hD hS => ?_)
          refine lv_aload_n X.1.1 X.1.2.1 dX6_leadOn_78 rfl (lv_at hl 3 rfl) ?_
          refine gf6_19 X hK hP 0 rfl rfl dX6_leadOn_79 ?_
          refine lv_iload_n X.1.1 X.1.2.1 dX6_leadOn_82 rfl (lv_at hl 2 rfl) ?_
          refine lv_bipush (v := (iI 6)) X.1.1 X.1.2.1 dX6_leadOn_83 (by decide) ?_
          refine lv_iadd X.1.1 X.1.2.1 dX6_leadOn_85 ?_
          refine lv_bipush (v := (iI (-9))) X.1.1 X.1.2.1 dX6_leadOn_86 (by decide) ?_
          obtain ⟨i_88, hE⟩ := ib_some hE
          refine astI (t0 := 0) (ws' := (wM cI cZ m0 m1 m2 m3 m4 m5 m6 m7 m8 m9 m10 m11 m12 m13 mwo mth mrn mrm mln mat mfa mac mnx mse msd mki mof mpu (upd (upd mno (((iI 10) * v1) + (mno (((iI 10) * v1) + (iI 6)).toNatClampNeg)).toNatClampNeg (iI 0)) (((iI 10) * v1) + (iI 6)).toNatClampNeg (iI (-9))) mrw mrt mtx mro mso msf msc mik mkt)) X hK hP hD hS 4 0 rfl rfl i_88 rfl dX6_leadOn_88 (fun H locs hP hD hS => ?_)
          refine lv_aload_n X.1.1 X.1.2.1 dX6_leadOn_89 rfl (lv_at hl 3 rfl) ?_
          refine gf6_19 X hK hP 0 rfl rfl dX6_leadOn_90 ?_
          refine lv_iload_n X.1.1 X.1.2.1 dX6_leadOn_93 rfl (lv_at hl 2 rfl) ?_
          refine lv_bipush (v := (iI 8)) X.1.1 X.1.2.1 dX6_leadOn_94 (by decide) ?_
          refine lv_iadd X.1.1 X.1.2.1 dX6_leadOn_96 ?_
          refine lv_iconst (v := (iI 1)) X.1.1 X.1.2.1 dX6_leadOn_97 rfl ?_
          refine lv_aload_n X.1.1 X.1.2.1 dX6_leadOn_98 rfl (lv_at hl 3 rfl) ?_
          refine gf6_19 X hK hP 0 rfl rfl dX6_leadOn_99 ?_
          refine lv_iload_n X.1.1 X.1.2.1 dX6_leadOn_102 rfl (lv_at hl 2 rfl) ?_
          refine lv_bipush (v := (iI 8)) X.1.1 X.1.2.1 dX6_leadOn_103 (by decide) ?_
          refine lv_iadd X.1.1 X.1.2.1 dX6_leadOn_105 ?_
          obtain ⟨i_106, hE⟩ := ib_some hE
          refine va_iald X.1.1 X.1.2.1 hK hP 4 0 rfl rfl i_106 dX6_leadOn_106 ?_
          refine lv_isub X.1.1 X.1.2.1 dX6_leadOn_107 ?_
          obtain ⟨i_108, hE⟩ := ib_some hE
          refine astI (t0 := 0) (ws' := (wM cI cZ m0 m1 m2 m3 m4 m5 m6 m7 m8 m9 m10 m11 m12 m13 mwo mth mrn mrm mln mat mfa mac mnx mse msd mki mof mpu (upd (upd (upd mno (((iI 10) * v1) + (mno (((iI 10) * v1) + (iI 6)).toNatClampNeg)).toNatClampNeg (iI 0)) (((iI 10) * v1) + (iI 6)).toNatClampNeg (iI (-9))) (((iI 10) * v1) + (iI 8)).toNatClampNeg ((iI 1) - ((upd (upd mno (((iI 10) * v1) + (mno (((iI 10) * v1) + (iI 6)).toNatClampNeg)).toNatClampNeg (iI 0)) (((iI 10) * v1) + (iI 6)).toNatClampNeg (iI (-9))) (((iI 10) * v1) + (iI 8)).toNatClampNeg))) mrw mrt mtx mro mso msf msc mik mkt)) X hK hP hD hS 4 0 rfl rfl i_108 rfl dX6_leadOn_108 (fun H locs hP hD hS => ?_)
          cases hE
          exact retWV X hP hS dX6_leadOn_109
theorem o6_keepAct : oV yX6_keepAct RX6 cX6_keepAct 2 none 0 := ⟨tw737, tw736, tw25, tw45, ⟨by decide +kernel, by decide +kernel⟩, by decide +kernel⟩
abbrev rm6_keepAct : Room := { frames := 0, cells := 0, slots := 0, locals := 0 }
set_option maxHeartbeats 4000000 in
set_option maxRecDepth 100000 in
theorem c6_keepAct {l : Launch} {G : va_G} {cI cZ : ClassId} {m0 m1 m2 m3 m4 m5 m6 m7 m8 m9 m10 m11 m12 m13 : Nat} {mwo : Int32} {mth : Int32} {mrn : Int32} {mrm : Int32} {mln : Int32} {mat : Int32} {mfa : Int32} {mac : Int32} {mnx : Int32} {mse : Int32} {msd : Int64} {mki : Nat → Int32} {mof : Nat → Int32} {mpu : Nat → Int32} {mno : Nat → Int32} {mrw : Nat → Int32} {mrt : Nat → Int32} {mtx : Nat → Int32} {mro : Nat → Int32} {mso : Nat → Int32} {msf : Nat → Int32} {msc : Nat → Int32} {mik : Nat → Int32} {mkt : Nat → Int32} {sz : Nat} {u : Int32 × Int32 × (Nat → Int32)} (hE : f6_keepAct mac mnx mno mro = some u) : Met l yX6_keepAct (Cond.code yX6_keepAct cX6_keepAct 2 none :: TB) rm6_keepAct (PcW G cI cZ (wM cI cZ m0 m1 m2 m3 m4 m5 m6 m7 m8 m9 m10 m11 m12 m13 mwo mth mrn mrm mln mat mfa mac mnx mse msd mki mof mpu mno mrw mrt mtx mro mso msf msc mik mkt) sz ([.ref m0] : List Value)) (QW G none (wM cI cZ m0 m1 m2 m3 m4 m5 m6 m7 m8 m9 m10 m11 m12 m13 mwo mth mrn mrm mln mat mfa u.1 u.2.1 mse msd mki mof mpu mno mrw mrt mtx u.2.2 mso msf msc mik mkt) (va_A (wM cI cZ m0 m1 m2 m3 m4 m5 m6 m7 m8 m9 m10 m11 m12 m13 mwo mth mrn mrm mln mat mfa mac mnx mse msd mki mof mpu mno mrw mrt mtx mro mso msf msc mik mkt) sz)) 0 0 (va_A (wM cI cZ m0 m1 m2 m3 m4 m5 m6 m7 m8 m9 m10 m11 m12 m13 mwo mth mrn mrm mln mat mfa mac mnx mse msd mki mof mpu mno mrw mrt mtx mro mso msf msc mik mkt) sz) := by
  refine metW (own := RX6) (by decide +kernel) rfl (Nat.le_of_ble_eq_true rfl) ?_
  intro p e s m below meth c ls A X hA hP hK hD hl
  have hS : va_S A s.heap s.heap [] := va_S.rf
  have hl : lv_has ls 2 [(0, .ref m0)] := hl
  unfold f6_keepAct at hE
  refine lv_iconst (v := (iI 0)) X.1.1 X.1.2.1 dX6_keepAct_0 rfl ?_
  refine lv_istore_n (lv' := [(1, .int (iI 0)), (0, .ref m0)]) X.1.1 X.1.2.1 dX6_keepAct_1 rfl hl (by decide) rfl (fun ls hl => ?_)
  have lp2 : ∀ (k : Int32 → (Nat → Int32) → Option (Int32 × Int32 × (Nat → Int32))), (∀ (v1_1001 : Int32) (mro_1001 : Nat → Int32) (H : Heap) (locs : List Loc) (ls : Array Slot), va_P G vwCl (wM cI cZ m0 m1 m2 m3 m4 m5 m6 m7 m8 m9 m10 m11 m12 m13 mwo mth mrn mrm mln mat mfa mac mnx mse msd mki mof mpu mno mrw mrt mtx mro_1001 mso msf msc mik mkt) H → va_D A (wM cI cZ m0 m1 m2 m3 m4 m5 m6 m7 m8 m9 m10 m11 m12 m13 mwo mth mrn mrm mln mat mfa mac mnx mse msd mki mof mpu mno mrw mrt mtx mro_1001 mso msf msc mik mkt) → va_S A s.heap H locs → lv_has ls 2 [(0, .ref m0), (1, .int v1_1001)] → k v1_1001 mro_1001 = some u → W p l e rm6_keepAct s m ([.ref m0] : List Value).toArray below meth c H locs 0 0 (MQ below (QW G none (wM cI cZ m0 m1 m2 m3 m4 m5 m6 m7 m8 m9 m10 m11 m12 m13 mwo mth mrn mrm mln mat mfa u.1 u.2.1 mse msd mki mof mpu mno mrw mrt mtx u.2.2 mso msf msc mik mkt) A) ([.ref m0] : List Value).toArray s 0 0 A) (F0 m 34 ls [])) → ∀ (n : Nat) (v1_1001 : Int32) (mro_1001 : Nat → Int32) (H : Heap) (locs : List Loc) (ls : Array Slot), va_P G vwCl (wM cI cZ m0 m1 m2 m3 m4 m5 m6 m7 m8 m9 m10 m11 m12 m13 mwo mth mrn mrm mln mat mfa mac mnx mse msd mki mof mpu mno mrw mrt mtx mro_1001 mso msf msc mik mkt) H → va_D A (wM cI cZ m0 m1 m2 m3 m4 m5 m6 m7 m8 m9 m10 m11 m12 m13 mwo mth mrn mrm mln mat mfa mac mnx mse msd mki mof mpu mno mrw mrt mtx mro_1001 mso msf msc mik mkt) → va_S A s.heap H locs → lv_has ls 2 [(0, .ref m0), (1, .int v1_1001)] → l6_keepAct_2 k mnx mno n v1_1001 mro_1001 = some u → W p l e rm6_keepAct s m ([.ref m0] : List Value).toArray below meth c H locs 0 0 (MQ below (QW G none (wM cI cZ m0 m1 m2 m3 m4 m5 m6 m7 m8 m9 m10 m11 m12 m13 mwo mth mrn mrm mln mat mfa u.1 u.2.1 mse msd mki mof mpu mno mrw mrt mtx u.2.2 mso msf msc mik mkt) A) ([.ref m0] : List Value).toArray s 0 0 A) (F0 m 2 ls []) := by
    intro k hex n
    induction n with
    | zero =>
      intro v1_1001 mro_1001 H locs ls hP hD hS hl hE
      exact absurd (show (none : Option (Int32 × Int32 × (Nat → Int32))) = some u from hE) (fun h => by cases h)
    | succ n ih =>
      intro v1_1001 mro_1001 H locs ls hP hD hS hl hE
      rw [l6_keepAct_2] at hE
      refine lv_iload_n X.1.1 X.1.2.1 dX6_keepAct_2 rfl (lv_at hl 1 rfl) ?_
      refine lv_bipush (v := (iI 10)) X.1.1 X.1.2.1 dX6_keepAct_3 (by decide) ?_
      refine lv_icmp_ge (tgt := 34) X.1.1 X.1.2.1 dX6_keepAct_5 (by decide) (fun c_5 => ?_) (fun c_5 => ?_)
      · have hE := ite_t hE c_5
        exact hex v1_1001 mro_1001 H locs ls hP hD hS (lv_sub hl [0, 1] rfl) hE
      · have hE := ite_f hE c_5
        refine lv_aload_n X.1.1 X.1.2.1 dX6_keepAct_8 rfl (lv_at hl 0 rfl) ?_
        refine gf6_31 X hK hP 0 rfl rfl dX6_keepAct_9 ?_
        refine lv_bipush (v := (iI 10)) X.1.1 X.1.2.1 dX6_keepAct_12 (by decide) ?_
        refine lv_aload_n X.1.1 X.1.2.1 dX6_keepAct_14 rfl (lv_at hl 0 rfl) ?_
        refine gf6_120 X hK hP 0 rfl rfl dX6_keepAct_15 ?_
        refine lv_imul X.1.1 X.1.2.1 dX6_keepAct_18 ?_
        refine lv_iload_n X.1.1 X.1.2.1 dX6_keepAct_19 rfl (lv_at hl 1 rfl) ?_
        refine lv_iadd X.1.1 X.1.2.1 dX6_keepAct_20 ?_
        refine lv_aload_n X.1.1 X.1.2.1 dX6_keepAct_21 rfl (lv_at hl 0 rfl) ?_
        refine gf6_19 X hK hP 0 rfl rfl dX6_keepAct_22 ?_
        refine lv_iload_n X.1.1 X.1.2.1 dX6_keepAct_25 rfl (lv_at hl 1 rfl) ?_
        obtain ⟨i_26, hE⟩ := ib_some hE
        refine va_iald X.1.1 X.1.2.1 hK hP 4 0 rfl rfl i_26 dX6_keepAct_26 ?_
        obtain ⟨i_27, hE⟩ := ib_some hE
        refine astI (t0 := 0) (ws' := (wM cI cZ m0 m1 m2 m3 m4 m5 m6 m7 m8 m9 m10 m11 m12 m13 mwo mth mrn mrm mln mat mfa mac mnx mse msd mki mof mpu mno mrw mrt mtx (upd mro_1001 (((iI 10) * mnx) + v1_1001).toNatClampNeg (mno v1_1001.toNatClampNeg)) mso msf msc mik mkt)) X hK hP hD hS 8 0 rfl rfl i_27 rfl dX6_keepAct_27 (fun H locs hP hD hS => ?_)
        refine lv_iinc (v := (v1_1001 + (iI 1))) (lv' := [(1, .int (v1_1001 + (iI 1))), (0, .ref m0)]) X.1.1 X.1.2.1 dX6_keepAct_28 hl (k := 1) rfl rfl (by decide) rfl (fun ls hl => ?_)
        refine lv_goto (tgt := 2) X.1.1 X.1.2.1 dX6_keepAct_31 (by decide) ?_
        exact ih (v1_1001 + (iI 1)) (upd mro_1001 (((iI 10) * mnx) + v1_1001).toNatClampNeg (mno v1_1001.toNatClampNeg)) H locs ls hP hD hS (lv_sub hl [1, 0] rfl) hE
  refine lp2 _ (fun v1_1001 mro_1001 H locs ls hP hD hS hl hE => ?_) FU (iI 0) mro _ _ ls hP hD hS (lv_sub hl [1, 0] rfl) hE
  refine lv_aload_n X.1.1 X.1.2.1 dX6_keepAct_34 rfl (lv_at hl 0 rfl) ?_
  refine lv_aload_n X.1.1 X.1.2.1 dX6_keepAct_35 rfl (lv_at hl 0 rfl) ?_
  refine gf6_120 X hK hP 0 rfl rfl dX6_keepAct_36 ?_
  refine lv_iconst (v := (iI 1)) X.1.1 X.1.2.1 dX6_keepAct_39 rfl ?_
  refine lv_iadd X.1.1 X.1.2.1 dX6_keepAct_40 ?_
  refine lv_bipush (v := (iI 14)) X.1.1 X.1.2.1 dX6_keepAct_41 (by decide) ?_
  refine r_irem X.1.1 X.1.2.1 dX6_keepAct_43 (by decide) ?_
  refine pf6_120 (ws2 := (wM cI cZ m0 m1 m2 m3 m4 m5 m6 m7 m8 m9 m10 m11 m12 m13 mwo mth mrn mrm mln mat mfa mac (rmI (mnx + (iI 1)) (iI 14)) mse msd mki mof mpu mno mrw mrt mtx mro_1001 mso msf msc mik mkt)) X hK hP hD hS 0 rfl (Nat.le_of_ble_eq_true rfl) rfl dX6_keepAct_44 (fun H locs hP hD hS => ?_)
  refine lv_aload_n X.1.1 X.1.2.1 dX6_keepAct_47 rfl (lv_at hl 0 rfl) ?_
  refine lv_aload_n X.1.1 X.1.2.1 dX6_keepAct_48 rfl (lv_at hl 0 rfl) ?_
  refine gf6_86 X hK hP 0 rfl rfl dX6_keepAct_49 ?_
  refine lv_bipush (v := (iI 14)) X.1.1 X.1.2.1 dX6_keepAct_52 (by decide) ?_
  refine lv_icmp_ge (tgt := 66) X.1.1 X.1.2.1 dX6_keepAct_54 (by decide) (fun c_54 => ?_) (fun c_54 => ?_)
  · have hE := ite_t hE c_54
    refine lv_bipush (v := (iI 14)) X.1.1 X.1.2.1 dX6_keepAct_66 (by decide) ?_
    refine pf6_86 (ws2 := (wM cI cZ m0 m1 m2 m3 m4 m5 m6 m7 m8 m9 m10 m11 m12 m13 mwo mth mrn mrm mln mat mfa (iI 14) (rmI (mnx + (iI 1)) (iI 14)) mse msd mki mof mpu mno mrw mrt mtx mro_1001 mso msf msc mik mkt)) X hK hP hD hS 0 rfl (Nat.le_of_ble_eq_true rfl) rfl dX6_keepAct_68 (fun H locs hP hD hS => ?_)
    cases hE
    exact retWV X hP hS dX6_keepAct_71
  · have hE := ite_f hE c_54
    refine lv_aload_n X.1.1 X.1.2.1 dX6_keepAct_57 rfl (lv_at hl 0 rfl) ?_
    refine gf6_86 X hK hP 0 rfl rfl dX6_keepAct_58 ?_
    refine lv_iconst (v := (iI 1)) X.1.1 X.1.2.1 dX6_keepAct_61 rfl ?_
    refine lv_iadd X.1.1 X.1.2.1 dX6_keepAct_62 ?_
    refine lv_goto (tgt := 68) X.1.1 X.1.2.1 dX6_keepAct_63 (by decide) ?_
    refine pf6_86 (ws2 := (wM cI cZ m0 m1 m2 m3 m4 m5 m6 m7 m8 m9 m10 m11 m12 m13 mwo mth mrn mrm mln mat mfa (mac + (iI 1)) (rmI (mnx + (iI 1)) (iI 14)) mse msd mki mof mpu mno mrw mrt mtx mro_1001 mso msf msc mik mkt)) X hK hP hD hS 0 rfl (Nat.le_of_ble_eq_true rfl) rfl dX6_keepAct_68 (fun H locs hP hD hS => ?_)
    cases hE
    exact retWV X hP hS dX6_keepAct_71
theorem o6_call : oV yX6_call RX6 cX6_call 2 (some .int) 1 := ⟨tw733, tw731, tw732, tw45, ⟨by decide +kernel, by decide +kernel⟩, by decide +kernel⟩
abbrev rm6_call : Room := { frames := 4, cells := 0, slots := 0, locals := 98 }
set_option maxHeartbeats 4000000 in
set_option maxRecDepth 100000 in
theorem c6_call {l : Launch} {G : va_G} {cI cZ : ClassId} {m0 m1 m2 m3 m4 m5 m6 m7 m8 m9 m10 m11 m12 m13 : Nat} {mwo : Int32} {mth : Int32} {mrn : Int32} {mrm : Int32} {mln : Int32} {mat : Int32} {mfa : Int32} {mac : Int32} {mnx : Int32} {mse : Int32} {msd : Int64} {mki : Nat → Int32} {mof : Nat → Int32} {mpu : Nat → Int32} {mno : Nat → Int32} {mrw : Nat → Int32} {mrt : Nat → Int32} {mtx : Nat → Int32} {mro : Nat → Int32} {mso : Nat → Int32} {msf : Nat → Int32} {msc : Nat → Int32} {mik : Nat → Int32} {mkt : Nat → Int32} {v1 : Int32} {sz : Nat} {u : Int32 × Int32 × Int32 × (Nat → Int32) × (Nat → Int32)} (hE : f6_call v1 mwo mth mac mnx mki mof mpu mno mro = some u) : Met l yX6_call (Cond.code yX6_call cX6_call 2 (some .int) :: TB) rm6_call (PcW G cI cZ (wM cI cZ m0 m1 m2 m3 m4 m5 m6 m7 m8 m9 m10 m11 m12 m13 mwo mth mrn mrm mln mat mfa mac mnx mse msd mki mof mpu mno mrw mrt mtx mro mso msf msc mik mkt) sz ([.ref m0, .int v1] : List Value)) (QW G (some (.int u.1)) (wM cI cZ m0 m1 m2 m3 m4 m5 m6 m7 m8 m9 m10 m11 m12 m13 mwo mth mrn mrm mln mat mfa u.2.1 u.2.2.1 mse msd mki mof mpu u.2.2.2.1 mrw mrt mtx u.2.2.2.2 mso msf msc mik mkt) (va_A (wM cI cZ m0 m1 m2 m3 m4 m5 m6 m7 m8 m9 m10 m11 m12 m13 mwo mth mrn mrm mln mat mfa mac mnx mse msd mki mof mpu mno mrw mrt mtx mro mso msf msc mik mkt) sz)) 0 0 (va_A (wM cI cZ m0 m1 m2 m3 m4 m5 m6 m7 m8 m9 m10 m11 m12 m13 mwo mth mrn mrm mln mat mfa mac mnx mse msd mki mof mpu mno mrw mrt mtx mro mso msf msc mik mkt) sz) := by
  refine metW (own := RX6) (by decide +kernel) rfl (Nat.le_of_ble_eq_true rfl) ?_
  intro p e s m below meth c ls A X hA hP hK hD hl
  have hS : va_S A s.heap s.heap [] := va_S.rf
  have hl : lv_has ls 2 [(0, .ref m0), (1, .int v1)] := hl
  unfold f6_call at hE
  refine lv_aload_n X.1.1 X.1.2.1 dX6_call_0 rfl (lv_at hl 0 rfl) ?_
  refine lv_iload_n X.1.1 X.1.2.1 dX6_call_1 rfl (lv_at hl 1 rfl) ?_
  obtain ⟨u1001, e_u1001, hE⟩ := bd_some hE
  refine callRV (wsC := (wM cI cZ m0 m1 m2 m3 m4 m5 m6 m7 m8 m9 m10 m11 m12 m13 mwo mth mrn mrm mln mat mfa mac mnx mse msd mki mof mpu mno mrw mrt mtx mro mso msf msc mik mkt)) (As := [.int v1]) (rest := []) (ci := 6) X (c6_isWord (l := l) e_u1001) o6_isWord tw690 ⟨rfl, rfl, Nat.le_of_ble_eq_true rfl, Nat.le_of_ble_eq_true rfl⟩ hP hK 0 rfl rfl rfl rfl hl rfl (by decide) ⟨Nat.le_refl _, Nat.le_refl _⟩ dX6_call_2 ?_
  refine lv_if_ne (tgt := 10) X.1.1 X.1.2.1 dX6_call_5 (by decide) (fun c_5 => ?_) (fun c_5 => ?_)
  · have hE := ite_f hE c_5
    refine lv_aload_n X.1.1 X.1.2.1 dX6_call_10 rfl (lv_at hl 0 rfl) ?_
    refine gf6_19 X hK hP 0 rfl rfl dX6_call_11 ?_
    refine lv_bipush (v := (iI 8)) X.1.1 X.1.2.1 dX6_call_14 (by decide) ?_
    refine va_iald X.1.1 X.1.2.1 hK hP 4 0 rfl rfl (vin (by decide)) dX6_call_16 ?_
    refine lv_iconst (v := (iI 1)) X.1.1 X.1.2.1 dX6_call_17 rfl ?_
    refine lv_icmp_ne (tgt := 24) X.1.1 X.1.2.1 dX6_call_18 (by decide) (fun c_18 => ?_) (fun c_18 => ?_)
    · have hE := ite_f hE c_18
      refine lv_aload_n X.1.1 X.1.2.1 dX6_call_24 rfl (lv_at hl 0 rfl) ?_
      obtain ⟨u1002, e_u1002, hE⟩ := bd_some hE
      refine callWF (ws := (wM cI cZ m0 m1 m2 m3 m4 m5 m6 m7 m8 m9 m10 m11 m12 m13 mwo mth mrn mrm mln mat mfa mac mnx mse msd mki mof mpu mno mrw mrt mtx mro mso msf msc mik mkt)) (ws' := (wM cI cZ m0 m1 m2 m3 m4 m5 m6 m7 m8 m9 m10 m11 m12 m13 mwo mth mrn mrm mln mat mfa u1002.1 u1002.2.1 mse msd mki mof mpu mno mrw mrt mtx u1002.2.2 mso msf msc mik mkt)) (As := []) (rest := []) (ov := none) (st1 := []) (ci := 6) X (c6_keepAct (l := l) e_u1002) o6_keepAct tw734 ⟨rfl, rfl, Nat.le_of_ble_eq_true rfl, Nat.le_of_ble_eq_true rfl⟩ hP hK hD hS hA (wM_fst.trans wM_fst.symm) 0 rfl rfl rfl rfl hl rfl (by decide) ⟨Nat.le_refl _, Nat.le_refl _⟩ rfl dX6_call_25 (fun H locs hP hD hS => ?_)
      refine lv_aload_n X.1.1 X.1.2.1 dX6_call_28 rfl (lv_at hl 0 rfl) ?_
      refine lv_iconst (v := (iI 0)) X.1.1 X.1.2.1 dX6_call_29 rfl ?_
      refine lv_iload_n X.1.1 X.1.2.1 dX6_call_30 rfl (lv_at hl 1 rfl) ?_
      obtain ⟨u1003, e_u1003, hE⟩ := bd_some hE
      refine callWF (ws := (wM cI cZ m0 m1 m2 m3 m4 m5 m6 m7 m8 m9 m10 m11 m12 m13 mwo mth mrn mrm mln mat mfa u1002.1 u1002.2.1 mse msd mki mof mpu mno mrw mrt mtx u1002.2.2 mso msf msc mik mkt)) (ws' := (wM cI cZ m0 m1 m2 m3 m4 m5 m6 m7 m8 m9 m10 m11 m12 m13 mwo mth mrn mrm mln mat mfa u1002.1 u1002.2.1 mse msd mki mof mpu u1003.2 mrw mrt mtx u1002.2.2 mso msf msc mik mkt)) (As := [.int (iI 0), .int v1]) (rest := []) (ov := (some (.int u1003.1))) (st1 := [.int u1003.1]) (ci := 6) X (c6_callOn (l := l) e_u1003) o6_callOn tw738 ⟨rfl, rfl, Nat.le_of_ble_eq_true rfl, Nat.le_of_ble_eq_true rfl⟩ hP hK hD hS hA (wM_fst.trans wM_fst.symm) 0 rfl rfl rfl rfl hl rfl (by decide) ⟨Nat.le_refl _, Nat.le_refl _⟩ rfl dX6_call_31 (fun H locs hP hD hS => ?_)
      refine lv_if_eq (tgt := 41) X.1.1 X.1.2.1 dX6_call_34 (by decide) (fun c_34 => ?_) (fun c_34 => ?_)
      · have hE := ite_t hE c_34
        refine lv_iconst (v := (iI 0)) X.1.1 X.1.2.1 dX6_call_41 rfl ?_
        cases hE
        exact retW X hP hS dX6_call_42
      · have hE := ite_f hE c_34
        refine lv_iconst (v := (iI 1)) X.1.1 X.1.2.1 dX6_call_37 rfl ?_
        refine lv_goto (tgt := 42) X.1.1 X.1.2.1 dX6_call_38 (by decide) ?_
        cases hE
        exact retW X hP hS dX6_call_42
    · have hE := ite_t hE c_18
      refine lv_bipush (v := (iI (-3))) X.1.1 X.1.2.1 dX6_call_21 (by decide) ?_
      cases hE
      exact retW X hP hS dX6_call_23
  · have hE := ite_t hE c_5
    refine lv_iconst (v := (iI (-1))) X.1.1 X.1.2.1 dX6_call_8 rfl ?_
    cases hE
    exact retW X hP hS dX6_call_9
theorem o6_pay : oV yX6_pay RX6 cX6_pay 1 (some .int) 0 := ⟨tw745, tw743, tw744, tw45, ⟨by decide +kernel, by decide +kernel⟩, by decide +kernel⟩
abbrev rm6_pay : Room := { frames := 1, cells := 0, slots := 0, locals := 23 }
set_option maxHeartbeats 4000000 in
set_option maxRecDepth 100000 in
theorem c6_pay {l : Launch} {G : va_G} {cI cZ : ClassId} {m0 m1 m2 m3 m4 m5 m6 m7 m8 m9 m10 m11 m12 m13 : Nat} {mwo : Int32} {mth : Int32} {mrn : Int32} {mrm : Int32} {mln : Int32} {mat : Int32} {mfa : Int32} {mac : Int32} {mnx : Int32} {mse : Int32} {msd : Int64} {mki : Nat → Int32} {mof : Nat → Int32} {mpu : Nat → Int32} {mno : Nat → Int32} {mrw : Nat → Int32} {mrt : Nat → Int32} {mtx : Nat → Int32} {mro : Nat → Int32} {mso : Nat → Int32} {msf : Nat → Int32} {msc : Nat → Int32} {mik : Nat → Int32} {mkt : Nat → Int32} {sz : Nat} {u : Int32 × Int32 × Int32 × (Nat → Int32) × (Nat → Int32)} (hE : f6_pay mac mnx mno mro = some u) : Met l yX6_pay (Cond.code yX6_pay cX6_pay 1 (some .int) :: TB) rm6_pay (PcW G cI cZ (wM cI cZ m0 m1 m2 m3 m4 m5 m6 m7 m8 m9 m10 m11 m12 m13 mwo mth mrn mrm mln mat mfa mac mnx mse msd mki mof mpu mno mrw mrt mtx mro mso msf msc mik mkt) sz ([.ref m0] : List Value)) (QW G (some (.int u.1)) (wM cI cZ m0 m1 m2 m3 m4 m5 m6 m7 m8 m9 m10 m11 m12 m13 mwo mth mrn mrm mln mat mfa u.2.1 u.2.2.1 mse msd mki mof mpu u.2.2.2.1 mrw mrt mtx u.2.2.2.2 mso msf msc mik mkt) (va_A (wM cI cZ m0 m1 m2 m3 m4 m5 m6 m7 m8 m9 m10 m11 m12 m13 mwo mth mrn mrm mln mat mfa mac mnx mse msd mki mof mpu mno mrw mrt mtx mro mso msf msc mik mkt) sz)) 0 0 (va_A (wM cI cZ m0 m1 m2 m3 m4 m5 m6 m7 m8 m9 m10 m11 m12 m13 mwo mth mrn mrm mln mat mfa mac mnx mse msd mki mof mpu mno mrw mrt mtx mro mso msf msc mik mkt) sz) := by
  refine metW (own := RX6) (by decide +kernel) rfl (Nat.le_of_ble_eq_true rfl) ?_
  intro p e s m below meth c ls A X hA hP hK hD hl
  have hS : va_S A s.heap s.heap [] := va_S.rf
  have hl : lv_has ls 1 [(0, .ref m0)] := hl
  unfold f6_pay at hE
  refine lv_aload_n X.1.1 X.1.2.1 dX6_pay_0 rfl (lv_at hl 0 rfl) ?_
  refine lv_iconst (v := (iI 0)) X.1.1 X.1.2.1 dX6_pay_1 rfl ?_
  obtain ⟨u1001, e_u1001, hE⟩ := bd_some hE
  refine callRV (wsC := (wM cI cZ m0 m1 m2 m3 m4 m5 m6 m7 m8 m9 m10 m11 m12 m13 mwo mth mrn mrm mln mat mfa mac mnx mse msd mki mof mpu mno mrw mrt mtx mro mso msf msc mik mkt)) (As := [.int (iI 0)]) (rest := []) (ci := 6) X (c6_canPay (l := l) e_u1001) o6_canPay tw746 ⟨rfl, rfl, Nat.le_of_ble_eq_true rfl, Nat.le_of_ble_eq_true rfl⟩ hP hK 0 rfl rfl rfl rfl hl rfl (by decide) ⟨Nat.le_refl _, Nat.le_refl _⟩ dX6_pay_2 ?_
  refine lv_if_ne (tgt := 11) X.1.1 X.1.2.1 dX6_pay_5 (by decide) (fun c_5 => ?_) (fun c_5 => ?_)
  · have hE := ite_f hE c_5
    refine lv_aload_n X.1.1 X.1.2.1 dX6_pay_11 rfl (lv_at hl 0 rfl) ?_
    obtain ⟨u1002, e_u1002, hE⟩ := bd_some hE
    refine callWF (ws := (wM cI cZ m0 m1 m2 m3 m4 m5 m6 m7 m8 m9 m10 m11 m12 m13 mwo mth mrn mrm mln mat mfa mac mnx mse msd mki mof mpu mno mrw mrt mtx mro mso msf msc mik mkt)) (ws' := (wM cI cZ m0 m1 m2 m3 m4 m5 m6 m7 m8 m9 m10 m11 m12 m13 mwo mth mrn mrm mln mat mfa u1002.1 u1002.2.1 mse msd mki mof mpu mno mrw mrt mtx u1002.2.2 mso msf msc mik mkt)) (As := []) (rest := []) (ov := none) (st1 := []) (ci := 6) X (c6_keepAct (l := l) e_u1002) o6_keepAct tw734 ⟨rfl, rfl, Nat.le_of_ble_eq_true rfl, Nat.le_of_ble_eq_true rfl⟩ hP hK hD hS hA (wM_fst.trans wM_fst.symm) 0 rfl rfl rfl rfl hl rfl (by decide) ⟨Nat.le_refl _, Nat.le_refl _⟩ rfl dX6_pay_12 (fun H locs hP hD hS => ?_)
    refine lv_aload_n X.1.1 X.1.2.1 dX6_pay_15 rfl (lv_at hl 0 rfl) ?_
    refine lv_iconst (v := (iI 0)) X.1.1 X.1.2.1 dX6_pay_16 rfl ?_
    obtain ⟨u1003, e_u1003, hE⟩ := bd_some hE
    refine callWF (ws := (wM cI cZ m0 m1 m2 m3 m4 m5 m6 m7 m8 m9 m10 m11 m12 m13 mwo mth mrn mrm mln mat mfa u1002.1 u1002.2.1 mse msd mki mof mpu mno mrw mrt mtx u1002.2.2 mso msf msc mik mkt)) (ws' := (wM cI cZ m0 m1 m2 m3 m4 m5 m6 m7 m8 m9 m10 m11 m12 m13 mwo mth mrn mrm mln mat mfa u1002.1 u1002.2.1 mse msd mki mof mpu u1003.2 mrw mrt mtx u1002.2.2 mso msf msc mik mkt)) (As := [.int (iI 0)]) (rest := []) (ov := (some (.int u1003.1))) (st1 := [.int u1003.1]) (ci := 6) X (c6_payOn (l := l) e_u1003) o6_payOn tw750 ⟨rfl, rfl, Nat.le_of_ble_eq_true rfl, Nat.le_of_ble_eq_true rfl⟩ hP hK hD hS hA (wM_fst.trans wM_fst.symm) 0 rfl rfl rfl rfl hl rfl (by decide) ⟨Nat.le_refl _, Nat.le_refl _⟩ rfl dX6_pay_17 (fun H locs hP hD hS => ?_)
    cases hE
    exact retW X hP hS dX6_pay_20
  · have hE := ite_t hE c_5
    refine lv_bipush (v := (iI (-3))) X.1.1 X.1.2.1 dX6_pay_8 (by decide) ?_
    cases hE
    exact retW X hP hS dX6_pay_10
theorem o6_run : oV yX6_run RX6 cX6_run 2 (some .int) 1 := ⟨tw757, tw755, tw756, tw45, ⟨by decide +kernel, by decide +kernel⟩, by decide +kernel⟩
abbrev rm6_run : Room := { frames := 1, cells := 0, slots := 0, locals := 25 }
set_option maxHeartbeats 4000000 in
set_option maxRecDepth 100000 in
theorem c6_run {l : Launch} {G : va_G} {cI cZ : ClassId} {m0 m1 m2 m3 m4 m5 m6 m7 m8 m9 m10 m11 m12 m13 : Nat} {mwo : Int32} {mth : Int32} {mrn : Int32} {mrm : Int32} {mln : Int32} {mat : Int32} {mfa : Int32} {mac : Int32} {mnx : Int32} {mse : Int32} {msd : Int64} {mki : Nat → Int32} {mof : Nat → Int32} {mpu : Nat → Int32} {mno : Nat → Int32} {mrw : Nat → Int32} {mrt : Nat → Int32} {mtx : Nat → Int32} {mro : Nat → Int32} {mso : Nat → Int32} {msf : Nat → Int32} {msc : Nat → Int32} {mik : Nat → Int32} {mkt : Nat → Int32} {v1 : Int32} {sz : Nat} {u : Int32 × Int32 × Int32 × (Nat → Int32) × (Nat → Int32)} (hE : f6_run v1 mac mnx mno mro = some u) : Met l yX6_run (Cond.code yX6_run cX6_run 2 (some .int) :: TB) rm6_run (PcW G cI cZ (wM cI cZ m0 m1 m2 m3 m4 m5 m6 m7 m8 m9 m10 m11 m12 m13 mwo mth mrn mrm mln mat mfa mac mnx mse msd mki mof mpu mno mrw mrt mtx mro mso msf msc mik mkt) sz ([.ref m0, .int v1] : List Value)) (QW G (some (.int u.1)) (wM cI cZ m0 m1 m2 m3 m4 m5 m6 m7 m8 m9 m10 m11 m12 m13 mwo mth mrn mrm mln mat mfa u.2.1 u.2.2.1 mse msd mki mof mpu u.2.2.2.1 mrw mrt mtx u.2.2.2.2 mso msf msc mik mkt) (va_A (wM cI cZ m0 m1 m2 m3 m4 m5 m6 m7 m8 m9 m10 m11 m12 m13 mwo mth mrn mrm mln mat mfa mac mnx mse msd mki mof mpu mno mrw mrt mtx mro mso msf msc mik mkt) sz)) 0 0 (va_A (wM cI cZ m0 m1 m2 m3 m4 m5 m6 m7 m8 m9 m10 m11 m12 m13 mwo mth mrn mrm mln mat mfa mac mnx mse msd mki mof mpu mno mrw mrt mtx mro mso msf msc mik mkt) sz) := by
  refine metW (own := RX6) (by decide +kernel) rfl (Nat.le_of_ble_eq_true rfl) ?_
  intro p e s m below meth c ls A X hA hP hK hD hl
  have hS : va_S A s.heap s.heap [] := va_S.rf
  have hl : lv_has ls 2 [(0, .ref m0), (1, .int v1)] := hl
  unfold f6_run at hE
  refine lv_iload_n X.1.1 X.1.2.1 dX6_run_0 rfl (lv_at hl 1 rfl) ?_
  refine lv_i2l (v := v1.toInt64) X.1.1 X.1.2.1 dX6_run_1 rfl ?_
  refine lv_lconst (v := (Int64.ofNat 1)) X.1.1 X.1.2.1 dX6_run_2 rfl ?_
  refine lv_ldc2 X.1.1 X.1.2.1 X.1.2.2.2.1 (X.1.2.2.2.2 _ tw729) dX6_run_3 ?_
  obtain ⟨u1001, e_u1001, hE⟩ := bd_some hE
  refine callRS (wsC := []) (As := [.long (v1.toInt64), .long (Int64.ofNat 1), .long (9 : Int64)]) (rest := []) (cI := cI) (cZ := cZ) X (c6_in (l := l) (G := G) (cI := cI) (cZ := cZ) e_u1001) o6_in tw663 ⟨rfl, rfl, Nat.le_of_ble_eq_true rfl, Nat.le_of_ble_eq_true rfl⟩ va_P_nil hK rfl hl rfl (by decide) ⟨Nat.le_refl _, Nat.le_refl _⟩ dX6_run_6 ?_
  refine lv_if_ne (tgt := 15) X.1.1 X.1.2.1 dX6_run_9 (by decide) (fun c_9 => ?_) (fun c_9 => ?_)
  · have hE := ite_f hE c_9
    refine lv_aload_n X.1.1 X.1.2.1 dX6_run_15 rfl (lv_at hl 0 rfl) ?_
    refine gf6_19 X hK hP 0 rfl rfl dX6_run_16 ?_
    refine lv_bipush (v := (iI 8)) X.1.1 X.1.2.1 dX6_run_19 (by decide) ?_
    refine va_iald X.1.1 X.1.2.1 hK hP 4 0 rfl rfl (vin (by decide)) dX6_run_21 ?_
    refine lv_iconst (v := (iI 1)) X.1.1 X.1.2.1 dX6_run_22 rfl ?_
    refine lv_icmp_ne (tgt := 29) X.1.1 X.1.2.1 dX6_run_23 (by decide) (fun c_23 => ?_) (fun c_23 => ?_)
    · have hE := ite_f hE c_23
      refine lv_aload_n X.1.1 X.1.2.1 dX6_run_29 rfl (lv_at hl 0 rfl) ?_
      obtain ⟨u1002, e_u1002, hE⟩ := bd_some hE
      refine callWF (ws := (wM cI cZ m0 m1 m2 m3 m4 m5 m6 m7 m8 m9 m10 m11 m12 m13 mwo mth mrn mrm mln mat mfa mac mnx mse msd mki mof mpu mno mrw mrt mtx mro mso msf msc mik mkt)) (ws' := (wM cI cZ m0 m1 m2 m3 m4 m5 m6 m7 m8 m9 m10 m11 m12 m13 mwo mth mrn mrm mln mat mfa u1002.1 u1002.2.1 mse msd mki mof mpu mno mrw mrt mtx u1002.2.2 mso msf msc mik mkt)) (As := []) (rest := []) (ov := none) (st1 := []) (ci := 6) X (c6_keepAct (l := l) e_u1002) o6_keepAct tw734 ⟨rfl, rfl, Nat.le_of_ble_eq_true rfl, Nat.le_of_ble_eq_true rfl⟩ hP hK hD hS hA (wM_fst.trans wM_fst.symm) 0 rfl rfl rfl rfl hl rfl (by decide) ⟨Nat.le_refl _, Nat.le_refl _⟩ rfl dX6_run_30 (fun H locs hP hD hS => ?_)
      refine lv_aload_n X.1.1 X.1.2.1 dX6_run_33 rfl (lv_at hl 0 rfl) ?_
      refine lv_iconst (v := (iI 0)) X.1.1 X.1.2.1 dX6_run_34 rfl ?_
      refine lv_iload_n X.1.1 X.1.2.1 dX6_run_35 rfl (lv_at hl 1 rfl) ?_
      obtain ⟨u1003, e_u1003, hE⟩ := bd_some hE
      refine callWF (ws := (wM cI cZ m0 m1 m2 m3 m4 m5 m6 m7 m8 m9 m10 m11 m12 m13 mwo mth mrn mrm mln mat mfa u1002.1 u1002.2.1 mse msd mki mof mpu mno mrw mrt mtx u1002.2.2 mso msf msc mik mkt)) (ws' := (wM cI cZ m0 m1 m2 m3 m4 m5 m6 m7 m8 m9 m10 m11 m12 m13 mwo mth mrn mrm mln mat mfa u1002.1 u1002.2.1 mse msd mki mof mpu u1003 mrw mrt mtx u1002.2.2 mso msf msc mik mkt)) (As := [.int (iI 0), .int v1]) (rest := []) (ov := none) (st1 := []) (ci := 6) X (c6_runOn (l := l) e_u1003) o6_runOn tw758 ⟨rfl, rfl, Nat.le_of_ble_eq_true rfl, Nat.le_of_ble_eq_true rfl⟩ hP hK hD hS hA (wM_fst.trans wM_fst.symm) 0 rfl rfl rfl rfl hl rfl (by decide) ⟨Nat.le_refl _, Nat.le_refl _⟩ rfl dX6_run_36 (fun H locs hP hD hS => ?_)
      refine lv_aload_n X.1.1 X.1.2.1 dX6_run_39 rfl (lv_at hl 0 rfl) ?_
      refine gf6_19 X hK hP 0 rfl rfl dX6_run_40 ?_
      refine lv_iconst (v := (iI 5)) X.1.1 X.1.2.1 dX6_run_43 rfl ?_
      refine va_iald X.1.1 X.1.2.1 hK hP 4 0 rfl rfl (vin (by decide)) dX6_run_44 ?_
      cases hE
      exact retW X hP hS dX6_run_45
    · have hE := ite_t hE c_23
      refine lv_bipush (v := (iI (-3))) X.1.1 X.1.2.1 dX6_run_26 (by decide) ?_
      cases hE
      exact retW X hP hS dX6_run_28
  · have hE := ite_t hE c_9
    refine lv_bipush (v := (iI (-2))) X.1.1 X.1.2.1 dX6_run_12 (by decide) ?_
    cases hE
    exact retW X hP hS dX6_run_14
theorem o6_lead : oV yX6_lead RX6 cX6_lead 1 (some .int) 0 := ⟨tw765, tw763, tw764, tw45, ⟨by decide +kernel, by decide +kernel⟩, by decide +kernel⟩
abbrev rm6_lead : Room := { frames := 1, cells := 0, slots := 0, locals := 24 }
set_option maxHeartbeats 4000000 in
set_option maxRecDepth 100000 in
theorem c6_lead {l : Launch} {G : va_G} {cI cZ : ClassId} {m0 m1 m2 m3 m4 m5 m6 m7 m8 m9 m10 m11 m12 m13 : Nat} {mwo : Int32} {mth : Int32} {mrn : Int32} {mrm : Int32} {mln : Int32} {mat : Int32} {mfa : Int32} {mac : Int32} {mnx : Int32} {mse : Int32} {msd : Int64} {mki : Nat → Int32} {mof : Nat → Int32} {mpu : Nat → Int32} {mno : Nat → Int32} {mrw : Nat → Int32} {mrt : Nat → Int32} {mtx : Nat → Int32} {mro : Nat → Int32} {mso : Nat → Int32} {msf : Nat → Int32} {msc : Nat → Int32} {mik : Nat → Int32} {mkt : Nat → Int32} {sz : Nat} {u : Int32 × Int32 × Int32 × (Nat → Int32) × (Nat → Int32)} (hE : f6_lead mac mnx mki mno mro = some u) : Met l yX6_lead (Cond.code yX6_lead cX6_lead 1 (some .int) :: TB) rm6_lead (PcW G cI cZ (wM cI cZ m0 m1 m2 m3 m4 m5 m6 m7 m8 m9 m10 m11 m12 m13 mwo mth mrn mrm mln mat mfa mac mnx mse msd mki mof mpu mno mrw mrt mtx mro mso msf msc mik mkt) sz ([.ref m0] : List Value)) (QW G (some (.int u.1)) (wM cI cZ m0 m1 m2 m3 m4 m5 m6 m7 m8 m9 m10 m11 m12 m13 mwo mth mrn mrm mln mat mfa u.2.1 u.2.2.1 mse msd mki mof mpu u.2.2.2.1 mrw mrt mtx u.2.2.2.2 mso msf msc mik mkt) (va_A (wM cI cZ m0 m1 m2 m3 m4 m5 m6 m7 m8 m9 m10 m11 m12 m13 mwo mth mrn mrm mln mat mfa mac mnx mse msd mki mof mpu mno mrw mrt mtx mro mso msf msc mik mkt) sz)) 0 0 (va_A (wM cI cZ m0 m1 m2 m3 m4 m5 m6 m7 m8 m9 m10 m11 m12 m13 mwo mth mrn mrm mln mat mfa mac mnx mse msd mki mof mpu mno mrw mrt mtx mro mso msf msc mik mkt) sz) := by
  refine metW (own := RX6) (by decide +kernel) rfl (Nat.le_of_ble_eq_true rfl) ?_
  intro p e s m below meth c ls A X hA hP hK hD hl
  have hS : va_S A s.heap s.heap [] := va_S.rf
  have hl : lv_has ls 1 [(0, .ref m0)] := hl
  unfold f6_lead at hE
  refine lv_aload_n X.1.1 X.1.2.1 dX6_lead_0 rfl (lv_at hl 0 rfl) ?_
  refine lv_iconst (v := (iI 0)) X.1.1 X.1.2.1 dX6_lead_1 rfl ?_
  obtain ⟨u1001, e_u1001, hE⟩ := bd_some hE
  refine callRV (wsC := (wM cI cZ m0 m1 m2 m3 m4 m5 m6 m7 m8 m9 m10 m11 m12 m13 mwo mth mrn mrm mln mat mfa mac mnx mse msd mki mof mpu mno mrw mrt mtx mro mso msf msc mik mkt)) (As := [.int (iI 0)]) (rest := []) (ci := 6) X (c6_canLead (l := l) e_u1001) o6_canLead tw766 ⟨rfl, rfl, Nat.le_of_ble_eq_true rfl, Nat.le_of_ble_eq_true rfl⟩ hP hK 0 rfl rfl rfl rfl hl rfl (by decide) ⟨Nat.le_refl _, Nat.le_refl _⟩ dX6_lead_2 ?_
  refine lv_if_ne (tgt := 11) X.1.1 X.1.2.1 dX6_lead_5 (by decide) (fun c_5 => ?_) (fun c_5 => ?_)
  · have hE := ite_f hE c_5
    refine lv_aload_n X.1.1 X.1.2.1 dX6_lead_11 rfl (lv_at hl 0 rfl) ?_
    obtain ⟨u1002, e_u1002, hE⟩ := bd_some hE
    refine callWF (ws := (wM cI cZ m0 m1 m2 m3 m4 m5 m6 m7 m8 m9 m10 m11 m12 m13 mwo mth mrn mrm mln mat mfa mac mnx mse msd mki mof mpu mno mrw mrt mtx mro mso msf msc mik mkt)) (ws' := (wM cI cZ m0 m1 m2 m3 m4 m5 m6 m7 m8 m9 m10 m11 m12 m13 mwo mth mrn mrm mln mat mfa u1002.1 u1002.2.1 mse msd mki mof mpu mno mrw mrt mtx u1002.2.2 mso msf msc mik mkt)) (As := []) (rest := []) (ov := none) (st1 := []) (ci := 6) X (c6_keepAct (l := l) e_u1002) o6_keepAct tw734 ⟨rfl, rfl, Nat.le_of_ble_eq_true rfl, Nat.le_of_ble_eq_true rfl⟩ hP hK hD hS hA (wM_fst.trans wM_fst.symm) 0 rfl rfl rfl rfl hl rfl (by decide) ⟨Nat.le_refl _, Nat.le_refl _⟩ rfl dX6_lead_12 (fun H locs hP hD hS => ?_)
    refine lv_aload_n X.1.1 X.1.2.1 dX6_lead_15 rfl (lv_at hl 0 rfl) ?_
    refine lv_iconst (v := (iI 0)) X.1.1 X.1.2.1 dX6_lead_16 rfl ?_
    obtain ⟨u1003, e_u1003, hE⟩ := bd_some hE
    refine callWF (ws := (wM cI cZ m0 m1 m2 m3 m4 m5 m6 m7 m8 m9 m10 m11 m12 m13 mwo mth mrn mrm mln mat mfa u1002.1 u1002.2.1 mse msd mki mof mpu mno mrw mrt mtx u1002.2.2 mso msf msc mik mkt)) (ws' := (wM cI cZ m0 m1 m2 m3 m4 m5 m6 m7 m8 m9 m10 m11 m12 m13 mwo mth mrn mrm mln mat mfa u1002.1 u1002.2.1 mse msd mki mof mpu u1003 mrw mrt mtx u1002.2.2 mso msf msc mik mkt)) (As := [.int (iI 0)]) (rest := []) (ov := none) (st1 := []) (ci := 6) X (c6_leadOn (l := l) e_u1003) o6_leadOn tw770 ⟨rfl, rfl, Nat.le_of_ble_eq_true rfl, Nat.le_of_ble_eq_true rfl⟩ hP hK hD hS hA (wM_fst.trans wM_fst.symm) 0 rfl rfl rfl rfl hl rfl (by decide) ⟨Nat.le_refl _, Nat.le_refl _⟩ rfl dX6_lead_17 (fun H locs hP hD hS => ?_)
    refine lv_aload_n X.1.1 X.1.2.1 dX6_lead_20 rfl (lv_at hl 0 rfl) ?_
    refine gf6_19 X hK hP 0 rfl rfl dX6_lead_21 ?_
    refine lv_bipush (v := (iI 8)) X.1.1 X.1.2.1 dX6_lead_24 (by decide) ?_
    refine va_iald X.1.1 X.1.2.1 hK hP 4 0 rfl rfl (vin (by decide)) dX6_lead_26 ?_
    cases hE
    exact retW X hP hS dX6_lead_27
  · have hE := ite_t hE c_5
    refine lv_bipush (v := (iI (-3))) X.1.1 X.1.2.1 dX6_lead_8 (by decide) ?_
    cases hE
    exact retW X hP hS dX6_lead_10
theorem o6_hunger : oV yX6_hunger RX6 cX6_hunger 1 (some .int) 0 := ⟨tw777, tw775, tw776, tw45, ⟨by decide +kernel, by decide +kernel⟩, by decide +kernel⟩
abbrev rm6_hunger : Room := { frames := 1, cells := 0, slots := 0, locals := 21 }
set_option maxHeartbeats 4000000 in
set_option maxRecDepth 100000 in
theorem c6_hunger {l : Launch} {G : va_G} {cI cZ : ClassId} {m0 m1 m2 m3 m4 m5 m6 m7 m8 m9 m10 m11 m12 m13 : Nat} {mwo : Int32} {mth : Int32} {mrn : Int32} {mrm : Int32} {mln : Int32} {mat : Int32} {mfa : Int32} {mac : Int32} {mnx : Int32} {mse : Int32} {msd : Int64} {mki : Nat → Int32} {mof : Nat → Int32} {mpu : Nat → Int32} {mno : Nat → Int32} {mrw : Nat → Int32} {mrt : Nat → Int32} {mtx : Nat → Int32} {mro : Nat → Int32} {mso : Nat → Int32} {msf : Nat → Int32} {msc : Nat → Int32} {mik : Nat → Int32} {mkt : Nat → Int32} {sz : Nat} {u : Int32 × Int32 × Int32 × (Nat → Int32) × (Nat → Int32)} (hE : f6_hunger mac mnx mno mro = some u) : Met l yX6_hunger (Cond.code yX6_hunger cX6_hunger 1 (some .int) :: TB) rm6_hunger (PcW G cI cZ (wM cI cZ m0 m1 m2 m3 m4 m5 m6 m7 m8 m9 m10 m11 m12 m13 mwo mth mrn mrm mln mat mfa mac mnx mse msd mki mof mpu mno mrw mrt mtx mro mso msf msc mik mkt) sz ([.ref m0] : List Value)) (QW G (some (.int u.1)) (wM cI cZ m0 m1 m2 m3 m4 m5 m6 m7 m8 m9 m10 m11 m12 m13 mwo mth mrn mrm mln mat mfa u.2.1 u.2.2.1 mse msd mki mof mpu u.2.2.2.1 mrw mrt mtx u.2.2.2.2 mso msf msc mik mkt) (va_A (wM cI cZ m0 m1 m2 m3 m4 m5 m6 m7 m8 m9 m10 m11 m12 m13 mwo mth mrn mrm mln mat mfa mac mnx mse msd mki mof mpu mno mrw mrt mtx mro mso msf msc mik mkt) sz)) 0 0 (va_A (wM cI cZ m0 m1 m2 m3 m4 m5 m6 m7 m8 m9 m10 m11 m12 m13 mwo mth mrn mrm mln mat mfa mac mnx mse msd mki mof mpu mno mrw mrt mtx mro mso msf msc mik mkt) sz) := by
  refine metW (own := RX6) (by decide +kernel) rfl (Nat.le_of_ble_eq_true rfl) ?_
  intro p e s m below meth c ls A X hA hP hK hD hl
  have hS : va_S A s.heap s.heap [] := va_S.rf
  have hl : lv_has ls 1 [(0, .ref m0)] := hl
  unfold f6_hunger at hE
  refine lv_aload_n X.1.1 X.1.2.1 dX6_hunger_0 rfl (lv_at hl 0 rfl) ?_
  obtain ⟨u1001, e_u1001, hE⟩ := bd_some hE
  refine callWF (ws := (wM cI cZ m0 m1 m2 m3 m4 m5 m6 m7 m8 m9 m10 m11 m12 m13 mwo mth mrn mrm mln mat mfa mac mnx mse msd mki mof mpu mno mrw mrt mtx mro mso msf msc mik mkt)) (ws' := (wM cI cZ m0 m1 m2 m3 m4 m5 m6 m7 m8 m9 m10 m11 m12 m13 mwo mth mrn mrm mln mat mfa u1001.1 u1001.2.1 mse msd mki mof mpu mno mrw mrt mtx u1001.2.2 mso msf msc mik mkt)) (As := []) (rest := []) (ov := none) (st1 := []) (ci := 6) X (c6_keepAct (l := l) e_u1001) o6_keepAct tw734 ⟨rfl, rfl, Nat.le_of_ble_eq_true rfl, Nat.le_of_ble_eq_true rfl⟩ hP hK hD hS hA (wM_fst.trans wM_fst.symm) 0 rfl rfl rfl rfl hl rfl (by decide) ⟨Nat.le_refl _, Nat.le_refl _⟩ rfl dX6_hunger_1 (fun H locs hP hD hS => ?_)
  refine lv_aload_n X.1.1 X.1.2.1 dX6_hunger_4 rfl (lv_at hl 0 rfl) ?_
  refine gf6_19 X hK hP 0 rfl rfl dX6_hunger_5 ?_
  refine lv_bipush (v := (iI 7)) X.1.1 X.1.2.1 dX6_hunger_8 (by decide) ?_
  refine lv_iconst (v := (iI 1)) X.1.1 X.1.2.1 dX6_hunger_10 rfl ?_
  refine lv_aload_n X.1.1 X.1.2.1 dX6_hunger_11 rfl (lv_at hl 0 rfl) ?_
  refine gf6_19 X hK hP 0 rfl rfl dX6_hunger_12 ?_
  refine lv_bipush (v := (iI 7)) X.1.1 X.1.2.1 dX6_hunger_15 (by decide) ?_
  refine va_iald X.1.1 X.1.2.1 hK hP 4 0 rfl rfl (vin (by decide)) dX6_hunger_17 ?_
  refine lv_isub X.1.1 X.1.2.1 dX6_hunger_18 ?_
  refine astI (t0 := 0) (ws' := (wM cI cZ m0 m1 m2 m3 m4 m5 m6 m7 m8 m9 m10 m11 m12 m13 mwo mth mrn mrm mln mat mfa u1001.1 u1001.2.1 mse msd mki mof mpu (upd mno (iI 7).toNatClampNeg ((iI 1) - (mno (iI 7).toNatClampNeg))) mrw mrt mtx u1001.2.2 mso msf msc mik mkt)) X hK hP hD hS 4 0 rfl rfl (vin (by decide)) rfl dX6_hunger_19 (fun H locs hP hD hS => ?_)
  refine lv_aload_n X.1.1 X.1.2.1 dX6_hunger_20 rfl (lv_at hl 0 rfl) ?_
  refine gf6_19 X hK hP 0 rfl rfl dX6_hunger_21 ?_
  refine lv_bipush (v := (iI 7)) X.1.1 X.1.2.1 dX6_hunger_24 (by decide) ?_
  refine va_iald X.1.1 X.1.2.1 hK hP 4 0 rfl rfl (vin (by decide)) dX6_hunger_26 ?_
  cases hE
  exact retW X hP hS dX6_hunger_27
theorem o6_undo : oV yX6_undo RX6 cX6_undo 2 (some .int) 0 := ⟨tw781, tw779, tw780, tw45, ⟨by decide +kernel, by decide +kernel⟩, by decide +kernel⟩
abbrev rm6_undo : Room := { frames := 0, cells := 0, slots := 0, locals := 0 }
set_option maxHeartbeats 4000000 in
set_option maxRecDepth 100000 in
theorem c6_undo {l : Launch} {G : va_G} {cI cZ : ClassId} {m0 m1 m2 m3 m4 m5 m6 m7 m8 m9 m10 m11 m12 m13 : Nat} {mwo : Int32} {mth : Int32} {mrn : Int32} {mrm : Int32} {mln : Int32} {mat : Int32} {mfa : Int32} {mac : Int32} {mnx : Int32} {mse : Int32} {msd : Int64} {mki : Nat → Int32} {mof : Nat → Int32} {mpu : Nat → Int32} {mno : Nat → Int32} {mrw : Nat → Int32} {mrt : Nat → Int32} {mtx : Nat → Int32} {mro : Nat → Int32} {mso : Nat → Int32} {msf : Nat → Int32} {msc : Nat → Int32} {mik : Nat → Int32} {mkt : Nat → Int32} {sz : Nat} {u : Int32 × Int32 × Int32 × (Nat → Int32)} (hE : f6_undo mac mnx mno mro = some u) : Met l yX6_undo (Cond.code yX6_undo cX6_undo 2 (some .int) :: TB) rm6_undo (PcW G cI cZ (wM cI cZ m0 m1 m2 m3 m4 m5 m6 m7 m8 m9 m10 m11 m12 m13 mwo mth mrn mrm mln mat mfa mac mnx mse msd mki mof mpu mno mrw mrt mtx mro mso msf msc mik mkt) sz ([.ref m0] : List Value)) (QW G (some (.int u.1)) (wM cI cZ m0 m1 m2 m3 m4 m5 m6 m7 m8 m9 m10 m11 m12 m13 mwo mth mrn mrm mln mat mfa u.2.1 u.2.2.1 mse msd mki mof mpu u.2.2.2 mrw mrt mtx mro mso msf msc mik mkt) (va_A (wM cI cZ m0 m1 m2 m3 m4 m5 m6 m7 m8 m9 m10 m11 m12 m13 mwo mth mrn mrm mln mat mfa mac mnx mse msd mki mof mpu mno mrw mrt mtx mro mso msf msc mik mkt) sz)) 0 0 (va_A (wM cI cZ m0 m1 m2 m3 m4 m5 m6 m7 m8 m9 m10 m11 m12 m13 mwo mth mrn mrm mln mat mfa mac mnx mse msd mki mof mpu mno mrw mrt mtx mro mso msf msc mik mkt) sz) := by
  refine metW (own := RX6) (by decide +kernel) rfl (Nat.le_of_ble_eq_true rfl) ?_
  intro p e s m below meth c ls A X hA hP hK hD hl
  have hS : va_S A s.heap s.heap [] := va_S.rf
  have hl : lv_has ls 2 [(0, .ref m0)] := hl
  unfold f6_undo at hE
  refine lv_aload_n X.1.1 X.1.2.1 dX6_undo_0 rfl (lv_at hl 0 rfl) ?_
  refine gf6_86 X hK hP 0 rfl rfl dX6_undo_1 ?_
  refine lv_if_ne (tgt := 10) X.1.1 X.1.2.1 dX6_undo_4 (by decide) (fun c_4 => ?_) (fun c_4 => ?_)
  · have hE := ite_f hE c_4
    refine lv_aload_n X.1.1 X.1.2.1 dX6_undo_10 rfl (lv_at hl 0 rfl) ?_
    refine lv_dup X.1.1 X.1.2.1 dX6_undo_11 rfl ?_
    refine gf6_86 X hK hP 0 rfl rfl dX6_undo_12 ?_
    refine lv_iconst (v := (iI 1)) X.1.1 X.1.2.1 dX6_undo_15 rfl ?_
    refine lv_isub X.1.1 X.1.2.1 dX6_undo_16 ?_
    refine pf6_86 (ws2 := (wM cI cZ m0 m1 m2 m3 m4 m5 m6 m7 m8 m9 m10 m11 m12 m13 mwo mth mrn mrm mln mat mfa (mac - (iI 1)) mnx mse msd mki mof mpu mno mrw mrt mtx mro mso msf msc mik mkt)) X hK hP hD hS 0 rfl (Nat.le_of_ble_eq_true rfl) rfl dX6_undo_17 (fun H locs hP hD hS => ?_)
    refine lv_aload_n X.1.1 X.1.2.1 dX6_undo_20 rfl (lv_at hl 0 rfl) ?_
    refine lv_aload_n X.1.1 X.1.2.1 dX6_undo_21 rfl (lv_at hl 0 rfl) ?_
    refine gf6_120 X hK hP 0 rfl rfl dX6_undo_22 ?_
    refine lv_bipush (v := (iI 13)) X.1.1 X.1.2.1 dX6_undo_25 (by decide) ?_
    refine lv_iadd X.1.1 X.1.2.1 dX6_undo_27 ?_
    refine lv_bipush (v := (iI 14)) X.1.1 X.1.2.1 dX6_undo_28 (by decide) ?_
    refine r_irem X.1.1 X.1.2.1 dX6_undo_30 (by decide) ?_
    refine pf6_120 (ws2 := (wM cI cZ m0 m1 m2 m3 m4 m5 m6 m7 m8 m9 m10 m11 m12 m13 mwo mth mrn mrm mln mat mfa (mac - (iI 1)) (rmI (mnx + (iI 13)) (iI 14)) mse msd mki mof mpu mno mrw mrt mtx mro mso msf msc mik mkt)) X hK hP hD hS 0 rfl (Nat.le_of_ble_eq_true rfl) rfl dX6_undo_31 (fun H locs hP hD hS => ?_)
    refine lv_iconst (v := (iI 0)) X.1.1 X.1.2.1 dX6_undo_34 rfl ?_
    refine lv_istore_n (lv' := [(1, .int (iI 0)), (0, .ref m0)]) X.1.1 X.1.2.1 dX6_undo_35 rfl hl (by decide) rfl (fun ls hl => ?_)
    have lp36 : ∀ (k : Int32 → (Nat → Int32) → Option (Int32 × Int32 × Int32 × (Nat → Int32))), (∀ (v1_1001 : Int32) (mno_1001 : Nat → Int32) (H : Heap) (locs : List Loc) (ls : Array Slot), va_P G vwCl (wM cI cZ m0 m1 m2 m3 m4 m5 m6 m7 m8 m9 m10 m11 m12 m13 mwo mth mrn mrm mln mat mfa (mac - (iI 1)) (rmI (mnx + (iI 13)) (iI 14)) mse msd mki mof mpu mno_1001 mrw mrt mtx mro mso msf msc mik mkt) H → va_D A (wM cI cZ m0 m1 m2 m3 m4 m5 m6 m7 m8 m9 m10 m11 m12 m13 mwo mth mrn mrm mln mat mfa (mac - (iI 1)) (rmI (mnx + (iI 13)) (iI 14)) mse msd mki mof mpu mno_1001 mrw mrt mtx mro mso msf msc mik mkt) → va_S A s.heap H locs → lv_has ls 2 [(0, .ref m0), (1, .int v1_1001)] → k v1_1001 mno_1001 = some u → W p l e rm6_undo s m ([.ref m0] : List Value).toArray below meth c H locs 0 0 (MQ below (QW G (some (.int u.1)) (wM cI cZ m0 m1 m2 m3 m4 m5 m6 m7 m8 m9 m10 m11 m12 m13 mwo mth mrn mrm mln mat mfa u.2.1 u.2.2.1 mse msd mki mof mpu u.2.2.2 mrw mrt mtx mro mso msf msc mik mkt) A) ([.ref m0] : List Value).toArray s 0 0 A) (F0 m 68 ls [])) → ∀ (n : Nat) (v1_1001 : Int32) (mno_1001 : Nat → Int32) (H : Heap) (locs : List Loc) (ls : Array Slot), va_P G vwCl (wM cI cZ m0 m1 m2 m3 m4 m5 m6 m7 m8 m9 m10 m11 m12 m13 mwo mth mrn mrm mln mat mfa (mac - (iI 1)) (rmI (mnx + (iI 13)) (iI 14)) mse msd mki mof mpu mno_1001 mrw mrt mtx mro mso msf msc mik mkt) H → va_D A (wM cI cZ m0 m1 m2 m3 m4 m5 m6 m7 m8 m9 m10 m11 m12 m13 mwo mth mrn mrm mln mat mfa (mac - (iI 1)) (rmI (mnx + (iI 13)) (iI 14)) mse msd mki mof mpu mno_1001 mrw mrt mtx mro mso msf msc mik mkt) → va_S A s.heap H locs → lv_has ls 2 [(0, .ref m0), (1, .int v1_1001)] → l6_undo_36 k (rmI (mnx + (iI 13)) (iI 14)) mro n v1_1001 mno_1001 = some u → W p l e rm6_undo s m ([.ref m0] : List Value).toArray below meth c H locs 0 0 (MQ below (QW G (some (.int u.1)) (wM cI cZ m0 m1 m2 m3 m4 m5 m6 m7 m8 m9 m10 m11 m12 m13 mwo mth mrn mrm mln mat mfa u.2.1 u.2.2.1 mse msd mki mof mpu u.2.2.2 mrw mrt mtx mro mso msf msc mik mkt) A) ([.ref m0] : List Value).toArray s 0 0 A) (F0 m 36 ls []) := by
      intro k hex n
      induction n with
      | zero =>
        intro v1_1001 mno_1001 H locs ls hP hD hS hl hE
        exact absurd (show (none : Option (Int32 × Int32 × Int32 × (Nat → Int32))) = some u from hE) (fun h => by cases h)
      | succ n ih =>
        intro v1_1001 mno_1001 H locs ls hP hD hS hl hE
        rw [l6_undo_36] at hE
        refine lv_iload_n X.1.1 X.1.2.1 dX6_undo_36 rfl (lv_at hl 1 rfl) ?_
        refine lv_bipush (v := (iI 10)) X.1.1 X.1.2.1 dX6_undo_37 (by decide) ?_
        refine lv_icmp_ge (tgt := 68) X.1.1 X.1.2.1 dX6_undo_39 (by decide) (fun c_39 => ?_) (fun c_39 => ?_)
        · have hE := ite_t hE c_39
          exact hex v1_1001 mno_1001 H locs ls hP hD hS (lv_sub hl [0, 1] rfl) hE
        · have hE := ite_f hE c_39
          refine lv_aload_n X.1.1 X.1.2.1 dX6_undo_42 rfl (lv_at hl 0 rfl) ?_
          refine gf6_19 X hK hP 0 rfl rfl dX6_undo_43 ?_
          refine lv_iload_n X.1.1 X.1.2.1 dX6_undo_46 rfl (lv_at hl 1 rfl) ?_
          refine lv_aload_n X.1.1 X.1.2.1 dX6_undo_47 rfl (lv_at hl 0 rfl) ?_
          refine gf6_31 X hK hP 0 rfl rfl dX6_undo_48 ?_
          refine lv_bipush (v := (iI 10)) X.1.1 X.1.2.1 dX6_undo_51 (by decide) ?_
          refine lv_aload_n X.1.1 X.1.2.1 dX6_undo_53 rfl (lv_at hl 0 rfl) ?_
          refine gf6_120 X hK hP 0 rfl rfl dX6_undo_54 ?_
          refine lv_imul X.1.1 X.1.2.1 dX6_undo_57 ?_
          refine lv_iload_n X.1.1 X.1.2.1 dX6_undo_58 rfl (lv_at hl 1 rfl) ?_
          refine lv_iadd X.1.1 X.1.2.1 dX6_undo_59 ?_
          obtain ⟨i_60, hE⟩ := ib_some hE
          refine va_iald X.1.1 X.1.2.1 hK hP 8 0 rfl rfl i_60 dX6_undo_60 ?_
          obtain ⟨i_61, hE⟩ := ib_some hE
          refine astI (t0 := 0) (ws' := (wM cI cZ m0 m1 m2 m3 m4 m5 m6 m7 m8 m9 m10 m11 m12 m13 mwo mth mrn mrm mln mat mfa (mac - (iI 1)) (rmI (mnx + (iI 13)) (iI 14)) mse msd mki mof mpu (upd mno_1001 v1_1001.toNatClampNeg (mro (((iI 10) * (rmI (mnx + (iI 13)) (iI 14))) + v1_1001).toNatClampNeg)) mrw mrt mtx mro mso msf msc mik mkt)) X hK hP hD hS 4 0 rfl rfl i_61 rfl dX6_undo_61 (fun H locs hP hD hS => ?_)
          refine lv_iinc (v := (v1_1001 + (iI 1))) (lv' := [(1, .int (v1_1001 + (iI 1))), (0, .ref m0)]) X.1.1 X.1.2.1 dX6_undo_62 hl (k := 1) rfl rfl (by decide) rfl (fun ls hl => ?_)
          refine lv_goto (tgt := 36) X.1.1 X.1.2.1 dX6_undo_65 (by decide) ?_
          exact ih (v1_1001 + (iI 1)) (upd mno_1001 v1_1001.toNatClampNeg (mro (((iI 10) * (rmI (mnx + (iI 13)) (iI 14))) + v1_1001).toNatClampNeg)) H locs ls hP hD hS (lv_sub hl [1, 0] rfl) hE
    refine lp36 _ (fun v1_1001 mno_1001 H locs ls hP hD hS hl hE => ?_) FU (iI 0) mno _ _ ls hP hD hS (lv_sub hl [1, 0] rfl) hE
    refine lv_aload_n X.1.1 X.1.2.1 dX6_undo_68 rfl (lv_at hl 0 rfl) ?_
    refine gf6_86 X hK hP 0 rfl rfl dX6_undo_69 ?_
    cases hE
    exact retW X hP hS dX6_undo_72
  · have hE := ite_t hE c_4
    refine lv_bipush (v := (iI (-3))) X.1.1 X.1.2.1 dX6_undo_7 (by decide) ?_
    cases hE
    exact retW X hP hS dX6_undo_9
theorem o6_comes : oV yX6_comes RX6 cX6_comes 3 (some .int) 2 := ⟨tw785, tw783, tw784, tw45, ⟨by decide +kernel, by decide +kernel⟩, by decide +kernel⟩
abbrev rm6_comes : Room := { frames := 4, cells := 0, slots := 0, locals := 93 }
set_option maxHeartbeats 4000000 in
set_option maxRecDepth 100000 in
theorem c6_comes {l : Launch} {G : va_G} {cI cZ : ClassId} {m0 m1 m2 m3 m4 m5 m6 m7 m8 m9 m10 m11 m12 m13 : Nat} {mwo : Int32} {mth : Int32} {mrn : Int32} {mrm : Int32} {mln : Int32} {mat : Int32} {mfa : Int32} {mac : Int32} {mnx : Int32} {mse : Int32} {msd : Int64} {mki : Nat → Int32} {mof : Nat → Int32} {mpu : Nat → Int32} {mno : Nat → Int32} {mrw : Nat → Int32} {mrt : Nat → Int32} {mtx : Nat → Int32} {mro : Nat → Int32} {mso : Nat → Int32} {msf : Nat → Int32} {msc : Nat → Int32} {mik : Nat → Int32} {mkt : Nat → Int32} {v1 : Int32} {v2 : Int32} {u : Int32} (hE : f6_comes v1 v2 mwo mth mki mof mpu mno = some u) : Met l yX6_comes (Cond.code yX6_comes cX6_comes 3 (some .int) :: TB) rm6_comes (PcR G cI cZ (wM cI cZ m0 m1 m2 m3 m4 m5 m6 m7 m8 m9 m10 m11 m12 m13 mwo mth mrn mrm mln mat mfa mac mnx mse msd mki mof mpu mno mrw mrt mtx mro mso msf msc mik mkt) ([.ref m0, .int v1, .int v2] : List Value)) (QcRead u) 0 0 (fun _ => False) := by
  refine metR (own := RX6) (by decide +kernel) rfl (Nat.le_of_ble_eq_true rfl) ?_
  intro p e s m below meth c ls X hP hK hl
  have hl : lv_has ls 3 [(0, .ref m0), (1, .int v1), (2, .int v2)] := hl
  unfold f6_comes at hE
  refine lv_aload_n X.1.1 X.1.2.1 dX6_comes_0 rfl (lv_at hl 0 rfl) ?_
  refine lv_iload_n X.1.1 X.1.2.1 dX6_comes_1 rfl (lv_at hl 1 rfl) ?_
  obtain ⟨u1001, e_u1001, hE⟩ := bd_some hE
  refine callRV (wsC := (wM cI cZ m0 m1 m2 m3 m4 m5 m6 m7 m8 m9 m10 m11 m12 m13 mwo mth mrn mrm mln mat mfa mac mnx mse msd mki mof mpu mno mrw mrt mtx mro mso msf msc mik mkt)) (As := [.int v1]) (rest := []) (ci := 6) X (c6_isWord (l := l) e_u1001) o6_isWord tw690 ⟨rfl, rfl, Nat.le_of_ble_eq_true rfl, Nat.le_of_ble_eq_true rfl⟩ hP hK 0 rfl rfl rfl rfl hl rfl (by decide) ⟨Nat.le_refl _, Nat.le_refl _⟩ dX6_comes_2 ?_
  refine lv_if_ne (tgt := 10) X.1.1 X.1.2.1 dX6_comes_5 (by decide) (fun c_5 => ?_) (fun c_5 => ?_)
  · have hE := ite_f hE c_5
    refine lv_iload_n X.1.1 X.1.2.1 dX6_comes_10 rfl (lv_at hl 2 rfl) ?_
    refine lv_i2l (v := v2.toInt64) X.1.1 X.1.2.1 dX6_comes_11 rfl ?_
    refine lv_lconst (v := (Int64.ofNat 0)) X.1.1 X.1.2.1 dX6_comes_12 rfl ?_
    refine lv_ldc2 X.1.1 X.1.2.1 X.1.2.2.2.1 (X.1.2.2.2.2 _ tw729) dX6_comes_13 ?_
    obtain ⟨u1002, e_u1002, hE⟩ := bd_some hE
    refine callRS (wsC := []) (As := [.long (v2.toInt64), .long (Int64.ofNat 0), .long (9 : Int64)]) (rest := []) (cI := cI) (cZ := cZ) X (c6_in (l := l) (G := G) (cI := cI) (cZ := cZ) e_u1002) o6_in tw663 ⟨rfl, rfl, Nat.le_of_ble_eq_true rfl, Nat.le_of_ble_eq_true rfl⟩ va_P_nil hK rfl hl rfl (by decide) ⟨Nat.le_refl _, Nat.le_refl _⟩ dX6_comes_16 ?_
    refine lv_if_ne (tgt := 27) X.1.1 X.1.2.1 dX6_comes_19 (by decide) (fun c_19 => ?_) (fun c_19 => ?_)
    · have hE := ite_f hE c_19
      refine lv_aload_n X.1.1 X.1.2.1 dX6_comes_27 rfl (lv_at hl 0 rfl) ?_
      refine lv_iload_n X.1.1 X.1.2.1 dX6_comes_28 rfl (lv_at hl 1 rfl) ?_
      refine lv_iload_n X.1.1 X.1.2.1 dX6_comes_29 rfl (lv_at hl 2 rfl) ?_
      obtain ⟨u1003, e_u1003, hE⟩ := bd_some hE
      refine callRV (wsC := (wM cI cZ m0 m1 m2 m3 m4 m5 m6 m7 m8 m9 m10 m11 m12 m13 mwo mth mrn mrm mln mat mfa mac mnx mse msd mki mof mpu mno mrw mrt mtx mro mso msf msc mik mkt)) (As := [.int v1, .int v2]) (rest := []) (ci := 6) X (c6_comesNow (l := l) e_u1003) o6_comesNow tw698 ⟨rfl, rfl, Nat.le_of_ble_eq_true rfl, Nat.le_of_ble_eq_true rfl⟩ hP hK 0 rfl rfl rfl rfl hl rfl (by decide) ⟨Nat.le_refl _, Nat.le_refl _⟩ dX6_comes_30 ?_
      refine lv_if_eq (tgt := 40) X.1.1 X.1.2.1 dX6_comes_33 (by decide) (fun c_33 => ?_) (fun c_33 => ?_)
      · have hE := ite_t hE c_33
        refine lv_iconst (v := (iI 0)) X.1.1 X.1.2.1 dX6_comes_40 rfl ?_
        cases hE
        exact retR X dX6_comes_41
      · have hE := ite_f hE c_33
        refine lv_iconst (v := (iI 1)) X.1.1 X.1.2.1 dX6_comes_36 rfl ?_
        refine lv_goto (tgt := 41) X.1.1 X.1.2.1 dX6_comes_37 (by decide) ?_
        cases hE
        exact retR X dX6_comes_41
    · have hE := ite_t hE c_19
      refine lv_bipush (v := (iI (-2))) X.1.1 X.1.2.1 dX6_comes_22 (by decide) ?_
      refine lv_goto (tgt := 41) X.1.1 X.1.2.1 dX6_comes_24 (by decide) ?_
      cases hE
      exact retR X dX6_comes_41
  · have hE := ite_t hE c_5
    refine lv_iconst (v := (iI (-1))) X.1.1 X.1.2.1 dX6_comes_8 rfl ?_
    cases hE
    exact retR X dX6_comes_9
theorem o6_best : oV yX6_best RX6 cX6_best 5 (some .int) 1 := ⟨tw789, tw787, tw788, tw45, ⟨by decide +kernel, by decide +kernel⟩, by decide +kernel⟩
abbrev rm6_best : Room := { frames := 4, cells := 0, slots := 0, locals := 93 }
set_option maxHeartbeats 4000000 in
set_option maxRecDepth 100000 in
theorem c6_best {l : Launch} {G : va_G} {cI cZ : ClassId} {m0 m1 m2 m3 m4 m5 m6 m7 m8 m9 m10 m11 m12 m13 : Nat} {mwo : Int32} {mth : Int32} {mrn : Int32} {mrm : Int32} {mln : Int32} {mat : Int32} {mfa : Int32} {mac : Int32} {mnx : Int32} {mse : Int32} {msd : Int64} {mki : Nat → Int32} {mof : Nat → Int32} {mpu : Nat → Int32} {mno : Nat → Int32} {mrw : Nat → Int32} {mrt : Nat → Int32} {mtx : Nat → Int32} {mro : Nat → Int32} {mso : Nat → Int32} {msf : Nat → Int32} {msc : Nat → Int32} {mik : Nat → Int32} {mkt : Nat → Int32} {v1 : Int32} {u : Int32} (hE : f6_best v1 mwo mth mki mof mpu mno = some u) : Met l yX6_best (Cond.code yX6_best cX6_best 5 (some .int) :: TB) rm6_best (PcR G cI cZ (wM cI cZ m0 m1 m2 m3 m4 m5 m6 m7 m8 m9 m10 m11 m12 m13 mwo mth mrn mrm mln mat mfa mac mnx mse msd mki mof mpu mno mrw mrt mtx mro mso msf msc mik mkt) ([.ref m0, .int v1] : List Value)) (QcRead u) 0 0 (fun _ => False) := by
  refine metR (own := RX6) (by decide +kernel) rfl (Nat.le_of_ble_eq_true rfl) ?_
  intro p e s m below meth c ls X hP hK hl
  have hl : lv_has ls 5 [(0, .ref m0), (1, .int v1)] := hl
  unfold f6_best at hE
  refine lv_iload_n X.1.1 X.1.2.1 dX6_best_0 rfl (lv_at hl 1 rfl) ?_
  refine lv_i2l (v := v1.toInt64) X.1.1 X.1.2.1 dX6_best_1 rfl ?_
  refine lv_lconst (v := (Int64.ofNat 0)) X.1.1 X.1.2.1 dX6_best_2 rfl ?_
  refine lv_ldc2 X.1.1 X.1.2.1 X.1.2.2.2.1 (X.1.2.2.2.2 _ tw729) dX6_best_3 ?_
  obtain ⟨u1001, e_u1001, hE⟩ := bd_some hE
  refine callRS (wsC := []) (As := [.long (v1.toInt64), .long (Int64.ofNat 0), .long (9 : Int64)]) (rest := []) (cI := cI) (cZ := cZ) X (c6_in (l := l) (G := G) (cI := cI) (cZ := cZ) e_u1001) o6_in tw663 ⟨rfl, rfl, Nat.le_of_ble_eq_true rfl, Nat.le_of_ble_eq_true rfl⟩ va_P_nil hK rfl hl rfl (by decide) ⟨Nat.le_refl _, Nat.le_refl _⟩ dX6_best_6 ?_
  refine lv_if_ne (tgt := 15) X.1.1 X.1.2.1 dX6_best_9 (by decide) (fun c_9 => ?_) (fun c_9 => ?_)
  · have hE := ite_f hE c_9
    refine lv_bipush (v := (iI (-9))) X.1.1 X.1.2.1 dX6_best_15 (by decide) ?_
    refine lv_istore_n (lv' := [(2, .int (iI (-9))), (0, .ref m0), (1, .int v1)]) X.1.1 X.1.2.1 dX6_best_17 rfl hl (by decide) rfl (fun ls hl => ?_)
    refine lv_iconst (v := (iI 0)) X.1.1 X.1.2.1 dX6_best_18 rfl ?_
    refine lv_istore_n (lv' := [(3, .int (iI 0)), (2, .int (iI (-9))), (0, .ref m0), (1, .int v1)]) X.1.1 X.1.2.1 dX6_best_19 rfl hl (by decide) rfl (fun ls hl => ?_)
    have lp20 : ∀ (k : Int32 → Int32 → Option Int32), (∀ (v2_1002 : Int32) (v3_1002 : Int32) (ls : Array Slot), lv_has ls 5 [(0, .ref m0), (1, .int v1), (2, .int v2_1002), (3, .int v3_1002)] → k v2_1002 v3_1002 = some u → W p l e rm6_best s m ([.ref m0, .int v1] : List Value).toArray below meth c s.heap [] 0 0 (MQ below (QcRead u) ([.ref m0, .int v1] : List Value).toArray s 0 0 (fun _ => False)) (F0 m 94 ls [])) → ∀ (n : Nat) (v2_1002 : Int32) (v3_1002 : Int32) (ls : Array Slot), lv_has ls 5 [(0, .ref m0), (1, .int v1), (2, .int v2_1002), (3, .int v3_1002)] → l6_best_20 k v1 mwo mth mki mof mpu mno n v2_1002 v3_1002 = some u → W p l e rm6_best s m ([.ref m0, .int v1] : List Value).toArray below meth c s.heap [] 0 0 (MQ below (QcRead u) ([.ref m0, .int v1] : List Value).toArray s 0 0 (fun _ => False)) (F0 m 20 ls []) := by
      intro k hex n
      induction n with
      | zero =>
        intro v2_1002 v3_1002 ls hl hE
        exact absurd (show (none : Option Int32) = some u from hE) (fun h => by cases h)
      | succ n ih =>
        intro v2_1002 v3_1002 ls hl hE
        rw [l6_best_20] at hE
        refine lv_iload_n X.1.1 X.1.2.1 dX6_best_20 rfl (lv_at hl 3 rfl) ?_
        refine lv_aload_n X.1.1 X.1.2.1 dX6_best_21 rfl (lv_at hl 0 rfl) ?_
        refine gf6_80 X hK hP 0 rfl rfl dX6_best_22 ?_
        refine lv_icmp_ge (tgt := 94) X.1.1 X.1.2.1 dX6_best_25 (by decide) (fun c_25 => ?_) (fun c_25 => ?_)
        · have hE := ite_t hE c_25
          exact hex v2_1002 v3_1002 ls (lv_sub hl [0, 1, 2, 3] rfl) hE
        · have hE := ite_f hE c_25
          refine lv_iload_n X.1.1 X.1.2.1 dX6_best_28 rfl (lv_at hl 2 rfl) ?_
          refine lv_bipush (v := (iI (-9))) X.1.1 X.1.2.1 dX6_best_29 (by decide) ?_
          refine lv_icmp_eq (tgt := 61) X.1.1 X.1.2.1 dX6_best_31 (by decide) (fun c_31 => ?_) (fun c_31 => ?_)
          · have hE := ite_t hE c_31
            refine lv_iconst (v := (iI 1)) X.1.1 X.1.2.1 dX6_best_61 rfl ?_
            refine lv_goto (tgt := 66) X.1.1 X.1.2.1 dX6_best_62 (by decide) ?_
            refine lv_istore (lv' := [(4, .int (iI 1)), (0, .ref m0), (1, .int v1), (2, .int v2_1002), (3, .int v3_1002)]) X.1.1 X.1.2.1 dX6_best_66 hl (by decide) rfl (fun ls hl => ?_)
            refine lv_aload_n X.1.1 X.1.2.1 dX6_best_68 rfl (lv_at hl 1 rfl) ?_
            refine lv_iload_n X.1.1 X.1.2.1 dX6_best_69 rfl (lv_at hl 4 rfl) ?_
            refine lv_iload_n X.1.1 X.1.2.1 dX6_best_70 rfl (lv_at hl 2 rfl) ?_
            obtain ⟨u1003, e_u1003, hE⟩ := bd_some hE
            refine callRV (wsC := (wM cI cZ m0 m1 m2 m3 m4 m5 m6 m7 m8 m9 m10 m11 m12 m13 mwo mth mrn mrm mln mat mfa mac mnx mse msd mki mof mpu mno mrw mrt mtx mro mso msf msc mik mkt)) (As := [.int v3_1002, .int v1]) (rest := []) (ci := 6) X (c6_comesNow (l := l) e_u1003) o6_comesNow tw698 ⟨rfl, rfl, Nat.le_of_ble_eq_true rfl, Nat.le_of_ble_eq_true rfl⟩ hP hK 0 rfl rfl rfl rfl hl rfl (by decide) ⟨Nat.le_refl _, Nat.le_refl _⟩ dX6_best_71 ?_
            refine lv_if_eq (tgt := 86) X.1.1 X.1.2.1 dX6_best_74 (by decide) (fun c_74 => ?_) (fun c_74 => ?_)
            · have hE := ite_t hE c_74
              refine lv_iload_n X.1.1 X.1.2.1 dX6_best_86 rfl (lv_at hl 3 rfl) ?_
              refine lv_istore_n (lv' := [(2, .int v2_1002), (4, .int (iI 1)), (0, .ref m0), (1, .int v1), (3, .int v3_1002)]) X.1.1 X.1.2.1 dX6_best_87 rfl hl (by decide) rfl (fun ls hl => ?_)
              refine lv_iinc (v := (v3_1002 + (iI 1))) (lv' := [(3, .int (v3_1002 + (iI 1))), (2, .int v2_1002), (4, .int (iI 1)), (0, .ref m0), (1, .int v1)]) X.1.1 X.1.2.1 dX6_best_88 hl (k := 4) rfl rfl (by decide) rfl (fun ls hl => ?_)
              refine lv_goto (tgt := 20) X.1.1 X.1.2.1 dX6_best_91 (by decide) ?_
              exact ih v2_1002 (v3_1002 + (iI 1)) ls (lv_sub hl [3, 4, 1, 0] rfl) hE
            · have hE := ite_f hE c_74
              refine lv_iload X.1.1 X.1.2.1 dX6_best_77 (lv_at hl 0 rfl) ?_
              refine lv_if_eq (tgt := 86) X.1.1 X.1.2.1 dX6_best_79 (by decide) (fun c_ => False.elim (by revert c_; decide)) (fun _ => ?_)
              refine lv_iload_n X.1.1 X.1.2.1 dX6_best_82 rfl (lv_at hl 4 rfl) ?_
              refine lv_goto (tgt := 87) X.1.1 X.1.2.1 dX6_best_83 (by decide) ?_
              refine lv_istore_n (lv' := [(2, .int v3_1002), (4, .int (iI 1)), (0, .ref m0), (1, .int v1), (3, .int v3_1002)]) X.1.1 X.1.2.1 dX6_best_87 rfl hl (by decide) rfl (fun ls hl => ?_)
              refine lv_iinc (v := (v3_1002 + (iI 1))) (lv' := [(3, .int (v3_1002 + (iI 1))), (2, .int v3_1002), (4, .int (iI 1)), (0, .ref m0), (1, .int v1)]) X.1.1 X.1.2.1 dX6_best_88 hl (k := 4) rfl rfl (by decide) rfl (fun ls hl => ?_)
              refine lv_goto (tgt := 20) X.1.1 X.1.2.1 dX6_best_91 (by decide) ?_
              exact ih v3_1002 (v3_1002 + (iI 1)) ls (lv_sub hl [3, 4, 1, 0] rfl) hE
          · have hE := ite_f hE c_31
            refine lv_aload_n X.1.1 X.1.2.1 dX6_best_34 rfl (lv_at hl 0 rfl) ?_
            refine lv_aload_n X.1.1 X.1.2.1 dX6_best_35 rfl (lv_at hl 0 rfl) ?_
            refine gf6_19 X hK hP 0 rfl rfl dX6_best_36 ?_
            refine lv_iload_n X.1.1 X.1.2.1 dX6_best_39 rfl (lv_at hl 3 rfl) ?_
            obtain ⟨i_40, hE⟩ := ib_some hE
            refine va_iald X.1.1 X.1.2.1 hK hP 4 0 rfl rfl i_40 dX6_best_40 ?_
            refine lv_iload_n X.1.1 X.1.2.1 dX6_best_41 rfl (lv_at hl 3 rfl) ?_
            refine lv_iload_n X.1.1 X.1.2.1 dX6_best_42 rfl (lv_at hl 1 rfl) ?_
            obtain ⟨u1004, e_u1004, hE⟩ := bd_some hE
            refine callRV (wsC := (wM cI cZ m0 m1 m2 m3 m4 m5 m6 m7 m8 m9 m10 m11 m12 m13 mwo mth mrn mrm mln mat mfa mac mnx mse msd mki mof mpu mno mrw mrt mtx mro mso msf msc mik mkt)) (As := [.int (mno v3_1002.toNatClampNeg), .int v3_1002, .int v1]) (rest := []) (ci := 6) X (c6_power (l := l) e_u1004) o6_power tw694 ⟨rfl, rfl, Nat.le_of_ble_eq_true rfl, Nat.le_of_ble_eq_true rfl⟩ hP hK 0 rfl rfl rfl rfl hl rfl (by decide) ⟨Nat.le_refl _, Nat.le_refl _⟩ dX6_best_43 ?_
            refine lv_aload_n X.1.1 X.1.2.1 dX6_best_46 rfl (lv_at hl 0 rfl) ?_
            refine lv_aload_n X.1.1 X.1.2.1 dX6_best_47 rfl (lv_at hl 0 rfl) ?_
            refine gf6_19 X hK hP 0 rfl rfl dX6_best_48 ?_
            refine lv_iload_n X.1.1 X.1.2.1 dX6_best_51 rfl (lv_at hl 2 rfl) ?_
            obtain ⟨i_52, hE⟩ := ib_some hE
            refine va_iald X.1.1 X.1.2.1 hK hP 4 0 rfl rfl i_52 dX6_best_52 ?_
            refine lv_iload_n X.1.1 X.1.2.1 dX6_best_53 rfl (lv_at hl 2 rfl) ?_
            refine lv_iload_n X.1.1 X.1.2.1 dX6_best_54 rfl (lv_at hl 1 rfl) ?_
            obtain ⟨u1005, e_u1005, hE⟩ := bd_some hE
            refine callRV (wsC := (wM cI cZ m0 m1 m2 m3 m4 m5 m6 m7 m8 m9 m10 m11 m12 m13 mwo mth mrn mrm mln mat mfa mac mnx mse msd mki mof mpu mno mrw mrt mtx mro mso msf msc mik mkt)) (As := [.int (mno v2_1002.toNatClampNeg), .int v2_1002, .int v1]) (rest := [.int u1004]) (ci := 6) X (c6_power (l := l) e_u1005) o6_power tw694 ⟨rfl, rfl, Nat.le_of_ble_eq_true rfl, Nat.le_of_ble_eq_true rfl⟩ hP hK 0 rfl rfl rfl rfl hl rfl (Nat.le_of_ble_eq_true rfl) ⟨Nat.le_refl _, Nat.le_refl _⟩ dX6_best_55 ?_
            refine lv_icmp_le (tgt := 65) X.1.1 X.1.2.1 dX6_best_58 (by decide) (fun c_58 => ?_) (fun c_58 => ?_)
            · have hE := ite_t hE c_58
              refine lv_iconst (v := (iI 0)) X.1.1 X.1.2.1 dX6_best_65 rfl ?_
              refine lv_istore (lv' := [(4, .int (iI 0)), (0, .ref m0), (1, .int v1), (2, .int v2_1002), (3, .int v3_1002)]) X.1.1 X.1.2.1 dX6_best_66 hl (by decide) rfl (fun ls hl => ?_)
              refine lv_aload_n X.1.1 X.1.2.1 dX6_best_68 rfl (lv_at hl 1 rfl) ?_
              refine lv_iload_n X.1.1 X.1.2.1 dX6_best_69 rfl (lv_at hl 4 rfl) ?_
              refine lv_iload_n X.1.1 X.1.2.1 dX6_best_70 rfl (lv_at hl 2 rfl) ?_
              obtain ⟨u1006, e_u1006, hE⟩ := bd_some hE
              refine callRV (wsC := (wM cI cZ m0 m1 m2 m3 m4 m5 m6 m7 m8 m9 m10 m11 m12 m13 mwo mth mrn mrm mln mat mfa mac mnx mse msd mki mof mpu mno mrw mrt mtx mro mso msf msc mik mkt)) (As := [.int v3_1002, .int v1]) (rest := []) (ci := 6) X (c6_comesNow (l := l) e_u1006) o6_comesNow tw698 ⟨rfl, rfl, Nat.le_of_ble_eq_true rfl, Nat.le_of_ble_eq_true rfl⟩ hP hK 0 rfl rfl rfl rfl hl rfl (by decide) ⟨Nat.le_refl _, Nat.le_refl _⟩ dX6_best_71 ?_
              refine lv_if_eq (tgt := 86) X.1.1 X.1.2.1 dX6_best_74 (by decide) (fun c_74 => ?_) (fun c_74 => ?_)
              · have hE := ite_t hE c_74
                refine lv_iload_n X.1.1 X.1.2.1 dX6_best_86 rfl (lv_at hl 3 rfl) ?_
                refine lv_istore_n (lv' := [(2, .int v2_1002), (4, .int (iI 0)), (0, .ref m0), (1, .int v1), (3, .int v3_1002)]) X.1.1 X.1.2.1 dX6_best_87 rfl hl (by decide) rfl (fun ls hl => ?_)
                refine lv_iinc (v := (v3_1002 + (iI 1))) (lv' := [(3, .int (v3_1002 + (iI 1))), (2, .int v2_1002), (4, .int (iI 0)), (0, .ref m0), (1, .int v1)]) X.1.1 X.1.2.1 dX6_best_88 hl (k := 4) rfl rfl (by decide) rfl (fun ls hl => ?_)
                refine lv_goto (tgt := 20) X.1.1 X.1.2.1 dX6_best_91 (by decide) ?_
                exact ih v2_1002 (v3_1002 + (iI 1)) ls (lv_sub hl [3, 4, 1, 0] rfl) hE
              · have hE := ite_f hE c_74
                refine lv_iload X.1.1 X.1.2.1 dX6_best_77 (lv_at hl 0 rfl) ?_
                refine lv_if_eq (tgt := 86) X.1.1 X.1.2.1 dX6_best_79 (by decide) (fun _ => ?_) (fun c_ => False.elim (by revert c_; decide))
                refine lv_iload_n X.1.1 X.1.2.1 dX6_best_86 rfl (lv_at hl 3 rfl) ?_
                refine lv_istore_n (lv' := [(2, .int v2_1002), (4, .int (iI 0)), (0, .ref m0), (1, .int v1), (3, .int v3_1002)]) X.1.1 X.1.2.1 dX6_best_87 rfl hl (by decide) rfl (fun ls hl => ?_)
                refine lv_iinc (v := (v3_1002 + (iI 1))) (lv' := [(3, .int (v3_1002 + (iI 1))), (2, .int v2_1002), (4, .int (iI 0)), (0, .ref m0), (1, .int v1)]) X.1.1 X.1.2.1 dX6_best_88 hl (k := 4) rfl rfl (by decide) rfl (fun ls hl => ?_)
                refine lv_goto (tgt := 20) X.1.1 X.1.2.1 dX6_best_91 (by decide) ?_
                exact ih v2_1002 (v3_1002 + (iI 1)) ls (lv_sub hl [3, 4, 1, 0] rfl) hE
            · have hE := ite_f hE c_58
              refine lv_iconst (v := (iI 1)) X.1.1 X.1.2.1 dX6_best_61 rfl ?_
              refine lv_goto (tgt := 66) X.1.1 X.1.2.1 dX6_best_62 (by decide) ?_
              refine lv_istore (lv' := [(4, .int (iI 1)), (0, .ref m0), (1, .int v1), (2, .int v2_1002), (3, .int v3_1002)]) X.1.1 X.1.2.1 dX6_best_66 hl (by decide) rfl (fun ls hl => ?_)
              refine lv_aload_n X.1.1 X.1.2.1 dX6_best_68 rfl (lv_at hl 1 rfl) ?_
              refine lv_iload_n X.1.1 X.1.2.1 dX6_best_69 rfl (lv_at hl 4 rfl) ?_
              refine lv_iload_n X.1.1 X.1.2.1 dX6_best_70 rfl (lv_at hl 2 rfl) ?_
              obtain ⟨u1007, e_u1007, hE⟩ := bd_some hE
              refine callRV (wsC := (wM cI cZ m0 m1 m2 m3 m4 m5 m6 m7 m8 m9 m10 m11 m12 m13 mwo mth mrn mrm mln mat mfa mac mnx mse msd mki mof mpu mno mrw mrt mtx mro mso msf msc mik mkt)) (As := [.int v3_1002, .int v1]) (rest := []) (ci := 6) X (c6_comesNow (l := l) e_u1007) o6_comesNow tw698 ⟨rfl, rfl, Nat.le_of_ble_eq_true rfl, Nat.le_of_ble_eq_true rfl⟩ hP hK 0 rfl rfl rfl rfl hl rfl (by decide) ⟨Nat.le_refl _, Nat.le_refl _⟩ dX6_best_71 ?_
              refine lv_if_eq (tgt := 86) X.1.1 X.1.2.1 dX6_best_74 (by decide) (fun c_74 => ?_) (fun c_74 => ?_)
              · have hE := ite_t hE c_74
                refine lv_iload_n X.1.1 X.1.2.1 dX6_best_86 rfl (lv_at hl 3 rfl) ?_
                refine lv_istore_n (lv' := [(2, .int v2_1002), (4, .int (iI 1)), (0, .ref m0), (1, .int v1), (3, .int v3_1002)]) X.1.1 X.1.2.1 dX6_best_87 rfl hl (by decide) rfl (fun ls hl => ?_)
                refine lv_iinc (v := (v3_1002 + (iI 1))) (lv' := [(3, .int (v3_1002 + (iI 1))), (2, .int v2_1002), (4, .int (iI 1)), (0, .ref m0), (1, .int v1)]) X.1.1 X.1.2.1 dX6_best_88 hl (k := 4) rfl rfl (by decide) rfl (fun ls hl => ?_)
                refine lv_goto (tgt := 20) X.1.1 X.1.2.1 dX6_best_91 (by decide) ?_
                exact ih v2_1002 (v3_1002 + (iI 1)) ls (lv_sub hl [3, 4, 1, 0] rfl) hE
              · have hE := ite_f hE c_74
                refine lv_iload X.1.1 X.1.2.1 dX6_best_77 (lv_at hl 0 rfl) ?_
                refine lv_if_eq (tgt := 86) X.1.1 X.1.2.1 dX6_best_79 (by decide) (fun c_ => False.elim (by revert c_; decide)) (fun _ => ?_)
                refine lv_iload_n X.1.1 X.1.2.1 dX6_best_82 rfl (lv_at hl 4 rfl) ?_
                refine lv_goto (tgt := 87) X.1.1 X.1.2.1 dX6_best_83 (by decide) ?_
                refine lv_istore_n (lv' := [(2, .int v3_1002), (4, .int (iI 1)), (0, .ref m0), (1, .int v1), (3, .int v3_1002)]) X.1.1 X.1.2.1 dX6_best_87 rfl hl (by decide) rfl (fun ls hl => ?_)
                refine lv_iinc (v := (v3_1002 + (iI 1))) (lv' := [(3, .int (v3_1002 + (iI 1))), (2, .int v3_1002), (4, .int (iI 1)), (0, .ref m0), (1, .int v1)]) X.1.1 X.1.2.1 dX6_best_88 hl (k := 4) rfl rfl (by decide) rfl (fun ls hl => ?_)
                refine lv_goto (tgt := 20) X.1.1 X.1.2.1 dX6_best_91 (by decide) ?_
                exact ih v3_1002 (v3_1002 + (iI 1)) ls (lv_sub hl [3, 4, 1, 0] rfl) hE
    refine lp20 _ (fun v2_1002 v3_1002 ls hl hE => ?_) FU (iI (-9)) (iI 0) ls (lv_sub hl [2, 3, 1, 0] rfl) hE
    refine lv_iload_n X.1.1 X.1.2.1 dX6_best_94 rfl (lv_at hl 2 rfl) ?_
    cases hE
    exact retR X dX6_best_95
  · have hE := ite_t hE c_9
    refine lv_bipush (v := (iI (-2))) X.1.1 X.1.2.1 dX6_best_12 (by decide) ?_
    cases hE
    exact retR X dX6_best_14
theorem o6_layTrial : oV yX6_layTrial RX6 cX6_layTrial 2 none 0 := ⟨tw804, tw803, tw33, tw45, ⟨by decide +kernel, by decide +kernel⟩, by decide +kernel⟩
abbrev rm6_layTrial : Room := { frames := 0, cells := 0, slots := 0, locals := 0 }
set_option maxHeartbeats 4000000 in
set_option maxRecDepth 100000 in
theorem c6_layTrial {l : Launch} {G : va_G} {cI cZ : ClassId} {m0 m1 m2 m3 m4 m5 m6 m7 m8 m9 m10 m11 m12 m13 : Nat} {mwo : Int32} {mth : Int32} {mrn : Int32} {mrm : Int32} {mln : Int32} {mat : Int32} {mfa : Int32} {mac : Int32} {mnx : Int32} {mse : Int32} {msd : Int64} {mki : Nat → Int32} {mof : Nat → Int32} {mpu : Nat → Int32} {mno : Nat → Int32} {mrw : Nat → Int32} {mrt : Nat → Int32} {mtx : Nat → Int32} {mro : Nat → Int32} {mso : Nat → Int32} {msf : Nat → Int32} {msc : Nat → Int32} {mik : Nat → Int32} {mkt : Nat → Int32} {sz : Nat} {u : (Nat → Int32)} (hE : f6_layTrial mno = some u) : Met l yX6_layTrial (Cond.code yX6_layTrial cX6_layTrial 2 none :: TB) rm6_layTrial (PcW G cI cZ (wM cI cZ m0 m1 m2 m3 m4 m5 m6 m7 m8 m9 m10 m11 m12 m13 mwo mth mrn mrm mln mat mfa mac mnx mse msd mki mof mpu mno mrw mrt mtx mro mso msf msc mik mkt) sz ([.ref m0] : List Value)) (QW G none (wM cI cZ m0 m1 m2 m3 m4 m5 m6 m7 m8 m9 m10 m11 m12 m13 mwo mth mrn mrm mln mat mfa mac mnx mse msd mki mof mpu u mrw mrt mtx mro mso msf msc mik mkt) (va_A (wM cI cZ m0 m1 m2 m3 m4 m5 m6 m7 m8 m9 m10 m11 m12 m13 mwo mth mrn mrm mln mat mfa mac mnx mse msd mki mof mpu mno mrw mrt mtx mro mso msf msc mik mkt) sz)) 0 0 (va_A (wM cI cZ m0 m1 m2 m3 m4 m5 m6 m7 m8 m9 m10 m11 m12 m13 mwo mth mrn mrm mln mat mfa mac mnx mse msd mki mof mpu mno mrw mrt mtx mro mso msf msc mik mkt) sz) := by
  refine metW (own := RX6) (by decide +kernel) rfl (Nat.le_of_ble_eq_true rfl) ?_
  intro p e s m below meth c ls A X hA hP hK hD hl
  have hS : va_S A s.heap s.heap [] := va_S.rf
  have hl : lv_has ls 2 [(0, .ref m0)] := hl
  unfold f6_layTrial at hE
  refine lv_iconst (v := (iI 0)) X.1.1 X.1.2.1 dX6_layTrial_0 rfl ?_
  refine lv_istore_n (lv' := [(1, .int (iI 0)), (0, .ref m0)]) X.1.1 X.1.2.1 dX6_layTrial_1 rfl hl (by decide) rfl (fun ls hl => ?_)
  have lp2 : ∀ (k : Int32 → (Nat → Int32) → Option (Nat → Int32)), (∀ (v1_1001 : Int32) (mno_1001 : Nat → Int32) (H : Heap) (locs : List Loc) (ls : Array Slot), va_P G vwCl (wM cI cZ m0 m1 m2 m3 m4 m5 m6 m7 m8 m9 m10 m11 m12 m13 mwo mth mrn mrm mln mat mfa mac mnx mse msd mki mof mpu mno_1001 mrw mrt mtx mro mso msf msc mik mkt) H → va_D A (wM cI cZ m0 m1 m2 m3 m4 m5 m6 m7 m8 m9 m10 m11 m12 m13 mwo mth mrn mrm mln mat mfa mac mnx mse msd mki mof mpu mno_1001 mrw mrt mtx mro mso msf msc mik mkt) → va_S A s.heap H locs → lv_has ls 2 [(0, .ref m0), (1, .int v1_1001)] → k v1_1001 mno_1001 = some u → W p l e rm6_layTrial s m ([.ref m0] : List Value).toArray below meth c H locs 0 0 (MQ below (QW G none (wM cI cZ m0 m1 m2 m3 m4 m5 m6 m7 m8 m9 m10 m11 m12 m13 mwo mth mrn mrm mln mat mfa mac mnx mse msd mki mof mpu u mrw mrt mtx mro mso msf msc mik mkt) A) ([.ref m0] : List Value).toArray s 0 0 A) (F0 m 29 ls [])) → ∀ (n : Nat) (v1_1001 : Int32) (mno_1001 : Nat → Int32) (H : Heap) (locs : List Loc) (ls : Array Slot), va_P G vwCl (wM cI cZ m0 m1 m2 m3 m4 m5 m6 m7 m8 m9 m10 m11 m12 m13 mwo mth mrn mrm mln mat mfa mac mnx mse msd mki mof mpu mno_1001 mrw mrt mtx mro mso msf msc mik mkt) H → va_D A (wM cI cZ m0 m1 m2 m3 m4 m5 m6 m7 m8 m9 m10 m11 m12 m13 mwo mth mrn mrm mln mat mfa mac mnx mse msd mki mof mpu mno_1001 mrw mrt mtx mro mso msf msc mik mkt) → va_S A s.heap H locs → lv_has ls 2 [(0, .ref m0), (1, .int v1_1001)] → l6_layTrial_2 k n v1_1001 mno_1001 = some u → W p l e rm6_layTrial s m ([.ref m0] : List Value).toArray below meth c H locs 0 0 (MQ below (QW G none (wM cI cZ m0 m1 m2 m3 m4 m5 m6 m7 m8 m9 m10 m11 m12 m13 mwo mth mrn mrm mln mat mfa mac mnx mse msd mki mof mpu u mrw mrt mtx mro mso msf msc mik mkt) A) ([.ref m0] : List Value).toArray s 0 0 A) (F0 m 2 ls []) := by
    intro k hex n
    induction n with
    | zero =>
      intro v1_1001 mno_1001 H locs ls hP hD hS hl hE
      exact absurd (show (none : Option (Nat → Int32)) = some u from hE) (fun h => by cases h)
    | succ n ih =>
      intro v1_1001 mno_1001 H locs ls hP hD hS hl hE
      rw [l6_layTrial_2] at hE
      refine lv_iload_n X.1.1 X.1.2.1 dX6_layTrial_2 rfl (lv_at hl 1 rfl) ?_
      refine lv_bipush (v := (iI 10)) X.1.1 X.1.2.1 dX6_layTrial_3 (by decide) ?_
      refine lv_icmp_ge (tgt := 29) X.1.1 X.1.2.1 dX6_layTrial_5 (by decide) (fun c_5 => ?_) (fun c_5 => ?_)
      · have hE := ite_t hE c_5
        exact hex v1_1001 mno_1001 H locs ls hP hD hS (lv_sub hl [0, 1] rfl) hE
      · have hE := ite_f hE c_5
        refine lv_aload_n X.1.1 X.1.2.1 dX6_layTrial_8 rfl (lv_at hl 0 rfl) ?_
        refine gf6_19 X hK hP 0 rfl rfl dX6_layTrial_9 ?_
        refine lv_bipush (v := (iI 10)) X.1.1 X.1.2.1 dX6_layTrial_12 (by decide) ?_
        refine lv_iload_n X.1.1 X.1.2.1 dX6_layTrial_14 rfl (lv_at hl 1 rfl) ?_
        refine lv_iadd X.1.1 X.1.2.1 dX6_layTrial_15 ?_
        refine lv_aload_n X.1.1 X.1.2.1 dX6_layTrial_16 rfl (lv_at hl 0 rfl) ?_
        refine gf6_19 X hK hP 0 rfl rfl dX6_layTrial_17 ?_
        refine lv_iload_n X.1.1 X.1.2.1 dX6_layTrial_20 rfl (lv_at hl 1 rfl) ?_
        obtain ⟨i_21, hE⟩ := ib_some hE
        refine va_iald X.1.1 X.1.2.1 hK hP 4 0 rfl rfl i_21 dX6_layTrial_21 ?_
        obtain ⟨i_22, hE⟩ := ib_some hE
        refine astI (t0 := 0) (ws' := (wM cI cZ m0 m1 m2 m3 m4 m5 m6 m7 m8 m9 m10 m11 m12 m13 mwo mth mrn mrm mln mat mfa mac mnx mse msd mki mof mpu (upd mno_1001 ((iI 10) + v1_1001).toNatClampNeg (mno_1001 v1_1001.toNatClampNeg)) mrw mrt mtx mro mso msf msc mik mkt)) X hK hP hD hS 4 0 rfl rfl i_22 rfl dX6_layTrial_22 (fun H locs hP hD hS => ?_)
        refine lv_iinc (v := (v1_1001 + (iI 1))) (lv' := [(1, .int (v1_1001 + (iI 1))), (0, .ref m0)]) X.1.1 X.1.2.1 dX6_layTrial_23 hl (k := 1) rfl rfl (by decide) rfl (fun ls hl => ?_)
        refine lv_goto (tgt := 2) X.1.1 X.1.2.1 dX6_layTrial_26 (by decide) ?_
        exact ih (v1_1001 + (iI 1)) (upd mno_1001 ((iI 10) + v1_1001).toNatClampNeg (mno_1001 v1_1001.toNatClampNeg)) H locs ls hP hD hS (lv_sub hl [1, 0] rfl) hE
  refine lp2 _ (fun v1_1001 mno_1001 H locs ls hP hD hS hl hE => ?_) FU (iI 0) mno _ _ ls hP hD hS (lv_sub hl [1, 0] rfl) hE
  cases hE
  exact retWV X hP hS dX6_layTrial_29
theorem o6_tenTo : oS yX6_tenTo cX6_tenTo 3 (some .int) 1 := ⟨tw796, tw795, tw45, ⟨by decide +kernel, by decide +kernel⟩, by decide +kernel⟩
abbrev rm6_tenTo : Room := { frames := 0, cells := 0, slots := 0, locals := 0 }
set_option maxHeartbeats 4000000 in
set_option maxRecDepth 100000 in
theorem c6_tenTo {l : Launch} {G : va_G} {cI cZ : ClassId} {v0 : Int32} {u : Int32} (hE : f6_tenTo v0 = some u) : Met l yX6_tenTo (Cond.code yX6_tenTo cX6_tenTo 3 (some .int) :: TB) rm6_tenTo (PcR G cI cZ [] ([.int v0] : List Value)) (QcRead u) 0 0 (fun _ => False) := by
  refine metR (own := RX6) (by decide +kernel) rfl (Nat.le_of_ble_eq_true rfl) ?_
  intro p e s m below meth c ls X hP hK hl
  have hl : lv_has ls 3 [(0, .int v0)] := hl
  unfold f6_tenTo at hE
  refine lv_iconst (v := (iI 1)) X.1.1 X.1.2.1 dX6_tenTo_0 rfl ?_
  refine lv_istore_n (lv' := [(1, .int (iI 1)), (0, .int v0)]) X.1.1 X.1.2.1 dX6_tenTo_1 rfl hl (by decide) rfl (fun ls hl => ?_)
  refine lv_iconst (v := (iI 0)) X.1.1 X.1.2.1 dX6_tenTo_2 rfl ?_
  refine lv_istore_n (lv' := [(2, .int (iI 0)), (1, .int (iI 1)), (0, .int v0)]) X.1.1 X.1.2.1 dX6_tenTo_3 rfl hl (by decide) rfl (fun ls hl => ?_)
  have lp4 : ∀ (k : Int32 → Int32 → Option Int32), (∀ (v1_1001 : Int32) (v2_1001 : Int32) (ls : Array Slot), lv_has ls 3 [(0, .int v0), (1, .int v1_1001), (2, .int v2_1001)] → k v1_1001 v2_1001 = some u → W p l e rm6_tenTo s m ([.int v0] : List Value).toArray below meth c s.heap [] 0 0 (MQ below (QcRead u) ([.int v0] : List Value).toArray s 0 0 (fun _ => False)) (F0 m 20 ls [])) → ∀ (n : Nat) (v1_1001 : Int32) (v2_1001 : Int32) (ls : Array Slot), lv_has ls 3 [(0, .int v0), (1, .int v1_1001), (2, .int v2_1001)] → l6_tenTo_4 k v0 n v1_1001 v2_1001 = some u → W p l e rm6_tenTo s m ([.int v0] : List Value).toArray below meth c s.heap [] 0 0 (MQ below (QcRead u) ([.int v0] : List Value).toArray s 0 0 (fun _ => False)) (F0 m 4 ls []) := by
    intro k hex n
    induction n with
    | zero =>
      intro v1_1001 v2_1001 ls hl hE
      exact absurd (show (none : Option Int32) = some u from hE) (fun h => by cases h)
    | succ n ih =>
      intro v1_1001 v2_1001 ls hl hE
      rw [l6_tenTo_4] at hE
      refine lv_iload_n X.1.1 X.1.2.1 dX6_tenTo_4 rfl (lv_at hl 2 rfl) ?_
      refine lv_iload_n X.1.1 X.1.2.1 dX6_tenTo_5 rfl (lv_at hl 0 rfl) ?_
      refine lv_icmp_ge (tgt := 20) X.1.1 X.1.2.1 dX6_tenTo_6 (by decide) (fun c_6 => ?_) (fun c_6 => ?_)
      · have hE := ite_t hE c_6
        exact hex v1_1001 v2_1001 ls (lv_sub hl [0, 1, 2] rfl) hE
      · have hE := ite_f hE c_6
        refine lv_iload_n X.1.1 X.1.2.1 dX6_tenTo_9 rfl (lv_at hl 1 rfl) ?_
        refine lv_bipush (v := (iI 10)) X.1.1 X.1.2.1 dX6_tenTo_10 (by decide) ?_
        refine lv_imul X.1.1 X.1.2.1 dX6_tenTo_12 ?_
        refine lv_istore_n (lv' := [(1, .int (v1_1001 * (iI 10))), (0, .int v0), (2, .int v2_1001)]) X.1.1 X.1.2.1 dX6_tenTo_13 rfl hl (by decide) rfl (fun ls hl => ?_)
        refine lv_iinc (v := (v2_1001 + (iI 1))) (lv' := [(2, .int (v2_1001 + (iI 1))), (1, .int (v1_1001 * (iI 10))), (0, .int v0)]) X.1.1 X.1.2.1 dX6_tenTo_14 hl (k := 2) rfl rfl (by decide) rfl (fun ls hl => ?_)
        refine lv_goto (tgt := 4) X.1.1 X.1.2.1 dX6_tenTo_17 (by decide) ?_
        exact ih (v1_1001 * (iI 10)) (v2_1001 + (iI 1)) ls (lv_sub hl [2, 1, 0] rfl) hE
  refine lp4 _ (fun v1_1001 v2_1001 ls hl hE => ?_) FU (iI 1) (iI 0) ls (lv_sub hl [2, 1, 0] rfl) hE
  refine lv_iload_n X.1.1 X.1.2.1 dX6_tenTo_20 rfl (lv_at hl 1 rfl) ?_
  cases hE
  exact retR X dX6_tenTo_21
theorem o6_isRow : oV yX6_isRow RX6 cX6_isRow 5 (some .boolean) 2 := ⟨tw800, tw799, tw32, tw45, ⟨by decide +kernel, by decide +kernel⟩, by decide +kernel⟩
abbrev rm6_isRow : Room := { frames := 4, cells := 0, slots := 0, locals := 98 }
set_option maxHeartbeats 4000000 in
set_option maxRecDepth 100000 in
theorem c6_isRow {l : Launch} {G : va_G} {cI cZ : ClassId} {m0 m1 m2 m3 m4 m5 m6 m7 m8 m9 m10 m11 m12 m13 : Nat} {mwo : Int32} {mth : Int32} {mrn : Int32} {mrm : Int32} {mln : Int32} {mat : Int32} {mfa : Int32} {mac : Int32} {mnx : Int32} {mse : Int32} {msd : Int64} {mki : Nat → Int32} {mof : Nat → Int32} {mpu : Nat → Int32} {mno : Nat → Int32} {mrw : Nat → Int32} {mrt : Nat → Int32} {mtx : Nat → Int32} {mro : Nat → Int32} {mso : Nat → Int32} {msf : Nat → Int32} {msc : Nat → Int32} {mik : Nat → Int32} {mkt : Nat → Int32} {v1 : Int32} {v2 : Int32} {sz : Nat} {u : Int32 × (Nat → Int32)} (hE : f6_isRow v1 v2 mwo mth mki mof mpu mno = some u) : Met l yX6_isRow (Cond.code yX6_isRow cX6_isRow 5 (some .boolean) :: TB) rm6_isRow (PcW G cI cZ (wM cI cZ m0 m1 m2 m3 m4 m5 m6 m7 m8 m9 m10 m11 m12 m13 mwo mth mrn mrm mln mat mfa mac mnx mse msd mki mof mpu mno mrw mrt mtx mro mso msf msc mik mkt) sz ([.ref m0, .int v1, .int v2] : List Value)) (QW G (some (.int u.1)) (wM cI cZ m0 m1 m2 m3 m4 m5 m6 m7 m8 m9 m10 m11 m12 m13 mwo mth mrn mrm mln mat mfa mac mnx mse msd mki mof mpu u.2 mrw mrt mtx mro mso msf msc mik mkt) (va_A (wM cI cZ m0 m1 m2 m3 m4 m5 m6 m7 m8 m9 m10 m11 m12 m13 mwo mth mrn mrm mln mat mfa mac mnx mse msd mki mof mpu mno mrw mrt mtx mro mso msf msc mik mkt) sz)) 0 0 (va_A (wM cI cZ m0 m1 m2 m3 m4 m5 m6 m7 m8 m9 m10 m11 m12 m13 mwo mth mrn mrm mln mat mfa mac mnx mse msd mki mof mpu mno mrw mrt mtx mro mso msf msc mik mkt) sz) := by
  refine metW (own := RX6) (by decide +kernel) rfl (Nat.le_of_ble_eq_true rfl) ?_
  intro p e s m below meth c ls A X hA hP hK hD hl
  have hS : va_S A s.heap s.heap [] := va_S.rf
  have hl : lv_has ls 5 [(0, .ref m0), (1, .int v1), (2, .int v2)] := hl
  unfold f6_isRow at hE
  refine lv_aload_n X.1.1 X.1.2.1 dX6_isRow_0 rfl (lv_at hl 0 rfl) ?_
  obtain ⟨u1001, e_u1001, hE⟩ := bd_some hE
  refine callWF (ws := (wM cI cZ m0 m1 m2 m3 m4 m5 m6 m7 m8 m9 m10 m11 m12 m13 mwo mth mrn mrm mln mat mfa mac mnx mse msd mki mof mpu mno mrw mrt mtx mro mso msf msc mik mkt)) (ws' := (wM cI cZ m0 m1 m2 m3 m4 m5 m6 m7 m8 m9 m10 m11 m12 m13 mwo mth mrn mrm mln mat mfa mac mnx mse msd mki mof mpu u1001 mrw mrt mtx mro mso msf msc mik mkt)) (As := []) (rest := []) (ov := none) (st1 := []) (ci := 6) X (c6_layTrial (l := l) e_u1001) o6_layTrial tw801 ⟨rfl, rfl, Nat.le_of_ble_eq_true rfl, Nat.le_of_ble_eq_true rfl⟩ hP hK hD hS hA (wM_fst.trans wM_fst.symm) 0 rfl rfl rfl rfl hl rfl (by decide) ⟨Nat.le_refl _, Nat.le_refl _⟩ rfl dX6_isRow_1 (fun H locs hP hD hS => ?_)
  refine lv_iconst (v := (iI 0)) X.1.1 X.1.2.1 dX6_isRow_4 rfl ?_
  refine lv_istore_n (lv' := [(3, .int (iI 0)), (0, .ref m0), (1, .int v1), (2, .int v2)]) X.1.1 X.1.2.1 dX6_isRow_5 rfl hl (by decide) rfl (fun ls hl => ?_)
  have lp6 : ∀ (k : Int32 → (Nat → Int32) → Option (Int32 × (Nat → Int32))), (∀ (v3_1002 : Int32) (mno_1002 : Nat → Int32) (H : Heap) (locs : List Loc) (ls : Array Slot), va_P G vwCl (wM cI cZ m0 m1 m2 m3 m4 m5 m6 m7 m8 m9 m10 m11 m12 m13 mwo mth mrn mrm mln mat mfa mac mnx mse msd mki mof mpu mno_1002 mrw mrt mtx mro mso msf msc mik mkt) H → va_D A (wM cI cZ m0 m1 m2 m3 m4 m5 m6 m7 m8 m9 m10 m11 m12 m13 mwo mth mrn mrm mln mat mfa mac mnx mse msd mki mof mpu mno_1002 mrw mrt mtx mro mso msf msc mik mkt) → va_S A s.heap H locs → lv_has ls 5 [(0, .ref m0), (1, .int v1), (2, .int v2), (3, .int v3_1002)] → k v3_1002 mno_1002 = some u → W p l e rm6_isRow s m ([.ref m0, .int v1, .int v2] : List Value).toArray below meth c H locs 0 0 (MQ below (QW G (some (.int u.1)) (wM cI cZ m0 m1 m2 m3 m4 m5 m6 m7 m8 m9 m10 m11 m12 m13 mwo mth mrn mrm mln mat mfa mac mnx mse msd mki mof mpu u.2 mrw mrt mtx mro mso msf msc mik mkt) A) ([.ref m0, .int v1, .int v2] : List Value).toArray s 0 0 A) (F0 m 67 ls [])) → ∀ (n : Nat) (v3_1002 : Int32) (mno_1002 : Nat → Int32) (H : Heap) (locs : List Loc) (ls : Array Slot), va_P G vwCl (wM cI cZ m0 m1 m2 m3 m4 m5 m6 m7 m8 m9 m10 m11 m12 m13 mwo mth mrn mrm mln mat mfa mac mnx mse msd mki mof mpu mno_1002 mrw mrt mtx mro mso msf msc mik mkt) H → va_D A (wM cI cZ m0 m1 m2 m3 m4 m5 m6 m7 m8 m9 m10 m11 m12 m13 mwo mth mrn mrm mln mat mfa mac mnx mse msd mki mof mpu mno_1002 mrw mrt mtx mro mso msf msc mik mkt) → va_S A s.heap H locs → lv_has ls 5 [(0, .ref m0), (1, .int v1), (2, .int v2), (3, .int v3_1002)] → l6_isRow_6 k v1 v2 mwo mth mki mof mpu n v3_1002 mno_1002 = some u → W p l e rm6_isRow s m ([.ref m0, .int v1, .int v2] : List Value).toArray below meth c H locs 0 0 (MQ below (QW G (some (.int u.1)) (wM cI cZ m0 m1 m2 m3 m4 m5 m6 m7 m8 m9 m10 m11 m12 m13 mwo mth mrn mrm mln mat mfa mac mnx mse msd mki mof mpu u.2 mrw mrt mtx mro mso msf msc mik mkt) A) ([.ref m0, .int v1, .int v2] : List Value).toArray s 0 0 A) (F0 m 6 ls []) := by
    intro k hex n
    induction n with
    | zero =>
      intro v3_1002 mno_1002 H locs ls hP hD hS hl hE
      exact absurd (show (none : Option (Int32 × (Nat → Int32))) = some u from hE) (fun h => by cases h)
    | succ n ih =>
      intro v3_1002 mno_1002 H locs ls hP hD hS hl hE
      rw [l6_isRow_6] at hE
      refine lv_iload_n X.1.1 X.1.2.1 dX6_isRow_6 rfl (lv_at hl 3 rfl) ?_
      refine lv_iload_n X.1.1 X.1.2.1 dX6_isRow_7 rfl (lv_at hl 1 rfl) ?_
      refine lv_icmp_ge (tgt := 67) X.1.1 X.1.2.1 dX6_isRow_8 (by decide) (fun c_8 => ?_) (fun c_8 => ?_)
      · have hE := ite_t hE c_8
        exact hex v3_1002 mno_1002 H locs ls hP hD hS (lv_sub hl [0, 1, 2, 3] rfl) hE
      · have hE := ite_f hE c_8
        refine lv_iload_n X.1.1 X.1.2.1 dX6_isRow_11 rfl (lv_at hl 2 rfl) ?_
        refine lv_iload_n X.1.1 X.1.2.1 dX6_isRow_12 rfl (lv_at hl 1 rfl) ?_
        refine lv_iconst (v := (iI 1)) X.1.1 X.1.2.1 dX6_isRow_13 rfl ?_
        refine lv_isub X.1.1 X.1.2.1 dX6_isRow_14 ?_
        refine lv_iload_n X.1.1 X.1.2.1 dX6_isRow_15 rfl (lv_at hl 3 rfl) ?_
        refine lv_isub X.1.1 X.1.2.1 dX6_isRow_16 ?_
        obtain ⟨u1003, e_u1003, hE⟩ := bd_some hE
        refine callRS (wsC := []) (As := [.int ((v1 - (iI 1)) - v3_1002)]) (rest := [.int v2]) (cI := cI) (cZ := cZ) X (c6_tenTo (l := l) (G := G) (cI := cI) (cZ := cZ) e_u1003) o6_tenTo tw794 ⟨rfl, rfl, Nat.le_of_ble_eq_true rfl, Nat.le_of_ble_eq_true rfl⟩ va_P_nil hK rfl hl rfl (Nat.le_of_ble_eq_true rfl) ⟨Nat.le_refl _, Nat.le_refl _⟩ dX6_isRow_17 ?_
        obtain ⟨g_20, hE⟩ := nz_some hE
        refine lv_idiv X.1.1 X.1.2.1 dX6_isRow_20 g_20 ?_
        refine lv_bipush (v := (iI 10)) X.1.1 X.1.2.1 dX6_isRow_21 (by decide) ?_
        refine r_irem X.1.1 X.1.2.1 dX6_isRow_23 (by decide) ?_
        refine lv_iconst (v := (iI 1)) X.1.1 X.1.2.1 dX6_isRow_24 rfl ?_
        refine lv_isub X.1.1 X.1.2.1 dX6_isRow_25 ?_
        refine lv_istore (lv' := [(4, .int ((rmI (v2 / u1003) (iI 10)) - (iI 1))), (0, .ref m0), (1, .int v1), (2, .int v2), (3, .int v3_1002)]) X.1.1 X.1.2.1 dX6_isRow_26 hl (by decide) rfl (fun ls hl => ?_)
        refine lv_aload_n X.1.1 X.1.2.1 dX6_isRow_28 rfl (lv_at hl 1 rfl) ?_
        refine lv_iload X.1.1 X.1.2.1 dX6_isRow_29 (lv_at hl 0 rfl) ?_
        obtain ⟨u1004, e_u1004, hE⟩ := bd_some hE
        refine callRV (wsC := (wM cI cZ m0 m1 m2 m3 m4 m5 m6 m7 m8 m9 m10 m11 m12 m13 mwo mth mrn mrm mln mat mfa mac mnx mse msd mki mof mpu mno_1002 mrw mrt mtx mro mso msf msc mik mkt)) (As := [.int ((rmI (v2 / u1003) (iI 10)) - (iI 1))]) (rest := []) (ci := 6) X (c6_isWord (l := l) e_u1004) o6_isWord tw690 ⟨rfl, rfl, Nat.le_of_ble_eq_true rfl, Nat.le_of_ble_eq_true rfl⟩ hP hK 0 rfl rfl rfl rfl hl rfl (by decide) ⟨Nat.le_refl _, Nat.le_refl _⟩ dX6_isRow_31 ?_
        refine lv_if_eq (tgt := 59) X.1.1 X.1.2.1 dX6_isRow_34 (by decide) (fun c_34 => ?_) (fun c_34 => ?_)
        · have hE := ite_t hE c_34
          refine lv_iconst (v := (iI 0)) X.1.1 X.1.2.1 dX6_isRow_59 rfl ?_
          cases hE
          exact retWZ X hP hS okB_0 dX6_isRow_60
        · have hE := ite_f hE c_34
          refine lv_aload_n X.1.1 X.1.2.1 dX6_isRow_37 rfl (lv_at hl 1 rfl) ?_
          refine lv_iconst (v := (iI 1)) X.1.1 X.1.2.1 dX6_isRow_38 rfl ?_
          refine lv_iload X.1.1 X.1.2.1 dX6_isRow_39 (lv_at hl 0 rfl) ?_
          obtain ⟨u1005, e_u1005, hE⟩ := bd_some hE
          refine callWF (ws := (wM cI cZ m0 m1 m2 m3 m4 m5 m6 m7 m8 m9 m10 m11 m12 m13 mwo mth mrn mrm mln mat mfa mac mnx mse msd mki mof mpu mno_1002 mrw mrt mtx mro mso msf msc mik mkt)) (ws' := (wM cI cZ m0 m1 m2 m3 m4 m5 m6 m7 m8 m9 m10 m11 m12 m13 mwo mth mrn mrm mln mat mfa mac mnx mse msd mki mof mpu u1005.2 mrw mrt mtx mro mso msf msc mik mkt)) (As := [.int (iI 1), .int ((rmI (v2 / u1003) (iI 10)) - (iI 1))]) (rest := []) (ov := (some (.int u1005.1))) (st1 := [.int u1005.1]) (ci := 6) X (c6_callOn (l := l) e_u1005) o6_callOn tw738 ⟨rfl, rfl, Nat.le_of_ble_eq_true rfl, Nat.le_of_ble_eq_true rfl⟩ hP hK hD hS hA (wM_fst.trans wM_fst.symm) 0 rfl rfl rfl rfl hl rfl (by decide) ⟨Nat.le_refl _, Nat.le_refl _⟩ rfl dX6_isRow_41 (fun H locs hP hD hS => ?_)
          refine lv_iload_n X.1.1 X.1.2.1 dX6_isRow_44 rfl (lv_at hl 4 rfl) ?_
          refine lv_iload_n X.1.1 X.1.2.1 dX6_isRow_45 rfl (lv_at hl 2 rfl) ?_
          refine lv_iconst (v := (iI 1)) X.1.1 X.1.2.1 dX6_isRow_46 rfl ?_
          refine lv_isub X.1.1 X.1.2.1 dX6_isRow_47 ?_
          refine lv_icmp_ne (tgt := 55) X.1.1 X.1.2.1 dX6_isRow_48 (by decide) (fun c_48 => ?_) (fun c_48 => ?_)
          · have hE := ite_f hE c_48
            refine lv_iconst (v := (iI 0)) X.1.1 X.1.2.1 dX6_isRow_55 rfl ?_
            refine lv_icmp_eq (tgt := 61) X.1.1 X.1.2.1 dX6_isRow_56 (by decide) (fun c_56 => ?_) (fun c_56 => ?_)
            · have hE := ite_t hE c_56
              refine lv_iinc (v := (v3_1002 + (iI 1))) (lv' := [(3, .int (v3_1002 + (iI 1))), (4, .int ((rmI (v2 / u1003) (iI 10)) - (iI 1))), (0, .ref m0), (1, .int v1), (2, .int v2)]) X.1.1 X.1.2.1 dX6_isRow_61 hl (k := 4) rfl rfl (by decide) rfl (fun ls hl => ?_)
              refine lv_goto (tgt := 6) X.1.1 X.1.2.1 dX6_isRow_64 (by decide) ?_
              exact ih (v3_1002 + (iI 1)) u1005.2 H locs ls hP hD hS (lv_sub hl [2, 3, 4, 0] rfl) hE
            · have hE := ite_f hE c_56
              refine lv_iconst (v := (iI 0)) X.1.1 X.1.2.1 dX6_isRow_59 rfl ?_
              cases hE
              exact retWZ X hP hS okB_0 dX6_isRow_60
          · have hE := ite_t hE c_48
            refine lv_iconst (v := (iI 1)) X.1.1 X.1.2.1 dX6_isRow_51 rfl ?_
            refine lv_goto (tgt := 56) X.1.1 X.1.2.1 dX6_isRow_52 (by decide) ?_
            refine lv_icmp_eq (tgt := 61) X.1.1 X.1.2.1 dX6_isRow_56 (by decide) (fun c_56 => ?_) (fun c_56 => ?_)
            · have hE := ite_t hE c_56
              refine lv_iinc (v := (v3_1002 + (iI 1))) (lv' := [(3, .int (v3_1002 + (iI 1))), (4, .int ((rmI (v2 / u1003) (iI 10)) - (iI 1))), (0, .ref m0), (1, .int v1), (2, .int v2)]) X.1.1 X.1.2.1 dX6_isRow_61 hl (k := 4) rfl rfl (by decide) rfl (fun ls hl => ?_)
              refine lv_goto (tgt := 6) X.1.1 X.1.2.1 dX6_isRow_64 (by decide) ?_
              exact ih (v3_1002 + (iI 1)) u1005.2 H locs ls hP hD hS (lv_sub hl [2, 3, 4, 0] rfl) hE
            · have hE := ite_f hE c_56
              refine lv_iconst (v := (iI 0)) X.1.1 X.1.2.1 dX6_isRow_59 rfl ?_
              cases hE
              exact retWZ X hP hS okB_0 dX6_isRow_60
  refine lp6 _ (fun v3_1002 mno_1002 H locs ls hP hD hS hl hE => ?_) FU (iI 0) u1001 _ _ ls hP hD hS (lv_sub hl [1, 2, 3, 0] rfl) hE
  refine lv_iconst (v := (iI 1)) X.1.1 X.1.2.1 dX6_isRow_67 rfl ?_
  cases hE
  exact retWZ X hP hS okB_1 dX6_isRow_68
theorem o6_fewest : oV yX6_fewest RX6 cX6_fewest 4 (some .int) 1 := ⟨tw793, tw791, tw792, tw45, ⟨by decide +kernel, by decide +kernel⟩, by decide +kernel⟩
abbrev rm6_fewest : Room := { frames := 5, cells := 0, slots := 0, locals := 122 }
set_option maxHeartbeats 4000000 in
set_option maxRecDepth 100000 in
theorem c6_fewest {l : Launch} {G : va_G} {cI cZ : ClassId} {m0 m1 m2 m3 m4 m5 m6 m7 m8 m9 m10 m11 m12 m13 : Nat} {mwo : Int32} {mth : Int32} {mrn : Int32} {mrm : Int32} {mln : Int32} {mat : Int32} {mfa : Int32} {mac : Int32} {mnx : Int32} {mse : Int32} {msd : Int64} {mki : Nat → Int32} {mof : Nat → Int32} {mpu : Nat → Int32} {mno : Nat → Int32} {mrw : Nat → Int32} {mrt : Nat → Int32} {mtx : Nat → Int32} {mro : Nat → Int32} {mso : Nat → Int32} {msf : Nat → Int32} {msc : Nat → Int32} {mik : Nat → Int32} {mkt : Nat → Int32} {v1 : Int32} {sz : Nat} {u : Int32 × (Nat → Int32)} (hE : f6_fewest v1 mwo mth mki mof mpu mno = some u) : Met l yX6_fewest (Cond.code yX6_fewest cX6_fewest 4 (some .int) :: TB) rm6_fewest (PcW G cI cZ (wM cI cZ m0 m1 m2 m3 m4 m5 m6 m7 m8 m9 m10 m11 m12 m13 mwo mth mrn mrm mln mat mfa mac mnx mse msd mki mof mpu mno mrw mrt mtx mro mso msf msc mik mkt) sz ([.ref m0, .int v1] : List Value)) (QW G (some (.int u.1)) (wM cI cZ m0 m1 m2 m3 m4 m5 m6 m7 m8 m9 m10 m11 m12 m13 mwo mth mrn mrm mln mat mfa mac mnx mse msd mki mof mpu u.2 mrw mrt mtx mro mso msf msc mik mkt) (va_A (wM cI cZ m0 m1 m2 m3 m4 m5 m6 m7 m8 m9 m10 m11 m12 m13 mwo mth mrn mrm mln mat mfa mac mnx mse msd mki mof mpu mno mrw mrt mtx mro mso msf msc mik mkt) sz)) 0 0 (va_A (wM cI cZ m0 m1 m2 m3 m4 m5 m6 m7 m8 m9 m10 m11 m12 m13 mwo mth mrn mrm mln mat mfa mac mnx mse msd mki mof mpu mno mrw mrt mtx mro mso msf msc mik mkt) sz) := by
  refine metW (own := RX6) (by decide +kernel) rfl (Nat.le_of_ble_eq_true rfl) ?_
  intro p e s m below meth c ls A X hA hP hK hD hl
  have hS : va_S A s.heap s.heap [] := va_S.rf
  have hl : lv_has ls 4 [(0, .ref m0), (1, .int v1)] := hl
  unfold f6_fewest at hE
  refine lv_iconst (v := (iI 1)) X.1.1 X.1.2.1 dX6_fewest_0 rfl ?_
  refine lv_istore_n (lv' := [(2, .int (iI 1)), (0, .ref m0), (1, .int v1)]) X.1.1 X.1.2.1 dX6_fewest_1 rfl hl (by decide) rfl (fun ls hl => ?_)
  have lp2 : ∀ (k : Int32 → (Nat → Int32) → Option (Int32 × (Nat → Int32))), (∀ (v2_1001 : Int32) (mno_1001 : Nat → Int32) (H : Heap) (locs : List Loc) (ls : Array Slot), va_P G vwCl (wM cI cZ m0 m1 m2 m3 m4 m5 m6 m7 m8 m9 m10 m11 m12 m13 mwo mth mrn mrm mln mat mfa mac mnx mse msd mki mof mpu mno_1001 mrw mrt mtx mro mso msf msc mik mkt) H → va_D A (wM cI cZ m0 m1 m2 m3 m4 m5 m6 m7 m8 m9 m10 m11 m12 m13 mwo mth mrn mrm mln mat mfa mac mnx mse msd mki mof mpu mno_1001 mrw mrt mtx mro mso msf msc mik mkt) → va_S A s.heap H locs → lv_has ls 4 [(0, .ref m0), (1, .int v1), (2, .int v2_1001)] → k v2_1001 mno_1001 = some u → W p l e rm6_fewest s m ([.ref m0, .int v1] : List Value).toArray below meth c H locs 0 0 (MQ below (QW G (some (.int u.1)) (wM cI cZ m0 m1 m2 m3 m4 m5 m6 m7 m8 m9 m10 m11 m12 m13 mwo mth mrn mrm mln mat mfa mac mnx mse msd mki mof mpu u.2 mrw mrt mtx mro mso msf msc mik mkt) A) ([.ref m0, .int v1] : List Value).toArray s 0 0 A) (F0 m 58 ls [])) → ∀ (n : Nat) (v2_1001 : Int32) (mno_1001 : Nat → Int32) (H : Heap) (locs : List Loc) (ls : Array Slot), va_P G vwCl (wM cI cZ m0 m1 m2 m3 m4 m5 m6 m7 m8 m9 m10 m11 m12 m13 mwo mth mrn mrm mln mat mfa mac mnx mse msd mki mof mpu mno_1001 mrw mrt mtx mro mso msf msc mik mkt) H → va_D A (wM cI cZ m0 m1 m2 m3 m4 m5 m6 m7 m8 m9 m10 m11 m12 m13 mwo mth mrn mrm mln mat mfa mac mnx mse msd mki mof mpu mno_1001 mrw mrt mtx mro mso msf msc mik mkt) → va_S A s.heap H locs → lv_has ls 4 [(0, .ref m0), (1, .int v1), (2, .int v2_1001)] → l6_fewest_2 k v1 mwo mth mki mof mpu n v2_1001 mno_1001 = some u → W p l e rm6_fewest s m ([.ref m0, .int v1] : List Value).toArray below meth c H locs 0 0 (MQ below (QW G (some (.int u.1)) (wM cI cZ m0 m1 m2 m3 m4 m5 m6 m7 m8 m9 m10 m11 m12 m13 mwo mth mrn mrm mln mat mfa mac mnx mse msd mki mof mpu u.2 mrw mrt mtx mro mso msf msc mik mkt) A) ([.ref m0, .int v1] : List Value).toArray s 0 0 A) (F0 m 2 ls []) := by
    intro k hex n
    induction n with
    | zero =>
      intro v2_1001 mno_1001 H locs ls hP hD hS hl hE
      exact absurd (show (none : Option (Int32 × (Nat → Int32))) = some u from hE) (fun h => by cases h)
    | succ n ih =>
      intro v2_1001 mno_1001 H locs ls hP hD hS hl hE
      rw [l6_fewest_2] at hE
      refine lv_iload_n X.1.1 X.1.2.1 dX6_fewest_2 rfl (lv_at hl 2 rfl) ?_
      refine lv_iconst (v := (iI 5)) X.1.1 X.1.2.1 dX6_fewest_3 rfl ?_
      refine lv_icmp_ge (tgt := 58) X.1.1 X.1.2.1 dX6_fewest_4 (by decide) (fun c_4 => ?_) (fun c_4 => ?_)
      · have hE := ite_t hE c_4
        exact hex v2_1001 mno_1001 H locs ls hP hD hS (lv_sub hl [0, 1, 2] rfl) hE
      · have hE := ite_f hE c_4
        refine lv_aload_n X.1.1 X.1.2.1 dX6_fewest_7 rfl (lv_at hl 0 rfl) ?_
        refine gf6_19 X hK hP 0 rfl rfl dX6_fewest_8 ?_
        refine lv_bipush (v := (iI 8)) X.1.1 X.1.2.1 dX6_fewest_11 (by decide) ?_
        refine va_iald X.1.1 X.1.2.1 hK hP 4 0 rfl rfl (vin (by decide)) dX6_fewest_13 ?_
        refine lv_if_ne (tgt := 58) X.1.1 X.1.2.1 dX6_fewest_14 (by decide) (fun c_14 => ?_) (fun c_14 => ?_)
        · have hE := ite_f hE c_14
          exact hex v2_1001 mno_1001 H locs ls hP hD hS (lv_sub hl [0, 1, 2] rfl) hE
        · have hE := ite_t hE c_14
          refine lv_iconst (v := (iI 0)) X.1.1 X.1.2.1 dX6_fewest_17 rfl ?_
          refine lv_istore_n (lv' := [(3, .int (iI 0)), (0, .ref m0), (1, .int v1), (2, .int v2_1001)]) X.1.1 X.1.2.1 dX6_fewest_18 rfl hl (by decide) rfl (fun ls hl => ?_)
          have lp19 : ∀ (k : Int32 → (Nat → Int32) → Option (Int32 × (Nat → Int32))), (∀ (v3_1002 : Int32) (mno_1002 : Nat → Int32) (H : Heap) (locs : List Loc) (ls : Array Slot), va_P G vwCl (wM cI cZ m0 m1 m2 m3 m4 m5 m6 m7 m8 m9 m10 m11 m12 m13 mwo mth mrn mrm mln mat mfa mac mnx mse msd mki mof mpu mno_1002 mrw mrt mtx mro mso msf msc mik mkt) H → va_D A (wM cI cZ m0 m1 m2 m3 m4 m5 m6 m7 m8 m9 m10 m11 m12 m13 mwo mth mrn mrm mln mat mfa mac mnx mse msd mki mof mpu mno_1002 mrw mrt mtx mro mso msf msc mik mkt) → va_S A s.heap H locs → lv_has ls 4 [(0, .ref m0), (1, .int v1), (2, .int v2_1001), (3, .int v3_1002)] → k v3_1002 mno_1002 = some u → W p l e rm6_fewest s m ([.ref m0, .int v1] : List Value).toArray below meth c H locs 0 0 (MQ below (QW G (some (.int u.1)) (wM cI cZ m0 m1 m2 m3 m4 m5 m6 m7 m8 m9 m10 m11 m12 m13 mwo mth mrn mrm mln mat mfa mac mnx mse msd mki mof mpu u.2 mrw mrt mtx mro mso msf msc mik mkt) A) ([.ref m0, .int v1] : List Value).toArray s 0 0 A) (F0 m 52 ls [])) → ∀ (n : Nat) (v3_1002 : Int32) (mno_1002 : Nat → Int32) (H : Heap) (locs : List Loc) (ls : Array Slot), va_P G vwCl (wM cI cZ m0 m1 m2 m3 m4 m5 m6 m7 m8 m9 m10 m11 m12 m13 mwo mth mrn mrm mln mat mfa mac mnx mse msd mki mof mpu mno_1002 mrw mrt mtx mro mso msf msc mik mkt) H → va_D A (wM cI cZ m0 m1 m2 m3 m4 m5 m6 m7 m8 m9 m10 m11 m12 m13 mwo mth mrn mrm mln mat mfa mac mnx mse msd mki mof mpu mno_1002 mrw mrt mtx mro mso msf msc mik mkt) → va_S A s.heap H locs → lv_has ls 4 [(0, .ref m0), (1, .int v1), (2, .int v2_1001), (3, .int v3_1002)] → l6_fewest_19 k v1 v2_1001 mwo mth mki mof mpu n v3_1002 mno_1002 = some u → W p l e rm6_fewest s m ([.ref m0, .int v1] : List Value).toArray below meth c H locs 0 0 (MQ below (QW G (some (.int u.1)) (wM cI cZ m0 m1 m2 m3 m4 m5 m6 m7 m8 m9 m10 m11 m12 m13 mwo mth mrn mrm mln mat mfa mac mnx mse msd mki mof mpu u.2 mrw mrt mtx mro mso msf msc mik mkt) A) ([.ref m0, .int v1] : List Value).toArray s 0 0 A) (F0 m 19 ls []) := by
            intro k hex n
            induction n with
            | zero =>
              intro v3_1002 mno_1002 H locs ls hP hD hS hl hE
              exact absurd (show (none : Option (Int32 × (Nat → Int32))) = some u from hE) (fun h => by cases h)
            | succ n ih =>
              intro v3_1002 mno_1002 H locs ls hP hD hS hl hE
              rw [l6_fewest_19] at hE
              refine lv_iload_n X.1.1 X.1.2.1 dX6_fewest_19 rfl (lv_at hl 3 rfl) ?_
              refine lv_iload_n X.1.1 X.1.2.1 dX6_fewest_20 rfl (lv_at hl 2 rfl) ?_
              obtain ⟨u1003, e_u1003, hE⟩ := bd_some hE
              refine callRS (wsC := []) (As := [.int v2_1001]) (rest := [.int v3_1002]) (cI := cI) (cZ := cZ) X (c6_tenTo (l := l) (G := G) (cI := cI) (cZ := cZ) e_u1003) o6_tenTo tw794 ⟨rfl, rfl, Nat.le_of_ble_eq_true rfl, Nat.le_of_ble_eq_true rfl⟩ va_P_nil hK rfl hl rfl (Nat.le_of_ble_eq_true rfl) ⟨Nat.le_refl _, Nat.le_refl _⟩ dX6_fewest_21 ?_
              refine lv_icmp_ge (tgt := 52) X.1.1 X.1.2.1 dX6_fewest_24 (by decide) (fun c_24 => ?_) (fun c_24 => ?_)
              · have hE := ite_t hE c_24
                exact hex v3_1002 mno_1002 H locs ls hP hD hS (lv_sub hl [0, 1, 2, 3] rfl) hE
              · have hE := ite_f hE c_24
                refine lv_aload_n X.1.1 X.1.2.1 dX6_fewest_27 rfl (lv_at hl 0 rfl) ?_
                refine lv_iload_n X.1.1 X.1.2.1 dX6_fewest_28 rfl (lv_at hl 2 rfl) ?_
                refine lv_iload_n X.1.1 X.1.2.1 dX6_fewest_29 rfl (lv_at hl 3 rfl) ?_
                obtain ⟨u1004, e_u1004, hE⟩ := bd_some hE
                refine callWF (ws := (wM cI cZ m0 m1 m2 m3 m4 m5 m6 m7 m8 m9 m10 m11 m12 m13 mwo mth mrn mrm mln mat mfa mac mnx mse msd mki mof mpu mno_1002 mrw mrt mtx mro mso msf msc mik mkt)) (ws' := (wM cI cZ m0 m1 m2 m3 m4 m5 m6 m7 m8 m9 m10 m11 m12 m13 mwo mth mrn mrm mln mat mfa mac mnx mse msd mki mof mpu u1004.2 mrw mrt mtx mro mso msf msc mik mkt)) (As := [.int v2_1001, .int v3_1002]) (rest := []) (ov := (some (.int u1004.1))) (st1 := [.int u1004.1]) (ci := 6) X (c6_isRow (l := l) e_u1004) o6_isRow tw797 ⟨rfl, rfl, Nat.le_of_ble_eq_true rfl, Nat.le_of_ble_eq_true rfl⟩ hP hK hD hS hA (wM_fst.trans wM_fst.symm) 0 rfl rfl rfl rfl hl rfl (by decide) ⟨Nat.le_refl _, Nat.le_refl _⟩ rfl dX6_fewest_30 (fun H locs hP hD hS => ?_)
                refine lv_if_eq (tgt := 46) X.1.1 X.1.2.1 dX6_fewest_33 (by decide) (fun c_33 => ?_) (fun c_33 => ?_)
                · have hE := ite_t hE c_33
                  refine lv_iinc (v := (v3_1002 + (iI 1))) (lv' := [(3, .int (v3_1002 + (iI 1))), (0, .ref m0), (1, .int v1), (2, .int v2_1001)]) X.1.1 X.1.2.1 dX6_fewest_46 hl (k := 3) rfl rfl (by decide) rfl (fun ls hl => ?_)
                  refine lv_goto (tgt := 19) X.1.1 X.1.2.1 dX6_fewest_49 (by decide) ?_
                  exact ih (v3_1002 + (iI 1)) u1004.2 H locs ls hP hD hS (lv_sub hl [1, 2, 3, 0] rfl) hE
                · have hE := ite_f hE c_33
                  refine lv_iload_n X.1.1 X.1.2.1 dX6_fewest_36 rfl (lv_at hl 1 rfl) ?_
                  refine lv_if_eq (tgt := 44) X.1.1 X.1.2.1 dX6_fewest_37 (by decide) (fun c_37 => ?_) (fun c_37 => ?_)
                  · have hE := ite_t hE c_37
                    refine lv_iload_n X.1.1 X.1.2.1 dX6_fewest_44 rfl (lv_at hl 2 rfl) ?_
                    cases hE
                    exact retW X hP hS dX6_fewest_45
                  · have hE := ite_f hE c_37
                    refine lv_iload_n X.1.1 X.1.2.1 dX6_fewest_40 rfl (lv_at hl 3 rfl) ?_
                    refine lv_goto (tgt := 45) X.1.1 X.1.2.1 dX6_fewest_41 (by decide) ?_
                    cases hE
                    exact retW X hP hS dX6_fewest_45
          refine lp19 _ (fun v3_1002 mno_1002 H locs ls hP hD hS hl hE => ?_) FU (iI 0) mno_1001 _ _ ls hP hD hS (lv_sub hl [1, 2, 3, 0] rfl) hE
          refine lv_iinc (v := (v2_1001 + (iI 1))) (lv' := [(2, .int (v2_1001 + (iI 1))), (0, .ref m0), (1, .int v1), (3, .int v3_1002)]) X.1.1 X.1.2.1 dX6_fewest_52 hl (k := 2) rfl rfl (by decide) rfl (fun ls hl => ?_)
          refine lv_goto (tgt := 2) X.1.1 X.1.2.1 dX6_fewest_55 (by decide) ?_
          exact ih (v2_1001 + (iI 1)) mno_1002 H locs ls hP hD hS (lv_sub hl [1, 2, 0] rfl) hE
  refine lp2 _ (fun v2_1001 mno_1001 H locs ls hP hD hS hl hE => ?_) FU (iI 1) mno _ _ ls hP hD hS (lv_sub hl [1, 2, 0] rfl) hE
  refine lv_bipush (v := (iI (-9))) X.1.1 X.1.2.1 dX6_fewest_58 (by decide) ?_
  cases hE
  exact retW X hP hS dX6_fewest_60
theorem o6_good : oV yX6_good RX6 cX6_good 4 (some .int) 2 := ⟨tw808, tw806, tw807, tw45, ⟨by decide +kernel, by decide +kernel⟩, by decide +kernel⟩
abbrev rm6_good : Room := { frames := 3, cells := 0, slots := 0, locals := 71 }
set_option maxHeartbeats 4000000 in
set_option maxRecDepth 100000 in
theorem c6_good {l : Launch} {G : va_G} {cI cZ : ClassId} {m0 m1 m2 m3 m4 m5 m6 m7 m8 m9 m10 m11 m12 m13 : Nat} {mwo : Int32} {mth : Int32} {mrn : Int32} {mrm : Int32} {mln : Int32} {mat : Int32} {mfa : Int32} {mac : Int32} {mnx : Int32} {mse : Int32} {msd : Int64} {mki : Nat → Int32} {mof : Nat → Int32} {mpu : Nat → Int32} {mno : Nat → Int32} {mrw : Nat → Int32} {mrt : Nat → Int32} {mtx : Nat → Int32} {mro : Nat → Int32} {mso : Nat → Int32} {msf : Nat → Int32} {msc : Nat → Int32} {mik : Nat → Int32} {mkt : Nat → Int32} {v1 : Int32} {v2 : Int32} {u : Int32} (hE : f6_good v1 v2 mwo mth mki mof mpu mno = some u) : Met l yX6_good (Cond.code yX6_good cX6_good 4 (some .int) :: TB) rm6_good (PcR G cI cZ (wM cI cZ m0 m1 m2 m3 m4 m5 m6 m7 m8 m9 m10 m11 m12 m13 mwo mth mrn mrm mln mat mfa mac mnx mse msd mki mof mpu mno mrw mrt mtx mro mso msf msc mik mkt) ([.ref m0, .int v1, .int v2] : List Value)) (QcRead u) 0 0 (fun _ => False) := by
  refine metR (own := RX6) (by decide +kernel) rfl (Nat.le_of_ble_eq_true rfl) ?_
  intro p e s m below meth c ls X hP hK hl
  have hl : lv_has ls 4 [(0, .ref m0), (1, .int v1), (2, .int v2)] := hl
  unfold f6_good at hE
  refine lv_aload_n X.1.1 X.1.2.1 dX6_good_0 rfl (lv_at hl 0 rfl) ?_
  refine lv_iload_n X.1.1 X.1.2.1 dX6_good_1 rfl (lv_at hl 1 rfl) ?_
  obtain ⟨u1001, e_u1001, hE⟩ := bd_some hE
  refine callRV (wsC := (wM cI cZ m0 m1 m2 m3 m4 m5 m6 m7 m8 m9 m10 m11 m12 m13 mwo mth mrn mrm mln mat mfa mac mnx mse msd mki mof mpu mno mrw mrt mtx mro mso msf msc mik mkt)) (As := [.int v1]) (rest := []) (ci := 6) X (c6_isWord (l := l) e_u1001) o6_isWord tw690 ⟨rfl, rfl, Nat.le_of_ble_eq_true rfl, Nat.le_of_ble_eq_true rfl⟩ hP hK 0 rfl rfl rfl rfl hl rfl (by decide) ⟨Nat.le_refl _, Nat.le_refl _⟩ dX6_good_2 ?_
  refine lv_if_ne (tgt := 10) X.1.1 X.1.2.1 dX6_good_5 (by decide) (fun c_5 => ?_) (fun c_5 => ?_)
  · have hE := ite_f hE c_5
    refine lv_iload_n X.1.1 X.1.2.1 dX6_good_10 rfl (lv_at hl 2 rfl) ?_
    refine lv_i2l (v := v2.toInt64) X.1.1 X.1.2.1 dX6_good_11 rfl ?_
    refine lv_lconst (v := (Int64.ofNat 0)) X.1.1 X.1.2.1 dX6_good_12 rfl ?_
    refine lv_ldc2 X.1.1 X.1.2.1 X.1.2.2.2.1 (X.1.2.2.2.2 _ tw729) dX6_good_13 ?_
    obtain ⟨u1002, e_u1002, hE⟩ := bd_some hE
    refine callRS (wsC := []) (As := [.long (v2.toInt64), .long (Int64.ofNat 0), .long (9 : Int64)]) (rest := []) (cI := cI) (cZ := cZ) X (c6_in (l := l) (G := G) (cI := cI) (cZ := cZ) e_u1002) o6_in tw663 ⟨rfl, rfl, Nat.le_of_ble_eq_true rfl, Nat.le_of_ble_eq_true rfl⟩ va_P_nil hK rfl hl rfl (by decide) ⟨Nat.le_refl _, Nat.le_refl _⟩ dX6_good_16 ?_
    refine lv_if_ne (tgt := 25) X.1.1 X.1.2.1 dX6_good_19 (by decide) (fun c_19 => ?_) (fun c_19 => ?_)
    · have hE := ite_f hE c_19
      refine lv_iconst (v := (iI 0)) X.1.1 X.1.2.1 dX6_good_25 rfl ?_
      refine lv_istore_n (lv' := [(3, .int (iI 0)), (0, .ref m0), (1, .int v1), (2, .int v2)]) X.1.1 X.1.2.1 dX6_good_26 rfl hl (by decide) rfl (fun ls hl => ?_)
      have lp27 : ∀ (k : Int32 → Option Int32), (∀ (v3_1003 : Int32) (ls : Array Slot), lv_has ls 4 [(0, .ref m0), (1, .int v1), (2, .int v2), (3, .int v3_1003)] → k v3_1003 = some u → W p l e rm6_good s m ([.ref m0, .int v1, .int v2] : List Value).toArray below meth c s.heap [] 0 0 (MQ below (QcRead u) ([.ref m0, .int v1, .int v2] : List Value).toArray s 0 0 (fun _ => False)) (F0 m 67 ls [])) → ∀ (n : Nat) (v3_1003 : Int32) (ls : Array Slot), lv_has ls 4 [(0, .ref m0), (1, .int v1), (2, .int v2), (3, .int v3_1003)] → l6_good_27 k v1 v2 mth mki mof mpu mno n v3_1003 = some u → W p l e rm6_good s m ([.ref m0, .int v1, .int v2] : List Value).toArray below meth c s.heap [] 0 0 (MQ below (QcRead u) ([.ref m0, .int v1, .int v2] : List Value).toArray s 0 0 (fun _ => False)) (F0 m 27 ls []) := by
        intro k hex n
        induction n with
        | zero =>
          intro v3_1003 ls hl hE
          exact absurd (show (none : Option Int32) = some u from hE) (fun h => by cases h)
        | succ n ih =>
          intro v3_1003 ls hl hE
          rw [l6_good_27] at hE
          refine lv_aload_n X.1.1 X.1.2.1 dX6_good_27 rfl (lv_at hl 0 rfl) ?_
          refine gf6_19 X hK hP 0 rfl rfl dX6_good_28 ?_
          refine lv_iload_n X.1.1 X.1.2.1 dX6_good_31 rfl (lv_at hl 1 rfl) ?_
          obtain ⟨i_32, hE⟩ := ib_some hE
          refine va_iald X.1.1 X.1.2.1 hK hP 4 0 rfl rfl i_32 dX6_good_32 ?_
          refine lv_iload_n X.1.1 X.1.2.1 dX6_good_33 rfl (lv_at hl 3 rfl) ?_
          refine lv_iadd X.1.1 X.1.2.1 dX6_good_34 ?_
          refine lv_bipush (v := (iI 9)) X.1.1 X.1.2.1 dX6_good_35 (by decide) ?_
          refine lv_icmp_gt (tgt := 67) X.1.1 X.1.2.1 dX6_good_37 (by decide) (fun c_37 => ?_) (fun c_37 => ?_)
          · have hE := ite_t hE c_37
            exact hex v3_1003 ls (lv_sub hl [0, 1, 2, 3] rfl) hE
          · have hE := ite_f hE c_37
            refine lv_aload_n X.1.1 X.1.2.1 dX6_good_40 rfl (lv_at hl 0 rfl) ?_
            refine lv_aload_n X.1.1 X.1.2.1 dX6_good_41 rfl (lv_at hl 0 rfl) ?_
            refine gf6_19 X hK hP 0 rfl rfl dX6_good_42 ?_
            refine lv_iload_n X.1.1 X.1.2.1 dX6_good_45 rfl (lv_at hl 1 rfl) ?_
            obtain ⟨i_46, hE⟩ := ib_some hE
            refine va_iald X.1.1 X.1.2.1 hK hP 4 0 rfl rfl i_46 dX6_good_46 ?_
            refine lv_iload_n X.1.1 X.1.2.1 dX6_good_47 rfl (lv_at hl 3 rfl) ?_
            refine lv_iadd X.1.1 X.1.2.1 dX6_good_48 ?_
            refine lv_iload_n X.1.1 X.1.2.1 dX6_good_49 rfl (lv_at hl 1 rfl) ?_
            refine lv_iload_n X.1.1 X.1.2.1 dX6_good_50 rfl (lv_at hl 2 rfl) ?_
            refine lv_bipush (v := (iI 15)) X.1.1 X.1.2.1 dX6_good_51 (by decide) ?_
            obtain ⟨u1004, e_u1004, hE⟩ := bd_some hE
            refine callRV (wsC := (wM cI cZ m0 m1 m2 m3 m4 m5 m6 m7 m8 m9 m10 m11 m12 m13 mwo mth mrn mrm mln mat mfa mac mnx mse msd mki mof mpu mno mrw mrt mtx mro mso msf msc mik mkt)) (As := [.int ((mno v1.toNatClampNeg) + v3_1003), .int v1, .int v2, .int (iI 15)]) (rest := []) (ci := 6) X (c6_comesBy (l := l) e_u1004) o6_comesBy tw702 ⟨rfl, rfl, Nat.le_of_ble_eq_true rfl, Nat.le_of_ble_eq_true rfl⟩ hP hK 0 rfl rfl rfl rfl hl rfl (by decide) ⟨Nat.le_refl _, Nat.le_refl _⟩ dX6_good_53 ?_
            refine lv_if_eq (tgt := 61) X.1.1 X.1.2.1 dX6_good_56 (by decide) (fun c_56 => ?_) (fun c_56 => ?_)
            · have hE := ite_t hE c_56
              refine lv_iinc (v := (v3_1003 + (iI 1))) (lv' := [(3, .int (v3_1003 + (iI 1))), (0, .ref m0), (1, .int v1), (2, .int v2)]) X.1.1 X.1.2.1 dX6_good_61 hl (k := 3) rfl rfl (by decide) rfl (fun ls hl => ?_)
              refine lv_goto (tgt := 27) X.1.1 X.1.2.1 dX6_good_64 (by decide) ?_
              exact ih (v3_1003 + (iI 1)) ls (lv_sub hl [1, 2, 3, 0] rfl) hE
            · have hE := ite_f hE c_56
              refine lv_iload_n X.1.1 X.1.2.1 dX6_good_59 rfl (lv_at hl 3 rfl) ?_
              cases hE
              exact retR X dX6_good_60
      refine lp27 _ (fun v3_1003 ls hl hE => ?_) FU (iI 0) ls (lv_sub hl [1, 2, 3, 0] rfl) hE
      refine lv_bipush (v := (iI (-9))) X.1.1 X.1.2.1 dX6_good_67 (by decide) ?_
      cases hE
      exact retR X dX6_good_69
    · have hE := ite_t hE c_19
      refine lv_bipush (v := (iI (-2))) X.1.1 X.1.2.1 dX6_good_22 (by decide) ?_
      cases hE
      exact retR X dX6_good_24
  · have hE := ite_t hE c_5
    refine lv_iconst (v := (iI (-1))) X.1.1 X.1.2.1 dX6_good_8 rfl ?_
    cases hE
    exact retR X dX6_good_9
theorem o6_tryThing : oV yX6_tryThing RX6 cX6_tryThing 5 (some .boolean) 1 := ⟨tw817, tw816, tw34, tw45, ⟨by decide +kernel, by decide +kernel⟩, by decide +kernel⟩
abbrev rm6_tryThing : Room := { frames := 4, cells := 0, slots := 0, locals := 98 }
set_option maxHeartbeats 4000000 in
set_option maxRecDepth 100000 in
theorem c6_tryThing {l : Launch} {G : va_G} {cI cZ : ClassId} {m0 m1 m2 m3 m4 m5 m6 m7 m8 m9 m10 m11 m12 m13 : Nat} {mwo : Int32} {mth : Int32} {mrn : Int32} {mrm : Int32} {mln : Int32} {mat : Int32} {mfa : Int32} {mac : Int32} {mnx : Int32} {mse : Int32} {msd : Int64} {mki : Nat → Int32} {mof : Nat → Int32} {mpu : Nat → Int32} {mno : Nat → Int32} {mrw : Nat → Int32} {mrt : Nat → Int32} {mtx : Nat → Int32} {mro : Nat → Int32} {mso : Nat → Int32} {msf : Nat → Int32} {msc : Nat → Int32} {mik : Nat → Int32} {mkt : Nat → Int32} {v1 : Int32} {sz : Nat} {u : Int32 × (Nat → Int32)} (hE : f6_tryThing v1 mwo mth mki mof mpu mno = some u) : Met l yX6_tryThing (Cond.code yX6_tryThing cX6_tryThing 5 (some .boolean) :: TB) rm6_tryThing (PcW G cI cZ (wM cI cZ m0 m1 m2 m3 m4 m5 m6 m7 m8 m9 m10 m11 m12 m13 mwo mth mrn mrm mln mat mfa mac mnx mse msd mki mof mpu mno mrw mrt mtx mro mso msf msc mik mkt) sz ([.ref m0, .int v1] : List Value)) (QW G (some (.int u.1)) (wM cI cZ m0 m1 m2 m3 m4 m5 m6 m7 m8 m9 m10 m11 m12 m13 mwo mth mrn mrm mln mat mfa mac mnx mse msd mki mof mpu u.2 mrw mrt mtx mro mso msf msc mik mkt) (va_A (wM cI cZ m0 m1 m2 m3 m4 m5 m6 m7 m8 m9 m10 m11 m12 m13 mwo mth mrn mrm mln mat mfa mac mnx mse msd mki mof mpu mno mrw mrt mtx mro mso msf msc mik mkt) sz)) 0 0 (va_A (wM cI cZ m0 m1 m2 m3 m4 m5 m6 m7 m8 m9 m10 m11 m12 m13 mwo mth mrn mrm mln mat mfa mac mnx mse msd mki mof mpu mno mrw mrt mtx mro mso msf msc mik mkt) sz) := by
  refine metW (own := RX6) (by decide +kernel) rfl (Nat.le_of_ble_eq_true rfl) ?_
  intro p e s m below meth c ls A X hA hP hK hD hl
  have hS : va_S A s.heap s.heap [] := va_S.rf
  have hl : lv_has ls 5 [(0, .ref m0), (1, .int v1)] := hl
  unfold f6_tryThing at hE
  refine lv_aload_n X.1.1 X.1.2.1 dX6_tryThing_0 rfl (lv_at hl 0 rfl) ?_
  refine gf6_19 X hK hP 0 rfl rfl dX6_tryThing_1 ?_
  refine lv_bipush (v := (iI 18)) X.1.1 X.1.2.1 dX6_tryThing_4 (by decide) ?_
  refine va_iald X.1.1 X.1.2.1 hK hP 4 0 rfl rfl (vin (by decide)) dX6_tryThing_6 ?_
  refine lv_if_ne (tgt := 14) X.1.1 X.1.2.1 dX6_tryThing_7 (by decide) (fun c_7 => ?_) (fun c_7 => ?_)
  · have hE := ite_f hE c_7
    refine lv_iconst (v := (iI 0)) X.1.1 X.1.2.1 dX6_tryThing_14 rfl ?_
    refine lv_istore_n (lv' := [(2, .int (iI 0)), (0, .ref m0), (1, .int v1)]) X.1.1 X.1.2.1 dX6_tryThing_15 rfl hl (by decide) rfl (fun ls hl => ?_)
    refine lv_iload_n X.1.1 X.1.2.1 dX6_tryThing_16 rfl (lv_at hl 2 rfl) ?_
    by_cases s_17_0 : v1 = (iI 0)
    · have hE := ite_t hE s_17_0
      refine tbIn (k := 0) (off := 51) (tgt := 68) X dX6_tryThing_17 s_17_0 (by decide) (by decide) (by decide) rfl (by decide) ?_
      refine lv_iconst (v := (iI 1)) X.1.1 X.1.2.1 dX6_tryThing_68 rfl ?_
      cases hE
      exact retWZ X hP hS okB_1 dX6_tryThing_69
    · have hE := ite_f hE s_17_0
      by_cases s_17_5 : v1 = (iI 5)
      · have hE := ite_t hE s_17_5
        refine tbIn (k := 5) (off := 53) (tgt := 70) X dX6_tryThing_17 s_17_5 (by decide) (by decide) (by decide) rfl (by decide) ?_
        refine lv_aload_n X.1.1 X.1.2.1 dX6_tryThing_70 rfl (lv_at hl 1 rfl) ?_
        refine lv_iconst (v := (iI 1)) X.1.1 X.1.2.1 dX6_tryThing_71 rfl ?_
        obtain ⟨u1001, e_u1001, hE⟩ := bd_some hE
        refine callRV (wsC := (wM cI cZ m0 m1 m2 m3 m4 m5 m6 m7 m8 m9 m10 m11 m12 m13 mwo mth mrn mrm mln mat mfa mac mnx mse msd mki mof mpu mno mrw mrt mtx mro mso msf msc mik mkt)) (As := [.int (iI 1)]) (rest := []) (ci := 6) X (c6_canPay (l := l) e_u1001) o6_canPay tw746 ⟨rfl, rfl, Nat.le_of_ble_eq_true rfl, Nat.le_of_ble_eq_true rfl⟩ hP hK 0 rfl rfl rfl rfl hl rfl (by decide) ⟨Nat.le_refl _, Nat.le_refl _⟩ dX6_tryThing_72 ?_
        refine lv_istore_n (lv' := [(3, .int u1001), (2, .int (iI 0)), (0, .ref m0), (1, .int v1)]) X.1.1 X.1.2.1 dX6_tryThing_75 rfl hl (by decide) rfl (fun ls hl => ?_)
        refine lv_iload_n X.1.1 X.1.2.1 dX6_tryThing_76 rfl (lv_at hl 0 rfl) ?_
        refine lv_if_eq (tgt := 86) X.1.1 X.1.2.1 dX6_tryThing_77 (by decide) (fun c_77 => ?_) (fun c_77 => ?_)
        · have hE := ite_t hE c_77
          refine lv_iload_n X.1.1 X.1.2.1 dX6_tryThing_86 rfl (lv_at hl 0 rfl) ?_
          obtain ⟨z_r, hE⟩ := okB_some hE
          cases hE
          exact retWZ X hP hS z_r dX6_tryThing_87
        · have hE := ite_f hE c_77
          refine lv_aload_n X.1.1 X.1.2.1 dX6_tryThing_80 rfl (lv_at hl 2 rfl) ?_
          refine lv_iconst (v := (iI 1)) X.1.1 X.1.2.1 dX6_tryThing_81 rfl ?_
          obtain ⟨u1002, e_u1002, hE⟩ := bd_some hE
          refine callWF (ws := (wM cI cZ m0 m1 m2 m3 m4 m5 m6 m7 m8 m9 m10 m11 m12 m13 mwo mth mrn mrm mln mat mfa mac mnx mse msd mki mof mpu mno mrw mrt mtx mro mso msf msc mik mkt)) (ws' := (wM cI cZ m0 m1 m2 m3 m4 m5 m6 m7 m8 m9 m10 m11 m12 m13 mwo mth mrn mrm mln mat mfa mac mnx mse msd mki mof mpu u1002.2 mrw mrt mtx mro mso msf msc mik mkt)) (As := [.int (iI 1)]) (rest := []) (ov := (some (.int u1002.1))) (st1 := [.int u1002.1]) (ci := 6) X (c6_payOn (l := l) e_u1002) o6_payOn tw750 ⟨rfl, rfl, Nat.le_of_ble_eq_true rfl, Nat.le_of_ble_eq_true rfl⟩ hP hK hD hS hA (wM_fst.trans wM_fst.symm) 0 rfl rfl rfl rfl hl rfl (by decide) ⟨Nat.le_refl _, Nat.le_refl _⟩ rfl dX6_tryThing_82 (fun H locs hP hD hS => ?_)
          refine lv_pop X.1.1 X.1.2.1 dX6_tryThing_85 rfl ?_
          refine lv_iload_n X.1.1 X.1.2.1 dX6_tryThing_86 rfl (lv_at hl 0 rfl) ?_
          obtain ⟨z_r, hE⟩ := okB_some hE
          cases hE
          exact retWZ X hP hS z_r dX6_tryThing_87
      · have hE := ite_f hE s_17_5
        by_cases s_17_6 : v1 = (iI 6)
        · have hE := ite_t hE s_17_6
          refine tbIn (k := 6) (off := 71) (tgt := 88) X dX6_tryThing_17 s_17_6 (by decide) (by decide) (by decide) rfl (by decide) ?_
          refine lv_aload_n X.1.1 X.1.2.1 dX6_tryThing_88 rfl (lv_at hl 1 rfl) ?_
          refine lv_iconst (v := (iI 1)) X.1.1 X.1.2.1 dX6_tryThing_89 rfl ?_
          refine lv_iload_n X.1.1 X.1.2.1 dX6_tryThing_90 rfl (lv_at hl 0 rfl) ?_
          refine lv_if_eq (tgt := 98) X.1.1 X.1.2.1 dX6_tryThing_91 (by decide) (fun _ => ?_) (fun c_ => False.elim (by revert c_; decide))
          refine lv_iconst (v := (iI 0)) X.1.1 X.1.2.1 dX6_tryThing_98 rfl ?_
          obtain ⟨u1003, e_u1003, hE⟩ := bd_some hE
          refine callWF (ws := (wM cI cZ m0 m1 m2 m3 m4 m5 m6 m7 m8 m9 m10 m11 m12 m13 mwo mth mrn mrm mln mat mfa mac mnx mse msd mki mof mpu mno mrw mrt mtx mro mso msf msc mik mkt)) (ws' := (wM cI cZ m0 m1 m2 m3 m4 m5 m6 m7 m8 m9 m10 m11 m12 m13 mwo mth mrn mrm mln mat mfa mac mnx mse msd mki mof mpu u1003 mrw mrt mtx mro mso msf msc mik mkt)) (As := [.int (iI 1), .int (iI 0)]) (rest := []) (ov := none) (st1 := []) (ci := 6) X (c6_runOn (l := l) e_u1003) o6_runOn tw758 ⟨rfl, rfl, Nat.le_of_ble_eq_true rfl, Nat.le_of_ble_eq_true rfl⟩ hP hK hD hS hA (wM_fst.trans wM_fst.symm) 0 rfl rfl rfl rfl hl rfl (by decide) ⟨Nat.le_refl _, Nat.le_refl _⟩ rfl dX6_tryThing_99 (fun H locs hP hD hS => ?_)
          refine lv_iload_n X.1.1 X.1.2.1 dX6_tryThing_102 rfl (lv_at hl 0 rfl) ?_
          cases hE
          exact retWZ X hP hS okB_0 dX6_tryThing_103
        · have hE := ite_f hE s_17_6
          by_cases s_17_7 : v1 = (iI 7)
          · have hE := ite_t hE s_17_7
            refine tbIn (k := 7) (off := 87) (tgt := 104) X dX6_tryThing_17 s_17_7 (by decide) (by decide) (by decide) rfl (by decide) ?_
            refine lv_aload_n X.1.1 X.1.2.1 dX6_tryThing_104 rfl (lv_at hl 1 rfl) ?_
            refine lv_iconst (v := (iI 1)) X.1.1 X.1.2.1 dX6_tryThing_105 rfl ?_
            obtain ⟨u1004, e_u1004, hE⟩ := bd_some hE
            refine callRV (wsC := (wM cI cZ m0 m1 m2 m3 m4 m5 m6 m7 m8 m9 m10 m11 m12 m13 mwo mth mrn mrm mln mat mfa mac mnx mse msd mki mof mpu mno mrw mrt mtx mro mso msf msc mik mkt)) (As := [.int (iI 1)]) (rest := []) (ci := 6) X (c6_canLead (l := l) e_u1004) o6_canLead tw766 ⟨rfl, rfl, Nat.le_of_ble_eq_true rfl, Nat.le_of_ble_eq_true rfl⟩ hP hK 0 rfl rfl rfl rfl hl rfl (by decide) ⟨Nat.le_refl _, Nat.le_refl _⟩ dX6_tryThing_106 ?_
            refine lv_istore (lv' := [(4, .int u1004), (2, .int (iI 0)), (0, .ref m0), (1, .int v1)]) X.1.1 X.1.2.1 dX6_tryThing_109 hl (by decide) rfl (fun ls hl => ?_)
            refine lv_iload X.1.1 X.1.2.1 dX6_tryThing_111 (lv_at hl 0 rfl) ?_
            refine lv_if_eq (tgt := 121) X.1.1 X.1.2.1 dX6_tryThing_113 (by decide) (fun c_113 => ?_) (fun c_113 => ?_)
            · have hE := ite_t hE c_113
              refine lv_iload X.1.1 X.1.2.1 dX6_tryThing_121 (lv_at hl 0 rfl) ?_
              obtain ⟨z_r, hE⟩ := okB_some hE
              cases hE
              exact retWZ X hP hS z_r dX6_tryThing_123
            · have hE := ite_f hE c_113
              refine lv_aload_n X.1.1 X.1.2.1 dX6_tryThing_116 rfl (lv_at hl 2 rfl) ?_
              refine lv_iconst (v := (iI 1)) X.1.1 X.1.2.1 dX6_tryThing_117 rfl ?_
              obtain ⟨u1005, e_u1005, hE⟩ := bd_some hE
              refine callWF (ws := (wM cI cZ m0 m1 m2 m3 m4 m5 m6 m7 m8 m9 m10 m11 m12 m13 mwo mth mrn mrm mln mat mfa mac mnx mse msd mki mof mpu mno mrw mrt mtx mro mso msf msc mik mkt)) (ws' := (wM cI cZ m0 m1 m2 m3 m4 m5 m6 m7 m8 m9 m10 m11 m12 m13 mwo mth mrn mrm mln mat mfa mac mnx mse msd mki mof mpu u1005 mrw mrt mtx mro mso msf msc mik mkt)) (As := [.int (iI 1)]) (rest := []) (ov := none) (st1 := []) (ci := 6) X (c6_leadOn (l := l) e_u1005) o6_leadOn tw770 ⟨rfl, rfl, Nat.le_of_ble_eq_true rfl, Nat.le_of_ble_eq_true rfl⟩ hP hK hD hS hA (wM_fst.trans wM_fst.symm) 0 rfl rfl rfl rfl hl rfl (by decide) ⟨Nat.le_refl _, Nat.le_refl _⟩ rfl dX6_tryThing_118 (fun H locs hP hD hS => ?_)
              refine lv_iload X.1.1 X.1.2.1 dX6_tryThing_121 (lv_at hl 0 rfl) ?_
              obtain ⟨z_r, hE⟩ := okB_some hE
              cases hE
              exact retWZ X hP hS z_r dX6_tryThing_123
          · have hE := ite_f hE s_17_7
            by_cases s_17_8 : v1 = (iI 8)
            · have hE := ite_t hE s_17_8
              refine tbIn (k := 8) (off := 107) (tgt := 124) X dX6_tryThing_17 s_17_8 (by decide) (by decide) (by decide) rfl (by decide) ?_
              refine lv_aload_n X.1.1 X.1.2.1 dX6_tryThing_124 rfl (lv_at hl 1 rfl) ?_
              refine gf6_19 X hK hP 0 rfl rfl dX6_tryThing_125 ?_
              refine lv_bipush (v := (iI 17)) X.1.1 X.1.2.1 dX6_tryThing_128 (by decide) ?_
              refine lv_iconst (v := (iI 1)) X.1.1 X.1.2.1 dX6_tryThing_130 rfl ?_
              refine lv_aload_n X.1.1 X.1.2.1 dX6_tryThing_131 rfl (lv_at hl 1 rfl) ?_
              refine gf6_19 X hK hP 0 rfl rfl dX6_tryThing_132 ?_
              refine lv_bipush (v := (iI 17)) X.1.1 X.1.2.1 dX6_tryThing_135 (by decide) ?_
              refine va_iald X.1.1 X.1.2.1 hK hP 4 0 rfl rfl (vin (by decide)) dX6_tryThing_137 ?_
              refine lv_isub X.1.1 X.1.2.1 dX6_tryThing_138 ?_
              refine astI (t0 := 0) (ws' := (wM cI cZ m0 m1 m2 m3 m4 m5 m6 m7 m8 m9 m10 m11 m12 m13 mwo mth mrn mrm mln mat mfa mac mnx mse msd mki mof mpu (upd mno (iI 17).toNatClampNeg ((iI 1) - (mno (iI 17).toNatClampNeg))) mrw mrt mtx mro mso msf msc mik mkt)) X hK hP hD hS 4 0 rfl rfl (vin (by decide)) rfl dX6_tryThing_139 (fun H locs hP hD hS => ?_)
              refine lv_iconst (v := (iI 1)) X.1.1 X.1.2.1 dX6_tryThing_140 rfl ?_
              cases hE
              exact retWZ X hP hS okB_1 dX6_tryThing_141
            · have hE := ite_f hE s_17_8
              have ns_17_0 := sw_ne s_17_0 (by decide) (by decide)
              have ns_17_5 := sw_ne s_17_5 (by decide) (by decide)
              have ns_17_6 := sw_ne s_17_6 (by decide) (by decide)
              have ns_17_7 := sw_ne s_17_7 (by decide) (by decide)
              have ns_17_8 := sw_ne s_17_8 (by decide) (by decide)
              have hh_ : (v1 : Int32).toInt < 0 ∨ 8 < (v1 : Int32).toInt ∨ (v1 : Int32).toInt = 1 ∨ (v1 : Int32).toInt = 2 ∨ (v1 : Int32).toInt = 3 ∨ (v1 : Int32).toInt = 4 := by omega
              refine tbDf (tgt := 142) X dX6_tryThing_17 (by rcases hh_ with h_ | h_ | h_ | h_ | h_ | h_; exact Or.inl h_; exact Or.inr (Or.inl h_); exact Or.inr (Or.inr (by rw [h_]; decide)); exact Or.inr (Or.inr (by rw [h_]; decide)); exact Or.inr (Or.inr (by rw [h_]; decide)); exact Or.inr (Or.inr (by rw [h_]; decide))) (by decide) ?_
              refine lv_iload_n X.1.1 X.1.2.1 dX6_tryThing_142 rfl (lv_at hl 2 rfl) ?_
              refine lv_iconst (v := (iI 5)) X.1.1 X.1.2.1 dX6_tryThing_143 rfl ?_
              refine lv_icmp_ge (tgt := 176) X.1.1 X.1.2.1 dX6_tryThing_144 (by decide) (fun c_144 => ?_) (fun c_144 => ?_)
              · have hE := ite_t hE c_144
                refine lv_iconst (v := (iI 0)) X.1.1 X.1.2.1 dX6_tryThing_176 rfl ?_
                cases hE
                exact retWZ X hP hS okB_0 dX6_tryThing_177
              · have hE := ite_f hE c_144
                refine lv_aload_n X.1.1 X.1.2.1 dX6_tryThing_147 rfl (lv_at hl 1 rfl) ?_
                refine lv_iload_n X.1.1 X.1.2.1 dX6_tryThing_148 rfl (lv_at hl 2 rfl) ?_
                refine lv_iconst (v := (iI 1)) X.1.1 X.1.2.1 dX6_tryThing_149 rfl ?_
                refine lv_isub X.1.1 X.1.2.1 dX6_tryThing_150 ?_
                obtain ⟨u1006, e_u1006, hE⟩ := bd_some hE
                refine callRV (wsC := (wM cI cZ m0 m1 m2 m3 m4 m5 m6 m7 m8 m9 m10 m11 m12 m13 mwo mth mrn mrm mln mat mfa mac mnx mse msd mki mof mpu mno mrw mrt mtx mro mso msf msc mik mkt)) (As := [.int (v1 - (iI 1))]) (rest := []) (ci := 6) X (c6_isWord (l := l) e_u1006) o6_isWord tw690 ⟨rfl, rfl, Nat.le_of_ble_eq_true rfl, Nat.le_of_ble_eq_true rfl⟩ hP hK 0 rfl rfl rfl rfl hl rfl (by decide) ⟨Nat.le_refl _, Nat.le_refl _⟩ dX6_tryThing_151 ?_
                refine lv_if_eq (tgt := 176) X.1.1 X.1.2.1 dX6_tryThing_154 (by decide) (fun c_154 => ?_) (fun c_154 => ?_)
                · have hE := ite_t hE c_154
                  refine lv_iconst (v := (iI 0)) X.1.1 X.1.2.1 dX6_tryThing_176 rfl ?_
                  cases hE
                  exact retWZ X hP hS okB_0 dX6_tryThing_177
                · have hE := ite_f hE c_154
                  refine lv_iload_n X.1.1 X.1.2.1 dX6_tryThing_157 rfl (lv_at hl 0 rfl) ?_
                  refine lv_if_eq (tgt := 176) X.1.1 X.1.2.1 dX6_tryThing_158 (by decide) (fun _ => ?_) (fun c_ => False.elim (by revert c_; decide))
                  refine lv_iconst (v := (iI 0)) X.1.1 X.1.2.1 dX6_tryThing_176 rfl ?_
                  cases hE
                  exact retWZ X hP hS okB_0 dX6_tryThing_177
  · have hE := ite_t hE c_7
    refine lv_iconst (v := (iI 1)) X.1.1 X.1.2.1 dX6_tryThing_10 rfl ?_
    refine lv_goto (tgt := 15) X.1.1 X.1.2.1 dX6_tryThing_11 (by decide) ?_
    refine lv_istore_n (lv' := [(2, .int (iI 1)), (0, .ref m0), (1, .int v1)]) X.1.1 X.1.2.1 dX6_tryThing_15 rfl hl (by decide) rfl (fun ls hl => ?_)
    refine lv_iload_n X.1.1 X.1.2.1 dX6_tryThing_16 rfl (lv_at hl 2 rfl) ?_
    by_cases s_17_0 : v1 = (iI 0)
    · have hE := ite_t hE s_17_0
      refine tbIn (k := 0) (off := 51) (tgt := 68) X dX6_tryThing_17 s_17_0 (by decide) (by decide) (by decide) rfl (by decide) ?_
      refine lv_iconst (v := (iI 1)) X.1.1 X.1.2.1 dX6_tryThing_68 rfl ?_
      cases hE
      exact retWZ X hP hS okB_1 dX6_tryThing_69
    · have hE := ite_f hE s_17_0
      by_cases s_17_5 : v1 = (iI 5)
      · have hE := ite_t hE s_17_5
        refine tbIn (k := 5) (off := 53) (tgt := 70) X dX6_tryThing_17 s_17_5 (by decide) (by decide) (by decide) rfl (by decide) ?_
        refine lv_aload_n X.1.1 X.1.2.1 dX6_tryThing_70 rfl (lv_at hl 1 rfl) ?_
        refine lv_iconst (v := (iI 1)) X.1.1 X.1.2.1 dX6_tryThing_71 rfl ?_
        obtain ⟨u1007, e_u1007, hE⟩ := bd_some hE
        refine callRV (wsC := (wM cI cZ m0 m1 m2 m3 m4 m5 m6 m7 m8 m9 m10 m11 m12 m13 mwo mth mrn mrm mln mat mfa mac mnx mse msd mki mof mpu mno mrw mrt mtx mro mso msf msc mik mkt)) (As := [.int (iI 1)]) (rest := []) (ci := 6) X (c6_canPay (l := l) e_u1007) o6_canPay tw746 ⟨rfl, rfl, Nat.le_of_ble_eq_true rfl, Nat.le_of_ble_eq_true rfl⟩ hP hK 0 rfl rfl rfl rfl hl rfl (by decide) ⟨Nat.le_refl _, Nat.le_refl _⟩ dX6_tryThing_72 ?_
        refine lv_istore_n (lv' := [(3, .int u1007), (2, .int (iI 1)), (0, .ref m0), (1, .int v1)]) X.1.1 X.1.2.1 dX6_tryThing_75 rfl hl (by decide) rfl (fun ls hl => ?_)
        refine lv_iload_n X.1.1 X.1.2.1 dX6_tryThing_76 rfl (lv_at hl 0 rfl) ?_
        refine lv_if_eq (tgt := 86) X.1.1 X.1.2.1 dX6_tryThing_77 (by decide) (fun c_77 => ?_) (fun c_77 => ?_)
        · have hE := ite_t hE c_77
          refine lv_iload_n X.1.1 X.1.2.1 dX6_tryThing_86 rfl (lv_at hl 0 rfl) ?_
          obtain ⟨z_r, hE⟩ := okB_some hE
          cases hE
          exact retWZ X hP hS z_r dX6_tryThing_87
        · have hE := ite_f hE c_77
          refine lv_aload_n X.1.1 X.1.2.1 dX6_tryThing_80 rfl (lv_at hl 2 rfl) ?_
          refine lv_iconst (v := (iI 1)) X.1.1 X.1.2.1 dX6_tryThing_81 rfl ?_
          obtain ⟨u1008, e_u1008, hE⟩ := bd_some hE
          refine callWF (ws := (wM cI cZ m0 m1 m2 m3 m4 m5 m6 m7 m8 m9 m10 m11 m12 m13 mwo mth mrn mrm mln mat mfa mac mnx mse msd mki mof mpu mno mrw mrt mtx mro mso msf msc mik mkt)) (ws' := (wM cI cZ m0 m1 m2 m3 m4 m5 m6 m7 m8 m9 m10 m11 m12 m13 mwo mth mrn mrm mln mat mfa mac mnx mse msd mki mof mpu u1008.2 mrw mrt mtx mro mso msf msc mik mkt)) (As := [.int (iI 1)]) (rest := []) (ov := (some (.int u1008.1))) (st1 := [.int u1008.1]) (ci := 6) X (c6_payOn (l := l) e_u1008) o6_payOn tw750 ⟨rfl, rfl, Nat.le_of_ble_eq_true rfl, Nat.le_of_ble_eq_true rfl⟩ hP hK hD hS hA (wM_fst.trans wM_fst.symm) 0 rfl rfl rfl rfl hl rfl (by decide) ⟨Nat.le_refl _, Nat.le_refl _⟩ rfl dX6_tryThing_82 (fun H locs hP hD hS => ?_)
          refine lv_pop X.1.1 X.1.2.1 dX6_tryThing_85 rfl ?_
          refine lv_iload_n X.1.1 X.1.2.1 dX6_tryThing_86 rfl (lv_at hl 0 rfl) ?_
          obtain ⟨z_r, hE⟩ := okB_some hE
          cases hE
          exact retWZ X hP hS z_r dX6_tryThing_87
      · have hE := ite_f hE s_17_5
        by_cases s_17_6 : v1 = (iI 6)
        · have hE := ite_t hE s_17_6
          refine tbIn (k := 6) (off := 71) (tgt := 88) X dX6_tryThing_17 s_17_6 (by decide) (by decide) (by decide) rfl (by decide) ?_
          refine lv_aload_n X.1.1 X.1.2.1 dX6_tryThing_88 rfl (lv_at hl 1 rfl) ?_
          refine lv_iconst (v := (iI 1)) X.1.1 X.1.2.1 dX6_tryThing_89 rfl ?_
          refine lv_iload_n X.1.1 X.1.2.1 dX6_tryThing_90 rfl (lv_at hl 0 rfl) ?_
          refine lv_if_eq (tgt := 98) X.1.1 X.1.2.1 dX6_tryThing_91 (by decide) (fun c_ => False.elim (by revert c_; decide)) (fun _ => ?_)
          refine lv_iconst (v := (iI 1)) X.1.1 X.1.2.1 dX6_tryThing_94 rfl ?_
          refine lv_goto (tgt := 99) X.1.1 X.1.2.1 dX6_tryThing_95 (by decide) ?_
          obtain ⟨u1009, e_u1009, hE⟩ := bd_some hE
          refine callWF (ws := (wM cI cZ m0 m1 m2 m3 m4 m5 m6 m7 m8 m9 m10 m11 m12 m13 mwo mth mrn mrm mln mat mfa mac mnx mse msd mki mof mpu mno mrw mrt mtx mro mso msf msc mik mkt)) (ws' := (wM cI cZ m0 m1 m2 m3 m4 m5 m6 m7 m8 m9 m10 m11 m12 m13 mwo mth mrn mrm mln mat mfa mac mnx mse msd mki mof mpu u1009 mrw mrt mtx mro mso msf msc mik mkt)) (As := [.int (iI 1), .int (iI 1)]) (rest := []) (ov := none) (st1 := []) (ci := 6) X (c6_runOn (l := l) e_u1009) o6_runOn tw758 ⟨rfl, rfl, Nat.le_of_ble_eq_true rfl, Nat.le_of_ble_eq_true rfl⟩ hP hK hD hS hA (wM_fst.trans wM_fst.symm) 0 rfl rfl rfl rfl hl rfl (by decide) ⟨Nat.le_refl _, Nat.le_refl _⟩ rfl dX6_tryThing_99 (fun H locs hP hD hS => ?_)
          refine lv_iload_n X.1.1 X.1.2.1 dX6_tryThing_102 rfl (lv_at hl 0 rfl) ?_
          cases hE
          exact retWZ X hP hS okB_1 dX6_tryThing_103
        · have hE := ite_f hE s_17_6
          by_cases s_17_7 : v1 = (iI 7)
          · have hE := ite_t hE s_17_7
            refine tbIn (k := 7) (off := 87) (tgt := 104) X dX6_tryThing_17 s_17_7 (by decide) (by decide) (by decide) rfl (by decide) ?_
            refine lv_aload_n X.1.1 X.1.2.1 dX6_tryThing_104 rfl (lv_at hl 1 rfl) ?_
            refine lv_iconst (v := (iI 1)) X.1.1 X.1.2.1 dX6_tryThing_105 rfl ?_
            obtain ⟨u1010, e_u1010, hE⟩ := bd_some hE
            refine callRV (wsC := (wM cI cZ m0 m1 m2 m3 m4 m5 m6 m7 m8 m9 m10 m11 m12 m13 mwo mth mrn mrm mln mat mfa mac mnx mse msd mki mof mpu mno mrw mrt mtx mro mso msf msc mik mkt)) (As := [.int (iI 1)]) (rest := []) (ci := 6) X (c6_canLead (l := l) e_u1010) o6_canLead tw766 ⟨rfl, rfl, Nat.le_of_ble_eq_true rfl, Nat.le_of_ble_eq_true rfl⟩ hP hK 0 rfl rfl rfl rfl hl rfl (by decide) ⟨Nat.le_refl _, Nat.le_refl _⟩ dX6_tryThing_106 ?_
            refine lv_istore (lv' := [(4, .int u1010), (2, .int (iI 1)), (0, .ref m0), (1, .int v1)]) X.1.1 X.1.2.1 dX6_tryThing_109 hl (by decide) rfl (fun ls hl => ?_)
            refine lv_iload X.1.1 X.1.2.1 dX6_tryThing_111 (lv_at hl 0 rfl) ?_
            refine lv_if_eq (tgt := 121) X.1.1 X.1.2.1 dX6_tryThing_113 (by decide) (fun c_113 => ?_) (fun c_113 => ?_)
            · have hE := ite_t hE c_113
              refine lv_iload X.1.1 X.1.2.1 dX6_tryThing_121 (lv_at hl 0 rfl) ?_
              obtain ⟨z_r, hE⟩ := okB_some hE
              cases hE
              exact retWZ X hP hS z_r dX6_tryThing_123
            · have hE := ite_f hE c_113
              refine lv_aload_n X.1.1 X.1.2.1 dX6_tryThing_116 rfl (lv_at hl 2 rfl) ?_
              refine lv_iconst (v := (iI 1)) X.1.1 X.1.2.1 dX6_tryThing_117 rfl ?_
              obtain ⟨u1011, e_u1011, hE⟩ := bd_some hE
              refine callWF (ws := (wM cI cZ m0 m1 m2 m3 m4 m5 m6 m7 m8 m9 m10 m11 m12 m13 mwo mth mrn mrm mln mat mfa mac mnx mse msd mki mof mpu mno mrw mrt mtx mro mso msf msc mik mkt)) (ws' := (wM cI cZ m0 m1 m2 m3 m4 m5 m6 m7 m8 m9 m10 m11 m12 m13 mwo mth mrn mrm mln mat mfa mac mnx mse msd mki mof mpu u1011 mrw mrt mtx mro mso msf msc mik mkt)) (As := [.int (iI 1)]) (rest := []) (ov := none) (st1 := []) (ci := 6) X (c6_leadOn (l := l) e_u1011) o6_leadOn tw770 ⟨rfl, rfl, Nat.le_of_ble_eq_true rfl, Nat.le_of_ble_eq_true rfl⟩ hP hK hD hS hA (wM_fst.trans wM_fst.symm) 0 rfl rfl rfl rfl hl rfl (by decide) ⟨Nat.le_refl _, Nat.le_refl _⟩ rfl dX6_tryThing_118 (fun H locs hP hD hS => ?_)
              refine lv_iload X.1.1 X.1.2.1 dX6_tryThing_121 (lv_at hl 0 rfl) ?_
              obtain ⟨z_r, hE⟩ := okB_some hE
              cases hE
              exact retWZ X hP hS z_r dX6_tryThing_123
          · have hE := ite_f hE s_17_7
            by_cases s_17_8 : v1 = (iI 8)
            · have hE := ite_t hE s_17_8
              refine tbIn (k := 8) (off := 107) (tgt := 124) X dX6_tryThing_17 s_17_8 (by decide) (by decide) (by decide) rfl (by decide) ?_
              refine lv_aload_n X.1.1 X.1.2.1 dX6_tryThing_124 rfl (lv_at hl 1 rfl) ?_
              refine gf6_19 X hK hP 0 rfl rfl dX6_tryThing_125 ?_
              refine lv_bipush (v := (iI 17)) X.1.1 X.1.2.1 dX6_tryThing_128 (by decide) ?_
              refine lv_iconst (v := (iI 1)) X.1.1 X.1.2.1 dX6_tryThing_130 rfl ?_
              refine lv_aload_n X.1.1 X.1.2.1 dX6_tryThing_131 rfl (lv_at hl 1 rfl) ?_
              refine gf6_19 X hK hP 0 rfl rfl dX6_tryThing_132 ?_
              refine lv_bipush (v := (iI 17)) X.1.1 X.1.2.1 dX6_tryThing_135 (by decide) ?_
              refine va_iald X.1.1 X.1.2.1 hK hP 4 0 rfl rfl (vin (by decide)) dX6_tryThing_137 ?_
              refine lv_isub X.1.1 X.1.2.1 dX6_tryThing_138 ?_
              refine astI (t0 := 0) (ws' := (wM cI cZ m0 m1 m2 m3 m4 m5 m6 m7 m8 m9 m10 m11 m12 m13 mwo mth mrn mrm mln mat mfa mac mnx mse msd mki mof mpu (upd mno (iI 17).toNatClampNeg ((iI 1) - (mno (iI 17).toNatClampNeg))) mrw mrt mtx mro mso msf msc mik mkt)) X hK hP hD hS 4 0 rfl rfl (vin (by decide)) rfl dX6_tryThing_139 (fun H locs hP hD hS => ?_)
              refine lv_iconst (v := (iI 1)) X.1.1 X.1.2.1 dX6_tryThing_140 rfl ?_
              cases hE
              exact retWZ X hP hS okB_1 dX6_tryThing_141
            · have hE := ite_f hE s_17_8
              have ns_17_0 := sw_ne s_17_0 (by decide) (by decide)
              have ns_17_5 := sw_ne s_17_5 (by decide) (by decide)
              have ns_17_6 := sw_ne s_17_6 (by decide) (by decide)
              have ns_17_7 := sw_ne s_17_7 (by decide) (by decide)
              have ns_17_8 := sw_ne s_17_8 (by decide) (by decide)
              have hh_ : (v1 : Int32).toInt < 0 ∨ 8 < (v1 : Int32).toInt ∨ (v1 : Int32).toInt = 1 ∨ (v1 : Int32).toInt = 2 ∨ (v1 : Int32).toInt = 3 ∨ (v1 : Int32).toInt = 4 := by omega
              refine tbDf (tgt := 142) X dX6_tryThing_17 (by rcases hh_ with h_ | h_ | h_ | h_ | h_ | h_; exact Or.inl h_; exact Or.inr (Or.inl h_); exact Or.inr (Or.inr (by rw [h_]; decide)); exact Or.inr (Or.inr (by rw [h_]; decide)); exact Or.inr (Or.inr (by rw [h_]; decide)); exact Or.inr (Or.inr (by rw [h_]; decide))) (by decide) ?_
              refine lv_iload_n X.1.1 X.1.2.1 dX6_tryThing_142 rfl (lv_at hl 2 rfl) ?_
              refine lv_iconst (v := (iI 5)) X.1.1 X.1.2.1 dX6_tryThing_143 rfl ?_
              refine lv_icmp_ge (tgt := 176) X.1.1 X.1.2.1 dX6_tryThing_144 (by decide) (fun c_144 => ?_) (fun c_144 => ?_)
              · have hE := ite_t hE c_144
                refine lv_iconst (v := (iI 0)) X.1.1 X.1.2.1 dX6_tryThing_176 rfl ?_
                cases hE
                exact retWZ X hP hS okB_0 dX6_tryThing_177
              · have hE := ite_f hE c_144
                refine lv_aload_n X.1.1 X.1.2.1 dX6_tryThing_147 rfl (lv_at hl 1 rfl) ?_
                refine lv_iload_n X.1.1 X.1.2.1 dX6_tryThing_148 rfl (lv_at hl 2 rfl) ?_
                refine lv_iconst (v := (iI 1)) X.1.1 X.1.2.1 dX6_tryThing_149 rfl ?_
                refine lv_isub X.1.1 X.1.2.1 dX6_tryThing_150 ?_
                obtain ⟨u1012, e_u1012, hE⟩ := bd_some hE
                refine callRV (wsC := (wM cI cZ m0 m1 m2 m3 m4 m5 m6 m7 m8 m9 m10 m11 m12 m13 mwo mth mrn mrm mln mat mfa mac mnx mse msd mki mof mpu mno mrw mrt mtx mro mso msf msc mik mkt)) (As := [.int (v1 - (iI 1))]) (rest := []) (ci := 6) X (c6_isWord (l := l) e_u1012) o6_isWord tw690 ⟨rfl, rfl, Nat.le_of_ble_eq_true rfl, Nat.le_of_ble_eq_true rfl⟩ hP hK 0 rfl rfl rfl rfl hl rfl (by decide) ⟨Nat.le_refl _, Nat.le_refl _⟩ dX6_tryThing_151 ?_
                refine lv_if_eq (tgt := 176) X.1.1 X.1.2.1 dX6_tryThing_154 (by decide) (fun c_154 => ?_) (fun c_154 => ?_)
                · have hE := ite_t hE c_154
                  refine lv_iconst (v := (iI 0)) X.1.1 X.1.2.1 dX6_tryThing_176 rfl ?_
                  cases hE
                  exact retWZ X hP hS okB_0 dX6_tryThing_177
                · have hE := ite_f hE c_154
                  refine lv_iload_n X.1.1 X.1.2.1 dX6_tryThing_157 rfl (lv_at hl 0 rfl) ?_
                  refine lv_if_eq (tgt := 176) X.1.1 X.1.2.1 dX6_tryThing_158 (by decide) (fun c_ => False.elim (by revert c_; decide)) (fun _ => ?_)
                  refine lv_aload_n X.1.1 X.1.2.1 dX6_tryThing_161 rfl (lv_at hl 1 rfl) ?_
                  refine lv_iconst (v := (iI 1)) X.1.1 X.1.2.1 dX6_tryThing_162 rfl ?_
                  refine lv_iload_n X.1.1 X.1.2.1 dX6_tryThing_163 rfl (lv_at hl 2 rfl) ?_
                  refine lv_iconst (v := (iI 1)) X.1.1 X.1.2.1 dX6_tryThing_164 rfl ?_
                  refine lv_isub X.1.1 X.1.2.1 dX6_tryThing_165 ?_
                  obtain ⟨u1013, e_u1013, hE⟩ := bd_some hE
                  refine callWF (ws := (wM cI cZ m0 m1 m2 m3 m4 m5 m6 m7 m8 m9 m10 m11 m12 m13 mwo mth mrn mrm mln mat mfa mac mnx mse msd mki mof mpu mno mrw mrt mtx mro mso msf msc mik mkt)) (ws' := (wM cI cZ m0 m1 m2 m3 m4 m5 m6 m7 m8 m9 m10 m11 m12 m13 mwo mth mrn mrm mln mat mfa mac mnx mse msd mki mof mpu u1013.2 mrw mrt mtx mro mso msf msc mik mkt)) (As := [.int (iI 1), .int (v1 - (iI 1))]) (rest := []) (ov := (some (.int u1013.1))) (st1 := [.int u1013.1]) (ci := 6) X (c6_callOn (l := l) e_u1013) o6_callOn tw738 ⟨rfl, rfl, Nat.le_of_ble_eq_true rfl, Nat.le_of_ble_eq_true rfl⟩ hP hK hD hS hA (wM_fst.trans wM_fst.symm) 0 rfl rfl rfl rfl hl rfl (by decide) ⟨Nat.le_refl _, Nat.le_refl _⟩ rfl dX6_tryThing_166 (fun H locs hP hD hS => ?_)
                  refine lv_if_eq (tgt := 176) X.1.1 X.1.2.1 dX6_tryThing_169 (by decide) (fun c_169 => ?_) (fun c_169 => ?_)
                  · have hE := ite_t hE c_169
                    refine lv_iconst (v := (iI 0)) X.1.1 X.1.2.1 dX6_tryThing_176 rfl ?_
                    cases hE
                    exact retWZ X hP hS okB_0 dX6_tryThing_177
                  · have hE := ite_f hE c_169
                    refine lv_iconst (v := (iI 1)) X.1.1 X.1.2.1 dX6_tryThing_172 rfl ?_
                    refine lv_goto (tgt := 177) X.1.1 X.1.2.1 dX6_tryThing_173 (by decide) ?_
                    cases hE
                    exact retWZ X hP hS okB_1 dX6_tryThing_177
theorem o6_judge : oV yX6_judge RX6 cX6_judge 4 (some .int) 2 := ⟨tw812, tw810, tw811, tw45, ⟨by decide +kernel, by decide +kernel⟩, by decide +kernel⟩
abbrev rm6_judge : Room := { frames := 5, cells := 0, slots := 0, locals := 122 }
set_option maxHeartbeats 4000000 in
set_option maxRecDepth 100000 in
theorem c6_judge {l : Launch} {G : va_G} {cI cZ : ClassId} {m0 m1 m2 m3 m4 m5 m6 m7 m8 m9 m10 m11 m12 m13 : Nat} {mwo : Int32} {mth : Int32} {mrn : Int32} {mrm : Int32} {mln : Int32} {mat : Int32} {mfa : Int32} {mac : Int32} {mnx : Int32} {mse : Int32} {msd : Int64} {mki : Nat → Int32} {mof : Nat → Int32} {mpu : Nat → Int32} {mno : Nat → Int32} {mrw : Nat → Int32} {mrt : Nat → Int32} {mtx : Nat → Int32} {mro : Nat → Int32} {mso : Nat → Int32} {msf : Nat → Int32} {msc : Nat → Int32} {mik : Nat → Int32} {mkt : Nat → Int32} {v1 : Int32} {v2 : Int32} {sz : Nat} {u : Int32 × (Nat → Int32)} (hE : f6_judge v1 v2 mwo mth mki mof mpu mno = some u) : Met l yX6_judge (Cond.code yX6_judge cX6_judge 4 (some .int) :: TB) rm6_judge (PcW G cI cZ (wM cI cZ m0 m1 m2 m3 m4 m5 m6 m7 m8 m9 m10 m11 m12 m13 mwo mth mrn mrm mln mat mfa mac mnx mse msd mki mof mpu mno mrw mrt mtx mro mso msf msc mik mkt) sz ([.ref m0, .int v1, .int v2] : List Value)) (QW G (some (.int u.1)) (wM cI cZ m0 m1 m2 m3 m4 m5 m6 m7 m8 m9 m10 m11 m12 m13 mwo mth mrn mrm mln mat mfa mac mnx mse msd mki mof mpu u.2 mrw mrt mtx mro mso msf msc mik mkt) (va_A (wM cI cZ m0 m1 m2 m3 m4 m5 m6 m7 m8 m9 m10 m11 m12 m13 mwo mth mrn mrm mln mat mfa mac mnx mse msd mki mof mpu mno mrw mrt mtx mro mso msf msc mik mkt) sz)) 0 0 (va_A (wM cI cZ m0 m1 m2 m3 m4 m5 m6 m7 m8 m9 m10 m11 m12 m13 mwo mth mrn mrm mln mat mfa mac mnx mse msd mki mof mpu mno mrw mrt mtx mro mso msf msc mik mkt) sz) := by
  refine metW (own := RX6) (by decide +kernel) rfl (Nat.le_of_ble_eq_true rfl) ?_
  intro p e s m below meth c ls A X hA hP hK hD hl
  have hS : va_S A s.heap s.heap [] := va_S.rf
  have hl : lv_has ls 4 [(0, .ref m0), (1, .int v1), (2, .int v2)] := hl
  unfold f6_judge at hE
  refine lv_iload_n X.1.1 X.1.2.1 dX6_judge_0 rfl (lv_at hl 1 rfl) ?_
  refine lv_i2l (v := v1.toInt64) X.1.1 X.1.2.1 dX6_judge_1 rfl ?_
  refine lv_lconst (v := (Int64.ofNat 1)) X.1.1 X.1.2.1 dX6_judge_2 rfl ?_
  refine lv_ldc2 X.1.1 X.1.2.1 X.1.2.2.2.1 (X.1.2.2.2.2 _ tw813) dX6_judge_3 ?_
  obtain ⟨u1001, e_u1001, hE⟩ := bd_some hE
  refine callRS (wsC := []) (As := [.long (v1.toInt64), .long (Int64.ofNat 1), .long (6 : Int64)]) (rest := []) (cI := cI) (cZ := cZ) X (c6_in (l := l) (G := G) (cI := cI) (cZ := cZ) e_u1001) o6_in tw663 ⟨rfl, rfl, Nat.le_of_ble_eq_true rfl, Nat.le_of_ble_eq_true rfl⟩ va_P_nil hK rfl hl rfl (by decide) ⟨Nat.le_refl _, Nat.le_refl _⟩ dX6_judge_6 ?_
  refine lv_if_eq (tgt := 28) X.1.1 X.1.2.1 dX6_judge_9 (by decide) (fun c_9 => ?_) (fun c_9 => ?_)
  · have hE := ite_t hE c_9
    refine lv_bipush (v := (iI (-2))) X.1.1 X.1.2.1 dX6_judge_28 (by decide) ?_
    cases hE
    exact retW X hP hS dX6_judge_30
  · have hE := ite_f hE c_9
    refine lv_iload_n X.1.1 X.1.2.1 dX6_judge_12 rfl (lv_at hl 2 rfl) ?_
    refine lv_i2l (v := v2.toInt64) X.1.1 X.1.2.1 dX6_judge_13 rfl ?_
    refine lv_lconst (v := (Int64.ofNat 0)) X.1.1 X.1.2.1 dX6_judge_14 rfl ?_
    refine lv_iload_n X.1.1 X.1.2.1 dX6_judge_15 rfl (lv_at hl 1 rfl) ?_
    obtain ⟨u1002, e_u1002, hE⟩ := bd_some hE
    refine callRS (wsC := []) (As := [.int v1]) (rest := [.long (Int64.ofNat 0), .long (v2.toInt64)]) (cI := cI) (cZ := cZ) X (c6_tenTo (l := l) (G := G) (cI := cI) (cZ := cZ) e_u1002) o6_tenTo tw794 ⟨rfl, rfl, Nat.le_of_ble_eq_true rfl, Nat.le_of_ble_eq_true rfl⟩ va_P_nil hK rfl hl rfl (Nat.le_of_ble_eq_true rfl) ⟨Nat.le_refl _, Nat.le_refl _⟩ dX6_judge_16 ?_
    refine lv_iconst (v := (iI 1)) X.1.1 X.1.2.1 dX6_judge_19 rfl ?_
    refine lv_isub X.1.1 X.1.2.1 dX6_judge_20 ?_
    refine lv_i2l (v := (u1002 - (iI 1)).toInt64) X.1.1 X.1.2.1 dX6_judge_21 rfl ?_
    obtain ⟨u1003, e_u1003, hE⟩ := bd_some hE
    refine callRS (wsC := []) (As := [.long (v2.toInt64), .long (Int64.ofNat 0), .long ((u1002 - (iI 1)).toInt64)]) (rest := []) (cI := cI) (cZ := cZ) X (c6_in (l := l) (G := G) (cI := cI) (cZ := cZ) e_u1003) o6_in tw663 ⟨rfl, rfl, Nat.le_of_ble_eq_true rfl, Nat.le_of_ble_eq_true rfl⟩ va_P_nil hK rfl hl rfl (by decide) ⟨Nat.le_refl _, Nat.le_refl _⟩ dX6_judge_22 ?_
    refine lv_if_ne (tgt := 31) X.1.1 X.1.2.1 dX6_judge_25 (by decide) (fun c_25 => ?_) (fun c_25 => ?_)
    · have hE := ite_f hE c_25
      refine lv_aload_n X.1.1 X.1.2.1 dX6_judge_31 rfl (lv_at hl 0 rfl) ?_
      obtain ⟨u1004, e_u1004, hE⟩ := bd_some hE
      refine callWF (ws := (wM cI cZ m0 m1 m2 m3 m4 m5 m6 m7 m8 m9 m10 m11 m12 m13 mwo mth mrn mrm mln mat mfa mac mnx mse msd mki mof mpu mno mrw mrt mtx mro mso msf msc mik mkt)) (ws' := (wM cI cZ m0 m1 m2 m3 m4 m5 m6 m7 m8 m9 m10 m11 m12 m13 mwo mth mrn mrm mln mat mfa mac mnx mse msd mki mof mpu u1004 mrw mrt mtx mro mso msf msc mik mkt)) (As := []) (rest := []) (ov := none) (st1 := []) (ci := 6) X (c6_layTrial (l := l) e_u1004) o6_layTrial tw801 ⟨rfl, rfl, Nat.le_of_ble_eq_true rfl, Nat.le_of_ble_eq_true rfl⟩ hP hK hD hS hA (wM_fst.trans wM_fst.symm) 0 rfl rfl rfl rfl hl rfl (by decide) ⟨Nat.le_refl _, Nat.le_refl _⟩ rfl dX6_judge_32 (fun H locs hP hD hS => ?_)
      refine lv_iconst (v := (iI 0)) X.1.1 X.1.2.1 dX6_judge_35 rfl ?_
      refine lv_istore_n (lv' := [(3, .int (iI 0)), (0, .ref m0), (1, .int v1), (2, .int v2)]) X.1.1 X.1.2.1 dX6_judge_36 rfl hl (by decide) rfl (fun ls hl => ?_)
      have lp37 : ∀ (k : Int32 → (Nat → Int32) → Option (Int32 × (Nat → Int32))), (∀ (v3_1005 : Int32) (mno_1005 : Nat → Int32) (H : Heap) (locs : List Loc) (ls : Array Slot), va_P G vwCl (wM cI cZ m0 m1 m2 m3 m4 m5 m6 m7 m8 m9 m10 m11 m12 m13 mwo mth mrn mrm mln mat mfa mac mnx mse msd mki mof mpu mno_1005 mrw mrt mtx mro mso msf msc mik mkt) H → va_D A (wM cI cZ m0 m1 m2 m3 m4 m5 m6 m7 m8 m9 m10 m11 m12 m13 mwo mth mrn mrm mln mat mfa mac mnx mse msd mki mof mpu mno_1005 mrw mrt mtx mro mso msf msc mik mkt) → va_S A s.heap H locs → lv_has ls 4 [(0, .ref m0), (1, .int v1), (2, .int v2), (3, .int v3_1005)] → k v3_1005 mno_1005 = some u → W p l e rm6_judge s m ([.ref m0, .int v1, .int v2] : List Value).toArray below meth c H locs 0 0 (MQ below (QW G (some (.int u.1)) (wM cI cZ m0 m1 m2 m3 m4 m5 m6 m7 m8 m9 m10 m11 m12 m13 mwo mth mrn mrm mln mat mfa mac mnx mse msd mki mof mpu u.2 mrw mrt mtx mro mso msf msc mik mkt) A) ([.ref m0, .int v1, .int v2] : List Value).toArray s 0 0 A) (F0 m 70 ls [])) → ∀ (n : Nat) (v3_1005 : Int32) (mno_1005 : Nat → Int32) (H : Heap) (locs : List Loc) (ls : Array Slot), va_P G vwCl (wM cI cZ m0 m1 m2 m3 m4 m5 m6 m7 m8 m9 m10 m11 m12 m13 mwo mth mrn mrm mln mat mfa mac mnx mse msd mki mof mpu mno_1005 mrw mrt mtx mro mso msf msc mik mkt) H → va_D A (wM cI cZ m0 m1 m2 m3 m4 m5 m6 m7 m8 m9 m10 m11 m12 m13 mwo mth mrn mrm mln mat mfa mac mnx mse msd mki mof mpu mno_1005 mrw mrt mtx mro mso msf msc mik mkt) → va_S A s.heap H locs → lv_has ls 4 [(0, .ref m0), (1, .int v1), (2, .int v2), (3, .int v3_1005)] → l6_judge_37 k v1 v2 mwo mth mki mof mpu n v3_1005 mno_1005 = some u → W p l e rm6_judge s m ([.ref m0, .int v1, .int v2] : List Value).toArray below meth c H locs 0 0 (MQ below (QW G (some (.int u.1)) (wM cI cZ m0 m1 m2 m3 m4 m5 m6 m7 m8 m9 m10 m11 m12 m13 mwo mth mrn mrm mln mat mfa mac mnx mse msd mki mof mpu u.2 mrw mrt mtx mro mso msf msc mik mkt) A) ([.ref m0, .int v1, .int v2] : List Value).toArray s 0 0 A) (F0 m 37 ls []) := by
        intro k hex n
        induction n with
        | zero =>
          intro v3_1005 mno_1005 H locs ls hP hD hS hl hE
          exact absurd (show (none : Option (Int32 × (Nat → Int32))) = some u from hE) (fun h => by cases h)
        | succ n ih =>
          intro v3_1005 mno_1005 H locs ls hP hD hS hl hE
          rw [l6_judge_37] at hE
          refine lv_iload_n X.1.1 X.1.2.1 dX6_judge_37 rfl (lv_at hl 3 rfl) ?_
          refine lv_iload_n X.1.1 X.1.2.1 dX6_judge_38 rfl (lv_at hl 1 rfl) ?_
          refine lv_icmp_ge (tgt := 70) X.1.1 X.1.2.1 dX6_judge_39 (by decide) (fun c_39 => ?_) (fun c_39 => ?_)
          · have hE := ite_t hE c_39
            exact hex v3_1005 mno_1005 H locs ls hP hD hS (lv_sub hl [0, 1, 2, 3] rfl) hE
          · have hE := ite_f hE c_39
            refine lv_aload_n X.1.1 X.1.2.1 dX6_judge_42 rfl (lv_at hl 0 rfl) ?_
            refine lv_iload_n X.1.1 X.1.2.1 dX6_judge_43 rfl (lv_at hl 2 rfl) ?_
            refine lv_iload_n X.1.1 X.1.2.1 dX6_judge_44 rfl (lv_at hl 1 rfl) ?_
            refine lv_iconst (v := (iI 1)) X.1.1 X.1.2.1 dX6_judge_45 rfl ?_
            refine lv_isub X.1.1 X.1.2.1 dX6_judge_46 ?_
            refine lv_iload_n X.1.1 X.1.2.1 dX6_judge_47 rfl (lv_at hl 3 rfl) ?_
            refine lv_isub X.1.1 X.1.2.1 dX6_judge_48 ?_
            obtain ⟨u1006, e_u1006, hE⟩ := bd_some hE
            refine callRS (wsC := []) (As := [.int ((v1 - (iI 1)) - v3_1005)]) (rest := [.int v2, .ref m0]) (cI := cI) (cZ := cZ) X (c6_tenTo (l := l) (G := G) (cI := cI) (cZ := cZ) e_u1006) o6_tenTo tw794 ⟨rfl, rfl, Nat.le_of_ble_eq_true rfl, Nat.le_of_ble_eq_true rfl⟩ va_P_nil hK rfl hl rfl (Nat.le_of_ble_eq_true rfl) ⟨Nat.le_refl _, Nat.le_refl _⟩ dX6_judge_49 ?_
            obtain ⟨g_52, hE⟩ := nz_some hE
            refine lv_idiv X.1.1 X.1.2.1 dX6_judge_52 g_52 ?_
            refine lv_bipush (v := (iI 10)) X.1.1 X.1.2.1 dX6_judge_53 (by decide) ?_
            refine r_irem X.1.1 X.1.2.1 dX6_judge_55 (by decide) ?_
            obtain ⟨u1007, e_u1007, hE⟩ := bd_some hE
            refine callWF (ws := (wM cI cZ m0 m1 m2 m3 m4 m5 m6 m7 m8 m9 m10 m11 m12 m13 mwo mth mrn mrm mln mat mfa mac mnx mse msd mki mof mpu mno_1005 mrw mrt mtx mro mso msf msc mik mkt)) (ws' := (wM cI cZ m0 m1 m2 m3 m4 m5 m6 m7 m8 m9 m10 m11 m12 m13 mwo mth mrn mrm mln mat mfa mac mnx mse msd mki mof mpu u1007.2 mrw mrt mtx mro mso msf msc mik mkt)) (As := [.int (rmI (v2 / u1006) (iI 10))]) (rest := []) (ov := (some (.int u1007.1))) (st1 := [.int u1007.1]) (ci := 6) X (c6_tryThing (l := l) e_u1007) o6_tryThing tw814 ⟨rfl, rfl, Nat.le_of_ble_eq_true rfl, Nat.le_of_ble_eq_true rfl⟩ hP hK hD hS hA (wM_fst.trans wM_fst.symm) 0 rfl rfl rfl rfl hl rfl (by decide) ⟨Nat.le_refl _, Nat.le_refl _⟩ rfl dX6_judge_56 (fun H locs hP hD hS => ?_)
            refine lv_if_ne (tgt := 64) X.1.1 X.1.2.1 dX6_judge_59 (by decide) (fun c_59 => ?_) (fun c_59 => ?_)
            · have hE := ite_f hE c_59
              refine lv_iinc (v := (v3_1005 + (iI 1))) (lv' := [(3, .int (v3_1005 + (iI 1))), (0, .ref m0), (1, .int v1), (2, .int v2)]) X.1.1 X.1.2.1 dX6_judge_64 hl (k := 3) rfl rfl (by decide) rfl (fun ls hl => ?_)
              refine lv_goto (tgt := 37) X.1.1 X.1.2.1 dX6_judge_67 (by decide) ?_
              exact ih (v3_1005 + (iI 1)) u1007.2 H locs ls hP hD hS (lv_sub hl [1, 2, 3, 0] rfl) hE
            · have hE := ite_t hE c_59
              refine lv_iload_n X.1.1 X.1.2.1 dX6_judge_62 rfl (lv_at hl 3 rfl) ?_
              cases hE
              exact retW X hP hS dX6_judge_63
      refine lp37 _ (fun v3_1005 mno_1005 H locs ls hP hD hS hl hE => ?_) FU (iI 0) u1004 _ _ ls hP hD hS (lv_sub hl [1, 2, 3, 0] rfl) hE
      refine lv_bipush (v := (iI (-9))) X.1.1 X.1.2.1 dX6_judge_70 (by decide) ?_
      cases hE
      exact retW X hP hS dX6_judge_72
    · have hE := ite_t hE c_25
      refine lv_bipush (v := (iI (-2))) X.1.1 X.1.2.1 dX6_judge_28 (by decide) ?_
      cases hE
      exact retW X hP hS dX6_judge_30
theorem o6_see : oV yX6_see RX6 cX6_see 4 (some .int) 3 := ⟨tw821, tw819, tw820, tw45, ⟨by decide +kernel, by decide +kernel⟩, by decide +kernel⟩
abbrev rm6_see : Room := { frames := 2, cells := 0, slots := 0, locals := 46 }
set_option maxHeartbeats 4000000 in
set_option maxRecDepth 100000 in
theorem c6_see {l : Launch} {G : va_G} {cI cZ : ClassId} {m0 m1 m2 m3 m4 m5 m6 m7 m8 m9 m10 m11 m12 m13 : Nat} {mwo : Int32} {mth : Int32} {mrn : Int32} {mrm : Int32} {mln : Int32} {mat : Int32} {mfa : Int32} {mac : Int32} {mnx : Int32} {mse : Int32} {msd : Int64} {mki : Nat → Int32} {mof : Nat → Int32} {mpu : Nat → Int32} {mno : Nat → Int32} {mrw : Nat → Int32} {mrt : Nat → Int32} {mtx : Nat → Int32} {mro : Nat → Int32} {mso : Nat → Int32} {msf : Nat → Int32} {msc : Nat → Int32} {mik : Nat → Int32} {mkt : Nat → Int32} {v1 : Int32} {v2 : Int32} {v3 : Int32} {sz : Nat} {u : Int32 × Int32 × (Nat → Int32) × (Nat → Int32) × (Nat → Int32)} (hE : f6_see v1 v2 v3 mwo mse mso msf msc = some u) : Met l yX6_see (Cond.code yX6_see cX6_see 4 (some .int) :: TB) rm6_see (PcW G cI cZ (wM cI cZ m0 m1 m2 m3 m4 m5 m6 m7 m8 m9 m10 m11 m12 m13 mwo mth mrn mrm mln mat mfa mac mnx mse msd mki mof mpu mno mrw mrt mtx mro mso msf msc mik mkt) sz ([.ref m0, .int v1, .int v2, .int v3] : List Value)) (QW G (some (.int u.1)) (wM cI cZ m0 m1 m2 m3 m4 m5 m6 m7 m8 m9 m10 m11 m12 m13 mwo mth mrn mrm mln mat mfa mac mnx u.2.1 msd mki mof mpu mno mrw mrt mtx mro u.2.2.1 u.2.2.2.1 u.2.2.2.2 mik mkt) (va_A (wM cI cZ m0 m1 m2 m3 m4 m5 m6 m7 m8 m9 m10 m11 m12 m13 mwo mth mrn mrm mln mat mfa mac mnx mse msd mki mof mpu mno mrw mrt mtx mro mso msf msc mik mkt) sz)) 0 0 (va_A (wM cI cZ m0 m1 m2 m3 m4 m5 m6 m7 m8 m9 m10 m11 m12 m13 mwo mth mrn mrm mln mat mfa mac mnx mse msd mki mof mpu mno mrw mrt mtx mro mso msf msc mik mkt) sz) := by
  refine metW (own := RX6) (by decide +kernel) rfl (Nat.le_of_ble_eq_true rfl) ?_
  intro p e s m below meth c ls A X hA hP hK hD hl
  have hS : va_S A s.heap s.heap [] := va_S.rf
  have hl : lv_has ls 4 [(0, .ref m0), (1, .int v1), (2, .int v2), (3, .int v3)] := hl
  unfold f6_see at hE
  refine lv_aload_n X.1.1 X.1.2.1 dX6_see_0 rfl (lv_at hl 0 rfl) ?_
  refine lv_iload_n X.1.1 X.1.2.1 dX6_see_1 rfl (lv_at hl 1 rfl) ?_
  obtain ⟨u1001, e_u1001, hE⟩ := bd_some hE
  refine callRV (wsC := (wM cI cZ m0 m1 m2 m3 m4 m5 m6 m7 m8 m9 m10 m11 m12 m13 mwo mth mrn mrm mln mat mfa mac mnx mse msd mki mof mpu mno mrw mrt mtx mro mso msf msc mik mkt)) (As := [.int v1]) (rest := []) (ci := 6) X (c6_isWord (l := l) e_u1001) o6_isWord tw690 ⟨rfl, rfl, Nat.le_of_ble_eq_true rfl, Nat.le_of_ble_eq_true rfl⟩ hP hK 0 rfl rfl rfl rfl hl rfl (by decide) ⟨Nat.le_refl _, Nat.le_refl _⟩ dX6_see_2 ?_
  refine lv_if_ne (tgt := 10) X.1.1 X.1.2.1 dX6_see_5 (by decide) (fun c_5 => ?_) (fun c_5 => ?_)
  · have hE := ite_f hE c_5
    refine lv_iload_n X.1.1 X.1.2.1 dX6_see_10 rfl (lv_at hl 2 rfl) ?_
    refine lv_i2l (v := v2.toInt64) X.1.1 X.1.2.1 dX6_see_11 rfl ?_
    refine lv_lconst (v := (Int64.ofNat 0)) X.1.1 X.1.2.1 dX6_see_12 rfl ?_
    refine lv_ldc2 X.1.1 X.1.2.1 X.1.2.2.2.1 (X.1.2.2.2.2 _ tw729) dX6_see_13 ?_
    obtain ⟨u1002, e_u1002, hE⟩ := bd_some hE
    refine callRS (wsC := []) (As := [.long (v2.toInt64), .long (Int64.ofNat 0), .long (9 : Int64)]) (rest := []) (cI := cI) (cZ := cZ) X (c6_in (l := l) (G := G) (cI := cI) (cZ := cZ) e_u1002) o6_in tw663 ⟨rfl, rfl, Nat.le_of_ble_eq_true rfl, Nat.le_of_ble_eq_true rfl⟩ va_P_nil hK rfl hl rfl (by decide) ⟨Nat.le_refl _, Nat.le_refl _⟩ dX6_see_16 ?_
    refine lv_if_eq (tgt := 32) X.1.1 X.1.2.1 dX6_see_19 (by decide) (fun c_19 => ?_) (fun c_19 => ?_)
    · have hE := ite_t hE c_19
      refine lv_bipush (v := (iI (-2))) X.1.1 X.1.2.1 dX6_see_32 (by decide) ?_
      cases hE
      exact retW X hP hS dX6_see_34
    · have hE := ite_f hE c_19
      refine lv_iload_n X.1.1 X.1.2.1 dX6_see_22 rfl (lv_at hl 3 rfl) ?_
      refine lv_i2l (v := v3.toInt64) X.1.1 X.1.2.1 dX6_see_23 rfl ?_
      refine lv_lconst (v := (Int64.ofNat 0)) X.1.1 X.1.2.1 dX6_see_24 rfl ?_
      refine lv_lconst (v := (Int64.ofNat 1)) X.1.1 X.1.2.1 dX6_see_25 rfl ?_
      obtain ⟨u1003, e_u1003, hE⟩ := bd_some hE
      refine callRS (wsC := []) (As := [.long (v3.toInt64), .long (Int64.ofNat 0), .long (Int64.ofNat 1)]) (rest := []) (cI := cI) (cZ := cZ) X (c6_in (l := l) (G := G) (cI := cI) (cZ := cZ) e_u1003) o6_in tw663 ⟨rfl, rfl, Nat.le_of_ble_eq_true rfl, Nat.le_of_ble_eq_true rfl⟩ va_P_nil hK rfl hl rfl (by decide) ⟨Nat.le_refl _, Nat.le_refl _⟩ dX6_see_26 ?_
      refine lv_if_ne (tgt := 35) X.1.1 X.1.2.1 dX6_see_29 (by decide) (fun c_29 => ?_) (fun c_29 => ?_)
      · have hE := ite_f hE c_29
        refine lv_aload_n X.1.1 X.1.2.1 dX6_see_35 rfl (lv_at hl 0 rfl) ?_
        refine gf6_160 X hK hP 0 rfl rfl dX6_see_36 ?_
        refine lv_bipush (v := (iI 6)) X.1.1 X.1.2.1 dX6_see_39 (by decide) ?_
        refine lv_icmp_ne (tgt := 47) X.1.1 X.1.2.1 dX6_see_41 (by decide) (fun c_41 => ?_) (fun c_41 => ?_)
        · have hE := ite_f hE c_41
          refine lv_aload_n X.1.1 X.1.2.1 dX6_see_47 rfl (lv_at hl 0 rfl) ?_
          refine gf6_34 X hK hP 0 rfl rfl dX6_see_48 ?_
          refine lv_aload_n X.1.1 X.1.2.1 dX6_see_51 rfl (lv_at hl 0 rfl) ?_
          refine gf6_160 X hK hP 0 rfl rfl dX6_see_52 ?_
          refine lv_iload_n X.1.1 X.1.2.1 dX6_see_55 rfl (lv_at hl 1 rfl) ?_
          obtain ⟨i_56, hE⟩ := ib_some hE
          refine astI (t0 := 0) (ws' := (wM cI cZ m0 m1 m2 m3 m4 m5 m6 m7 m8 m9 m10 m11 m12 m13 mwo mth mrn mrm mln mat mfa mac mnx mse msd mki mof mpu mno mrw mrt mtx mro (upd mso mse.toNatClampNeg v1) msf msc mik mkt)) X hK hP hD hS 9 0 rfl rfl i_56 rfl dX6_see_56 (fun H locs hP hD hS => ?_)
          refine lv_aload_n X.1.1 X.1.2.1 dX6_see_57 rfl (lv_at hl 0 rfl) ?_
          refine gf6_37 X hK hP 0 rfl rfl dX6_see_58 ?_
          refine lv_aload_n X.1.1 X.1.2.1 dX6_see_61 rfl (lv_at hl 0 rfl) ?_
          refine gf6_160 X hK hP 0 rfl rfl dX6_see_62 ?_
          refine lv_iload_n X.1.1 X.1.2.1 dX6_see_65 rfl (lv_at hl 2 rfl) ?_
          obtain ⟨i_66, hE⟩ := ib_some hE
          refine astI (t0 := 0) (ws' := (wM cI cZ m0 m1 m2 m3 m4 m5 m6 m7 m8 m9 m10 m11 m12 m13 mwo mth mrn mrm mln mat mfa mac mnx mse msd mki mof mpu mno mrw mrt mtx mro (upd mso mse.toNatClampNeg v1) (upd msf mse.toNatClampNeg v2) msc mik mkt)) X hK hP hD hS 10 0 rfl rfl i_66 rfl dX6_see_66 (fun H locs hP hD hS => ?_)
          refine lv_aload_n X.1.1 X.1.2.1 dX6_see_67 rfl (lv_at hl 0 rfl) ?_
          refine gf6_40 X hK hP 0 rfl rfl dX6_see_68 ?_
          refine lv_aload_n X.1.1 X.1.2.1 dX6_see_71 rfl (lv_at hl 0 rfl) ?_
          refine gf6_160 X hK hP 0 rfl rfl dX6_see_72 ?_
          refine lv_iload_n X.1.1 X.1.2.1 dX6_see_75 rfl (lv_at hl 3 rfl) ?_
          obtain ⟨i_76, hE⟩ := ib_some hE
          refine astI (t0 := 0) (ws' := (wM cI cZ m0 m1 m2 m3 m4 m5 m6 m7 m8 m9 m10 m11 m12 m13 mwo mth mrn mrm mln mat mfa mac mnx mse msd mki mof mpu mno mrw mrt mtx mro (upd mso mse.toNatClampNeg v1) (upd msf mse.toNatClampNeg v2) (upd msc mse.toNatClampNeg v3) mik mkt)) X hK hP hD hS 11 0 rfl rfl i_76 rfl dX6_see_76 (fun H locs hP hD hS => ?_)
          refine lv_aload_n X.1.1 X.1.2.1 dX6_see_77 rfl (lv_at hl 0 rfl) ?_
          refine lv_dup X.1.1 X.1.2.1 dX6_see_78 rfl ?_
          refine gf6_160 X hK hP 0 rfl rfl dX6_see_79 ?_
          refine lv_iconst (v := (iI 1)) X.1.1 X.1.2.1 dX6_see_82 rfl ?_
          refine lv_iadd X.1.1 X.1.2.1 dX6_see_83 ?_
          refine pf6_160 (ws2 := (wM cI cZ m0 m1 m2 m3 m4 m5 m6 m7 m8 m9 m10 m11 m12 m13 mwo mth mrn mrm mln mat mfa mac mnx (mse + (iI 1)) msd mki mof mpu mno mrw mrt mtx mro (upd mso mse.toNatClampNeg v1) (upd msf mse.toNatClampNeg v2) (upd msc mse.toNatClampNeg v3) mik mkt)) X hK hP hD hS 0 rfl (Nat.le_of_ble_eq_true rfl) rfl dX6_see_84 (fun H locs hP hD hS => ?_)
          refine lv_aload_n X.1.1 X.1.2.1 dX6_see_87 rfl (lv_at hl 0 rfl) ?_
          refine gf6_160 X hK hP 0 rfl rfl dX6_see_88 ?_
          cases hE
          exact retW X hP hS dX6_see_91
        · have hE := ite_t hE c_41
          refine lv_bipush (v := (iI (-4))) X.1.1 X.1.2.1 dX6_see_44 (by decide) ?_
          cases hE
          exact retW X hP hS dX6_see_46
      · have hE := ite_t hE c_29
        refine lv_bipush (v := (iI (-2))) X.1.1 X.1.2.1 dX6_see_32 (by decide) ?_
        cases hE
        exact retW X hP hS dX6_see_34
  · have hE := ite_t hE c_5
    refine lv_iconst (v := (iI (-1))) X.1.1 X.1.2.1 dX6_see_8 rfl ?_
    cases hE
    exact retW X hP hS dX6_see_9
theorem o6_unsee : oV yX6_unsee RX6 cX6_unsee 2 (some .int) 0 := ⟨tw825, tw823, tw824, tw45, ⟨by decide +kernel, by decide +kernel⟩, by decide +kernel⟩
abbrev rm6_unsee : Room := { frames := 0, cells := 0, slots := 0, locals := 0 }
set_option maxHeartbeats 4000000 in
set_option maxRecDepth 100000 in
theorem c6_unsee {l : Launch} {G : va_G} {cI cZ : ClassId} {m0 m1 m2 m3 m4 m5 m6 m7 m8 m9 m10 m11 m12 m13 : Nat} {mwo : Int32} {mth : Int32} {mrn : Int32} {mrm : Int32} {mln : Int32} {mat : Int32} {mfa : Int32} {mac : Int32} {mnx : Int32} {mse : Int32} {msd : Int64} {mki : Nat → Int32} {mof : Nat → Int32} {mpu : Nat → Int32} {mno : Nat → Int32} {mrw : Nat → Int32} {mrt : Nat → Int32} {mtx : Nat → Int32} {mro : Nat → Int32} {mso : Nat → Int32} {msf : Nat → Int32} {msc : Nat → Int32} {mik : Nat → Int32} {mkt : Nat → Int32} {sz : Nat} {u : Int32 × Int32} (hE : f6_unsee mse = some u) : Met l yX6_unsee (Cond.code yX6_unsee cX6_unsee 2 (some .int) :: TB) rm6_unsee (PcW G cI cZ (wM cI cZ m0 m1 m2 m3 m4 m5 m6 m7 m8 m9 m10 m11 m12 m13 mwo mth mrn mrm mln mat mfa mac mnx mse msd mki mof mpu mno mrw mrt mtx mro mso msf msc mik mkt) sz ([.ref m0] : List Value)) (QW G (some (.int u.1)) (wM cI cZ m0 m1 m2 m3 m4 m5 m6 m7 m8 m9 m10 m11 m12 m13 mwo mth mrn mrm mln mat mfa mac mnx u.2 msd mki mof mpu mno mrw mrt mtx mro mso msf msc mik mkt) (va_A (wM cI cZ m0 m1 m2 m3 m4 m5 m6 m7 m8 m9 m10 m11 m12 m13 mwo mth mrn mrm mln mat mfa mac mnx mse msd mki mof mpu mno mrw mrt mtx mro mso msf msc mik mkt) sz)) 0 0 (va_A (wM cI cZ m0 m1 m2 m3 m4 m5 m6 m7 m8 m9 m10 m11 m12 m13 mwo mth mrn mrm mln mat mfa mac mnx mse msd mki mof mpu mno mrw mrt mtx mro mso msf msc mik mkt) sz) := by
  refine metW (own := RX6) (by decide +kernel) rfl (Nat.le_of_ble_eq_true rfl) ?_
  intro p e s m below meth c ls A X hA hP hK hD hl
  have hS : va_S A s.heap s.heap [] := va_S.rf
  have hl : lv_has ls 2 [(0, .ref m0)] := hl
  unfold f6_unsee at hE
  refine lv_aload_n X.1.1 X.1.2.1 dX6_unsee_0 rfl (lv_at hl 0 rfl) ?_
  refine gf6_160 X hK hP 0 rfl rfl dX6_unsee_1 ?_
  refine lv_istore_n (lv' := [(1, .int mse), (0, .ref m0)]) X.1.1 X.1.2.1 dX6_unsee_4 rfl hl (by decide) rfl (fun ls hl => ?_)
  refine lv_aload_n X.1.1 X.1.2.1 dX6_unsee_5 rfl (lv_at hl 1 rfl) ?_
  refine lv_iconst (v := (iI 0)) X.1.1 X.1.2.1 dX6_unsee_6 rfl ?_
  refine pf6_160 (ws2 := (wM cI cZ m0 m1 m2 m3 m4 m5 m6 m7 m8 m9 m10 m11 m12 m13 mwo mth mrn mrm mln mat mfa mac mnx (iI 0) msd mki mof mpu mno mrw mrt mtx mro mso msf msc mik mkt)) X hK hP hD hS 0 rfl (Nat.le_of_ble_eq_true rfl) rfl dX6_unsee_7 (fun H locs hP hD hS => ?_)
  refine lv_iload_n X.1.1 X.1.2.1 dX6_unsee_10 rfl (lv_at hl 0 rfl) ?_
  cases hE
  exact retW X hP hS dX6_unsee_11
theorem o6_may : oV yX6_may RX6 cX6_may 6 (some .int) 1 := ⟨tw829, tw827, tw828, tw45, ⟨by decide +kernel, by decide +kernel⟩, by decide +kernel⟩
abbrev rm6_may : Room := { frames := 3, cells := 0, slots := 0, locals := 71 }
set_option maxHeartbeats 4000000 in
set_option maxRecDepth 100000 in
theorem c6_may {l : Launch} {G : va_G} {cI cZ : ClassId} {m0 m1 m2 m3 m4 m5 m6 m7 m8 m9 m10 m11 m12 m13 : Nat} {mwo : Int32} {mth : Int32} {mrn : Int32} {mrm : Int32} {mln : Int32} {mat : Int32} {mfa : Int32} {mac : Int32} {mnx : Int32} {mse : Int32} {msd : Int64} {mki : Nat → Int32} {mof : Nat → Int32} {mpu : Nat → Int32} {mno : Nat → Int32} {mrw : Nat → Int32} {mrt : Nat → Int32} {mtx : Nat → Int32} {mro : Nat → Int32} {mso : Nat → Int32} {msf : Nat → Int32} {msc : Nat → Int32} {mik : Nat → Int32} {mkt : Nat → Int32} {v1 : Int32} {u : Int32} (hE : f6_may v1 mwo mth mse mki mof mpu mno mso msf msc = some u) : Met l yX6_may (Cond.code yX6_may cX6_may 6 (some .int) :: TB) rm6_may (PcR G cI cZ (wM cI cZ m0 m1 m2 m3 m4 m5 m6 m7 m8 m9 m10 m11 m12 m13 mwo mth mrn mrm mln mat mfa mac mnx mse msd mki mof mpu mno mrw mrt mtx mro mso msf msc mik mkt) ([.ref m0, .int v1] : List Value)) (QcRead u) 0 0 (fun _ => False) := by
  refine metR (own := RX6) (by decide +kernel) rfl (Nat.le_of_ble_eq_true rfl) ?_
  intro p e s m below meth c ls X hP hK hl
  have hl : lv_has ls 6 [(0, .ref m0), (1, .int v1)] := hl
  unfold f6_may at hE
  refine lv_aload_n X.1.1 X.1.2.1 dX6_may_0 rfl (lv_at hl 0 rfl) ?_
  refine lv_iload_n X.1.1 X.1.2.1 dX6_may_1 rfl (lv_at hl 1 rfl) ?_
  obtain ⟨u1001, e_u1001, hE⟩ := bd_some hE
  refine callRV (wsC := (wM cI cZ m0 m1 m2 m3 m4 m5 m6 m7 m8 m9 m10 m11 m12 m13 mwo mth mrn mrm mln mat mfa mac mnx mse msd mki mof mpu mno mrw mrt mtx mro mso msf msc mik mkt)) (As := [.int v1]) (rest := []) (ci := 6) X (c6_isWord (l := l) e_u1001) o6_isWord tw690 ⟨rfl, rfl, Nat.le_of_ble_eq_true rfl, Nat.le_of_ble_eq_true rfl⟩ hP hK 0 rfl rfl rfl rfl hl rfl (by decide) ⟨Nat.le_refl _, Nat.le_refl _⟩ dX6_may_2 ?_
  refine lv_if_ne (tgt := 10) X.1.1 X.1.2.1 dX6_may_5 (by decide) (fun c_5 => ?_) (fun c_5 => ?_)
  · have hE := ite_f hE c_5
    refine lv_iconst (v := (iI 0)) X.1.1 X.1.2.1 dX6_may_10 rfl ?_
    refine lv_istore_n (lv' := [(2, .int (iI 0)), (0, .ref m0), (1, .int v1)]) X.1.1 X.1.2.1 dX6_may_11 rfl hl (by decide) rfl (fun ls hl => ?_)
    refine lv_iconst (v := (iI 0)) X.1.1 X.1.2.1 dX6_may_12 rfl ?_
    refine lv_istore_n (lv' := [(3, .int (iI 0)), (2, .int (iI 0)), (0, .ref m0), (1, .int v1)]) X.1.1 X.1.2.1 dX6_may_13 rfl hl (by decide) rfl (fun ls hl => ?_)
    have lp14 : ∀ (k : Int32 → Int32 → Option Int32), (∀ (v2_1002 : Int32) (v3_1002 : Int32) (ls : Array Slot), lv_has ls 6 [(0, .ref m0), (1, .int v1), (2, .int v2_1002), (3, .int v3_1002)] → k v2_1002 v3_1002 = some u → W p l e rm6_may s m ([.ref m0, .int v1] : List Value).toArray below meth c s.heap [] 0 0 (MQ below (QcRead u) ([.ref m0, .int v1] : List Value).toArray s 0 0 (fun _ => False)) (F0 m 119 ls [])) → ∀ (n : Nat) (v2_1002 : Int32) (v3_1002 : Int32) (ls : Array Slot), lv_has ls 6 [(0, .ref m0), (1, .int v1), (2, .int v2_1002), (3, .int v3_1002)] → l6_may_14 k v1 mth mse mki mof mpu mno mso msf msc n v2_1002 v3_1002 = some u → W p l e rm6_may s m ([.ref m0, .int v1] : List Value).toArray below meth c s.heap [] 0 0 (MQ below (QcRead u) ([.ref m0, .int v1] : List Value).toArray s 0 0 (fun _ => False)) (F0 m 14 ls []) := by
      intro k hex n
      induction n with
      | zero =>
        intro v2_1002 v3_1002 ls hl hE
        exact absurd (show (none : Option Int32) = some u from hE) (fun h => by cases h)
      | succ n ih =>
        intro v2_1002 v3_1002 ls hl hE
        rw [l6_may_14] at hE
        refine lv_iload_n X.1.1 X.1.2.1 dX6_may_14 rfl (lv_at hl 3 rfl) ?_
        refine lv_bipush (v := (iI 10)) X.1.1 X.1.2.1 dX6_may_15 (by decide) ?_
        refine lv_icmp_ge (tgt := 119) X.1.1 X.1.2.1 dX6_may_17 (by decide) (fun c_17 => ?_) (fun c_17 => ?_)
        · have hE := ite_t hE c_17
          exact hex v2_1002 v3_1002 ls (lv_sub hl [0, 1, 2, 3] rfl) hE
        · have hE := ite_f hE c_17
          refine lv_iconst (v := (iI 1)) X.1.1 X.1.2.1 dX6_may_20 rfl ?_
          refine lv_istore (lv' := [(4, .int (iI 1)), (0, .ref m0), (1, .int v1), (2, .int v2_1002), (3, .int v3_1002)]) X.1.1 X.1.2.1 dX6_may_21 hl (by decide) rfl (fun ls hl => ?_)
          refine lv_iconst (v := (iI 0)) X.1.1 X.1.2.1 dX6_may_23 rfl ?_
          refine lv_istore (lv' := [(5, .int (iI 0)), (4, .int (iI 1)), (0, .ref m0), (1, .int v1), (2, .int v2_1002), (3, .int v3_1002)]) X.1.1 X.1.2.1 dX6_may_24 hl (by decide) rfl (fun ls hl => ?_)
          have lp26 : ∀ (k : Int32 → Int32 → Option Int32), (∀ (v4_1003 : Int32) (v5_1003 : Int32) (ls : Array Slot), lv_has ls 6 [(0, .ref m0), (1, .int v1), (2, .int v2_1002), (3, .int v3_1002), (4, .int v4_1003), (5, .int v5_1003)] → k v4_1003 v5_1003 = some u → W p l e rm6_may s m ([.ref m0, .int v1] : List Value).toArray below meth c s.heap [] 0 0 (MQ below (QcRead u) ([.ref m0, .int v1] : List Value).toArray s 0 0 (fun _ => False)) (F0 m 98 ls [])) → ∀ (n : Nat) (v4_1003 : Int32) (v5_1003 : Int32) (ls : Array Slot), lv_has ls 6 [(0, .ref m0), (1, .int v1), (2, .int v2_1002), (3, .int v3_1002), (4, .int v4_1003), (5, .int v5_1003)] → l6_may_26 k v1 v3_1002 mth mse mki mof mpu mno mso msf msc n v4_1003 v5_1003 = some u → W p l e rm6_may s m ([.ref m0, .int v1] : List Value).toArray below meth c s.heap [] 0 0 (MQ below (QcRead u) ([.ref m0, .int v1] : List Value).toArray s 0 0 (fun _ => False)) (F0 m 26 ls []) := by
            intro k hex n
            induction n with
            | zero =>
              intro v4_1003 v5_1003 ls hl hE
              exact absurd (show (none : Option Int32) = some u from hE) (fun h => by cases h)
            | succ n ih =>
              intro v4_1003 v5_1003 ls hl hE
              rw [l6_may_26] at hE
              refine lv_iload X.1.1 X.1.2.1 dX6_may_26 (lv_at hl 5 rfl) ?_
              refine lv_aload_n X.1.1 X.1.2.1 dX6_may_28 rfl (lv_at hl 0 rfl) ?_
              refine gf6_160 X hK hP 0 rfl rfl dX6_may_29 ?_
              refine lv_icmp_ge (tgt := 98) X.1.1 X.1.2.1 dX6_may_32 (by decide) (fun c_32 => ?_) (fun c_32 => ?_)
              · have hE := ite_t hE c_32
                exact hex v4_1003 v5_1003 ls (lv_sub hl [0, 1, 2, 3, 4, 5] rfl) hE
              · have hE := ite_f hE c_32
                refine lv_iload X.1.1 X.1.2.1 dX6_may_35 (lv_at hl 4 rfl) ?_
                refine lv_if_eq (tgt := 89) X.1.1 X.1.2.1 dX6_may_37 (by decide) (fun c_37 => ?_) (fun c_37 => ?_)
                · have hE := ite_t hE c_37
                  refine lv_iconst (v := (iI 0)) X.1.1 X.1.2.1 dX6_may_89 rfl ?_
                  refine lv_istore (lv' := [(4, .int (iI 0)), (0, .ref m0), (1, .int v1), (2, .int v2_1002), (3, .int v3_1002), (5, .int v5_1003)]) X.1.1 X.1.2.1 dX6_may_90 hl (by decide) rfl (fun ls hl => ?_)
                  refine lv_iinc (v := (v5_1003 + (iI 1))) (lv' := [(5, .int (v5_1003 + (iI 1))), (4, .int (iI 0)), (0, .ref m0), (1, .int v1), (2, .int v2_1002), (3, .int v3_1002)]) X.1.1 X.1.2.1 dX6_may_92 hl (k := 5) rfl rfl (by decide) rfl (fun ls hl => ?_)
                  refine lv_goto (tgt := 26) X.1.1 X.1.2.1 dX6_may_95 (by decide) ?_
                  exact ih (iI 0) (v5_1003 + (iI 1)) ls (lv_sub hl [2, 3, 4, 5, 1, 0] rfl) hE
                · have hE := ite_f hE c_37
                  refine lv_aload_n X.1.1 X.1.2.1 dX6_may_40 rfl (lv_at hl 0 rfl) ?_
                  refine gf6_34 X hK hP 0 rfl rfl dX6_may_41 ?_
                  refine lv_iload X.1.1 X.1.2.1 dX6_may_44 (lv_at hl 5 rfl) ?_
                  obtain ⟨i_46, hE⟩ := ib_some hE
                  refine va_iald X.1.1 X.1.2.1 hK hP 9 0 rfl rfl i_46 dX6_may_46 ?_
                  refine lv_iload_n X.1.1 X.1.2.1 dX6_may_47 rfl (lv_at hl 1 rfl) ?_
                  refine lv_icmp_ne (tgt := 85) X.1.1 X.1.2.1 dX6_may_48 (by decide) (fun c_48 => ?_) (fun c_48 => ?_)
                  · have hE := ite_f hE c_48
                    refine lv_iconst (v := (iI 1)) X.1.1 X.1.2.1 dX6_may_85 rfl ?_
                    refine lv_goto (tgt := 90) X.1.1 X.1.2.1 dX6_may_86 (by decide) ?_
                    refine lv_istore (lv' := [(4, .int (iI 1)), (0, .ref m0), (1, .int v1), (2, .int v2_1002), (3, .int v3_1002), (5, .int v5_1003)]) X.1.1 X.1.2.1 dX6_may_90 hl (by decide) rfl (fun ls hl => ?_)
                    refine lv_iinc (v := (v5_1003 + (iI 1))) (lv' := [(5, .int (v5_1003 + (iI 1))), (4, .int (iI 1)), (0, .ref m0), (1, .int v1), (2, .int v2_1002), (3, .int v3_1002)]) X.1.1 X.1.2.1 dX6_may_92 hl (k := 5) rfl rfl (by decide) rfl (fun ls hl => ?_)
                    refine lv_goto (tgt := 26) X.1.1 X.1.2.1 dX6_may_95 (by decide) ?_
                    exact ih (iI 1) (v5_1003 + (iI 1)) ls (lv_sub hl [2, 3, 4, 5, 1, 0] rfl) hE
                  · have hE := ite_t hE c_48
                    refine lv_aload_n X.1.1 X.1.2.1 dX6_may_51 rfl (lv_at hl 0 rfl) ?_
                    refine lv_iload_n X.1.1 X.1.2.1 dX6_may_52 rfl (lv_at hl 3 rfl) ?_
                    refine lv_iload_n X.1.1 X.1.2.1 dX6_may_53 rfl (lv_at hl 1 rfl) ?_
                    refine lv_aload_n X.1.1 X.1.2.1 dX6_may_54 rfl (lv_at hl 0 rfl) ?_
                    refine gf6_37 X hK hP 0 rfl rfl dX6_may_55 ?_
                    refine lv_iload X.1.1 X.1.2.1 dX6_may_58 (lv_at hl 5 rfl) ?_
                    obtain ⟨i_60, hE⟩ := ib_some hE
                    refine va_iald X.1.1 X.1.2.1 hK hP 10 0 rfl rfl i_60 dX6_may_60 ?_
                    refine lv_bipush (v := (iI 15)) X.1.1 X.1.2.1 dX6_may_61 (by decide) ?_
                    obtain ⟨u1004, e_u1004, hE⟩ := bd_some hE
                    refine callRV (wsC := (wM cI cZ m0 m1 m2 m3 m4 m5 m6 m7 m8 m9 m10 m11 m12 m13 mwo mth mrn mrm mln mat mfa mac mnx mse msd mki mof mpu mno mrw mrt mtx mro mso msf msc mik mkt)) (As := [.int v3_1002, .int v1, .int (msf v5_1003.toNatClampNeg), .int (iI 15)]) (rest := []) (ci := 6) X (c6_comesBy (l := l) e_u1004) o6_comesBy tw702 ⟨rfl, rfl, Nat.le_of_ble_eq_true rfl, Nat.le_of_ble_eq_true rfl⟩ hP hK 0 rfl rfl rfl rfl hl rfl (by decide) ⟨Nat.le_refl _, Nat.le_refl _⟩ dX6_may_63 ?_
                    refine lv_aload_n X.1.1 X.1.2.1 dX6_may_66 rfl (lv_at hl 0 rfl) ?_
                    refine gf6_40 X hK hP 0 rfl rfl dX6_may_67 ?_
                    refine lv_iload X.1.1 X.1.2.1 dX6_may_70 (lv_at hl 5 rfl) ?_
                    obtain ⟨i_72, hE⟩ := ib_some hE
                    refine va_iald X.1.1 X.1.2.1 hK hP 11 0 rfl rfl i_72 dX6_may_72 ?_
                    refine lv_iconst (v := (iI 1)) X.1.1 X.1.2.1 dX6_may_73 rfl ?_
                    refine lv_icmp_ne (tgt := 81) X.1.1 X.1.2.1 dX6_may_74 (by decide) (fun c_74 => ?_) (fun c_74 => ?_)
                    · have hE := ite_f hE c_74
                      refine lv_iconst (v := (iI 0)) X.1.1 X.1.2.1 dX6_may_81 rfl ?_
                      refine lv_icmp_ne (tgt := 89) X.1.1 X.1.2.1 dX6_may_82 (by decide) (fun c_82 => ?_) (fun c_82 => ?_)
                      · have hE := ite_f hE c_82
                        refine lv_iconst (v := (iI 0)) X.1.1 X.1.2.1 dX6_may_89 rfl ?_
                        refine lv_istore (lv' := [(4, .int (iI 0)), (0, .ref m0), (1, .int v1), (2, .int v2_1002), (3, .int v3_1002), (5, .int v5_1003)]) X.1.1 X.1.2.1 dX6_may_90 hl (by decide) rfl (fun ls hl => ?_)
                        refine lv_iinc (v := (v5_1003 + (iI 1))) (lv' := [(5, .int (v5_1003 + (iI 1))), (4, .int (iI 0)), (0, .ref m0), (1, .int v1), (2, .int v2_1002), (3, .int v3_1002)]) X.1.1 X.1.2.1 dX6_may_92 hl (k := 5) rfl rfl (by decide) rfl (fun ls hl => ?_)
                        refine lv_goto (tgt := 26) X.1.1 X.1.2.1 dX6_may_95 (by decide) ?_
                        exact ih (iI 0) (v5_1003 + (iI 1)) ls (lv_sub hl [2, 3, 4, 5, 1, 0] rfl) hE
                      · have hE := ite_t hE c_82
                        refine lv_iconst (v := (iI 1)) X.1.1 X.1.2.1 dX6_may_85 rfl ?_
                        refine lv_goto (tgt := 90) X.1.1 X.1.2.1 dX6_may_86 (by decide) ?_
                        refine lv_istore (lv' := [(4, .int (iI 1)), (0, .ref m0), (1, .int v1), (2, .int v2_1002), (3, .int v3_1002), (5, .int v5_1003)]) X.1.1 X.1.2.1 dX6_may_90 hl (by decide) rfl (fun ls hl => ?_)
                        refine lv_iinc (v := (v5_1003 + (iI 1))) (lv' := [(5, .int (v5_1003 + (iI 1))), (4, .int (iI 1)), (0, .ref m0), (1, .int v1), (2, .int v2_1002), (3, .int v3_1002)]) X.1.1 X.1.2.1 dX6_may_92 hl (k := 5) rfl rfl (by decide) rfl (fun ls hl => ?_)
                        refine lv_goto (tgt := 26) X.1.1 X.1.2.1 dX6_may_95 (by decide) ?_
                        exact ih (iI 1) (v5_1003 + (iI 1)) ls (lv_sub hl [2, 3, 4, 5, 1, 0] rfl) hE
                    · have hE := ite_t hE c_74
                      refine lv_iconst (v := (iI 1)) X.1.1 X.1.2.1 dX6_may_77 rfl ?_
                      refine lv_goto (tgt := 82) X.1.1 X.1.2.1 dX6_may_78 (by decide) ?_
                      refine lv_icmp_ne (tgt := 89) X.1.1 X.1.2.1 dX6_may_82 (by decide) (fun c_82 => ?_) (fun c_82 => ?_)
                      · have hE := ite_f hE c_82
                        refine lv_iconst (v := (iI 0)) X.1.1 X.1.2.1 dX6_may_89 rfl ?_
                        refine lv_istore (lv' := [(4, .int (iI 0)), (0, .ref m0), (1, .int v1), (2, .int v2_1002), (3, .int v3_1002), (5, .int v5_1003)]) X.1.1 X.1.2.1 dX6_may_90 hl (by decide) rfl (fun ls hl => ?_)
                        refine lv_iinc (v := (v5_1003 + (iI 1))) (lv' := [(5, .int (v5_1003 + (iI 1))), (4, .int (iI 0)), (0, .ref m0), (1, .int v1), (2, .int v2_1002), (3, .int v3_1002)]) X.1.1 X.1.2.1 dX6_may_92 hl (k := 5) rfl rfl (by decide) rfl (fun ls hl => ?_)
                        refine lv_goto (tgt := 26) X.1.1 X.1.2.1 dX6_may_95 (by decide) ?_
                        exact ih (iI 0) (v5_1003 + (iI 1)) ls (lv_sub hl [2, 3, 4, 5, 1, 0] rfl) hE
                      · have hE := ite_t hE c_82
                        refine lv_iconst (v := (iI 1)) X.1.1 X.1.2.1 dX6_may_85 rfl ?_
                        refine lv_goto (tgt := 90) X.1.1 X.1.2.1 dX6_may_86 (by decide) ?_
                        refine lv_istore (lv' := [(4, .int (iI 1)), (0, .ref m0), (1, .int v1), (2, .int v2_1002), (3, .int v3_1002), (5, .int v5_1003)]) X.1.1 X.1.2.1 dX6_may_90 hl (by decide) rfl (fun ls hl => ?_)
                        refine lv_iinc (v := (v5_1003 + (iI 1))) (lv' := [(5, .int (v5_1003 + (iI 1))), (4, .int (iI 1)), (0, .ref m0), (1, .int v1), (2, .int v2_1002), (3, .int v3_1002)]) X.1.1 X.1.2.1 dX6_may_92 hl (k := 5) rfl rfl (by decide) rfl (fun ls hl => ?_)
                        refine lv_goto (tgt := 26) X.1.1 X.1.2.1 dX6_may_95 (by decide) ?_
                        exact ih (iI 1) (v5_1003 + (iI 1)) ls (lv_sub hl [2, 3, 4, 5, 1, 0] rfl) hE
          refine lp26 _ (fun v4_1003 v5_1003 ls hl hE => ?_) FU (iI 1) (iI 0) ls (lv_sub hl [2, 3, 4, 5, 1, 0] rfl) hE
          refine lv_iload_n X.1.1 X.1.2.1 dX6_may_98 rfl (lv_at hl 2 rfl) ?_
          refine lv_iload X.1.1 X.1.2.1 dX6_may_99 (lv_at hl 4 rfl) ?_
          refine lv_if_eq (tgt := 110) X.1.1 X.1.2.1 dX6_may_101 (by decide) (fun c_101 => ?_) (fun c_101 => ?_)
          · have hE := ite_t hE c_101
            refine lv_iconst (v := (iI 0)) X.1.1 X.1.2.1 dX6_may_110 rfl ?_
            refine lv_ior X.1.1 X.1.2.1 dX6_may_111 ?_
            refine lv_istore_n (lv' := [(2, .int (v2_1002 ||| (iI 0))), (0, .ref m0), (1, .int v1), (3, .int v3_1002), (4, .int v4_1003), (5, .int v5_1003)]) X.1.1 X.1.2.1 dX6_may_112 rfl hl (by decide) rfl (fun ls hl => ?_)
            refine lv_iinc (v := (v3_1002 + (iI 1))) (lv' := [(3, .int (v3_1002 + (iI 1))), (2, .int (v2_1002 ||| (iI 0))), (0, .ref m0), (1, .int v1), (4, .int v4_1003), (5, .int v5_1003)]) X.1.1 X.1.2.1 dX6_may_113 hl (k := 3) rfl rfl (by decide) rfl (fun ls hl => ?_)
            refine lv_goto (tgt := 14) X.1.1 X.1.2.1 dX6_may_116 (by decide) ?_
            exact ih (v2_1002 ||| (iI 0)) (v3_1002 + (iI 1)) ls (lv_sub hl [2, 3, 1, 0] rfl) hE
          · have hE := ite_f hE c_101
            refine lv_iconst (v := (iI 1)) X.1.1 X.1.2.1 dX6_may_104 rfl ?_
            refine lv_iload_n X.1.1 X.1.2.1 dX6_may_105 rfl (lv_at hl 3 rfl) ?_
            refine lv_ishl X.1.1 X.1.2.1 dX6_may_106 ?_
            refine lv_goto (tgt := 111) X.1.1 X.1.2.1 dX6_may_107 (by decide) ?_
            refine lv_ior X.1.1 X.1.2.1 dX6_may_111 ?_
            refine lv_istore_n (lv' := [(2, .int (v2_1002 ||| ((iI 1) <<< (v3_1002 &&& 31)))), (0, .ref m0), (1, .int v1), (3, .int v3_1002), (4, .int v4_1003), (5, .int v5_1003)]) X.1.1 X.1.2.1 dX6_may_112 rfl hl (by decide) rfl (fun ls hl => ?_)
            refine lv_iinc (v := (v3_1002 + (iI 1))) (lv' := [(3, .int (v3_1002 + (iI 1))), (2, .int (v2_1002 ||| ((iI 1) <<< (v3_1002 &&& 31)))), (0, .ref m0), (1, .int v1), (4, .int v4_1003), (5, .int v5_1003)]) X.1.1 X.1.2.1 dX6_may_113 hl (k := 3) rfl rfl (by decide) rfl (fun ls hl => ?_)
            refine lv_goto (tgt := 14) X.1.1 X.1.2.1 dX6_may_116 (by decide) ?_
            exact ih (v2_1002 ||| ((iI 1) <<< (v3_1002 &&& 31))) (v3_1002 + (iI 1)) ls (lv_sub hl [2, 3, 1, 0] rfl) hE
    refine lp14 _ (fun v2_1002 v3_1002 ls hl hE => ?_) FU (iI 0) (iI 0) ls (lv_sub hl [2, 3, 1, 0] rfl) hE
    refine lv_iload_n X.1.1 X.1.2.1 dX6_may_119 rfl (lv_at hl 2 rfl) ?_
    cases hE
    exact retR X dX6_may_120
  · have hE := ite_t hE c_5
    refine lv_iconst (v := (iI (-1))) X.1.1 X.1.2.1 dX6_may_8 rfl ?_
    cases hE
    exact retR X dX6_may_9
theorem o6_factorial : oS yX6_factorial cX6_factorial 3 (some .int) 1 := ⟨tw839, tw838, tw45, ⟨by decide +kernel, by decide +kernel⟩, by decide +kernel⟩
abbrev rm6_factorial : Room := { frames := 0, cells := 0, slots := 0, locals := 0 }
set_option maxHeartbeats 4000000 in
set_option maxRecDepth 100000 in
theorem c6_factorial {l : Launch} {G : va_G} {cI cZ : ClassId} {v0 : Int32} {u : Int32} (hE : f6_factorial v0 = some u) : Met l yX6_factorial (Cond.code yX6_factorial cX6_factorial 3 (some .int) :: TB) rm6_factorial (PcR G cI cZ [] ([.int v0] : List Value)) (QcRead u) 0 0 (fun _ => False) := by
  refine metR (own := RX6) (by decide +kernel) rfl (Nat.le_of_ble_eq_true rfl) ?_
  intro p e s m below meth c ls X hP hK hl
  have hl : lv_has ls 3 [(0, .int v0)] := hl
  unfold f6_factorial at hE
  refine lv_iconst (v := (iI 1)) X.1.1 X.1.2.1 dX6_factorial_0 rfl ?_
  refine lv_istore_n (lv' := [(1, .int (iI 1)), (0, .int v0)]) X.1.1 X.1.2.1 dX6_factorial_1 rfl hl (by decide) rfl (fun ls hl => ?_)
  refine lv_iconst (v := (iI 2)) X.1.1 X.1.2.1 dX6_factorial_2 rfl ?_
  refine lv_istore_n (lv' := [(2, .int (iI 2)), (1, .int (iI 1)), (0, .int v0)]) X.1.1 X.1.2.1 dX6_factorial_3 rfl hl (by decide) rfl (fun ls hl => ?_)
  have lp4 : ∀ (k : Int32 → Int32 → Option Int32), (∀ (v1_1001 : Int32) (v2_1001 : Int32) (ls : Array Slot), lv_has ls 3 [(0, .int v0), (1, .int v1_1001), (2, .int v2_1001)] → k v1_1001 v2_1001 = some u → W p l e rm6_factorial s m ([.int v0] : List Value).toArray below meth c s.heap [] 0 0 (MQ below (QcRead u) ([.int v0] : List Value).toArray s 0 0 (fun _ => False)) (F0 m 19 ls [])) → ∀ (n : Nat) (v1_1001 : Int32) (v2_1001 : Int32) (ls : Array Slot), lv_has ls 3 [(0, .int v0), (1, .int v1_1001), (2, .int v2_1001)] → l6_factorial_4 k v0 n v1_1001 v2_1001 = some u → W p l e rm6_factorial s m ([.int v0] : List Value).toArray below meth c s.heap [] 0 0 (MQ below (QcRead u) ([.int v0] : List Value).toArray s 0 0 (fun _ => False)) (F0 m 4 ls []) := by
    intro k hex n
    induction n with
    | zero =>
      intro v1_1001 v2_1001 ls hl hE
      exact absurd (show (none : Option Int32) = some u from hE) (fun h => by cases h)
    | succ n ih =>
      intro v1_1001 v2_1001 ls hl hE
      rw [l6_factorial_4] at hE
      refine lv_iload_n X.1.1 X.1.2.1 dX6_factorial_4 rfl (lv_at hl 2 rfl) ?_
      refine lv_iload_n X.1.1 X.1.2.1 dX6_factorial_5 rfl (lv_at hl 0 rfl) ?_
      refine lv_icmp_gt (tgt := 19) X.1.1 X.1.2.1 dX6_factorial_6 (by decide) (fun c_6 => ?_) (fun c_6 => ?_)
      · have hE := ite_t hE c_6
        exact hex v1_1001 v2_1001 ls (lv_sub hl [0, 1, 2] rfl) hE
      · have hE := ite_f hE c_6
        refine lv_iload_n X.1.1 X.1.2.1 dX6_factorial_9 rfl (lv_at hl 1 rfl) ?_
        refine lv_iload_n X.1.1 X.1.2.1 dX6_factorial_10 rfl (lv_at hl 2 rfl) ?_
        refine lv_imul X.1.1 X.1.2.1 dX6_factorial_11 ?_
        refine lv_istore_n (lv' := [(1, .int (v1_1001 * v2_1001)), (0, .int v0), (2, .int v2_1001)]) X.1.1 X.1.2.1 dX6_factorial_12 rfl hl (by decide) rfl (fun ls hl => ?_)
        refine lv_iinc (v := (v2_1001 + (iI 1))) (lv' := [(2, .int (v2_1001 + (iI 1))), (1, .int (v1_1001 * v2_1001)), (0, .int v0)]) X.1.1 X.1.2.1 dX6_factorial_13 hl (k := 2) rfl rfl (by decide) rfl (fun ls hl => ?_)
        refine lv_goto (tgt := 4) X.1.1 X.1.2.1 dX6_factorial_16 (by decide) ?_
        exact ih (v1_1001 * v2_1001) (v2_1001 + (iI 1)) ls (lv_sub hl [2, 1, 0] rfl) hE
  refine lp4 _ (fun v1_1001 v2_1001 ls hl hE => ?_) FU (iI 1) (iI 2) ls (lv_sub hl [2, 1, 0] rfl) hE
  refine lv_iload_n X.1.1 X.1.2.1 dX6_factorial_19 rfl (lv_at hl 1 rfl) ?_
  cases hE
  exact retR X dX6_factorial_20
theorem o6_common : oS yX6_common cX6_common 5 (some .int) 2 := ⟨tw846, tw845, tw45, ⟨by decide +kernel, by decide +kernel⟩, by decide +kernel⟩
abbrev rm6_common : Room := { frames := 0, cells := 0, slots := 0, locals := 0 }
set_option maxHeartbeats 4000000 in
set_option maxRecDepth 100000 in
theorem c6_common {l : Launch} {G : va_G} {cI cZ : ClassId} {v0 : Int32} {v1 : Int32} {u : Int32} (hE : f6_common v0 v1 = some u) : Met l yX6_common (Cond.code yX6_common cX6_common 5 (some .int) :: TB) rm6_common (PcR G cI cZ [] ([.int v0, .int v1] : List Value)) (QcRead u) 0 0 (fun _ => False) := by
  refine metR (own := RX6) (by decide +kernel) rfl (Nat.le_of_ble_eq_true rfl) ?_
  intro p e s m below meth c ls X hP hK hl
  have hl : lv_has ls 5 [(0, .int v0), (1, .int v1)] := hl
  unfold f6_common at hE
  refine lv_iload_n X.1.1 X.1.2.1 dX6_common_0 rfl (lv_at hl 0 rfl) ?_
  refine lv_if_ge (tgt := 9) X.1.1 X.1.2.1 dX6_common_1 (by decide) (fun c_1 => ?_) (fun c_1 => ?_)
  · have hE := ite_t hE c_1
    refine lv_iload_n X.1.1 X.1.2.1 dX6_common_9 rfl (lv_at hl 0 rfl) ?_
    refine lv_istore_n (lv' := [(2, .int v0), (0, .int v0), (1, .int v1)]) X.1.1 X.1.2.1 dX6_common_10 rfl hl (by decide) rfl (fun ls hl => ?_)
    refine lv_iload_n X.1.1 X.1.2.1 dX6_common_11 rfl (lv_at hl 2 rfl) ?_
    refine lv_istore_n (lv' := [(3, .int v1), (2, .int v0), (0, .int v0), (1, .int v1)]) X.1.1 X.1.2.1 dX6_common_12 rfl hl (by decide) rfl (fun ls hl => ?_)
    have lp13 : ∀ (k : Int32 → Int32 → Option Int32), (∀ (v2_1001 : Int32) (v3_1001 : Int32) (ls : Array Slot), lv_has ls 5 [(0, .int v0), (1, .int v1), (2, .int v2_1001), (3, .int v3_1001)] → k v2_1001 v3_1001 = some u → W p l e rm6_common s m ([.int v0, .int v1] : List Value).toArray below meth c s.heap [] 0 0 (MQ below (QcRead u) ([.int v0, .int v1] : List Value).toArray s 0 0 (fun _ => False)) (F0 m 30 ls [])) → ∀ (n : Nat) (v2_1001 : Int32) (v3_1001 : Int32) (ls : Array Slot), lv_has ls 5 [(0, .int v0), (1, .int v1), (2, .int v2_1001), (3, .int v3_1001)] → l6_common_13 k n v2_1001 v3_1001 = some u → W p l e rm6_common s m ([.int v0, .int v1] : List Value).toArray below meth c s.heap [] 0 0 (MQ below (QcRead u) ([.int v0, .int v1] : List Value).toArray s 0 0 (fun _ => False)) (F0 m 13 ls []) := by
      intro k hex n
      induction n with
      | zero =>
        intro v2_1001 v3_1001 ls hl hE
        exact absurd (show (none : Option Int32) = some u from hE) (fun h => by cases h)
      | succ n ih =>
        intro v2_1001 v3_1001 ls hl hE
        rw [l6_common_13] at hE
        refine lv_iload_n X.1.1 X.1.2.1 dX6_common_13 rfl (lv_at hl 3 rfl) ?_
        refine lv_if_eq (tgt := 30) X.1.1 X.1.2.1 dX6_common_14 (by decide) (fun c_14 => ?_) (fun c_14 => ?_)
        · have hE := ite_t hE c_14
          exact hex v2_1001 v3_1001 ls (lv_sub hl [0, 1, 2, 3] rfl) hE
        · have hE := ite_f hE c_14
          refine lv_iload_n X.1.1 X.1.2.1 dX6_common_17 rfl (lv_at hl 2 rfl) ?_
          refine lv_iload_n X.1.1 X.1.2.1 dX6_common_18 rfl (lv_at hl 3 rfl) ?_
          obtain ⟨g_19, hE⟩ := nz_some hE
          refine r_irem X.1.1 X.1.2.1 dX6_common_19 g_19 ?_
          refine lv_istore (lv' := [(4, .int (rmI v2_1001 v3_1001)), (0, .int v0), (1, .int v1), (2, .int v2_1001), (3, .int v3_1001)]) X.1.1 X.1.2.1 dX6_common_20 hl (by decide) rfl (fun ls hl => ?_)
          refine lv_iload_n X.1.1 X.1.2.1 dX6_common_22 rfl (lv_at hl 4 rfl) ?_
          refine lv_istore_n (lv' := [(2, .int v3_1001), (4, .int (rmI v2_1001 v3_1001)), (0, .int v0), (1, .int v1), (3, .int v3_1001)]) X.1.1 X.1.2.1 dX6_common_23 rfl hl (by decide) rfl (fun ls hl => ?_)
          refine lv_iload X.1.1 X.1.2.1 dX6_common_24 (lv_at hl 1 rfl) ?_
          refine lv_istore_n (lv' := [(3, .int (rmI v2_1001 v3_1001)), (2, .int v3_1001), (4, .int (rmI v2_1001 v3_1001)), (0, .int v0), (1, .int v1)]) X.1.1 X.1.2.1 dX6_common_26 rfl hl (by decide) rfl (fun ls hl => ?_)
          refine lv_goto (tgt := 13) X.1.1 X.1.2.1 dX6_common_27 (by decide) ?_
          exact ih v3_1001 (rmI v2_1001 v3_1001) ls (lv_sub hl [3, 4, 1, 0] rfl) hE
    refine lp13 _ (fun v2_1001 v3_1001 ls hl hE => ?_) FU v0 v1 ls (lv_sub hl [2, 3, 1, 0] rfl) hE
    refine lv_iload_n X.1.1 X.1.2.1 dX6_common_30 rfl (lv_at hl 2 rfl) ?_
    cases hE
    exact retR X dX6_common_31
  · have hE := ite_f hE c_1
    refine lv_iload_n X.1.1 X.1.2.1 dX6_common_4 rfl (lv_at hl 0 rfl) ?_
    refine lv_ineg X.1.1 X.1.2.1 dX6_common_5 ?_
    refine lv_goto (tgt := 10) X.1.1 X.1.2.1 dX6_common_6 (by decide) ?_
    refine lv_istore_n (lv' := [(2, .int (-v0)), (0, .int v0), (1, .int v1)]) X.1.1 X.1.2.1 dX6_common_10 rfl hl (by decide) rfl (fun ls hl => ?_)
    refine lv_iload_n X.1.1 X.1.2.1 dX6_common_11 rfl (lv_at hl 2 rfl) ?_
    refine lv_istore_n (lv' := [(3, .int v1), (2, .int (-v0)), (0, .int v0), (1, .int v1)]) X.1.1 X.1.2.1 dX6_common_12 rfl hl (by decide) rfl (fun ls hl => ?_)
    have lp13 : ∀ (k : Int32 → Int32 → Option Int32), (∀ (v2_1002 : Int32) (v3_1002 : Int32) (ls : Array Slot), lv_has ls 5 [(0, .int v0), (1, .int v1), (2, .int v2_1002), (3, .int v3_1002)] → k v2_1002 v3_1002 = some u → W p l e rm6_common s m ([.int v0, .int v1] : List Value).toArray below meth c s.heap [] 0 0 (MQ below (QcRead u) ([.int v0, .int v1] : List Value).toArray s 0 0 (fun _ => False)) (F0 m 30 ls [])) → ∀ (n : Nat) (v2_1002 : Int32) (v3_1002 : Int32) (ls : Array Slot), lv_has ls 5 [(0, .int v0), (1, .int v1), (2, .int v2_1002), (3, .int v3_1002)] → l6_common_13 k n v2_1002 v3_1002 = some u → W p l e rm6_common s m ([.int v0, .int v1] : List Value).toArray below meth c s.heap [] 0 0 (MQ below (QcRead u) ([.int v0, .int v1] : List Value).toArray s 0 0 (fun _ => False)) (F0 m 13 ls []) := by
      intro k hex n
      induction n with
      | zero =>
        intro v2_1002 v3_1002 ls hl hE
        exact absurd (show (none : Option Int32) = some u from hE) (fun h => by cases h)
      | succ n ih =>
        intro v2_1002 v3_1002 ls hl hE
        rw [l6_common_13] at hE
        refine lv_iload_n X.1.1 X.1.2.1 dX6_common_13 rfl (lv_at hl 3 rfl) ?_
        refine lv_if_eq (tgt := 30) X.1.1 X.1.2.1 dX6_common_14 (by decide) (fun c_14 => ?_) (fun c_14 => ?_)
        · have hE := ite_t hE c_14
          exact hex v2_1002 v3_1002 ls (lv_sub hl [0, 1, 2, 3] rfl) hE
        · have hE := ite_f hE c_14
          refine lv_iload_n X.1.1 X.1.2.1 dX6_common_17 rfl (lv_at hl 2 rfl) ?_
          refine lv_iload_n X.1.1 X.1.2.1 dX6_common_18 rfl (lv_at hl 3 rfl) ?_
          obtain ⟨g_19, hE⟩ := nz_some hE
          refine r_irem X.1.1 X.1.2.1 dX6_common_19 g_19 ?_
          refine lv_istore (lv' := [(4, .int (rmI v2_1002 v3_1002)), (0, .int v0), (1, .int v1), (2, .int v2_1002), (3, .int v3_1002)]) X.1.1 X.1.2.1 dX6_common_20 hl (by decide) rfl (fun ls hl => ?_)
          refine lv_iload_n X.1.1 X.1.2.1 dX6_common_22 rfl (lv_at hl 4 rfl) ?_
          refine lv_istore_n (lv' := [(2, .int v3_1002), (4, .int (rmI v2_1002 v3_1002)), (0, .int v0), (1, .int v1), (3, .int v3_1002)]) X.1.1 X.1.2.1 dX6_common_23 rfl hl (by decide) rfl (fun ls hl => ?_)
          refine lv_iload X.1.1 X.1.2.1 dX6_common_24 (lv_at hl 1 rfl) ?_
          refine lv_istore_n (lv' := [(3, .int (rmI v2_1002 v3_1002)), (2, .int v3_1002), (4, .int (rmI v2_1002 v3_1002)), (0, .int v0), (1, .int v1)]) X.1.1 X.1.2.1 dX6_common_26 rfl hl (by decide) rfl (fun ls hl => ?_)
          refine lv_goto (tgt := 13) X.1.1 X.1.2.1 dX6_common_27 (by decide) ?_
          exact ih v3_1002 (rmI v2_1002 v3_1002) ls (lv_sub hl [3, 4, 1, 0] rfl) hE
    refine lp13 _ (fun v2_1002 v3_1002 ls hl hE => ?_) FU (-v0) v1 ls (lv_sub hl [2, 3, 1, 0] rfl) hE
    refine lv_iload_n X.1.1 X.1.2.1 dX6_common_30 rfl (lv_at hl 2 rfl) ?_
    cases hE
    exact retR X dX6_common_31
theorem o6_reached : oV yX6_reached RX6 cX6_reached 6 (some .int) 1 := ⟨tw843, tw842, tw35, tw45, ⟨by decide +kernel, by decide +kernel⟩, by decide +kernel⟩
abbrev rm6_reached : Room := { frames := 4, cells := 0, slots := 0, locals := 93 }
set_option maxHeartbeats 4000000 in
set_option maxRecDepth 100000 in
theorem c6_reached {l : Launch} {G : va_G} {cI cZ : ClassId} {m0 m1 m2 m3 m4 m5 m6 m7 m8 m9 m10 m11 m12 m13 : Nat} {mwo : Int32} {mth : Int32} {mrn : Int32} {mrm : Int32} {mln : Int32} {mat : Int32} {mfa : Int32} {mac : Int32} {mnx : Int32} {mse : Int32} {msd : Int64} {mki : Nat → Int32} {mof : Nat → Int32} {mpu : Nat → Int32} {mno : Nat → Int32} {mrw : Nat → Int32} {mrt : Nat → Int32} {mtx : Nat → Int32} {mro : Nat → Int32} {mso : Nat → Int32} {msf : Nat → Int32} {msc : Nat → Int32} {mik : Nat → Int32} {mkt : Nat → Int32} {v1 : Int32} {u : Int32} (hE : f6_reached v1 mwo mth mki mof mpu mno = some u) : Met l yX6_reached (Cond.code yX6_reached cX6_reached 6 (some .int) :: TB) rm6_reached (PcR G cI cZ (wM cI cZ m0 m1 m2 m3 m4 m5 m6 m7 m8 m9 m10 m11 m12 m13 mwo mth mrn mrm mln mat mfa mac mnx mse msd mki mof mpu mno mrw mrt mtx mro mso msf msc mik mkt) ([.ref m0, .int v1] : List Value)) (QcRead u) 0 0 (fun _ => False) := by
  refine metR (own := RX6) (by decide +kernel) rfl (Nat.le_of_ble_eq_true rfl) ?_
  intro p e s m below meth c ls X hP hK hl
  have hl : lv_has ls 6 [(0, .ref m0), (1, .int v1)] := hl
  unfold f6_reached at hE
  refine lv_iconst (v := (iI 0)) X.1.1 X.1.2.1 dX6_reached_0 rfl ?_
  refine lv_istore_n (lv' := [(2, .int (iI 0)), (0, .ref m0), (1, .int v1)]) X.1.1 X.1.2.1 dX6_reached_1 rfl hl (by decide) rfl (fun ls hl => ?_)
  refine lv_iconst (v := (iI 0)) X.1.1 X.1.2.1 dX6_reached_2 rfl ?_
  refine lv_istore_n (lv' := [(3, .int (iI 0)), (2, .int (iI 0)), (0, .ref m0), (1, .int v1)]) X.1.1 X.1.2.1 dX6_reached_3 rfl hl (by decide) rfl (fun ls hl => ?_)
  have lp4 : ∀ (k : Int32 → Int32 → Option Int32), (∀ (v2_1001 : Int32) (v3_1001 : Int32) (ls : Array Slot), lv_has ls 6 [(0, .ref m0), (1, .int v1), (2, .int v2_1001), (3, .int v3_1001)] → k v2_1001 v3_1001 = some u → W p l e rm6_reached s m ([.ref m0, .int v1] : List Value).toArray below meth c s.heap [] 0 0 (MQ below (QcRead u) ([.ref m0, .int v1] : List Value).toArray s 0 0 (fun _ => False)) (F0 m 81 ls [])) → ∀ (n : Nat) (v2_1001 : Int32) (v3_1001 : Int32) (ls : Array Slot), lv_has ls 6 [(0, .ref m0), (1, .int v1), (2, .int v2_1001), (3, .int v3_1001)] → l6_reached_4 k v1 mwo mth mki mof mpu mno n v2_1001 v3_1001 = some u → W p l e rm6_reached s m ([.ref m0, .int v1] : List Value).toArray below meth c s.heap [] 0 0 (MQ below (QcRead u) ([.ref m0, .int v1] : List Value).toArray s 0 0 (fun _ => False)) (F0 m 4 ls []) := by
    intro k hex n
    induction n with
    | zero =>
      intro v2_1001 v3_1001 ls hl hE
      exact absurd (show (none : Option Int32) = some u from hE) (fun h => by cases h)
    | succ n ih =>
      intro v2_1001 v3_1001 ls hl hE
      rw [l6_reached_4] at hE
      refine lv_iload_n X.1.1 X.1.2.1 dX6_reached_4 rfl (lv_at hl 3 rfl) ?_
      refine lv_bipush (v := (iI 10)) X.1.1 X.1.2.1 dX6_reached_5 (by decide) ?_
      refine lv_icmp_ge (tgt := 81) X.1.1 X.1.2.1 dX6_reached_7 (by decide) (fun c_7 => ?_) (fun c_7 => ?_)
      · have hE := ite_t hE c_7
        exact hex v2_1001 v3_1001 ls (lv_sub hl [0, 1, 2, 3] rfl) hE
      · have hE := ite_f hE c_7
        refine lv_iconst (v := (iI 0)) X.1.1 X.1.2.1 dX6_reached_10 rfl ?_
        refine lv_istore (lv' := [(4, .int (iI 0)), (0, .ref m0), (1, .int v1), (2, .int v2_1001), (3, .int v3_1001)]) X.1.1 X.1.2.1 dX6_reached_11 hl (by decide) rfl (fun ls hl => ?_)
        refine lv_iconst (v := (iI 0)) X.1.1 X.1.2.1 dX6_reached_13 rfl ?_
        refine lv_istore (lv' := [(5, .int (iI 0)), (4, .int (iI 0)), (0, .ref m0), (1, .int v1), (2, .int v2_1001), (3, .int v3_1001)]) X.1.1 X.1.2.1 dX6_reached_14 hl (by decide) rfl (fun ls hl => ?_)
        have lp16 : ∀ (k : Int32 → Int32 → Option Int32), (∀ (v4_1002 : Int32) (v5_1002 : Int32) (ls : Array Slot), lv_has ls 6 [(0, .ref m0), (1, .int v1), (2, .int v2_1001), (3, .int v3_1001), (4, .int v4_1002), (5, .int v5_1002)] → k v4_1002 v5_1002 = some u → W p l e rm6_reached s m ([.ref m0, .int v1] : List Value).toArray below meth c s.heap [] 0 0 (MQ below (QcRead u) ([.ref m0, .int v1] : List Value).toArray s 0 0 (fun _ => False)) (F0 m 62 ls [])) → ∀ (n : Nat) (v4_1002 : Int32) (v5_1002 : Int32) (ls : Array Slot), lv_has ls 6 [(0, .ref m0), (1, .int v1), (2, .int v2_1001), (3, .int v3_1001), (4, .int v4_1002), (5, .int v5_1002)] → l6_reached_16 k v1 v3_1001 mwo mth mki mof mpu mno n v4_1002 v5_1002 = some u → W p l e rm6_reached s m ([.ref m0, .int v1] : List Value).toArray below meth c s.heap [] 0 0 (MQ below (QcRead u) ([.ref m0, .int v1] : List Value).toArray s 0 0 (fun _ => False)) (F0 m 16 ls []) := by
          intro k hex n
          induction n with
          | zero =>
            intro v4_1002 v5_1002 ls hl hE
            exact absurd (show (none : Option Int32) = some u from hE) (fun h => by cases h)
          | succ n ih =>
            intro v4_1002 v5_1002 ls hl hE
            rw [l6_reached_16] at hE
            refine lv_iload X.1.1 X.1.2.1 dX6_reached_16 (lv_at hl 5 rfl) ?_
            refine lv_aload_n X.1.1 X.1.2.1 dX6_reached_18 rfl (lv_at hl 0 rfl) ?_
            refine gf6_80 X hK hP 0 rfl rfl dX6_reached_19 ?_
            refine lv_icmp_ge (tgt := 62) X.1.1 X.1.2.1 dX6_reached_22 (by decide) (fun c_22 => ?_) (fun c_22 => ?_)
            · have hE := ite_t hE c_22
              exact hex v4_1002 v5_1002 ls (lv_sub hl [0, 1, 2, 3, 4, 5] rfl) hE
            · have hE := ite_f hE c_22
              refine lv_iload X.1.1 X.1.2.1 dX6_reached_25 (lv_at hl 4 rfl) ?_
              refine lv_if_ne (tgt := 49) X.1.1 X.1.2.1 dX6_reached_27 (by decide) (fun c_27 => ?_) (fun c_27 => ?_)
              · have hE := ite_f hE c_27
                refine lv_iconst (v := (iI 1)) X.1.1 X.1.2.1 dX6_reached_49 rfl ?_
                refine lv_goto (tgt := 54) X.1.1 X.1.2.1 dX6_reached_50 (by decide) ?_
                refine lv_istore (lv' := [(4, .int (iI 1)), (0, .ref m0), (1, .int v1), (2, .int v2_1001), (3, .int v3_1001), (5, .int v5_1002)]) X.1.1 X.1.2.1 dX6_reached_54 hl (by decide) rfl (fun ls hl => ?_)
                refine lv_iinc (v := (v5_1002 + (iI 1))) (lv' := [(5, .int (v5_1002 + (iI 1))), (4, .int (iI 1)), (0, .ref m0), (1, .int v1), (2, .int v2_1001), (3, .int v3_1001)]) X.1.1 X.1.2.1 dX6_reached_56 hl (k := 5) rfl rfl (by decide) rfl (fun ls hl => ?_)
                refine lv_goto (tgt := 16) X.1.1 X.1.2.1 dX6_reached_59 (by decide) ?_
                exact ih (iI 1) (v5_1002 + (iI 1)) ls (lv_sub hl [2, 3, 4, 5, 1, 0] rfl) hE
              · have hE := ite_t hE c_27
                refine lv_iload_n X.1.1 X.1.2.1 dX6_reached_30 rfl (lv_at hl 1 rfl) ?_
                refine lv_iload X.1.1 X.1.2.1 dX6_reached_31 (lv_at hl 5 rfl) ?_
                obtain ⟨u1003, e_u1003, hE⟩ := bd_some hE
                refine callRS (wsC := []) (As := [.int v1, .int v5_1002]) (rest := []) (cI := cI) (cZ := cZ) X (c6_has (l := l) (G := G) (cI := cI) (cZ := cZ) e_u1003) o6_has tw710 ⟨rfl, rfl, Nat.le_of_ble_eq_true rfl, Nat.le_of_ble_eq_true rfl⟩ va_P_nil hK rfl hl rfl (by decide) ⟨Nat.le_refl _, Nat.le_refl _⟩ dX6_reached_33 ?_
                refine lv_if_eq (tgt := 53) X.1.1 X.1.2.1 dX6_reached_36 (by decide) (fun c_36 => ?_) (fun c_36 => ?_)
                · have hE := ite_t hE c_36
                  refine lv_iconst (v := (iI 0)) X.1.1 X.1.2.1 dX6_reached_53 rfl ?_
                  refine lv_istore (lv' := [(4, .int (iI 0)), (0, .ref m0), (1, .int v1), (2, .int v2_1001), (3, .int v3_1001), (5, .int v5_1002)]) X.1.1 X.1.2.1 dX6_reached_54 hl (by decide) rfl (fun ls hl => ?_)
                  refine lv_iinc (v := (v5_1002 + (iI 1))) (lv' := [(5, .int (v5_1002 + (iI 1))), (4, .int (iI 0)), (0, .ref m0), (1, .int v1), (2, .int v2_1001), (3, .int v3_1001)]) X.1.1 X.1.2.1 dX6_reached_56 hl (k := 5) rfl rfl (by decide) rfl (fun ls hl => ?_)
                  refine lv_goto (tgt := 16) X.1.1 X.1.2.1 dX6_reached_59 (by decide) ?_
                  exact ih (iI 0) (v5_1002 + (iI 1)) ls (lv_sub hl [2, 3, 4, 5, 1, 0] rfl) hE
                · have hE := ite_f hE c_36
                  refine lv_aload_n X.1.1 X.1.2.1 dX6_reached_39 rfl (lv_at hl 0 rfl) ?_
                  refine lv_iload X.1.1 X.1.2.1 dX6_reached_40 (lv_at hl 5 rfl) ?_
                  refine lv_iload_n X.1.1 X.1.2.1 dX6_reached_42 rfl (lv_at hl 3 rfl) ?_
                  obtain ⟨u1004, e_u1004, hE⟩ := bd_some hE
                  refine callRV (wsC := (wM cI cZ m0 m1 m2 m3 m4 m5 m6 m7 m8 m9 m10 m11 m12 m13 mwo mth mrn mrm mln mat mfa mac mnx mse msd mki mof mpu mno mrw mrt mtx mro mso msf msc mik mkt)) (As := [.int v5_1002, .int v3_1001]) (rest := []) (ci := 6) X (c6_comesNow (l := l) e_u1004) o6_comesNow tw698 ⟨rfl, rfl, Nat.le_of_ble_eq_true rfl, Nat.le_of_ble_eq_true rfl⟩ hP hK 0 rfl rfl rfl rfl hl rfl (by decide) ⟨Nat.le_refl _, Nat.le_refl _⟩ dX6_reached_43 ?_
                  refine lv_if_eq (tgt := 53) X.1.1 X.1.2.1 dX6_reached_46 (by decide) (fun c_46 => ?_) (fun c_46 => ?_)
                  · have hE := ite_t hE c_46
                    refine lv_iconst (v := (iI 0)) X.1.1 X.1.2.1 dX6_reached_53 rfl ?_
                    refine lv_istore (lv' := [(4, .int (iI 0)), (0, .ref m0), (1, .int v1), (2, .int v2_1001), (3, .int v3_1001), (5, .int v5_1002)]) X.1.1 X.1.2.1 dX6_reached_54 hl (by decide) rfl (fun ls hl => ?_)
                    refine lv_iinc (v := (v5_1002 + (iI 1))) (lv' := [(5, .int (v5_1002 + (iI 1))), (4, .int (iI 0)), (0, .ref m0), (1, .int v1), (2, .int v2_1001), (3, .int v3_1001)]) X.1.1 X.1.2.1 dX6_reached_56 hl (k := 5) rfl rfl (by decide) rfl (fun ls hl => ?_)
                    refine lv_goto (tgt := 16) X.1.1 X.1.2.1 dX6_reached_59 (by decide) ?_
                    exact ih (iI 0) (v5_1002 + (iI 1)) ls (lv_sub hl [2, 3, 4, 5, 1, 0] rfl) hE
                  · have hE := ite_f hE c_46
                    refine lv_iconst (v := (iI 1)) X.1.1 X.1.2.1 dX6_reached_49 rfl ?_
                    refine lv_goto (tgt := 54) X.1.1 X.1.2.1 dX6_reached_50 (by decide) ?_
                    refine lv_istore (lv' := [(4, .int (iI 1)), (0, .ref m0), (1, .int v1), (2, .int v2_1001), (3, .int v3_1001), (5, .int v5_1002)]) X.1.1 X.1.2.1 dX6_reached_54 hl (by decide) rfl (fun ls hl => ?_)
                    refine lv_iinc (v := (v5_1002 + (iI 1))) (lv' := [(5, .int (v5_1002 + (iI 1))), (4, .int (iI 1)), (0, .ref m0), (1, .int v1), (2, .int v2_1001), (3, .int v3_1001)]) X.1.1 X.1.2.1 dX6_reached_56 hl (k := 5) rfl rfl (by decide) rfl (fun ls hl => ?_)
                    refine lv_goto (tgt := 16) X.1.1 X.1.2.1 dX6_reached_59 (by decide) ?_
                    exact ih (iI 1) (v5_1002 + (iI 1)) ls (lv_sub hl [2, 3, 4, 5, 1, 0] rfl) hE
        refine lp16 _ (fun v4_1002 v5_1002 ls hl hE => ?_) FU (iI 0) (iI 0) ls (lv_sub hl [2, 3, 4, 5, 1, 0] rfl) hE
        refine lv_iload_n X.1.1 X.1.2.1 dX6_reached_62 rfl (lv_at hl 2 rfl) ?_
        refine lv_iload X.1.1 X.1.2.1 dX6_reached_63 (lv_at hl 4 rfl) ?_
        refine lv_if_eq (tgt := 72) X.1.1 X.1.2.1 dX6_reached_65 (by decide) (fun c_65 => ?_) (fun c_65 => ?_)
        · have hE := ite_t hE c_65
          refine lv_iconst (v := (iI 0)) X.1.1 X.1.2.1 dX6_reached_72 rfl ?_
          refine lv_iadd X.1.1 X.1.2.1 dX6_reached_73 ?_
          refine lv_istore_n (lv' := [(2, .int (v2_1001 + (iI 0))), (0, .ref m0), (1, .int v1), (3, .int v3_1001), (4, .int v4_1002), (5, .int v5_1002)]) X.1.1 X.1.2.1 dX6_reached_74 rfl hl (by decide) rfl (fun ls hl => ?_)
          refine lv_iinc (v := (v3_1001 + (iI 1))) (lv' := [(3, .int (v3_1001 + (iI 1))), (2, .int (v2_1001 + (iI 0))), (0, .ref m0), (1, .int v1), (4, .int v4_1002), (5, .int v5_1002)]) X.1.1 X.1.2.1 dX6_reached_75 hl (k := 3) rfl rfl (by decide) rfl (fun ls hl => ?_)
          refine lv_goto (tgt := 4) X.1.1 X.1.2.1 dX6_reached_78 (by decide) ?_
          exact ih (v2_1001 + (iI 0)) (v3_1001 + (iI 1)) ls (lv_sub hl [2, 3, 1, 0] rfl) hE
        · have hE := ite_f hE c_65
          refine lv_iconst (v := (iI 1)) X.1.1 X.1.2.1 dX6_reached_68 rfl ?_
          refine lv_goto (tgt := 73) X.1.1 X.1.2.1 dX6_reached_69 (by decide) ?_
          refine lv_iadd X.1.1 X.1.2.1 dX6_reached_73 ?_
          refine lv_istore_n (lv' := [(2, .int (v2_1001 + (iI 1))), (0, .ref m0), (1, .int v1), (3, .int v3_1001), (4, .int v4_1002), (5, .int v5_1002)]) X.1.1 X.1.2.1 dX6_reached_74 rfl hl (by decide) rfl (fun ls hl => ?_)
          refine lv_iinc (v := (v3_1001 + (iI 1))) (lv' := [(3, .int (v3_1001 + (iI 1))), (2, .int (v2_1001 + (iI 1))), (0, .ref m0), (1, .int v1), (4, .int v4_1002), (5, .int v5_1002)]) X.1.1 X.1.2.1 dX6_reached_75 hl (k := 3) rfl rfl (by decide) rfl (fun ls hl => ?_)
          refine lv_goto (tgt := 4) X.1.1 X.1.2.1 dX6_reached_78 (by decide) ?_
          exact ih (v2_1001 + (iI 1)) (v3_1001 + (iI 1)) ls (lv_sub hl [2, 3, 1, 0] rfl) hE
  refine lp4 _ (fun v2_1001 v3_1001 ls hl hE => ?_) FU (iI 0) (iI 0) ls (lv_sub hl [2, 3, 1, 0] rfl) hE
  refine lv_iload_n X.1.1 X.1.2.1 dX6_reached_81 rfl (lv_at hl 2 rfl) ?_
  cases hE
  exact retR X dX6_reached_82
theorem o6_share : oV yX6_share RX6 cX6_share 6 (some .int) 2 := ⟨tw833, tw831, tw832, tw45, ⟨by decide +kernel, by decide +kernel⟩, by decide +kernel⟩
abbrev rm6_share : Room := { frames := 5, cells := 0, slots := 0, locals := 118 }
set_option maxHeartbeats 4000000 in
set_option maxRecDepth 100000 in
theorem c6_share {l : Launch} {G : va_G} {cI cZ : ClassId} {m0 m1 m2 m3 m4 m5 m6 m7 m8 m9 m10 m11 m12 m13 : Nat} {mwo : Int32} {mth : Int32} {mrn : Int32} {mrm : Int32} {mln : Int32} {mat : Int32} {mfa : Int32} {mac : Int32} {mnx : Int32} {mse : Int32} {msd : Int64} {mki : Nat → Int32} {mof : Nat → Int32} {mpu : Nat → Int32} {mno : Nat → Int32} {mrw : Nat → Int32} {mrt : Nat → Int32} {mtx : Nat → Int32} {mro : Nat → Int32} {mso : Nat → Int32} {msf : Nat → Int32} {msc : Nat → Int32} {mik : Nat → Int32} {mkt : Nat → Int32} {v1 : Int32} {v2 : Int32} {u : Int32} (hE : f6_share v1 v2 mwo mth mki mof mpu mno = some u) : Met l yX6_share (Cond.code yX6_share cX6_share 6 (some .int) :: TB) rm6_share (PcR G cI cZ (wM cI cZ m0 m1 m2 m3 m4 m5 m6 m7 m8 m9 m10 m11 m12 m13 mwo mth mrn mrm mln mat mfa mac mnx mse msd mki mof mpu mno mrw mrt mtx mro mso msf msc mik mkt) ([.ref m0, .int v1, .int v2] : List Value)) (QcRead u) 0 0 (fun _ => False) := by
  refine metR (own := RX6) (by decide +kernel) rfl (Nat.le_of_ble_eq_true rfl) ?_
  intro p e s m below meth c ls X hP hK hl
  have hl : lv_has ls 6 [(0, .ref m0), (1, .int v1), (2, .int v2)] := hl
  unfold f6_share at hE
  refine lv_aload_n X.1.1 X.1.2.1 dX6_share_0 rfl (lv_at hl 0 rfl) ?_
  refine lv_iload_n X.1.1 X.1.2.1 dX6_share_1 rfl (lv_at hl 1 rfl) ?_
  obtain ⟨u1001, e_u1001, hE⟩ := bd_some hE
  refine callRV (wsC := (wM cI cZ m0 m1 m2 m3 m4 m5 m6 m7 m8 m9 m10 m11 m12 m13 mwo mth mrn mrm mln mat mfa mac mnx mse msd mki mof mpu mno mrw mrt mtx mro mso msf msc mik mkt)) (As := [.int v1]) (rest := []) (ci := 6) X (c6_isWord (l := l) e_u1001) o6_isWord tw690 ⟨rfl, rfl, Nat.le_of_ble_eq_true rfl, Nat.le_of_ble_eq_true rfl⟩ hP hK 0 rfl rfl rfl rfl hl rfl (by decide) ⟨Nat.le_refl _, Nat.le_refl _⟩ dX6_share_2 ?_
  refine lv_if_ne (tgt := 10) X.1.1 X.1.2.1 dX6_share_5 (by decide) (fun c_5 => ?_) (fun c_5 => ?_)
  · have hE := ite_f hE c_5
    refine lv_iconst (v := (iI 0)) X.1.1 X.1.2.1 dX6_share_10 rfl ?_
    refine lv_istore_n (lv' := [(3, .int (iI 0)), (0, .ref m0), (1, .int v1), (2, .int v2)]) X.1.1 X.1.2.1 dX6_share_11 rfl hl (by decide) rfl (fun ls hl => ?_)
    refine lv_iconst (v := (iI 0)) X.1.1 X.1.2.1 dX6_share_12 rfl ?_
    refine lv_istore (lv' := [(4, .int (iI 0)), (3, .int (iI 0)), (0, .ref m0), (1, .int v1), (2, .int v2)]) X.1.1 X.1.2.1 dX6_share_13 hl (by decide) rfl (fun ls hl => ?_)
    have lp15 : ∀ (k : Int32 → Int32 → Option Int32), (∀ (v3_1002 : Int32) (v4_1002 : Int32) (ls : Array Slot), lv_has ls 6 [(0, .ref m0), (1, .int v1), (2, .int v2), (3, .int v3_1002), (4, .int v4_1002)] → k v3_1002 v4_1002 = some u → W p l e rm6_share s m ([.ref m0, .int v1, .int v2] : List Value).toArray below meth c s.heap [] 0 0 (MQ below (QcRead u) ([.ref m0, .int v1, .int v2] : List Value).toArray s 0 0 (fun _ => False)) (F0 m 90 ls [])) → ∀ (n : Nat) (v3_1002 : Int32) (v4_1002 : Int32) (ls : Array Slot), lv_has ls 6 [(0, .ref m0), (1, .int v1), (2, .int v2), (3, .int v3_1002), (4, .int v4_1002)] → l6_share_15 k v1 mwo mth mki mof mpu mno n v3_1002 v4_1002 = some u → W p l e rm6_share s m ([.ref m0, .int v1, .int v2] : List Value).toArray below meth c s.heap [] 0 0 (MQ below (QcRead u) ([.ref m0, .int v1, .int v2] : List Value).toArray s 0 0 (fun _ => False)) (F0 m 15 ls []) := by
      intro k hex n
      induction n with
      | zero =>
        intro v3_1002 v4_1002 ls hl hE
        exact absurd (show (none : Option Int32) = some u from hE) (fun h => by cases h)
      | succ n ih =>
        intro v3_1002 v4_1002 ls hl hE
        rw [l6_share_15] at hE
        refine lv_iload X.1.1 X.1.2.1 dX6_share_15 (lv_at hl 4 rfl) ?_
        refine lv_iconst (v := (iI 1)) X.1.1 X.1.2.1 dX6_share_17 rfl ?_
        refine lv_aload_n X.1.1 X.1.2.1 dX6_share_18 rfl (lv_at hl 0 rfl) ?_
        refine gf6_80 X hK hP 0 rfl rfl dX6_share_19 ?_
        refine lv_ishl X.1.1 X.1.2.1 dX6_share_22 ?_
        refine lv_icmp_ge (tgt := 90) X.1.1 X.1.2.1 dX6_share_23 (by decide) (fun c_23 => ?_) (fun c_23 => ?_)
        · have hE := ite_t hE c_23
          exact hex v3_1002 v4_1002 ls (lv_sub hl [0, 1, 2, 3, 4] rfl) hE
        · have hE := ite_f hE c_23
          refine lv_iload X.1.1 X.1.2.1 dX6_share_26 (lv_at hl 4 rfl) ?_
          refine lv_iload_n X.1.1 X.1.2.1 dX6_share_28 rfl (lv_at hl 1 rfl) ?_
          obtain ⟨u1003, e_u1003, hE⟩ := bd_some hE
          refine callRS (wsC := []) (As := [.int v4_1002, .int v1]) (rest := []) (cI := cI) (cZ := cZ) X (c6_has (l := l) (G := G) (cI := cI) (cZ := cZ) e_u1003) o6_has tw710 ⟨rfl, rfl, Nat.le_of_ble_eq_true rfl, Nat.le_of_ble_eq_true rfl⟩ va_P_nil hK rfl hl rfl (by decide) ⟨Nat.le_refl _, Nat.le_refl _⟩ dX6_share_29 ?_
          refine lv_if_ne (tgt := 84) X.1.1 X.1.2.1 dX6_share_32 (by decide) (fun c_32 => ?_) (fun c_32 => ?_)
          · have hE := ite_f hE c_32
            refine lv_iinc (v := (v4_1002 + (iI 1))) (lv' := [(4, .int (v4_1002 + (iI 1))), (0, .ref m0), (1, .int v1), (2, .int v2), (3, .int v3_1002)]) X.1.1 X.1.2.1 dX6_share_84 hl (k := 4) rfl rfl (by decide) rfl (fun ls hl => ?_)
            refine lv_goto (tgt := 15) X.1.1 X.1.2.1 dX6_share_87 (by decide) ?_
            exact ih v3_1002 (v4_1002 + (iI 1)) ls (lv_sub hl [1, 2, 3, 4, 0] rfl) hE
          · have hE := ite_t hE c_32
            refine lv_iload X.1.1 X.1.2.1 dX6_share_35 (lv_at hl 4 rfl) ?_
            obtain ⟨u1004, e_u1004, hE⟩ := bd_some hE
            refine callRS (wsC := []) (As := [.int v4_1002]) (rest := []) (cI := cI) (cZ := cZ) X (c6_ones (l := l) (G := G) (cI := cI) (cZ := cZ) e_u1004) o6_ones tw834 ⟨rfl, rfl, Nat.le_of_ble_eq_true rfl, Nat.le_of_ble_eq_true rfl⟩ va_P_nil hK rfl hl rfl (by decide) ⟨Nat.le_refl _, Nat.le_refl _⟩ dX6_share_37 ?_
            obtain ⟨u1005, e_u1005, hE⟩ := bd_some hE
            refine callRS (wsC := []) (As := [.int u1004]) (rest := []) (cI := cI) (cZ := cZ) X (c6_factorial (l := l) (G := G) (cI := cI) (cZ := cZ) e_u1005) o6_factorial tw837 ⟨rfl, rfl, Nat.le_of_ble_eq_true rfl, Nat.le_of_ble_eq_true rfl⟩ va_P_nil hK rfl hl rfl (by decide) ⟨Nat.le_refl _, Nat.le_refl _⟩ dX6_share_40 ?_
            refine lv_aload_n X.1.1 X.1.2.1 dX6_share_43 rfl (lv_at hl 0 rfl) ?_
            refine gf6_80 X hK hP 0 rfl rfl dX6_share_44 ?_
            refine lv_iconst (v := (iI 1)) X.1.1 X.1.2.1 dX6_share_47 rfl ?_
            refine lv_isub X.1.1 X.1.2.1 dX6_share_48 ?_
            refine lv_iload X.1.1 X.1.2.1 dX6_share_49 (lv_at hl 4 rfl) ?_
            obtain ⟨u1006, e_u1006, hE⟩ := bd_some hE
            refine callRS (wsC := []) (As := [.int v4_1002]) (rest := [.int (mwo - (iI 1)), .int u1005]) (cI := cI) (cZ := cZ) X (c6_ones (l := l) (G := G) (cI := cI) (cZ := cZ) e_u1006) o6_ones tw834 ⟨rfl, rfl, Nat.le_of_ble_eq_true rfl, Nat.le_of_ble_eq_true rfl⟩ va_P_nil hK rfl hl rfl (Nat.le_of_ble_eq_true rfl) ⟨Nat.le_refl _, Nat.le_refl _⟩ dX6_share_51 ?_
            refine lv_isub X.1.1 X.1.2.1 dX6_share_54 ?_
            obtain ⟨u1007, e_u1007, hE⟩ := bd_some hE
            refine callRS (wsC := []) (As := [.int ((mwo - (iI 1)) - u1006)]) (rest := [.int u1005]) (cI := cI) (cZ := cZ) X (c6_factorial (l := l) (G := G) (cI := cI) (cZ := cZ) e_u1007) o6_factorial tw837 ⟨rfl, rfl, Nat.le_of_ble_eq_true rfl, Nat.le_of_ble_eq_true rfl⟩ va_P_nil hK rfl hl rfl (Nat.le_of_ble_eq_true rfl) ⟨Nat.le_refl _, Nat.le_refl _⟩ dX6_share_55 ?_
            refine lv_imul X.1.1 X.1.2.1 dX6_share_58 ?_
            refine lv_istore (lv' := [(5, .int (u1005 * u1007)), (0, .ref m0), (1, .int v1), (2, .int v2), (3, .int v3_1002), (4, .int v4_1002)]) X.1.1 X.1.2.1 dX6_share_59 hl (by decide) rfl (fun ls hl => ?_)
            refine lv_iload_n X.1.1 X.1.2.1 dX6_share_61 rfl (lv_at hl 4 rfl) ?_
            refine lv_iload X.1.1 X.1.2.1 dX6_share_62 (lv_at hl 0 rfl) ?_
            refine lv_aload_n X.1.1 X.1.2.1 dX6_share_64 rfl (lv_at hl 1 rfl) ?_
            refine lv_iload X.1.1 X.1.2.1 dX6_share_65 (lv_at hl 5 rfl) ?_
            refine lv_iconst (v := (iI 1)) X.1.1 X.1.2.1 dX6_share_67 rfl ?_
            refine lv_iload_n X.1.1 X.1.2.1 dX6_share_68 rfl (lv_at hl 2 rfl) ?_
            refine lv_ishl X.1.1 X.1.2.1 dX6_share_69 ?_
            refine lv_ior X.1.1 X.1.2.1 dX6_share_70 ?_
            obtain ⟨u1008, e_u1008, hE⟩ := bd_some hE
            refine callRV (wsC := (wM cI cZ m0 m1 m2 m3 m4 m5 m6 m7 m8 m9 m10 m11 m12 m13 mwo mth mrn mrm mln mat mfa mac mnx mse msd mki mof mpu mno mrw mrt mtx mro mso msf msc mik mkt)) (As := [.int (v4_1002 ||| ((iI 1) <<< (v1 &&& 31)))]) (rest := [.int (u1005 * u1007), .int v3_1002]) (ci := 6) X (c6_reached (l := l) e_u1008) o6_reached tw840 ⟨rfl, rfl, Nat.le_of_ble_eq_true rfl, Nat.le_of_ble_eq_true rfl⟩ hP hK 0 rfl rfl rfl rfl hl rfl (Nat.le_of_ble_eq_true rfl) ⟨Nat.le_refl _, Nat.le_refl _⟩ dX6_share_71 ?_
            refine lv_aload_n X.1.1 X.1.2.1 dX6_share_74 rfl (lv_at hl 1 rfl) ?_
            refine lv_iload X.1.1 X.1.2.1 dX6_share_75 (lv_at hl 5 rfl) ?_
            obtain ⟨u1009, e_u1009, hE⟩ := bd_some hE
            refine callRV (wsC := (wM cI cZ m0 m1 m2 m3 m4 m5 m6 m7 m8 m9 m10 m11 m12 m13 mwo mth mrn mrm mln mat mfa mac mnx mse msd mki mof mpu mno mrw mrt mtx mro mso msf msc mik mkt)) (As := [.int v4_1002]) (rest := [.int u1008, .int (u1005 * u1007), .int v3_1002]) (ci := 6) X (c6_reached (l := l) e_u1009) o6_reached tw840 ⟨rfl, rfl, Nat.le_of_ble_eq_true rfl, Nat.le_of_ble_eq_true rfl⟩ hP hK 0 rfl rfl rfl rfl hl rfl (Nat.le_of_ble_eq_true rfl) ⟨Nat.le_refl _, Nat.le_refl _⟩ dX6_share_77 ?_
            refine lv_isub X.1.1 X.1.2.1 dX6_share_80 ?_
            refine lv_imul X.1.1 X.1.2.1 dX6_share_81 ?_
            refine lv_iadd X.1.1 X.1.2.1 dX6_share_82 ?_
            refine lv_istore_n (lv' := [(3, .int (v3_1002 + ((u1005 * u1007) * (u1008 - u1009)))), (5, .int (u1005 * u1007)), (0, .ref m0), (1, .int v1), (2, .int v2), (4, .int v4_1002)]) X.1.1 X.1.2.1 dX6_share_83 rfl hl (by decide) rfl (fun ls hl => ?_)
            refine lv_iinc (v := (v4_1002 + (iI 1))) (lv' := [(4, .int (v4_1002 + (iI 1))), (3, .int (v3_1002 + ((u1005 * u1007) * (u1008 - u1009)))), (5, .int (u1005 * u1007)), (0, .ref m0), (1, .int v1), (2, .int v2)]) X.1.1 X.1.2.1 dX6_share_84 hl (k := 5) rfl rfl (by decide) rfl (fun ls hl => ?_)
            refine lv_goto (tgt := 15) X.1.1 X.1.2.1 dX6_share_87 (by decide) ?_
            exact ih (v3_1002 + ((u1005 * u1007) * (u1008 - u1009))) (v4_1002 + (iI 1)) ls (lv_sub hl [3, 4, 5, 1, 0] rfl) hE
    refine lp15 _ (fun v3_1002 v4_1002 ls hl hE => ?_) FU (iI 0) (iI 0) ls (lv_sub hl [2, 3, 4, 1, 0] rfl) hE
    refine lv_iload_n X.1.1 X.1.2.1 dX6_share_90 rfl (lv_at hl 3 rfl) ?_
    refine lv_aload_n X.1.1 X.1.2.1 dX6_share_91 rfl (lv_at hl 0 rfl) ?_
    refine gf6_80 X hK hP 0 rfl rfl dX6_share_92 ?_
    obtain ⟨u1010, e_u1010, hE⟩ := bd_some hE
    refine callRS (wsC := []) (As := [.int mwo]) (rest := [.int v3_1002]) (cI := cI) (cZ := cZ) X (c6_factorial (l := l) (G := G) (cI := cI) (cZ := cZ) e_u1010) o6_factorial tw837 ⟨rfl, rfl, Nat.le_of_ble_eq_true rfl, Nat.le_of_ble_eq_true rfl⟩ va_P_nil hK rfl hl rfl (Nat.le_of_ble_eq_true rfl) ⟨Nat.le_refl _, Nat.le_refl _⟩ dX6_share_95 ?_
    obtain ⟨u1011, e_u1011, hE⟩ := bd_some hE
    refine callRS (wsC := []) (As := [.int v3_1002, .int u1010]) (rest := []) (cI := cI) (cZ := cZ) X (c6_common (l := l) (G := G) (cI := cI) (cZ := cZ) e_u1011) o6_common tw844 ⟨rfl, rfl, Nat.le_of_ble_eq_true rfl, Nat.le_of_ble_eq_true rfl⟩ va_P_nil hK rfl hl rfl (by decide) ⟨Nat.le_refl _, Nat.le_refl _⟩ dX6_share_98 ?_
    refine lv_istore (lv' := [(4, .int u1011), (0, .ref m0), (1, .int v1), (2, .int v2), (3, .int v3_1002)]) X.1.1 X.1.2.1 dX6_share_101 hl (by decide) rfl (fun ls hl => ?_)
    refine lv_iload_n X.1.1 X.1.2.1 dX6_share_103 rfl (lv_at hl 3 rfl) ?_
    refine lv_if_eq (tgt := 114) X.1.1 X.1.2.1 dX6_share_104 (by decide) (fun c_104 => ?_) (fun c_104 => ?_)
    · have hE := ite_t hE c_104
      refine lv_aload_n X.1.1 X.1.2.1 dX6_share_114 rfl (lv_at hl 1 rfl) ?_
      refine gf6_80 X hK hP 0 rfl rfl dX6_share_115 ?_
      obtain ⟨u1012, e_u1012, hE⟩ := bd_some hE
      refine callRS (wsC := []) (As := [.int mwo]) (rest := []) (cI := cI) (cZ := cZ) X (c6_factorial (l := l) (G := G) (cI := cI) (cZ := cZ) e_u1012) o6_factorial tw837 ⟨rfl, rfl, Nat.le_of_ble_eq_true rfl, Nat.le_of_ble_eq_true rfl⟩ va_P_nil hK rfl hl rfl (by decide) ⟨Nat.le_refl _, Nat.le_refl _⟩ dX6_share_118 ?_
      refine lv_iload X.1.1 X.1.2.1 dX6_share_121 (lv_at hl 0 rfl) ?_
      obtain ⟨g_123, hE⟩ := nz_some hE
      refine lv_idiv X.1.1 X.1.2.1 dX6_share_123 g_123 ?_
      cases hE
      exact retR X dX6_share_124
    · have hE := ite_f hE c_104
      refine lv_iload_n X.1.1 X.1.2.1 dX6_share_107 rfl (lv_at hl 4 rfl) ?_
      refine lv_iload X.1.1 X.1.2.1 dX6_share_108 (lv_at hl 0 rfl) ?_
      obtain ⟨g_110, hE⟩ := nz_some hE
      refine lv_idiv X.1.1 X.1.2.1 dX6_share_110 g_110 ?_
      refine lv_goto (tgt := 124) X.1.1 X.1.2.1 dX6_share_111 (by decide) ?_
      cases hE
      exact retR X dX6_share_124
  · have hE := ite_t hE c_5
    refine lv_iconst (v := (iI (-1))) X.1.1 X.1.2.1 dX6_share_8 rfl ?_
    cases hE
    exact retR X dX6_share_9
theorem o6_gain : oV yX6_gain RX6 cX6_gain 6 (some .int) 3 := ⟨tw858, tw857, tw37, tw45, ⟨by decide +kernel, by decide +kernel⟩, by decide +kernel⟩
abbrev rm6_gain : Room := { frames := 3, cells := 0, slots := 0, locals := 71 }
set_option maxHeartbeats 4000000 in
set_option maxRecDepth 100000 in
theorem c6_gain {l : Launch} {G : va_G} {cI cZ : ClassId} {m0 m1 m2 m3 m4 m5 m6 m7 m8 m9 m10 m11 m12 m13 : Nat} {mwo : Int32} {mth : Int32} {mrn : Int32} {mrm : Int32} {mln : Int32} {mat : Int32} {mfa : Int32} {mac : Int32} {mnx : Int32} {mse : Int32} {msd : Int64} {mki : Nat → Int32} {mof : Nat → Int32} {mpu : Nat → Int32} {mno : Nat → Int32} {mrw : Nat → Int32} {mrt : Nat → Int32} {mtx : Nat → Int32} {mro : Nat → Int32} {mso : Nat → Int32} {msf : Nat → Int32} {msc : Nat → Int32} {mik : Nat → Int32} {mkt : Nat → Int32} {v1 : Int32} {v2 : Int32} {v3 : Int32} {u : Int32} (hE : f6_gain v1 v2 v3 mth mki mof mpu mno = some u) : Met l yX6_gain (Cond.code yX6_gain cX6_gain 6 (some .int) :: TB) rm6_gain (PcR G cI cZ (wM cI cZ m0 m1 m2 m3 m4 m5 m6 m7 m8 m9 m10 m11 m12 m13 mwo mth mrn mrm mln mat mfa mac mnx mse msd mki mof mpu mno mrw mrt mtx mro mso msf msc mik mkt) ([.ref m0, .int v1, .int v2, .int v3] : List Value)) (QcRead u) 0 0 (fun _ => False) := by
  refine metR (own := RX6) (by decide +kernel) rfl (Nat.le_of_ble_eq_true rfl) ?_
  intro p e s m below meth c ls X hP hK hl
  have hl : lv_has ls 6 [(0, .ref m0), (1, .int v1), (2, .int v2), (3, .int v3)] := hl
  unfold f6_gain at hE
  refine lv_iload_n X.1.1 X.1.2.1 dX6_gain_0 rfl (lv_at hl 2 rfl) ?_
  refine lv_if_ne (tgt := 6) X.1.1 X.1.2.1 dX6_gain_1 (by decide) (fun c_1 => ?_) (fun c_1 => ?_)
  · have hE := ite_f hE c_1
    refine lv_aload_n X.1.1 X.1.2.1 dX6_gain_6 rfl (lv_at hl 0 rfl) ?_
    refine gf6_19 X hK hP 0 rfl rfl dX6_gain_7 ?_
    refine lv_iconst (v := (iI 5)) X.1.1 X.1.2.1 dX6_gain_10 rfl ?_
    refine va_iald X.1.1 X.1.2.1 hK hP 4 0 rfl rfl (vin (by decide)) dX6_gain_11 ?_
    refine lv_istore (lv' := [(4, .int (mno (iI 5).toNatClampNeg)), (0, .ref m0), (1, .int v1), (2, .int v2), (3, .int v3)]) X.1.1 X.1.2.1 dX6_gain_12 hl (by decide) rfl (fun ls hl => ?_)
    refine lv_aload_n X.1.1 X.1.2.1 dX6_gain_14 rfl (lv_at hl 1 rfl) ?_
    refine lv_aload_n X.1.1 X.1.2.1 dX6_gain_15 rfl (lv_at hl 1 rfl) ?_
    refine gf6_19 X hK hP 0 rfl rfl dX6_gain_16 ?_
    refine lv_iload_n X.1.1 X.1.2.1 dX6_gain_19 rfl (lv_at hl 2 rfl) ?_
    obtain ⟨i_20, hE⟩ := ib_some hE
    refine va_iald X.1.1 X.1.2.1 hK hP 4 0 rfl rfl i_20 dX6_gain_20 ?_
    refine lv_iconst (v := (iI 2)) X.1.1 X.1.2.1 dX6_gain_21 rfl ?_
    refine lv_iload_n X.1.1 X.1.2.1 dX6_gain_22 rfl (lv_at hl 4 rfl) ?_
    refine lv_imul X.1.1 X.1.2.1 dX6_gain_23 ?_
    refine lv_isub X.1.1 X.1.2.1 dX6_gain_24 ?_
    refine lv_iload_n X.1.1 X.1.2.1 dX6_gain_25 rfl (lv_at hl 2 rfl) ?_
    refine lv_iload X.1.1 X.1.2.1 dX6_gain_26 (lv_at hl 0 rfl) ?_
    refine lv_bipush (v := (iI 15)) X.1.1 X.1.2.1 dX6_gain_28 (by decide) ?_
    obtain ⟨u1001, e_u1001, hE⟩ := bd_some hE
    refine callRV (wsC := (wM cI cZ m0 m1 m2 m3 m4 m5 m6 m7 m8 m9 m10 m11 m12 m13 mwo mth mrn mrm mln mat mfa mac mnx mse msd mki mof mpu mno mrw mrt mtx mro mso msf msc mik mkt)) (As := [.int ((mno v1.toNatClampNeg) - ((iI 2) * v3)), .int v1, .int (mno (iI 5).toNatClampNeg), .int (iI 15)]) (rest := []) (ci := 6) X (c6_comesBy (l := l) e_u1001) o6_comesBy tw702 ⟨rfl, rfl, Nat.le_of_ble_eq_true rfl, Nat.le_of_ble_eq_true rfl⟩ hP hK 0 rfl rfl rfl rfl hl rfl (by decide) ⟨Nat.le_refl _, Nat.le_refl _⟩ dX6_gain_30 ?_
    refine lv_istore (lv' := [(5, .int u1001), (4, .int (mno (iI 5).toNatClampNeg)), (0, .ref m0), (1, .int v1), (2, .int v2), (3, .int v3)]) X.1.1 X.1.2.1 dX6_gain_33 hl (by decide) rfl (fun ls hl => ?_)
    refine lv_iload X.1.1 X.1.2.1 dX6_gain_35 (lv_at hl 0 rfl) ?_
    refine lv_if_ne (tgt := 44) X.1.1 X.1.2.1 dX6_gain_37 (by decide) (fun c_37 => ?_) (fun c_37 => ?_)
    · have hE := ite_f hE c_37
      refine lv_iconst (v := (iI 3)) X.1.1 X.1.2.1 dX6_gain_44 rfl ?_
      refine lv_iload_n X.1.1 X.1.2.1 dX6_gain_45 rfl (lv_at hl 5 rfl) ?_
      refine lv_isub X.1.1 X.1.2.1 dX6_gain_46 ?_
      cases hE
      exact retR X dX6_gain_47
    · have hE := ite_t hE c_37
      refine lv_iconst (v := (iI (-1))) X.1.1 X.1.2.1 dX6_gain_40 rfl ?_
      refine lv_goto (tgt := 47) X.1.1 X.1.2.1 dX6_gain_41 (by decide) ?_
      cases hE
      exact retR X dX6_gain_47
  · have hE := ite_t hE c_1
    refine lv_iconst (v := (iI 0)) X.1.1 X.1.2.1 dX6_gain_4 rfl ?_
    cases hE
    exact retR X dX6_gain_5
theorem o6_isRest : oV yX6_isRest RX6 cX6_isRest 5 (some .boolean) 4 := ⟨tw854, tw853, tw36, tw45, ⟨by decide +kernel, by decide +kernel⟩, by decide +kernel⟩
abbrev rm6_isRest : Room := { frames := 4, cells := 0, slots := 0, locals := 96 }
set_option maxHeartbeats 4000000 in
set_option maxRecDepth 100000 in
theorem c6_isRest {l : Launch} {G : va_G} {cI cZ : ClassId} {m0 m1 m2 m3 m4 m5 m6 m7 m8 m9 m10 m11 m12 m13 : Nat} {mwo : Int32} {mth : Int32} {mrn : Int32} {mrm : Int32} {mln : Int32} {mat : Int32} {mfa : Int32} {mac : Int32} {mnx : Int32} {mse : Int32} {msd : Int64} {mki : Nat → Int32} {mof : Nat → Int32} {mpu : Nat → Int32} {mno : Nat → Int32} {mrw : Nat → Int32} {mrt : Nat → Int32} {mtx : Nat → Int32} {mro : Nat → Int32} {mso : Nat → Int32} {msf : Nat → Int32} {msc : Nat → Int32} {mik : Nat → Int32} {mkt : Nat → Int32} {v1 : Int32} {v2 : Int32} {v3 : Int32} {v4 : Int32} {u : Int32} (hE : f6_isRest v1 v2 v3 v4 mth mki mof mpu mno = some u) : Met l yX6_isRest (Cond.code yX6_isRest cX6_isRest 5 (some .boolean) :: TB) rm6_isRest (PcR G cI cZ (wM cI cZ m0 m1 m2 m3 m4 m5 m6 m7 m8 m9 m10 m11 m12 m13 mwo mth mrn mrm mln mat mfa mac mnx mse msd mki mof mpu mno mrw mrt mtx mro mso msf msc mik mkt) ([.ref m0, .int v1, .int v2, .int v3, .int v4] : List Value)) (QcRead u) 0 0 (fun _ => False) := by
  refine metR (own := RX6) (by decide +kernel) rfl (Nat.le_of_ble_eq_true rfl) ?_
  intro p e s m below meth c ls X hP hK hl
  have hl : lv_has ls 5 [(0, .ref m0), (1, .int v1), (2, .int v2), (3, .int v3), (4, .int v4)] := hl
  unfold f6_isRest at hE
  refine lv_aload_n X.1.1 X.1.2.1 dX6_isRest_0 rfl (lv_at hl 0 rfl) ?_
  refine lv_iload_n X.1.1 X.1.2.1 dX6_isRest_1 rfl (lv_at hl 1 rfl) ?_
  refine lv_iconst (v := (iI 1)) X.1.1 X.1.2.1 dX6_isRest_2 rfl ?_
  refine lv_iload_n X.1.1 X.1.2.1 dX6_isRest_3 rfl (lv_at hl 3 rfl) ?_
  refine lv_isub X.1.1 X.1.2.1 dX6_isRest_4 ?_
  refine lv_iload X.1.1 X.1.2.1 dX6_isRest_5 (lv_at hl 4 rfl) ?_
  obtain ⟨u1001, e_u1001, hE⟩ := bd_some hE
  refine callRV (wsC := (wM cI cZ m0 m1 m2 m3 m4 m5 m6 m7 m8 m9 m10 m11 m12 m13 mwo mth mrn mrm mln mat mfa mac mnx mse msd mki mof mpu mno mrw mrt mtx mro mso msf msc mik mkt)) (As := [.int v1, .int ((iI 1) - v3), .int v4]) (rest := []) (ci := 6) X (c6_gain (l := l) e_u1001) o6_gain tw855 ⟨rfl, rfl, Nat.le_of_ble_eq_true rfl, Nat.le_of_ble_eq_true rfl⟩ hP hK 0 rfl rfl rfl rfl hl rfl (by decide) ⟨Nat.le_refl _, Nat.le_refl _⟩ dX6_isRest_7 ?_
  refine lv_aload_n X.1.1 X.1.2.1 dX6_isRest_10 rfl (lv_at hl 0 rfl) ?_
  refine lv_iload_n X.1.1 X.1.2.1 dX6_isRest_11 rfl (lv_at hl 1 rfl) ?_
  refine lv_iload_n X.1.1 X.1.2.1 dX6_isRest_12 rfl (lv_at hl 3 rfl) ?_
  refine lv_iload X.1.1 X.1.2.1 dX6_isRest_13 (lv_at hl 4 rfl) ?_
  obtain ⟨u1002, e_u1002, hE⟩ := bd_some hE
  refine callRV (wsC := (wM cI cZ m0 m1 m2 m3 m4 m5 m6 m7 m8 m9 m10 m11 m12 m13 mwo mth mrn mrm mln mat mfa mac mnx mse msd mki mof mpu mno mrw mrt mtx mro mso msf msc mik mkt)) (As := [.int v1, .int v3, .int v4]) (rest := [.int u1001]) (ci := 6) X (c6_gain (l := l) e_u1002) o6_gain tw855 ⟨rfl, rfl, Nat.le_of_ble_eq_true rfl, Nat.le_of_ble_eq_true rfl⟩ hP hK 0 rfl rfl rfl rfl hl rfl (Nat.le_of_ble_eq_true rfl) ⟨Nat.le_refl _, Nat.le_refl _⟩ dX6_isRest_15 ?_
  refine lv_icmp_gt (tgt := 46) X.1.1 X.1.2.1 dX6_isRest_18 (by decide) (fun c_18 => ?_) (fun c_18 => ?_)
  · have hE := ite_t hE c_18
    refine lv_iconst (v := (iI 0)) X.1.1 X.1.2.1 dX6_isRest_46 rfl ?_
    cases hE
    exact retRZ X okB_0 dX6_isRest_47
  · have hE := ite_f hE c_18
    refine lv_aload_n X.1.1 X.1.2.1 dX6_isRest_21 rfl (lv_at hl 0 rfl) ?_
    refine lv_iload_n X.1.1 X.1.2.1 dX6_isRest_22 rfl (lv_at hl 2 rfl) ?_
    refine lv_iconst (v := (iI 1)) X.1.1 X.1.2.1 dX6_isRest_23 rfl ?_
    refine lv_iload X.1.1 X.1.2.1 dX6_isRest_24 (lv_at hl 4 rfl) ?_
    refine lv_isub X.1.1 X.1.2.1 dX6_isRest_26 ?_
    refine lv_iload_n X.1.1 X.1.2.1 dX6_isRest_27 rfl (lv_at hl 3 rfl) ?_
    obtain ⟨u1003, e_u1003, hE⟩ := bd_some hE
    refine callRV (wsC := (wM cI cZ m0 m1 m2 m3 m4 m5 m6 m7 m8 m9 m10 m11 m12 m13 mwo mth mrn mrm mln mat mfa mac mnx mse msd mki mof mpu mno mrw mrt mtx mro mso msf msc mik mkt)) (As := [.int v2, .int ((iI 1) - v4), .int v3]) (rest := []) (ci := 6) X (c6_gain (l := l) e_u1003) o6_gain tw855 ⟨rfl, rfl, Nat.le_of_ble_eq_true rfl, Nat.le_of_ble_eq_true rfl⟩ hP hK 0 rfl rfl rfl rfl hl rfl (by decide) ⟨Nat.le_refl _, Nat.le_refl _⟩ dX6_isRest_28 ?_
    refine lv_aload_n X.1.1 X.1.2.1 dX6_isRest_31 rfl (lv_at hl 0 rfl) ?_
    refine lv_iload_n X.1.1 X.1.2.1 dX6_isRest_32 rfl (lv_at hl 2 rfl) ?_
    refine lv_iload X.1.1 X.1.2.1 dX6_isRest_33 (lv_at hl 4 rfl) ?_
    refine lv_iload_n X.1.1 X.1.2.1 dX6_isRest_35 rfl (lv_at hl 3 rfl) ?_
    obtain ⟨u1004, e_u1004, hE⟩ := bd_some hE
    refine callRV (wsC := (wM cI cZ m0 m1 m2 m3 m4 m5 m6 m7 m8 m9 m10 m11 m12 m13 mwo mth mrn mrm mln mat mfa mac mnx mse msd mki mof mpu mno mrw mrt mtx mro mso msf msc mik mkt)) (As := [.int v2, .int v4, .int v3]) (rest := [.int u1003]) (ci := 6) X (c6_gain (l := l) e_u1004) o6_gain tw855 ⟨rfl, rfl, Nat.le_of_ble_eq_true rfl, Nat.le_of_ble_eq_true rfl⟩ hP hK 0 rfl rfl rfl rfl hl rfl (Nat.le_of_ble_eq_true rfl) ⟨Nat.le_refl _, Nat.le_refl _⟩ dX6_isRest_36 ?_
    refine lv_icmp_gt (tgt := 46) X.1.1 X.1.2.1 dX6_isRest_39 (by decide) (fun c_39 => ?_) (fun c_39 => ?_)
    · have hE := ite_t hE c_39
      refine lv_iconst (v := (iI 0)) X.1.1 X.1.2.1 dX6_isRest_46 rfl ?_
      cases hE
      exact retRZ X okB_0 dX6_isRest_47
    · have hE := ite_f hE c_39
      refine lv_iconst (v := (iI 1)) X.1.1 X.1.2.1 dX6_isRest_42 rfl ?_
      refine lv_goto (tgt := 47) X.1.1 X.1.2.1 dX6_isRest_43 (by decide) ?_
      cases hE
      exact retRZ X okB_1 dX6_isRest_47
theorem o6_rests : oV yX6_rests RX6 cX6_rests 7 (some .int) 3 := ⟨tw850, tw848, tw849, tw45, ⟨by decide +kernel, by decide +kernel⟩, by decide +kernel⟩
abbrev rm6_rests : Room := { frames := 5, cells := 0, slots := 0, locals := 120 }
set_option maxHeartbeats 4000000 in
set_option maxRecDepth 100000 in
theorem c6_rests {l : Launch} {G : va_G} {cI cZ : ClassId} {m0 m1 m2 m3 m4 m5 m6 m7 m8 m9 m10 m11 m12 m13 : Nat} {mwo : Int32} {mth : Int32} {mrn : Int32} {mrm : Int32} {mln : Int32} {mat : Int32} {mfa : Int32} {mac : Int32} {mnx : Int32} {mse : Int32} {msd : Int64} {mki : Nat → Int32} {mof : Nat → Int32} {mpu : Nat → Int32} {mno : Nat → Int32} {mrw : Nat → Int32} {mrt : Nat → Int32} {mtx : Nat → Int32} {mro : Nat → Int32} {mso : Nat → Int32} {msf : Nat → Int32} {msc : Nat → Int32} {mik : Nat → Int32} {mkt : Nat → Int32} {v1 : Int32} {v2 : Int32} {v3 : Int32} {u : Int32} (hE : f6_rests v1 v2 v3 mwo mth mki mof mpu mno = some u) : Met l yX6_rests (Cond.code yX6_rests cX6_rests 7 (some .int) :: TB) rm6_rests (PcR G cI cZ (wM cI cZ m0 m1 m2 m3 m4 m5 m6 m7 m8 m9 m10 m11 m12 m13 mwo mth mrn mrm mln mat mfa mac mnx mse msd mki mof mpu mno mrw mrt mtx mro mso msf msc mik mkt) ([.ref m0, .int v1, .int v2, .int v3] : List Value)) (QcRead u) 0 0 (fun _ => False) := by
  refine metR (own := RX6) (by decide +kernel) rfl (Nat.le_of_ble_eq_true rfl) ?_
  intro p e s m below meth c ls X hP hK hl
  have hl : lv_has ls 7 [(0, .ref m0), (1, .int v1), (2, .int v2), (3, .int v3)] := hl
  unfold f6_rests at hE
  refine lv_aload_n X.1.1 X.1.2.1 dX6_rests_0 rfl (lv_at hl 0 rfl) ?_
  refine lv_iload_n X.1.1 X.1.2.1 dX6_rests_1 rfl (lv_at hl 1 rfl) ?_
  obtain ⟨u1001, e_u1001, hE⟩ := bd_some hE
  refine callRV (wsC := (wM cI cZ m0 m1 m2 m3 m4 m5 m6 m7 m8 m9 m10 m11 m12 m13 mwo mth mrn mrm mln mat mfa mac mnx mse msd mki mof mpu mno mrw mrt mtx mro mso msf msc mik mkt)) (As := [.int v1]) (rest := []) (ci := 6) X (c6_isWord (l := l) e_u1001) o6_isWord tw690 ⟨rfl, rfl, Nat.le_of_ble_eq_true rfl, Nat.le_of_ble_eq_true rfl⟩ hP hK 0 rfl rfl rfl rfl hl rfl (by decide) ⟨Nat.le_refl _, Nat.le_refl _⟩ dX6_rests_2 ?_
  refine lv_if_eq (tgt := 16) X.1.1 X.1.2.1 dX6_rests_5 (by decide) (fun c_5 => ?_) (fun c_5 => ?_)
  · have hE := ite_t hE c_5
    refine lv_iconst (v := (iI (-1))) X.1.1 X.1.2.1 dX6_rests_16 rfl ?_
    cases hE
    exact retR X dX6_rests_17
  · have hE := ite_f hE c_5
    refine lv_aload_n X.1.1 X.1.2.1 dX6_rests_8 rfl (lv_at hl 0 rfl) ?_
    refine lv_iload_n X.1.1 X.1.2.1 dX6_rests_9 rfl (lv_at hl 2 rfl) ?_
    obtain ⟨u1002, e_u1002, hE⟩ := bd_some hE
    refine callRV (wsC := (wM cI cZ m0 m1 m2 m3 m4 m5 m6 m7 m8 m9 m10 m11 m12 m13 mwo mth mrn mrm mln mat mfa mac mnx mse msd mki mof mpu mno mrw mrt mtx mro mso msf msc mik mkt)) (As := [.int v2]) (rest := []) (ci := 6) X (c6_isWord (l := l) e_u1002) o6_isWord tw690 ⟨rfl, rfl, Nat.le_of_ble_eq_true rfl, Nat.le_of_ble_eq_true rfl⟩ hP hK 0 rfl rfl rfl rfl hl rfl (by decide) ⟨Nat.le_refl _, Nat.le_refl _⟩ dX6_rests_10 ?_
    refine lv_if_ne (tgt := 18) X.1.1 X.1.2.1 dX6_rests_13 (by decide) (fun c_13 => ?_) (fun c_13 => ?_)
    · have hE := ite_f hE c_13
      refine lv_iload_n X.1.1 X.1.2.1 dX6_rests_18 rfl (lv_at hl 3 rfl) ?_
      refine lv_i2l (v := v3.toInt64) X.1.1 X.1.2.1 dX6_rests_19 rfl ?_
      refine lv_lconst (v := (Int64.ofNat 0)) X.1.1 X.1.2.1 dX6_rests_20 rfl ?_
      refine lv_lconst (v := (Int64.ofNat 1)) X.1.1 X.1.2.1 dX6_rests_21 rfl ?_
      obtain ⟨u1003, e_u1003, hE⟩ := bd_some hE
      refine callRS (wsC := []) (As := [.long (v3.toInt64), .long (Int64.ofNat 0), .long (Int64.ofNat 1)]) (rest := []) (cI := cI) (cZ := cZ) X (c6_in (l := l) (G := G) (cI := cI) (cZ := cZ) e_u1003) o6_in tw663 ⟨rfl, rfl, Nat.le_of_ble_eq_true rfl, Nat.le_of_ble_eq_true rfl⟩ va_P_nil hK rfl hl rfl (by decide) ⟨Nat.le_refl _, Nat.le_refl _⟩ dX6_rests_22 ?_
      refine lv_if_ne (tgt := 31) X.1.1 X.1.2.1 dX6_rests_25 (by decide) (fun c_25 => ?_) (fun c_25 => ?_)
      · have hE := ite_f hE c_25
        refine lv_iconst (v := (iI 0)) X.1.1 X.1.2.1 dX6_rests_31 rfl ?_
        refine lv_istore (lv' := [(4, .int (iI 0)), (0, .ref m0), (1, .int v1), (2, .int v2), (3, .int v3)]) X.1.1 X.1.2.1 dX6_rests_32 hl (by decide) rfl (fun ls hl => ?_)
        refine lv_bipush (v := (iI (-9))) X.1.1 X.1.2.1 dX6_rests_34 (by decide) ?_
        refine lv_istore (lv' := [(5, .int (iI (-9))), (4, .int (iI 0)), (0, .ref m0), (1, .int v1), (2, .int v2), (3, .int v3)]) X.1.1 X.1.2.1 dX6_rests_36 hl (by decide) rfl (fun ls hl => ?_)
        refine lv_iconst (v := (iI 0)) X.1.1 X.1.2.1 dX6_rests_38 rfl ?_
        refine lv_istore (lv' := [(6, .int (iI 0)), (5, .int (iI (-9))), (4, .int (iI 0)), (0, .ref m0), (1, .int v1), (2, .int v2), (3, .int v3)]) X.1.1 X.1.2.1 dX6_rests_39 hl (by decide) rfl (fun ls hl => ?_)
        have lp41 : ∀ (k : Int32 → Int32 → Int32 → Option Int32), (∀ (v4_1004 : Int32) (v5_1004 : Int32) (v6_1004 : Int32) (ls : Array Slot), lv_has ls 7 [(0, .ref m0), (1, .int v1), (2, .int v2), (3, .int v3), (4, .int v4_1004), (5, .int v5_1004), (6, .int v6_1004)] → k v4_1004 v5_1004 v6_1004 = some u → W p l e rm6_rests s m ([.ref m0, .int v1, .int v2, .int v3] : List Value).toArray below meth c s.heap [] 0 0 (MQ below (QcRead u) ([.ref m0, .int v1, .int v2, .int v3] : List Value).toArray s 0 0 (fun _ => False)) (F0 m 97 ls [])) → ∀ (n : Nat) (v4_1004 : Int32) (v5_1004 : Int32) (v6_1004 : Int32) (ls : Array Slot), lv_has ls 7 [(0, .ref m0), (1, .int v1), (2, .int v2), (3, .int v3), (4, .int v4_1004), (5, .int v5_1004), (6, .int v6_1004)] → l6_rests_41 k v1 v2 mth mki mof mpu mno n v4_1004 v5_1004 v6_1004 = some u → W p l e rm6_rests s m ([.ref m0, .int v1, .int v2, .int v3] : List Value).toArray below meth c s.heap [] 0 0 (MQ below (QcRead u) ([.ref m0, .int v1, .int v2, .int v3] : List Value).toArray s 0 0 (fun _ => False)) (F0 m 41 ls []) := by
          intro k hex n
          induction n with
          | zero =>
            intro v4_1004 v5_1004 v6_1004 ls hl hE
            exact absurd (show (none : Option Int32) = some u from hE) (fun h => by cases h)
          | succ n ih =>
            intro v4_1004 v5_1004 v6_1004 ls hl hE
            rw [l6_rests_41] at hE
            refine lv_iload X.1.1 X.1.2.1 dX6_rests_41 (lv_at hl 6 rfl) ?_
            refine lv_iconst (v := (iI 4)) X.1.1 X.1.2.1 dX6_rests_43 rfl ?_
            refine lv_icmp_ge (tgt := 97) X.1.1 X.1.2.1 dX6_rests_44 (by decide) (fun c_44 => ?_) (fun c_44 => ?_)
            · have hE := ite_t hE c_44
              exact hex v4_1004 v5_1004 v6_1004 ls (lv_sub hl [0, 1, 2, 3, 4, 5, 6] rfl) hE
            · have hE := ite_f hE c_44
              refine lv_aload_n X.1.1 X.1.2.1 dX6_rests_47 rfl (lv_at hl 0 rfl) ?_
              refine lv_iload_n X.1.1 X.1.2.1 dX6_rests_48 rfl (lv_at hl 1 rfl) ?_
              refine lv_iload_n X.1.1 X.1.2.1 dX6_rests_49 rfl (lv_at hl 2 rfl) ?_
              refine lv_iload X.1.1 X.1.2.1 dX6_rests_50 (lv_at hl 6 rfl) ?_
              refine lv_iconst (v := (iI 2)) X.1.1 X.1.2.1 dX6_rests_52 rfl ?_
              refine lv_idiv X.1.1 X.1.2.1 dX6_rests_53 (by decide) ?_
              refine lv_iload X.1.1 X.1.2.1 dX6_rests_54 (lv_at hl 6 rfl) ?_
              refine lv_iconst (v := (iI 2)) X.1.1 X.1.2.1 dX6_rests_56 rfl ?_
              refine r_irem X.1.1 X.1.2.1 dX6_rests_57 (by decide) ?_
              obtain ⟨u1005, e_u1005, hE⟩ := bd_some hE
              refine callRV (wsC := (wM cI cZ m0 m1 m2 m3 m4 m5 m6 m7 m8 m9 m10 m11 m12 m13 mwo mth mrn mrm mln mat mfa mac mnx mse msd mki mof mpu mno mrw mrt mtx mro mso msf msc mik mkt)) (As := [.int v1, .int v2, .int (v6_1004 / (iI 2)), .int (rmI v6_1004 (iI 2))]) (rest := []) (ci := 6) X (c6_isRest (l := l) e_u1005) o6_isRest tw851 ⟨rfl, rfl, Nat.le_of_ble_eq_true rfl, Nat.le_of_ble_eq_true rfl⟩ hP hK 0 rfl rfl rfl rfl hl rfl (by decide) ⟨Nat.le_refl _, Nat.le_refl _⟩ dX6_rests_58 ?_
              refine lv_if_eq (tgt := 91) X.1.1 X.1.2.1 dX6_rests_61 (by decide) (fun c_61 => ?_) (fun c_61 => ?_)
              · have hE := ite_t hE c_61
                refine lv_iinc (v := (v6_1004 + (iI 1))) (lv' := [(6, .int (v6_1004 + (iI 1))), (0, .ref m0), (1, .int v1), (2, .int v2), (3, .int v3), (4, .int v4_1004), (5, .int v5_1004)]) X.1.1 X.1.2.1 dX6_rests_91 hl (k := 6) rfl rfl (by decide) rfl (fun ls hl => ?_)
                refine lv_goto (tgt := 41) X.1.1 X.1.2.1 dX6_rests_94 (by decide) ?_
                exact ih v4_1004 v5_1004 (v6_1004 + (iI 1)) ls (lv_sub hl [1, 2, 3, 4, 5, 6, 0] rfl) hE
              · have hE := ite_f hE c_61
                refine lv_iload X.1.1 X.1.2.1 dX6_rests_64 (lv_at hl 4 rfl) ?_
                refine lv_if_ne (tgt := 84) X.1.1 X.1.2.1 dX6_rests_66 (by decide) (fun c_66 => ?_) (fun c_66 => ?_)
                · have hE := ite_f hE c_66
                  refine lv_iload X.1.1 X.1.2.1 dX6_rests_84 (lv_at hl 5 rfl) ?_
                  refine lv_istore (lv' := [(5, .int v5_1004), (0, .ref m0), (1, .int v1), (2, .int v2), (3, .int v3), (4, .int v4_1004), (6, .int v6_1004)]) X.1.1 X.1.2.1 dX6_rests_86 hl (by decide) rfl (fun ls hl => ?_)
                  refine lv_iinc (v := (v4_1004 + (iI 1))) (lv' := [(4, .int (v4_1004 + (iI 1))), (5, .int v5_1004), (0, .ref m0), (1, .int v1), (2, .int v2), (3, .int v3), (6, .int v6_1004)]) X.1.1 X.1.2.1 dX6_rests_88 hl (k := 5) rfl rfl (by decide) rfl (fun ls hl => ?_)
                  refine lv_iinc (v := (v6_1004 + (iI 1))) (lv' := [(6, .int (v6_1004 + (iI 1))), (4, .int (v4_1004 + (iI 1))), (5, .int v5_1004), (0, .ref m0), (1, .int v1), (2, .int v2), (3, .int v3)]) X.1.1 X.1.2.1 dX6_rests_91 hl (k := 6) rfl rfl (by decide) rfl (fun ls hl => ?_)
                  refine lv_goto (tgt := 41) X.1.1 X.1.2.1 dX6_rests_94 (by decide) ?_
                  exact ih (v4_1004 + (iI 1)) v5_1004 (v6_1004 + (iI 1)) ls (lv_sub hl [3, 4, 5, 6, 1, 2, 0] rfl) hE
                · have hE := ite_t hE c_66
                  refine lv_bipush (v := (iI 10)) X.1.1 X.1.2.1 dX6_rests_69 (by decide) ?_
                  refine lv_iload X.1.1 X.1.2.1 dX6_rests_71 (lv_at hl 6 rfl) ?_
                  refine lv_iconst (v := (iI 2)) X.1.1 X.1.2.1 dX6_rests_73 rfl ?_
                  refine lv_idiv X.1.1 X.1.2.1 dX6_rests_74 (by decide) ?_
                  refine lv_imul X.1.1 X.1.2.1 dX6_rests_75 ?_
                  refine lv_iload X.1.1 X.1.2.1 dX6_rests_76 (lv_at hl 6 rfl) ?_
                  refine lv_iconst (v := (iI 2)) X.1.1 X.1.2.1 dX6_rests_78 rfl ?_
                  refine r_irem X.1.1 X.1.2.1 dX6_rests_79 (by decide) ?_
                  refine lv_iadd X.1.1 X.1.2.1 dX6_rests_80 ?_
                  refine lv_goto (tgt := 86) X.1.1 X.1.2.1 dX6_rests_81 (by decide) ?_
                  refine lv_istore (lv' := [(5, .int (((iI 10) * (v6_1004 / (iI 2))) + (rmI v6_1004 (iI 2)))), (0, .ref m0), (1, .int v1), (2, .int v2), (3, .int v3), (4, .int v4_1004), (6, .int v6_1004)]) X.1.1 X.1.2.1 dX6_rests_86 hl (by decide) rfl (fun ls hl => ?_)
                  refine lv_iinc (v := (v4_1004 + (iI 1))) (lv' := [(4, .int (v4_1004 + (iI 1))), (5, .int (((iI 10) * (v6_1004 / (iI 2))) + (rmI v6_1004 (iI 2)))), (0, .ref m0), (1, .int v1), (2, .int v2), (3, .int v3), (6, .int v6_1004)]) X.1.1 X.1.2.1 dX6_rests_88 hl (k := 5) rfl rfl (by decide) rfl (fun ls hl => ?_)
                  refine lv_iinc (v := (v6_1004 + (iI 1))) (lv' := [(6, .int (v6_1004 + (iI 1))), (4, .int (v4_1004 + (iI 1))), (5, .int (((iI 10) * (v6_1004 / (iI 2))) + (rmI v6_1004 (iI 2)))), (0, .ref m0), (1, .int v1), (2, .int v2), (3, .int v3)]) X.1.1 X.1.2.1 dX6_rests_91 hl (k := 6) rfl rfl (by decide) rfl (fun ls hl => ?_)
                  refine lv_goto (tgt := 41) X.1.1 X.1.2.1 dX6_rests_94 (by decide) ?_
                  exact ih (v4_1004 + (iI 1)) (((iI 10) * (v6_1004 / (iI 2))) + (rmI v6_1004 (iI 2))) (v6_1004 + (iI 1)) ls (lv_sub hl [3, 4, 5, 6, 1, 2, 0] rfl) hE
        refine lp41 _ (fun v4_1004 v5_1004 v6_1004 ls hl hE => ?_) FU (iI 0) (iI (-9)) (iI 0) ls (lv_sub hl [3, 4, 5, 6, 2, 1, 0] rfl) hE
        refine lv_iload_n X.1.1 X.1.2.1 dX6_rests_97 rfl (lv_at hl 3 rfl) ?_
        refine lv_if_ne (tgt := 106) X.1.1 X.1.2.1 dX6_rests_98 (by decide) (fun c_98 => ?_) (fun c_98 => ?_)
        · have hE := ite_f hE c_98
          refine lv_iload X.1.1 X.1.2.1 dX6_rests_106 (lv_at hl 5 rfl) ?_
          cases hE
          exact retR X dX6_rests_108
        · have hE := ite_t hE c_98
          refine lv_iload X.1.1 X.1.2.1 dX6_rests_101 (lv_at hl 4 rfl) ?_
          refine lv_goto (tgt := 108) X.1.1 X.1.2.1 dX6_rests_103 (by decide) ?_
          cases hE
          exact retR X dX6_rests_108
      · have hE := ite_t hE c_25
        refine lv_bipush (v := (iI (-2))) X.1.1 X.1.2.1 dX6_rests_28 (by decide) ?_
        cases hE
        exact retR X dX6_rests_30
    · have hE := ite_t hE c_13
      refine lv_iconst (v := (iI (-1))) X.1.1 X.1.2.1 dX6_rests_16 rfl ?_
      cases hE
      exact retR X dX6_rests_17
theorem o6_there : oV yX6_there RX6 cX6_there 9 (some .int) 3 := ⟨tw862, tw860, tw861, tw45, ⟨by decide +kernel, by decide +kernel⟩, by decide +kernel⟩
abbrev rm6_there : Room := { frames := 3, cells := 0, slots := 0, locals := 71 }
set_option maxHeartbeats 4000000 in
set_option maxRecDepth 100000 in
theorem c6_there {l : Launch} {G : va_G} {cI cZ : ClassId} {m0 m1 m2 m3 m4 m5 m6 m7 m8 m9 m10 m11 m12 m13 : Nat} {mwo : Int32} {mth : Int32} {mrn : Int32} {mrm : Int32} {mln : Int32} {mat : Int32} {mfa : Int32} {mac : Int32} {mnx : Int32} {mse : Int32} {msd : Int64} {mki : Nat → Int32} {mof : Nat → Int32} {mpu : Nat → Int32} {mno : Nat → Int32} {mrw : Nat → Int32} {mrt : Nat → Int32} {mtx : Nat → Int32} {mro : Nat → Int32} {mso : Nat → Int32} {msf : Nat → Int32} {msc : Nat → Int32} {mik : Nat → Int32} {mkt : Nat → Int32} {v1 : Int32} {v2 : Int32} {v3 : Int32} {u : Int32} (hE : f6_there v1 v2 v3 mwo mth mki mof mpu mno = some u) : Met l yX6_there (Cond.code yX6_there cX6_there 9 (some .int) :: TB) rm6_there (PcR G cI cZ (wM cI cZ m0 m1 m2 m3 m4 m5 m6 m7 m8 m9 m10 m11 m12 m13 mwo mth mrn mrm mln mat mfa mac mnx mse msd mki mof mpu mno mrw mrt mtx mro mso msf msc mik mkt) ([.ref m0, .int v1, .int v2, .int v3] : List Value)) (QcRead u) 0 0 (fun _ => False) := by
  refine metR (own := RX6) (by decide +kernel) rfl (Nat.le_of_ble_eq_true rfl) ?_
  intro p e s m below meth c ls X hP hK hl
  have hl : lv_has ls 9 [(0, .ref m0), (1, .int v1), (2, .int v2), (3, .int v3)] := hl
  unfold f6_there at hE
  refine lv_aload_n X.1.1 X.1.2.1 dX6_there_0 rfl (lv_at hl 0 rfl) ?_
  refine lv_iload_n X.1.1 X.1.2.1 dX6_there_1 rfl (lv_at hl 1 rfl) ?_
  obtain ⟨u1001, e_u1001, hE⟩ := bd_some hE
  refine callRV (wsC := (wM cI cZ m0 m1 m2 m3 m4 m5 m6 m7 m8 m9 m10 m11 m12 m13 mwo mth mrn mrm mln mat mfa mac mnx mse msd mki mof mpu mno mrw mrt mtx mro mso msf msc mik mkt)) (As := [.int v1]) (rest := []) (ci := 6) X (c6_isWord (l := l) e_u1001) o6_isWord tw690 ⟨rfl, rfl, Nat.le_of_ble_eq_true rfl, Nat.le_of_ble_eq_true rfl⟩ hP hK 0 rfl rfl rfl rfl hl rfl (by decide) ⟨Nat.le_refl _, Nat.le_refl _⟩ dX6_there_2 ?_
  refine lv_if_ne (tgt := 10) X.1.1 X.1.2.1 dX6_there_5 (by decide) (fun c_5 => ?_) (fun c_5 => ?_)
  · have hE := ite_f hE c_5
    refine lv_iload_n X.1.1 X.1.2.1 dX6_there_10 rfl (lv_at hl 2 rfl) ?_
    refine lv_i2l (v := v2.toInt64) X.1.1 X.1.2.1 dX6_there_11 rfl ?_
    refine lv_lconst (v := (Int64.ofNat 0)) X.1.1 X.1.2.1 dX6_there_12 rfl ?_
    refine lv_ldc2 X.1.1 X.1.2.1 X.1.2.2.2.1 (X.1.2.2.2.2 _ tw863) dX6_there_13 ?_
    obtain ⟨u1002, e_u1002, hE⟩ := bd_some hE
    refine callRS (wsC := []) (As := [.long (v2.toInt64), .long (Int64.ofNat 0), .long (10 : Int64)]) (rest := []) (cI := cI) (cZ := cZ) X (c6_in (l := l) (G := G) (cI := cI) (cZ := cZ) e_u1002) o6_in tw663 ⟨rfl, rfl, Nat.le_of_ble_eq_true rfl, Nat.le_of_ble_eq_true rfl⟩ va_P_nil hK rfl hl rfl (by decide) ⟨Nat.le_refl _, Nat.le_refl _⟩ dX6_there_16 ?_
    refine lv_if_ne (tgt := 25) X.1.1 X.1.2.1 dX6_there_19 (by decide) (fun c_19 => ?_) (fun c_19 => ?_)
    · have hE := ite_f hE c_19
      refine lv_iconst (v := (iI 0)) X.1.1 X.1.2.1 dX6_there_25 rfl ?_
      refine lv_istore (lv' := [(4, .int (iI 0)), (0, .ref m0), (1, .int v1), (2, .int v2), (3, .int v3)]) X.1.1 X.1.2.1 dX6_there_26 hl (by decide) rfl (fun ls hl => ?_)
      refine lv_iconst (v := (iI 0)) X.1.1 X.1.2.1 dX6_there_28 rfl ?_
      refine lv_istore (lv' := [(5, .int (iI 0)), (4, .int (iI 0)), (0, .ref m0), (1, .int v1), (2, .int v2), (3, .int v3)]) X.1.1 X.1.2.1 dX6_there_29 hl (by decide) rfl (fun ls hl => ?_)
      refine lv_iconst (v := (iI 0)) X.1.1 X.1.2.1 dX6_there_31 rfl ?_
      refine lv_istore (lv' := [(6, .int (iI 0)), (5, .int (iI 0)), (4, .int (iI 0)), (0, .ref m0), (1, .int v1), (2, .int v2), (3, .int v3)]) X.1.1 X.1.2.1 dX6_there_32 hl (by decide) rfl (fun ls hl => ?_)
      have lp34 : ∀ (k : Int32 → Int32 → Int32 → Option Int32), (∀ (v4_1003 : Int32) (v5_1003 : Int32) (v6_1003 : Int32) (ls : Array Slot), lv_has ls 9 [(0, .ref m0), (1, .int v1), (2, .int v2), (3, .int v3), (4, .int v4_1003), (5, .int v5_1003), (6, .int v6_1003)] → k v4_1003 v5_1003 v6_1003 = some u → W p l e rm6_there s m ([.ref m0, .int v1, .int v2, .int v3] : List Value).toArray below meth c s.heap [] 0 0 (MQ below (QcRead u) ([.ref m0, .int v1, .int v2, .int v3] : List Value).toArray s 0 0 (fun _ => False)) (F0 m 135 ls [])) → ∀ (n : Nat) (v4_1003 : Int32) (v5_1003 : Int32) (v6_1003 : Int32) (ls : Array Slot), lv_has ls 9 [(0, .ref m0), (1, .int v1), (2, .int v2), (3, .int v3), (4, .int v4_1003), (5, .int v5_1003), (6, .int v6_1003)] → l6_there_34 k v1 v2 mth mki mof mpu mno n v4_1003 v5_1003 v6_1003 = some u → W p l e rm6_there s m ([.ref m0, .int v1, .int v2, .int v3] : List Value).toArray below meth c s.heap [] 0 0 (MQ below (QcRead u) ([.ref m0, .int v1, .int v2, .int v3] : List Value).toArray s 0 0 (fun _ => False)) (F0 m 34 ls []) := by
        intro k hex n
        induction n with
        | zero =>
          intro v4_1003 v5_1003 v6_1003 ls hl hE
          exact absurd (show (none : Option Int32) = some u from hE) (fun h => by cases h)
        | succ n ih =>
          intro v4_1003 v5_1003 v6_1003 ls hl hE
          rw [l6_there_34] at hE
          refine lv_iload X.1.1 X.1.2.1 dX6_there_34 (lv_at hl 6 rfl) ?_
          refine lv_iconst (v := (iI 1)) X.1.1 X.1.2.1 dX6_there_36 rfl ?_
          refine lv_aload_n X.1.1 X.1.2.1 dX6_there_37 rfl (lv_at hl 0 rfl) ?_
          refine gf6_83 X hK hP 0 rfl rfl dX6_there_38 ?_
          refine lv_ishl X.1.1 X.1.2.1 dX6_there_41 ?_
          refine lv_icmp_ge (tgt := 135) X.1.1 X.1.2.1 dX6_there_42 (by decide) (fun c_42 => ?_) (fun c_42 => ?_)
          · have hE := ite_t hE c_42
            exact hex v4_1003 v5_1003 v6_1003 ls (lv_sub hl [0, 1, 2, 3, 4, 5, 6] rfl) hE
          · have hE := ite_f hE c_42
            refine lv_iconst (v := (iI 1)) X.1.1 X.1.2.1 dX6_there_45 rfl ?_
            refine lv_istore (lv' := [(7, .int (iI 1)), (0, .ref m0), (1, .int v1), (2, .int v2), (3, .int v3), (4, .int v4_1003), (5, .int v5_1003), (6, .int v6_1003)]) X.1.1 X.1.2.1 dX6_there_46 hl (by decide) rfl (fun ls hl => ?_)
            refine lv_iconst (v := (iI 0)) X.1.1 X.1.2.1 dX6_there_48 rfl ?_
            refine lv_istore (lv' := [(8, .int (iI 0)), (7, .int (iI 1)), (0, .ref m0), (1, .int v1), (2, .int v2), (3, .int v3), (4, .int v4_1003), (5, .int v5_1003), (6, .int v6_1003)]) X.1.1 X.1.2.1 dX6_there_49 hl (by decide) rfl (fun ls hl => ?_)
            have lp51 : ∀ (k : Int32 → Int32 → Option Int32), (∀ (v7_1004 : Int32) (v8_1004 : Int32) (ls : Array Slot), lv_has ls 9 [(0, .ref m0), (1, .int v1), (2, .int v2), (3, .int v3), (4, .int v4_1003), (5, .int v5_1003), (6, .int v6_1003), (7, .int v7_1004), (8, .int v8_1004)] → k v7_1004 v8_1004 = some u → W p l e rm6_there s m ([.ref m0, .int v1, .int v2, .int v3] : List Value).toArray below meth c s.heap [] 0 0 (MQ below (QcRead u) ([.ref m0, .int v1, .int v2, .int v3] : List Value).toArray s 0 0 (fun _ => False)) (F0 m 89 ls [])) → ∀ (n : Nat) (v7_1004 : Int32) (v8_1004 : Int32) (ls : Array Slot), lv_has ls 9 [(0, .ref m0), (1, .int v1), (2, .int v2), (3, .int v3), (4, .int v4_1003), (5, .int v5_1003), (6, .int v6_1003), (7, .int v7_1004), (8, .int v8_1004)] → l6_there_51 k v2 v6_1003 mth n v7_1004 v8_1004 = some u → W p l e rm6_there s m ([.ref m0, .int v1, .int v2, .int v3] : List Value).toArray below meth c s.heap [] 0 0 (MQ below (QcRead u) ([.ref m0, .int v1, .int v2, .int v3] : List Value).toArray s 0 0 (fun _ => False)) (F0 m 51 ls []) := by
              intro k hex n
              induction n with
              | zero =>
                intro v7_1004 v8_1004 ls hl hE
                exact absurd (show (none : Option Int32) = some u from hE) (fun h => by cases h)
              | succ n ih =>
                intro v7_1004 v8_1004 ls hl hE
                rw [l6_there_51] at hE
                refine lv_iload X.1.1 X.1.2.1 dX6_there_51 (lv_at hl 8 rfl) ?_
                refine lv_aload_n X.1.1 X.1.2.1 dX6_there_53 rfl (lv_at hl 0 rfl) ?_
                refine gf6_83 X hK hP 0 rfl rfl dX6_there_54 ?_
                refine lv_icmp_ge (tgt := 89) X.1.1 X.1.2.1 dX6_there_57 (by decide) (fun c_57 => ?_) (fun c_57 => ?_)
                · have hE := ite_t hE c_57
                  exact hex v7_1004 v8_1004 ls (lv_sub hl [0, 1, 2, 3, 4, 5, 6, 7, 8] rfl) hE
                · have hE := ite_f hE c_57
                  refine lv_iload X.1.1 X.1.2.1 dX6_there_60 (lv_at hl 7 rfl) ?_
                  refine lv_iload X.1.1 X.1.2.1 dX6_there_62 (lv_at hl 6 rfl) ?_
                  refine lv_iload X.1.1 X.1.2.1 dX6_there_64 (lv_at hl 8 rfl) ?_
                  obtain ⟨u1005, e_u1005, hE⟩ := bd_some hE
                  refine callRS (wsC := []) (As := [.int v6_1003, .int v8_1004]) (rest := [.int v7_1004]) (cI := cI) (cZ := cZ) X (c6_has (l := l) (G := G) (cI := cI) (cZ := cZ) e_u1005) o6_has tw710 ⟨rfl, rfl, Nat.le_of_ble_eq_true rfl, Nat.le_of_ble_eq_true rfl⟩ va_P_nil hK rfl hl rfl (Nat.le_of_ble_eq_true rfl) ⟨Nat.le_refl _, Nat.le_refl _⟩ dX6_there_66 ?_
                  refine lv_if_eq (tgt := 76) X.1.1 X.1.2.1 dX6_there_69 (by decide) (fun c_69 => ?_) (fun c_69 => ?_)
                  · have hE := ite_t hE c_69
                    refine lv_bipush (v := (iI 10)) X.1.1 X.1.2.1 dX6_there_76 (by decide) ?_
                    refine lv_iload_n X.1.1 X.1.2.1 dX6_there_78 rfl (lv_at hl 2 rfl) ?_
                    refine lv_isub X.1.1 X.1.2.1 dX6_there_79 ?_
                    refine lv_imul X.1.1 X.1.2.1 dX6_there_80 ?_
                    refine lv_istore (lv' := [(7, .int (v7_1004 * ((iI 10) - v2))), (0, .ref m0), (1, .int v1), (2, .int v2), (3, .int v3), (4, .int v4_1003), (5, .int v5_1003), (6, .int v6_1003), (8, .int v8_1004)]) X.1.1 X.1.2.1 dX6_there_81 hl (by decide) rfl (fun ls hl => ?_)
                    refine lv_iinc (v := (v8_1004 + (iI 1))) (lv' := [(8, .int (v8_1004 + (iI 1))), (7, .int (v7_1004 * ((iI 10) - v2))), (0, .ref m0), (1, .int v1), (2, .int v2), (3, .int v3), (4, .int v4_1003), (5, .int v5_1003), (6, .int v6_1003)]) X.1.1 X.1.2.1 dX6_there_83 hl (k := 8) rfl rfl (by decide) rfl (fun ls hl => ?_)
                    refine lv_goto (tgt := 51) X.1.1 X.1.2.1 dX6_there_86 (by decide) ?_
                    exact ih (v7_1004 * ((iI 10) - v2)) (v8_1004 + (iI 1)) ls (lv_sub hl [2, 3, 4, 5, 6, 7, 8, 1, 0] rfl) hE
                  · have hE := ite_f hE c_69
                    refine lv_iload_n X.1.1 X.1.2.1 dX6_there_72 rfl (lv_at hl 2 rfl) ?_
                    refine lv_goto (tgt := 80) X.1.1 X.1.2.1 dX6_there_73 (by decide) ?_
                    refine lv_imul X.1.1 X.1.2.1 dX6_there_80 ?_
                    refine lv_istore (lv' := [(7, .int (v7_1004 * v2)), (0, .ref m0), (1, .int v1), (2, .int v2), (3, .int v3), (4, .int v4_1003), (5, .int v5_1003), (6, .int v6_1003), (8, .int v8_1004)]) X.1.1 X.1.2.1 dX6_there_81 hl (by decide) rfl (fun ls hl => ?_)
                    refine lv_iinc (v := (v8_1004 + (iI 1))) (lv' := [(8, .int (v8_1004 + (iI 1))), (7, .int (v7_1004 * v2)), (0, .ref m0), (1, .int v1), (2, .int v2), (3, .int v3), (4, .int v4_1003), (5, .int v5_1003), (6, .int v6_1003)]) X.1.1 X.1.2.1 dX6_there_83 hl (k := 8) rfl rfl (by decide) rfl (fun ls hl => ?_)
                    refine lv_goto (tgt := 51) X.1.1 X.1.2.1 dX6_there_86 (by decide) ?_
                    exact ih (v7_1004 * v2) (v8_1004 + (iI 1)) ls (lv_sub hl [2, 3, 4, 5, 6, 7, 8, 1, 0] rfl) hE
            refine lp51 _ (fun v7_1004 v8_1004 ls hl hE => ?_) FU (iI 1) (iI 0) ls (lv_sub hl [2, 3, 4, 5, 6, 7, 8, 1, 0] rfl) hE
            refine lv_iload X.1.1 X.1.2.1 dX6_there_89 (lv_at hl 5 rfl) ?_
            refine lv_iload X.1.1 X.1.2.1 dX6_there_91 (lv_at hl 7 rfl) ?_
            refine lv_iadd X.1.1 X.1.2.1 dX6_there_93 ?_
            refine lv_istore (lv' := [(5, .int (v5_1003 + v7_1004)), (0, .ref m0), (1, .int v1), (2, .int v2), (3, .int v3), (4, .int v4_1003), (6, .int v6_1003), (7, .int v7_1004), (8, .int v8_1004)]) X.1.1 X.1.2.1 dX6_there_94 hl (by decide) rfl (fun ls hl => ?_)
            refine lv_iload X.1.1 X.1.2.1 dX6_there_96 (lv_at hl 5 rfl) ?_
            refine lv_aload_n X.1.1 X.1.2.1 dX6_there_98 rfl (lv_at hl 1 rfl) ?_
            refine lv_aload_n X.1.1 X.1.2.1 dX6_there_99 rfl (lv_at hl 1 rfl) ?_
            refine gf6_19 X hK hP 0 rfl rfl dX6_there_100 ?_
            refine lv_iload_n X.1.1 X.1.2.1 dX6_there_103 rfl (lv_at hl 2 rfl) ?_
            obtain ⟨i_104, hE⟩ := ib_some hE
            refine va_iald X.1.1 X.1.2.1 hK hP 4 0 rfl rfl i_104 dX6_there_104 ?_
            refine lv_iload_n X.1.1 X.1.2.1 dX6_there_105 rfl (lv_at hl 2 rfl) ?_
            refine lv_aload_n X.1.1 X.1.2.1 dX6_there_106 rfl (lv_at hl 1 rfl) ?_
            refine gf6_19 X hK hP 0 rfl rfl dX6_there_107 ?_
            refine lv_iconst (v := (iI 5)) X.1.1 X.1.2.1 dX6_there_110 rfl ?_
            refine va_iald X.1.1 X.1.2.1 hK hP 4 0 rfl rfl (vin (by decide)) dX6_there_111 ?_
            refine lv_iload X.1.1 X.1.2.1 dX6_there_112 (lv_at hl 6 rfl) ?_
            obtain ⟨u1006, e_u1006, hE⟩ := bd_some hE
            refine callRV (wsC := (wM cI cZ m0 m1 m2 m3 m4 m5 m6 m7 m8 m9 m10 m11 m12 m13 mwo mth mrn mrm mln mat mfa mac mnx mse msd mki mof mpu mno mrw mrt mtx mro mso msf msc mik mkt)) (As := [.int (mno v1.toNatClampNeg), .int v1, .int (mno (iI 5).toNatClampNeg), .int v6_1003]) (rest := [.int v4_1003]) (ci := 6) X (c6_comesBy (l := l) e_u1006) o6_comesBy tw702 ⟨rfl, rfl, Nat.le_of_ble_eq_true rfl, Nat.le_of_ble_eq_true rfl⟩ hP hK 0 rfl rfl rfl rfl hl rfl (Nat.le_of_ble_eq_true rfl) ⟨Nat.le_refl _, Nat.le_refl _⟩ dX6_there_114 ?_
            refine lv_if_eq (tgt := 125) X.1.1 X.1.2.1 dX6_there_117 (by decide) (fun c_117 => ?_) (fun c_117 => ?_)
            · have hE := ite_t hE c_117
              refine lv_iconst (v := (iI 0)) X.1.1 X.1.2.1 dX6_there_125 rfl ?_
              refine lv_iadd X.1.1 X.1.2.1 dX6_there_126 ?_
              refine lv_istore (lv' := [(4, .int (v4_1003 + (iI 0))), (5, .int (v5_1003 + v7_1004)), (0, .ref m0), (1, .int v1), (2, .int v2), (3, .int v3), (6, .int v6_1003), (7, .int v7_1004), (8, .int v8_1004)]) X.1.1 X.1.2.1 dX6_there_127 hl (by decide) rfl (fun ls hl => ?_)
              refine lv_iinc (v := (v6_1003 + (iI 1))) (lv' := [(6, .int (v6_1003 + (iI 1))), (4, .int (v4_1003 + (iI 0))), (5, .int (v5_1003 + v7_1004)), (0, .ref m0), (1, .int v1), (2, .int v2), (3, .int v3), (7, .int v7_1004), (8, .int v8_1004)]) X.1.1 X.1.2.1 dX6_there_129 hl (k := 6) rfl rfl (by decide) rfl (fun ls hl => ?_)
              refine lv_goto (tgt := 34) X.1.1 X.1.2.1 dX6_there_132 (by decide) ?_
              exact ih (v4_1003 + (iI 0)) (v5_1003 + v7_1004) (v6_1003 + (iI 1)) ls (lv_sub hl [3, 4, 5, 6, 1, 2, 0] rfl) hE
            · have hE := ite_f hE c_117
              refine lv_iload X.1.1 X.1.2.1 dX6_there_120 (lv_at hl 7 rfl) ?_
              refine lv_goto (tgt := 126) X.1.1 X.1.2.1 dX6_there_122 (by decide) ?_
              refine lv_iadd X.1.1 X.1.2.1 dX6_there_126 ?_
              refine lv_istore (lv' := [(4, .int (v4_1003 + v7_1004)), (5, .int (v5_1003 + v7_1004)), (0, .ref m0), (1, .int v1), (2, .int v2), (3, .int v3), (6, .int v6_1003), (7, .int v7_1004), (8, .int v8_1004)]) X.1.1 X.1.2.1 dX6_there_127 hl (by decide) rfl (fun ls hl => ?_)
              refine lv_iinc (v := (v6_1003 + (iI 1))) (lv' := [(6, .int (v6_1003 + (iI 1))), (4, .int (v4_1003 + v7_1004)), (5, .int (v5_1003 + v7_1004)), (0, .ref m0), (1, .int v1), (2, .int v2), (3, .int v3), (7, .int v7_1004), (8, .int v8_1004)]) X.1.1 X.1.2.1 dX6_there_129 hl (k := 6) rfl rfl (by decide) rfl (fun ls hl => ?_)
              refine lv_goto (tgt := 34) X.1.1 X.1.2.1 dX6_there_132 (by decide) ?_
              exact ih (v4_1003 + v7_1004) (v5_1003 + v7_1004) (v6_1003 + (iI 1)) ls (lv_sub hl [3, 4, 5, 6, 1, 2, 0] rfl) hE
      refine lp34 _ (fun v4_1003 v5_1003 v6_1003 ls hl hE => ?_) FU (iI 0) (iI 0) (iI 0) ls (lv_sub hl [3, 4, 5, 6, 2, 1, 0] rfl) hE
      refine lv_iload X.1.1 X.1.2.1 dX6_there_135 (lv_at hl 4 rfl) ?_
      refine lv_iload X.1.1 X.1.2.1 dX6_there_137 (lv_at hl 5 rfl) ?_
      obtain ⟨u1007, e_u1007, hE⟩ := bd_some hE
      refine callRS (wsC := []) (As := [.int v4_1003, .int v5_1003]) (rest := []) (cI := cI) (cZ := cZ) X (c6_common (l := l) (G := G) (cI := cI) (cZ := cZ) e_u1007) o6_common tw844 ⟨rfl, rfl, Nat.le_of_ble_eq_true rfl, Nat.le_of_ble_eq_true rfl⟩ va_P_nil hK rfl hl rfl (by decide) ⟨Nat.le_refl _, Nat.le_refl _⟩ dX6_there_139 ?_
      refine lv_istore (lv' := [(6, .int u1007), (0, .ref m0), (1, .int v1), (2, .int v2), (3, .int v3), (4, .int v4_1003), (5, .int v5_1003)]) X.1.1 X.1.2.1 dX6_there_142 hl (by decide) rfl (fun ls hl => ?_)
      refine lv_iload_n X.1.1 X.1.2.1 dX6_there_144 rfl (lv_at hl 4 rfl) ?_
      refine lv_if_eq (tgt := 156) X.1.1 X.1.2.1 dX6_there_145 (by decide) (fun c_145 => ?_) (fun c_145 => ?_)
      · have hE := ite_t hE c_145
        refine lv_iload X.1.1 X.1.2.1 dX6_there_156 (lv_at hl 6 rfl) ?_
        refine lv_iload X.1.1 X.1.2.1 dX6_there_158 (lv_at hl 0 rfl) ?_
        obtain ⟨g_160, hE⟩ := nz_some hE
        refine lv_idiv X.1.1 X.1.2.1 dX6_there_160 g_160 ?_
        cases hE
        exact retR X dX6_there_161
      · have hE := ite_f hE c_145
        refine lv_iload X.1.1 X.1.2.1 dX6_there_148 (lv_at hl 5 rfl) ?_
        refine lv_iload X.1.1 X.1.2.1 dX6_there_150 (lv_at hl 0 rfl) ?_
        obtain ⟨g_152, hE⟩ := nz_some hE
        refine lv_idiv X.1.1 X.1.2.1 dX6_there_152 g_152 ?_
        refine lv_goto (tgt := 161) X.1.1 X.1.2.1 dX6_there_153 (by decide) ?_
        cases hE
        exact retR X dX6_there_161
    · have hE := ite_t hE c_19
      refine lv_bipush (v := (iI (-2))) X.1.1 X.1.2.1 dX6_there_22 (by decide) ?_
      cases hE
      exact retR X dX6_there_24
  · have hE := ite_t hE c_5
    refine lv_iconst (v := (iI (-1))) X.1.1 X.1.2.1 dX6_there_8 rfl ?_
    cases hE
    exact retR X dX6_there_9
theorem o6_seed : oV yX6_seed RX6 cX6_seed 5 (some .long) 1 := ⟨tw867, tw865, tw866, tw45, ⟨by decide +kernel, by decide +kernel⟩, by decide +kernel⟩
abbrev rm6_seed : Room := { frames := 0, cells := 0, slots := 0, locals := 0 }
set_option maxHeartbeats 4000000 in
set_option maxRecDepth 100000 in
theorem c6_seed {l : Launch} {G : va_G} {cI cZ : ClassId} {m0 m1 m2 m3 m4 m5 m6 m7 m8 m9 m10 m11 m12 m13 : Nat} {mwo : Int32} {mth : Int32} {mrn : Int32} {mrm : Int32} {mln : Int32} {mat : Int32} {mfa : Int32} {mac : Int32} {mnx : Int32} {mse : Int32} {msd : Int64} {mki : Nat → Int32} {mof : Nat → Int32} {mpu : Nat → Int32} {mno : Nat → Int32} {mrw : Nat → Int32} {mrt : Nat → Int32} {mtx : Nat → Int32} {mro : Nat → Int32} {mso : Nat → Int32} {msf : Nat → Int32} {msc : Nat → Int32} {mik : Nat → Int32} {mkt : Nat → Int32} {v1 : Int64} {sz : Nat} {u : Int64 × Int64} (hE : f6_seed v1 msd = some u) : Met l yX6_seed (Cond.code yX6_seed cX6_seed 5 (some .long) :: TB) rm6_seed (PcW G cI cZ (wM cI cZ m0 m1 m2 m3 m4 m5 m6 m7 m8 m9 m10 m11 m12 m13 mwo mth mrn mrm mln mat mfa mac mnx mse msd mki mof mpu mno mrw mrt mtx mro mso msf msc mik mkt) sz ([.ref m0, .long v1] : List Value)) (QW G (some (.long u.1)) (wM cI cZ m0 m1 m2 m3 m4 m5 m6 m7 m8 m9 m10 m11 m12 m13 mwo mth mrn mrm mln mat mfa mac mnx mse u.2 mki mof mpu mno mrw mrt mtx mro mso msf msc mik mkt) (va_A (wM cI cZ m0 m1 m2 m3 m4 m5 m6 m7 m8 m9 m10 m11 m12 m13 mwo mth mrn mrm mln mat mfa mac mnx mse msd mki mof mpu mno mrw mrt mtx mro mso msf msc mik mkt) sz)) 0 0 (va_A (wM cI cZ m0 m1 m2 m3 m4 m5 m6 m7 m8 m9 m10 m11 m12 m13 mwo mth mrn mrm mln mat mfa mac mnx mse msd mki mof mpu mno mrw mrt mtx mro mso msf msc mik mkt) sz) := by
  refine metW (own := RX6) (by decide +kernel) rfl (Nat.le_of_ble_eq_true rfl) ?_
  intro p e s m below meth c ls A X hA hP hK hD hl
  have hS : va_S A s.heap s.heap [] := va_S.rf
  have hl : lv_has ls 5 [(0, .ref m0), (1, .long v1)] := hl
  unfold f6_seed at hE
  refine lv_aload_n X.1.1 X.1.2.1 dX6_seed_0 rfl (lv_at hl 0 rfl) ?_
  refine gf6_183 X hK hP 0 rfl rfl dX6_seed_1 ?_
  refine lv_lstore_n (lv' := [(3, .long msd), (0, .ref m0), (1, .long v1)]) X.1.1 X.1.2.1 dX6_seed_4 rfl hl (by decide) rfl (fun ls hl => ?_)
  refine lv_aload_n X.1.1 X.1.2.1 dX6_seed_5 rfl (lv_at hl 1 rfl) ?_
  refine lv_lload_n X.1.1 X.1.2.1 dX6_seed_6 rfl (lv_at hl 2 rfl) ?_
  refine pf6_183 (ws2 := (wM cI cZ m0 m1 m2 m3 m4 m5 m6 m7 m8 m9 m10 m11 m12 m13 mwo mth mrn mrm mln mat mfa mac mnx mse v1 mki mof mpu mno mrw mrt mtx mro mso msf msc mik mkt)) X hK hP hD hS 0 rfl (Nat.le_of_ble_eq_true rfl) rfl dX6_seed_7 (fun H locs hP hD hS => ?_)
  refine lv_lload_n X.1.1 X.1.2.1 dX6_seed_10 rfl (lv_at hl 0 rfl) ?_
  cases hE
  exact retWL X hP hS dX6_seed_11
theorem o6_walks : oV yX6_walks RX6 cX6_walks 6 (some .int) 1 := ⟨tw871, tw869, tw870, tw45, ⟨by decide +kernel, by decide +kernel⟩, by decide +kernel⟩
abbrev rm6_walks : Room := { frames := 4, cells := 0, slots := 0, locals := 98 }
set_option maxHeartbeats 4000000 in
set_option maxRecDepth 100000 in
theorem c6_walks {l : Launch} {G : va_G} {cI cZ : ClassId} {m0 m1 m2 m3 m4 m5 m6 m7 m8 m9 m10 m11 m12 m13 : Nat} {mwo : Int32} {mth : Int32} {mrn : Int32} {mrm : Int32} {mln : Int32} {mat : Int32} {mfa : Int32} {mac : Int32} {mnx : Int32} {mse : Int32} {msd : Int64} {mki : Nat → Int32} {mof : Nat → Int32} {mpu : Nat → Int32} {mno : Nat → Int32} {mrw : Nat → Int32} {mrt : Nat → Int32} {mtx : Nat → Int32} {mro : Nat → Int32} {mso : Nat → Int32} {msf : Nat → Int32} {msc : Nat → Int32} {mik : Nat → Int32} {mkt : Nat → Int32} {v1 : Int32} {sz : Nat} {u : Int32 × Int64 × (Nat → Int32)} (hE : f6_walks v1 mwo mth msd mki mof mpu mno = some u) : Met l yX6_walks (Cond.code yX6_walks cX6_walks 6 (some .int) :: TB) rm6_walks (PcW G cI cZ (wM cI cZ m0 m1 m2 m3 m4 m5 m6 m7 m8 m9 m10 m11 m12 m13 mwo mth mrn mrm mln mat mfa mac mnx mse msd mki mof mpu mno mrw mrt mtx mro mso msf msc mik mkt) sz ([.ref m0, .int v1] : List Value)) (QW G (some (.int u.1)) (wM cI cZ m0 m1 m2 m3 m4 m5 m6 m7 m8 m9 m10 m11 m12 m13 mwo mth mrn mrm mln mat mfa mac mnx mse u.2.1 mki mof mpu u.2.2 mrw mrt mtx mro mso msf msc mik mkt) (va_A (wM cI cZ m0 m1 m2 m3 m4 m5 m6 m7 m8 m9 m10 m11 m12 m13 mwo mth mrn mrm mln mat mfa mac mnx mse msd mki mof mpu mno mrw mrt mtx mro mso msf msc mik mkt) sz)) 0 0 (va_A (wM cI cZ m0 m1 m2 m3 m4 m5 m6 m7 m8 m9 m10 m11 m12 m13 mwo mth mrn mrm mln mat mfa mac mnx mse msd mki mof mpu mno mrw mrt mtx mro mso msf msc mik mkt) sz) := by
  refine metW (own := RX6) (by decide +kernel) rfl (Nat.le_of_ble_eq_true rfl) ?_
  intro p e s m below meth c ls A X hA hP hK hD hl
  have hS : va_S A s.heap s.heap [] := va_S.rf
  have hl : lv_has ls 6 [(0, .ref m0), (1, .int v1)] := hl
  unfold f6_walks at hE
  refine lv_iload_n X.1.1 X.1.2.1 dX6_walks_0 rfl (lv_at hl 1 rfl) ?_
  refine lv_i2l (v := v1.toInt64) X.1.1 X.1.2.1 dX6_walks_1 rfl ?_
  refine lv_lconst (v := (Int64.ofNat 1)) X.1.1 X.1.2.1 dX6_walks_2 rfl ?_
  refine lv_ldc2 X.1.1 X.1.2.1 X.1.2.2.2.1 (X.1.2.2.2.2 _ tw872) dX6_walks_3 ?_
  obtain ⟨u1001, e_u1001, hE⟩ := bd_some hE
  refine callRS (wsC := []) (As := [.long (v1.toInt64), .long (Int64.ofNat 1), .long (30 : Int64)]) (rest := []) (cI := cI) (cZ := cZ) X (c6_in (l := l) (G := G) (cI := cI) (cZ := cZ) e_u1001) o6_in tw663 ⟨rfl, rfl, Nat.le_of_ble_eq_true rfl, Nat.le_of_ble_eq_true rfl⟩ va_P_nil hK rfl hl rfl (by decide) ⟨Nat.le_refl _, Nat.le_refl _⟩ dX6_walks_6 ?_
  refine lv_if_ne (tgt := 15) X.1.1 X.1.2.1 dX6_walks_9 (by decide) (fun c_9 => ?_) (fun c_9 => ?_)
  · have hE := ite_f hE c_9
    refine lv_aload_n X.1.1 X.1.2.1 dX6_walks_15 rfl (lv_at hl 0 rfl) ?_
    obtain ⟨u1002, e_u1002, hE⟩ := bd_some hE
    refine callWF (ws := (wM cI cZ m0 m1 m2 m3 m4 m5 m6 m7 m8 m9 m10 m11 m12 m13 mwo mth mrn mrm mln mat mfa mac mnx mse msd mki mof mpu mno mrw mrt mtx mro mso msf msc mik mkt)) (ws' := (wM cI cZ m0 m1 m2 m3 m4 m5 m6 m7 m8 m9 m10 m11 m12 m13 mwo mth mrn mrm mln mat mfa mac mnx mse msd mki mof mpu u1002 mrw mrt mtx mro mso msf msc mik mkt)) (As := []) (rest := []) (ov := none) (st1 := []) (ci := 6) X (c6_layTrial (l := l) e_u1002) o6_layTrial tw801 ⟨rfl, rfl, Nat.le_of_ble_eq_true rfl, Nat.le_of_ble_eq_true rfl⟩ hP hK hD hS hA (wM_fst.trans wM_fst.symm) 0 rfl rfl rfl rfl hl rfl (by decide) ⟨Nat.le_refl _, Nat.le_refl _⟩ rfl dX6_walks_16 (fun H locs hP hD hS => ?_)
    refine lv_iconst (v := (iI 0)) X.1.1 X.1.2.1 dX6_walks_19 rfl ?_
    refine lv_istore_n (lv' := [(2, .int (iI 0)), (0, .ref m0), (1, .int v1)]) X.1.1 X.1.2.1 dX6_walks_20 rfl hl (by decide) rfl (fun ls hl => ?_)
    refine lv_iconst (v := (iI 0)) X.1.1 X.1.2.1 dX6_walks_21 rfl ?_
    refine lv_istore_n (lv' := [(3, .int (iI 0)), (2, .int (iI 0)), (0, .ref m0), (1, .int v1)]) X.1.1 X.1.2.1 dX6_walks_22 rfl hl (by decide) rfl (fun ls hl => ?_)
    have lp23 : ∀ (k : Int32 → Int32 → Int64 → (Nat → Int32) → Option (Int32 × Int64 × (Nat → Int32))), (∀ (v2_1003 : Int32) (v3_1003 : Int32) (msd_1003 : Int64) (mno_1003 : Nat → Int32) (H : Heap) (locs : List Loc) (ls : Array Slot), va_P G vwCl (wM cI cZ m0 m1 m2 m3 m4 m5 m6 m7 m8 m9 m10 m11 m12 m13 mwo mth mrn mrm mln mat mfa mac mnx mse msd_1003 mki mof mpu mno_1003 mrw mrt mtx mro mso msf msc mik mkt) H → va_D A (wM cI cZ m0 m1 m2 m3 m4 m5 m6 m7 m8 m9 m10 m11 m12 m13 mwo mth mrn mrm mln mat mfa mac mnx mse msd_1003 mki mof mpu mno_1003 mrw mrt mtx mro mso msf msc mik mkt) → va_S A s.heap H locs → lv_has ls 6 [(0, .ref m0), (1, .int v1), (2, .int v2_1003), (3, .int v3_1003)] → k v2_1003 v3_1003 msd_1003 mno_1003 = some u → W p l e rm6_walks s m ([.ref m0, .int v1] : List Value).toArray below meth c H locs 0 0 (MQ below (QW G (some (.int u.1)) (wM cI cZ m0 m1 m2 m3 m4 m5 m6 m7 m8 m9 m10 m11 m12 m13 mwo mth mrn mrm mln mat mfa mac mnx mse u.2.1 mki mof mpu u.2.2 mrw mrt mtx mro mso msf msc mik mkt) A) ([.ref m0, .int v1] : List Value).toArray s 0 0 A) (F0 m 145 ls [])) → ∀ (n : Nat) (v2_1003 : Int32) (v3_1003 : Int32) (msd_1003 : Int64) (mno_1003 : Nat → Int32) (H : Heap) (locs : List Loc) (ls : Array Slot), va_P G vwCl (wM cI cZ m0 m1 m2 m3 m4 m5 m6 m7 m8 m9 m10 m11 m12 m13 mwo mth mrn mrm mln mat mfa mac mnx mse msd_1003 mki mof mpu mno_1003 mrw mrt mtx mro mso msf msc mik mkt) H → va_D A (wM cI cZ m0 m1 m2 m3 m4 m5 m6 m7 m8 m9 m10 m11 m12 m13 mwo mth mrn mrm mln mat mfa mac mnx mse msd_1003 mki mof mpu mno_1003 mrw mrt mtx mro mso msf msc mik mkt) → va_S A s.heap H locs → lv_has ls 6 [(0, .ref m0), (1, .int v1), (2, .int v2_1003), (3, .int v3_1003)] → l6_walks_23 k v1 mwo mth mki mof mpu n v2_1003 v3_1003 msd_1003 mno_1003 = some u → W p l e rm6_walks s m ([.ref m0, .int v1] : List Value).toArray below meth c H locs 0 0 (MQ below (QW G (some (.int u.1)) (wM cI cZ m0 m1 m2 m3 m4 m5 m6 m7 m8 m9 m10 m11 m12 m13 mwo mth mrn mrm mln mat mfa mac mnx mse u.2.1 mki mof mpu u.2.2 mrw mrt mtx mro mso msf msc mik mkt) A) ([.ref m0, .int v1] : List Value).toArray s 0 0 A) (F0 m 23 ls []) := by
      intro k hex n
      induction n with
      | zero =>
        intro v2_1003 v3_1003 msd_1003 mno_1003 H locs ls hP hD hS hl hE
        exact absurd (show (none : Option (Int32 × Int64 × (Nat → Int32))) = some u from hE) (fun h => by cases h)
      | succ n ih =>
        intro v2_1003 v3_1003 msd_1003 mno_1003 H locs ls hP hD hS hl hE
        rw [l6_walks_23] at hE
        refine lv_iload_n X.1.1 X.1.2.1 dX6_walks_23 rfl (lv_at hl 3 rfl) ?_
        refine lv_iload_n X.1.1 X.1.2.1 dX6_walks_24 rfl (lv_at hl 1 rfl) ?_
        refine lv_icmp_ge (tgt := 145) X.1.1 X.1.2.1 dX6_walks_25 (by decide) (fun c_25 => ?_) (fun c_25 => ?_)
        · have hE := ite_t hE c_25
          exact hex v2_1003 v3_1003 msd_1003 mno_1003 H locs ls hP hD hS (lv_sub hl [0, 1, 2, 3] rfl) hE
        · have hE := ite_f hE c_25
          refine lv_aload_n X.1.1 X.1.2.1 dX6_walks_28 rfl (lv_at hl 0 rfl) ?_
          refine lv_aload_n X.1.1 X.1.2.1 dX6_walks_29 rfl (lv_at hl 0 rfl) ?_
          refine gf6_183 X hK hP 0 rfl rfl dX6_walks_30 ?_
          refine lv_ldc2 X.1.1 X.1.2.1 X.1.2.2.2.1 (X.1.2.2.2.2 _ tw873) dX6_walks_33 ?_
          refine lv_lmul X.1.1 X.1.2.1 dX6_walks_36 ?_
          refine lv_ldc2 X.1.1 X.1.2.1 X.1.2.2.2.1 (X.1.2.2.2.2 _ tw874) dX6_walks_37 ?_
          refine lv_ladd X.1.1 X.1.2.1 dX6_walks_40 ?_
          refine pf6_183 (ws2 := (wM cI cZ m0 m1 m2 m3 m4 m5 m6 m7 m8 m9 m10 m11 m12 m13 mwo mth mrn mrm mln mat mfa mac mnx mse ((msd_1003 * (6364136223846793005 : Int64)) + (1442695040888963407 : Int64)) mki mof mpu mno_1003 mrw mrt mtx mro mso msf msc mik mkt)) X hK hP hD hS 0 rfl (Nat.le_of_ble_eq_true rfl) rfl dX6_walks_41 (fun H locs hP hD hS => ?_)
          refine lv_aload_n X.1.1 X.1.2.1 dX6_walks_44 rfl (lv_at hl 0 rfl) ?_
          refine gf6_183 X hK hP 0 rfl rfl dX6_walks_45 ?_
          refine lv_bipush (v := (iI 33)) X.1.1 X.1.2.1 dX6_walks_48 (by decide) ?_
          refine lv_lushr (v := (((msd_1003 * (6364136223846793005 : Int64)) + (1442695040888963407 : Int64)).toUInt64 >>> ((iI 33).toInt64.toUInt64 &&& Int64.toUInt64 63)).toInt64) X.1.1 X.1.2.1 dX6_walks_50 rfl ?_
          refine lv_ldc2 X.1.1 X.1.2.1 X.1.2.2.2.1 (X.1.2.2.2.2 _ tw875) dX6_walks_51 ?_
          refine r_lrem X.1.1 X.1.2.1 dX6_walks_54 (by decide) ?_
          refine lv_l2i (v := (rmL ((((msd_1003 * (6364136223846793005 : Int64)) + (1442695040888963407 : Int64)).toUInt64 >>> ((iI 33).toInt64.toUInt64 &&& Int64.toUInt64 63)).toInt64) (20 : Int64)).toInt32) X.1.1 X.1.2.1 dX6_walks_55 rfl ?_
          refine lv_istore (lv' := [(4, .int ((rmL ((((msd_1003 * (6364136223846793005 : Int64)) + (1442695040888963407 : Int64)).toUInt64 >>> ((iI 33).toInt64.toUInt64 &&& Int64.toUInt64 63)).toInt64) (20 : Int64)).toInt32)), (0, .ref m0), (1, .int v1), (2, .int v2_1003), (3, .int v3_1003)]) X.1.1 X.1.2.1 dX6_walks_56 hl (by decide) rfl (fun ls hl => ?_)
          refine lv_aload_n X.1.1 X.1.2.1 dX6_walks_58 rfl (lv_at hl 1 rfl) ?_
          refine gf6_19 X hK hP 0 rfl rfl dX6_walks_59 ?_
          refine lv_bipush (v := (iI 18)) X.1.1 X.1.2.1 dX6_walks_62 (by decide) ?_
          refine va_iald X.1.1 X.1.2.1 hK hP 4 0 rfl rfl (vin (by decide)) dX6_walks_64 ?_
          refine lv_if_ne (tgt := 139) X.1.1 X.1.2.1 dX6_walks_65 (by decide) (fun c_65 => ?_) (fun c_65 => ?_)
          · have hE := ite_f hE c_65
            refine lv_iinc (v := (v3_1003 + (iI 1))) (lv' := [(3, .int (v3_1003 + (iI 1))), (4, .int ((rmL ((((msd_1003 * (6364136223846793005 : Int64)) + (1442695040888963407 : Int64)).toUInt64 >>> ((iI 33).toInt64.toUInt64 &&& Int64.toUInt64 63)).toInt64) (20 : Int64)).toInt32)), (0, .ref m0), (1, .int v1), (2, .int v2_1003)]) X.1.1 X.1.2.1 dX6_walks_139 hl (k := 4) rfl rfl (by decide) rfl (fun ls hl => ?_)
            refine lv_goto (tgt := 23) X.1.1 X.1.2.1 dX6_walks_142 (by decide) ?_
            exact ih v2_1003 (v3_1003 + (iI 1)) ((msd_1003 * (6364136223846793005 : Int64)) + (1442695040888963407 : Int64)) mno_1003 H locs ls hP hD hS (lv_sub hl [2, 3, 4, 0] rfl) hE
          · have hE := ite_t hE c_65
            refine lv_aload_n X.1.1 X.1.2.1 dX6_walks_68 rfl (lv_at hl 1 rfl) ?_
            refine lv_iconst (v := (iI 1)) X.1.1 X.1.2.1 dX6_walks_69 rfl ?_
            refine lv_iload X.1.1 X.1.2.1 dX6_walks_70 (lv_at hl 0 rfl) ?_
            refine lv_iconst (v := (iI 5)) X.1.1 X.1.2.1 dX6_walks_72 rfl ?_
            refine r_irem X.1.1 X.1.2.1 dX6_walks_73 (by decide) ?_
            obtain ⟨u1004, e_u1004, hE⟩ := bd_some hE
            refine callWF (ws := (wM cI cZ m0 m1 m2 m3 m4 m5 m6 m7 m8 m9 m10 m11 m12 m13 mwo mth mrn mrm mln mat mfa mac mnx mse ((msd_1003 * (6364136223846793005 : Int64)) + (1442695040888963407 : Int64)) mki mof mpu mno_1003 mrw mrt mtx mro mso msf msc mik mkt)) (ws' := (wM cI cZ m0 m1 m2 m3 m4 m5 m6 m7 m8 m9 m10 m11 m12 m13 mwo mth mrn mrm mln mat mfa mac mnx mse ((msd_1003 * (6364136223846793005 : Int64)) + (1442695040888963407 : Int64)) mki mof mpu u1004 mrw mrt mtx mro mso msf msc mik mkt)) (As := [.int (iI 1), .int (rmI ((rmL ((((msd_1003 * (6364136223846793005 : Int64)) + (1442695040888963407 : Int64)).toUInt64 >>> ((iI 33).toInt64.toUInt64 &&& Int64.toUInt64 63)).toInt64) (20 : Int64)).toInt32) (iI 5))]) (rest := []) (ov := none) (st1 := []) (ci := 6) X (c6_runOn (l := l) e_u1004) o6_runOn tw758 ⟨rfl, rfl, Nat.le_of_ble_eq_true rfl, Nat.le_of_ble_eq_true rfl⟩ hP hK hD hS hA (wM_fst.trans wM_fst.symm) 0 rfl rfl rfl rfl hl rfl (by decide) ⟨Nat.le_refl _, Nat.le_refl _⟩ rfl dX6_walks_74 (fun H locs hP hD hS => ?_)
            refine lv_aload_n X.1.1 X.1.2.1 dX6_walks_77 rfl (lv_at hl 1 rfl) ?_
            refine lv_iload X.1.1 X.1.2.1 dX6_walks_78 (lv_at hl 0 rfl) ?_
            refine lv_iconst (v := (iI 5)) X.1.1 X.1.2.1 dX6_walks_80 rfl ?_
            refine lv_idiv X.1.1 X.1.2.1 dX6_walks_81 (by decide) ?_
            obtain ⟨u1005, e_u1005, hE⟩ := bd_some hE
            refine callRV (wsC := (wM cI cZ m0 m1 m2 m3 m4 m5 m6 m7 m8 m9 m10 m11 m12 m13 mwo mth mrn mrm mln mat mfa mac mnx mse ((msd_1003 * (6364136223846793005 : Int64)) + (1442695040888963407 : Int64)) mki mof mpu u1004 mrw mrt mtx mro mso msf msc mik mkt)) (As := [.int (((rmL ((((msd_1003 * (6364136223846793005 : Int64)) + (1442695040888963407 : Int64)).toUInt64 >>> ((iI 33).toInt64.toUInt64 &&& Int64.toUInt64 63)).toInt64) (20 : Int64)).toInt32) / (iI 5))]) (rest := []) (ci := 6) X (c6_isWord (l := l) e_u1005) o6_isWord tw690 ⟨rfl, rfl, Nat.le_of_ble_eq_true rfl, Nat.le_of_ble_eq_true rfl⟩ hP hK 0 rfl rfl rfl rfl hl rfl (by decide) ⟨Nat.le_refl _, Nat.le_refl _⟩ dX6_walks_82 ?_
            refine lv_if_eq (tgt := 104) X.1.1 X.1.2.1 dX6_walks_85 (by decide) (fun c_85 => ?_) (fun c_85 => ?_)
            · have hE := ite_t hE c_85
              refine lv_iconst (v := (iI 0)) X.1.1 X.1.2.1 dX6_walks_104 rfl ?_
              refine lv_istore (lv' := [(5, .int (iI 0)), (4, .int ((rmL ((((msd_1003 * (6364136223846793005 : Int64)) + (1442695040888963407 : Int64)).toUInt64 >>> ((iI 33).toInt64.toUInt64 &&& Int64.toUInt64 63)).toInt64) (20 : Int64)).toInt32)), (0, .ref m0), (1, .int v1), (2, .int v2_1003), (3, .int v3_1003)]) X.1.1 X.1.2.1 dX6_walks_105 hl (by decide) rfl (fun ls hl => ?_)
              refine lv_iload_n X.1.1 X.1.2.1 dX6_walks_107 rfl (lv_at hl 4 rfl) ?_
              refine lv_iload X.1.1 X.1.2.1 dX6_walks_108 (lv_at hl 0 rfl) ?_
              refine lv_if_eq (tgt := 117) X.1.1 X.1.2.1 dX6_walks_110 (by decide) (fun _ => ?_) (fun c_ => False.elim (by revert c_; decide))
              refine lv_iconst (v := (iI 0)) X.1.1 X.1.2.1 dX6_walks_117 rfl ?_
              refine lv_iadd X.1.1 X.1.2.1 dX6_walks_118 ?_
              refine lv_istore_n (lv' := [(2, .int (v2_1003 + (iI 0))), (5, .int (iI 0)), (4, .int ((rmL ((((msd_1003 * (6364136223846793005 : Int64)) + (1442695040888963407 : Int64)).toUInt64 >>> ((iI 33).toInt64.toUInt64 &&& Int64.toUInt64 63)).toInt64) (20 : Int64)).toInt32)), (0, .ref m0), (1, .int v1), (3, .int v3_1003)]) X.1.1 X.1.2.1 dX6_walks_119 rfl hl (by decide) rfl (fun ls hl => ?_)
              refine lv_iload X.1.1 X.1.2.1 dX6_walks_120 (lv_at hl 1 rfl) ?_
              refine lv_if_eq (tgt := 139) X.1.1 X.1.2.1 dX6_walks_122 (by decide) (fun _ => ?_) (fun c_ => False.elim (by revert c_; decide))
              refine lv_iinc (v := (v3_1003 + (iI 1))) (lv' := [(3, .int (v3_1003 + (iI 1))), (2, .int (v2_1003 + (iI 0))), (5, .int (iI 0)), (4, .int ((rmL ((((msd_1003 * (6364136223846793005 : Int64)) + (1442695040888963407 : Int64)).toUInt64 >>> ((iI 33).toInt64.toUInt64 &&& Int64.toUInt64 63)).toInt64) (20 : Int64)).toInt32)), (0, .ref m0), (1, .int v1)]) X.1.1 X.1.2.1 dX6_walks_139 hl (k := 5) rfl rfl (by decide) rfl (fun ls hl => ?_)
              refine lv_goto (tgt := 23) X.1.1 X.1.2.1 dX6_walks_142 (by decide) ?_
              exact ih (v2_1003 + (iI 0)) (v3_1003 + (iI 1)) ((msd_1003 * (6364136223846793005 : Int64)) + (1442695040888963407 : Int64)) u1004 H locs ls hP hD hS (lv_sub hl [4, 5, 1, 0] rfl) hE
            · have hE := ite_f hE c_85
              refine lv_aload_n X.1.1 X.1.2.1 dX6_walks_88 rfl (lv_at hl 1 rfl) ?_
              refine lv_iconst (v := (iI 1)) X.1.1 X.1.2.1 dX6_walks_89 rfl ?_
              refine lv_iload X.1.1 X.1.2.1 dX6_walks_90 (lv_at hl 0 rfl) ?_
              refine lv_iconst (v := (iI 5)) X.1.1 X.1.2.1 dX6_walks_92 rfl ?_
              refine lv_idiv X.1.1 X.1.2.1 dX6_walks_93 (by decide) ?_
              obtain ⟨u1006, e_u1006, hE⟩ := bd_some hE
              refine callWF (ws := (wM cI cZ m0 m1 m2 m3 m4 m5 m6 m7 m8 m9 m10 m11 m12 m13 mwo mth mrn mrm mln mat mfa mac mnx mse ((msd_1003 * (6364136223846793005 : Int64)) + (1442695040888963407 : Int64)) mki mof mpu u1004 mrw mrt mtx mro mso msf msc mik mkt)) (ws' := (wM cI cZ m0 m1 m2 m3 m4 m5 m6 m7 m8 m9 m10 m11 m12 m13 mwo mth mrn mrm mln mat mfa mac mnx mse ((msd_1003 * (6364136223846793005 : Int64)) + (1442695040888963407 : Int64)) mki mof mpu u1006.2 mrw mrt mtx mro mso msf msc mik mkt)) (As := [.int (iI 1), .int (((rmL ((((msd_1003 * (6364136223846793005 : Int64)) + (1442695040888963407 : Int64)).toUInt64 >>> ((iI 33).toInt64.toUInt64 &&& Int64.toUInt64 63)).toInt64) (20 : Int64)).toInt32) / (iI 5))]) (rest := []) (ov := (some (.int u1006.1))) (st1 := [.int u1006.1]) (ci := 6) X (c6_callOn (l := l) e_u1006) o6_callOn tw738 ⟨rfl, rfl, Nat.le_of_ble_eq_true rfl, Nat.le_of_ble_eq_true rfl⟩ hP hK hD hS hA (wM_fst.trans wM_fst.symm) 0 rfl rfl rfl rfl hl rfl (by decide) ⟨Nat.le_refl _, Nat.le_refl _⟩ rfl dX6_walks_94 (fun H locs hP hD hS => ?_)
              refine lv_if_eq (tgt := 104) X.1.1 X.1.2.1 dX6_walks_97 (by decide) (fun c_97 => ?_) (fun c_97 => ?_)
              · have hE := ite_t hE c_97
                refine lv_iconst (v := (iI 0)) X.1.1 X.1.2.1 dX6_walks_104 rfl ?_
                refine lv_istore (lv' := [(5, .int (iI 0)), (4, .int ((rmL ((((msd_1003 * (6364136223846793005 : Int64)) + (1442695040888963407 : Int64)).toUInt64 >>> ((iI 33).toInt64.toUInt64 &&& Int64.toUInt64 63)).toInt64) (20 : Int64)).toInt32)), (0, .ref m0), (1, .int v1), (2, .int v2_1003), (3, .int v3_1003)]) X.1.1 X.1.2.1 dX6_walks_105 hl (by decide) rfl (fun ls hl => ?_)
                refine lv_iload_n X.1.1 X.1.2.1 dX6_walks_107 rfl (lv_at hl 4 rfl) ?_
                refine lv_iload X.1.1 X.1.2.1 dX6_walks_108 (lv_at hl 0 rfl) ?_
                refine lv_if_eq (tgt := 117) X.1.1 X.1.2.1 dX6_walks_110 (by decide) (fun _ => ?_) (fun c_ => False.elim (by revert c_; decide))
                refine lv_iconst (v := (iI 0)) X.1.1 X.1.2.1 dX6_walks_117 rfl ?_
                refine lv_iadd X.1.1 X.1.2.1 dX6_walks_118 ?_
                refine lv_istore_n (lv' := [(2, .int (v2_1003 + (iI 0))), (5, .int (iI 0)), (4, .int ((rmL ((((msd_1003 * (6364136223846793005 : Int64)) + (1442695040888963407 : Int64)).toUInt64 >>> ((iI 33).toInt64.toUInt64 &&& Int64.toUInt64 63)).toInt64) (20 : Int64)).toInt32)), (0, .ref m0), (1, .int v1), (3, .int v3_1003)]) X.1.1 X.1.2.1 dX6_walks_119 rfl hl (by decide) rfl (fun ls hl => ?_)
                refine lv_iload X.1.1 X.1.2.1 dX6_walks_120 (lv_at hl 1 rfl) ?_
                refine lv_if_eq (tgt := 139) X.1.1 X.1.2.1 dX6_walks_122 (by decide) (fun _ => ?_) (fun c_ => False.elim (by revert c_; decide))
                refine lv_iinc (v := (v3_1003 + (iI 1))) (lv' := [(3, .int (v3_1003 + (iI 1))), (2, .int (v2_1003 + (iI 0))), (5, .int (iI 0)), (4, .int ((rmL ((((msd_1003 * (6364136223846793005 : Int64)) + (1442695040888963407 : Int64)).toUInt64 >>> ((iI 33).toInt64.toUInt64 &&& Int64.toUInt64 63)).toInt64) (20 : Int64)).toInt32)), (0, .ref m0), (1, .int v1)]) X.1.1 X.1.2.1 dX6_walks_139 hl (k := 5) rfl rfl (by decide) rfl (fun ls hl => ?_)
                refine lv_goto (tgt := 23) X.1.1 X.1.2.1 dX6_walks_142 (by decide) ?_
                exact ih (v2_1003 + (iI 0)) (v3_1003 + (iI 1)) ((msd_1003 * (6364136223846793005 : Int64)) + (1442695040888963407 : Int64)) u1006.2 H locs ls hP hD hS (lv_sub hl [4, 5, 1, 0] rfl) hE
              · have hE := ite_f hE c_97
                refine lv_iconst (v := (iI 1)) X.1.1 X.1.2.1 dX6_walks_100 rfl ?_
                refine lv_goto (tgt := 105) X.1.1 X.1.2.1 dX6_walks_101 (by decide) ?_
                refine lv_istore (lv' := [(5, .int (iI 1)), (4, .int ((rmL ((((msd_1003 * (6364136223846793005 : Int64)) + (1442695040888963407 : Int64)).toUInt64 >>> ((iI 33).toInt64.toUInt64 &&& Int64.toUInt64 63)).toInt64) (20 : Int64)).toInt32)), (0, .ref m0), (1, .int v1), (2, .int v2_1003), (3, .int v3_1003)]) X.1.1 X.1.2.1 dX6_walks_105 hl (by decide) rfl (fun ls hl => ?_)
                refine lv_iload_n X.1.1 X.1.2.1 dX6_walks_107 rfl (lv_at hl 4 rfl) ?_
                refine lv_iload X.1.1 X.1.2.1 dX6_walks_108 (lv_at hl 0 rfl) ?_
                refine lv_if_eq (tgt := 117) X.1.1 X.1.2.1 dX6_walks_110 (by decide) (fun c_ => False.elim (by revert c_; decide)) (fun _ => ?_)
                refine lv_iconst (v := (iI 1)) X.1.1 X.1.2.1 dX6_walks_113 rfl ?_
                refine lv_goto (tgt := 118) X.1.1 X.1.2.1 dX6_walks_114 (by decide) ?_
                refine lv_iadd X.1.1 X.1.2.1 dX6_walks_118 ?_
                refine lv_istore_n (lv' := [(2, .int (v2_1003 + (iI 1))), (5, .int (iI 1)), (4, .int ((rmL ((((msd_1003 * (6364136223846793005 : Int64)) + (1442695040888963407 : Int64)).toUInt64 >>> ((iI 33).toInt64.toUInt64 &&& Int64.toUInt64 63)).toInt64) (20 : Int64)).toInt32)), (0, .ref m0), (1, .int v1), (3, .int v3_1003)]) X.1.1 X.1.2.1 dX6_walks_119 rfl hl (by decide) rfl (fun ls hl => ?_)
                refine lv_iload X.1.1 X.1.2.1 dX6_walks_120 (lv_at hl 1 rfl) ?_
                refine lv_if_eq (tgt := 139) X.1.1 X.1.2.1 dX6_walks_122 (by decide) (fun c_ => False.elim (by revert c_; decide)) (fun _ => ?_)
                refine lv_aload_n X.1.1 X.1.2.1 dX6_walks_125 rfl (lv_at hl 3 rfl) ?_
                refine lv_iconst (v := (iI 1)) X.1.1 X.1.2.1 dX6_walks_126 rfl ?_
                obtain ⟨u1007, e_u1007, hE⟩ := bd_some hE
                refine callRV (wsC := (wM cI cZ m0 m1 m2 m3 m4 m5 m6 m7 m8 m9 m10 m11 m12 m13 mwo mth mrn mrm mln mat mfa mac mnx mse ((msd_1003 * (6364136223846793005 : Int64)) + (1442695040888963407 : Int64)) mki mof mpu u1006.2 mrw mrt mtx mro mso msf msc mik mkt)) (As := [.int (iI 1)]) (rest := []) (ci := 6) X (c6_canPay (l := l) e_u1007) o6_canPay tw746 ⟨rfl, rfl, Nat.le_of_ble_eq_true rfl, Nat.le_of_ble_eq_true rfl⟩ hP hK 0 rfl rfl rfl rfl hl rfl (by decide) ⟨Nat.le_refl _, Nat.le_refl _⟩ dX6_walks_127 ?_
                refine lv_if_eq (tgt := 139) X.1.1 X.1.2.1 dX6_walks_130 (by decide) (fun c_130 => ?_) (fun c_130 => ?_)
                · have hE := ite_t hE c_130
                  refine lv_iinc (v := (v3_1003 + (iI 1))) (lv' := [(3, .int (v3_1003 + (iI 1))), (2, .int (v2_1003 + (iI 1))), (5, .int (iI 1)), (4, .int ((rmL ((((msd_1003 * (6364136223846793005 : Int64)) + (1442695040888963407 : Int64)).toUInt64 >>> ((iI 33).toInt64.toUInt64 &&& Int64.toUInt64 63)).toInt64) (20 : Int64)).toInt32)), (0, .ref m0), (1, .int v1)]) X.1.1 X.1.2.1 dX6_walks_139 hl (k := 5) rfl rfl (by decide) rfl (fun ls hl => ?_)
                  refine lv_goto (tgt := 23) X.1.1 X.1.2.1 dX6_walks_142 (by decide) ?_
                  exact ih (v2_1003 + (iI 1)) (v3_1003 + (iI 1)) ((msd_1003 * (6364136223846793005 : Int64)) + (1442695040888963407 : Int64)) u1006.2 H locs ls hP hD hS (lv_sub hl [4, 5, 1, 0] rfl) hE
                · have hE := ite_f hE c_130
                  refine lv_aload_n X.1.1 X.1.2.1 dX6_walks_133 rfl (lv_at hl 3 rfl) ?_
                  refine lv_iconst (v := (iI 1)) X.1.1 X.1.2.1 dX6_walks_134 rfl ?_
                  obtain ⟨u1008, e_u1008, hE⟩ := bd_some hE
                  refine callWF (ws := (wM cI cZ m0 m1 m2 m3 m4 m5 m6 m7 m8 m9 m10 m11 m12 m13 mwo mth mrn mrm mln mat mfa mac mnx mse ((msd_1003 * (6364136223846793005 : Int64)) + (1442695040888963407 : Int64)) mki mof mpu u1006.2 mrw mrt mtx mro mso msf msc mik mkt)) (ws' := (wM cI cZ m0 m1 m2 m3 m4 m5 m6 m7 m8 m9 m10 m11 m12 m13 mwo mth mrn mrm mln mat mfa mac mnx mse ((msd_1003 * (6364136223846793005 : Int64)) + (1442695040888963407 : Int64)) mki mof mpu u1008.2 mrw mrt mtx mro mso msf msc mik mkt)) (As := [.int (iI 1)]) (rest := []) (ov := (some (.int u1008.1))) (st1 := [.int u1008.1]) (ci := 6) X (c6_payOn (l := l) e_u1008) o6_payOn tw750 ⟨rfl, rfl, Nat.le_of_ble_eq_true rfl, Nat.le_of_ble_eq_true rfl⟩ hP hK hD hS hA (wM_fst.trans wM_fst.symm) 0 rfl rfl rfl rfl hl rfl (by decide) ⟨Nat.le_refl _, Nat.le_refl _⟩ rfl dX6_walks_135 (fun H locs hP hD hS => ?_)
                  refine lv_pop X.1.1 X.1.2.1 dX6_walks_138 rfl ?_
                  refine lv_iinc (v := (v3_1003 + (iI 1))) (lv' := [(3, .int (v3_1003 + (iI 1))), (2, .int (v2_1003 + (iI 1))), (5, .int (iI 1)), (4, .int ((rmL ((((msd_1003 * (6364136223846793005 : Int64)) + (1442695040888963407 : Int64)).toUInt64 >>> ((iI 33).toInt64.toUInt64 &&& Int64.toUInt64 63)).toInt64) (20 : Int64)).toInt32)), (0, .ref m0), (1, .int v1)]) X.1.1 X.1.2.1 dX6_walks_139 hl (k := 5) rfl rfl (by decide) rfl (fun ls hl => ?_)
                  refine lv_goto (tgt := 23) X.1.1 X.1.2.1 dX6_walks_142 (by decide) ?_
                  exact ih (v2_1003 + (iI 1)) (v3_1003 + (iI 1)) ((msd_1003 * (6364136223846793005 : Int64)) + (1442695040888963407 : Int64)) u1008.2 H locs ls hP hD hS (lv_sub hl [4, 5, 1, 0] rfl) hE
    refine lp23 _ (fun v2_1003 v3_1003 msd_1003 mno_1003 H locs ls hP hD hS hl hE => ?_) FU (iI 0) (iI 0) msd u1002 _ _ ls hP hD hS (lv_sub hl [2, 3, 1, 0] rfl) hE
    refine lv_iload_n X.1.1 X.1.2.1 dX6_walks_145 rfl (lv_at hl 2 rfl) ?_
    cases hE
    exact retW X hP hS dX6_walks_146
  · have hE := ite_t hE c_9
    refine lv_bipush (v := (iI (-2))) X.1.1 X.1.2.1 dX6_walks_12 (by decide) ?_
    cases hE
    exact retW X hP hS dX6_walks_14
theorem o6_keep : oV yX6_keep RX6 cX6_keep 3 (some .int) 1 := ⟨tw879, tw877, tw878, tw45, ⟨by decide +kernel, by decide +kernel⟩, by decide +kernel⟩
abbrev rm6_keep : Room := { frames := 1, cells := 0, slots := 0, locals := 25 }
set_option maxHeartbeats 4000000 in
set_option maxRecDepth 100000 in
theorem c6_keep {l : Launch} {G : va_G} {cI cZ : ClassId} {m0 m1 m2 m3 m4 m5 m6 m7 m8 m9 m10 m11 m12 m13 : Nat} {mwo : Int32} {mth : Int32} {mrn : Int32} {mrm : Int32} {mln : Int32} {mat : Int32} {mfa : Int32} {mac : Int32} {mnx : Int32} {mse : Int32} {msd : Int64} {mki : Nat → Int32} {mof : Nat → Int32} {mpu : Nat → Int32} {mno : Nat → Int32} {mrw : Nat → Int32} {mrt : Nat → Int32} {mtx : Nat → Int32} {mro : Nat → Int32} {mso : Nat → Int32} {msf : Nat → Int32} {msc : Nat → Int32} {mik : Nat → Int32} {mkt : Nat → Int32} {v1 : Int32} {sz : Nat} {u : Int32 × (Nat → Int32) × (Nat → Int32)} (hE : f6_keep v1 mno mik mkt = some u) : Met l yX6_keep (Cond.code yX6_keep cX6_keep 3 (some .int) :: TB) rm6_keep (PcW G cI cZ (wM cI cZ m0 m1 m2 m3 m4 m5 m6 m7 m8 m9 m10 m11 m12 m13 mwo mth mrn mrm mln mat mfa mac mnx mse msd mki mof mpu mno mrw mrt mtx mro mso msf msc mik mkt) sz ([.ref m0, .int v1] : List Value)) (QW G (some (.int u.1)) (wM cI cZ m0 m1 m2 m3 m4 m5 m6 m7 m8 m9 m10 m11 m12 m13 mwo mth mrn mrm mln mat mfa mac mnx mse msd mki mof mpu mno mrw mrt mtx mro mso msf msc u.2.1 u.2.2) (va_A (wM cI cZ m0 m1 m2 m3 m4 m5 m6 m7 m8 m9 m10 m11 m12 m13 mwo mth mrn mrm mln mat mfa mac mnx mse msd mki mof mpu mno mrw mrt mtx mro mso msf msc mik mkt) sz)) 0 0 (va_A (wM cI cZ m0 m1 m2 m3 m4 m5 m6 m7 m8 m9 m10 m11 m12 m13 mwo mth mrn mrm mln mat mfa mac mnx mse msd mki mof mpu mno mrw mrt mtx mro mso msf msc mik mkt) sz) := by
  refine metW (own := RX6) (by decide +kernel) rfl (Nat.le_of_ble_eq_true rfl) ?_
  intro p e s m below meth c ls A X hA hP hK hD hl
  have hS : va_S A s.heap s.heap [] := va_S.rf
  have hl : lv_has ls 3 [(0, .ref m0), (1, .int v1)] := hl
  unfold f6_keep at hE
  refine lv_iload_n X.1.1 X.1.2.1 dX6_keep_0 rfl (lv_at hl 1 rfl) ?_
  refine lv_i2l (v := v1.toInt64) X.1.1 X.1.2.1 dX6_keep_1 rfl ?_
  refine lv_lconst (v := (Int64.ofNat 0)) X.1.1 X.1.2.1 dX6_keep_2 rfl ?_
  refine lv_lconst (v := (Int64.ofNat 1)) X.1.1 X.1.2.1 dX6_keep_3 rfl ?_
  obtain ⟨u1001, e_u1001, hE⟩ := bd_some hE
  refine callRS (wsC := []) (As := [.long (v1.toInt64), .long (Int64.ofNat 0), .long (Int64.ofNat 1)]) (rest := []) (cI := cI) (cZ := cZ) X (c6_in (l := l) (G := G) (cI := cI) (cZ := cZ) e_u1001) o6_in tw663 ⟨rfl, rfl, Nat.le_of_ble_eq_true rfl, Nat.le_of_ble_eq_true rfl⟩ va_P_nil hK rfl hl rfl (by decide) ⟨Nat.le_refl _, Nat.le_refl _⟩ dX6_keep_4 ?_
  refine lv_if_ne (tgt := 12) X.1.1 X.1.2.1 dX6_keep_7 (by decide) (fun c_7 => ?_) (fun c_7 => ?_)
  · have hE := ite_f hE c_7
    refine lv_aload_n X.1.1 X.1.2.1 dX6_keep_12 rfl (lv_at hl 0 rfl) ?_
    refine gf6_43 X hK hP 0 rfl rfl dX6_keep_13 ?_
    refine lv_iload_n X.1.1 X.1.2.1 dX6_keep_16 rfl (lv_at hl 1 rfl) ?_
    refine lv_iconst (v := (iI 1)) X.1.1 X.1.2.1 dX6_keep_17 rfl ?_
    obtain ⟨i_18, hE⟩ := ib_some hE
    refine astZ (t0 := 0) (ws' := (wM cI cZ m0 m1 m2 m3 m4 m5 m6 m7 m8 m9 m10 m11 m12 m13 mwo mth mrn mrm mln mat mfa mac mnx mse msd mki mof mpu mno mrw mrt mtx mro mso msf msc (upd mik v1.toNatClampNeg (vp_nar .boolean (iI 1))) mkt)) X hK hP hD hS 12 1 rfl rfl i_18 rfl dX6_keep_18 (fun H locs hP hD hS => ?_)
    refine lv_iconst (v := (iI 0)) X.1.1 X.1.2.1 dX6_keep_19 rfl ?_
    refine lv_istore_n (lv' := [(2, .int (iI 0)), (0, .ref m0), (1, .int v1)]) X.1.1 X.1.2.1 dX6_keep_20 rfl hl (by decide) rfl (fun ls hl => ?_)
    have lp21 : ∀ (k : Int32 → (Nat → Int32) → Option (Int32 × (Nat → Int32) × (Nat → Int32))), (∀ (v2_1002 : Int32) (mkt_1002 : Nat → Int32) (H : Heap) (locs : List Loc) (ls : Array Slot), va_P G vwCl (wM cI cZ m0 m1 m2 m3 m4 m5 m6 m7 m8 m9 m10 m11 m12 m13 mwo mth mrn mrm mln mat mfa mac mnx mse msd mki mof mpu mno mrw mrt mtx mro mso msf msc (upd mik v1.toNatClampNeg (vp_nar .boolean (iI 1))) mkt_1002) H → va_D A (wM cI cZ m0 m1 m2 m3 m4 m5 m6 m7 m8 m9 m10 m11 m12 m13 mwo mth mrn mrm mln mat mfa mac mnx mse msd mki mof mpu mno mrw mrt mtx mro mso msf msc (upd mik v1.toNatClampNeg (vp_nar .boolean (iI 1))) mkt_1002) → va_S A s.heap H locs → lv_has ls 3 [(0, .ref m0), (1, .int v1), (2, .int v2_1002)] → k v2_1002 mkt_1002 = some u → W p l e rm6_keep s m ([.ref m0, .int v1] : List Value).toArray below meth c H locs 0 0 (MQ below (QW G (some (.int u.1)) (wM cI cZ m0 m1 m2 m3 m4 m5 m6 m7 m8 m9 m10 m11 m12 m13 mwo mth mrn mrm mln mat mfa mac mnx mse msd mki mof mpu mno mrw mrt mtx mro mso msf msc u.2.1 u.2.2) A) ([.ref m0, .int v1] : List Value).toArray s 0 0 A) (F0 m 50 ls [])) → ∀ (n : Nat) (v2_1002 : Int32) (mkt_1002 : Nat → Int32) (H : Heap) (locs : List Loc) (ls : Array Slot), va_P G vwCl (wM cI cZ m0 m1 m2 m3 m4 m5 m6 m7 m8 m9 m10 m11 m12 m13 mwo mth mrn mrm mln mat mfa mac mnx mse msd mki mof mpu mno mrw mrt mtx mro mso msf msc (upd mik v1.toNatClampNeg (vp_nar .boolean (iI 1))) mkt_1002) H → va_D A (wM cI cZ m0 m1 m2 m3 m4 m5 m6 m7 m8 m9 m10 m11 m12 m13 mwo mth mrn mrm mln mat mfa mac mnx mse msd mki mof mpu mno mrw mrt mtx mro mso msf msc (upd mik v1.toNatClampNeg (vp_nar .boolean (iI 1))) mkt_1002) → va_S A s.heap H locs → lv_has ls 3 [(0, .ref m0), (1, .int v1), (2, .int v2_1002)] → l6_keep_21 k v1 mno n v2_1002 mkt_1002 = some u → W p l e rm6_keep s m ([.ref m0, .int v1] : List Value).toArray below meth c H locs 0 0 (MQ below (QW G (some (.int u.1)) (wM cI cZ m0 m1 m2 m3 m4 m5 m6 m7 m8 m9 m10 m11 m12 m13 mwo mth mrn mrm mln mat mfa mac mnx mse msd mki mof mpu mno mrw mrt mtx mro mso msf msc u.2.1 u.2.2) A) ([.ref m0, .int v1] : List Value).toArray s 0 0 A) (F0 m 21 ls []) := by
      intro k hex n
      induction n with
      | zero =>
        intro v2_1002 mkt_1002 H locs ls hP hD hS hl hE
        exact absurd (show (none : Option (Int32 × (Nat → Int32) × (Nat → Int32))) = some u from hE) (fun h => by cases h)
      | succ n ih =>
        intro v2_1002 mkt_1002 H locs ls hP hD hS hl hE
        rw [l6_keep_21] at hE
        refine lv_iload_n X.1.1 X.1.2.1 dX6_keep_21 rfl (lv_at hl 2 rfl) ?_
        refine lv_bipush (v := (iI 10)) X.1.1 X.1.2.1 dX6_keep_22 (by decide) ?_
        refine lv_icmp_ge (tgt := 50) X.1.1 X.1.2.1 dX6_keep_24 (by decide) (fun c_24 => ?_) (fun c_24 => ?_)
        · have hE := ite_t hE c_24
          exact hex v2_1002 mkt_1002 H locs ls hP hD hS (lv_sub hl [0, 1, 2] rfl) hE
        · have hE := ite_f hE c_24
          refine lv_aload_n X.1.1 X.1.2.1 dX6_keep_27 rfl (lv_at hl 0 rfl) ?_
          refine gf6_47 X hK hP 0 rfl rfl dX6_keep_28 ?_
          refine lv_bipush (v := (iI 10)) X.1.1 X.1.2.1 dX6_keep_31 (by decide) ?_
          refine lv_iload_n X.1.1 X.1.2.1 dX6_keep_33 rfl (lv_at hl 1 rfl) ?_
          refine lv_imul X.1.1 X.1.2.1 dX6_keep_34 ?_
          refine lv_iload_n X.1.1 X.1.2.1 dX6_keep_35 rfl (lv_at hl 2 rfl) ?_
          refine lv_iadd X.1.1 X.1.2.1 dX6_keep_36 ?_
          refine lv_aload_n X.1.1 X.1.2.1 dX6_keep_37 rfl (lv_at hl 0 rfl) ?_
          refine gf6_19 X hK hP 0 rfl rfl dX6_keep_38 ?_
          refine lv_iload_n X.1.1 X.1.2.1 dX6_keep_41 rfl (lv_at hl 2 rfl) ?_
          obtain ⟨i_42, hE⟩ := ib_some hE
          refine va_iald X.1.1 X.1.2.1 hK hP 4 0 rfl rfl i_42 dX6_keep_42 ?_
          obtain ⟨i_43, hE⟩ := ib_some hE
          refine astI (t0 := 0) (ws' := (wM cI cZ m0 m1 m2 m3 m4 m5 m6 m7 m8 m9 m10 m11 m12 m13 mwo mth mrn mrm mln mat mfa mac mnx mse msd mki mof mpu mno mrw mrt mtx mro mso msf msc (upd mik v1.toNatClampNeg (vp_nar .boolean (iI 1))) (upd mkt_1002 (((iI 10) * v1) + v2_1002).toNatClampNeg (mno v2_1002.toNatClampNeg)))) X hK hP hD hS 13 0 rfl rfl i_43 rfl dX6_keep_43 (fun H locs hP hD hS => ?_)
          refine lv_iinc (v := (v2_1002 + (iI 1))) (lv' := [(2, .int (v2_1002 + (iI 1))), (0, .ref m0), (1, .int v1)]) X.1.1 X.1.2.1 dX6_keep_44 hl (k := 2) rfl rfl (by decide) rfl (fun ls hl => ?_)
          refine lv_goto (tgt := 21) X.1.1 X.1.2.1 dX6_keep_47 (by decide) ?_
          exact ih (v2_1002 + (iI 1)) (upd mkt_1002 (((iI 10) * v1) + v2_1002).toNatClampNeg (mno v2_1002.toNatClampNeg)) H locs ls hP hD hS (lv_sub hl [1, 2, 0] rfl) hE
    refine lp21 _ (fun v2_1002 mkt_1002 H locs ls hP hD hS hl hE => ?_) FU (iI 0) mkt _ _ ls hP hD hS (lv_sub hl [1, 2, 0] rfl) hE
    refine lv_aload_n X.1.1 X.1.2.1 dX6_keep_50 rfl (lv_at hl 0 rfl) ?_
    refine gf6_19 X hK hP 0 rfl rfl dX6_keep_51 ?_
    refine lv_bipush (v := (iI 9)) X.1.1 X.1.2.1 dX6_keep_54 (by decide) ?_
    refine va_iald X.1.1 X.1.2.1 hK hP 4 0 rfl rfl (vin (by decide)) dX6_keep_56 ?_
    cases hE
    exact retW X hP hS dX6_keep_57
  · have hE := ite_t hE c_7
    refine lv_iconst (v := (iI (-1))) X.1.1 X.1.2.1 dX6_keep_10 rfl ?_
    cases hE
    exact retW X hP hS dX6_keep_11
theorem o6_again : oV yX6_again RX6 cX6_again 3 (some .int) 1 := ⟨tw883, tw881, tw882, tw45, ⟨by decide +kernel, by decide +kernel⟩, by decide +kernel⟩
abbrev rm6_again : Room := { frames := 1, cells := 0, slots := 0, locals := 25 }
set_option maxHeartbeats 4000000 in
set_option maxRecDepth 100000 in
theorem c6_again {l : Launch} {G : va_G} {cI cZ : ClassId} {m0 m1 m2 m3 m4 m5 m6 m7 m8 m9 m10 m11 m12 m13 : Nat} {mwo : Int32} {mth : Int32} {mrn : Int32} {mrm : Int32} {mln : Int32} {mat : Int32} {mfa : Int32} {mac : Int32} {mnx : Int32} {mse : Int32} {msd : Int64} {mki : Nat → Int32} {mof : Nat → Int32} {mpu : Nat → Int32} {mno : Nat → Int32} {mrw : Nat → Int32} {mrt : Nat → Int32} {mtx : Nat → Int32} {mro : Nat → Int32} {mso : Nat → Int32} {msf : Nat → Int32} {msc : Nat → Int32} {mik : Nat → Int32} {mkt : Nat → Int32} {v1 : Int32} {sz : Nat} {u : Int32 × Int32 × (Nat → Int32)} (hE : f6_again v1 mac mno mik mkt = some u) : Met l yX6_again (Cond.code yX6_again cX6_again 3 (some .int) :: TB) rm6_again (PcW G cI cZ (wM cI cZ m0 m1 m2 m3 m4 m5 m6 m7 m8 m9 m10 m11 m12 m13 mwo mth mrn mrm mln mat mfa mac mnx mse msd mki mof mpu mno mrw mrt mtx mro mso msf msc mik mkt) sz ([.ref m0, .int v1] : List Value)) (QW G (some (.int u.1)) (wM cI cZ m0 m1 m2 m3 m4 m5 m6 m7 m8 m9 m10 m11 m12 m13 mwo mth mrn mrm mln mat mfa u.2.1 mnx mse msd mki mof mpu u.2.2 mrw mrt mtx mro mso msf msc mik mkt) (va_A (wM cI cZ m0 m1 m2 m3 m4 m5 m6 m7 m8 m9 m10 m11 m12 m13 mwo mth mrn mrm mln mat mfa mac mnx mse msd mki mof mpu mno mrw mrt mtx mro mso msf msc mik mkt) sz)) 0 0 (va_A (wM cI cZ m0 m1 m2 m3 m4 m5 m6 m7 m8 m9 m10 m11 m12 m13 mwo mth mrn mrm mln mat mfa mac mnx mse msd mki mof mpu mno mrw mrt mtx mro mso msf msc mik mkt) sz) := by
  refine metW (own := RX6) (by decide +kernel) rfl (Nat.le_of_ble_eq_true rfl) ?_
  intro p e s m below meth c ls A X hA hP hK hD hl
  have hS : va_S A s.heap s.heap [] := va_S.rf
  have hl : lv_has ls 3 [(0, .ref m0), (1, .int v1)] := hl
  unfold f6_again at hE
  refine lv_iload_n X.1.1 X.1.2.1 dX6_again_0 rfl (lv_at hl 1 rfl) ?_
  refine lv_i2l (v := v1.toInt64) X.1.1 X.1.2.1 dX6_again_1 rfl ?_
  refine lv_lconst (v := (Int64.ofNat 0)) X.1.1 X.1.2.1 dX6_again_2 rfl ?_
  refine lv_lconst (v := (Int64.ofNat 1)) X.1.1 X.1.2.1 dX6_again_3 rfl ?_
  obtain ⟨u1001, e_u1001, hE⟩ := bd_some hE
  refine callRS (wsC := []) (As := [.long (v1.toInt64), .long (Int64.ofNat 0), .long (Int64.ofNat 1)]) (rest := []) (cI := cI) (cZ := cZ) X (c6_in (l := l) (G := G) (cI := cI) (cZ := cZ) e_u1001) o6_in tw663 ⟨rfl, rfl, Nat.le_of_ble_eq_true rfl, Nat.le_of_ble_eq_true rfl⟩ va_P_nil hK rfl hl rfl (by decide) ⟨Nat.le_refl _, Nat.le_refl _⟩ dX6_again_4 ?_
  refine lv_if_ne (tgt := 12) X.1.1 X.1.2.1 dX6_again_7 (by decide) (fun c_7 => ?_) (fun c_7 => ?_)
  · have hE := ite_f hE c_7
    refine lv_aload_n X.1.1 X.1.2.1 dX6_again_12 rfl (lv_at hl 0 rfl) ?_
    refine gf6_43 X hK hP 0 rfl rfl dX6_again_13 ?_
    refine lv_iload_n X.1.1 X.1.2.1 dX6_again_16 rfl (lv_at hl 1 rfl) ?_
    obtain ⟨i_17, hE⟩ := ib_some hE
    refine va_zald X.1.1 X.1.2.1 hK hP 12 1 rfl rfl i_17 dX6_again_17 ?_
    refine lv_if_ne (tgt := 24) X.1.1 X.1.2.1 dX6_again_18 (by decide) (fun c_18 => ?_) (fun c_18 => ?_)
    · have hE := ite_f hE c_18
      refine lv_iconst (v := (iI 0)) X.1.1 X.1.2.1 dX6_again_24 rfl ?_
      refine lv_istore_n (lv' := [(2, .int (iI 0)), (0, .ref m0), (1, .int v1)]) X.1.1 X.1.2.1 dX6_again_25 rfl hl (by decide) rfl (fun ls hl => ?_)
      have lp26 : ∀ (k : Int32 → (Nat → Int32) → Option (Int32 × Int32 × (Nat → Int32))), (∀ (v2_1002 : Int32) (mno_1002 : Nat → Int32) (H : Heap) (locs : List Loc) (ls : Array Slot), va_P G vwCl (wM cI cZ m0 m1 m2 m3 m4 m5 m6 m7 m8 m9 m10 m11 m12 m13 mwo mth mrn mrm mln mat mfa mac mnx mse msd mki mof mpu mno_1002 mrw mrt mtx mro mso msf msc mik mkt) H → va_D A (wM cI cZ m0 m1 m2 m3 m4 m5 m6 m7 m8 m9 m10 m11 m12 m13 mwo mth mrn mrm mln mat mfa mac mnx mse msd mki mof mpu mno_1002 mrw mrt mtx mro mso msf msc mik mkt) → va_S A s.heap H locs → lv_has ls 3 [(0, .ref m0), (1, .int v1), (2, .int v2_1002)] → k v2_1002 mno_1002 = some u → W p l e rm6_again s m ([.ref m0, .int v1] : List Value).toArray below meth c H locs 0 0 (MQ below (QW G (some (.int u.1)) (wM cI cZ m0 m1 m2 m3 m4 m5 m6 m7 m8 m9 m10 m11 m12 m13 mwo mth mrn mrm mln mat mfa u.2.1 mnx mse msd mki mof mpu u.2.2 mrw mrt mtx mro mso msf msc mik mkt) A) ([.ref m0, .int v1] : List Value).toArray s 0 0 A) (F0 m 55 ls [])) → ∀ (n : Nat) (v2_1002 : Int32) (mno_1002 : Nat → Int32) (H : Heap) (locs : List Loc) (ls : Array Slot), va_P G vwCl (wM cI cZ m0 m1 m2 m3 m4 m5 m6 m7 m8 m9 m10 m11 m12 m13 mwo mth mrn mrm mln mat mfa mac mnx mse msd mki mof mpu mno_1002 mrw mrt mtx mro mso msf msc mik mkt) H → va_D A (wM cI cZ m0 m1 m2 m3 m4 m5 m6 m7 m8 m9 m10 m11 m12 m13 mwo mth mrn mrm mln mat mfa mac mnx mse msd mki mof mpu mno_1002 mrw mrt mtx mro mso msf msc mik mkt) → va_S A s.heap H locs → lv_has ls 3 [(0, .ref m0), (1, .int v1), (2, .int v2_1002)] → l6_again_26 k v1 mkt n v2_1002 mno_1002 = some u → W p l e rm6_again s m ([.ref m0, .int v1] : List Value).toArray below meth c H locs 0 0 (MQ below (QW G (some (.int u.1)) (wM cI cZ m0 m1 m2 m3 m4 m5 m6 m7 m8 m9 m10 m11 m12 m13 mwo mth mrn mrm mln mat mfa u.2.1 mnx mse msd mki mof mpu u.2.2 mrw mrt mtx mro mso msf msc mik mkt) A) ([.ref m0, .int v1] : List Value).toArray s 0 0 A) (F0 m 26 ls []) := by
        intro k hex n
        induction n with
        | zero =>
          intro v2_1002 mno_1002 H locs ls hP hD hS hl hE
          exact absurd (show (none : Option (Int32 × Int32 × (Nat → Int32))) = some u from hE) (fun h => by cases h)
        | succ n ih =>
          intro v2_1002 mno_1002 H locs ls hP hD hS hl hE
          rw [l6_again_26] at hE
          refine lv_iload_n X.1.1 X.1.2.1 dX6_again_26 rfl (lv_at hl 2 rfl) ?_
          refine lv_bipush (v := (iI 10)) X.1.1 X.1.2.1 dX6_again_27 (by decide) ?_
          refine lv_icmp_ge (tgt := 55) X.1.1 X.1.2.1 dX6_again_29 (by decide) (fun c_29 => ?_) (fun c_29 => ?_)
          · have hE := ite_t hE c_29
            exact hex v2_1002 mno_1002 H locs ls hP hD hS (lv_sub hl [0, 1, 2] rfl) hE
          · have hE := ite_f hE c_29
            refine lv_aload_n X.1.1 X.1.2.1 dX6_again_32 rfl (lv_at hl 0 rfl) ?_
            refine gf6_19 X hK hP 0 rfl rfl dX6_again_33 ?_
            refine lv_iload_n X.1.1 X.1.2.1 dX6_again_36 rfl (lv_at hl 2 rfl) ?_
            refine lv_aload_n X.1.1 X.1.2.1 dX6_again_37 rfl (lv_at hl 0 rfl) ?_
            refine gf6_47 X hK hP 0 rfl rfl dX6_again_38 ?_
            refine lv_bipush (v := (iI 10)) X.1.1 X.1.2.1 dX6_again_41 (by decide) ?_
            refine lv_iload_n X.1.1 X.1.2.1 dX6_again_43 rfl (lv_at hl 1 rfl) ?_
            refine lv_imul X.1.1 X.1.2.1 dX6_again_44 ?_
            refine lv_iload_n X.1.1 X.1.2.1 dX6_again_45 rfl (lv_at hl 2 rfl) ?_
            refine lv_iadd X.1.1 X.1.2.1 dX6_again_46 ?_
            obtain ⟨i_47, hE⟩ := ib_some hE
            refine va_iald X.1.1 X.1.2.1 hK hP 13 0 rfl rfl i_47 dX6_again_47 ?_
            obtain ⟨i_48, hE⟩ := ib_some hE
            refine astI (t0 := 0) (ws' := (wM cI cZ m0 m1 m2 m3 m4 m5 m6 m7 m8 m9 m10 m11 m12 m13 mwo mth mrn mrm mln mat mfa mac mnx mse msd mki mof mpu (upd mno_1002 v2_1002.toNatClampNeg (mkt (((iI 10) * v1) + v2_1002).toNatClampNeg)) mrw mrt mtx mro mso msf msc mik mkt)) X hK hP hD hS 4 0 rfl rfl i_48 rfl dX6_again_48 (fun H locs hP hD hS => ?_)
            refine lv_iinc (v := (v2_1002 + (iI 1))) (lv' := [(2, .int (v2_1002 + (iI 1))), (0, .ref m0), (1, .int v1)]) X.1.1 X.1.2.1 dX6_again_49 hl (k := 2) rfl rfl (by decide) rfl (fun ls hl => ?_)
            refine lv_goto (tgt := 26) X.1.1 X.1.2.1 dX6_again_52 (by decide) ?_
            exact ih (v2_1002 + (iI 1)) (upd mno_1002 v2_1002.toNatClampNeg (mkt (((iI 10) * v1) + v2_1002).toNatClampNeg)) H locs ls hP hD hS (lv_sub hl [1, 2, 0] rfl) hE
      refine lp26 _ (fun v2_1002 mno_1002 H locs ls hP hD hS hl hE => ?_) FU (iI 0) mno _ _ ls hP hD hS (lv_sub hl [1, 2, 0] rfl) hE
      refine lv_aload_n X.1.1 X.1.2.1 dX6_again_55 rfl (lv_at hl 0 rfl) ?_
      refine lv_iconst (v := (iI 0)) X.1.1 X.1.2.1 dX6_again_56 rfl ?_
      refine pf6_86 (ws2 := (wM cI cZ m0 m1 m2 m3 m4 m5 m6 m7 m8 m9 m10 m11 m12 m13 mwo mth mrn mrm mln mat mfa (iI 0) mnx mse msd mki mof mpu mno_1002 mrw mrt mtx mro mso msf msc mik mkt)) X hK hP hD hS 0 rfl (Nat.le_of_ble_eq_true rfl) rfl dX6_again_57 (fun H locs hP hD hS => ?_)
      refine lv_aload_n X.1.1 X.1.2.1 dX6_again_60 rfl (lv_at hl 0 rfl) ?_
      refine gf6_19 X hK hP 0 rfl rfl dX6_again_61 ?_
      refine lv_bipush (v := (iI 9)) X.1.1 X.1.2.1 dX6_again_64 (by decide) ?_
      refine va_iald X.1.1 X.1.2.1 hK hP 4 0 rfl rfl (vin (by decide)) dX6_again_66 ?_
      cases hE
      exact retW X hP hS dX6_again_67
    · have hE := ite_t hE c_18
      refine lv_bipush (v := (iI (-3))) X.1.1 X.1.2.1 dX6_again_21 (by decide) ?_
      cases hE
      exact retW X hP hS dX6_again_23
  · have hE := ite_t hE c_7
    refine lv_iconst (v := (iI (-1))) X.1.1 X.1.2.1 dX6_again_10 rfl ?_
    cases hE
    exact retW X hP hS dX6_again_11
theorem o6_count : oV yX6_count RX6 cX6_count 2 (some .int) 1 := ⟨tw887, tw885, tw886, tw45, ⟨by decide +kernel, by decide +kernel⟩, by decide +kernel⟩
abbrev rm6_count : Room := { frames := 0, cells := 0, slots := 0, locals := 0 }
set_option maxHeartbeats 4000000 in
set_option maxRecDepth 100000 in
theorem c6_count {l : Launch} {G : va_G} {cI cZ : ClassId} {m0 m1 m2 m3 m4 m5 m6 m7 m8 m9 m10 m11 m12 m13 : Nat} {mwo : Int32} {mth : Int32} {mrn : Int32} {mrm : Int32} {mln : Int32} {mat : Int32} {mfa : Int32} {mac : Int32} {mnx : Int32} {mse : Int32} {msd : Int64} {mki : Nat → Int32} {mof : Nat → Int32} {mpu : Nat → Int32} {mno : Nat → Int32} {mrw : Nat → Int32} {mrt : Nat → Int32} {mtx : Nat → Int32} {mro : Nat → Int32} {mso : Nat → Int32} {msf : Nat → Int32} {msc : Nat → Int32} {mik : Nat → Int32} {mkt : Nat → Int32} {v1 : Int32} {u : Int32} (hE : f6_count v1 mwo mth mln mac mse mno = some u) : Met l yX6_count (Cond.code yX6_count cX6_count 2 (some .int) :: TB) rm6_count (PcR G cI cZ (wM cI cZ m0 m1 m2 m3 m4 m5 m6 m7 m8 m9 m10 m11 m12 m13 mwo mth mrn mrm mln mat mfa mac mnx mse msd mki mof mpu mno mrw mrt mtx mro mso msf msc mik mkt) ([.ref m0, .int v1] : List Value)) (QcRead u) 0 0 (fun _ => False) := by
  refine metR (own := RX6) (by decide +kernel) rfl (Nat.le_of_ble_eq_true rfl) ?_
  intro p e s m below meth c ls X hP hK hl
  have hl : lv_has ls 2 [(0, .ref m0), (1, .int v1)] := hl
  unfold f6_count at hE
  refine lv_iload_n X.1.1 X.1.2.1 dX6_count_0 rfl (lv_at hl 1 rfl) ?_
  by_cases s_1_0 : v1 = (iI 0)
  · have hE := ite_t hE s_1_0
    refine tbIn (k := 0) (off := 59) (tgt := 60) X dX6_count_1 s_1_0 (by decide) (by decide) (by decide) rfl (by decide) ?_
    refine lv_aload_n X.1.1 X.1.2.1 dX6_count_60 rfl (lv_at hl 0 rfl) ?_
    refine gf6_56 X hK hP 0 rfl rfl dX6_count_61 ?_
    cases hE
    exact retR X dX6_count_64
  · have hE := ite_f hE s_1_0
    by_cases s_1_1 : v1 = (iI 1)
    · have hE := ite_t hE s_1_1
      refine tbIn (k := 1) (off := 64) (tgt := 65) X dX6_count_1 s_1_1 (by decide) (by decide) (by decide) rfl (by decide) ?_
      refine lv_aload_n X.1.1 X.1.2.1 dX6_count_65 rfl (lv_at hl 0 rfl) ?_
      refine gf6_80 X hK hP 0 rfl rfl dX6_count_66 ?_
      cases hE
      exact retR X dX6_count_69
    · have hE := ite_f hE s_1_1
      by_cases s_1_2 : v1 = (iI 2)
      · have hE := ite_t hE s_1_2
        refine tbIn (k := 2) (off := 69) (tgt := 70) X dX6_count_1 s_1_2 (by decide) (by decide) (by decide) rfl (by decide) ?_
        refine lv_aload_n X.1.1 X.1.2.1 dX6_count_70 rfl (lv_at hl 0 rfl) ?_
        refine gf6_83 X hK hP 0 rfl rfl dX6_count_71 ?_
        cases hE
        exact retR X dX6_count_74
      · have hE := ite_f hE s_1_2
        by_cases s_1_3 : v1 = (iI 3)
        · have hE := ite_t hE s_1_3
          refine tbIn (k := 3) (off := 74) (tgt := 75) X dX6_count_1 s_1_3 (by decide) (by decide) (by decide) rfl (by decide) ?_
          refine lv_aload_n X.1.1 X.1.2.1 dX6_count_75 rfl (lv_at hl 0 rfl) ?_
          refine gf6_19 X hK hP 0 rfl rfl dX6_count_76 ?_
          refine lv_iconst (v := (iI 4)) X.1.1 X.1.2.1 dX6_count_79 rfl ?_
          refine va_iald X.1.1 X.1.2.1 hK hP 4 0 rfl rfl (vin (by decide)) dX6_count_80 ?_
          cases hE
          exact retR X dX6_count_81
        · have hE := ite_f hE s_1_3
          by_cases s_1_4 : v1 = (iI 4)
          · have hE := ite_t hE s_1_4
            refine tbIn (k := 4) (off := 81) (tgt := 82) X dX6_count_1 s_1_4 (by decide) (by decide) (by decide) rfl (by decide) ?_
            refine lv_aload_n X.1.1 X.1.2.1 dX6_count_82 rfl (lv_at hl 0 rfl) ?_
            refine gf6_19 X hK hP 0 rfl rfl dX6_count_83 ?_
            refine lv_iconst (v := (iI 5)) X.1.1 X.1.2.1 dX6_count_86 rfl ?_
            refine va_iald X.1.1 X.1.2.1 hK hP 4 0 rfl rfl (vin (by decide)) dX6_count_87 ?_
            cases hE
            exact retR X dX6_count_88
          · have hE := ite_f hE s_1_4
            by_cases s_1_5 : v1 = (iI 5)
            · have hE := ite_t hE s_1_5
              refine tbIn (k := 5) (off := 88) (tgt := 89) X dX6_count_1 s_1_5 (by decide) (by decide) (by decide) rfl (by decide) ?_
              refine lv_aload_n X.1.1 X.1.2.1 dX6_count_89 rfl (lv_at hl 0 rfl) ?_
              refine gf6_19 X hK hP 0 rfl rfl dX6_count_90 ?_
              refine lv_bipush (v := (iI 6)) X.1.1 X.1.2.1 dX6_count_93 (by decide) ?_
              refine va_iald X.1.1 X.1.2.1 hK hP 4 0 rfl rfl (vin (by decide)) dX6_count_95 ?_
              cases hE
              exact retR X dX6_count_96
            · have hE := ite_f hE s_1_5
              by_cases s_1_6 : v1 = (iI 6)
              · have hE := ite_t hE s_1_6
                refine tbIn (k := 6) (off := 96) (tgt := 97) X dX6_count_1 s_1_6 (by decide) (by decide) (by decide) rfl (by decide) ?_
                refine lv_aload_n X.1.1 X.1.2.1 dX6_count_97 rfl (lv_at hl 0 rfl) ?_
                refine gf6_19 X hK hP 0 rfl rfl dX6_count_98 ?_
                refine lv_bipush (v := (iI 7)) X.1.1 X.1.2.1 dX6_count_101 (by decide) ?_
                refine va_iald X.1.1 X.1.2.1 hK hP 4 0 rfl rfl (vin (by decide)) dX6_count_103 ?_
                cases hE
                exact retR X dX6_count_104
              · have hE := ite_f hE s_1_6
                by_cases s_1_7 : v1 = (iI 7)
                · have hE := ite_t hE s_1_7
                  refine tbIn (k := 7) (off := 104) (tgt := 105) X dX6_count_1 s_1_7 (by decide) (by decide) (by decide) rfl (by decide) ?_
                  refine lv_aload_n X.1.1 X.1.2.1 dX6_count_105 rfl (lv_at hl 0 rfl) ?_
                  refine gf6_19 X hK hP 0 rfl rfl dX6_count_106 ?_
                  refine lv_bipush (v := (iI 8)) X.1.1 X.1.2.1 dX6_count_109 (by decide) ?_
                  refine va_iald X.1.1 X.1.2.1 hK hP 4 0 rfl rfl (vin (by decide)) dX6_count_111 ?_
                  cases hE
                  exact retR X dX6_count_112
                · have hE := ite_f hE s_1_7
                  by_cases s_1_8 : v1 = (iI 8)
                  · have hE := ite_t hE s_1_8
                    refine tbIn (k := 8) (off := 112) (tgt := 113) X dX6_count_1 s_1_8 (by decide) (by decide) (by decide) rfl (by decide) ?_
                    refine lv_aload_n X.1.1 X.1.2.1 dX6_count_113 rfl (lv_at hl 0 rfl) ?_
                    refine gf6_19 X hK hP 0 rfl rfl dX6_count_114 ?_
                    refine lv_bipush (v := (iI 9)) X.1.1 X.1.2.1 dX6_count_117 (by decide) ?_
                    refine va_iald X.1.1 X.1.2.1 hK hP 4 0 rfl rfl (vin (by decide)) dX6_count_119 ?_
                    cases hE
                    exact retR X dX6_count_120
                  · have hE := ite_f hE s_1_8
                    by_cases s_1_9 : v1 = (iI 9)
                    · have hE := ite_t hE s_1_9
                      refine tbIn (k := 9) (off := 120) (tgt := 121) X dX6_count_1 s_1_9 (by decide) (by decide) (by decide) rfl (by decide) ?_
                      refine lv_aload_n X.1.1 X.1.2.1 dX6_count_121 rfl (lv_at hl 0 rfl) ?_
                      refine gf6_86 X hK hP 0 rfl rfl dX6_count_122 ?_
                      cases hE
                      exact retR X dX6_count_125
                    · have hE := ite_f hE s_1_9
                      by_cases s_1_10 : v1 = (iI 10)
                      · have hE := ite_t hE s_1_10
                        refine tbIn (k := 10) (off := 125) (tgt := 126) X dX6_count_1 s_1_10 (by decide) (by decide) (by decide) rfl (by decide) ?_
                        refine lv_aload_n X.1.1 X.1.2.1 dX6_count_126 rfl (lv_at hl 0 rfl) ?_
                        refine gf6_160 X hK hP 0 rfl rfl dX6_count_127 ?_
                        cases hE
                        exact retR X dX6_count_130
                      · have hE := ite_f hE s_1_10
                        have ns_1_0 := sw_ne s_1_0 (by decide) (by decide)
                        have ns_1_1 := sw_ne s_1_1 (by decide) (by decide)
                        have ns_1_2 := sw_ne s_1_2 (by decide) (by decide)
                        have ns_1_3 := sw_ne s_1_3 (by decide) (by decide)
                        have ns_1_4 := sw_ne s_1_4 (by decide) (by decide)
                        have ns_1_5 := sw_ne s_1_5 (by decide) (by decide)
                        have ns_1_6 := sw_ne s_1_6 (by decide) (by decide)
                        have ns_1_7 := sw_ne s_1_7 (by decide) (by decide)
                        have ns_1_8 := sw_ne s_1_8 (by decide) (by decide)
                        have ns_1_9 := sw_ne s_1_9 (by decide) (by decide)
                        have ns_1_10 := sw_ne s_1_10 (by decide) (by decide)
                        refine lv_tableOut (tgt := 131) X.1.1 X.1.2.1 dX6_count_1 (by omega) (by decide) ?_
                        refine lv_bipush (v := (iI (-2))) X.1.1 X.1.2.1 dX6_count_131 (by decide) ?_
                        cases hE
                        exact retR X dX6_count_133
