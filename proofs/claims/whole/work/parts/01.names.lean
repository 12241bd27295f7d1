-- ===== PART A: goes FIRST, ahead of the names: the tables' words, and 'selects' of the private methods out of them =====
/-- a private method of a class that the tables say can be made, by its rows of tables_1 -/
def lw_okq (q : MethodName × Nat) : Prop := (q.1.cls ≠ "java/lang/invoke/MethodHandle" ∧ q.1.cls ≠ "java/lang/invoke/VarHandle") ∧ Cond.instantiable q.1.cls q.2 ∈ tables_1 ∧ Cond.privateMethod q.1 ∈ tables_1 ∧ Cond.instanceMethod q.1 ∈ tables_1
theorem lw_p0 : lw_okq (⟨"WhistleBack", "tellPart", "(III)V"⟩, 10) := ⟨⟨by decide +kernel, by decide +kernel⟩, List.mem_of_getElem? (i := 10) (by decide +kernel), List.mem_of_getElem? (i := 217) (by decide +kernel), List.mem_of_getElem? (i := 218) (by decide +kernel)⟩
theorem lw_p1 : lw_okq (⟨"WhistleBack", "farOf", "(I)I"⟩, 10) := ⟨⟨by decide +kernel, by decide +kernel⟩, List.mem_of_getElem? (i := 10) (by decide +kernel), List.mem_of_getElem? (i := 289) (by decide +kernel), List.mem_of_getElem? (i := 290) (by decide +kernel)⟩
theorem lw_p2 : lw_okq (⟨"WhistleBack", "spentOf", "(I)I"⟩, 10) := ⟨⟨by decide +kernel, by decide +kernel⟩, List.mem_of_getElem? (i := 10) (by decide +kernel), List.mem_of_getElem? (i := 293) (by decide +kernel), List.mem_of_getElem? (i := 294) (by decide +kernel)⟩
theorem lw_p3 : lw_okq (⟨"WhistleBack", "remember", "()V"⟩, 10) := ⟨⟨by decide +kernel, by decide +kernel⟩, List.mem_of_getElem? (i := 10) (by decide +kernel), List.mem_of_getElem? (i := 319) (by decide +kernel), List.mem_of_getElem? (i := 320) (by decide +kernel)⟩
theorem lw_p4 : lw_okq (⟨"WhistleBack$Shelf", "setNumber", "(II)V"⟩, 1) := ⟨⟨by decide +kernel, by decide +kernel⟩, List.mem_of_getElem? (i := 102) (by decide +kernel), List.mem_of_getElem? (i := 327) (by decide +kernel), List.mem_of_getElem? (i := 328) (by decide +kernel)⟩
theorem lw_p5 : lw_okq (⟨"WhistleBack$Shelf", "numberAt", "(I)I"⟩, 1) := ⟨⟨by decide +kernel, by decide +kernel⟩, List.mem_of_getElem? (i := 102) (by decide +kernel), List.mem_of_getElem? (i := 398) (by decide +kernel), List.mem_of_getElem? (i := 399) (by decide +kernel)⟩
theorem lw_p6 : lw_okq (⟨"WhistleBack", "nthRow", "(II)I"⟩, 10) := ⟨⟨by decide +kernel, by decide +kernel⟩, List.mem_of_getElem? (i := 10) (by decide +kernel), List.mem_of_getElem? (i := 415) (by decide +kernel), List.mem_of_getElem? (i := 416) (by decide +kernel)⟩
theorem lw_p7 : lw_okq (⟨"WhistleBack", "onlyLastBrings", "(II)Z"⟩, 10) := ⟨⟨by decide +kernel, by decide +kernel⟩, List.mem_of_getElem? (i := 10) (by decide +kernel), List.mem_of_getElem? (i := 419) (by decide +kernel), List.mem_of_getElem? (i := 420) (by decide +kernel)⟩
theorem lw_p8 : lw_okq (⟨"WhistleBack", "doesWell", "(LWhistleBack$Dog;I)Z"⟩, 10) := ⟨⟨by decide +kernel, by decide +kernel⟩, List.mem_of_getElem? (i := 10) (by decide +kernel), List.mem_of_getElem? (i := 443) (by decide +kernel), List.mem_of_getElem? (i := 444) (by decide +kernel)⟩
theorem lw_p9 : lw_okq (⟨"WhistleBack$Sights", "holds", "(I)Z"⟩, 4) := ⟨⟨by decide +kernel, by decide +kernel⟩, List.mem_of_getElem? (i := 112) (by decide +kernel), List.mem_of_getElem? (i := 459) (by decide +kernel), List.mem_of_getElem? (i := 460) (by decide +kernel)⟩
theorem lw_p10 : lw_okq (⟨"WhistleBack", "wordsThatBring", "(I)I"⟩, 10) := ⟨⟨by decide +kernel, by decide +kernel⟩, List.mem_of_getElem? (i := 10) (by decide +kernel), List.mem_of_getElem? (i := 481) (by decide +kernel), List.mem_of_getElem? (i := 482) (by decide +kernel)⟩
theorem lw_p11 : lw_okq (⟨"WhistleBack", "isContent", "(III)Z"⟩, 10) := ⟨⟨by decide +kernel, by decide +kernel⟩, List.mem_of_getElem? (i := 10) (by decide +kernel), List.mem_of_getElem? (i := 495) (by decide +kernel), List.mem_of_getElem? (i := 496) (by decide +kernel)⟩
theorem lw_p12 : lw_okq (⟨"WhistleBack", "gainOf", "(III)I"⟩, 10) := ⟨⟨by decide +kernel, by decide +kernel⟩, List.mem_of_getElem? (i := 10) (by decide +kernel), List.mem_of_getElem? (i := 499) (by decide +kernel), List.mem_of_getElem? (i := 500) (by decide +kernel)⟩
theorem lw_p13 : lw_okq (⟨"WhistleBack", "weightOf", "(II)I"⟩, 10) := ⟨⟨by decide +kernel, by decide +kernel⟩, List.mem_of_getElem? (i := 10) (by decide +kernel), List.mem_of_getElem? (i := 507) (by decide +kernel), List.mem_of_getElem? (i := 508) (by decide +kernel)⟩
theorem lw_p14 : lw_okq (⟨"WhistleBack", "returnsFrom", "(LWhistleBack$Dog;I)Z"⟩, 10) := ⟨⟨by decide +kernel, by decide +kernel⟩, List.mem_of_getElem? (i := 10) (by decide +kernel), List.mem_of_getElem? (i := 522) (by decide +kernel), List.mem_of_getElem? (i := 523) (by decide +kernel)⟩
theorem lw_p15 : lw_okq (⟨"WhistleBack", "isNoSlot", "(I)Z"⟩, 10) := ⟨⟨by decide +kernel, by decide +kernel⟩, List.mem_of_getElem? (i := 10) (by decide +kernel), List.mem_of_getElem? (i := 530) (by decide +kernel), List.mem_of_getElem? (i := 531) (by decide +kernel)⟩
def lw_privs_1 : List (MethodName × Nat) := [(⟨"WhistleBack", "tellPart", "(III)V"⟩, 10), (⟨"WhistleBack", "farOf", "(I)I"⟩, 10), (⟨"WhistleBack", "spentOf", "(I)I"⟩, 10), (⟨"WhistleBack", "remember", "()V"⟩, 10), (⟨"WhistleBack$Shelf", "setNumber", "(II)V"⟩, 1), (⟨"WhistleBack$Shelf", "numberAt", "(I)I"⟩, 1), (⟨"WhistleBack", "nthRow", "(II)I"⟩, 10), (⟨"WhistleBack", "onlyLastBrings", "(II)Z"⟩, 10), (⟨"WhistleBack", "doesWell", "(LWhistleBack$Dog;I)Z"⟩, 10), (⟨"WhistleBack$Sights", "holds", "(I)Z"⟩, 4), (⟨"WhistleBack", "wordsThatBring", "(I)I"⟩, 10), (⟨"WhistleBack", "isContent", "(III)Z"⟩, 10), (⟨"WhistleBack", "gainOf", "(III)I"⟩, 10), (⟨"WhistleBack", "weightOf", "(II)I"⟩, 10), (⟨"WhistleBack", "returnsFrom", "(LWhistleBack$Dog;I)Z"⟩, 10), (⟨"WhistleBack", "isNoSlot", "(I)Z"⟩, 10)]
theorem lw_r1 : ∀ q ∈ lw_privs_1, lw_okq q := List.forall_mem_cons.mpr ⟨lw_p0, List.forall_mem_cons.mpr ⟨lw_p1, List.forall_mem_cons.mpr ⟨lw_p2, List.forall_mem_cons.mpr ⟨lw_p3, List.forall_mem_cons.mpr ⟨lw_p4, List.forall_mem_cons.mpr ⟨lw_p5, List.forall_mem_cons.mpr ⟨lw_p6, List.forall_mem_cons.mpr ⟨lw_p7, List.forall_mem_cons.mpr ⟨lw_p8, List.forall_mem_cons.mpr ⟨lw_p9, List.forall_mem_cons.mpr ⟨lw_p10, List.forall_mem_cons.mpr ⟨lw_p11, List.forall_mem_cons.mpr ⟨lw_p12, List.forall_mem_cons.mpr ⟨lw_p13, List.forall_mem_cons.mpr ⟨lw_p14, List.forall_mem_cons.mpr ⟨lw_p15, fun _ h => absurd h List.not_mem_nil⟩⟩⟩⟩⟩⟩⟩⟩⟩⟩⟩⟩⟩⟩⟩⟩
theorem lw_p16 : lw_okq (⟨"WhistleBackModel", "readText", "()I"⟩, 24) := ⟨⟨by decide +kernel, by decide +kernel⟩, List.mem_of_getElem? (i := 542) (by decide +kernel), List.mem_of_getElem? (i := 637) (by decide +kernel), List.mem_of_getElem? (i := 638) (by decide +kernel)⟩
theorem lw_p17 : lw_okq (⟨"WhistleBackModel", "figure", "(II)I"⟩, 24) := ⟨⟨by decide +kernel, by decide +kernel⟩, List.mem_of_getElem? (i := 542) (by decide +kernel), List.mem_of_getElem? (i := 641) (by decide +kernel), List.mem_of_getElem? (i := 642) (by decide +kernel)⟩
theorem lw_p18 : lw_okq (⟨"WhistleBackModel", "isWord", "(I)Z"⟩, 24) := ⟨⟨by decide +kernel, by decide +kernel⟩, List.mem_of_getElem? (i := 542) (by decide +kernel), List.mem_of_getElem? (i := 653) (by decide +kernel), List.mem_of_getElem? (i := 654) (by decide +kernel)⟩
theorem lw_p19 : lw_okq (⟨"WhistleBackModel", "power", "(III)I"⟩, 24) := ⟨⟨by decide +kernel, by decide +kernel⟩, List.mem_of_getElem? (i := 542) (by decide +kernel), List.mem_of_getElem? (i := 657) (by decide +kernel), List.mem_of_getElem? (i := 658) (by decide +kernel)⟩
theorem lw_p20 : lw_okq (⟨"WhistleBackModel", "comesNow", "(II)Z"⟩, 24) := ⟨⟨by decide +kernel, by decide +kernel⟩, List.mem_of_getElem? (i := 542) (by decide +kernel), List.mem_of_getElem? (i := 661) (by decide +kernel), List.mem_of_getElem? (i := 662) (by decide +kernel)⟩
theorem lw_p21 : lw_okq (⟨"WhistleBackModel", "comesBy", "(IIII)Z"⟩, 24) := ⟨⟨by decide +kernel, by decide +kernel⟩, List.mem_of_getElem? (i := 542) (by decide +kernel), List.mem_of_getElem? (i := 665) (by decide +kernel), List.mem_of_getElem? (i := 666) (by decide +kernel)⟩
theorem lw_p22 : lw_okq (⟨"WhistleBackModel", "pullAt", "(II)I"⟩, 24) := ⟨⟨by decide +kernel, by decide +kernel⟩, List.mem_of_getElem? (i := 542) (by decide +kernel), List.mem_of_getElem? (i := 669) (by decide +kernel), List.mem_of_getElem? (i := 670) (by decide +kernel)⟩
theorem lw_p23 : lw_okq (⟨"WhistleBackModel", "farOf", "(I)I"⟩, 24) := ⟨⟨by decide +kernel, by decide +kernel⟩, List.mem_of_getElem? (i := 542) (by decide +kernel), List.mem_of_getElem? (i := 676) (by decide +kernel), List.mem_of_getElem? (i := 677) (by decide +kernel)⟩
theorem lw_p24 : lw_okq (⟨"WhistleBackModel", "wears", "(I)I"⟩, 24) := ⟨⟨by decide +kernel, by decide +kernel⟩, List.mem_of_getElem? (i := 542) (by decide +kernel), List.mem_of_getElem? (i := 680) (by decide +kernel), List.mem_of_getElem? (i := 681) (by decide +kernel)⟩
theorem lw_p25 : lw_okq (⟨"WhistleBackModel", "keepAct", "()V"⟩, 24) := ⟨⟨by decide +kernel, by decide +kernel⟩, List.mem_of_getElem? (i := 542) (by decide +kernel), List.mem_of_getElem? (i := 697) (by decide +kernel), List.mem_of_getElem? (i := 698) (by decide +kernel)⟩
theorem lw_p26 : lw_okq (⟨"WhistleBackModel", "callOn", "(II)Z"⟩, 24) := ⟨⟨by decide +kernel, by decide +kernel⟩, List.mem_of_getElem? (i := 542) (by decide +kernel), List.mem_of_getElem? (i := 701) (by decide +kernel), List.mem_of_getElem? (i := 702) (by decide +kernel)⟩
theorem lw_p27 : lw_okq (⟨"WhistleBackModel", "canPay", "(I)Z"⟩, 24) := ⟨⟨by decide +kernel, by decide +kernel⟩, List.mem_of_getElem? (i := 542) (by decide +kernel), List.mem_of_getElem? (i := 709) (by decide +kernel), List.mem_of_getElem? (i := 710) (by decide +kernel)⟩
theorem lw_p28 : lw_okq (⟨"WhistleBackModel", "payOn", "(I)I"⟩, 24) := ⟨⟨by decide +kernel, by decide +kernel⟩, List.mem_of_getElem? (i := 542) (by decide +kernel), List.mem_of_getElem? (i := 713) (by decide +kernel), List.mem_of_getElem? (i := 714) (by decide +kernel)⟩
theorem lw_p29 : lw_okq (⟨"WhistleBackModel", "runOn", "(II)V"⟩, 24) := ⟨⟨by decide +kernel, by decide +kernel⟩, List.mem_of_getElem? (i := 542) (by decide +kernel), List.mem_of_getElem? (i := 721) (by decide +kernel), List.mem_of_getElem? (i := 722) (by decide +kernel)⟩
theorem lw_p30 : lw_okq (⟨"WhistleBackModel", "canLead", "(I)Z"⟩, 24) := ⟨⟨by decide +kernel, by decide +kernel⟩, List.mem_of_getElem? (i := 542) (by decide +kernel), List.mem_of_getElem? (i := 729) (by decide +kernel), List.mem_of_getElem? (i := 730) (by decide +kernel)⟩
theorem lw_p31 : lw_okq (⟨"WhistleBackModel", "leadOn", "(I)V"⟩, 24) := ⟨⟨by decide +kernel, by decide +kernel⟩, List.mem_of_getElem? (i := 542) (by decide +kernel), List.mem_of_getElem? (i := 733) (by decide +kernel), List.mem_of_getElem? (i := 734) (by decide +kernel)⟩
def lw_privs_2 : List (MethodName × Nat) := [(⟨"WhistleBackModel", "readText", "()I"⟩, 24), (⟨"WhistleBackModel", "figure", "(II)I"⟩, 24), (⟨"WhistleBackModel", "isWord", "(I)Z"⟩, 24), (⟨"WhistleBackModel", "power", "(III)I"⟩, 24), (⟨"WhistleBackModel", "comesNow", "(II)Z"⟩, 24), (⟨"WhistleBackModel", "comesBy", "(IIII)Z"⟩, 24), (⟨"WhistleBackModel", "pullAt", "(II)I"⟩, 24), (⟨"WhistleBackModel", "farOf", "(I)I"⟩, 24), (⟨"WhistleBackModel", "wears", "(I)I"⟩, 24), (⟨"WhistleBackModel", "keepAct", "()V"⟩, 24), (⟨"WhistleBackModel", "callOn", "(II)Z"⟩, 24), (⟨"WhistleBackModel", "canPay", "(I)Z"⟩, 24), (⟨"WhistleBackModel", "payOn", "(I)I"⟩, 24), (⟨"WhistleBackModel", "runOn", "(II)V"⟩, 24), (⟨"WhistleBackModel", "canLead", "(I)Z"⟩, 24), (⟨"WhistleBackModel", "leadOn", "(I)V"⟩, 24)]
theorem lw_r2 : ∀ q ∈ lw_privs_2, lw_okq q := List.forall_mem_cons.mpr ⟨lw_p16, List.forall_mem_cons.mpr ⟨lw_p17, List.forall_mem_cons.mpr ⟨lw_p18, List.forall_mem_cons.mpr ⟨lw_p19, List.forall_mem_cons.mpr ⟨lw_p20, List.forall_mem_cons.mpr ⟨lw_p21, List.forall_mem_cons.mpr ⟨lw_p22, List.forall_mem_cons.mpr ⟨lw_p23, List.forall_mem_cons.mpr ⟨lw_p24, List.forall_mem_cons.mpr ⟨lw_p25, List.forall_mem_cons.mpr ⟨lw_p26, List.forall_mem_cons.mpr ⟨lw_p27, List.forall_mem_cons.mpr ⟨lw_p28, List.forall_mem_cons.mpr ⟨lw_p29, List.forall_mem_cons.mpr ⟨lw_p30, List.forall_mem_cons.mpr ⟨lw_p31, fun _ h => absurd h List.not_mem_nil⟩⟩⟩⟩⟩⟩⟩⟩⟩⟩⟩⟩⟩⟩⟩⟩
theorem lw_p32 : lw_okq (⟨"WhistleBackModel", "isRow", "(II)Z"⟩, 24) := ⟨⟨by decide +kernel, by decide +kernel⟩, List.mem_of_getElem? (i := 542) (by decide +kernel), List.mem_of_getElem? (i := 760) (by decide +kernel), List.mem_of_getElem? (i := 761) (by decide +kernel)⟩
theorem lw_p33 : lw_okq (⟨"WhistleBackModel", "layTrial", "()V"⟩, 24) := ⟨⟨by decide +kernel, by decide +kernel⟩, List.mem_of_getElem? (i := 542) (by decide +kernel), List.mem_of_getElem? (i := 764) (by decide +kernel), List.mem_of_getElem? (i := 765) (by decide +kernel)⟩
theorem lw_p34 : lw_okq (⟨"WhistleBackModel", "tryThing", "(I)Z"⟩, 24) := ⟨⟨by decide +kernel, by decide +kernel⟩, List.mem_of_getElem? (i := 542) (by decide +kernel), List.mem_of_getElem? (i := 777) (by decide +kernel), List.mem_of_getElem? (i := 778) (by decide +kernel)⟩
theorem lw_p35 : lw_okq (⟨"WhistleBackModel", "reached", "(I)I"⟩, 24) := ⟨⟨by decide +kernel, by decide +kernel⟩, List.mem_of_getElem? (i := 542) (by decide +kernel), List.mem_of_getElem? (i := 803) (by decide +kernel), List.mem_of_getElem? (i := 804) (by decide +kernel)⟩
theorem lw_p36 : lw_okq (⟨"WhistleBackModel", "isRest", "(IIII)Z"⟩, 24) := ⟨⟨by decide +kernel, by decide +kernel⟩, List.mem_of_getElem? (i := 542) (by decide +kernel), List.mem_of_getElem? (i := 814) (by decide +kernel), List.mem_of_getElem? (i := 815) (by decide +kernel)⟩
theorem lw_p37 : lw_okq (⟨"WhistleBackModel", "gain", "(III)I"⟩, 24) := ⟨⟨by decide +kernel, by decide +kernel⟩, List.mem_of_getElem? (i := 542) (by decide +kernel), List.mem_of_getElem? (i := 818) (by decide +kernel), List.mem_of_getElem? (i := 819) (by decide +kernel)⟩
def lw_privs_3 : List (MethodName × Nat) := [(⟨"WhistleBackModel", "isRow", "(II)Z"⟩, 24), (⟨"WhistleBackModel", "layTrial", "()V"⟩, 24), (⟨"WhistleBackModel", "tryThing", "(I)Z"⟩, 24), (⟨"WhistleBackModel", "reached", "(I)I"⟩, 24), (⟨"WhistleBackModel", "isRest", "(IIII)Z"⟩, 24), (⟨"WhistleBackModel", "gain", "(III)I"⟩, 24)]
theorem lw_r3 : ∀ q ∈ lw_privs_3, lw_okq q := List.forall_mem_cons.mpr ⟨lw_p32, List.forall_mem_cons.mpr ⟨lw_p33, List.forall_mem_cons.mpr ⟨lw_p34, List.forall_mem_cons.mpr ⟨lw_p35, List.forall_mem_cons.mpr ⟨lw_p36, List.forall_mem_cons.mpr ⟨lw_p37, fun _ h => absurd h List.not_mem_nil⟩⟩⟩⟩⟩⟩
def lw_privs : List (MethodName × Nat) := lw_privs_1 ++ (lw_privs_2 ++ (lw_privs_3))
def lw_tbl : List Cond := k2_sels lw_privs ++ tables_1
theorem lw_privs_ok : ∀ q ∈ lw_privs, lw_okq q := by
  show ∀ q ∈ lw_privs_1 ++ (lw_privs_2 ++ (lw_privs_3)), lw_okq q
  exact List.forall_mem_append.mpr ⟨lw_r1, List.forall_mem_append.mpr ⟨lw_r2, lw_r3⟩⟩
def RX0 : String := "WhistleBack$Dog"
def TX0 : u_T := fun k => match k with
  | 0 => ("WhistleBack$Dog", "strengths", "[I", true)
  | 1 => ("WhistleBack$Dog", "cheese", "I", false)
  | 2 => ("WhistleBack$Dog", "yards", "I", false)
  | 3 => ("WhistleBack$Dog", "owed", "I", false)
  | 4 => ("WhistleBack$Dog", "calls", "I", false)
  | 5 => ("WhistleBack$Dog", "hungry", "Z", false)
  | _ => ("WhistleBack$Dog", "onLead", "Z", false)
def tyX0 : Nat → FieldType := fun k => match k with
  | 0 => .array .int
  | 1 => .int
  | 2 => .int
  | 3 => .int
  | 4 => .int
  | 5 => .boolean
  | _ => .boolean
abbrev wsX00 : List Cond := u_ws RX0 TX0 7
theorem nmX0 : ∀ a, a < 7 → ∀ b, b < 7 → a ≠ b → (TX0 a).2.1 ≠ (TX0 b).2.1 := by decide +kernel
theorem tyX0_ok : ∀ k, k < 7 → parseFieldDescriptor (TX0 k).2.2.1 = some (tyX0 k) := by decide +kernel
abbrev cX0_init : ByteArray := prog_2_method_1_code
def yX0_init : MethodName := ⟨RX0, "<init>", "()V"⟩
abbrev cX0_startAnew : ByteArray := prog_2_method_2_code
def yX0_startAnew : MethodName := ⟨RX0, "startAnew", "(II)V"⟩
abbrev cX0_copyFrom : ByteArray := prog_2_method_3_code
def yX0_copyFrom : MethodName := ⟨RX0, "copyFrom", "(LWhistleBack$Dog;)V"⟩
abbrev cX0_strengthOf : ByteArray := prog_2_method_4_code
def yX0_strengthOf : MethodName := ⟨RX0, "strengthOf", "(I)I"⟩
abbrev cX0_setStrength : ByteArray := prog_2_method_5_code
def yX0_setStrength : MethodName := ⟨RX0, "setStrength", "(II)V"⟩
abbrev cX0_addStrength : ByteArray := prog_2_method_6_code
def yX0_addStrength : MethodName := ⟨RX0, "addStrength", "(II)V"⟩
abbrev cX0_runOff : ByteArray := prog_2_method_7_code
def yX0_runOff : MethodName := ⟨RX0, "runOff", "(I)V"⟩
abbrev cX0_canBePaid : ByteArray := prog_2_method_8_code
def yX0_canBePaid : MethodName := ⟨RX0, "canBePaid", "()Z"⟩
abbrev cX0_bePaid : ByteArray := prog_2_method_9_code
def yX0_bePaid : MethodName := ⟨RX0, "bePaid", "()V"⟩
abbrev cX0_canBeLed : ByteArray := prog_2_method_10_code
def yX0_canBeLed : MethodName := ⟨RX0, "canBeLed", "()Z"⟩
def RX1 : String := "WhistleBack$Fields"
def TX1 : u_T := fun k => match k with
  | 0 => ("WhistleBack$Fields", "kinds", "[I", true)
  | 1 => ("WhistleBack$Fields", "spots", "[I", true)
  | 2 => ("WhistleBack$Fields", "tugs", "[I", true)
  | 3 => ("WhistleBack$Fields", "words", "I", false)
  | _ => ("WhistleBack$Fields", "things", "I", false)
def tyX1 : Nat → FieldType := fun k => match k with
  | 0 => .array .int
  | 1 => .array .int
  | 2 => .array .int
  | 3 => .int
  | _ => .int
abbrev wsX10 : List Cond := u_ws RX1 TX1 5
theorem nmX1 : ∀ a, a < 5 → ∀ b, b < 5 → a ≠ b → (TX1 a).2.1 ≠ (TX1 b).2.1 := by decide +kernel
theorem tyX1_ok : ∀ k, k < 5 → parseFieldDescriptor (TX1 k).2.2.1 = some (tyX1 k) := by decide +kernel
abbrev cX1_init : ByteArray := prog_3_method_1_code
def yX1_init : MethodName := ⟨RX1, "<init>", "()V"⟩
abbrev cX1_clear : ByteArray := prog_3_method_2_code
def yX1_clear : MethodName := ⟨RX1, "clear", "()V"⟩
abbrev cX1_addWord : ByteArray := prog_3_method_3_code
def yX1_addWord : MethodName := ⟨RX1, "addWord", "(I)V"⟩
abbrev cX1_addThing : ByteArray := prog_3_method_4_code
def yX1_addThing : MethodName := ⟨RX1, "addThing", "(II)V"⟩
abbrev cX1_hasWord : ByteArray := prog_3_method_5_code
def yX1_hasWord : MethodName := ⟨RX1, "hasWord", "(I)Z"⟩
abbrev cX1_hasThing : ByteArray := prog_3_method_6_code
def yX1_hasThing : MethodName := ⟨RX1, "hasThing", "(I)Z"⟩
abbrev cX1_kindOf : ByteArray := prog_3_method_7_code
def yX1_kindOf : MethodName := ⟨RX1, "kindOf", "(I)I"⟩
abbrev cX1_spotOf : ByteArray := prog_3_method_8_code
def yX1_spotOf : MethodName := ⟨RX1, "spotOf", "(I)I"⟩
abbrev cX1_tugOf : ByteArray := prog_3_method_9_code
def yX1_tugOf : MethodName := ⟨RX1, "tugOf", "(I)I"⟩
abbrev cX1_pullAt : ByteArray := prog_3_method_10_code
def yX1_pullAt : MethodName := ⟨RX1, "pullAt", "(II)I"⟩
abbrev cX1_powerWith : ByteArray := prog_3_method_11_code
def yX1_powerWith : MethodName := ⟨RX1, "powerWith", "(IIZI)I"⟩
abbrev cX1_powerOf : ByteArray := prog_3_method_12_code
def yX1_powerOf : MethodName := ⟨RX1, "powerOf", "(LWhistleBack$Dog;II)I"⟩
abbrev cX1_isEnough : ByteArray := prog_3_method_13_code
def yX1_isEnough : MethodName := ⟨RX1, "isEnough", "(III)Z"⟩
abbrev cX1_brings : ByteArray := prog_3_method_14_code
def yX1_brings : MethodName := ⟨RX1, "brings", "(LWhistleBack$Dog;II)Z"⟩
abbrev cX1_callHim : ByteArray := prog_3_method_15_code
def yX1_callHim : MethodName := ⟨RX1, "callHim", "(LWhistleBack$Dog;I)Z"⟩
abbrev cX1_leash : ByteArray := prog_3_method_16_code
def yX1_leash : MethodName := ⟨RX1, "leash", "(LWhistleBack$Dog;)V"⟩
def RX2 : String := "WhistleBack$Shelf"
def TX2 : u_T := fun k => match k with
  | _ => ("WhistleBack$Shelf", "numbers", "[I", true)
def tyX2 : Nat → FieldType := fun k => match k with
  | _ => .array .int
abbrev wsX20 : List Cond := u_ws RX2 TX2 1
theorem nmX2 : ∀ a, a < 1 → ∀ b, b < 1 → a ≠ b → (TX2 a).2.1 ≠ (TX2 b).2.1 := by decide +kernel
theorem tyX2_ok : ∀ k, k < 1 → parseFieldDescriptor (TX2 k).2.2.1 = some (tyX2 k) := by decide +kernel
abbrev cX2_init : ByteArray := prog_4_method_1_code
def yX2_init : MethodName := ⟨RX2, "<init>", "(I)V"⟩
abbrev cX2_numberAt : ByteArray := prog_4_method_2_code
def yX2_numberAt : MethodName := ⟨RX2, "numberAt", "(I)I"⟩
abbrev cX2_setNumber : ByteArray := prog_4_method_3_code
def yX2_setNumber : MethodName := ⟨RX2, "setNumber", "(II)V"⟩
abbrev cX2_put : ByteArray := prog_4_method_4_code
def yX2_put : MethodName := ⟨RX2, "put", "(ILWhistleBack$Dog;)V"⟩
abbrev cX2_take : ByteArray := prog_4_method_5_code
def yX2_take : MethodName := ⟨RX2, "take", "(ILWhistleBack$Dog;)V"⟩
abbrev cX2_dropFirst : ByteArray := prog_4_method_6_code
def yX2_dropFirst : MethodName := ⟨RX2, "dropFirst", "()V"⟩
def RX3 : String := "WhistleBack$Sights"
def TX3 : u_T := fun k => match k with
  | 0 => ("WhistleBack$Sights", "ofWord", "[I", true)
  | 1 => ("WhistleBack$Sights", "fromYards", "[I", true)
  | 2 => ("WhistleBack$Sights", "cameThen", "[Z", true)
  | _ => ("WhistleBack$Sights", "size", "I", false)
def tyX3 : Nat → FieldType := fun k => match k with
  | 0 => .array .int
  | 1 => .array .int
  | 2 => .array .boolean
  | _ => .int
abbrev wsX30 : List Cond := u_ws RX3 TX3 4
theorem nmX3 : ∀ a, a < 4 → ∀ b, b < 4 → a ≠ b → (TX3 a).2.1 ≠ (TX3 b).2.1 := by decide +kernel
theorem tyX3_ok : ∀ k, k < 4 → parseFieldDescriptor (TX3 k).2.2.1 = some (tyX3 k) := by decide +kernel
abbrev cX3_init : ByteArray := prog_5_method_1_code
def yX3_init : MethodName := ⟨RX3, "<init>", "()V"⟩
abbrev cX3_isFull : ByteArray := prog_5_method_2_code
def yX3_isFull : MethodName := ⟨RX3, "isFull", "()Z"⟩
abbrev cX3_add : ByteArray := prog_5_method_3_code
def yX3_add : MethodName := ⟨RX3, "add", "(IIZ)V"⟩
abbrev cX3_holds : ByteArray := prog_5_method_4_code
def yX3_holds : MethodName := ⟨RX3, "holds", "(I)Z"⟩
abbrev cX3_agree : ByteArray := prog_5_method_5_code
def yX3_agree : MethodName := ⟨RX3, "agree", "(LWhistleBack$Fields;IIZ)Z"⟩
def RX4 : String := "WhistleBack$Text"
def TX4 : u_T := fun k => match k with
  | 0 => ("WhistleBack$Text", "letters", "[I", true)
  | _ => ("WhistleBack$Text", "size", "I", false)
def tyX4 : Nat → FieldType := fun k => match k with
  | 0 => .array .int
  | _ => .int
abbrev wsX40 : List Cond := u_ws RX4 TX4 2
theorem nmX4 : ∀ a, a < 2 → ∀ b, b < 2 → a ≠ b → (TX4 a).2.1 ≠ (TX4 b).2.1 := by decide +kernel
theorem tyX4_ok : ∀ k, k < 2 → parseFieldDescriptor (TX4 k).2.2.1 = some (tyX4 k) := by decide +kernel
abbrev cX4_init : ByteArray := prog_6_method_1_code
def yX4_init : MethodName := ⟨RX4, "<init>", "()V"⟩
abbrev cX4_isFull : ByteArray := prog_6_method_2_code
def yX4_isFull : MethodName := ⟨RX4, "isFull", "()Z"⟩
abbrev cX4_append : ByteArray := prog_6_method_3_code
def yX4_append : MethodName := ⟨RX4, "append", "(I)V"⟩
abbrev cX4_letterAt : ByteArray := prog_6_method_4_code
def yX4_letterAt : MethodName := ⟨RX4, "letterAt", "(I)I"⟩
abbrev cX4_figureAt : ByteArray := prog_6_method_5_code
def yX4_figureAt : MethodName := ⟨RX4, "figureAt", "(I)I"⟩
abbrev cX4_firstFault : ByteArray := prog_6_method_6_code
def yX4_firstFault : MethodName := ⟨RX4, "firstFault", "()I"⟩
abbrev cX4_fits : ByteArray := prog_6_method_7_code
def yX4_fits : MethodName := ⟨RX4, "fits", "(III)Z"⟩
abbrev cX4_endsPart : ByteArray := prog_6_method_8_code
def yX4_endsPart : MethodName := ⟨RX4, "endsPart", "(II)Z"⟩
def RX5 : String := "WhistleBack"
def TX5 : u_T := fun k => match k with
  | 0 => ("WhistleBack", "text", "LWhistleBack$Text;", true)
  | 1 => ("WhistleBack", "fields", "LWhistleBack$Fields;", true)
  | 2 => ("WhistleBack", "dog", "LWhistleBack$Dog;", true)
  | 3 => ("WhistleBack", "trial", "LWhistleBack$Dog;", true)
  | 4 => ("WhistleBack", "acts", "LWhistleBack$Shelf;", true)
  | 5 => ("WhistleBack", "actsInRow", "I", false)
  | 6 => ("WhistleBack", "slots", "LWhistleBack$Shelf;", true)
  | 7 => ("WhistleBack", "kept", "[Z", true)
  | 8 => ("WhistleBack", "sights", "LWhistleBack$Sights;", true)
  | _ => ("WhistleBack", "theSeed", "J", false)
def tyX5 : Nat → FieldType := fun k => match k with
  | 0 => .object "WhistleBack$Text"
  | 1 => .object "WhistleBack$Fields"
  | 2 => .object "WhistleBack$Dog"
  | 3 => .object "WhistleBack$Dog"
  | 4 => .object "WhistleBack$Shelf"
  | 5 => .int
  | 6 => .object "WhistleBack$Shelf"
  | 7 => .array .boolean
  | 8 => .object "WhistleBack$Sights"
  | _ => .long
abbrev wsX50 : List Cond := u_ws RX5 TX5 10
theorem nmX5 : ∀ a, a < 10 → ∀ b, b < 10 → a ≠ b → (TX5 a).2.1 ≠ (TX5 b).2.1 := by decide +kernel
theorem tyX5_ok : ∀ k, k < 10 → parseFieldDescriptor (TX5 k).2.2.1 = some (tyX5 k) := by decide +kernel
abbrev cX5_init : ByteArray := prog_1_method_1_code
def yX5_init : MethodName := ⟨RX5, "<init>", "()V"⟩
abbrev cX5_write : ByteArray := prog_1_method_2_code
def yX5_write : MethodName := ⟨RX5, "write", "(I)I"⟩
abbrev cX5_wipe : ByteArray := prog_1_method_3_code
def yX5_wipe : MethodName := ⟨RX5, "wipe", "()I"⟩
abbrev cX5_fault : ByteArray := prog_1_method_4_code
def yX5_fault : MethodName := ⟨RX5, "fault", "()I"⟩
abbrev cX5_walk : ByteArray := prog_1_method_5_code
def yX5_walk : MethodName := ⟨RX5, "walk", "()I"⟩
abbrev cX5_tellPart : ByteArray := prog_1_method_6_code
def yX5_tellPart : MethodName := ⟨RX5, "tellPart", "(III)V"⟩
abbrev cX5_word : ByteArray := prog_1_method_7_code
def yX5_word : MethodName := ⟨RX5, "word", "(II)I"⟩
abbrev cX5_farOf : ByteArray := prog_1_method_8_code
def yX5_farOf : MethodName := ⟨RX5, "farOf", "(I)I"⟩
abbrev cX5_spentOf : ByteArray := prog_1_method_9_code
def yX5_spentOf : MethodName := ⟨RX5, "spentOf", "(I)I"⟩
abbrev cX5_thing : ByteArray := prog_1_method_10_code
def yX5_thing : MethodName := ⟨RX5, "thing", "(II)I"⟩
abbrev cX5_pull : ByteArray := prog_1_method_11_code
def yX5_pull : MethodName := ⟨RX5, "pull", "(I)I"⟩
abbrev cX5_call : ByteArray := prog_1_method_12_code
def yX5_call : MethodName := ⟨RX5, "call", "(I)I"⟩
abbrev cX5_pay : ByteArray := prog_1_method_13_code
def yX5_pay : MethodName := ⟨RX5, "pay", "()I"⟩
abbrev cX5_run : ByteArray := prog_1_method_14_code
def yX5_run : MethodName := ⟨RX5, "run", "(I)I"⟩
abbrev cX5_lead : ByteArray := prog_1_method_15_code
def yX5_lead : MethodName := ⟨RX5, "lead", "()I"⟩
abbrev cX5_hunger : ByteArray := prog_1_method_16_code
def yX5_hunger : MethodName := ⟨RX5, "hunger", "()I"⟩
abbrev cX5_undo : ByteArray := prog_1_method_17_code
def yX5_undo : MethodName := ⟨RX5, "undo", "()I"⟩
abbrev cX5_remember : ByteArray := prog_1_method_18_code
def yX5_remember : MethodName := ⟨RX5, "remember", "()V"⟩
abbrev cX5_comes : ByteArray := prog_1_method_19_code
def yX5_comes : MethodName := ⟨RX5, "comes", "(II)I"⟩
abbrev cX5_best : ByteArray := prog_1_method_20_code
def yX5_best : MethodName := ⟨RX5, "best", "(I)I"⟩
abbrev cX5_fewest : ByteArray := prog_1_method_21_code
def yX5_fewest : MethodName := ⟨RX5, "fewest", "(Z)I"⟩
abbrev cX5_nthRow : ByteArray := prog_1_method_22_code
def yX5_nthRow : MethodName := ⟨RX5, "nthRow", "(II)I"⟩
abbrev cX5_onlyLastBrings : ByteArray := prog_1_method_23_code
def yX5_onlyLastBrings : MethodName := ⟨RX5, "onlyLastBrings", "(II)Z"⟩
abbrev cX5_good : ByteArray := prog_1_method_24_code
def yX5_good : MethodName := ⟨RX5, "good", "(II)I"⟩
abbrev cX5_judge : ByteArray := prog_1_method_25_code
def yX5_judge : MethodName := ⟨RX5, "judge", "(II)I"⟩
abbrev cX5_doesWell : ByteArray := prog_1_method_26_code
def yX5_doesWell : MethodName := ⟨RX5, "doesWell", "(LWhistleBack$Dog;I)Z"⟩
abbrev cX5_see : ByteArray := prog_1_method_27_code
def yX5_see : MethodName := ⟨RX5, "see", "(III)I"⟩
abbrev cX5_unsee : ByteArray := prog_1_method_28_code
def yX5_unsee : MethodName := ⟨RX5, "unsee", "()I"⟩
abbrev cX5_may : ByteArray := prog_1_method_29_code
def yX5_may : MethodName := ⟨RX5, "may", "(I)I"⟩
abbrev cX5_share : ByteArray := prog_1_method_30_code
def yX5_share : MethodName := ⟨RX5, "share", "(IZ)I"⟩
abbrev cX5_wordsThatBring : ByteArray := prog_1_method_31_code
def yX5_wordsThatBring : MethodName := ⟨RX5, "wordsThatBring", "(I)I"⟩
abbrev cX5_rests : ByteArray := prog_1_method_32_code
def yX5_rests : MethodName := ⟨RX5, "rests", "(III)I"⟩
abbrev cX5_isContent : ByteArray := prog_1_method_33_code
def yX5_isContent : MethodName := ⟨RX5, "isContent", "(III)Z"⟩
abbrev cX5_gainOf : ByteArray := prog_1_method_34_code
def yX5_gainOf : MethodName := ⟨RX5, "gainOf", "(III)I"⟩
abbrev cX5_there : ByteArray := prog_1_method_35_code
def yX5_there : MethodName := ⟨RX5, "there", "(IIZ)I"⟩
abbrev cX5_weightOf : ByteArray := prog_1_method_36_code
def yX5_weightOf : MethodName := ⟨RX5, "weightOf", "(II)I"⟩
abbrev cX5_seed : ByteArray := prog_1_method_37_code
def yX5_seed : MethodName := ⟨RX5, "seed", "(J)J"⟩
abbrev cX5_walks : ByteArray := prog_1_method_38_code
def yX5_walks : MethodName := ⟨RX5, "walks", "(I)I"⟩
abbrev cX5_returnsFrom : ByteArray := prog_1_method_39_code
def yX5_returnsFrom : MethodName := ⟨RX5, "returnsFrom", "(LWhistleBack$Dog;I)Z"⟩
abbrev cX5_keep : ByteArray := prog_1_method_40_code
def yX5_keep : MethodName := ⟨RX5, "keep", "(I)I"⟩
abbrev cX5_again : ByteArray := prog_1_method_41_code
def yX5_again : MethodName := ⟨RX5, "again", "(I)I"⟩
abbrev cX5_isNoSlot : ByteArray := prog_1_method_42_code
def yX5_isNoSlot : MethodName := ⟨RX5, "isNoSlot", "(I)Z"⟩
abbrev cX5_count : ByteArray := prog_1_method_43_code
def yX5_count : MethodName := ⟨RX5, "count", "(I)I"⟩
abbrev cX5_asNumber : ByteArray := prog_1_method_44_code
def yX5_asNumber : MethodName := ⟨RX5, "asNumber", "(Z)I"⟩
abbrev cX5_isNoYard : ByteArray := prog_1_method_45_code
def yX5_isNoYard : MethodName := ⟨RX5, "isNoYard", "(I)Z"⟩
abbrev cX5_tenTo : ByteArray := prog_1_method_46_code
def yX5_tenTo : MethodName := ⟨RX5, "tenTo", "(I)I"⟩
abbrev cX5_figureOf : ByteArray := prog_1_method_47_code
def yX5_figureOf : MethodName := ⟨RX5, "figureOf", "(III)I"⟩
abbrev cX5_fraction : ByteArray := prog_1_method_48_code
def yX5_fraction : MethodName := ⟨RX5, "fraction", "(IIZ)I"⟩
abbrev cX5_greatestDivisor : ByteArray := prog_1_method_49_code
def yX5_greatestDivisor : MethodName := ⟨RX5, "greatestDivisor", "(II)I"⟩
def RX6 : String := "WhistleBackModel"
def TX6 : u_T := fun k => match k with
  | 0 => ("WhistleBackModel", "words", "I", false)
  | 1 => ("WhistleBackModel", "things", "I", false)
  | 2 => ("WhistleBackModel", "kind", "[I", true)
  | 3 => ("WhistleBackModel", "off", "[I", true)
  | 4 => ("WhistleBackModel", "pulls", "[I", true)
  | 5 => ("WhistleBackModel", "now", "[I", true)
  | 6 => ("WhistleBackModel", "readWord", "[I", true)
  | 7 => ("WhistleBackModel", "readThing", "[I", true)
  | 8 => ("WhistleBackModel", "readWords", "I", false)
  | 9 => ("WhistleBackModel", "readThings", "I", false)
  | 10 => ("WhistleBackModel", "text", "[I", true)
  | 11 => ("WhistleBackModel", "length", "I", false)
  | 12 => ("WhistleBackModel", "at", "I", false)
  | 13 => ("WhistleBackModel", "faultAt", "I", false)
  | 14 => ("WhistleBackModel", "acts", "I", false)
  | 15 => ("WhistleBackModel", "next", "I", false)
  | 16 => ("WhistleBackModel", "row", "[I", true)
  | 17 => ("WhistleBackModel", "seen", "I", false)
  | 18 => ("WhistleBackModel", "seenOf", "[I", true)
  | 19 => ("WhistleBackModel", "seenFrom", "[I", true)
  | 20 => ("WhistleBackModel", "seenCame", "[I", true)
  | 21 => ("WhistleBackModel", "seed", "J", false)
  | 22 => ("WhistleBackModel", "isKept", "[Z", true)
  | _ => ("WhistleBackModel", "kept", "[I", true)
def tyX6 : Nat → FieldType := fun k => match k with
  | 0 => .int
  | 1 => .int
  | 2 => .array .int
  | 3 => .array .int
  | 4 => .array .int
  | 5 => .array .int
  | 6 => .array .int
  | 7 => .array .int
  | 8 => .int
  | 9 => .int
  | 10 => .array .int
  | 11 => .int
  | 12 => .int
  | 13 => .int
  | 14 => .int
  | 15 => .int
  | 16 => .array .int
  | 17 => .int
  | 18 => .array .int
  | 19 => .array .int
  | 20 => .array .int
  | 21 => .long
  | 22 => .array .boolean
  | _ => .array .int
abbrev wsX60 : List Cond := u_ws RX6 TX6 24
theorem nmX6 : ∀ a, a < 24 → ∀ b, b < 24 → a ≠ b → (TX6 a).2.1 ≠ (TX6 b).2.1 := by decide +kernel
theorem tyX6_ok : ∀ k, k < 24 → parseFieldDescriptor (TX6 k).2.2.1 = some (tyX6 k) := by decide +kernel
abbrev cX6_init : ByteArray := prog_8_method_1_code
def yX6_init : MethodName := ⟨RX6, "<init>", "()V"⟩
abbrev cX6_in : ByteArray := prog_8_method_3_code
def yX6_in : MethodName := ⟨RX6, "in", "(JJJ)Z"⟩
abbrev cX6_has : ByteArray := prog_8_method_4_code
def yX6_has : MethodName := ⟨RX6, "has", "(II)Z"⟩
abbrev cX6_ones : ByteArray := prog_8_method_5_code
def yX6_ones : MethodName := ⟨RX6, "ones", "(I)I"⟩
abbrev cX6_write : ByteArray := prog_8_method_6_code
def yX6_write : MethodName := ⟨RX6, "write", "(I)I"⟩
abbrev cX6_wipe : ByteArray := prog_8_method_7_code
def yX6_wipe : MethodName := ⟨RX6, "wipe", "()I"⟩
abbrev cX6_figure : ByteArray := prog_8_method_8_code
def yX6_figure : MethodName := ⟨RX6, "figure", "(II)I"⟩
abbrev cX6_readText : ByteArray := prog_8_method_9_code
def yX6_readText : MethodName := ⟨RX6, "readText", "()I"⟩
abbrev cX6_fault : ByteArray := prog_8_method_10_code
def yX6_fault : MethodName := ⟨RX6, "fault", "()I"⟩
abbrev cX6_walk : ByteArray := prog_8_method_11_code
def yX6_walk : MethodName := ⟨RX6, "walk", "()I"⟩
abbrev cX6_isWord : ByteArray := prog_8_method_12_code
def yX6_isWord : MethodName := ⟨RX6, "isWord", "(I)Z"⟩
abbrev cX6_pullAt : ByteArray := prog_8_method_13_code
def yX6_pullAt : MethodName := ⟨RX6, "pullAt", "(II)I"⟩
abbrev cX6_power : ByteArray := prog_8_method_14_code
def yX6_power : MethodName := ⟨RX6, "power", "(III)I"⟩
abbrev cX6_comesBy : ByteArray := prog_8_method_15_code
def yX6_comesBy : MethodName := ⟨RX6, "comesBy", "(IIII)Z"⟩
abbrev cX6_comesNow : ByteArray := prog_8_method_16_code
def yX6_comesNow : MethodName := ⟨RX6, "comesNow", "(II)Z"⟩
abbrev cX6_farOf : ByteArray := prog_8_method_17_code
def yX6_farOf : MethodName := ⟨RX6, "farOf", "(I)I"⟩
abbrev cX6_wears : ByteArray := prog_8_method_18_code
def yX6_wears : MethodName := ⟨RX6, "wears", "(I)I"⟩
abbrev cX6_word : ByteArray := prog_8_method_19_code
def yX6_word : MethodName := ⟨RX6, "word", "(II)I"⟩
abbrev cX6_thing : ByteArray := prog_8_method_20_code
def yX6_thing : MethodName := ⟨RX6, "thing", "(II)I"⟩
abbrev cX6_pull : ByteArray := prog_8_method_21_code
def yX6_pull : MethodName := ⟨RX6, "pull", "(I)I"⟩
abbrev cX6_callOn : ByteArray := prog_8_method_22_code
def yX6_callOn : MethodName := ⟨RX6, "callOn", "(II)Z"⟩
abbrev cX6_canPay : ByteArray := prog_8_method_23_code
def yX6_canPay : MethodName := ⟨RX6, "canPay", "(I)Z"⟩
abbrev cX6_payOn : ByteArray := prog_8_method_24_code
def yX6_payOn : MethodName := ⟨RX6, "payOn", "(I)I"⟩
abbrev cX6_runOn : ByteArray := prog_8_method_25_code
def yX6_runOn : MethodName := ⟨RX6, "runOn", "(II)V"⟩
abbrev cX6_canLead : ByteArray := prog_8_method_26_code
def yX6_canLead : MethodName := ⟨RX6, "canLead", "(I)Z"⟩
abbrev cX6_leadOn : ByteArray := prog_8_method_27_code
def yX6_leadOn : MethodName := ⟨RX6, "leadOn", "(I)V"⟩
abbrev cX6_keepAct : ByteArray := prog_8_method_28_code
def yX6_keepAct : MethodName := ⟨RX6, "keepAct", "()V"⟩
abbrev cX6_call : ByteArray := prog_8_method_29_code
def yX6_call : MethodName := ⟨RX6, "call", "(I)I"⟩
abbrev cX6_pay : ByteArray := prog_8_method_30_code
def yX6_pay : MethodName := ⟨RX6, "pay", "()I"⟩
abbrev cX6_run : ByteArray := prog_8_method_31_code
def yX6_run : MethodName := ⟨RX6, "run", "(I)I"⟩
abbrev cX6_lead : ByteArray := prog_8_method_32_code
def yX6_lead : MethodName := ⟨RX6, "lead", "()I"⟩
abbrev cX6_hunger : ByteArray := prog_8_method_33_code
def yX6_hunger : MethodName := ⟨RX6, "hunger", "()I"⟩
abbrev cX6_undo : ByteArray := prog_8_method_34_code
def yX6_undo : MethodName := ⟨RX6, "undo", "()I"⟩
abbrev cX6_comes : ByteArray := prog_8_method_35_code
def yX6_comes : MethodName := ⟨RX6, "comes", "(II)I"⟩
abbrev cX6_best : ByteArray := prog_8_method_36_code
def yX6_best : MethodName := ⟨RX6, "best", "(I)I"⟩
abbrev cX6_layTrial : ByteArray := prog_8_method_37_code
def yX6_layTrial : MethodName := ⟨RX6, "layTrial", "()V"⟩
abbrev cX6_tenTo : ByteArray := prog_8_method_38_code
def yX6_tenTo : MethodName := ⟨RX6, "tenTo", "(I)I"⟩
abbrev cX6_isRow : ByteArray := prog_8_method_39_code
def yX6_isRow : MethodName := ⟨RX6, "isRow", "(II)Z"⟩
abbrev cX6_fewest : ByteArray := prog_8_method_40_code
def yX6_fewest : MethodName := ⟨RX6, "fewest", "(Z)I"⟩
abbrev cX6_good : ByteArray := prog_8_method_41_code
def yX6_good : MethodName := ⟨RX6, "good", "(II)I"⟩
abbrev cX6_tryThing : ByteArray := prog_8_method_42_code
def yX6_tryThing : MethodName := ⟨RX6, "tryThing", "(I)Z"⟩
abbrev cX6_judge : ByteArray := prog_8_method_43_code
def yX6_judge : MethodName := ⟨RX6, "judge", "(II)I"⟩
abbrev cX6_see : ByteArray := prog_8_method_44_code
def yX6_see : MethodName := ⟨RX6, "see", "(III)I"⟩
abbrev cX6_unsee : ByteArray := prog_8_method_45_code
def yX6_unsee : MethodName := ⟨RX6, "unsee", "()I"⟩
abbrev cX6_may : ByteArray := prog_8_method_46_code
def yX6_may : MethodName := ⟨RX6, "may", "(I)I"⟩
abbrev cX6_factorial : ByteArray := prog_8_method_47_code
def yX6_factorial : MethodName := ⟨RX6, "factorial", "(I)I"⟩
abbrev cX6_common : ByteArray := prog_8_method_48_code
def yX6_common : MethodName := ⟨RX6, "common", "(II)I"⟩
abbrev cX6_reached : ByteArray := prog_8_method_49_code
def yX6_reached : MethodName := ⟨RX6, "reached", "(I)I"⟩
abbrev cX6_share : ByteArray := prog_8_method_50_code
def yX6_share : MethodName := ⟨RX6, "share", "(IZ)I"⟩
abbrev cX6_gain : ByteArray := prog_8_method_51_code
def yX6_gain : MethodName := ⟨RX6, "gain", "(III)I"⟩
abbrev cX6_isRest : ByteArray := prog_8_method_52_code
def yX6_isRest : MethodName := ⟨RX6, "isRest", "(IIII)Z"⟩
abbrev cX6_rests : ByteArray := prog_8_method_53_code
def yX6_rests : MethodName := ⟨RX6, "rests", "(III)I"⟩
abbrev cX6_there : ByteArray := prog_8_method_54_code
def yX6_there : MethodName := ⟨RX6, "there", "(IIZ)I"⟩
abbrev cX6_seed : ByteArray := prog_8_method_55_code
def yX6_seed : MethodName := ⟨RX6, "seed", "(J)J"⟩
abbrev cX6_walks : ByteArray := prog_8_method_56_code
def yX6_walks : MethodName := ⟨RX6, "walks", "(I)I"⟩
abbrev cX6_keep : ByteArray := prog_8_method_57_code
def yX6_keep : MethodName := ⟨RX6, "keep", "(I)I"⟩
abbrev cX6_again : ByteArray := prog_8_method_58_code
def yX6_again : MethodName := ⟨RX6, "again", "(I)I"⟩
abbrev cX6_count : ByteArray := prog_8_method_59_code
def yX6_count : MethodName := ⟨RX6, "count", "(I)I"⟩
def RJ9 : String := "java/lang/Math"
def TJ9 : u_T := fun k => match k with
  | _ => ("", "", "", false)
def tyJ9 : Nat → FieldType := fun k => match k with
  | _ => .int
abbrev wsJ90 : List Cond := u_ws RJ9 TJ9 0
theorem nmJ9 : ∀ a, a < 0 → ∀ b, b < 0 → a ≠ b → (TJ9 a).2.1 ≠ (TJ9 b).2.1 := by decide +kernel
theorem tyJ9_ok : ∀ k, k < 0 → parseFieldDescriptor (TJ9 k).2.2.1 = some (tyJ9 k) := by decide +kernel
abbrev cJ9_abs_0f7a4 : ByteArray := prog_9_method_59_code
def yJ9_abs_0f7a4 : MethodName := ⟨RJ9, "abs", "(I)I"⟩
abbrev cJ9_max_7cf53 : ByteArray := prog_9_method_65_code
def yJ9_max_7cf53 : MethodName := ⟨RJ9, "max", "(II)I"⟩
abbrev cJ9_min_7cf53 : ByteArray := prog_9_method_69_code
def yJ9_min_7cf53 : MethodName := ⟨RJ9, "min", "(II)I"⟩
def RL : String := "WhistleBackLaw"
abbrev cL_law : ByteArray := code
def yL_law : MethodName := ⟨RL, "law", "([I)Z"⟩
abbrev vwCl : List vw_C := [(RX0, TX0, 7), (RX1, TX1, 5), (RX2, TX2, 1), (RX3, TX3, 4), (RX4, TX4, 2), (RX5, TX5, 10), (RX6, TX6, 24)]
