section
-- ===== PART A: goes FIRST, ahead of the names: the tables' words, and 'selects' of the private methods out of them =====
/-- a private method of a class that the tables say can be made, by its rows of tables_1 -/
def lw_okq (q : MethodName × Nat) : Prop := (q.1.cls ≠ "java/lang/invoke/MethodHandle" ∧ q.1.cls ≠ "java/lang/invoke/VarHandle") ∧ Cond.instantiable q.1.cls q.2 ∈ tables_1 ∧ Cond.privateMethod q.1 ∈ tables_1 ∧ Cond.instanceMethod q.1 ∈ tables_1
theorem lw_p0 : lw_okq (⟨"WhistleBack", "tellPart", "(III)V"⟩, 10) := ⟨⟨by decide +kernel, by decide +kernel⟩, List.mem_of_getElem? (i := 10) (by decide +kernel), List.mem_of_getElem? (i := 217) (by decide +kernel), List.mem_of_getElem? (i := 218) (by decide +kernel)⟩
theorem lw_p1 : lw_okq (⟨"WhistleBack", "farOf", "(I)I"⟩, 10) := ⟨⟨by decide +kernel, by decide +kernel⟩, List.mem_of_getElem? (i := 10) (by decide +kernel), List.mem_of_getElem? (i := 289) (by decide +kernel), List.mem_of_getElem? (i := 290) (by decide +kernel)⟩
theorem lw_p2 : lw_okq (⟨"WhistleBack", "spentOf", "(I)I"⟩, 10) := ⟨⟨by decide +kernel, by decide +kernel⟩, List.mem_of_getElem? (i := 10) (by decide +kernel), List.mem_of_getElem? (i := 293) (by decide +kernel), List.mem_of_getElem? (i := 294) (by decide +kernel)⟩
theorem lw_p3 : lw_okq (⟨"WhistleBack", "remember", "()V"⟩, 10) := ⟨⟨by decide +kernel, by decide +kernel⟩, List.mem_of_getElem? (i := 10) (by decide +kernel), List.mem_of_getElem? (i := 319) (by decide +kernel), List.mem_of_getElem? (i := 320) (by decide +kernel)⟩
theorem lw_p4 : lw_okq (⟨"WhistleBack$Shelf", "setNumber", "(II)V"⟩, 1) := ⟨⟨by decide +kernel, by decide +kernel⟩, List.mem_of_getElem? (i := 102) (by decide +kernel), List.mem_of_getElem? (i := 327) (by decide +kernel), List.mem_of_getElem? (i := 328) (by decide +kernel)⟩
theorem lw_p5 : lw_okq (⟨"WhistleBack$Shelf", "numberAt", "(I)I"⟩, 1) := ⟨⟨by decide +kernel, by decide +kernel⟩, List.mem_of_getElem? (i := 102) (by decide +kernel), List.mem_of_getElem? (i := 398) (by decide +kernel), List.mem_of_getElem? (i := 399) (by decide +kernel)⟩
theorem lw_p6 : lw_okq (⟨"WhistleBack", "nthRow", "(II)I"⟩, 10) := ⟨⟨by decide +kernel, by decide +kernel⟩, List.mem_of_getElem? (i := 10) (by decide +kernel), List.mem_of_getElem? (i := 415) (by decide +kernel), List.mem_of_getElem? (i := 416) (by decide +kernel)⟩
theorem lw_p7 : lw_okq (⟨"WhistleBack", "onlyLastBrings", "(II)Z"⟩, 10) := ⟨⟨by decide +kernel, by decide +kernel⟩, List.mem_of_getElem? (i := 10) (by decide +kernel), List.mem_of_getElem? (i := 419) (by decide +kernel), List.mem_of_getElem? (i := 420) (by decide +kernel)⟩
theorem lw_p8 : lw_okq (⟨"WhistleBack", "doesWell", "(LWhistleBack$Dog;I)Z"⟩, 10) := ⟨⟨by decide +kernel, by decide +kernel⟩, List.mem_of_getElem? (i := 10) (by decide +kernel), List.mem_of_getElem? (i := 443) (by decide +kernel), List.mem_of_getElem? (i := 444) (by decide +kernel)⟩
theorem lw_p9 : lw_okq (⟨"WhistleBack$Sights", "holds", "(I)Z"⟩, 4) := ⟨⟨by decide +kernel, by decide +kernel⟩, List.mem_of_getElem? (i := 112) (by decide +kernel), List.mem_of_getElem? (i := 459) (by decide +kernel), List.mem_of_getElem? (i := 460) (by decide +kernel)⟩
theorem lw_p10 : lw_okq (⟨"WhistleBack", "wordsThatBring", "(I)I"⟩, 10) := ⟨⟨by decide +kernel, by decide +kernel⟩, List.mem_of_getElem? (i := 10) (by decide +kernel), List.mem_of_getElem? (i := 481) (by decide +kernel), List.mem_of_getElem? (i := 482) (by decide +kernel)⟩
theorem lw_p11 : lw_okq (⟨"WhistleBack", "isContent", "(III)Z"⟩, 10) := ⟨⟨by decide +kernel, by decide +kernel⟩, List.mem_of_getElem? (i := 10) (by decide +kernel), List.mem_of_getElem? (i := 495) (by decide +kernel), List.mem_of_getElem? (i := 496) (by decide +kernel)⟩
theorem lw_p12 : lw_okq (⟨"WhistleBack", "gainOf", "(III)I"⟩, 10) := ⟨⟨by decide +kernel, by decide +kernel⟩, List.mem_of_getElem? (i := 10) (by decide +kernel), List.mem_of_getElem? (i := 499) (by decide +kernel), List.mem_of_getElem? (i := 500) (by decide +kernel)⟩
theorem lw_p13 : lw_okq (⟨"WhistleBack", "weightOf", "(II)I"⟩, 10) := ⟨⟨by decide +kernel, by decide +kernel⟩, List.mem_of_getElem? (i := 10) (by decide +kernel), List.mem_of_getElem? (i := 507) (by decide +kernel), List.mem_of_getElem? (i := 508) (by decide +kernel)⟩
theorem lw_p14 : lw_okq (⟨"WhistleBack", "returnsFrom", "(LWhistleBack$Dog;I)Z"⟩, 10) := ⟨⟨by decide +kernel, by decide +kernel⟩, List.mem_of_getElem? (i := 10) (by decide +kernel), List.mem_of_getElem? (i := 522) (by decide +kernel), List.mem_of_getElem? (i := 523) (by decide +kernel)⟩
theorem lw_p15 : lw_okq (⟨"WhistleBack", "isNoSlot", "(I)Z"⟩, 10) := ⟨⟨by decide +kernel, by decide +kernel⟩, List.mem_of_getElem? (i := 10) (by decide +kernel), List.mem_of_getElem? (i := 530) (by decide +kernel), List.mem_of_getElem? (i := 531) (by decide +kernel)⟩
def lw_privs_1 : List (MethodName × Nat) := [(⟨"WhistleBack", "tellPart", "(III)V"⟩, 10), (⟨"WhistleBack", "farOf", "(I)I"⟩, 10), (⟨"WhistleBack", "spentOf", "(I)I"⟩, 10), (⟨"WhistleBack", "remember", "()V"⟩, 10), (⟨"WhistleBack$Shelf", "setNumber", "(II)V"⟩, 1), (⟨"WhistleBack$Shelf", "numberAt", "(I)I"⟩, 1), (⟨"WhistleBack", "nthRow", "(II)I"⟩, 10), (⟨"WhistleBack", "onlyLastBrings", "(II)Z"⟩, 10), (⟨"WhistleBack", "doesWell", "(LWhistleBack$Dog;I)Z"⟩, 10), (⟨"WhistleBack$Sights", "holds", "(I)Z"⟩, 4), (⟨"WhistleBack", "wordsThatBring", "(I)I"⟩, 10), (⟨"WhistleBack", "isContent", "(III)Z"⟩, 10), (⟨"WhistleBack", "gainOf", "(III)I"⟩, 10), (⟨"WhistleBack", "weightOf", "(II)I"⟩, 10), (⟨"WhistleBack", "returnsFrom", "(LWhistleBack$Dog;I)Z"⟩, 10), (⟨"WhistleBack", "isNoSlot", "(I)Z"⟩, 10)]
theorem lw_r1 : ∀ q ∈ lw_privs_1, lw_okq q := List.forall_mem_cons.mpr ⟨lw_p0, List.forall_mem_cons.mpr ⟨lw_p1, List.forall_mem_cons.mpr ⟨lw_p2, List.forall_mem_cons.mpr ⟨lw_p3, List.forall_mem_cons.mpr ⟨lw_p4, List.forall_mem_cons.mpr ⟨lw_p5, List.forall_mem_cons.mpr ⟨lw_p6, List.forall_mem_cons.mpr ⟨lw_p7, List.forall_mem_cons.mpr ⟨lw_p8, List.forall_mem_cons.mpr ⟨lw_p9, List.forall_mem_cons.mpr ⟨lw_p10, List.forall_mem_cons.mpr ⟨lw_p11, List.forall_mem_cons.mpr ⟨lw_p12, List.forall_mem_cons.mpr ⟨lw_p13, List.forall_mem_cons.mpr ⟨lw_p14, List.forall_mem_cons.mpr ⟨lw_p15, fun _ h => absurd h List.not_mem_nil⟩⟩⟩⟩⟩⟩⟩⟩⟩⟩⟩⟩⟩⟩⟩⟩
theorem lw_p16 : lw_okq (⟨"WhistleBackModel", "readText", "()I"⟩, 24) := ⟨⟨by decide +kernel, by decide +kernel⟩, List.mem_of_getElem? (i := 542) (by decide +kernel), List.mem_of_getElem? (i := 637) (by decide +kernel), List.mem_of_getElem? (i := 638) (by decide +kernel)⟩
theorem lw_p17 : lw_okq (⟨"WhistleBackModel", "figure", "(II)I"⟩, 24) := ⟨⟨by decide +kernel, by decide +kernel⟩, List.mem_of_getElem? (i := 542) (by decide +kernel), List.mem_of_getElem? (i := 641) (by decide +kernel), List.mem_of_getElem? (i := 642) (by decide +kernel)⟩
theorem lw_p18 : lw_okq (⟨"WhistleBackModel", "isWord", "(I)Z"⟩, 24) := ⟨⟨by decide +kernel, by decide +kernel⟩, List.mem_of_getElem? (i := 542) (by decide +kernel), List.mem_of_getElem? (i := 653) (by decide +kernel), List.mem_of_getElem? (i := 654) (by decide +kernel)⟩
theorem lw_p19 : lw_okq (⟨"WhistleBackModel", "power", "(III)I"⟩, 24) := ⟨⟨by decide +kernel, by decide +kernel⟩, List.mem_of_getElem? (i := 542) (by decide +kernel), List.mem_of_getElem? (i := 657) (by decide +kernel), List.mem_of_getElem? (i := 658) (by decide +kernel)⟩
theorem lw_p20 : lw_okq (⟨"WhistleBackModel", "comesNow", "(II)Z"⟩, 24) := ⟨⟨by decide +kernel, by decide +kernel⟩, List.mem_of_getElem? (i := 542) (by decide +kernel), List.mem_of_getElem? (i := 661) (by decide +kernel), List.mem_of_getElem? (i := 662) (by decide +kernel)⟩
theorem lw_p21 : lw_okq (⟨"WhistleBackModel", "comesBy", "(IIII)Z"⟩, 24) := ⟨⟨by decide +kernel, by decide +kernel⟩, List.mem_of_getElem? (i := 542) (by decide +kernel), List.mem_of_getElem? (i := 665) (by decide +kernel), List.mem_of_getElem? (i := 666) (by decide +kernel)⟩
theorem lw_p22 : lw_okq (⟨"WhistleBackModel", "pullAt", "(II)I"⟩, 24) := ⟨⟨by decide +kernel, by decide +kernel⟩, List.mem_of_getElem? (i := 542) (by decide +kernel), List.mem_of_getElem? (i := 669) (by decide +kernel), List.mem_of_getElem? (i := 670) (by decide +kernel)⟩
theorem lw_p23 : lw_okq (⟨"WhistleBackModel", "farOf", "(I)I"⟩, 24) := ⟨⟨by decide +kernel, by decide +kernel⟩, List.mem_of_getElem? (i := 542) (by decide +kernel), List.mem_of_getElem? (i := 676) (by decide +kernel), List.mem_of_getElem? (i := 677) (by decide +kernel)⟩
theorem lw_p24 : lw_okq (⟨"WhistleBackModel", "wears", "(I)I"⟩, 24) := ⟨⟨by decide +kernel, by decide +kernel⟩, List.mem_of_getElem? (i := 542) (by decide +kernel), List.mem_of_getElem? (i := 680) (by decide +kernel), List.mem_of_getElem? (i := 681) (by decide +kernel)⟩
theorem lw_p25 : lw_okq (⟨"WhistleBackModel", "keepAct", "()V"⟩, 24) := ⟨⟨by decide +kernel, by decide +kernel⟩, List.mem_of_getElem? (i := 542) (by decide +kernel), List.mem_of_getElem? (i := 697) (by decide +kernel), List.mem_of_getElem? (i := 698) (by decide +kernel)⟩
theorem lw_p26 : lw_okq (⟨"WhistleBackModel", "callOn", "(II)Z"⟩, 24) := ⟨⟨by decide +kernel, by decide +kernel⟩, List.mem_of_getElem? (i := 542) (by decide +kernel), List.mem_of_getElem? (i := 701) (by decide +kernel), List.mem_of_getElem? (i := 702) (by decide +kernel)⟩
theorem lw_p27 : lw_okq (⟨"WhistleBackModel", "canPay", "(I)Z"⟩, 24) := ⟨⟨by decide +kernel, by decide +kernel⟩, List.mem_of_getElem? (i := 542) (by decide +kernel), List.mem_of_getElem? (i := 709) (by decide +kernel), List.mem_of_getElem? (i := 710) (by decide +kernel)⟩
theorem lw_p28 : lw_okq (⟨"WhistleBackModel", "payOn", "(I)I"⟩, 24) := ⟨⟨by decide +kernel, by decide +kernel⟩, List.mem_of_getElem? (i := 542) (by decide +kernel), List.mem_of_getElem? (i := 713) (by decide +kernel), List.mem_of_getElem? (i := 714) (by decide +kernel)⟩
theorem lw_p29 : lw_okq (⟨"WhistleBackModel", "runOn", "(II)V"⟩, 24) := ⟨⟨by decide +kernel, by decide +kernel⟩, List.mem_of_getElem? (i := 542) (by decide +kernel), List.mem_of_getElem? (i := 721) (by decide +kernel), List.mem_of_getElem? (i := 722) (by decide +kernel)⟩
theorem lw_p30 : lw_okq (⟨"WhistleBackModel", "canLead", "(I)Z"⟩, 24) := ⟨⟨by decide +kernel, by decide +kernel⟩, List.mem_of_getElem? (i := 542) (by decide +kernel), List.mem_of_getElem? (i := 729) (by decide +kernel), List.mem_of_getElem? (i := 730) (by decide +kernel)⟩
theorem lw_p31 : lw_okq (⟨"WhistleBackModel", "leadOn", "(I)V"⟩, 24) := ⟨⟨by decide +kernel, by decide +kernel⟩, List.mem_of_getElem? (i := 542) (by decide +kernel), List.mem_of_getElem? (i := 733) (by decide +kernel), List.mem_of_getElem? (i := 734) (by decide +kernel)⟩
def lw_privs_2 : List (MethodName × Nat) := [(⟨"WhistleBackModel", "readText", "()I"⟩, 24), (⟨"WhistleBackModel", "figure", "(II)I"⟩, 24), (⟨"WhistleBackModel", "isWord", "(I)Z"⟩, 24), (⟨"WhistleBackModel", "power", "(III)I"⟩, 24), (⟨"WhistleBackModel", "comesNow", "(II)Z"⟩, 24), (⟨"WhistleBackModel", "comesBy", "(IIII)Z"⟩, 24), (⟨"WhistleBackModel", "pullAt", "(II)I"⟩, 24), (⟨"WhistleBackModel", "farOf", "(I)I"⟩, 24), (⟨"WhistleBackModel", "wears", "(I)I"⟩, 24), (⟨"WhistleBackModel", "keepAct", "()V"⟩, 24), (⟨"WhistleBackModel", "callOn", "(II)Z"⟩, 24), (⟨"WhistleBackModel", "canPay", "(I)Z"⟩, 24), (⟨"WhistleBackModel", "payOn", "(I)I"⟩, 24), (⟨"WhistleBackModel", "runOn", "(II)V"⟩, 24), (⟨"WhistleBackModel", "canLead", "(I)Z"⟩, 24), (⟨"WhistleBackModel", "leadOn", "(I)V"⟩, 24)]
theorem lw_r2 : ∀ q ∈ lw_privs_2, lw_okq q := List.forall_mem_cons.mpr ⟨lw_p16, List.forall_mem_cons.mpr ⟨lw_p17, List.forall_mem_cons.mpr ⟨lw_p18, List.forall_mem_cons.mpr ⟨lw_p19, List.forall_mem_cons.mpr ⟨lw_p20, List.forall_mem_cons.mpr ⟨lw_p21, List.forall_mem_cons.mpr ⟨lw_p22, List.forall_mem_cons.mpr ⟨lw_p23, List.forall_mem_cons.mpr ⟨lw_p24, List.forall_mem_cons.mpr ⟨lw_p25, List.forall_mem_cons.mpr ⟨lw_p26, List.forall_mem_cons.mpr ⟨lw_p27, List.forall_mem_cons.mpr ⟨lw_p28, List.forall_mem_cons.mpr ⟨lw_p29, List.forall_mem_cons.mpr ⟨lw_p30, List.forall_mem_cons.mpr ⟨lw_p31, fun _ h => absurd h List.not_mem_nil⟩⟩⟩⟩⟩⟩⟩⟩⟩⟩⟩⟩⟩⟩⟩⟩
theorem lw_p32 : lw_okq (⟨"WhistleBackModel", "isRow", "(II)Z"⟩, 24) := ⟨⟨by decide +kernel, by decide +kernel⟩, List.mem_of_getElem? (i := 542) (by decide +kernel), List.mem_of_getElem? (i := 760) (by decide +kernel), List.mem_of_getElem? (i := 761) (by decide +kernel)⟩
theorem lw_p33 : lw_okq (⟨"WhistleBackModel", "layTrial", "()V"⟩, 24) := ⟨⟨by decide +kernel, by decide +kernel⟩, List.mem_of_getElem? (i := 542) (by decide +kernel), List.mem_of_getElem? (i := 764) (by decide +kernel), List.mem_of_getElem? (i := 765) (by decide +kernel)⟩
theorem lw_p34 : lw_okq (⟨"WhistleBackModel", "tryThing", "(I)Z"⟩, 24) := ⟨⟨by decide +kernel, by decide +kernel⟩, List.mem_of_getElem? (i := 542) (by decide +kernel), List.mem_of_getElem? (i := 777) (by decide +kernel), List.mem_of_getElem? (i := 778) (by decide +kernel)⟩
theorem lw_p35 : lw_okq (⟨"WhistleBackModel", "reached", "(I)I"⟩, 24) := ⟨⟨by decide +kernel, by decide +kernel⟩, List.mem_of_getElem? (i := 542) (by decide +kernel), List.mem_of_getElem? (i := 803) (by decide +kernel), List.mem_of_getElem? (i := 804) (by decide +kernel)⟩
theorem lw_p36 : lw_okq (⟨"WhistleBackModel", "isRest", "(IIII)Z"⟩, 24) := ⟨⟨by decide +kernel, by decide +kernel⟩, List.mem_of_getElem? (i := 542) (by decide +kernel), List.mem_of_getElem? (i := 814) (by decide +kernel), List.mem_of_getElem? (i := 815) (by decide +kernel)⟩
theorem lw_p37 : lw_okq (⟨"WhistleBackModel", "gain", "(III)I"⟩, 24) := ⟨⟨by decide +kernel, by decide +kernel⟩, List.mem_of_getElem? (i := 542) (by decide +kernel), List.mem_of_getElem? (i := 818) (by decide +kernel), List.mem_of_getElem? (i := 819) (by decide +kernel)⟩
def lw_privs_3 : List (MethodName × Nat) := [(⟨"WhistleBackModel", "isRow", "(II)Z"⟩, 24), (⟨"WhistleBackModel", "layTrial", "()V"⟩, 24), (⟨"WhistleBackModel", "tryThing", "(I)Z"⟩, 24), (⟨"WhistleBackModel", "reached", "(I)I"⟩, 24), (⟨"WhistleBackModel", "isRest", "(IIII)Z"⟩, 24), (⟨"WhistleBackModel", "gain", "(III)I"⟩, 24)]
theorem lw_r3 : ∀ q ∈ lw_privs_3, lw_okq q := List.forall_mem_cons.mpr ⟨lw_p32, List.forall_mem_cons.mpr ⟨lw_p33, List.forall_mem_cons.mpr ⟨lw_p34, List.forall_mem_cons.mpr ⟨lw_p35, List.forall_mem_cons.mpr ⟨lw_p36, List.forall_mem_cons.mpr ⟨lw_p37, fun _ h => absurd h List.not_mem_nil⟩⟩⟩⟩⟩⟩
def lw_privs : List (MethodName × Nat) := lw_privs_1 ++ (lw_privs_2 ++ (lw_privs_3))
def lw_tbl : List Cond := k2_sels lw_privs ++ tables_1
theorem lw_privs_ok : ∀ q ∈ lw_privs, lw_okq q := by
  show ∀ q ∈ lw_privs_1 ++ (lw_privs_2 ++ (lw_privs_3)), lw_okq q
  exact List.forall_mem_append.mpr ⟨lw_r1, List.forall_mem_append.mpr ⟨lw_r2, lw_r3⟩⟩
def RX0 : String := "WhistleBack$Dog"
def TX0 : u_T := fun k => match k with
  | 0 => ("WhistleBack$Dog", "strengths", "[I", true)
  | 1 => ("WhistleBack$Dog", "cheese", "I", false)
  | 2 => ("WhistleBack$Dog", "yards", "I", false)
  | 3 => ("WhistleBack$Dog", "owed", "I", false)
  | 4 => ("WhistleBack$Dog", "calls", "I", false)
  | 5 => ("WhistleBack$Dog", "hungry", "Z", false)
  | _ => ("WhistleBack$Dog", "onLead", "Z", false)
def tyX0 : Nat → FieldType := fun k => match k with
  | 0 => .array .int
  | 1 => .int
  | 2 => .int
  | 3 => .int
  | 4 => .int
  | 5 => .boolean
  | _ => .boolean
abbrev wsX00 : List Cond := u_ws RX0 TX0 7
theorem nmX0 : ∀ a, a < 7 → ∀ b, b < 7 → a ≠ b → (TX0 a).2.1 ≠ (TX0 b).2.1 := by decide +kernel
theorem tyX0_ok : ∀ k, k < 7 → parseFieldDescriptor (TX0 k).2.2.1 = some (tyX0 k) := by decide +kernel
abbrev cX0_init : ByteArray := prog_2_method_1_code
def yX0_init : MethodName := ⟨RX0, "<init>", "()V"⟩
abbrev cX0_startAnew : ByteArray := prog_2_method_2_code
def yX0_startAnew : MethodName := ⟨RX0, "startAnew", "(II)V"⟩
abbrev cX0_copyFrom : ByteArray := prog_2_method_3_code
def yX0_copyFrom : MethodName := ⟨RX0, "copyFrom", "(LWhistleBack$Dog;)V"⟩
abbrev cX0_strengthOf : ByteArray := prog_2_method_4_code
def yX0_strengthOf : MethodName := ⟨RX0, "strengthOf", "(I)I"⟩
abbrev cX0_setStrength : ByteArray := prog_2_method_5_code
def yX0_setStrength : MethodName := ⟨RX0, "setStrength", "(II)V"⟩
abbrev cX0_addStrength : ByteArray := prog_2_method_6_code
def yX0_addStrength : MethodName := ⟨RX0, "addStrength", "(II)V"⟩
abbrev cX0_runOff : ByteArray := prog_2_method_7_code
def yX0_runOff : MethodName := ⟨RX0, "runOff", "(I)V"⟩
abbrev cX0_canBePaid : ByteArray := prog_2_method_8_code
def yX0_canBePaid : MethodName := ⟨RX0, "canBePaid", "()Z"⟩
abbrev cX0_bePaid : ByteArray := prog_2_method_9_code
def yX0_bePaid : MethodName := ⟨RX0, "bePaid", "()V"⟩
abbrev cX0_canBeLed : ByteArray := prog_2_method_10_code
def yX0_canBeLed : MethodName := ⟨RX0, "canBeLed", "()Z"⟩
def RX1 : String := "WhistleBack$Fields"
def TX1 : u_T := fun k => match k with
  | 0 => ("WhistleBack$Fields", "kinds", "[I", true)
  | 1 => ("WhistleBack$Fields", "spots", "[I", true)
  | 2 => ("WhistleBack$Fields", "tugs", "[I", true)
  | 3 => ("WhistleBack$Fields", "words", "I", false)
  | _ => ("WhistleBack$Fields", "things", "I", false)
def tyX1 : Nat → FieldType := fun k => match k with
  | 0 => .array .int
  | 1 => .array .int
  | 2 => .array .int
  | 3 => .int
  | _ => .int
abbrev wsX10 : List Cond := u_ws RX1 TX1 5
theorem nmX1 : ∀ a, a < 5 → ∀ b, b < 5 → a ≠ b → (TX1 a).2.1 ≠ (TX1 b).2.1 := by decide +kernel
theorem tyX1_ok : ∀ k, k < 5 → parseFieldDescriptor (TX1 k).2.2.1 = some (tyX1 k) := by decide +kernel
abbrev cX1_init : ByteArray := prog_3_method_1_code
def yX1_init : MethodName := ⟨RX1, "<init>", "()V"⟩
abbrev cX1_clear : ByteArray := prog_3_method_2_code
def yX1_clear : MethodName := ⟨RX1, "clear", "()V"⟩
abbrev cX1_addWord : ByteArray := prog_3_method_3_code
def yX1_addWord : MethodName := ⟨RX1, "addWord", "(I)V"⟩
abbrev cX1_addThing : ByteArray := prog_3_method_4_code
def yX1_addThing : MethodName := ⟨RX1, "addThing", "(II)V"⟩
abbrev cX1_hasWord : ByteArray := prog_3_method_5_code
def yX1_hasWord : MethodName := ⟨RX1, "hasWord", "(I)Z"⟩
abbrev cX1_hasThing : ByteArray := prog_3_method_6_code
def yX1_hasThing : MethodName := ⟨RX1, "hasThing", "(I)Z"⟩
abbrev cX1_kindOf : ByteArray := prog_3_method_7_code
def yX1_kindOf : MethodName := ⟨RX1, "kindOf", "(I)I"⟩
abbrev cX1_spotOf : ByteArray := prog_3_method_8_code
def yX1_spotOf : MethodName := ⟨RX1, "spotOf", "(I)I"⟩
abbrev cX1_tugOf : ByteArray := prog_3_method_9_code
def yX1_tugOf : MethodName := ⟨RX1, "tugOf", "(I)I"⟩
abbrev cX1_pullAt : ByteArray := prog_3_method_10_code
def yX1_pullAt : MethodName := ⟨RX1, "pullAt", "(II)I"⟩
abbrev cX1_powerWith : ByteArray := prog_3_method_11_code
def yX1_powerWith : MethodName := ⟨RX1, "powerWith", "(IIZI)I"⟩
abbrev cX1_powerOf : ByteArray := prog_3_method_12_code
def yX1_powerOf : MethodName := ⟨RX1, "powerOf", "(LWhistleBack$Dog;II)I"⟩
abbrev cX1_isEnough : ByteArray := prog_3_method_13_code
def yX1_isEnough : MethodName := ⟨RX1, "isEnough", "(III)Z"⟩
abbrev cX1_brings : ByteArray := prog_3_method_14_code
def yX1_brings : MethodName := ⟨RX1, "brings", "(LWhistleBack$Dog;II)Z"⟩
abbrev cX1_callHim : ByteArray := prog_3_method_15_code
def yX1_callHim : MethodName := ⟨RX1, "callHim", "(LWhistleBack$Dog;I)Z"⟩
abbrev cX1_leash : ByteArray := prog_3_method_16_code
def yX1_leash : MethodName := ⟨RX1, "leash", "(LWhistleBack$Dog;)V"⟩
def RX2 : String := "WhistleBack$Shelf"
def TX2 : u_T := fun k => match k with
  | _ => ("WhistleBack$Shelf", "numbers", "[I", true)
def tyX2 : Nat → FieldType := fun k => match k with
  | _ => .array .int
abbrev wsX20 : List Cond := u_ws RX2 TX2 1
theorem nmX2 : ∀ a, a < 1 → ∀ b, b < 1 → a ≠ b → (TX2 a).2.1 ≠ (TX2 b).2.1 := by decide +kernel
theorem tyX2_ok : ∀ k, k < 1 → parseFieldDescriptor (TX2 k).2.2.1 = some (tyX2 k) := by decide +kernel
abbrev cX2_init : ByteArray := prog_4_method_1_code
def yX2_init : MethodName := ⟨RX2, "<init>", "(I)V"⟩
abbrev cX2_numberAt : ByteArray := prog_4_method_2_code
def yX2_numberAt : MethodName := ⟨RX2, "numberAt", "(I)I"⟩
abbrev cX2_setNumber : ByteArray := prog_4_method_3_code
def yX2_setNumber : MethodName := ⟨RX2, "setNumber", "(II)V"⟩
abbrev cX2_put : ByteArray := prog_4_method_4_code
def yX2_put : MethodName := ⟨RX2, "put", "(ILWhistleBack$Dog;)V"⟩
abbrev cX2_take : ByteArray := prog_4_method_5_code
def yX2_take : MethodName := ⟨RX2, "take", "(ILWhistleBack$Dog;)V"⟩
abbrev cX2_dropFirst : ByteArray := prog_4_method_6_code
def yX2_dropFirst : MethodName := ⟨RX2, "dropFirst", "()V"⟩
def RX3 : String := "WhistleBack$Sights"
def TX3 : u_T := fun k => match k with
  | 0 => ("WhistleBack$Sights", "ofWord", "[I", true)
  | 1 => ("WhistleBack$Sights", "fromYards", "[I", true)
  | 2 => ("WhistleBack$Sights", "cameThen", "[Z", true)
  | _ => ("WhistleBack$Sights", "size", "I", false)
def tyX3 : Nat → FieldType := fun k => match k with
  | 0 => .array .int
  | 1 => .array .int
  | 2 => .array .boolean
  | _ => .int
abbrev wsX30 : List Cond := u_ws RX3 TX3 4
theorem nmX3 : ∀ a, a < 4 → ∀ b, b < 4 → a ≠ b → (TX3 a).2.1 ≠ (TX3 b).2.1 := by decide +kernel
theorem tyX3_ok : ∀ k, k < 4 → parseFieldDescriptor (TX3 k).2.2.1 = some (tyX3 k) := by decide +kernel
abbrev cX3_init : ByteArray := prog_5_method_1_code
def yX3_init : MethodName := ⟨RX3, "<init>", "()V"⟩
abbrev cX3_isFull : ByteArray := prog_5_method_2_code
def yX3_isFull : MethodName := ⟨RX3, "isFull", "()Z"⟩
abbrev cX3_add : ByteArray := prog_5_method_3_code
def yX3_add : MethodName := ⟨RX3, "add", "(IIZ)V"⟩
abbrev cX3_holds : ByteArray := prog_5_method_4_code
def yX3_holds : MethodName := ⟨RX3, "holds", "(I)Z"⟩
abbrev cX3_agree : ByteArray := prog_5_method_5_code
def yX3_agree : MethodName := ⟨RX3, "agree", "(LWhistleBack$Fields;IIZ)Z"⟩
def RX4 : String := "WhistleBack$Text"
def TX4 : u_T := fun k => match k with
  | 0 => ("WhistleBack$Text", "letters", "[I", true)
  | _ => ("WhistleBack$Text", "size", "I", false)
def tyX4 : Nat → FieldType := fun k => match k with
  | 0 => .array .int
  | _ => .int
abbrev wsX40 : List Cond := u_ws RX4 TX4 2
theorem nmX4 : ∀ a, a < 2 → ∀ b, b < 2 → a ≠ b → (TX4 a).2.1 ≠ (TX4 b).2.1 := by decide +kernel
theorem tyX4_ok : ∀ k, k < 2 → parseFieldDescriptor (TX4 k).2.2.1 = some (tyX4 k) := by decide +kernel
abbrev cX4_init : ByteArray := prog_6_method_1_code
def yX4_init : MethodName := ⟨RX4, "<init>", "()V"⟩
abbrev cX4_isFull : ByteArray := prog_6_method_2_code
def yX4_isFull : MethodName := ⟨RX4, "isFull", "()Z"⟩
abbrev cX4_append : ByteArray := prog_6_method_3_code
def yX4_append : MethodName := ⟨RX4, "append", "(I)V"⟩
abbrev cX4_letterAt : ByteArray := prog_6_method_4_code
def yX4_letterAt : MethodName := ⟨RX4, "letterAt", "(I)I"⟩
abbrev cX4_figureAt : ByteArray := prog_6_method_5_code
def yX4_figureAt : MethodName := ⟨RX4, "figureAt", "(I)I"⟩
abbrev cX4_firstFault : ByteArray := prog_6_method_6_code
def yX4_firstFault : MethodName := ⟨RX4, "firstFault", "()I"⟩
abbrev cX4_fits : ByteArray := prog_6_method_7_code
def yX4_fits : MethodName := ⟨RX4, "fits", "(III)Z"⟩
abbrev cX4_endsPart : ByteArray := prog_6_method_8_code
def yX4_endsPart : MethodName := ⟨RX4, "endsPart", "(II)Z"⟩
def RX5 : String := "WhistleBack"
def TX5 : u_T := fun k => match k with
  | 0 => ("WhistleBack", "text", "LWhistleBack$Text;", true)
  | 1 => ("WhistleBack", "fields", "LWhistleBack$Fields;", true)
  | 2 => ("WhistleBack", "dog", "LWhistleBack$Dog;", true)
  | 3 => ("WhistleBack", "trial", "LWhistleBack$Dog;", true)
  | 4 => ("WhistleBack", "acts", "LWhistleBack$Shelf;", true)
  | 5 => ("WhistleBack", "actsInRow", "I", false)
  | 6 => ("WhistleBack", "slots", "LWhistleBack$Shelf;", true)
  | 7 => ("WhistleBack", "kept", "[Z", true)
  | 8 => ("WhistleBack", "sights", "LWhistleBack$Sights;", true)
  | _ => ("WhistleBack", "theSeed", "J", false)
def tyX5 : Nat → FieldType := fun k => match k with
  | 0 => .object "WhistleBack$Text"
  | 1 => .object "WhistleBack$Fields"
  | 2 => .object "WhistleBack$Dog"
  | 3 => .object "WhistleBack$Dog"
  | 4 => .object "WhistleBack$Shelf"
  | 5 => .int
  | 6 => .object "WhistleBack$Shelf"
  | 7 => .array .boolean
  | 8 => .object "WhistleBack$Sights"
  | _ => .long
abbrev wsX50 : List Cond := u_ws RX5 TX5 10
theorem nmX5 : ∀ a, a < 10 → ∀ b, b < 10 → a ≠ b → (TX5 a).2.1 ≠ (TX5 b).2.1 := by decide +kernel
theorem tyX5_ok : ∀ k, k < 10 → parseFieldDescriptor (TX5 k).2.2.1 = some (tyX5 k) := by decide +kernel
abbrev cX5_init : ByteArray := prog_1_method_1_code
def yX5_init : MethodName := ⟨RX5, "<init>", "()V"⟩
abbrev cX5_write : ByteArray := prog_1_method_2_code
def yX5_write : MethodName := ⟨RX5, "write", "(I)I"⟩
abbrev cX5_wipe : ByteArray := prog_1_method_3_code
def yX5_wipe : MethodName := ⟨RX5, "wipe", "()I"⟩
abbrev cX5_fault : ByteArray := prog_1_method_4_code
def yX5_fault : MethodName := ⟨RX5, "fault", "()I"⟩
abbrev cX5_walk : ByteArray := prog_1_method_5_code
def yX5_walk : MethodName := ⟨RX5, "walk", "()I"⟩
abbrev cX5_tellPart : ByteArray := prog_1_method_6_code
def yX5_tellPart : MethodName := ⟨RX5, "tellPart", "(III)V"⟩
abbrev cX5_word : ByteArray := prog_1_method_7_code
def yX5_word : MethodName := ⟨RX5, "word", "(II)I"⟩
abbrev cX5_farOf : ByteArray := prog_1_method_8_code
def yX5_farOf : MethodName := ⟨RX5, "farOf", "(I)I"⟩
abbrev cX5_spentOf : ByteArray := prog_1_method_9_code
def yX5_spentOf : MethodName := ⟨RX5, "spentOf", "(I)I"⟩
abbrev cX5_thing : ByteArray := prog_1_method_10_code
def yX5_thing : MethodName := ⟨RX5, "thing", "(II)I"⟩
abbrev cX5_pull : ByteArray := prog_1_method_11_code
def yX5_pull : MethodName := ⟨RX5, "pull", "(I)I"⟩
abbrev cX5_call : ByteArray := prog_1_method_12_code
def yX5_call : MethodName := ⟨RX5, "call", "(I)I"⟩
abbrev cX5_pay : ByteArray := prog_1_method_13_code
def yX5_pay : MethodName := ⟨RX5, "pay", "()I"⟩
abbrev cX5_run : ByteArray := prog_1_method_14_code
def yX5_run : MethodName := ⟨RX5, "run", "(I)I"⟩
abbrev cX5_lead : ByteArray := prog_1_method_15_code
def yX5_lead : MethodName := ⟨RX5, "lead", "()I"⟩
abbrev cX5_hunger : ByteArray := prog_1_method_16_code
def yX5_hunger : MethodName := ⟨RX5, "hunger", "()I"⟩
abbrev cX5_undo : ByteArray := prog_1_method_17_code
def yX5_undo : MethodName := ⟨RX5, "undo", "()I"⟩
abbrev cX5_remember : ByteArray := prog_1_method_18_code
def yX5_remember : MethodName := ⟨RX5, "remember", "()V"⟩
abbrev cX5_comes : ByteArray := prog_1_method_19_code
def yX5_comes : MethodName := ⟨RX5, "comes", "(II)I"⟩
abbrev cX5_best : ByteArray := prog_1_method_20_code
def yX5_best : MethodName := ⟨RX5, "best", "(I)I"⟩
abbrev cX5_fewest : ByteArray := prog_1_method_21_code
def yX5_fewest : MethodName := ⟨RX5, "fewest", "(Z)I"⟩
abbrev cX5_nthRow : ByteArray := prog_1_method_22_code
def yX5_nthRow : MethodName := ⟨RX5, "nthRow", "(II)I"⟩
abbrev cX5_onlyLastBrings : ByteArray := prog_1_method_23_code
def yX5_onlyLastBrings : MethodName := ⟨RX5, "onlyLastBrings", "(II)Z"⟩
abbrev cX5_good : ByteArray := prog_1_method_24_code
def yX5_good : MethodName := ⟨RX5, "good", "(II)I"⟩
abbrev cX5_judge : ByteArray := prog_1_method_25_code
def yX5_judge : MethodName := ⟨RX5, "judge", "(II)I"⟩
abbrev cX5_doesWell : ByteArray := prog_1_method_26_code
def yX5_doesWell : MethodName := ⟨RX5, "doesWell", "(LWhistleBack$Dog;I)Z"⟩
abbrev cX5_see : ByteArray := prog_1_method_27_code
def yX5_see : MethodName := ⟨RX5, "see", "(III)I"⟩
abbrev cX5_unsee : ByteArray := prog_1_method_28_code
def yX5_unsee : MethodName := ⟨RX5, "unsee", "()I"⟩
abbrev cX5_may : ByteArray := prog_1_method_29_code
def yX5_may : MethodName := ⟨RX5, "may", "(I)I"⟩
abbrev cX5_share : ByteArray := prog_1_method_30_code
def yX5_share : MethodName := ⟨RX5, "share", "(IZ)I"⟩
abbrev cX5_wordsThatBring : ByteArray := prog_1_method_31_code
def yX5_wordsThatBring : MethodName := ⟨RX5, "wordsThatBring", "(I)I"⟩
abbrev cX5_rests : ByteArray := prog_1_method_32_code
def yX5_rests : MethodName := ⟨RX5, "rests", "(III)I"⟩
abbrev cX5_isContent : ByteArray := prog_1_method_33_code
def yX5_isContent : MethodName := ⟨RX5, "isContent", "(III)Z"⟩
abbrev cX5_gainOf : ByteArray := prog_1_method_34_code
def yX5_gainOf : MethodName := ⟨RX5, "gainOf", "(III)I"⟩
abbrev cX5_there : ByteArray := prog_1_method_35_code
def yX5_there : MethodName := ⟨RX5, "there", "(IIZ)I"⟩
abbrev cX5_weightOf : ByteArray := prog_1_method_36_code
def yX5_weightOf : MethodName := ⟨RX5, "weightOf", "(II)I"⟩
abbrev cX5_seed : ByteArray := prog_1_method_37_code
def yX5_seed : MethodName := ⟨RX5, "seed", "(J)J"⟩
abbrev cX5_walks : ByteArray := prog_1_method_38_code
def yX5_walks : MethodName := ⟨RX5, "walks", "(I)I"⟩
abbrev cX5_returnsFrom : ByteArray := prog_1_method_39_code
def yX5_returnsFrom : MethodName := ⟨RX5, "returnsFrom", "(LWhistleBack$Dog;I)Z"⟩
abbrev cX5_keep : ByteArray := prog_1_method_40_code
def yX5_keep : MethodName := ⟨RX5, "keep", "(I)I"⟩
abbrev cX5_again : ByteArray := prog_1_method_41_code
def yX5_again : MethodName := ⟨RX5, "again", "(I)I"⟩
abbrev cX5_isNoSlot : ByteArray := prog_1_method_42_code
def yX5_isNoSlot : MethodName := ⟨RX5, "isNoSlot", "(I)Z"⟩
abbrev cX5_count : ByteArray := prog_1_method_43_code
def yX5_count : MethodName := ⟨RX5, "count", "(I)I"⟩
abbrev cX5_asNumber : ByteArray := prog_1_method_44_code
def yX5_asNumber : MethodName := ⟨RX5, "asNumber", "(Z)I"⟩
abbrev cX5_isNoYard : ByteArray := prog_1_method_45_code
def yX5_isNoYard : MethodName := ⟨RX5, "isNoYard", "(I)Z"⟩
abbrev cX5_tenTo : ByteArray := prog_1_method_46_code
def yX5_tenTo : MethodName := ⟨RX5, "tenTo", "(I)I"⟩
abbrev cX5_figureOf : ByteArray := prog_1_method_47_code
def yX5_figureOf : MethodName := ⟨RX5, "figureOf", "(III)I"⟩
abbrev cX5_fraction : ByteArray := prog_1_method_48_code
def yX5_fraction : MethodName := ⟨RX5, "fraction", "(IIZ)I"⟩
abbrev cX5_greatestDivisor : ByteArray := prog_1_method_49_code
def yX5_greatestDivisor : MethodName := ⟨RX5, "greatestDivisor", "(II)I"⟩
def RX6 : String := "WhistleBackModel"
def TX6 : u_T := fun k => match k with
  | 0 => ("WhistleBackModel", "words", "I", false)
  | 1 => ("WhistleBackModel", "things", "I", false)
  | 2 => ("WhistleBackModel", "kind", "[I", true)
  | 3 => ("WhistleBackModel", "off", "[I", true)
  | 4 => ("WhistleBackModel", "pulls", "[I", true)
  | 5 => ("WhistleBackModel", "now", "[I", true)
  | 6 => ("WhistleBackModel", "readWord", "[I", true)
  | 7 => ("WhistleBackModel", "readThing", "[I", true)
  | 8 => ("WhistleBackModel", "readWords", "I", false)
  | 9 => ("WhistleBackModel", "readThings", "I", false)
  | 10 => ("WhistleBackModel", "text", "[I", true)
  | 11 => ("WhistleBackModel", "length", "I", false)
  | 12 => ("WhistleBackModel", "at", "I", false)
  | 13 => ("WhistleBackModel", "faultAt", "I", false)
  | 14 => ("WhistleBackModel", "acts", "I", false)
  | 15 => ("WhistleBackModel", "next", "I", false)
  | 16 => ("WhistleBackModel", "row", "[I", true)
  | 17 => ("WhistleBackModel", "seen", "I", false)
  | 18 => ("WhistleBackModel", "seenOf", "[I", true)
  | 19 => ("WhistleBackModel", "seenFrom", "[I", true)
  | 20 => ("WhistleBackModel", "seenCame", "[I", true)
  | 21 => ("WhistleBackModel", "seed", "J", false)
  | 22 => ("WhistleBackModel", "isKept", "[Z", true)
  | _ => ("WhistleBackModel", "kept", "[I", true)
def tyX6 : Nat → FieldType := fun k => match k with
  | 0 => .int
  | 1 => .int
  | 2 => .array .int
  | 3 => .array .int
  | 4 => .array .int
  | 5 => .array .int
  | 6 => .array .int
  | 7 => .array .int
  | 8 => .int
  | 9 => .int
  | 10 => .array .int
  | 11 => .int
  | 12 => .int
  | 13 => .int
  | 14 => .int
  | 15 => .int
  | 16 => .array .int
  | 17 => .int
  | 18 => .array .int
  | 19 => .array .int
  | 20 => .array .int
  | 21 => .long
  | 22 => .array .boolean
  | _ => .array .int
abbrev wsX60 : List Cond := u_ws RX6 TX6 24
theorem nmX6 : ∀ a, a < 24 → ∀ b, b < 24 → a ≠ b → (TX6 a).2.1 ≠ (TX6 b).2.1 := by decide +kernel
theorem tyX6_ok : ∀ k, k < 24 → parseFieldDescriptor (TX6 k).2.2.1 = some (tyX6 k) := by decide +kernel
abbrev cX6_init : ByteArray := prog_8_method_1_code
def yX6_init : MethodName := ⟨RX6, "<init>", "()V"⟩
abbrev cX6_in : ByteArray := prog_8_method_3_code
def yX6_in : MethodName := ⟨RX6, "in", "(JJJ)Z"⟩
abbrev cX6_has : ByteArray := prog_8_method_4_code
def yX6_has : MethodName := ⟨RX6, "has", "(II)Z"⟩
abbrev cX6_ones : ByteArray := prog_8_method_5_code
def yX6_ones : MethodName := ⟨RX6, "ones", "(I)I"⟩
abbrev cX6_write : ByteArray := prog_8_method_6_code
def yX6_write : MethodName := ⟨RX6, "write", "(I)I"⟩
abbrev cX6_wipe : ByteArray := prog_8_method_7_code
def yX6_wipe : MethodName := ⟨RX6, "wipe", "()I"⟩
abbrev cX6_figure : ByteArray := prog_8_method_8_code
def yX6_figure : MethodName := ⟨RX6, "figure", "(II)I"⟩
abbrev cX6_readText : ByteArray := prog_8_method_9_code
def yX6_readText : MethodName := ⟨RX6, "readText", "()I"⟩
abbrev cX6_fault : ByteArray := prog_8_method_10_code
def yX6_fault : MethodName := ⟨RX6, "fault", "()I"⟩
abbrev cX6_walk : ByteArray := prog_8_method_11_code
def yX6_walk : MethodName := ⟨RX6, "walk", "()I"⟩
abbrev cX6_isWord : ByteArray := prog_8_method_12_code
def yX6_isWord : MethodName := ⟨RX6, "isWord", "(I)Z"⟩
abbrev cX6_pullAt : ByteArray := prog_8_method_13_code
def yX6_pullAt : MethodName := ⟨RX6, "pullAt", "(II)I"⟩
abbrev cX6_power : ByteArray := prog_8_method_14_code
def yX6_power : MethodName := ⟨RX6, "power", "(III)I"⟩
abbrev cX6_comesBy : ByteArray := prog_8_method_15_code
def yX6_comesBy : MethodName := ⟨RX6, "comesBy", "(IIII)Z"⟩
abbrev cX6_comesNow : ByteArray := prog_8_method_16_code
def yX6_comesNow : MethodName := ⟨RX6, "comesNow", "(II)Z"⟩
abbrev cX6_farOf : ByteArray := prog_8_method_17_code
def yX6_farOf : MethodName := ⟨RX6, "farOf", "(I)I"⟩
abbrev cX6_wears : ByteArray := prog_8_method_18_code
def yX6_wears : MethodName := ⟨RX6, "wears", "(I)I"⟩
abbrev cX6_word : ByteArray := prog_8_method_19_code
def yX6_word : MethodName := ⟨RX6, "word", "(II)I"⟩
abbrev cX6_thing : ByteArray := prog_8_method_20_code
def yX6_thing : MethodName := ⟨RX6, "thing", "(II)I"⟩
abbrev cX6_pull : ByteArray := prog_8_method_21_code
def yX6_pull : MethodName := ⟨RX6, "pull", "(I)I"⟩
abbrev cX6_callOn : ByteArray := prog_8_method_22_code
def yX6_callOn : MethodName := ⟨RX6, "callOn", "(II)Z"⟩
abbrev cX6_canPay : ByteArray := prog_8_method_23_code
def yX6_canPay : MethodName := ⟨RX6, "canPay", "(I)Z"⟩
abbrev cX6_payOn : ByteArray := prog_8_method_24_code
def yX6_payOn : MethodName := ⟨RX6, "payOn", "(I)I"⟩
abbrev cX6_runOn : ByteArray := prog_8_method_25_code
def yX6_runOn : MethodName := ⟨RX6, "runOn", "(II)V"⟩
abbrev cX6_canLead : ByteArray := prog_8_method_26_code
def yX6_canLead : MethodName := ⟨RX6, "canLead", "(I)Z"⟩
abbrev cX6_leadOn : ByteArray := prog_8_method_27_code
def yX6_leadOn : MethodName := ⟨RX6, "leadOn", "(I)V"⟩
abbrev cX6_keepAct : ByteArray := prog_8_method_28_code
def yX6_keepAct : MethodName := ⟨RX6, "keepAct", "()V"⟩
abbrev cX6_call : ByteArray := prog_8_method_29_code
def yX6_call : MethodName := ⟨RX6, "call", "(I)I"⟩
abbrev cX6_pay : ByteArray := prog_8_method_30_code
def yX6_pay : MethodName := ⟨RX6, "pay", "()I"⟩
abbrev cX6_run : ByteArray := prog_8_method_31_code
def yX6_run : MethodName := ⟨RX6, "run", "(I)I"⟩
abbrev cX6_lead : ByteArray := prog_8_method_32_code
def yX6_lead : MethodName := ⟨RX6, "lead", "()I"⟩
abbrev cX6_hunger : ByteArray := prog_8_method_33_code
def yX6_hunger : MethodName := ⟨RX6, "hunger", "()I"⟩
abbrev cX6_undo : ByteArray := prog_8_method_34_code
def yX6_undo : MethodName := ⟨RX6, "undo", "()I"⟩
abbrev cX6_comes : ByteArray := prog_8_method_35_code
def yX6_comes : MethodName := ⟨RX6, "comes", "(II)I"⟩
abbrev cX6_best : ByteArray := prog_8_method_36_code
def yX6_best : MethodName := ⟨RX6, "best", "(I)I"⟩
abbrev cX6_layTrial : ByteArray := prog_8_method_37_code
def yX6_layTrial : MethodName := ⟨RX6, "layTrial", "()V"⟩
abbrev cX6_tenTo : ByteArray := prog_8_method_38_code
def yX6_tenTo : MethodName := ⟨RX6, "tenTo", "(I)I"⟩
abbrev cX6_isRow : ByteArray := prog_8_method_39_code
def yX6_isRow : MethodName := ⟨RX6, "isRow", "(II)Z"⟩
abbrev cX6_fewest : ByteArray := prog_8_method_40_code
def yX6_fewest : MethodName := ⟨RX6, "fewest", "(Z)I"⟩
abbrev cX6_good : ByteArray := prog_8_method_41_code
def yX6_good : MethodName := ⟨RX6, "good", "(II)I"⟩
abbrev cX6_tryThing : ByteArray := prog_8_method_42_code
def yX6_tryThing : MethodName := ⟨RX6, "tryThing", "(I)Z"⟩
abbrev cX6_judge : ByteArray := prog_8_method_43_code
def yX6_judge : MethodName := ⟨RX6, "judge", "(II)I"⟩
abbrev cX6_see : ByteArray := prog_8_method_44_code
def yX6_see : MethodName := ⟨RX6, "see", "(III)I"⟩
abbrev cX6_unsee : ByteArray := prog_8_method_45_code
def yX6_unsee : MethodName := ⟨RX6, "unsee", "()I"⟩
abbrev cX6_may : ByteArray := prog_8_method_46_code
def yX6_may : MethodName := ⟨RX6, "may", "(I)I"⟩
abbrev cX6_factorial : ByteArray := prog_8_method_47_code
def yX6_factorial : MethodName := ⟨RX6, "factorial", "(I)I"⟩
abbrev cX6_common : ByteArray := prog_8_method_48_code
def yX6_common : MethodName := ⟨RX6, "common", "(II)I"⟩
abbrev cX6_reached : ByteArray := prog_8_method_49_code
def yX6_reached : MethodName := ⟨RX6, "reached", "(I)I"⟩
abbrev cX6_share : ByteArray := prog_8_method_50_code
def yX6_share : MethodName := ⟨RX6, "share", "(IZ)I"⟩
abbrev cX6_gain : ByteArray := prog_8_method_51_code
def yX6_gain : MethodName := ⟨RX6, "gain", "(III)I"⟩
abbrev cX6_isRest : ByteArray := prog_8_method_52_code
def yX6_isRest : MethodName := ⟨RX6, "isRest", "(IIII)Z"⟩
abbrev cX6_rests : ByteArray := prog_8_method_53_code
def yX6_rests : MethodName := ⟨RX6, "rests", "(III)I"⟩
abbrev cX6_there : ByteArray := prog_8_method_54_code
def yX6_there : MethodName := ⟨RX6, "there", "(IIZ)I"⟩
abbrev cX6_seed : ByteArray := prog_8_method_55_code
def yX6_seed : MethodName := ⟨RX6, "seed", "(J)J"⟩
abbrev cX6_walks : ByteArray := prog_8_method_56_code
def yX6_walks : MethodName := ⟨RX6, "walks", "(I)I"⟩
abbrev cX6_keep : ByteArray := prog_8_method_57_code
def yX6_keep : MethodName := ⟨RX6, "keep", "(I)I"⟩
abbrev cX6_again : ByteArray := prog_8_method_58_code
def yX6_again : MethodName := ⟨RX6, "again", "(I)I"⟩
abbrev cX6_count : ByteArray := prog_8_method_59_code
def yX6_count : MethodName := ⟨RX6, "count", "(I)I"⟩
def RJ9 : String := "java/lang/Math"
def TJ9 : u_T := fun k => match k with
  | _ => ("", "", "", false)
def tyJ9 : Nat → FieldType := fun k => match k with
  | _ => .int
abbrev wsJ90 : List Cond := u_ws RJ9 TJ9 0
theorem nmJ9 : ∀ a, a < 0 → ∀ b, b < 0 → a ≠ b → (TJ9 a).2.1 ≠ (TJ9 b).2.1 := by decide +kernel
theorem tyJ9_ok : ∀ k, k < 0 → parseFieldDescriptor (TJ9 k).2.2.1 = some (tyJ9 k) := by decide +kernel
abbrev cJ9_abs_0f7a4 : ByteArray := prog_9_method_59_code
def yJ9_abs_0f7a4 : MethodName := ⟨RJ9, "abs", "(I)I"⟩
abbrev cJ9_max_7cf53 : ByteArray := prog_9_method_65_code
def yJ9_max_7cf53 : MethodName := ⟨RJ9, "max", "(II)I"⟩
abbrev cJ9_min_7cf53 : ByteArray := prog_9_method_69_code
def yJ9_min_7cf53 : MethodName := ⟨RJ9, "min", "(II)I"⟩
def RL : String := "WhistleBackLaw"
abbrev cL_law : ByteArray := code
def yL_law : MethodName := ⟨RL, "law", "([I)Z"⟩
abbrev vwCl : List vw_C := [(RX0, TX0, 7), (RX1, TX1, 5), (RX2, TX2, 1), (RX3, TX3, 4), (RX4, TX4, 2), (RX5, TX5, 10), (RX6, TX6, 24)]
end
section
theorem dX0_init_0 : decode cX0_init 0 = .ok (.aload_n 0, 1) := by decide +kernel
theorem dX0_init_1 : decode cX0_init 1 = .ok (.invokespecial 3, 3) := by decide +kernel
theorem dX0_init_4 : decode cX0_init 4 = .ok (.aload_n 0, 1) := by decide +kernel
theorem dX0_init_5 : decode cX0_init 5 = .ok (.iconst 4, 1) := by decide +kernel
theorem dX0_init_6 : decode cX0_init 6 = .ok (.newarray .int, 2) := by decide +kernel
theorem dX0_init_8 : decode cX0_init 8 = .ok (.putfield 9, 3) := by decide +kernel
theorem dX0_init_11 : decode cX0_init 11 = .ok (.aload_n 0, 1) := by decide +kernel
theorem dX0_init_12 : decode cX0_init 12 = .ok (.bipush (-9), 2) := by decide +kernel
theorem dX0_init_14 : decode cX0_init 14 = .ok (.putfield 15, 3) := by decide +kernel
theorem dX0_init_17 : decode cX0_init 17 = .ok (.return_, 1) := by decide +kernel
theorem dX0_startAnew_0 : decode cX0_startAnew 0 = .ok (.aload_n 0, 1) := by decide +kernel
theorem dX0_startAnew_1 : decode cX0_startAnew 1 = .ok (.iload_n 1, 1) := by decide +kernel
theorem dX0_startAnew_2 : decode cX0_startAnew 2 = .ok (.putfield 19, 3) := by decide +kernel
theorem dX0_startAnew_5 : decode cX0_startAnew 5 = .ok (.aload_n 0, 1) := by decide +kernel
theorem dX0_startAnew_6 : decode cX0_startAnew 6 = .ok (.iload_n 2, 1) := by decide +kernel
theorem dX0_startAnew_7 : decode cX0_startAnew 7 = .ok (.putfield 22, 3) := by decide +kernel
theorem dX0_startAnew_10 : decode cX0_startAnew 10 = .ok (.aload_n 0, 1) := by decide +kernel
theorem dX0_startAnew_11 : decode cX0_startAnew 11 = .ok (.bipush (-9), 2) := by decide +kernel
theorem dX0_startAnew_13 : decode cX0_startAnew 13 = .ok (.putfield 15, 3) := by decide +kernel
theorem dX0_startAnew_16 : decode cX0_startAnew 16 = .ok (.aload_n 0, 1) := by decide +kernel
theorem dX0_startAnew_17 : decode cX0_startAnew 17 = .ok (.iconst 0, 1) := by decide +kernel
theorem dX0_startAnew_18 : decode cX0_startAnew 18 = .ok (.putfield 25, 3) := by decide +kernel
theorem dX0_startAnew_21 : decode cX0_startAnew 21 = .ok (.aload_n 0, 1) := by decide +kernel
theorem dX0_startAnew_22 : decode cX0_startAnew 22 = .ok (.iconst 0, 1) := by decide +kernel
theorem dX0_startAnew_23 : decode cX0_startAnew 23 = .ok (.putfield 28, 3) := by decide +kernel
theorem dX0_startAnew_26 : decode cX0_startAnew 26 = .ok (.aload_n 0, 1) := by decide +kernel
theorem dX0_startAnew_27 : decode cX0_startAnew 27 = .ok (.iconst 0, 1) := by decide +kernel
theorem dX0_startAnew_28 : decode cX0_startAnew 28 = .ok (.putfield 32, 3) := by decide +kernel
theorem dX0_startAnew_31 : decode cX0_startAnew 31 = .ok (.return_, 1) := by decide +kernel
theorem dX0_copyFrom_0 : decode cX0_copyFrom 0 = .ok (.iconst 0, 1) := by decide +kernel
theorem dX0_copyFrom_1 : decode cX0_copyFrom 1 = .ok (.istore_n 2, 1) := by decide +kernel
theorem dX0_copyFrom_2 : decode cX0_copyFrom 2 = .ok (.iload_n 2, 1) := by decide +kernel
theorem dX0_copyFrom_3 : decode cX0_copyFrom 3 = .ok (.aload_n 0, 1) := by decide +kernel
theorem dX0_copyFrom_4 : decode cX0_copyFrom 4 = .ok (.getfield 9, 3) := by decide +kernel
theorem dX0_copyFrom_7 : decode cX0_copyFrom 7 = .ok (.arraylength, 1) := by decide +kernel
theorem dX0_copyFrom_8 : decode cX0_copyFrom 8 = .ok (.if_icmp .ge 20, 3) := by decide +kernel
theorem dX0_copyFrom_11 : decode cX0_copyFrom 11 = .ok (.aload_n 0, 1) := by decide +kernel
theorem dX0_copyFrom_12 : decode cX0_copyFrom 12 = .ok (.getfield 9, 3) := by decide +kernel
theorem dX0_copyFrom_15 : decode cX0_copyFrom 15 = .ok (.iload_n 2, 1) := by decide +kernel
theorem dX0_copyFrom_16 : decode cX0_copyFrom 16 = .ok (.aload_n 1, 1) := by decide +kernel
theorem dX0_copyFrom_17 : decode cX0_copyFrom 17 = .ok (.iload_n 2, 1) := by decide +kernel
theorem dX0_copyFrom_18 : decode cX0_copyFrom 18 = .ok (.invokevirtual 35, 3) := by decide +kernel
theorem dX0_copyFrom_21 : decode cX0_copyFrom 21 = .ok (.iastore, 1) := by decide +kernel
theorem dX0_copyFrom_22 : decode cX0_copyFrom 22 = .ok (.iinc 2 1, 3) := by decide +kernel
theorem dX0_copyFrom_25 : decode cX0_copyFrom 25 = .ok (.goto (-23), 3) := by decide +kernel
theorem dX0_copyFrom_28 : decode cX0_copyFrom 28 = .ok (.aload_n 0, 1) := by decide +kernel
theorem dX0_copyFrom_29 : decode cX0_copyFrom 29 = .ok (.aload_n 1, 1) := by decide +kernel
theorem dX0_copyFrom_30 : decode cX0_copyFrom 30 = .ok (.getfield 19, 3) := by decide +kernel
theorem dX0_copyFrom_33 : decode cX0_copyFrom 33 = .ok (.putfield 19, 3) := by decide +kernel
theorem dX0_copyFrom_36 : decode cX0_copyFrom 36 = .ok (.aload_n 0, 1) := by decide +kernel
theorem dX0_copyFrom_37 : decode cX0_copyFrom 37 = .ok (.aload_n 1, 1) := by decide +kernel
theorem dX0_copyFrom_38 : decode cX0_copyFrom 38 = .ok (.getfield 22, 3) := by decide +kernel
theorem dX0_copyFrom_41 : decode cX0_copyFrom 41 = .ok (.putfield 22, 3) := by decide +kernel
theorem dX0_copyFrom_44 : decode cX0_copyFrom 44 = .ok (.aload_n 0, 1) := by decide +kernel
theorem dX0_copyFrom_45 : decode cX0_copyFrom 45 = .ok (.aload_n 1, 1) := by decide +kernel
theorem dX0_copyFrom_46 : decode cX0_copyFrom 46 = .ok (.getfield 15, 3) := by decide +kernel
theorem dX0_copyFrom_49 : decode cX0_copyFrom 49 = .ok (.putfield 15, 3) := by decide +kernel
theorem dX0_copyFrom_52 : decode cX0_copyFrom 52 = .ok (.aload_n 0, 1) := by decide +kernel
theorem dX0_copyFrom_53 : decode cX0_copyFrom 53 = .ok (.aload_n 1, 1) := by decide +kernel
theorem dX0_copyFrom_54 : decode cX0_copyFrom 54 = .ok (.getfield 25, 3) := by decide +kernel
theorem dX0_copyFrom_57 : decode cX0_copyFrom 57 = .ok (.putfield 25, 3) := by decide +kernel
theorem dX0_copyFrom_60 : decode cX0_copyFrom 60 = .ok (.aload_n 0, 1) := by decide +kernel
theorem dX0_copyFrom_61 : decode cX0_copyFrom 61 = .ok (.aload_n 1, 1) := by decide +kernel
theorem dX0_copyFrom_62 : decode cX0_copyFrom 62 = .ok (.getfield 28, 3) := by decide +kernel
theorem dX0_copyFrom_65 : decode cX0_copyFrom 65 = .ok (.putfield 28, 3) := by decide +kernel
theorem dX0_copyFrom_68 : decode cX0_copyFrom 68 = .ok (.aload_n 0, 1) := by decide +kernel
theorem dX0_copyFrom_69 : decode cX0_copyFrom 69 = .ok (.aload_n 1, 1) := by decide +kernel
theorem dX0_copyFrom_70 : decode cX0_copyFrom 70 = .ok (.getfield 32, 3) := by decide +kernel
theorem dX0_copyFrom_73 : decode cX0_copyFrom 73 = .ok (.putfield 32, 3) := by decide +kernel
theorem dX0_copyFrom_76 : decode cX0_copyFrom 76 = .ok (.return_, 1) := by decide +kernel
theorem dX0_strengthOf_0 : decode cX0_strengthOf 0 = .ok (.iload_n 1, 1) := by decide +kernel
theorem dX0_strengthOf_1 : decode cX0_strengthOf 1 = .ok (.ifCond .lt 21, 3) := by decide +kernel
theorem dX0_strengthOf_4 : decode cX0_strengthOf 4 = .ok (.iload_n 1, 1) := by decide +kernel
theorem dX0_strengthOf_5 : decode cX0_strengthOf 5 = .ok (.aload_n 0, 1) := by decide +kernel
theorem dX0_strengthOf_6 : decode cX0_strengthOf 6 = .ok (.getfield 9, 3) := by decide +kernel
theorem dX0_strengthOf_9 : decode cX0_strengthOf 9 = .ok (.arraylength, 1) := by decide +kernel
theorem dX0_strengthOf_10 : decode cX0_strengthOf 10 = .ok (.if_icmp .ge 12, 3) := by decide +kernel
theorem dX0_strengthOf_13 : decode cX0_strengthOf 13 = .ok (.aload_n 0, 1) := by decide +kernel
theorem dX0_strengthOf_14 : decode cX0_strengthOf 14 = .ok (.getfield 9, 3) := by decide +kernel
theorem dX0_strengthOf_17 : decode cX0_strengthOf 17 = .ok (.iload_n 1, 1) := by decide +kernel
theorem dX0_strengthOf_18 : decode cX0_strengthOf 18 = .ok (.iaload, 1) := by decide +kernel
theorem dX0_strengthOf_19 : decode cX0_strengthOf 19 = .ok (.goto 4, 3) := by decide +kernel
theorem dX0_strengthOf_22 : decode cX0_strengthOf 22 = .ok (.iconst 0, 1) := by decide +kernel
theorem dX0_strengthOf_23 : decode cX0_strengthOf 23 = .ok (.ireturn, 1) := by decide +kernel
theorem dX0_setStrength_0 : decode cX0_setStrength 0 = .ok (.iload_n 1, 1) := by decide +kernel
theorem dX0_setStrength_1 : decode cX0_setStrength 1 = .ok (.ifCond .lt 19, 3) := by decide +kernel
theorem dX0_setStrength_4 : decode cX0_setStrength 4 = .ok (.iload_n 1, 1) := by decide +kernel
theorem dX0_setStrength_5 : decode cX0_setStrength 5 = .ok (.aload_n 0, 1) := by decide +kernel
theorem dX0_setStrength_6 : decode cX0_setStrength 6 = .ok (.getfield 9, 3) := by decide +kernel
theorem dX0_setStrength_9 : decode cX0_setStrength 9 = .ok (.arraylength, 1) := by decide +kernel
theorem dX0_setStrength_10 : decode cX0_setStrength 10 = .ok (.if_icmp .ge 10, 3) := by decide +kernel
theorem dX0_setStrength_13 : decode cX0_setStrength 13 = .ok (.aload_n 0, 1) := by decide +kernel
theorem dX0_setStrength_14 : decode cX0_setStrength 14 = .ok (.getfield 9, 3) := by decide +kernel
theorem dX0_setStrength_17 : decode cX0_setStrength 17 = .ok (.iload_n 1, 1) := by decide +kernel
theorem dX0_setStrength_18 : decode cX0_setStrength 18 = .ok (.iload_n 2, 1) := by decide +kernel
theorem dX0_setStrength_19 : decode cX0_setStrength 19 = .ok (.iastore, 1) := by decide +kernel
theorem dX0_setStrength_20 : decode cX0_setStrength 20 = .ok (.return_, 1) := by decide +kernel
theorem dX0_addStrength_0 : decode cX0_addStrength 0 = .ok (.aload_n 0, 1) := by decide +kernel
theorem dX0_addStrength_1 : decode cX0_addStrength 1 = .ok (.iload_n 1, 1) := by decide +kernel
theorem dX0_addStrength_2 : decode cX0_addStrength 2 = .ok (.iconst 0, 1) := by decide +kernel
theorem dX0_addStrength_3 : decode cX0_addStrength 3 = .ok (.bipush 9, 2) := by decide +kernel
theorem dX0_addStrength_5 : decode cX0_addStrength 5 = .ok (.aload_n 0, 1) := by decide +kernel
theorem dX0_addStrength_6 : decode cX0_addStrength 6 = .ok (.iload_n 1, 1) := by decide +kernel
theorem dX0_addStrength_7 : decode cX0_addStrength 7 = .ok (.invokevirtual 35, 3) := by decide +kernel
theorem dX0_addStrength_10 : decode cX0_addStrength 10 = .ok (.iload_n 2, 1) := by decide +kernel
theorem dX0_addStrength_11 : decode cX0_addStrength 11 = .ok (.iadd, 1) := by decide +kernel
theorem dX0_addStrength_12 : decode cX0_addStrength 12 = .ok (.invokestatic 39, 3) := by decide +kernel
theorem dX0_addStrength_15 : decode cX0_addStrength 15 = .ok (.invokestatic 45, 3) := by decide +kernel
theorem dX0_addStrength_18 : decode cX0_addStrength 18 = .ok (.invokevirtual 48, 3) := by decide +kernel
theorem dX0_addStrength_21 : decode cX0_addStrength 21 = .ok (.return_, 1) := by decide +kernel
theorem dX0_runOff_0 : decode cX0_runOff 0 = .ok (.aload_n 0, 1) := by decide +kernel
theorem dX0_runOff_1 : decode cX0_runOff 1 = .ok (.bipush 9, 2) := by decide +kernel
theorem dX0_runOff_3 : decode cX0_runOff 3 = .ok (.aload_n 0, 1) := by decide +kernel
theorem dX0_runOff_4 : decode cX0_runOff 4 = .ok (.getfield 22, 3) := by decide +kernel
theorem dX0_runOff_7 : decode cX0_runOff 7 = .ok (.iload_n 1, 1) := by decide +kernel
theorem dX0_runOff_8 : decode cX0_runOff 8 = .ok (.iadd, 1) := by decide +kernel
theorem dX0_runOff_9 : decode cX0_runOff 9 = .ok (.invokestatic 39, 3) := by decide +kernel
theorem dX0_runOff_12 : decode cX0_runOff 12 = .ok (.putfield 22, 3) := by decide +kernel
theorem dX0_runOff_15 : decode cX0_runOff 15 = .ok (.aload_n 0, 1) := by decide +kernel
theorem dX0_runOff_16 : decode cX0_runOff 16 = .ok (.bipush (-9), 2) := by decide +kernel
theorem dX0_runOff_18 : decode cX0_runOff 18 = .ok (.putfield 15, 3) := by decide +kernel
theorem dX0_runOff_21 : decode cX0_runOff 21 = .ok (.return_, 1) := by decide +kernel
theorem dX0_canBePaid_0 : decode cX0_canBePaid 0 = .ok (.aload_n 0, 1) := by decide +kernel
theorem dX0_canBePaid_1 : decode cX0_canBePaid 1 = .ok (.getfield 15, 3) := by decide +kernel
theorem dX0_canBePaid_4 : decode cX0_canBePaid 4 = .ok (.bipush (-9), 2) := by decide +kernel
theorem dX0_canBePaid_6 : decode cX0_canBePaid 6 = .ok (.if_icmp .eq 14, 3) := by decide +kernel
theorem dX0_canBePaid_9 : decode cX0_canBePaid 9 = .ok (.aload_n 0, 1) := by decide +kernel
theorem dX0_canBePaid_10 : decode cX0_canBePaid 10 = .ok (.getfield 19, 3) := by decide +kernel
theorem dX0_canBePaid_13 : decode cX0_canBePaid 13 = .ok (.ifCond .le 7, 3) := by decide +kernel
theorem dX0_canBePaid_16 : decode cX0_canBePaid 16 = .ok (.iconst 1, 1) := by decide +kernel
theorem dX0_canBePaid_17 : decode cX0_canBePaid 17 = .ok (.goto 4, 3) := by decide +kernel
theorem dX0_canBePaid_20 : decode cX0_canBePaid 20 = .ok (.iconst 0, 1) := by decide +kernel
theorem dX0_canBePaid_21 : decode cX0_canBePaid 21 = .ok (.ireturn, 1) := by decide +kernel
theorem dX0_bePaid_0 : decode cX0_bePaid 0 = .ok (.aload_n 0, 1) := by decide +kernel
theorem dX0_bePaid_1 : decode cX0_bePaid 1 = .ok (.dup, 1) := by decide +kernel
theorem dX0_bePaid_2 : decode cX0_bePaid 2 = .ok (.getfield 19, 3) := by decide +kernel
theorem dX0_bePaid_5 : decode cX0_bePaid 5 = .ok (.iconst 1, 1) := by decide +kernel
theorem dX0_bePaid_6 : decode cX0_bePaid 6 = .ok (.isub, 1) := by decide +kernel
theorem dX0_bePaid_7 : decode cX0_bePaid 7 = .ok (.putfield 19, 3) := by decide +kernel
theorem dX0_bePaid_10 : decode cX0_bePaid 10 = .ok (.aload_n 0, 1) := by decide +kernel
theorem dX0_bePaid_11 : decode cX0_bePaid 11 = .ok (.aload_n 0, 1) := by decide +kernel
theorem dX0_bePaid_12 : decode cX0_bePaid 12 = .ok (.getfield 15, 3) := by decide +kernel
theorem dX0_bePaid_15 : decode cX0_bePaid 15 = .ok (.iconst 1, 1) := by decide +kernel
theorem dX0_bePaid_16 : decode cX0_bePaid 16 = .ok (.invokevirtual 52, 3) := by decide +kernel
theorem dX0_bePaid_19 : decode cX0_bePaid 19 = .ok (.aload_n 0, 1) := by decide +kernel
theorem dX0_bePaid_20 : decode cX0_bePaid 20 = .ok (.bipush (-9), 2) := by decide +kernel
theorem dX0_bePaid_22 : decode cX0_bePaid 22 = .ok (.putfield 15, 3) := by decide +kernel
theorem dX0_bePaid_25 : decode cX0_bePaid 25 = .ok (.return_, 1) := by decide +kernel
theorem dX0_canBeLed_0 : decode cX0_canBeLed 0 = .ok (.aload_n 0, 1) := by decide +kernel
theorem dX0_canBeLed_1 : decode cX0_canBeLed 1 = .ok (.getfield 32, 3) := by decide +kernel
theorem dX0_canBeLed_4 : decode cX0_canBeLed 4 = .ok (.ifCond .ne 10, 3) := by decide +kernel
theorem dX0_canBeLed_7 : decode cX0_canBeLed 7 = .ok (.aload_n 0, 1) := by decide +kernel
theorem dX0_canBeLed_8 : decode cX0_canBeLed 8 = .ok (.getfield 22, 3) := by decide +kernel
theorem dX0_canBeLed_11 : decode cX0_canBeLed 11 = .ok (.ifCond .ne 7, 3) := by decide +kernel
theorem dX0_canBeLed_14 : decode cX0_canBeLed 14 = .ok (.iconst 1, 1) := by decide +kernel
theorem dX0_canBeLed_15 : decode cX0_canBeLed 15 = .ok (.goto 4, 3) := by decide +kernel
theorem dX0_canBeLed_18 : decode cX0_canBeLed 18 = .ok (.iconst 0, 1) := by decide +kernel
theorem dX0_canBeLed_19 : decode cX0_canBeLed 19 = .ok (.ireturn, 1) := by decide +kernel
theorem dX1_init_0 : decode cX1_init 0 = .ok (.aload_n 0, 1) := by decide +kernel
theorem dX1_init_1 : decode cX1_init 1 = .ok (.invokespecial 3, 3) := by decide +kernel
theorem dX1_init_4 : decode cX1_init 4 = .ok (.aload_n 0, 1) := by decide +kernel
theorem dX1_init_5 : decode cX1_init 5 = .ok (.iconst 4, 1) := by decide +kernel
theorem dX1_init_6 : decode cX1_init 6 = .ok (.newarray .int, 2) := by decide +kernel
theorem dX1_init_8 : decode cX1_init 8 = .ok (.putfield 9, 3) := by decide +kernel
theorem dX1_init_11 : decode cX1_init 11 = .ok (.aload_n 0, 1) := by decide +kernel
theorem dX1_init_12 : decode cX1_init 12 = .ok (.iconst 4, 1) := by decide +kernel
theorem dX1_init_13 : decode cX1_init 13 = .ok (.newarray .int, 2) := by decide +kernel
theorem dX1_init_15 : decode cX1_init 15 = .ok (.putfield 15, 3) := by decide +kernel
theorem dX1_init_18 : decode cX1_init 18 = .ok (.aload_n 0, 1) := by decide +kernel
theorem dX1_init_19 : decode cX1_init 19 = .ok (.iconst 4, 1) := by decide +kernel
theorem dX1_init_20 : decode cX1_init 20 = .ok (.newarray .int, 2) := by decide +kernel
theorem dX1_init_22 : decode cX1_init 22 = .ok (.putfield 18, 3) := by decide +kernel
theorem dX1_init_25 : decode cX1_init 25 = .ok (.return_, 1) := by decide +kernel
theorem dX1_clear_0 : decode cX1_clear 0 = .ok (.aload_n 0, 1) := by decide +kernel
theorem dX1_clear_1 : decode cX1_clear 1 = .ok (.iconst 0, 1) := by decide +kernel
theorem dX1_clear_2 : decode cX1_clear 2 = .ok (.putfield 21, 3) := by decide +kernel
theorem dX1_clear_5 : decode cX1_clear 5 = .ok (.aload_n 0, 1) := by decide +kernel
theorem dX1_clear_6 : decode cX1_clear 6 = .ok (.iconst 0, 1) := by decide +kernel
theorem dX1_clear_7 : decode cX1_clear 7 = .ok (.putfield 25, 3) := by decide +kernel
theorem dX1_clear_10 : decode cX1_clear 10 = .ok (.return_, 1) := by decide +kernel
theorem dX1_addWord_0 : decode cX1_addWord 0 = .ok (.aload_n 0, 1) := by decide +kernel
theorem dX1_addWord_1 : decode cX1_addWord 1 = .ok (.getfield 21, 3) := by decide +kernel
theorem dX1_addWord_4 : decode cX1_addWord 4 = .ok (.ifCond .lt 15, 3) := by decide +kernel
theorem dX1_addWord_7 : decode cX1_addWord 7 = .ok (.aload_n 0, 1) := by decide +kernel
theorem dX1_addWord_8 : decode cX1_addWord 8 = .ok (.getfield 21, 3) := by decide +kernel
theorem dX1_addWord_11 : decode cX1_addWord 11 = .ok (.aload_n 0, 1) := by decide +kernel
theorem dX1_addWord_12 : decode cX1_addWord 12 = .ok (.getfield 9, 3) := by decide +kernel
theorem dX1_addWord_15 : decode cX1_addWord 15 = .ok (.arraylength, 1) := by decide +kernel
theorem dX1_addWord_16 : decode cX1_addWord 16 = .ok (.if_icmp .lt 4, 3) := by decide +kernel
theorem dX1_addWord_19 : decode cX1_addWord 19 = .ok (.return_, 1) := by decide +kernel
theorem dX1_addWord_20 : decode cX1_addWord 20 = .ok (.aload_n 0, 1) := by decide +kernel
theorem dX1_addWord_21 : decode cX1_addWord 21 = .ok (.getfield 9, 3) := by decide +kernel
theorem dX1_addWord_24 : decode cX1_addWord 24 = .ok (.aload_n 0, 1) := by decide +kernel
theorem dX1_addWord_25 : decode cX1_addWord 25 = .ok (.getfield 21, 3) := by decide +kernel
theorem dX1_addWord_28 : decode cX1_addWord 28 = .ok (.iload_n 1, 1) := by decide +kernel
theorem dX1_addWord_29 : decode cX1_addWord 29 = .ok (.iastore, 1) := by decide +kernel
theorem dX1_addWord_30 : decode cX1_addWord 30 = .ok (.aload_n 0, 1) := by decide +kernel
theorem dX1_addWord_31 : decode cX1_addWord 31 = .ok (.dup, 1) := by decide +kernel
theorem dX1_addWord_32 : decode cX1_addWord 32 = .ok (.getfield 21, 3) := by decide +kernel
theorem dX1_addWord_35 : decode cX1_addWord 35 = .ok (.iconst 1, 1) := by decide +kernel
theorem dX1_addWord_36 : decode cX1_addWord 36 = .ok (.iadd, 1) := by decide +kernel
theorem dX1_addWord_37 : decode cX1_addWord 37 = .ok (.putfield 21, 3) := by decide +kernel
theorem dX1_addWord_40 : decode cX1_addWord 40 = .ok (.return_, 1) := by decide +kernel
theorem dX1_addThing_0 : decode cX1_addThing 0 = .ok (.aload_n 0, 1) := by decide +kernel
theorem dX1_addThing_1 : decode cX1_addThing 1 = .ok (.getfield 25, 3) := by decide +kernel
theorem dX1_addThing_4 : decode cX1_addThing 4 = .ok (.ifCond .lt 27, 3) := by decide +kernel
theorem dX1_addThing_7 : decode cX1_addThing 7 = .ok (.aload_n 0, 1) := by decide +kernel
theorem dX1_addThing_8 : decode cX1_addThing 8 = .ok (.getfield 25, 3) := by decide +kernel
theorem dX1_addThing_11 : decode cX1_addThing 11 = .ok (.aload_n 0, 1) := by decide +kernel
theorem dX1_addThing_12 : decode cX1_addThing 12 = .ok (.getfield 15, 3) := by decide +kernel
theorem dX1_addThing_15 : decode cX1_addThing 15 = .ok (.arraylength, 1) := by decide +kernel
theorem dX1_addThing_16 : decode cX1_addThing 16 = .ok (.if_icmp .ge 15, 3) := by decide +kernel
theorem dX1_addThing_19 : decode cX1_addThing 19 = .ok (.aload_n 0, 1) := by decide +kernel
theorem dX1_addThing_20 : decode cX1_addThing 20 = .ok (.getfield 25, 3) := by decide +kernel
theorem dX1_addThing_23 : decode cX1_addThing 23 = .ok (.aload_n 0, 1) := by decide +kernel
theorem dX1_addThing_24 : decode cX1_addThing 24 = .ok (.getfield 18, 3) := by decide +kernel
theorem dX1_addThing_27 : decode cX1_addThing 27 = .ok (.arraylength, 1) := by decide +kernel
theorem dX1_addThing_28 : decode cX1_addThing 28 = .ok (.if_icmp .lt 4, 3) := by decide +kernel
theorem dX1_addThing_31 : decode cX1_addThing 31 = .ok (.return_, 1) := by decide +kernel
theorem dX1_addThing_32 : decode cX1_addThing 32 = .ok (.aload_n 0, 1) := by decide +kernel
theorem dX1_addThing_33 : decode cX1_addThing 33 = .ok (.getfield 15, 3) := by decide +kernel
theorem dX1_addThing_36 : decode cX1_addThing 36 = .ok (.aload_n 0, 1) := by decide +kernel
theorem dX1_addThing_37 : decode cX1_addThing 37 = .ok (.getfield 25, 3) := by decide +kernel
theorem dX1_addThing_40 : decode cX1_addThing 40 = .ok (.iload_n 1, 1) := by decide +kernel
theorem dX1_addThing_41 : decode cX1_addThing 41 = .ok (.iastore, 1) := by decide +kernel
theorem dX1_addThing_42 : decode cX1_addThing 42 = .ok (.aload_n 0, 1) := by decide +kernel
theorem dX1_addThing_43 : decode cX1_addThing 43 = .ok (.getfield 18, 3) := by decide +kernel
theorem dX1_addThing_46 : decode cX1_addThing 46 = .ok (.aload_n 0, 1) := by decide +kernel
theorem dX1_addThing_47 : decode cX1_addThing 47 = .ok (.getfield 25, 3) := by decide +kernel
theorem dX1_addThing_50 : decode cX1_addThing 50 = .ok (.iload_n 2, 1) := by decide +kernel
theorem dX1_addThing_51 : decode cX1_addThing 51 = .ok (.iastore, 1) := by decide +kernel
theorem dX1_addThing_52 : decode cX1_addThing 52 = .ok (.aload_n 0, 1) := by decide +kernel
theorem dX1_addThing_53 : decode cX1_addThing 53 = .ok (.dup, 1) := by decide +kernel
theorem dX1_addThing_54 : decode cX1_addThing 54 = .ok (.getfield 25, 3) := by decide +kernel
theorem dX1_addThing_57 : decode cX1_addThing 57 = .ok (.iconst 1, 1) := by decide +kernel
theorem dX1_addThing_58 : decode cX1_addThing 58 = .ok (.iadd, 1) := by decide +kernel
theorem dX1_addThing_59 : decode cX1_addThing 59 = .ok (.putfield 25, 3) := by decide +kernel
theorem dX1_addThing_62 : decode cX1_addThing 62 = .ok (.return_, 1) := by decide +kernel
theorem dX1_hasWord_0 : decode cX1_hasWord 0 = .ok (.iload_n 1, 1) := by decide +kernel
theorem dX1_hasWord_1 : decode cX1_hasWord 1 = .ok (.ifCond .lt 15, 3) := by decide +kernel
theorem dX1_hasWord_4 : decode cX1_hasWord 4 = .ok (.iload_n 1, 1) := by decide +kernel
theorem dX1_hasWord_5 : decode cX1_hasWord 5 = .ok (.aload_n 0, 1) := by decide +kernel
theorem dX1_hasWord_6 : decode cX1_hasWord 6 = .ok (.getfield 21, 3) := by decide +kernel
theorem dX1_hasWord_9 : decode cX1_hasWord 9 = .ok (.if_icmp .ge 7, 3) := by decide +kernel
theorem dX1_hasWord_12 : decode cX1_hasWord 12 = .ok (.iconst 1, 1) := by decide +kernel
theorem dX1_hasWord_13 : decode cX1_hasWord 13 = .ok (.goto 4, 3) := by decide +kernel
theorem dX1_hasWord_16 : decode cX1_hasWord 16 = .ok (.iconst 0, 1) := by decide +kernel
theorem dX1_hasWord_17 : decode cX1_hasWord 17 = .ok (.ireturn, 1) := by decide +kernel
theorem dX1_hasThing_0 : decode cX1_hasThing 0 = .ok (.iload_n 1, 1) := by decide +kernel
theorem dX1_hasThing_1 : decode cX1_hasThing 1 = .ok (.ifCond .lt 15, 3) := by decide +kernel
theorem dX1_hasThing_4 : decode cX1_hasThing 4 = .ok (.iload_n 1, 1) := by decide +kernel
theorem dX1_hasThing_5 : decode cX1_hasThing 5 = .ok (.aload_n 0, 1) := by decide +kernel
theorem dX1_hasThing_6 : decode cX1_hasThing 6 = .ok (.getfield 25, 3) := by decide +kernel
theorem dX1_hasThing_9 : decode cX1_hasThing 9 = .ok (.if_icmp .ge 7, 3) := by decide +kernel
theorem dX1_hasThing_12 : decode cX1_hasThing 12 = .ok (.iconst 1, 1) := by decide +kernel
theorem dX1_hasThing_13 : decode cX1_hasThing 13 = .ok (.goto 4, 3) := by decide +kernel
theorem dX1_hasThing_16 : decode cX1_hasThing 16 = .ok (.iconst 0, 1) := by decide +kernel
theorem dX1_hasThing_17 : decode cX1_hasThing 17 = .ok (.ireturn, 1) := by decide +kernel
theorem dX1_kindOf_0 : decode cX1_kindOf 0 = .ok (.iload_n 1, 1) := by decide +kernel
theorem dX1_kindOf_1 : decode cX1_kindOf 1 = .ok (.ifCond .lt 21, 3) := by decide +kernel
theorem dX1_kindOf_4 : decode cX1_kindOf 4 = .ok (.iload_n 1, 1) := by decide +kernel
theorem dX1_kindOf_5 : decode cX1_kindOf 5 = .ok (.aload_n 0, 1) := by decide +kernel
theorem dX1_kindOf_6 : decode cX1_kindOf 6 = .ok (.getfield 9, 3) := by decide +kernel
theorem dX1_kindOf_9 : decode cX1_kindOf 9 = .ok (.arraylength, 1) := by decide +kernel
theorem dX1_kindOf_10 : decode cX1_kindOf 10 = .ok (.if_icmp .ge 12, 3) := by decide +kernel
theorem dX1_kindOf_13 : decode cX1_kindOf 13 = .ok (.aload_n 0, 1) := by decide +kernel
theorem dX1_kindOf_14 : decode cX1_kindOf 14 = .ok (.getfield 9, 3) := by decide +kernel
theorem dX1_kindOf_17 : decode cX1_kindOf 17 = .ok (.iload_n 1, 1) := by decide +kernel
theorem dX1_kindOf_18 : decode cX1_kindOf 18 = .ok (.iaload, 1) := by decide +kernel
theorem dX1_kindOf_19 : decode cX1_kindOf 19 = .ok (.goto 4, 3) := by decide +kernel
theorem dX1_kindOf_22 : decode cX1_kindOf 22 = .ok (.iconst 0, 1) := by decide +kernel
theorem dX1_kindOf_23 : decode cX1_kindOf 23 = .ok (.ireturn, 1) := by decide +kernel
theorem dX1_spotOf_0 : decode cX1_spotOf 0 = .ok (.iload_n 1, 1) := by decide +kernel
theorem dX1_spotOf_1 : decode cX1_spotOf 1 = .ok (.ifCond .lt 21, 3) := by decide +kernel
theorem dX1_spotOf_4 : decode cX1_spotOf 4 = .ok (.iload_n 1, 1) := by decide +kernel
theorem dX1_spotOf_5 : decode cX1_spotOf 5 = .ok (.aload_n 0, 1) := by decide +kernel
theorem dX1_spotOf_6 : decode cX1_spotOf 6 = .ok (.getfield 15, 3) := by decide +kernel
theorem dX1_spotOf_9 : decode cX1_spotOf 9 = .ok (.arraylength, 1) := by decide +kernel
theorem dX1_spotOf_10 : decode cX1_spotOf 10 = .ok (.if_icmp .ge 12, 3) := by decide +kernel
theorem dX1_spotOf_13 : decode cX1_spotOf 13 = .ok (.aload_n 0, 1) := by decide +kernel
theorem dX1_spotOf_14 : decode cX1_spotOf 14 = .ok (.getfield 15, 3) := by decide +kernel
theorem dX1_spotOf_17 : decode cX1_spotOf 17 = .ok (.iload_n 1, 1) := by decide +kernel
theorem dX1_spotOf_18 : decode cX1_spotOf 18 = .ok (.iaload, 1) := by decide +kernel
theorem dX1_spotOf_19 : decode cX1_spotOf 19 = .ok (.goto 4, 3) := by decide +kernel
theorem dX1_spotOf_22 : decode cX1_spotOf 22 = .ok (.iconst 0, 1) := by decide +kernel
theorem dX1_spotOf_23 : decode cX1_spotOf 23 = .ok (.ireturn, 1) := by decide +kernel
theorem dX1_tugOf_0 : decode cX1_tugOf 0 = .ok (.iload_n 1, 1) := by decide +kernel
theorem dX1_tugOf_1 : decode cX1_tugOf 1 = .ok (.ifCond .lt 21, 3) := by decide +kernel
theorem dX1_tugOf_4 : decode cX1_tugOf 4 = .ok (.iload_n 1, 1) := by decide +kernel
theorem dX1_tugOf_5 : decode cX1_tugOf 5 = .ok (.aload_n 0, 1) := by decide +kernel
theorem dX1_tugOf_6 : decode cX1_tugOf 6 = .ok (.getfield 18, 3) := by decide +kernel
theorem dX1_tugOf_9 : decode cX1_tugOf 9 = .ok (.arraylength, 1) := by decide +kernel
theorem dX1_tugOf_10 : decode cX1_tugOf 10 = .ok (.if_icmp .ge 12, 3) := by decide +kernel
theorem dX1_tugOf_13 : decode cX1_tugOf 13 = .ok (.aload_n 0, 1) := by decide +kernel
theorem dX1_tugOf_14 : decode cX1_tugOf 14 = .ok (.getfield 18, 3) := by decide +kernel
theorem dX1_tugOf_17 : decode cX1_tugOf 17 = .ok (.iload_n 1, 1) := by decide +kernel
theorem dX1_tugOf_18 : decode cX1_tugOf 18 = .ok (.iaload, 1) := by decide +kernel
theorem dX1_tugOf_19 : decode cX1_tugOf 19 = .ok (.goto 4, 3) := by decide +kernel
theorem dX1_tugOf_22 : decode cX1_tugOf 22 = .ok (.iconst 0, 1) := by decide +kernel
theorem dX1_tugOf_23 : decode cX1_tugOf 23 = .ok (.ireturn, 1) := by decide +kernel
theorem dX1_pullAt_0 : decode cX1_pullAt 0 = .ok (.iconst 0, 1) := by decide +kernel
theorem dX1_pullAt_1 : decode cX1_pullAt 1 = .ok (.istore_n 3, 1) := by decide +kernel
theorem dX1_pullAt_2 : decode cX1_pullAt 2 = .ok (.iconst 0, 1) := by decide +kernel
theorem dX1_pullAt_3 : decode cX1_pullAt 3 = .ok (.istore 4, 2) := by decide +kernel
theorem dX1_pullAt_5 : decode cX1_pullAt 5 = .ok (.iload 4, 2) := by decide +kernel
theorem dX1_pullAt_7 : decode cX1_pullAt 7 = .ok (.aload_n 0, 1) := by decide +kernel
theorem dX1_pullAt_8 : decode cX1_pullAt 8 = .ok (.getfield 25, 3) := by decide +kernel
theorem dX1_pullAt_11 : decode cX1_pullAt 11 = .ok (.if_icmp .ge 44, 3) := by decide +kernel
theorem dX1_pullAt_14 : decode cX1_pullAt 14 = .ok (.iload_n 2, 1) := by decide +kernel
theorem dX1_pullAt_15 : decode cX1_pullAt 15 = .ok (.iload 4, 2) := by decide +kernel
theorem dX1_pullAt_17 : decode cX1_pullAt 17 = .ok (.ishr, 1) := by decide +kernel
theorem dX1_pullAt_18 : decode cX1_pullAt 18 = .ok (.iconst 1, 1) := by decide +kernel
theorem dX1_pullAt_19 : decode cX1_pullAt 19 = .ok (.iand, 1) := by decide +kernel
theorem dX1_pullAt_20 : decode cX1_pullAt 20 = .ok (.ifCond .ne 6, 3) := by decide +kernel
theorem dX1_pullAt_23 : decode cX1_pullAt 23 = .ok (.goto 26, 3) := by decide +kernel
theorem dX1_pullAt_26 : decode cX1_pullAt 26 = .ok (.iload_n 3, 1) := by decide +kernel
theorem dX1_pullAt_27 : decode cX1_pullAt 27 = .ok (.aload_n 0, 1) := by decide +kernel
theorem dX1_pullAt_28 : decode cX1_pullAt 28 = .ok (.iload 4, 2) := by decide +kernel
theorem dX1_pullAt_30 : decode cX1_pullAt 30 = .ok (.invokevirtual 28, 3) := by decide +kernel
theorem dX1_pullAt_33 : decode cX1_pullAt 33 = .ok (.aload_n 0, 1) := by decide +kernel
theorem dX1_pullAt_34 : decode cX1_pullAt 34 = .ok (.iload 4, 2) := by decide +kernel
theorem dX1_pullAt_36 : decode cX1_pullAt 36 = .ok (.invokevirtual 32, 3) := by decide +kernel
theorem dX1_pullAt_39 : decode cX1_pullAt 39 = .ok (.iload_n 1, 1) := by decide +kernel
theorem dX1_pullAt_40 : decode cX1_pullAt 40 = .ok (.isub, 1) := by decide +kernel
theorem dX1_pullAt_41 : decode cX1_pullAt 41 = .ok (.invokestatic 35, 3) := by decide +kernel
theorem dX1_pullAt_44 : decode cX1_pullAt 44 = .ok (.isub, 1) := by decide +kernel
theorem dX1_pullAt_45 : decode cX1_pullAt 45 = .ok (.invokestatic 40, 3) := by decide +kernel
theorem dX1_pullAt_48 : decode cX1_pullAt 48 = .ok (.istore_n 3, 1) := by decide +kernel
theorem dX1_pullAt_49 : decode cX1_pullAt 49 = .ok (.iinc 4 1, 3) := by decide +kernel
theorem dX1_pullAt_52 : decode cX1_pullAt 52 = .ok (.goto (-47), 3) := by decide +kernel
theorem dX1_pullAt_55 : decode cX1_pullAt 55 = .ok (.iload_n 3, 1) := by decide +kernel
theorem dX1_pullAt_56 : decode cX1_pullAt 56 = .ok (.ireturn, 1) := by decide +kernel
theorem dX1_powerWith_0 : decode cX1_powerWith 0 = .ok (.aload_n 0, 1) := by decide +kernel
theorem dX1_powerWith_1 : decode cX1_powerWith 1 = .ok (.iload_n 2, 1) := by decide +kernel
theorem dX1_powerWith_2 : decode cX1_powerWith 2 = .ok (.invokevirtual 44, 3) := by decide +kernel
theorem dX1_powerWith_5 : decode cX1_powerWith 5 = .ok (.iconst 1, 1) := by decide +kernel
theorem dX1_powerWith_6 : decode cX1_powerWith 6 = .ok (.if_icmp .ne 10, 3) := by decide +kernel
theorem dX1_powerWith_9 : decode cX1_powerWith 9 = .ok (.iload 4, 2) := by decide +kernel
theorem dX1_powerWith_11 : decode cX1_powerWith 11 = .ok (.iconst 4, 1) := by decide +kernel
theorem dX1_powerWith_12 : decode cX1_powerWith 12 = .ok (.idiv, 1) := by decide +kernel
theorem dX1_powerWith_13 : decode cX1_powerWith 13 = .ok (.goto 7, 3) := by decide +kernel
theorem dX1_powerWith_16 : decode cX1_powerWith 16 = .ok (.iload 4, 2) := by decide +kernel
theorem dX1_powerWith_18 : decode cX1_powerWith 18 = .ok (.iconst 2, 1) := by decide +kernel
theorem dX1_powerWith_19 : decode cX1_powerWith 19 = .ok (.idiv, 1) := by decide +kernel
theorem dX1_powerWith_20 : decode cX1_powerWith 20 = .ok (.istore 5, 2) := by decide +kernel
theorem dX1_powerWith_22 : decode cX1_powerWith 22 = .ok (.iload_n 1, 1) := by decide +kernel
theorem dX1_powerWith_23 : decode cX1_powerWith 23 = .ok (.iload_n 3, 1) := by decide +kernel
theorem dX1_powerWith_24 : decode cX1_powerWith 24 = .ok (.ifCond .eq 7, 3) := by decide +kernel
theorem dX1_powerWith_27 : decode cX1_powerWith 27 = .ok (.iconst 1, 1) := by decide +kernel
theorem dX1_powerWith_28 : decode cX1_powerWith 28 = .ok (.goto 4, 3) := by decide +kernel
theorem dX1_powerWith_31 : decode cX1_powerWith 31 = .ok (.iconst 0, 1) := by decide +kernel
theorem dX1_powerWith_32 : decode cX1_powerWith 32 = .ok (.iadd, 1) := by decide +kernel
theorem dX1_powerWith_33 : decode cX1_powerWith 33 = .ok (.iload 5, 2) := by decide +kernel
theorem dX1_powerWith_35 : decode cX1_powerWith 35 = .ok (.isub, 1) := by decide +kernel
theorem dX1_powerWith_36 : decode cX1_powerWith 36 = .ok (.ireturn, 1) := by decide +kernel
theorem dX1_powerOf_0 : decode cX1_powerOf 0 = .ok (.aload_n 0, 1) := by decide +kernel
theorem dX1_powerOf_1 : decode cX1_powerOf 1 = .ok (.aload_n 1, 1) := by decide +kernel
theorem dX1_powerOf_2 : decode cX1_powerOf 2 = .ok (.iload_n 2, 1) := by decide +kernel
theorem dX1_powerOf_3 : decode cX1_powerOf 3 = .ok (.invokevirtual 47, 3) := by decide +kernel
theorem dX1_powerOf_6 : decode cX1_powerOf 6 = .ok (.iload_n 2, 1) := by decide +kernel
theorem dX1_powerOf_7 : decode cX1_powerOf 7 = .ok (.aload_n 1, 1) := by decide +kernel
theorem dX1_powerOf_8 : decode cX1_powerOf 8 = .ok (.getfield 52, 3) := by decide +kernel
theorem dX1_powerOf_11 : decode cX1_powerOf 11 = .ok (.iload_n 3, 1) := by decide +kernel
theorem dX1_powerOf_12 : decode cX1_powerOf 12 = .ok (.invokevirtual 56, 3) := by decide +kernel
theorem dX1_powerOf_15 : decode cX1_powerOf 15 = .ok (.ireturn, 1) := by decide +kernel
theorem dX1_isEnough_0 : decode cX1_isEnough 0 = .ok (.iload_n 1, 1) := by decide +kernel
theorem dX1_isEnough_1 : decode cX1_isEnough 1 = .ok (.iconst 1, 1) := by decide +kernel
theorem dX1_isEnough_2 : decode cX1_isEnough 2 = .ok (.if_icmp .lt 17, 3) := by decide +kernel
theorem dX1_isEnough_5 : decode cX1_isEnough 5 = .ok (.iload_n 1, 1) := by decide +kernel
theorem dX1_isEnough_6 : decode cX1_isEnough 6 = .ok (.aload_n 0, 1) := by decide +kernel
theorem dX1_isEnough_7 : decode cX1_isEnough 7 = .ok (.iload_n 2, 1) := by decide +kernel
theorem dX1_isEnough_8 : decode cX1_isEnough 8 = .ok (.iload_n 3, 1) := by decide +kernel
theorem dX1_isEnough_9 : decode cX1_isEnough 9 = .ok (.invokevirtual 60, 3) := by decide +kernel
theorem dX1_isEnough_12 : decode cX1_isEnough 12 = .ok (.if_icmp .lt 7, 3) := by decide +kernel
theorem dX1_isEnough_15 : decode cX1_isEnough 15 = .ok (.iconst 1, 1) := by decide +kernel
theorem dX1_isEnough_16 : decode cX1_isEnough 16 = .ok (.goto 4, 3) := by decide +kernel
theorem dX1_isEnough_19 : decode cX1_isEnough 19 = .ok (.iconst 0, 1) := by decide +kernel
theorem dX1_isEnough_20 : decode cX1_isEnough 20 = .ok (.ireturn, 1) := by decide +kernel
theorem dX1_brings_0 : decode cX1_brings 0 = .ok (.aload_n 0, 1) := by decide +kernel
theorem dX1_brings_1 : decode cX1_brings 1 = .ok (.aload_n 0, 1) := by decide +kernel
theorem dX1_brings_2 : decode cX1_brings 2 = .ok (.aload_n 1, 1) := by decide +kernel
theorem dX1_brings_3 : decode cX1_brings 3 = .ok (.iload_n 2, 1) := by decide +kernel
theorem dX1_brings_4 : decode cX1_brings 4 = .ok (.iload_n 3, 1) := by decide +kernel
theorem dX1_brings_5 : decode cX1_brings 5 = .ok (.invokevirtual 63, 3) := by decide +kernel
theorem dX1_brings_8 : decode cX1_brings 8 = .ok (.iload_n 3, 1) := by decide +kernel
theorem dX1_brings_9 : decode cX1_brings 9 = .ok (.bipush 15, 2) := by decide +kernel
theorem dX1_brings_11 : decode cX1_brings 11 = .ok (.invokevirtual 67, 3) := by decide +kernel
theorem dX1_brings_14 : decode cX1_brings 14 = .ok (.ireturn, 1) := by decide +kernel
theorem dX1_callHim_0 : decode cX1_callHim 0 = .ok (.aload_n 0, 1) := by decide +kernel
theorem dX1_callHim_1 : decode cX1_callHim 1 = .ok (.aload_n 1, 1) := by decide +kernel
theorem dX1_callHim_2 : decode cX1_callHim 2 = .ok (.iload_n 2, 1) := by decide +kernel
theorem dX1_callHim_3 : decode cX1_callHim 3 = .ok (.aload_n 1, 1) := by decide +kernel
theorem dX1_callHim_4 : decode cX1_callHim 4 = .ok (.getfield 71, 3) := by decide +kernel
theorem dX1_callHim_7 : decode cX1_callHim 7 = .ok (.invokevirtual 74, 3) := by decide +kernel
theorem dX1_callHim_10 : decode cX1_callHim 10 = .ok (.istore_n 3, 1) := by decide +kernel
theorem dX1_callHim_11 : decode cX1_callHim 11 = .ok (.aload_n 1, 1) := by decide +kernel
theorem dX1_callHim_12 : decode cX1_callHim 12 = .ok (.dup, 1) := by decide +kernel
theorem dX1_callHim_13 : decode cX1_callHim 13 = .ok (.getfield 78, 3) := by decide +kernel
theorem dX1_callHim_16 : decode cX1_callHim 16 = .ok (.iconst 1, 1) := by decide +kernel
theorem dX1_callHim_17 : decode cX1_callHim 17 = .ok (.iadd, 1) := by decide +kernel
theorem dX1_callHim_18 : decode cX1_callHim 18 = .ok (.putfield 78, 3) := by decide +kernel
theorem dX1_callHim_21 : decode cX1_callHim 21 = .ok (.iload_n 3, 1) := by decide +kernel
theorem dX1_callHim_22 : decode cX1_callHim 22 = .ok (.ifCond .eq 16, 3) := by decide +kernel
theorem dX1_callHim_25 : decode cX1_callHim 25 = .ok (.aload_n 1, 1) := by decide +kernel
theorem dX1_callHim_26 : decode cX1_callHim 26 = .ok (.iconst 0, 1) := by decide +kernel
theorem dX1_callHim_27 : decode cX1_callHim 27 = .ok (.putfield 71, 3) := by decide +kernel
theorem dX1_callHim_30 : decode cX1_callHim 30 = .ok (.aload_n 1, 1) := by decide +kernel
theorem dX1_callHim_31 : decode cX1_callHim 31 = .ok (.iload_n 2, 1) := by decide +kernel
theorem dX1_callHim_32 : decode cX1_callHim 32 = .ok (.putfield 81, 3) := by decide +kernel
theorem dX1_callHim_35 : decode cX1_callHim 35 = .ok (.goto 28, 3) := by decide +kernel
theorem dX1_callHim_38 : decode cX1_callHim 38 = .ok (.aload_n 1, 1) := by decide +kernel
theorem dX1_callHim_39 : decode cX1_callHim 39 = .ok (.iload_n 2, 1) := by decide +kernel
theorem dX1_callHim_40 : decode cX1_callHim 40 = .ok (.aload_n 0, 1) := by decide +kernel
theorem dX1_callHim_41 : decode cX1_callHim 41 = .ok (.iload_n 2, 1) := by decide +kernel
theorem dX1_callHim_42 : decode cX1_callHim 42 = .ok (.invokevirtual 44, 3) := by decide +kernel
theorem dX1_callHim_45 : decode cX1_callHim 45 = .ok (.iconst 2, 1) := by decide +kernel
theorem dX1_callHim_46 : decode cX1_callHim 46 = .ok (.if_icmp .ne 8, 3) := by decide +kernel
theorem dX1_callHim_49 : decode cX1_callHim 49 = .ok (.bipush (-2), 2) := by decide +kernel
theorem dX1_callHim_51 : decode cX1_callHim 51 = .ok (.goto 4, 3) := by decide +kernel
theorem dX1_callHim_54 : decode cX1_callHim 54 = .ok (.iconst (-1), 1) := by decide +kernel
theorem dX1_callHim_55 : decode cX1_callHim 55 = .ok (.invokevirtual 84, 3) := by decide +kernel
theorem dX1_callHim_58 : decode cX1_callHim 58 = .ok (.aload_n 1, 1) := by decide +kernel
theorem dX1_callHim_59 : decode cX1_callHim 59 = .ok (.iconst 1, 1) := by decide +kernel
theorem dX1_callHim_60 : decode cX1_callHim 60 = .ok (.invokevirtual 88, 3) := by decide +kernel
theorem dX1_callHim_63 : decode cX1_callHim 63 = .ok (.iload_n 3, 1) := by decide +kernel
theorem dX1_callHim_64 : decode cX1_callHim 64 = .ok (.ireturn, 1) := by decide +kernel
theorem dX1_leash_0 : decode cX1_leash 0 = .ok (.aload_n 1, 1) := by decide +kernel
theorem dX1_leash_1 : decode cX1_leash 1 = .ok (.getfield 92, 3) := by decide +kernel
theorem dX1_leash_4 : decode cX1_leash 4 = .ok (.ifCond .ne 44, 3) := by decide +kernel
theorem dX1_leash_7 : decode cX1_leash 7 = .ok (.aload_n 1, 1) := by decide +kernel
theorem dX1_leash_8 : decode cX1_leash 8 = .ok (.getfield 81, 3) := by decide +kernel
theorem dX1_leash_11 : decode cX1_leash 11 = .ok (.bipush (-9), 2) := by decide +kernel
theorem dX1_leash_13 : decode cX1_leash 13 = .ok (.if_icmp .eq 35, 3) := by decide +kernel
theorem dX1_leash_16 : decode cX1_leash 16 = .ok (.aload_n 1, 1) := by decide +kernel
theorem dX1_leash_17 : decode cX1_leash 17 = .ok (.aload_n 1, 1) := by decide +kernel
theorem dX1_leash_18 : decode cX1_leash 18 = .ok (.getfield 81, 3) := by decide +kernel
theorem dX1_leash_21 : decode cX1_leash 21 = .ok (.aload_n 0, 1) := by decide +kernel
theorem dX1_leash_22 : decode cX1_leash 22 = .ok (.aload_n 1, 1) := by decide +kernel
theorem dX1_leash_23 : decode cX1_leash 23 = .ok (.getfield 81, 3) := by decide +kernel
theorem dX1_leash_26 : decode cX1_leash 26 = .ok (.invokevirtual 44, 3) := by decide +kernel
theorem dX1_leash_29 : decode cX1_leash 29 = .ok (.iconst 3, 1) := by decide +kernel
theorem dX1_leash_30 : decode cX1_leash 30 = .ok (.if_icmp .ne 7, 3) := by decide +kernel
theorem dX1_leash_33 : decode cX1_leash 33 = .ok (.iconst (-1), 1) := by decide +kernel
theorem dX1_leash_34 : decode cX1_leash 34 = .ok (.goto 5, 3) := by decide +kernel
theorem dX1_leash_37 : decode cX1_leash 37 = .ok (.bipush (-2), 2) := by decide +kernel
theorem dX1_leash_39 : decode cX1_leash 39 = .ok (.invokevirtual 84, 3) := by decide +kernel
theorem dX1_leash_42 : decode cX1_leash 42 = .ok (.aload_n 1, 1) := by decide +kernel
theorem dX1_leash_43 : decode cX1_leash 43 = .ok (.bipush (-9), 2) := by decide +kernel
theorem dX1_leash_45 : decode cX1_leash 45 = .ok (.putfield 81, 3) := by decide +kernel
theorem dX1_leash_48 : decode cX1_leash 48 = .ok (.aload_n 1, 1) := by decide +kernel
theorem dX1_leash_49 : decode cX1_leash 49 = .ok (.aload_n 1, 1) := by decide +kernel
theorem dX1_leash_50 : decode cX1_leash 50 = .ok (.getfield 92, 3) := by decide +kernel
theorem dX1_leash_53 : decode cX1_leash 53 = .ok (.ifCond .ne 7, 3) := by decide +kernel
theorem dX1_leash_56 : decode cX1_leash 56 = .ok (.iconst 1, 1) := by decide +kernel
theorem dX1_leash_57 : decode cX1_leash 57 = .ok (.goto 4, 3) := by decide +kernel
theorem dX1_leash_60 : decode cX1_leash 60 = .ok (.iconst 0, 1) := by decide +kernel
theorem dX1_leash_61 : decode cX1_leash 61 = .ok (.putfield 92, 3) := by decide +kernel
theorem dX1_leash_64 : decode cX1_leash 64 = .ok (.return_, 1) := by decide +kernel
theorem dX2_init_0 : decode cX2_init 0 = .ok (.aload_n 0, 1) := by decide +kernel
theorem dX2_init_1 : decode cX2_init 1 = .ok (.invokespecial 3, 3) := by decide +kernel
theorem dX2_init_4 : decode cX2_init 4 = .ok (.aload_n 0, 1) := by decide +kernel
theorem dX2_init_5 : decode cX2_init 5 = .ok (.iload_n 1, 1) := by decide +kernel
theorem dX2_init_6 : decode cX2_init 6 = .ok (.ifCond .le 10, 3) := by decide +kernel
theorem dX2_init_9 : decode cX2_init 9 = .ok (.iload_n 1, 1) := by decide +kernel
theorem dX2_init_10 : decode cX2_init 10 = .ok (.bipush 10, 2) := by decide +kernel
theorem dX2_init_12 : decode cX2_init 12 = .ok (.imul, 1) := by decide +kernel
theorem dX2_init_13 : decode cX2_init 13 = .ok (.goto 4, 3) := by decide +kernel
theorem dX2_init_16 : decode cX2_init 16 = .ok (.iconst 0, 1) := by decide +kernel
theorem dX2_init_17 : decode cX2_init 17 = .ok (.newarray .int, 2) := by decide +kernel
theorem dX2_init_19 : decode cX2_init 19 = .ok (.putfield 11, 3) := by decide +kernel
theorem dX2_init_22 : decode cX2_init 22 = .ok (.return_, 1) := by decide +kernel
theorem dX2_numberAt_0 : decode cX2_numberAt 0 = .ok (.iload_n 1, 1) := by decide +kernel
theorem dX2_numberAt_1 : decode cX2_numberAt 1 = .ok (.ifCond .lt 21, 3) := by decide +kernel
theorem dX2_numberAt_4 : decode cX2_numberAt 4 = .ok (.iload_n 1, 1) := by decide +kernel
theorem dX2_numberAt_5 : decode cX2_numberAt 5 = .ok (.aload_n 0, 1) := by decide +kernel
theorem dX2_numberAt_6 : decode cX2_numberAt 6 = .ok (.getfield 11, 3) := by decide +kernel
theorem dX2_numberAt_9 : decode cX2_numberAt 9 = .ok (.arraylength, 1) := by decide +kernel
theorem dX2_numberAt_10 : decode cX2_numberAt 10 = .ok (.if_icmp .ge 12, 3) := by decide +kernel
theorem dX2_numberAt_13 : decode cX2_numberAt 13 = .ok (.aload_n 0, 1) := by decide +kernel
theorem dX2_numberAt_14 : decode cX2_numberAt 14 = .ok (.getfield 11, 3) := by decide +kernel
theorem dX2_numberAt_17 : decode cX2_numberAt 17 = .ok (.iload_n 1, 1) := by decide +kernel
theorem dX2_numberAt_18 : decode cX2_numberAt 18 = .ok (.iaload, 1) := by decide +kernel
theorem dX2_numberAt_19 : decode cX2_numberAt 19 = .ok (.goto 4, 3) := by decide +kernel
theorem dX2_numberAt_22 : decode cX2_numberAt 22 = .ok (.iconst 0, 1) := by decide +kernel
theorem dX2_numberAt_23 : decode cX2_numberAt 23 = .ok (.ireturn, 1) := by decide +kernel
theorem dX2_setNumber_0 : decode cX2_setNumber 0 = .ok (.iload_n 1, 1) := by decide +kernel
theorem dX2_setNumber_1 : decode cX2_setNumber 1 = .ok (.ifCond .lt 19, 3) := by decide +kernel
theorem dX2_setNumber_4 : decode cX2_setNumber 4 = .ok (.iload_n 1, 1) := by decide +kernel
theorem dX2_setNumber_5 : decode cX2_setNumber 5 = .ok (.aload_n 0, 1) := by decide +kernel
theorem dX2_setNumber_6 : decode cX2_setNumber 6 = .ok (.getfield 11, 3) := by decide +kernel
theorem dX2_setNumber_9 : decode cX2_setNumber 9 = .ok (.arraylength, 1) := by decide +kernel
theorem dX2_setNumber_10 : decode cX2_setNumber 10 = .ok (.if_icmp .ge 10, 3) := by decide +kernel
theorem dX2_setNumber_13 : decode cX2_setNumber 13 = .ok (.aload_n 0, 1) := by decide +kernel
theorem dX2_setNumber_14 : decode cX2_setNumber 14 = .ok (.getfield 11, 3) := by decide +kernel
theorem dX2_setNumber_17 : decode cX2_setNumber 17 = .ok (.iload_n 1, 1) := by decide +kernel
theorem dX2_setNumber_18 : decode cX2_setNumber 18 = .ok (.iload_n 2, 1) := by decide +kernel
theorem dX2_setNumber_19 : decode cX2_setNumber 19 = .ok (.iastore, 1) := by decide +kernel
theorem dX2_setNumber_20 : decode cX2_setNumber 20 = .ok (.return_, 1) := by decide +kernel
theorem dX2_put_0 : decode cX2_put 0 = .ok (.iload_n 1, 1) := by decide +kernel
theorem dX2_put_1 : decode cX2_put 1 = .ok (.bipush 10, 2) := by decide +kernel
theorem dX2_put_3 : decode cX2_put 3 = .ok (.imul, 1) := by decide +kernel
theorem dX2_put_4 : decode cX2_put 4 = .ok (.istore_n 3, 1) := by decide +kernel
theorem dX2_put_5 : decode cX2_put 5 = .ok (.iconst 0, 1) := by decide +kernel
theorem dX2_put_6 : decode cX2_put 6 = .ok (.istore 4, 2) := by decide +kernel
theorem dX2_put_8 : decode cX2_put 8 = .ok (.iload 4, 2) := by decide +kernel
theorem dX2_put_10 : decode cX2_put 10 = .ok (.iconst 4, 1) := by decide +kernel
theorem dX2_put_11 : decode cX2_put 11 = .ok (.if_icmp .ge 23, 3) := by decide +kernel
theorem dX2_put_14 : decode cX2_put 14 = .ok (.aload_n 0, 1) := by decide +kernel
theorem dX2_put_15 : decode cX2_put 15 = .ok (.iload_n 3, 1) := by decide +kernel
theorem dX2_put_16 : decode cX2_put 16 = .ok (.iload 4, 2) := by decide +kernel
theorem dX2_put_18 : decode cX2_put 18 = .ok (.iadd, 1) := by decide +kernel
theorem dX2_put_19 : decode cX2_put 19 = .ok (.aload_n 2, 1) := by decide +kernel
theorem dX2_put_20 : decode cX2_put 20 = .ok (.iload 4, 2) := by decide +kernel
theorem dX2_put_22 : decode cX2_put 22 = .ok (.invokevirtual 17, 3) := by decide +kernel
theorem dX2_put_25 : decode cX2_put 25 = .ok (.invokevirtual 21, 3) := by decide +kernel
theorem dX2_put_28 : decode cX2_put 28 = .ok (.iinc 4 1, 3) := by decide +kernel
theorem dX2_put_31 : decode cX2_put 31 = .ok (.goto (-23), 3) := by decide +kernel
theorem dX2_put_34 : decode cX2_put 34 = .ok (.iload_n 3, 1) := by decide +kernel
theorem dX2_put_35 : decode cX2_put 35 = .ok (.iconst 4, 1) := by decide +kernel
theorem dX2_put_36 : decode cX2_put 36 = .ok (.iadd, 1) := by decide +kernel
theorem dX2_put_37 : decode cX2_put 37 = .ok (.istore 4, 2) := by decide +kernel
theorem dX2_put_39 : decode cX2_put 39 = .ok (.aload_n 0, 1) := by decide +kernel
theorem dX2_put_40 : decode cX2_put 40 = .ok (.iload 4, 2) := by decide +kernel
theorem dX2_put_42 : decode cX2_put 42 = .ok (.aload_n 2, 1) := by decide +kernel
theorem dX2_put_43 : decode cX2_put 43 = .ok (.getfield 25, 3) := by decide +kernel
theorem dX2_put_46 : decode cX2_put 46 = .ok (.invokevirtual 21, 3) := by decide +kernel
theorem dX2_put_49 : decode cX2_put 49 = .ok (.aload_n 0, 1) := by decide +kernel
theorem dX2_put_50 : decode cX2_put 50 = .ok (.iload 4, 2) := by decide +kernel
theorem dX2_put_52 : decode cX2_put 52 = .ok (.iconst 1, 1) := by decide +kernel
theorem dX2_put_53 : decode cX2_put 53 = .ok (.iadd, 1) := by decide +kernel
theorem dX2_put_54 : decode cX2_put 54 = .ok (.aload_n 2, 1) := by decide +kernel
theorem dX2_put_55 : decode cX2_put 55 = .ok (.getfield 29, 3) := by decide +kernel
theorem dX2_put_58 : decode cX2_put 58 = .ok (.invokevirtual 21, 3) := by decide +kernel
theorem dX2_put_61 : decode cX2_put 61 = .ok (.aload_n 0, 1) := by decide +kernel
theorem dX2_put_62 : decode cX2_put 62 = .ok (.iload 4, 2) := by decide +kernel
theorem dX2_put_64 : decode cX2_put 64 = .ok (.iconst 2, 1) := by decide +kernel
theorem dX2_put_65 : decode cX2_put 65 = .ok (.iadd, 1) := by decide +kernel
theorem dX2_put_66 : decode cX2_put 66 = .ok (.aload_n 2, 1) := by decide +kernel
theorem dX2_put_67 : decode cX2_put 67 = .ok (.getfield 32, 3) := by decide +kernel
theorem dX2_put_70 : decode cX2_put 70 = .ok (.invokevirtual 21, 3) := by decide +kernel
theorem dX2_put_73 : decode cX2_put 73 = .ok (.aload_n 0, 1) := by decide +kernel
theorem dX2_put_74 : decode cX2_put 74 = .ok (.iload 4, 2) := by decide +kernel
theorem dX2_put_76 : decode cX2_put 76 = .ok (.iconst 3, 1) := by decide +kernel
theorem dX2_put_77 : decode cX2_put 77 = .ok (.iadd, 1) := by decide +kernel
theorem dX2_put_78 : decode cX2_put 78 = .ok (.aload_n 2, 1) := by decide +kernel
theorem dX2_put_79 : decode cX2_put 79 = .ok (.getfield 35, 3) := by decide +kernel
theorem dX2_put_82 : decode cX2_put 82 = .ok (.invokevirtual 21, 3) := by decide +kernel
theorem dX2_put_85 : decode cX2_put 85 = .ok (.aload_n 0, 1) := by decide +kernel
theorem dX2_put_86 : decode cX2_put 86 = .ok (.iload 4, 2) := by decide +kernel
theorem dX2_put_88 : decode cX2_put 88 = .ok (.iconst 4, 1) := by decide +kernel
theorem dX2_put_89 : decode cX2_put 89 = .ok (.iadd, 1) := by decide +kernel
theorem dX2_put_90 : decode cX2_put 90 = .ok (.aload_n 2, 1) := by decide +kernel
theorem dX2_put_91 : decode cX2_put 91 = .ok (.getfield 38, 3) := by decide +kernel
theorem dX2_put_94 : decode cX2_put 94 = .ok (.invokestatic 42, 3) := by decide +kernel
theorem dX2_put_97 : decode cX2_put 97 = .ok (.invokevirtual 21, 3) := by decide +kernel
theorem dX2_put_100 : decode cX2_put 100 = .ok (.aload_n 0, 1) := by decide +kernel
theorem dX2_put_101 : decode cX2_put 101 = .ok (.iload 4, 2) := by decide +kernel
theorem dX2_put_103 : decode cX2_put 103 = .ok (.iconst 5, 1) := by decide +kernel
theorem dX2_put_104 : decode cX2_put 104 = .ok (.iadd, 1) := by decide +kernel
theorem dX2_put_105 : decode cX2_put 105 = .ok (.aload_n 2, 1) := by decide +kernel
theorem dX2_put_106 : decode cX2_put 106 = .ok (.getfield 46, 3) := by decide +kernel
theorem dX2_put_109 : decode cX2_put 109 = .ok (.invokestatic 42, 3) := by decide +kernel
theorem dX2_put_112 : decode cX2_put 112 = .ok (.invokevirtual 21, 3) := by decide +kernel
theorem dX2_put_115 : decode cX2_put 115 = .ok (.return_, 1) := by decide +kernel
theorem dX2_take_0 : decode cX2_take 0 = .ok (.iload_n 1, 1) := by decide +kernel
theorem dX2_take_1 : decode cX2_take 1 = .ok (.bipush 10, 2) := by decide +kernel
theorem dX2_take_3 : decode cX2_take 3 = .ok (.imul, 1) := by decide +kernel
theorem dX2_take_4 : decode cX2_take 4 = .ok (.istore_n 3, 1) := by decide +kernel
theorem dX2_take_5 : decode cX2_take 5 = .ok (.iconst 0, 1) := by decide +kernel
theorem dX2_take_6 : decode cX2_take 6 = .ok (.istore 4, 2) := by decide +kernel
theorem dX2_take_8 : decode cX2_take 8 = .ok (.iload 4, 2) := by decide +kernel
theorem dX2_take_10 : decode cX2_take 10 = .ok (.iconst 4, 1) := by decide +kernel
theorem dX2_take_11 : decode cX2_take 11 = .ok (.if_icmp .ge 23, 3) := by decide +kernel
theorem dX2_take_14 : decode cX2_take 14 = .ok (.aload_n 2, 1) := by decide +kernel
theorem dX2_take_15 : decode cX2_take 15 = .ok (.iload 4, 2) := by decide +kernel
theorem dX2_take_17 : decode cX2_take 17 = .ok (.aload_n 0, 1) := by decide +kernel
theorem dX2_take_18 : decode cX2_take 18 = .ok (.iload_n 3, 1) := by decide +kernel
theorem dX2_take_19 : decode cX2_take 19 = .ok (.iload 4, 2) := by decide +kernel
theorem dX2_take_21 : decode cX2_take 21 = .ok (.iadd, 1) := by decide +kernel
theorem dX2_take_22 : decode cX2_take 22 = .ok (.invokevirtual 49, 3) := by decide +kernel
theorem dX2_take_25 : decode cX2_take 25 = .ok (.invokevirtual 52, 3) := by decide +kernel
theorem dX2_take_28 : decode cX2_take 28 = .ok (.iinc 4 1, 3) := by decide +kernel
theorem dX2_take_31 : decode cX2_take 31 = .ok (.goto (-23), 3) := by decide +kernel
theorem dX2_take_34 : decode cX2_take 34 = .ok (.iload_n 3, 1) := by decide +kernel
theorem dX2_take_35 : decode cX2_take 35 = .ok (.iconst 4, 1) := by decide +kernel
theorem dX2_take_36 : decode cX2_take 36 = .ok (.iadd, 1) := by decide +kernel
theorem dX2_take_37 : decode cX2_take 37 = .ok (.istore 4, 2) := by decide +kernel
theorem dX2_take_39 : decode cX2_take 39 = .ok (.aload_n 2, 1) := by decide +kernel
theorem dX2_take_40 : decode cX2_take 40 = .ok (.aload_n 0, 1) := by decide +kernel
theorem dX2_take_41 : decode cX2_take 41 = .ok (.iload 4, 2) := by decide +kernel
theorem dX2_take_43 : decode cX2_take 43 = .ok (.invokevirtual 49, 3) := by decide +kernel
theorem dX2_take_46 : decode cX2_take 46 = .ok (.putfield 25, 3) := by decide +kernel
theorem dX2_take_49 : decode cX2_take 49 = .ok (.aload_n 2, 1) := by decide +kernel
theorem dX2_take_50 : decode cX2_take 50 = .ok (.aload_n 0, 1) := by decide +kernel
theorem dX2_take_51 : decode cX2_take 51 = .ok (.iload 4, 2) := by decide +kernel
theorem dX2_take_53 : decode cX2_take 53 = .ok (.iconst 1, 1) := by decide +kernel
theorem dX2_take_54 : decode cX2_take 54 = .ok (.iadd, 1) := by decide +kernel
theorem dX2_take_55 : decode cX2_take 55 = .ok (.invokevirtual 49, 3) := by decide +kernel
theorem dX2_take_58 : decode cX2_take 58 = .ok (.putfield 29, 3) := by decide +kernel
theorem dX2_take_61 : decode cX2_take 61 = .ok (.aload_n 2, 1) := by decide +kernel
theorem dX2_take_62 : decode cX2_take 62 = .ok (.aload_n 0, 1) := by decide +kernel
theorem dX2_take_63 : decode cX2_take 63 = .ok (.iload 4, 2) := by decide +kernel
theorem dX2_take_65 : decode cX2_take 65 = .ok (.iconst 2, 1) := by decide +kernel
theorem dX2_take_66 : decode cX2_take 66 = .ok (.iadd, 1) := by decide +kernel
theorem dX2_take_67 : decode cX2_take 67 = .ok (.invokevirtual 49, 3) := by decide +kernel
theorem dX2_take_70 : decode cX2_take 70 = .ok (.putfield 32, 3) := by decide +kernel
theorem dX2_take_73 : decode cX2_take 73 = .ok (.aload_n 2, 1) := by decide +kernel
theorem dX2_take_74 : decode cX2_take 74 = .ok (.aload_n 0, 1) := by decide +kernel
theorem dX2_take_75 : decode cX2_take 75 = .ok (.iload 4, 2) := by decide +kernel
theorem dX2_take_77 : decode cX2_take 77 = .ok (.iconst 3, 1) := by decide +kernel
theorem dX2_take_78 : decode cX2_take 78 = .ok (.iadd, 1) := by decide +kernel
theorem dX2_take_79 : decode cX2_take 79 = .ok (.invokevirtual 49, 3) := by decide +kernel
theorem dX2_take_82 : decode cX2_take 82 = .ok (.putfield 35, 3) := by decide +kernel
theorem dX2_take_85 : decode cX2_take 85 = .ok (.aload_n 2, 1) := by decide +kernel
theorem dX2_take_86 : decode cX2_take 86 = .ok (.aload_n 0, 1) := by decide +kernel
theorem dX2_take_87 : decode cX2_take 87 = .ok (.iload 4, 2) := by decide +kernel
theorem dX2_take_89 : decode cX2_take 89 = .ok (.iconst 4, 1) := by decide +kernel
theorem dX2_take_90 : decode cX2_take 90 = .ok (.iadd, 1) := by decide +kernel
theorem dX2_take_91 : decode cX2_take 91 = .ok (.invokevirtual 49, 3) := by decide +kernel
theorem dX2_take_94 : decode cX2_take 94 = .ok (.iconst 1, 1) := by decide +kernel
theorem dX2_take_95 : decode cX2_take 95 = .ok (.if_icmp .ne 7, 3) := by decide +kernel
theorem dX2_take_98 : decode cX2_take 98 = .ok (.iconst 1, 1) := by decide +kernel
theorem dX2_take_99 : decode cX2_take 99 = .ok (.goto 4, 3) := by decide +kernel
theorem dX2_take_102 : decode cX2_take 102 = .ok (.iconst 0, 1) := by decide +kernel
theorem dX2_take_103 : decode cX2_take 103 = .ok (.putfield 38, 3) := by decide +kernel
theorem dX2_take_106 : decode cX2_take 106 = .ok (.aload_n 2, 1) := by decide +kernel
theorem dX2_take_107 : decode cX2_take 107 = .ok (.aload_n 0, 1) := by decide +kernel
theorem dX2_take_108 : decode cX2_take 108 = .ok (.iload 4, 2) := by decide +kernel
theorem dX2_take_110 : decode cX2_take 110 = .ok (.iconst 5, 1) := by decide +kernel
theorem dX2_take_111 : decode cX2_take 111 = .ok (.iadd, 1) := by decide +kernel
theorem dX2_take_112 : decode cX2_take 112 = .ok (.invokevirtual 49, 3) := by decide +kernel
theorem dX2_take_115 : decode cX2_take 115 = .ok (.iconst 1, 1) := by decide +kernel
theorem dX2_take_116 : decode cX2_take 116 = .ok (.if_icmp .ne 7, 3) := by decide +kernel
theorem dX2_take_119 : decode cX2_take 119 = .ok (.iconst 1, 1) := by decide +kernel
theorem dX2_take_120 : decode cX2_take 120 = .ok (.goto 4, 3) := by decide +kernel
theorem dX2_take_123 : decode cX2_take 123 = .ok (.iconst 0, 1) := by decide +kernel
theorem dX2_take_124 : decode cX2_take 124 = .ok (.putfield 46, 3) := by decide +kernel
theorem dX2_take_127 : decode cX2_take 127 = .ok (.return_, 1) := by decide +kernel
theorem dX2_dropFirst_0 : decode cX2_dropFirst 0 = .ok (.bipush 10, 2) := by decide +kernel
theorem dX2_dropFirst_2 : decode cX2_dropFirst 2 = .ok (.istore_n 1, 1) := by decide +kernel
theorem dX2_dropFirst_3 : decode cX2_dropFirst 3 = .ok (.iload_n 1, 1) := by decide +kernel
theorem dX2_dropFirst_4 : decode cX2_dropFirst 4 = .ok (.aload_n 0, 1) := by decide +kernel
theorem dX2_dropFirst_5 : decode cX2_dropFirst 5 = .ok (.getfield 11, 3) := by decide +kernel
theorem dX2_dropFirst_8 : decode cX2_dropFirst 8 = .ok (.arraylength, 1) := by decide +kernel
theorem dX2_dropFirst_9 : decode cX2_dropFirst 9 = .ok (.if_icmp .ge 23, 3) := by decide +kernel
theorem dX2_dropFirst_12 : decode cX2_dropFirst 12 = .ok (.aload_n 0, 1) := by decide +kernel
theorem dX2_dropFirst_13 : decode cX2_dropFirst 13 = .ok (.iload_n 1, 1) := by decide +kernel
theorem dX2_dropFirst_14 : decode cX2_dropFirst 14 = .ok (.bipush 10, 2) := by decide +kernel
theorem dX2_dropFirst_16 : decode cX2_dropFirst 16 = .ok (.isub, 1) := by decide +kernel
theorem dX2_dropFirst_17 : decode cX2_dropFirst 17 = .ok (.aload_n 0, 1) := by decide +kernel
theorem dX2_dropFirst_18 : decode cX2_dropFirst 18 = .ok (.getfield 11, 3) := by decide +kernel
theorem dX2_dropFirst_21 : decode cX2_dropFirst 21 = .ok (.iload_n 1, 1) := by decide +kernel
theorem dX2_dropFirst_22 : decode cX2_dropFirst 22 = .ok (.iaload, 1) := by decide +kernel
theorem dX2_dropFirst_23 : decode cX2_dropFirst 23 = .ok (.invokevirtual 21, 3) := by decide +kernel
theorem dX2_dropFirst_26 : decode cX2_dropFirst 26 = .ok (.iinc 1 1, 3) := by decide +kernel
theorem dX2_dropFirst_29 : decode cX2_dropFirst 29 = .ok (.goto (-26), 3) := by decide +kernel
theorem dX2_dropFirst_32 : decode cX2_dropFirst 32 = .ok (.return_, 1) := by decide +kernel
theorem dX3_init_0 : decode cX3_init 0 = .ok (.aload_n 0, 1) := by decide +kernel
theorem dX3_init_1 : decode cX3_init 1 = .ok (.invokespecial 3, 3) := by decide +kernel
theorem dX3_init_4 : decode cX3_init 4 = .ok (.aload_n 0, 1) := by decide +kernel
theorem dX3_init_5 : decode cX3_init 5 = .ok (.bipush 6, 2) := by decide +kernel
theorem dX3_init_7 : decode cX3_init 7 = .ok (.newarray .int, 2) := by decide +kernel
theorem dX3_init_9 : decode cX3_init 9 = .ok (.putfield 9, 3) := by decide +kernel
theorem dX3_init_12 : decode cX3_init 12 = .ok (.aload_n 0, 1) := by decide +kernel
theorem dX3_init_13 : decode cX3_init 13 = .ok (.bipush 6, 2) := by decide +kernel
theorem dX3_init_15 : decode cX3_init 15 = .ok (.newarray .int, 2) := by decide +kernel
theorem dX3_init_17 : decode cX3_init 17 = .ok (.putfield 15, 3) := by decide +kernel
theorem dX3_init_20 : decode cX3_init 20 = .ok (.aload_n 0, 1) := by decide +kernel
theorem dX3_init_21 : decode cX3_init 21 = .ok (.bipush 6, 2) := by decide +kernel
theorem dX3_init_23 : decode cX3_init 23 = .ok (.newarray .boolean, 2) := by decide +kernel
theorem dX3_init_25 : decode cX3_init 25 = .ok (.putfield 18, 3) := by decide +kernel
theorem dX3_init_28 : decode cX3_init 28 = .ok (.return_, 1) := by decide +kernel
theorem dX3_isFull_0 : decode cX3_isFull 0 = .ok (.aload_n 0, 1) := by decide +kernel
theorem dX3_isFull_1 : decode cX3_isFull 1 = .ok (.getfield 22, 3) := by decide +kernel
theorem dX3_isFull_4 : decode cX3_isFull 4 = .ok (.aload_n 0, 1) := by decide +kernel
theorem dX3_isFull_5 : decode cX3_isFull 5 = .ok (.getfield 9, 3) := by decide +kernel
theorem dX3_isFull_8 : decode cX3_isFull 8 = .ok (.arraylength, 1) := by decide +kernel
theorem dX3_isFull_9 : decode cX3_isFull 9 = .ok (.if_icmp .lt 7, 3) := by decide +kernel
theorem dX3_isFull_12 : decode cX3_isFull 12 = .ok (.iconst 1, 1) := by decide +kernel
theorem dX3_isFull_13 : decode cX3_isFull 13 = .ok (.goto 4, 3) := by decide +kernel
theorem dX3_isFull_16 : decode cX3_isFull 16 = .ok (.iconst 0, 1) := by decide +kernel
theorem dX3_isFull_17 : decode cX3_isFull 17 = .ok (.ireturn, 1) := by decide +kernel
theorem dX3_add_0 : decode cX3_add 0 = .ok (.aload_n 0, 1) := by decide +kernel
theorem dX3_add_1 : decode cX3_add 1 = .ok (.aload_n 0, 1) := by decide +kernel
theorem dX3_add_2 : decode cX3_add 2 = .ok (.getfield 22, 3) := by decide +kernel
theorem dX3_add_5 : decode cX3_add 5 = .ok (.invokevirtual 26, 3) := by decide +kernel
theorem dX3_add_8 : decode cX3_add 8 = .ok (.ifCond .ne 4, 3) := by decide +kernel
theorem dX3_add_11 : decode cX3_add 11 = .ok (.return_, 1) := by decide +kernel
theorem dX3_add_12 : decode cX3_add 12 = .ok (.aload_n 0, 1) := by decide +kernel
theorem dX3_add_13 : decode cX3_add 13 = .ok (.getfield 9, 3) := by decide +kernel
theorem dX3_add_16 : decode cX3_add 16 = .ok (.aload_n 0, 1) := by decide +kernel
theorem dX3_add_17 : decode cX3_add 17 = .ok (.getfield 22, 3) := by decide +kernel
theorem dX3_add_20 : decode cX3_add 20 = .ok (.iload_n 1, 1) := by decide +kernel
theorem dX3_add_21 : decode cX3_add 21 = .ok (.iastore, 1) := by decide +kernel
theorem dX3_add_22 : decode cX3_add 22 = .ok (.aload_n 0, 1) := by decide +kernel
theorem dX3_add_23 : decode cX3_add 23 = .ok (.getfield 15, 3) := by decide +kernel
theorem dX3_add_26 : decode cX3_add 26 = .ok (.aload_n 0, 1) := by decide +kernel
theorem dX3_add_27 : decode cX3_add 27 = .ok (.getfield 22, 3) := by decide +kernel
theorem dX3_add_30 : decode cX3_add 30 = .ok (.iload_n 2, 1) := by decide +kernel
theorem dX3_add_31 : decode cX3_add 31 = .ok (.iastore, 1) := by decide +kernel
theorem dX3_add_32 : decode cX3_add 32 = .ok (.aload_n 0, 1) := by decide +kernel
theorem dX3_add_33 : decode cX3_add 33 = .ok (.getfield 18, 3) := by decide +kernel
theorem dX3_add_36 : decode cX3_add 36 = .ok (.aload_n 0, 1) := by decide +kernel
theorem dX3_add_37 : decode cX3_add 37 = .ok (.getfield 22, 3) := by decide +kernel
theorem dX3_add_40 : decode cX3_add 40 = .ok (.iload_n 3, 1) := by decide +kernel
theorem dX3_add_41 : decode cX3_add 41 = .ok (.bastore, 1) := by decide +kernel
theorem dX3_add_42 : decode cX3_add 42 = .ok (.aload_n 0, 1) := by decide +kernel
theorem dX3_add_43 : decode cX3_add 43 = .ok (.dup, 1) := by decide +kernel
theorem dX3_add_44 : decode cX3_add 44 = .ok (.getfield 22, 3) := by decide +kernel
theorem dX3_add_47 : decode cX3_add 47 = .ok (.iconst 1, 1) := by decide +kernel
theorem dX3_add_48 : decode cX3_add 48 = .ok (.iadd, 1) := by decide +kernel
theorem dX3_add_49 : decode cX3_add 49 = .ok (.putfield 22, 3) := by decide +kernel
theorem dX3_add_52 : decode cX3_add 52 = .ok (.return_, 1) := by decide +kernel
theorem dX3_holds_0 : decode cX3_holds 0 = .ok (.iload_n 1, 1) := by decide +kernel
theorem dX3_holds_1 : decode cX3_holds 1 = .ok (.ifCond .lt 34, 3) := by decide +kernel
theorem dX3_holds_4 : decode cX3_holds 4 = .ok (.iload_n 1, 1) := by decide +kernel
theorem dX3_holds_5 : decode cX3_holds 5 = .ok (.aload_n 0, 1) := by decide +kernel
theorem dX3_holds_6 : decode cX3_holds 6 = .ok (.getfield 9, 3) := by decide +kernel
theorem dX3_holds_9 : decode cX3_holds 9 = .ok (.arraylength, 1) := by decide +kernel
theorem dX3_holds_10 : decode cX3_holds 10 = .ok (.if_icmp .ge 25, 3) := by decide +kernel
theorem dX3_holds_13 : decode cX3_holds 13 = .ok (.iload_n 1, 1) := by decide +kernel
theorem dX3_holds_14 : decode cX3_holds 14 = .ok (.aload_n 0, 1) := by decide +kernel
theorem dX3_holds_15 : decode cX3_holds 15 = .ok (.getfield 15, 3) := by decide +kernel
theorem dX3_holds_18 : decode cX3_holds 18 = .ok (.arraylength, 1) := by decide +kernel
theorem dX3_holds_19 : decode cX3_holds 19 = .ok (.if_icmp .ge 16, 3) := by decide +kernel
theorem dX3_holds_22 : decode cX3_holds 22 = .ok (.iload_n 1, 1) := by decide +kernel
theorem dX3_holds_23 : decode cX3_holds 23 = .ok (.aload_n 0, 1) := by decide +kernel
theorem dX3_holds_24 : decode cX3_holds 24 = .ok (.getfield 18, 3) := by decide +kernel
theorem dX3_holds_27 : decode cX3_holds 27 = .ok (.arraylength, 1) := by decide +kernel
theorem dX3_holds_28 : decode cX3_holds 28 = .ok (.if_icmp .ge 7, 3) := by decide +kernel
theorem dX3_holds_31 : decode cX3_holds 31 = .ok (.iconst 1, 1) := by decide +kernel
theorem dX3_holds_32 : decode cX3_holds 32 = .ok (.goto 4, 3) := by decide +kernel
theorem dX3_holds_35 : decode cX3_holds 35 = .ok (.iconst 0, 1) := by decide +kernel
theorem dX3_holds_36 : decode cX3_holds 36 = .ok (.ireturn, 1) := by decide +kernel
theorem dX3_agree_0 : decode cX3_agree 0 = .ok (.iconst 0, 1) := by decide +kernel
theorem dX3_agree_1 : decode cX3_agree 1 = .ok (.istore 5, 2) := by decide +kernel
theorem dX3_agree_3 : decode cX3_agree 3 = .ok (.iload 5, 2) := by decide +kernel
theorem dX3_agree_5 : decode cX3_agree 5 = .ok (.aload_n 0, 1) := by decide +kernel
theorem dX3_agree_6 : decode cX3_agree 6 = .ok (.getfield 22, 3) := by decide +kernel
theorem dX3_agree_9 : decode cX3_agree 9 = .ok (.if_icmp .ge 76, 3) := by decide +kernel
theorem dX3_agree_12 : decode cX3_agree 12 = .ok (.aload_n 0, 1) := by decide +kernel
theorem dX3_agree_13 : decode cX3_agree 13 = .ok (.iload 5, 2) := by decide +kernel
theorem dX3_agree_15 : decode cX3_agree 15 = .ok (.invokevirtual 26, 3) := by decide +kernel
theorem dX3_agree_18 : decode cX3_agree 18 = .ok (.ifCond .eq 67, 3) := by decide +kernel
theorem dX3_agree_21 : decode cX3_agree 21 = .ok (.aload_n 0, 1) := by decide +kernel
theorem dX3_agree_22 : decode cX3_agree 22 = .ok (.getfield 9, 3) := by decide +kernel
theorem dX3_agree_25 : decode cX3_agree 25 = .ok (.iload 5, 2) := by decide +kernel
theorem dX3_agree_27 : decode cX3_agree 27 = .ok (.iaload, 1) := by decide +kernel
theorem dX3_agree_28 : decode cX3_agree 28 = .ok (.iload_n 2, 1) := by decide +kernel
theorem dX3_agree_29 : decode cX3_agree 29 = .ok (.if_icmp .eq 6, 3) := by decide +kernel
theorem dX3_agree_32 : decode cX3_agree 32 = .ok (.goto 47, 3) := by decide +kernel
theorem dX3_agree_35 : decode cX3_agree 35 = .ok (.aload_n 1, 1) := by decide +kernel
theorem dX3_agree_36 : decode cX3_agree 36 = .ok (.iload_n 3, 1) := by decide +kernel
theorem dX3_agree_37 : decode cX3_agree 37 = .ok (.iload_n 2, 1) := by decide +kernel
theorem dX3_agree_38 : decode cX3_agree 38 = .ok (.iload 4, 2) := by decide +kernel
theorem dX3_agree_40 : decode cX3_agree 40 = .ok (.aload_n 0, 1) := by decide +kernel
theorem dX3_agree_41 : decode cX3_agree 41 = .ok (.getfield 15, 3) := by decide +kernel
theorem dX3_agree_44 : decode cX3_agree 44 = .ok (.iload 5, 2) := by decide +kernel
theorem dX3_agree_46 : decode cX3_agree 46 = .ok (.iaload, 1) := by decide +kernel
theorem dX3_agree_47 : decode cX3_agree 47 = .ok (.invokevirtual 30, 3) := by decide +kernel
theorem dX3_agree_50 : decode cX3_agree 50 = .ok (.istore 6, 2) := by decide +kernel
theorem dX3_agree_52 : decode cX3_agree 52 = .ok (.aload_n 1, 1) := by decide +kernel
theorem dX3_agree_53 : decode cX3_agree 53 = .ok (.iload 6, 2) := by decide +kernel
theorem dX3_agree_55 : decode cX3_agree 55 = .ok (.aload_n 0, 1) := by decide +kernel
theorem dX3_agree_56 : decode cX3_agree 56 = .ok (.getfield 15, 3) := by decide +kernel
theorem dX3_agree_59 : decode cX3_agree 59 = .ok (.iload 5, 2) := by decide +kernel
theorem dX3_agree_61 : decode cX3_agree 61 = .ok (.iaload, 1) := by decide +kernel
theorem dX3_agree_62 : decode cX3_agree 62 = .ok (.bipush 15, 2) := by decide +kernel
theorem dX3_agree_64 : decode cX3_agree 64 = .ok (.invokevirtual 36, 3) := by decide +kernel
theorem dX3_agree_67 : decode cX3_agree 67 = .ok (.aload_n 0, 1) := by decide +kernel
theorem dX3_agree_68 : decode cX3_agree 68 = .ok (.getfield 18, 3) := by decide +kernel
theorem dX3_agree_71 : decode cX3_agree 71 = .ok (.iload 5, 2) := by decide +kernel
theorem dX3_agree_73 : decode cX3_agree 73 = .ok (.baload, 1) := by decide +kernel
theorem dX3_agree_74 : decode cX3_agree 74 = .ok (.if_icmp .eq 5, 3) := by decide +kernel
theorem dX3_agree_77 : decode cX3_agree 77 = .ok (.iconst 0, 1) := by decide +kernel
theorem dX3_agree_78 : decode cX3_agree 78 = .ok (.ireturn, 1) := by decide +kernel
theorem dX3_agree_79 : decode cX3_agree 79 = .ok (.iinc 5 1, 3) := by decide +kernel
theorem dX3_agree_82 : decode cX3_agree 82 = .ok (.goto (-79), 3) := by decide +kernel
theorem dX3_agree_85 : decode cX3_agree 85 = .ok (.iconst 1, 1) := by decide +kernel
theorem dX3_agree_86 : decode cX3_agree 86 = .ok (.ireturn, 1) := by decide +kernel
theorem dX4_init_0 : decode cX4_init 0 = .ok (.aload_n 0, 1) := by decide +kernel
theorem dX4_init_1 : decode cX4_init 1 = .ok (.invokespecial 3, 3) := by decide +kernel
theorem dX4_init_4 : decode cX4_init 4 = .ok (.aload_n 0, 1) := by decide +kernel
theorem dX4_init_5 : decode cX4_init 5 = .ok (.bipush 36, 2) := by decide +kernel
theorem dX4_init_7 : decode cX4_init 7 = .ok (.newarray .int, 2) := by decide +kernel
theorem dX4_init_9 : decode cX4_init 9 = .ok (.putfield 9, 3) := by decide +kernel
theorem dX4_init_12 : decode cX4_init 12 = .ok (.return_, 1) := by decide +kernel
theorem dX4_isFull_0 : decode cX4_isFull 0 = .ok (.aload_n 0, 1) := by decide +kernel
theorem dX4_isFull_1 : decode cX4_isFull 1 = .ok (.getfield 15, 3) := by decide +kernel
theorem dX4_isFull_4 : decode cX4_isFull 4 = .ok (.aload_n 0, 1) := by decide +kernel
theorem dX4_isFull_5 : decode cX4_isFull 5 = .ok (.getfield 9, 3) := by decide +kernel
theorem dX4_isFull_8 : decode cX4_isFull 8 = .ok (.arraylength, 1) := by decide +kernel
theorem dX4_isFull_9 : decode cX4_isFull 9 = .ok (.if_icmp .lt 7, 3) := by decide +kernel
theorem dX4_isFull_12 : decode cX4_isFull 12 = .ok (.iconst 1, 1) := by decide +kernel
theorem dX4_isFull_13 : decode cX4_isFull 13 = .ok (.goto 4, 3) := by decide +kernel
theorem dX4_isFull_16 : decode cX4_isFull 16 = .ok (.iconst 0, 1) := by decide +kernel
theorem dX4_isFull_17 : decode cX4_isFull 17 = .ok (.ireturn, 1) := by decide +kernel
theorem dX4_append_0 : decode cX4_append 0 = .ok (.aload_n 0, 1) := by decide +kernel
theorem dX4_append_1 : decode cX4_append 1 = .ok (.getfield 15, 3) := by decide +kernel
theorem dX4_append_4 : decode cX4_append 4 = .ok (.ifCond .lt 15, 3) := by decide +kernel
theorem dX4_append_7 : decode cX4_append 7 = .ok (.aload_n 0, 1) := by decide +kernel
theorem dX4_append_8 : decode cX4_append 8 = .ok (.getfield 15, 3) := by decide +kernel
theorem dX4_append_11 : decode cX4_append 11 = .ok (.aload_n 0, 1) := by decide +kernel
theorem dX4_append_12 : decode cX4_append 12 = .ok (.getfield 9, 3) := by decide +kernel
theorem dX4_append_15 : decode cX4_append 15 = .ok (.arraylength, 1) := by decide +kernel
theorem dX4_append_16 : decode cX4_append 16 = .ok (.if_icmp .lt 4, 3) := by decide +kernel
theorem dX4_append_19 : decode cX4_append 19 = .ok (.return_, 1) := by decide +kernel
theorem dX4_append_20 : decode cX4_append 20 = .ok (.aload_n 0, 1) := by decide +kernel
theorem dX4_append_21 : decode cX4_append 21 = .ok (.getfield 9, 3) := by decide +kernel
theorem dX4_append_24 : decode cX4_append 24 = .ok (.aload_n 0, 1) := by decide +kernel
theorem dX4_append_25 : decode cX4_append 25 = .ok (.getfield 15, 3) := by decide +kernel
theorem dX4_append_28 : decode cX4_append 28 = .ok (.iload_n 1, 1) := by decide +kernel
theorem dX4_append_29 : decode cX4_append 29 = .ok (.iastore, 1) := by decide +kernel
theorem dX4_append_30 : decode cX4_append 30 = .ok (.aload_n 0, 1) := by decide +kernel
theorem dX4_append_31 : decode cX4_append 31 = .ok (.dup, 1) := by decide +kernel
theorem dX4_append_32 : decode cX4_append 32 = .ok (.getfield 15, 3) := by decide +kernel
theorem dX4_append_35 : decode cX4_append 35 = .ok (.iconst 1, 1) := by decide +kernel
theorem dX4_append_36 : decode cX4_append 36 = .ok (.iadd, 1) := by decide +kernel
theorem dX4_append_37 : decode cX4_append 37 = .ok (.putfield 15, 3) := by decide +kernel
theorem dX4_append_40 : decode cX4_append 40 = .ok (.return_, 1) := by decide +kernel
theorem dX4_letterAt_0 : decode cX4_letterAt 0 = .ok (.iload_n 1, 1) := by decide +kernel
theorem dX4_letterAt_1 : decode cX4_letterAt 1 = .ok (.ifCond .lt 21, 3) := by decide +kernel
theorem dX4_letterAt_4 : decode cX4_letterAt 4 = .ok (.iload_n 1, 1) := by decide +kernel
theorem dX4_letterAt_5 : decode cX4_letterAt 5 = .ok (.aload_n 0, 1) := by decide +kernel
theorem dX4_letterAt_6 : decode cX4_letterAt 6 = .ok (.getfield 9, 3) := by decide +kernel
theorem dX4_letterAt_9 : decode cX4_letterAt 9 = .ok (.arraylength, 1) := by decide +kernel
theorem dX4_letterAt_10 : decode cX4_letterAt 10 = .ok (.if_icmp .ge 12, 3) := by decide +kernel
theorem dX4_letterAt_13 : decode cX4_letterAt 13 = .ok (.aload_n 0, 1) := by decide +kernel
theorem dX4_letterAt_14 : decode cX4_letterAt 14 = .ok (.getfield 9, 3) := by decide +kernel
theorem dX4_letterAt_17 : decode cX4_letterAt 17 = .ok (.iload_n 1, 1) := by decide +kernel
theorem dX4_letterAt_18 : decode cX4_letterAt 18 = .ok (.iaload, 1) := by decide +kernel
theorem dX4_letterAt_19 : decode cX4_letterAt 19 = .ok (.goto 4, 3) := by decide +kernel
theorem dX4_letterAt_22 : decode cX4_letterAt 22 = .ok (.iconst 0, 1) := by decide +kernel
theorem dX4_letterAt_23 : decode cX4_letterAt 23 = .ok (.ireturn, 1) := by decide +kernel
theorem dX4_figureAt_0 : decode cX4_figureAt 0 = .ok (.aload_n 0, 1) := by decide +kernel
theorem dX4_figureAt_1 : decode cX4_figureAt 1 = .ok (.iload_n 1, 1) := by decide +kernel
theorem dX4_figureAt_2 : decode cX4_figureAt 2 = .ok (.invokevirtual 19, 3) := by decide +kernel
theorem dX4_figureAt_5 : decode cX4_figureAt 5 = .ok (.bipush 48, 2) := by decide +kernel
theorem dX4_figureAt_7 : decode cX4_figureAt 7 = .ok (.isub, 1) := by decide +kernel
theorem dX4_figureAt_8 : decode cX4_figureAt 8 = .ok (.ireturn, 1) := by decide +kernel
theorem dX4_firstFault_0 : decode cX4_firstFault 0 = .ok (.iconst 0, 1) := by decide +kernel
theorem dX4_firstFault_1 : decode cX4_firstFault 1 = .ok (.istore_n 1, 1) := by decide +kernel
theorem dX4_firstFault_2 : decode cX4_firstFault 2 = .ok (.iconst 0, 1) := by decide +kernel
theorem dX4_firstFault_3 : decode cX4_firstFault 3 = .ok (.istore_n 2, 1) := by decide +kernel
theorem dX4_firstFault_4 : decode cX4_firstFault 4 = .ok (.iconst 0, 1) := by decide +kernel
theorem dX4_firstFault_5 : decode cX4_firstFault 5 = .ok (.istore_n 3, 1) := by decide +kernel
theorem dX4_firstFault_6 : decode cX4_firstFault 6 = .ok (.iload_n 3, 1) := by decide +kernel
theorem dX4_firstFault_7 : decode cX4_firstFault 7 = .ok (.aload_n 0, 1) := by decide +kernel
theorem dX4_firstFault_8 : decode cX4_firstFault 8 = .ok (.getfield 15, 3) := by decide +kernel
theorem dX4_firstFault_11 : decode cX4_firstFault 11 = .ok (.if_icmp .ge 47, 3) := by decide +kernel
theorem dX4_firstFault_14 : decode cX4_firstFault 14 = .ok (.aload_n 0, 1) := by decide +kernel
theorem dX4_firstFault_15 : decode cX4_firstFault 15 = .ok (.iload_n 3, 1) := by decide +kernel
theorem dX4_firstFault_16 : decode cX4_firstFault 16 = .ok (.iload_n 1, 1) := by decide +kernel
theorem dX4_firstFault_17 : decode cX4_firstFault 17 = .ok (.iload_n 2, 1) := by decide +kernel
theorem dX4_firstFault_18 : decode cX4_firstFault 18 = .ok (.invokevirtual 23, 3) := by decide +kernel
theorem dX4_firstFault_21 : decode cX4_firstFault 21 = .ok (.ifCond .ne 5, 3) := by decide +kernel
theorem dX4_firstFault_24 : decode cX4_firstFault 24 = .ok (.iload_n 3, 1) := by decide +kernel
theorem dX4_firstFault_25 : decode cX4_firstFault 25 = .ok (.ireturn, 1) := by decide +kernel
theorem dX4_firstFault_26 : decode cX4_firstFault 26 = .ok (.aload_n 0, 1) := by decide +kernel
theorem dX4_firstFault_27 : decode cX4_firstFault 27 = .ok (.iload_n 3, 1) := by decide +kernel
theorem dX4_firstFault_28 : decode cX4_firstFault 28 = .ok (.invokevirtual 19, 3) := by decide +kernel
theorem dX4_firstFault_31 : decode cX4_firstFault 31 = .ok (.bipush 87, 2) := by decide +kernel
theorem dX4_firstFault_33 : decode cX4_firstFault 33 = .ok (.if_icmp .ne 6, 3) := by decide +kernel
theorem dX4_firstFault_36 : decode cX4_firstFault 36 = .ok (.iinc 1 1, 3) := by decide +kernel
theorem dX4_firstFault_39 : decode cX4_firstFault 39 = .ok (.aload_n 0, 1) := by decide +kernel
theorem dX4_firstFault_40 : decode cX4_firstFault 40 = .ok (.iload_n 3, 1) := by decide +kernel
theorem dX4_firstFault_41 : decode cX4_firstFault 41 = .ok (.invokevirtual 19, 3) := by decide +kernel
theorem dX4_firstFault_44 : decode cX4_firstFault 44 = .ok (.bipush 84, 2) := by decide +kernel
theorem dX4_firstFault_46 : decode cX4_firstFault 46 = .ok (.if_icmp .ne 6, 3) := by decide +kernel
theorem dX4_firstFault_49 : decode cX4_firstFault 49 = .ok (.iinc 2 1, 3) := by decide +kernel
theorem dX4_firstFault_52 : decode cX4_firstFault 52 = .ok (.iinc 3 1, 3) := by decide +kernel
theorem dX4_firstFault_55 : decode cX4_firstFault 55 = .ok (.goto (-49), 3) := by decide +kernel
theorem dX4_firstFault_58 : decode cX4_firstFault 58 = .ok (.aload_n 0, 1) := by decide +kernel
theorem dX4_firstFault_59 : decode cX4_firstFault 59 = .ok (.getfield 15, 3) := by decide +kernel
theorem dX4_firstFault_62 : decode cX4_firstFault 62 = .ok (.ifCond .eq 12, 3) := by decide +kernel
theorem dX4_firstFault_65 : decode cX4_firstFault 65 = .ok (.aload_n 0, 1) := by decide +kernel
theorem dX4_firstFault_66 : decode cX4_firstFault 66 = .ok (.getfield 15, 3) := by decide +kernel
theorem dX4_firstFault_69 : decode cX4_firstFault 69 = .ok (.iconst 3, 1) := by decide +kernel
theorem dX4_firstFault_70 : decode cX4_firstFault 70 = .ok (.irem, 1) := by decide +kernel
theorem dX4_firstFault_71 : decode cX4_firstFault 71 = .ok (.ifCond .eq 10, 3) := by decide +kernel
theorem dX4_firstFault_74 : decode cX4_firstFault 74 = .ok (.aload_n 0, 1) := by decide +kernel
theorem dX4_firstFault_75 : decode cX4_firstFault 75 = .ok (.getfield 15, 3) := by decide +kernel
theorem dX4_firstFault_78 : decode cX4_firstFault 78 = .ok (.goto 5, 3) := by decide +kernel
theorem dX4_firstFault_81 : decode cX4_firstFault 81 = .ok (.bipush (-9), 2) := by decide +kernel
theorem dX4_firstFault_83 : decode cX4_firstFault 83 = .ok (.ireturn, 1) := by decide +kernel
theorem dX4_fits_0 : decode cX4_fits 0 = .ok (.aload_n 0, 1) := by decide +kernel
theorem dX4_fits_1 : decode cX4_fits 1 = .ok (.iload_n 1, 1) := by decide +kernel
theorem dX4_fits_2 : decode cX4_fits 2 = .ok (.invokevirtual 19, 3) := by decide +kernel
theorem dX4_fits_5 : decode cX4_fits 5 = .ok (.istore 4, 2) := by decide +kernel
theorem dX4_fits_7 : decode cX4_fits 7 = .ok (.iload_n 1, 1) := by decide +kernel
theorem dX4_fits_8 : decode cX4_fits 8 = .ok (.ifCond .ne 16, 3) := by decide +kernel
theorem dX4_fits_11 : decode cX4_fits 11 = .ok (.iload 4, 2) := by decide +kernel
theorem dX4_fits_13 : decode cX4_fits 13 = .ok (.bipush 68, 2) := by decide +kernel
theorem dX4_fits_15 : decode cX4_fits 15 = .ok (.if_icmp .ne 7, 3) := by decide +kernel
theorem dX4_fits_18 : decode cX4_fits 18 = .ok (.iconst 1, 1) := by decide +kernel
theorem dX4_fits_19 : decode cX4_fits 19 = .ok (.goto 4, 3) := by decide +kernel
theorem dX4_fits_22 : decode cX4_fits 22 = .ok (.iconst 0, 1) := by decide +kernel
theorem dX4_fits_23 : decode cX4_fits 23 = .ok (.ireturn, 1) := by decide +kernel
theorem dX4_fits_24 : decode cX4_fits 24 = .ok (.iload_n 1, 1) := by decide +kernel
theorem dX4_fits_25 : decode cX4_fits 25 = .ok (.iconst 3, 1) := by decide +kernel
theorem dX4_fits_26 : decode cX4_fits 26 = .ok (.irem, 1) := by decide +kernel
theorem dX4_fits_27 : decode cX4_fits 27 = .ok (.lookupswitch 75 #[(0, 25), (1, 55)], 25) := by decide +kernel
theorem dX4_fits_52 : decode cX4_fits 52 = .ok (.iload 4, 2) := by decide +kernel
theorem dX4_fits_54 : decode cX4_fits 54 = .ok (.bipush 87, 2) := by decide +kernel
theorem dX4_fits_56 : decode cX4_fits 56 = .ok (.if_icmp .ne 8, 3) := by decide +kernel
theorem dX4_fits_59 : decode cX4_fits 59 = .ok (.iload_n 2, 1) := by decide +kernel
theorem dX4_fits_60 : decode cX4_fits 60 = .ok (.iconst 4, 1) := by decide +kernel
theorem dX4_fits_61 : decode cX4_fits 61 = .ok (.if_icmp .lt 15, 3) := by decide +kernel
theorem dX4_fits_64 : decode cX4_fits 64 = .ok (.iload 4, 2) := by decide +kernel
theorem dX4_fits_66 : decode cX4_fits 66 = .ok (.bipush 84, 2) := by decide +kernel
theorem dX4_fits_68 : decode cX4_fits 68 = .ok (.if_icmp .ne 12, 3) := by decide +kernel
theorem dX4_fits_71 : decode cX4_fits 71 = .ok (.iload_n 3, 1) := by decide +kernel
theorem dX4_fits_72 : decode cX4_fits 72 = .ok (.iconst 4, 1) := by decide +kernel
theorem dX4_fits_73 : decode cX4_fits 73 = .ok (.if_icmp .ge 7, 3) := by decide +kernel
theorem dX4_fits_76 : decode cX4_fits 76 = .ok (.iconst 1, 1) := by decide +kernel
theorem dX4_fits_77 : decode cX4_fits 77 = .ok (.goto 4, 3) := by decide +kernel
theorem dX4_fits_80 : decode cX4_fits 80 = .ok (.iconst 0, 1) := by decide +kernel
theorem dX4_fits_81 : decode cX4_fits 81 = .ok (.ireturn, 1) := by decide +kernel
theorem dX4_fits_82 : decode cX4_fits 82 = .ok (.iload 4, 2) := by decide +kernel
theorem dX4_fits_84 : decode cX4_fits 84 = .ok (.bipush 48, 2) := by decide +kernel
theorem dX4_fits_86 : decode cX4_fits 86 = .ok (.if_icmp .lt 14, 3) := by decide +kernel
theorem dX4_fits_89 : decode cX4_fits 89 = .ok (.iload 4, 2) := by decide +kernel
theorem dX4_fits_91 : decode cX4_fits 91 = .ok (.bipush 57, 2) := by decide +kernel
theorem dX4_fits_93 : decode cX4_fits 93 = .ok (.if_icmp .gt 7, 3) := by decide +kernel
theorem dX4_fits_96 : decode cX4_fits 96 = .ok (.iconst 1, 1) := by decide +kernel
theorem dX4_fits_97 : decode cX4_fits 97 = .ok (.goto 4, 3) := by decide +kernel
theorem dX4_fits_100 : decode cX4_fits 100 = .ok (.iconst 0, 1) := by decide +kernel
theorem dX4_fits_101 : decode cX4_fits 101 = .ok (.ireturn, 1) := by decide +kernel
theorem dX4_fits_102 : decode cX4_fits 102 = .ok (.aload_n 0, 1) := by decide +kernel
theorem dX4_fits_103 : decode cX4_fits 103 = .ok (.aload_n 0, 1) := by decide +kernel
theorem dX4_fits_104 : decode cX4_fits 104 = .ok (.iload_n 1, 1) := by decide +kernel
theorem dX4_fits_105 : decode cX4_fits 105 = .ok (.iconst 2, 1) := by decide +kernel
theorem dX4_fits_106 : decode cX4_fits 106 = .ok (.isub, 1) := by decide +kernel
theorem dX4_fits_107 : decode cX4_fits 107 = .ok (.invokevirtual 19, 3) := by decide +kernel
theorem dX4_fits_110 : decode cX4_fits 110 = .ok (.iload 4, 2) := by decide +kernel
theorem dX4_fits_112 : decode cX4_fits 112 = .ok (.invokevirtual 27, 3) := by decide +kernel
theorem dX4_fits_115 : decode cX4_fits 115 = .ok (.ireturn, 1) := by decide +kernel
theorem dX4_endsPart_0 : decode cX4_endsPart 0 = .ok (.iload_n 1, 1) := by decide +kernel
theorem dX4_endsPart_1 : decode cX4_endsPart 1 = .ok (.bipush 87, 2) := by decide +kernel
theorem dX4_endsPart_3 : decode cX4_endsPart 3 = .ok (.if_icmp .ne 21, 3) := by decide +kernel
theorem dX4_endsPart_6 : decode cX4_endsPart 6 = .ok (.iload_n 2, 1) := by decide +kernel
theorem dX4_endsPart_7 : decode cX4_endsPart 7 = .ok (.bipush 48, 2) := by decide +kernel
theorem dX4_endsPart_9 : decode cX4_endsPart 9 = .ok (.if_icmp .lt 13, 3) := by decide +kernel
theorem dX4_endsPart_12 : decode cX4_endsPart 12 = .ok (.iload_n 2, 1) := by decide +kernel
theorem dX4_endsPart_13 : decode cX4_endsPart 13 = .ok (.bipush 51, 2) := by decide +kernel
theorem dX4_endsPart_15 : decode cX4_endsPart 15 = .ok (.if_icmp .gt 7, 3) := by decide +kernel
theorem dX4_endsPart_18 : decode cX4_endsPart 18 = .ok (.iconst 1, 1) := by decide +kernel
theorem dX4_endsPart_19 : decode cX4_endsPart 19 = .ok (.goto 4, 3) := by decide +kernel
theorem dX4_endsPart_22 : decode cX4_endsPart 22 = .ok (.iconst 0, 1) := by decide +kernel
theorem dX4_endsPart_23 : decode cX4_endsPart 23 = .ok (.ireturn, 1) := by decide +kernel
theorem dX4_endsPart_24 : decode cX4_endsPart 24 = .ok (.iload_n 1, 1) := by decide +kernel
theorem dX4_endsPart_25 : decode cX4_endsPart 25 = .ok (.bipush 84, 2) := by decide +kernel
theorem dX4_endsPart_27 : decode cX4_endsPart 27 = .ok (.if_icmp .ne 21, 3) := by decide +kernel
theorem dX4_endsPart_30 : decode cX4_endsPart 30 = .ok (.iload_n 2, 1) := by decide +kernel
theorem dX4_endsPart_31 : decode cX4_endsPart 31 = .ok (.bipush 49, 2) := by decide +kernel
theorem dX4_endsPart_33 : decode cX4_endsPart 33 = .ok (.if_icmp .lt 13, 3) := by decide +kernel
theorem dX4_endsPart_36 : decode cX4_endsPart 36 = .ok (.iload_n 2, 1) := by decide +kernel
theorem dX4_endsPart_37 : decode cX4_endsPart 37 = .ok (.bipush 57, 2) := by decide +kernel
theorem dX4_endsPart_39 : decode cX4_endsPart 39 = .ok (.if_icmp .gt 7, 3) := by decide +kernel
theorem dX4_endsPart_42 : decode cX4_endsPart 42 = .ok (.iconst 1, 1) := by decide +kernel
theorem dX4_endsPart_43 : decode cX4_endsPart 43 = .ok (.goto 4, 3) := by decide +kernel
theorem dX4_endsPart_46 : decode cX4_endsPart 46 = .ok (.iconst 0, 1) := by decide +kernel
theorem dX4_endsPart_47 : decode cX4_endsPart 47 = .ok (.ireturn, 1) := by decide +kernel
theorem dX4_endsPart_48 : decode cX4_endsPart 48 = .ok (.iload_n 2, 1) := by decide +kernel
theorem dX4_endsPart_49 : decode cX4_endsPart 49 = .ok (.bipush 48, 2) := by decide +kernel
theorem dX4_endsPart_51 : decode cX4_endsPart 51 = .ok (.if_icmp .lt 13, 3) := by decide +kernel
theorem dX4_endsPart_54 : decode cX4_endsPart 54 = .ok (.iload_n 2, 1) := by decide +kernel
theorem dX4_endsPart_55 : decode cX4_endsPart 55 = .ok (.bipush 57, 2) := by decide +kernel
theorem dX4_endsPart_57 : decode cX4_endsPart 57 = .ok (.if_icmp .gt 7, 3) := by decide +kernel
theorem dX4_endsPart_60 : decode cX4_endsPart 60 = .ok (.iconst 1, 1) := by decide +kernel
theorem dX4_endsPart_61 : decode cX4_endsPart 61 = .ok (.goto 4, 3) := by decide +kernel
theorem dX4_endsPart_64 : decode cX4_endsPart 64 = .ok (.iconst 0, 1) := by decide +kernel
theorem dX4_endsPart_65 : decode cX4_endsPart 65 = .ok (.ireturn, 1) := by decide +kernel
theorem dX5_init_0 : decode cX5_init 0 = .ok (.aload_n 0, 1) := by decide +kernel
theorem dX5_init_1 : decode cX5_init 1 = .ok (.invokespecial 3, 3) := by decide +kernel
theorem dX5_init_4 : decode cX5_init 4 = .ok (.aload_n 0, 1) := by decide +kernel
theorem dX5_init_5 : decode cX5_init 5 = .ok (.new 9, 3) := by decide +kernel
theorem dX5_init_8 : decode cX5_init 8 = .ok (.dup, 1) := by decide +kernel
theorem dX5_init_9 : decode cX5_init 9 = .ok (.invokespecial 11, 3) := by decide +kernel
theorem dX5_init_12 : decode cX5_init 12 = .ok (.putfield 12, 3) := by decide +kernel
theorem dX5_init_15 : decode cX5_init 15 = .ok (.aload_n 0, 1) := by decide +kernel
theorem dX5_init_16 : decode cX5_init 16 = .ok (.new 16, 3) := by decide +kernel
theorem dX5_init_19 : decode cX5_init 19 = .ok (.dup, 1) := by decide +kernel
theorem dX5_init_20 : decode cX5_init 20 = .ok (.invokespecial 18, 3) := by decide +kernel
theorem dX5_init_23 : decode cX5_init 23 = .ok (.putfield 19, 3) := by decide +kernel
theorem dX5_init_26 : decode cX5_init 26 = .ok (.aload_n 0, 1) := by decide +kernel
theorem dX5_init_27 : decode cX5_init 27 = .ok (.new 23, 3) := by decide +kernel
theorem dX5_init_30 : decode cX5_init 30 = .ok (.dup, 1) := by decide +kernel
theorem dX5_init_31 : decode cX5_init 31 = .ok (.invokespecial 25, 3) := by decide +kernel
theorem dX5_init_34 : decode cX5_init 34 = .ok (.putfield 26, 3) := by decide +kernel
theorem dX5_init_37 : decode cX5_init 37 = .ok (.aload_n 0, 1) := by decide +kernel
theorem dX5_init_38 : decode cX5_init 38 = .ok (.new 23, 3) := by decide +kernel
theorem dX5_init_41 : decode cX5_init 41 = .ok (.dup, 1) := by decide +kernel
theorem dX5_init_42 : decode cX5_init 42 = .ok (.invokespecial 25, 3) := by decide +kernel
theorem dX5_init_45 : decode cX5_init 45 = .ok (.putfield 30, 3) := by decide +kernel
theorem dX5_init_48 : decode cX5_init 48 = .ok (.aload_n 0, 1) := by decide +kernel
theorem dX5_init_49 : decode cX5_init 49 = .ok (.new 33, 3) := by decide +kernel
theorem dX5_init_52 : decode cX5_init 52 = .ok (.dup, 1) := by decide +kernel
theorem dX5_init_53 : decode cX5_init 53 = .ok (.bipush 14, 2) := by decide +kernel
theorem dX5_init_55 : decode cX5_init 55 = .ok (.invokespecial 35, 3) := by decide +kernel
theorem dX5_init_58 : decode cX5_init 58 = .ok (.putfield 38, 3) := by decide +kernel
theorem dX5_init_61 : decode cX5_init 61 = .ok (.aload_n 0, 1) := by decide +kernel
theorem dX5_init_62 : decode cX5_init 62 = .ok (.new 33, 3) := by decide +kernel
theorem dX5_init_65 : decode cX5_init 65 = .ok (.dup, 1) := by decide +kernel
theorem dX5_init_66 : decode cX5_init 66 = .ok (.iconst 2, 1) := by decide +kernel
theorem dX5_init_67 : decode cX5_init 67 = .ok (.invokespecial 35, 3) := by decide +kernel
theorem dX5_init_70 : decode cX5_init 70 = .ok (.putfield 42, 3) := by decide +kernel
theorem dX5_init_73 : decode cX5_init 73 = .ok (.aload_n 0, 1) := by decide +kernel
theorem dX5_init_74 : decode cX5_init 74 = .ok (.iconst 2, 1) := by decide +kernel
theorem dX5_init_75 : decode cX5_init 75 = .ok (.newarray .boolean, 2) := by decide +kernel
theorem dX5_init_77 : decode cX5_init 77 = .ok (.putfield 45, 3) := by decide +kernel
theorem dX5_init_80 : decode cX5_init 80 = .ok (.aload_n 0, 1) := by decide +kernel
theorem dX5_init_81 : decode cX5_init 81 = .ok (.new 49, 3) := by decide +kernel
theorem dX5_init_84 : decode cX5_init 84 = .ok (.dup, 1) := by decide +kernel
theorem dX5_init_85 : decode cX5_init 85 = .ok (.invokespecial 51, 3) := by decide +kernel
theorem dX5_init_88 : decode cX5_init 88 = .ok (.putfield 52, 3) := by decide +kernel
theorem dX5_init_91 : decode cX5_init 91 = .ok (.return_, 1) := by decide +kernel
theorem dX5_write_0 : decode cX5_write 0 = .ok (.iload_n 1, 1) := by decide +kernel
theorem dX5_write_1 : decode cX5_write 1 = .ok (.ifCond .lt 10, 3) := by decide +kernel
theorem dX5_write_4 : decode cX5_write 4 = .ok (.iload_n 1, 1) := by decide +kernel
theorem dX5_write_5 : decode cX5_write 5 = .ok (.sipush 255, 3) := by decide +kernel
theorem dX5_write_8 : decode cX5_write 8 = .ok (.if_icmp .le 6, 3) := by decide +kernel
theorem dX5_write_11 : decode cX5_write 11 = .ok (.bipush (-2), 2) := by decide +kernel
theorem dX5_write_13 : decode cX5_write 13 = .ok (.ireturn, 1) := by decide +kernel
theorem dX5_write_14 : decode cX5_write 14 = .ok (.aload_n 0, 1) := by decide +kernel
theorem dX5_write_15 : decode cX5_write 15 = .ok (.getfield 12, 3) := by decide +kernel
theorem dX5_write_18 : decode cX5_write 18 = .ok (.invokevirtual 56, 3) := by decide +kernel
theorem dX5_write_21 : decode cX5_write 21 = .ok (.ifCond .eq 6, 3) := by decide +kernel
theorem dX5_write_24 : decode cX5_write 24 = .ok (.bipush (-4), 2) := by decide +kernel
theorem dX5_write_26 : decode cX5_write 26 = .ok (.ireturn, 1) := by decide +kernel
theorem dX5_write_27 : decode cX5_write 27 = .ok (.aload_n 0, 1) := by decide +kernel
theorem dX5_write_28 : decode cX5_write 28 = .ok (.getfield 12, 3) := by decide +kernel
theorem dX5_write_31 : decode cX5_write 31 = .ok (.iload_n 1, 1) := by decide +kernel
theorem dX5_write_32 : decode cX5_write 32 = .ok (.invokevirtual 60, 3) := by decide +kernel
theorem dX5_write_35 : decode cX5_write 35 = .ok (.aload_n 0, 1) := by decide +kernel
theorem dX5_write_36 : decode cX5_write 36 = .ok (.getfield 12, 3) := by decide +kernel
theorem dX5_write_39 : decode cX5_write 39 = .ok (.getfield 63, 3) := by decide +kernel
theorem dX5_write_42 : decode cX5_write 42 = .ok (.ireturn, 1) := by decide +kernel
theorem dX5_wipe_0 : decode cX5_wipe 0 = .ok (.aload_n 0, 1) := by decide +kernel
theorem dX5_wipe_1 : decode cX5_wipe 1 = .ok (.getfield 12, 3) := by decide +kernel
theorem dX5_wipe_4 : decode cX5_wipe 4 = .ok (.getfield 63, 3) := by decide +kernel
theorem dX5_wipe_7 : decode cX5_wipe 7 = .ok (.istore_n 1, 1) := by decide +kernel
theorem dX5_wipe_8 : decode cX5_wipe 8 = .ok (.aload_n 0, 1) := by decide +kernel
theorem dX5_wipe_9 : decode cX5_wipe 9 = .ok (.getfield 12, 3) := by decide +kernel
theorem dX5_wipe_12 : decode cX5_wipe 12 = .ok (.iconst 0, 1) := by decide +kernel
theorem dX5_wipe_13 : decode cX5_wipe 13 = .ok (.putfield 63, 3) := by decide +kernel
theorem dX5_wipe_16 : decode cX5_wipe 16 = .ok (.iload_n 1, 1) := by decide +kernel
theorem dX5_wipe_17 : decode cX5_wipe 17 = .ok (.ireturn, 1) := by decide +kernel
theorem dX5_fault_0 : decode cX5_fault 0 = .ok (.aload_n 0, 1) := by decide +kernel
theorem dX5_fault_1 : decode cX5_fault 1 = .ok (.getfield 12, 3) := by decide +kernel
theorem dX5_fault_4 : decode cX5_fault 4 = .ok (.invokevirtual 67, 3) := by decide +kernel
theorem dX5_fault_7 : decode cX5_fault 7 = .ok (.ireturn, 1) := by decide +kernel
theorem dX5_walk_0 : decode cX5_walk 0 = .ok (.aload_n 0, 1) := by decide +kernel
theorem dX5_walk_1 : decode cX5_walk 1 = .ok (.getfield 12, 3) := by decide +kernel
theorem dX5_walk_4 : decode cX5_walk 4 = .ok (.invokevirtual 67, 3) := by decide +kernel
theorem dX5_walk_7 : decode cX5_walk 7 = .ok (.bipush (-9), 2) := by decide +kernel
theorem dX5_walk_9 : decode cX5_walk 9 = .ok (.if_icmp .eq 6, 3) := by decide +kernel
theorem dX5_walk_12 : decode cX5_walk 12 = .ok (.bipush (-3), 2) := by decide +kernel
theorem dX5_walk_14 : decode cX5_walk 14 = .ok (.ireturn, 1) := by decide +kernel
theorem dX5_walk_15 : decode cX5_walk 15 = .ok (.aload_n 0, 1) := by decide +kernel
theorem dX5_walk_16 : decode cX5_walk 16 = .ok (.getfield 26, 3) := by decide +kernel
theorem dX5_walk_19 : decode cX5_walk 19 = .ok (.aload_n 0, 1) := by decide +kernel
theorem dX5_walk_20 : decode cX5_walk 20 = .ok (.getfield 12, 3) := by decide +kernel
theorem dX5_walk_23 : decode cX5_walk 23 = .ok (.iconst 1, 1) := by decide +kernel
theorem dX5_walk_24 : decode cX5_walk 24 = .ok (.invokevirtual 71, 3) := by decide +kernel
theorem dX5_walk_27 : decode cX5_walk 27 = .ok (.aload_n 0, 1) := by decide +kernel
theorem dX5_walk_28 : decode cX5_walk 28 = .ok (.getfield 12, 3) := by decide +kernel
theorem dX5_walk_31 : decode cX5_walk 31 = .ok (.iconst 2, 1) := by decide +kernel
theorem dX5_walk_32 : decode cX5_walk 32 = .ok (.invokevirtual 71, 3) := by decide +kernel
theorem dX5_walk_35 : decode cX5_walk 35 = .ok (.invokevirtual 75, 3) := by decide +kernel
theorem dX5_walk_38 : decode cX5_walk 38 = .ok (.aload_n 0, 1) := by decide +kernel
theorem dX5_walk_39 : decode cX5_walk 39 = .ok (.getfield 19, 3) := by decide +kernel
theorem dX5_walk_42 : decode cX5_walk 42 = .ok (.invokevirtual 79, 3) := by decide +kernel
theorem dX5_walk_45 : decode cX5_walk 45 = .ok (.iconst 3, 1) := by decide +kernel
theorem dX5_walk_46 : decode cX5_walk 46 = .ok (.istore_n 1, 1) := by decide +kernel
theorem dX5_walk_47 : decode cX5_walk 47 = .ok (.iload_n 1, 1) := by decide +kernel
theorem dX5_walk_48 : decode cX5_walk 48 = .ok (.aload_n 0, 1) := by decide +kernel
theorem dX5_walk_49 : decode cX5_walk 49 = .ok (.getfield 12, 3) := by decide +kernel
theorem dX5_walk_52 : decode cX5_walk 52 = .ok (.getfield 63, 3) := by decide +kernel
theorem dX5_walk_55 : decode cX5_walk 55 = .ok (.if_icmp .ge 41, 3) := by decide +kernel
theorem dX5_walk_58 : decode cX5_walk 58 = .ok (.aload_n 0, 1) := by decide +kernel
theorem dX5_walk_59 : decode cX5_walk 59 = .ok (.aload_n 0, 1) := by decide +kernel
theorem dX5_walk_60 : decode cX5_walk 60 = .ok (.getfield 12, 3) := by decide +kernel
theorem dX5_walk_63 : decode cX5_walk 63 = .ok (.iload_n 1, 1) := by decide +kernel
theorem dX5_walk_64 : decode cX5_walk 64 = .ok (.invokevirtual 82, 3) := by decide +kernel
theorem dX5_walk_67 : decode cX5_walk 67 = .ok (.aload_n 0, 1) := by decide +kernel
theorem dX5_walk_68 : decode cX5_walk 68 = .ok (.getfield 12, 3) := by decide +kernel
theorem dX5_walk_71 : decode cX5_walk 71 = .ok (.iload_n 1, 1) := by decide +kernel
theorem dX5_walk_72 : decode cX5_walk 72 = .ok (.iconst 1, 1) := by decide +kernel
theorem dX5_walk_73 : decode cX5_walk 73 = .ok (.iadd, 1) := by decide +kernel
theorem dX5_walk_74 : decode cX5_walk 74 = .ok (.invokevirtual 71, 3) := by decide +kernel
theorem dX5_walk_77 : decode cX5_walk 77 = .ok (.aload_n 0, 1) := by decide +kernel
theorem dX5_walk_78 : decode cX5_walk 78 = .ok (.getfield 12, 3) := by decide +kernel
theorem dX5_walk_81 : decode cX5_walk 81 = .ok (.iload_n 1, 1) := by decide +kernel
theorem dX5_walk_82 : decode cX5_walk 82 = .ok (.iconst 2, 1) := by decide +kernel
theorem dX5_walk_83 : decode cX5_walk 83 = .ok (.iadd, 1) := by decide +kernel
theorem dX5_walk_84 : decode cX5_walk 84 = .ok (.invokevirtual 71, 3) := by decide +kernel
theorem dX5_walk_87 : decode cX5_walk 87 = .ok (.invokevirtual 85, 3) := by decide +kernel
theorem dX5_walk_90 : decode cX5_walk 90 = .ok (.iinc 1 3, 3) := by decide +kernel
theorem dX5_walk_93 : decode cX5_walk 93 = .ok (.goto (-46), 3) := by decide +kernel
theorem dX5_walk_96 : decode cX5_walk 96 = .ok (.aload_n 0, 1) := by decide +kernel
theorem dX5_walk_97 : decode cX5_walk 97 = .ok (.iconst 0, 1) := by decide +kernel
theorem dX5_walk_98 : decode cX5_walk 98 = .ok (.putfield 89, 3) := by decide +kernel
theorem dX5_walk_101 : decode cX5_walk 101 = .ok (.iconst 0, 1) := by decide +kernel
theorem dX5_walk_102 : decode cX5_walk 102 = .ok (.istore_n 1, 1) := by decide +kernel
theorem dX5_walk_103 : decode cX5_walk 103 = .ok (.iload_n 1, 1) := by decide +kernel
theorem dX5_walk_104 : decode cX5_walk 104 = .ok (.aload_n 0, 1) := by decide +kernel
theorem dX5_walk_105 : decode cX5_walk 105 = .ok (.getfield 45, 3) := by decide +kernel
theorem dX5_walk_108 : decode cX5_walk 108 = .ok (.arraylength, 1) := by decide +kernel
theorem dX5_walk_109 : decode cX5_walk 109 = .ok (.if_icmp .ge 16, 3) := by decide +kernel
theorem dX5_walk_112 : decode cX5_walk 112 = .ok (.aload_n 0, 1) := by decide +kernel
theorem dX5_walk_113 : decode cX5_walk 113 = .ok (.getfield 45, 3) := by decide +kernel
theorem dX5_walk_116 : decode cX5_walk 116 = .ok (.iload_n 1, 1) := by decide +kernel
theorem dX5_walk_117 : decode cX5_walk 117 = .ok (.iconst 0, 1) := by decide +kernel
theorem dX5_walk_118 : decode cX5_walk 118 = .ok (.bastore, 1) := by decide +kernel
theorem dX5_walk_119 : decode cX5_walk 119 = .ok (.iinc 1 1, 3) := by decide +kernel
theorem dX5_walk_122 : decode cX5_walk 122 = .ok (.goto (-19), 3) := by decide +kernel
theorem dX5_walk_125 : decode cX5_walk 125 = .ok (.bipush 10, 2) := by decide +kernel
theorem dX5_walk_127 : decode cX5_walk 127 = .ok (.aload_n 0, 1) := by decide +kernel
theorem dX5_walk_128 : decode cX5_walk 128 = .ok (.getfield 19, 3) := by decide +kernel
theorem dX5_walk_131 : decode cX5_walk 131 = .ok (.getfield 92, 3) := by decide +kernel
theorem dX5_walk_134 : decode cX5_walk 134 = .ok (.imul, 1) := by decide +kernel
theorem dX5_walk_135 : decode cX5_walk 135 = .ok (.aload_n 0, 1) := by decide +kernel
theorem dX5_walk_136 : decode cX5_walk 136 = .ok (.getfield 19, 3) := by decide +kernel
theorem dX5_walk_139 : decode cX5_walk 139 = .ok (.getfield 95, 3) := by decide +kernel
theorem dX5_walk_142 : decode cX5_walk 142 = .ok (.iadd, 1) := by decide +kernel
theorem dX5_walk_143 : decode cX5_walk 143 = .ok (.ireturn, 1) := by decide +kernel
theorem dX5_tellPart_0 : decode cX5_tellPart 0 = .ok (.iload_n 1, 1) := by decide +kernel
theorem dX5_tellPart_1 : decode cX5_tellPart 1 = .ok (.bipush 87, 2) := by decide +kernel
theorem dX5_tellPart_3 : decode cX5_tellPart 3 = .ok (.if_icmp .ne 29, 3) := by decide +kernel
theorem dX5_tellPart_6 : decode cX5_tellPart 6 = .ok (.aload_n 0, 1) := by decide +kernel
theorem dX5_tellPart_7 : decode cX5_tellPart 7 = .ok (.getfield 26, 3) := by decide +kernel
theorem dX5_tellPart_10 : decode cX5_tellPart 10 = .ok (.aload_n 0, 1) := by decide +kernel
theorem dX5_tellPart_11 : decode cX5_tellPart 11 = .ok (.getfield 19, 3) := by decide +kernel
theorem dX5_tellPart_14 : decode cX5_tellPart 14 = .ok (.getfield 92, 3) := by decide +kernel
theorem dX5_tellPart_17 : decode cX5_tellPart 17 = .ok (.iload_n 2, 1) := by decide +kernel
theorem dX5_tellPart_18 : decode cX5_tellPart 18 = .ok (.invokevirtual 98, 3) := by decide +kernel
theorem dX5_tellPart_21 : decode cX5_tellPart 21 = .ok (.aload_n 0, 1) := by decide +kernel
theorem dX5_tellPart_22 : decode cX5_tellPart 22 = .ok (.getfield 19, 3) := by decide +kernel
theorem dX5_tellPart_25 : decode cX5_tellPart 25 = .ok (.iload_n 3, 1) := by decide +kernel
theorem dX5_tellPart_26 : decode cX5_tellPart 26 = .ok (.invokevirtual 101, 3) := by decide +kernel
theorem dX5_tellPart_29 : decode cX5_tellPart 29 = .ok (.goto 12, 3) := by decide +kernel
theorem dX5_tellPart_32 : decode cX5_tellPart 32 = .ok (.aload_n 0, 1) := by decide +kernel
theorem dX5_tellPart_33 : decode cX5_tellPart 33 = .ok (.getfield 19, 3) := by decide +kernel
theorem dX5_tellPart_36 : decode cX5_tellPart 36 = .ok (.iload_n 2, 1) := by decide +kernel
theorem dX5_tellPart_37 : decode cX5_tellPart 37 = .ok (.iload_n 3, 1) := by decide +kernel
theorem dX5_tellPart_38 : decode cX5_tellPart 38 = .ok (.invokevirtual 104, 3) := by decide +kernel
theorem dX5_tellPart_41 : decode cX5_tellPart 41 = .ok (.return_, 1) := by decide +kernel
theorem dX5_word_0 : decode cX5_word 0 = .ok (.aload_n 0, 1) := by decide +kernel
theorem dX5_word_1 : decode cX5_word 1 = .ok (.getfield 19, 3) := by decide +kernel
theorem dX5_word_4 : decode cX5_word 4 = .ok (.iload_n 1, 1) := by decide +kernel
theorem dX5_word_5 : decode cX5_word 5 = .ok (.invokevirtual 107, 3) := by decide +kernel
theorem dX5_word_8 : decode cX5_word 8 = .ok (.ifCond .ne 5, 3) := by decide +kernel
theorem dX5_word_11 : decode cX5_word 11 = .ok (.iconst (-1), 1) := by decide +kernel
theorem dX5_word_12 : decode cX5_word 12 = .ok (.ireturn, 1) := by decide +kernel
theorem dX5_word_13 : decode cX5_word 13 = .ok (.iload_n 2, 1) := by decide +kernel
theorem dX5_word_14 : decode cX5_word 14 = .ok (.tableswitch 111 0 5 #[38, 47, 56, 76, 99, 105], 38) := by decide +kernel
theorem dX5_word_52 : decode cX5_word 52 = .ok (.aload_n 0, 1) := by decide +kernel
theorem dX5_word_53 : decode cX5_word 53 = .ok (.getfield 26, 3) := by decide +kernel
theorem dX5_word_56 : decode cX5_word 56 = .ok (.iload_n 1, 1) := by decide +kernel
theorem dX5_word_57 : decode cX5_word 57 = .ok (.invokevirtual 111, 3) := by decide +kernel
theorem dX5_word_60 : decode cX5_word 60 = .ok (.ireturn, 1) := by decide +kernel
theorem dX5_word_61 : decode cX5_word 61 = .ok (.aload_n 0, 1) := by decide +kernel
theorem dX5_word_62 : decode cX5_word 62 = .ok (.getfield 19, 3) := by decide +kernel
theorem dX5_word_65 : decode cX5_word 65 = .ok (.iload_n 1, 1) := by decide +kernel
theorem dX5_word_66 : decode cX5_word 66 = .ok (.invokevirtual 114, 3) := by decide +kernel
theorem dX5_word_69 : decode cX5_word 69 = .ok (.ireturn, 1) := by decide +kernel
theorem dX5_word_70 : decode cX5_word 70 = .ok (.aload_n 0, 1) := by decide +kernel
theorem dX5_word_71 : decode cX5_word 71 = .ok (.getfield 19, 3) := by decide +kernel
theorem dX5_word_74 : decode cX5_word 74 = .ok (.aload_n 0, 1) := by decide +kernel
theorem dX5_word_75 : decode cX5_word 75 = .ok (.getfield 26, 3) := by decide +kernel
theorem dX5_word_78 : decode cX5_word 78 = .ok (.iload_n 1, 1) := by decide +kernel
theorem dX5_word_79 : decode cX5_word 79 = .ok (.aload_n 0, 1) := by decide +kernel
theorem dX5_word_80 : decode cX5_word 80 = .ok (.getfield 26, 3) := by decide +kernel
theorem dX5_word_83 : decode cX5_word 83 = .ok (.getfield 117, 3) := by decide +kernel
theorem dX5_word_86 : decode cX5_word 86 = .ok (.invokevirtual 120, 3) := by decide +kernel
theorem dX5_word_89 : decode cX5_word 89 = .ok (.ireturn, 1) := by decide +kernel
theorem dX5_word_90 : decode cX5_word 90 = .ok (.aload_n 0, 1) := by decide +kernel
theorem dX5_word_91 : decode cX5_word 91 = .ok (.getfield 19, 3) := by decide +kernel
theorem dX5_word_94 : decode cX5_word 94 = .ok (.aload_n 0, 1) := by decide +kernel
theorem dX5_word_95 : decode cX5_word 95 = .ok (.getfield 26, 3) := by decide +kernel
theorem dX5_word_98 : decode cX5_word 98 = .ok (.iload_n 1, 1) := by decide +kernel
theorem dX5_word_99 : decode cX5_word 99 = .ok (.aload_n 0, 1) := by decide +kernel
theorem dX5_word_100 : decode cX5_word 100 = .ok (.getfield 26, 3) := by decide +kernel
theorem dX5_word_103 : decode cX5_word 103 = .ok (.getfield 117, 3) := by decide +kernel
theorem dX5_word_106 : decode cX5_word 106 = .ok (.invokevirtual 124, 3) := by decide +kernel
theorem dX5_word_109 : decode cX5_word 109 = .ok (.invokestatic 128, 3) := by decide +kernel
theorem dX5_word_112 : decode cX5_word 112 = .ok (.ireturn, 1) := by decide +kernel
theorem dX5_word_113 : decode cX5_word 113 = .ok (.aload_n 0, 1) := by decide +kernel
theorem dX5_word_114 : decode cX5_word 114 = .ok (.iload_n 1, 1) := by decide +kernel
theorem dX5_word_115 : decode cX5_word 115 = .ok (.invokevirtual 132, 3) := by decide +kernel
theorem dX5_word_118 : decode cX5_word 118 = .ok (.ireturn, 1) := by decide +kernel
theorem dX5_word_119 : decode cX5_word 119 = .ok (.aload_n 0, 1) := by decide +kernel
theorem dX5_word_120 : decode cX5_word 120 = .ok (.iload_n 1, 1) := by decide +kernel
theorem dX5_word_121 : decode cX5_word 121 = .ok (.invokevirtual 135, 3) := by decide +kernel
theorem dX5_word_124 : decode cX5_word 124 = .ok (.ireturn, 1) := by decide +kernel
theorem dX5_word_125 : decode cX5_word 125 = .ok (.bipush (-2), 2) := by decide +kernel
theorem dX5_word_127 : decode cX5_word 127 = .ok (.ireturn, 1) := by decide +kernel
theorem dX5_farOf_0 : decode cX5_farOf 0 = .ok (.bipush 9, 2) := by decide +kernel
theorem dX5_farOf_2 : decode cX5_farOf 2 = .ok (.istore_n 2, 1) := by decide +kernel
theorem dX5_farOf_3 : decode cX5_farOf 3 = .ok (.iload_n 2, 1) := by decide +kernel
theorem dX5_farOf_4 : decode cX5_farOf 4 = .ok (.ifCond .lt 27, 3) := by decide +kernel
theorem dX5_farOf_7 : decode cX5_farOf 7 = .ok (.aload_n 0, 1) := by decide +kernel
theorem dX5_farOf_8 : decode cX5_farOf 8 = .ok (.getfield 19, 3) := by decide +kernel
theorem dX5_farOf_11 : decode cX5_farOf 11 = .ok (.aload_n 0, 1) := by decide +kernel
theorem dX5_farOf_12 : decode cX5_farOf 12 = .ok (.getfield 26, 3) := by decide +kernel
theorem dX5_farOf_15 : decode cX5_farOf 15 = .ok (.iload_n 1, 1) := by decide +kernel
theorem dX5_farOf_16 : decode cX5_farOf 16 = .ok (.iload_n 2, 1) := by decide +kernel
theorem dX5_farOf_17 : decode cX5_farOf 17 = .ok (.invokevirtual 124, 3) := by decide +kernel
theorem dX5_farOf_20 : decode cX5_farOf 20 = .ok (.ifCond .eq 5, 3) := by decide +kernel
theorem dX5_farOf_23 : decode cX5_farOf 23 = .ok (.iload_n 2, 1) := by decide +kernel
theorem dX5_farOf_24 : decode cX5_farOf 24 = .ok (.ireturn, 1) := by decide +kernel
theorem dX5_farOf_25 : decode cX5_farOf 25 = .ok (.iinc 2 (-1), 3) := by decide +kernel
theorem dX5_farOf_28 : decode cX5_farOf 28 = .ok (.goto (-25), 3) := by decide +kernel
theorem dX5_farOf_31 : decode cX5_farOf 31 = .ok (.bipush (-9), 2) := by decide +kernel
theorem dX5_farOf_33 : decode cX5_farOf 33 = .ok (.ireturn, 1) := by decide +kernel
theorem dX5_spentOf_0 : decode cX5_spentOf 0 = .ok (.aload_n 0, 1) := by decide +kernel
theorem dX5_spentOf_1 : decode cX5_spentOf 1 = .ok (.getfield 26, 3) := by decide +kernel
theorem dX5_spentOf_4 : decode cX5_spentOf 4 = .ok (.iload_n 1, 1) := by decide +kernel
theorem dX5_spentOf_5 : decode cX5_spentOf 5 = .ok (.invokevirtual 111, 3) := by decide +kernel
theorem dX5_spentOf_8 : decode cX5_spentOf 8 = .ok (.istore_n 2, 1) := by decide +kernel
theorem dX5_spentOf_9 : decode cX5_spentOf 9 = .ok (.aload_n 0, 1) := by decide +kernel
theorem dX5_spentOf_10 : decode cX5_spentOf 10 = .ok (.getfield 19, 3) := by decide +kernel
theorem dX5_spentOf_13 : decode cX5_spentOf 13 = .ok (.iload_n 1, 1) := by decide +kernel
theorem dX5_spentOf_14 : decode cX5_spentOf 14 = .ok (.invokevirtual 114, 3) := by decide +kernel
theorem dX5_spentOf_17 : decode cX5_spentOf 17 = .ok (.iconst 2, 1) := by decide +kernel
theorem dX5_spentOf_18 : decode cX5_spentOf 18 = .ok (.if_icmp .ne 11, 3) := by decide +kernel
theorem dX5_spentOf_21 : decode cX5_spentOf 21 = .ok (.iload_n 2, 1) := by decide +kernel
theorem dX5_spentOf_22 : decode cX5_spentOf 22 = .ok (.iconst 1, 1) := by decide +kernel
theorem dX5_spentOf_23 : decode cX5_spentOf 23 = .ok (.iadd, 1) := by decide +kernel
theorem dX5_spentOf_24 : decode cX5_spentOf 24 = .ok (.iconst 2, 1) := by decide +kernel
theorem dX5_spentOf_25 : decode cX5_spentOf 25 = .ok (.idiv, 1) := by decide +kernel
theorem dX5_spentOf_26 : decode cX5_spentOf 26 = .ok (.goto 4, 3) := by decide +kernel
theorem dX5_spentOf_29 : decode cX5_spentOf 29 = .ok (.iload_n 2, 1) := by decide +kernel
theorem dX5_spentOf_30 : decode cX5_spentOf 30 = .ok (.ireturn, 1) := by decide +kernel
theorem dX5_thing_0 : decode cX5_thing 0 = .ok (.aload_n 0, 1) := by decide +kernel
theorem dX5_thing_1 : decode cX5_thing 1 = .ok (.getfield 19, 3) := by decide +kernel
theorem dX5_thing_4 : decode cX5_thing 4 = .ok (.iload_n 1, 1) := by decide +kernel
theorem dX5_thing_5 : decode cX5_thing 5 = .ok (.invokevirtual 138, 3) := by decide +kernel
theorem dX5_thing_8 : decode cX5_thing 8 = .ok (.ifCond .ne 5, 3) := by decide +kernel
theorem dX5_thing_11 : decode cX5_thing 11 = .ok (.iconst (-1), 1) := by decide +kernel
theorem dX5_thing_12 : decode cX5_thing 12 = .ok (.ireturn, 1) := by decide +kernel
theorem dX5_thing_13 : decode cX5_thing 13 = .ok (.iload_n 2, 1) := by decide +kernel
theorem dX5_thing_14 : decode cX5_thing 14 = .ok (.lookupswitch 44 #[(0, 26), (1, 35)], 26) := by decide +kernel
theorem dX5_thing_40 : decode cX5_thing 40 = .ok (.aload_n 0, 1) := by decide +kernel
theorem dX5_thing_41 : decode cX5_thing 41 = .ok (.getfield 19, 3) := by decide +kernel
theorem dX5_thing_44 : decode cX5_thing 44 = .ok (.iload_n 1, 1) := by decide +kernel
theorem dX5_thing_45 : decode cX5_thing 45 = .ok (.invokevirtual 141, 3) := by decide +kernel
theorem dX5_thing_48 : decode cX5_thing 48 = .ok (.ireturn, 1) := by decide +kernel
theorem dX5_thing_49 : decode cX5_thing 49 = .ok (.aload_n 0, 1) := by decide +kernel
theorem dX5_thing_50 : decode cX5_thing 50 = .ok (.getfield 19, 3) := by decide +kernel
theorem dX5_thing_53 : decode cX5_thing 53 = .ok (.iload_n 1, 1) := by decide +kernel
theorem dX5_thing_54 : decode cX5_thing 54 = .ok (.invokevirtual 144, 3) := by decide +kernel
theorem dX5_thing_57 : decode cX5_thing 57 = .ok (.ireturn, 1) := by decide +kernel
theorem dX5_thing_58 : decode cX5_thing 58 = .ok (.bipush (-2), 2) := by decide +kernel
theorem dX5_thing_60 : decode cX5_thing 60 = .ok (.ireturn, 1) := by decide +kernel
theorem dX5_pull_0 : decode cX5_pull 0 = .ok (.iload_n 1, 1) := by decide +kernel
theorem dX5_pull_1 : decode cX5_pull 1 = .ok (.invokestatic 147, 3) := by decide +kernel
theorem dX5_pull_4 : decode cX5_pull 4 = .ok (.ifCond .eq 6, 3) := by decide +kernel
theorem dX5_pull_7 : decode cX5_pull 7 = .ok (.bipush (-2), 2) := by decide +kernel
theorem dX5_pull_9 : decode cX5_pull 9 = .ok (.ireturn, 1) := by decide +kernel
theorem dX5_pull_10 : decode cX5_pull 10 = .ok (.aload_n 0, 1) := by decide +kernel
theorem dX5_pull_11 : decode cX5_pull 11 = .ok (.getfield 19, 3) := by decide +kernel
theorem dX5_pull_14 : decode cX5_pull 14 = .ok (.iload_n 1, 1) := by decide +kernel
theorem dX5_pull_15 : decode cX5_pull 15 = .ok (.bipush 15, 2) := by decide +kernel
theorem dX5_pull_17 : decode cX5_pull 17 = .ok (.invokevirtual 150, 3) := by decide +kernel
theorem dX5_pull_20 : decode cX5_pull 20 = .ok (.ireturn, 1) := by decide +kernel
theorem dX5_call_0 : decode cX5_call 0 = .ok (.aload_n 0, 1) := by decide +kernel
theorem dX5_call_1 : decode cX5_call 1 = .ok (.getfield 19, 3) := by decide +kernel
theorem dX5_call_4 : decode cX5_call 4 = .ok (.iload_n 1, 1) := by decide +kernel
theorem dX5_call_5 : decode cX5_call 5 = .ok (.invokevirtual 107, 3) := by decide +kernel
theorem dX5_call_8 : decode cX5_call 8 = .ok (.ifCond .ne 5, 3) := by decide +kernel
theorem dX5_call_11 : decode cX5_call 11 = .ok (.iconst (-1), 1) := by decide +kernel
theorem dX5_call_12 : decode cX5_call 12 = .ok (.ireturn, 1) := by decide +kernel
theorem dX5_call_13 : decode cX5_call 13 = .ok (.aload_n 0, 1) := by decide +kernel
theorem dX5_call_14 : decode cX5_call 14 = .ok (.getfield 26, 3) := by decide +kernel
theorem dX5_call_17 : decode cX5_call 17 = .ok (.getfield 154, 3) := by decide +kernel
theorem dX5_call_20 : decode cX5_call 20 = .ok (.ifCond .eq 6, 3) := by decide +kernel
theorem dX5_call_23 : decode cX5_call 23 = .ok (.bipush (-3), 2) := by decide +kernel
theorem dX5_call_25 : decode cX5_call 25 = .ok (.ireturn, 1) := by decide +kernel
theorem dX5_call_26 : decode cX5_call 26 = .ok (.aload_n 0, 1) := by decide +kernel
theorem dX5_call_27 : decode cX5_call 27 = .ok (.invokevirtual 158, 3) := by decide +kernel
theorem dX5_call_30 : decode cX5_call 30 = .ok (.aload_n 0, 1) := by decide +kernel
theorem dX5_call_31 : decode cX5_call 31 = .ok (.getfield 19, 3) := by decide +kernel
theorem dX5_call_34 : decode cX5_call 34 = .ok (.aload_n 0, 1) := by decide +kernel
theorem dX5_call_35 : decode cX5_call 35 = .ok (.getfield 26, 3) := by decide +kernel
theorem dX5_call_38 : decode cX5_call 38 = .ok (.iload_n 1, 1) := by decide +kernel
theorem dX5_call_39 : decode cX5_call 39 = .ok (.invokevirtual 161, 3) := by decide +kernel
theorem dX5_call_42 : decode cX5_call 42 = .ok (.invokestatic 128, 3) := by decide +kernel
theorem dX5_call_45 : decode cX5_call 45 = .ok (.ireturn, 1) := by decide +kernel
theorem dX5_pay_0 : decode cX5_pay 0 = .ok (.aload_n 0, 1) := by decide +kernel
theorem dX5_pay_1 : decode cX5_pay 1 = .ok (.getfield 26, 3) := by decide +kernel
theorem dX5_pay_4 : decode cX5_pay 4 = .ok (.invokevirtual 165, 3) := by decide +kernel
theorem dX5_pay_7 : decode cX5_pay 7 = .ok (.ifCond .ne 6, 3) := by decide +kernel
theorem dX5_pay_10 : decode cX5_pay 10 = .ok (.bipush (-3), 2) := by decide +kernel
theorem dX5_pay_12 : decode cX5_pay 12 = .ok (.ireturn, 1) := by decide +kernel
theorem dX5_pay_13 : decode cX5_pay 13 = .ok (.aload_n 0, 1) := by decide +kernel
theorem dX5_pay_14 : decode cX5_pay 14 = .ok (.invokevirtual 158, 3) := by decide +kernel
theorem dX5_pay_17 : decode cX5_pay 17 = .ok (.aload_n 0, 1) := by decide +kernel
theorem dX5_pay_18 : decode cX5_pay 18 = .ok (.getfield 26, 3) := by decide +kernel
theorem dX5_pay_21 : decode cX5_pay 21 = .ok (.getfield 168, 3) := by decide +kernel
theorem dX5_pay_24 : decode cX5_pay 24 = .ok (.istore_n 1, 1) := by decide +kernel
theorem dX5_pay_25 : decode cX5_pay 25 = .ok (.aload_n 0, 1) := by decide +kernel
theorem dX5_pay_26 : decode cX5_pay 26 = .ok (.getfield 26, 3) := by decide +kernel
theorem dX5_pay_29 : decode cX5_pay 29 = .ok (.invokevirtual 171, 3) := by decide +kernel
theorem dX5_pay_32 : decode cX5_pay 32 = .ok (.aload_n 0, 1) := by decide +kernel
theorem dX5_pay_33 : decode cX5_pay 33 = .ok (.getfield 26, 3) := by decide +kernel
theorem dX5_pay_36 : decode cX5_pay 36 = .ok (.iload_n 1, 1) := by decide +kernel
theorem dX5_pay_37 : decode cX5_pay 37 = .ok (.invokevirtual 111, 3) := by decide +kernel
theorem dX5_pay_40 : decode cX5_pay 40 = .ok (.ireturn, 1) := by decide +kernel
theorem dX5_run_0 : decode cX5_run 0 = .ok (.iload_n 1, 1) := by decide +kernel
theorem dX5_run_1 : decode cX5_run 1 = .ok (.iconst 1, 1) := by decide +kernel
theorem dX5_run_2 : decode cX5_run 2 = .ok (.if_icmp .lt 9, 3) := by decide +kernel
theorem dX5_run_5 : decode cX5_run 5 = .ok (.iload_n 1, 1) := by decide +kernel
theorem dX5_run_6 : decode cX5_run 6 = .ok (.bipush 9, 2) := by decide +kernel
theorem dX5_run_8 : decode cX5_run 8 = .ok (.if_icmp .le 6, 3) := by decide +kernel
theorem dX5_run_11 : decode cX5_run 11 = .ok (.bipush (-2), 2) := by decide +kernel
theorem dX5_run_13 : decode cX5_run 13 = .ok (.ireturn, 1) := by decide +kernel
theorem dX5_run_14 : decode cX5_run 14 = .ok (.aload_n 0, 1) := by decide +kernel
theorem dX5_run_15 : decode cX5_run 15 = .ok (.getfield 26, 3) := by decide +kernel
theorem dX5_run_18 : decode cX5_run 18 = .ok (.getfield 154, 3) := by decide +kernel
theorem dX5_run_21 : decode cX5_run 21 = .ok (.ifCond .eq 6, 3) := by decide +kernel
theorem dX5_run_24 : decode cX5_run 24 = .ok (.bipush (-3), 2) := by decide +kernel
theorem dX5_run_26 : decode cX5_run 26 = .ok (.ireturn, 1) := by decide +kernel
theorem dX5_run_27 : decode cX5_run 27 = .ok (.aload_n 0, 1) := by decide +kernel
theorem dX5_run_28 : decode cX5_run 28 = .ok (.invokevirtual 158, 3) := by decide +kernel
theorem dX5_run_31 : decode cX5_run 31 = .ok (.aload_n 0, 1) := by decide +kernel
theorem dX5_run_32 : decode cX5_run 32 = .ok (.getfield 26, 3) := by decide +kernel
theorem dX5_run_35 : decode cX5_run 35 = .ok (.iload_n 1, 1) := by decide +kernel
theorem dX5_run_36 : decode cX5_run 36 = .ok (.invokevirtual 174, 3) := by decide +kernel
theorem dX5_run_39 : decode cX5_run 39 = .ok (.aload_n 0, 1) := by decide +kernel
theorem dX5_run_40 : decode cX5_run 40 = .ok (.getfield 26, 3) := by decide +kernel
theorem dX5_run_43 : decode cX5_run 43 = .ok (.getfield 117, 3) := by decide +kernel
theorem dX5_run_46 : decode cX5_run 46 = .ok (.ireturn, 1) := by decide +kernel
theorem dX5_lead_0 : decode cX5_lead 0 = .ok (.aload_n 0, 1) := by decide +kernel
theorem dX5_lead_1 : decode cX5_lead 1 = .ok (.getfield 26, 3) := by decide +kernel
theorem dX5_lead_4 : decode cX5_lead 4 = .ok (.invokevirtual 177, 3) := by decide +kernel
theorem dX5_lead_7 : decode cX5_lead 7 = .ok (.ifCond .ne 6, 3) := by decide +kernel
theorem dX5_lead_10 : decode cX5_lead 10 = .ok (.bipush (-3), 2) := by decide +kernel
theorem dX5_lead_12 : decode cX5_lead 12 = .ok (.ireturn, 1) := by decide +kernel
theorem dX5_lead_13 : decode cX5_lead 13 = .ok (.aload_n 0, 1) := by decide +kernel
theorem dX5_lead_14 : decode cX5_lead 14 = .ok (.invokevirtual 158, 3) := by decide +kernel
theorem dX5_lead_17 : decode cX5_lead 17 = .ok (.aload_n 0, 1) := by decide +kernel
theorem dX5_lead_18 : decode cX5_lead 18 = .ok (.getfield 19, 3) := by decide +kernel
theorem dX5_lead_21 : decode cX5_lead 21 = .ok (.aload_n 0, 1) := by decide +kernel
theorem dX5_lead_22 : decode cX5_lead 22 = .ok (.getfield 26, 3) := by decide +kernel
theorem dX5_lead_25 : decode cX5_lead 25 = .ok (.invokevirtual 180, 3) := by decide +kernel
theorem dX5_lead_28 : decode cX5_lead 28 = .ok (.aload_n 0, 1) := by decide +kernel
theorem dX5_lead_29 : decode cX5_lead 29 = .ok (.getfield 26, 3) := by decide +kernel
theorem dX5_lead_32 : decode cX5_lead 32 = .ok (.getfield 154, 3) := by decide +kernel
theorem dX5_lead_35 : decode cX5_lead 35 = .ok (.invokestatic 128, 3) := by decide +kernel
theorem dX5_lead_38 : decode cX5_lead 38 = .ok (.ireturn, 1) := by decide +kernel
theorem dX5_hunger_0 : decode cX5_hunger 0 = .ok (.aload_n 0, 1) := by decide +kernel
theorem dX5_hunger_1 : decode cX5_hunger 1 = .ok (.invokevirtual 158, 3) := by decide +kernel
theorem dX5_hunger_4 : decode cX5_hunger 4 = .ok (.aload_n 0, 1) := by decide +kernel
theorem dX5_hunger_5 : decode cX5_hunger 5 = .ok (.getfield 26, 3) := by decide +kernel
theorem dX5_hunger_8 : decode cX5_hunger 8 = .ok (.aload_n 0, 1) := by decide +kernel
theorem dX5_hunger_9 : decode cX5_hunger 9 = .ok (.getfield 26, 3) := by decide +kernel
theorem dX5_hunger_12 : decode cX5_hunger 12 = .ok (.getfield 184, 3) := by decide +kernel
theorem dX5_hunger_15 : decode cX5_hunger 15 = .ok (.ifCond .ne 7, 3) := by decide +kernel
theorem dX5_hunger_18 : decode cX5_hunger 18 = .ok (.iconst 1, 1) := by decide +kernel
theorem dX5_hunger_19 : decode cX5_hunger 19 = .ok (.goto 4, 3) := by decide +kernel
theorem dX5_hunger_22 : decode cX5_hunger 22 = .ok (.iconst 0, 1) := by decide +kernel
theorem dX5_hunger_23 : decode cX5_hunger 23 = .ok (.putfield 184, 3) := by decide +kernel
theorem dX5_hunger_26 : decode cX5_hunger 26 = .ok (.aload_n 0, 1) := by decide +kernel
theorem dX5_hunger_27 : decode cX5_hunger 27 = .ok (.getfield 26, 3) := by decide +kernel
theorem dX5_hunger_30 : decode cX5_hunger 30 = .ok (.getfield 184, 3) := by decide +kernel
theorem dX5_hunger_33 : decode cX5_hunger 33 = .ok (.invokestatic 128, 3) := by decide +kernel
theorem dX5_hunger_36 : decode cX5_hunger 36 = .ok (.ireturn, 1) := by decide +kernel
theorem dX5_undo_0 : decode cX5_undo 0 = .ok (.aload_n 0, 1) := by decide +kernel
theorem dX5_undo_1 : decode cX5_undo 1 = .ok (.getfield 89, 3) := by decide +kernel
theorem dX5_undo_4 : decode cX5_undo 4 = .ok (.iconst 1, 1) := by decide +kernel
theorem dX5_undo_5 : decode cX5_undo 5 = .ok (.if_icmp .ge 6, 3) := by decide +kernel
theorem dX5_undo_8 : decode cX5_undo 8 = .ok (.bipush (-3), 2) := by decide +kernel
theorem dX5_undo_10 : decode cX5_undo 10 = .ok (.ireturn, 1) := by decide +kernel
theorem dX5_undo_11 : decode cX5_undo 11 = .ok (.aload_n 0, 1) := by decide +kernel
theorem dX5_undo_12 : decode cX5_undo 12 = .ok (.dup, 1) := by decide +kernel
theorem dX5_undo_13 : decode cX5_undo 13 = .ok (.getfield 89, 3) := by decide +kernel
theorem dX5_undo_16 : decode cX5_undo 16 = .ok (.iconst 1, 1) := by decide +kernel
theorem dX5_undo_17 : decode cX5_undo 17 = .ok (.isub, 1) := by decide +kernel
theorem dX5_undo_18 : decode cX5_undo 18 = .ok (.putfield 89, 3) := by decide +kernel
theorem dX5_undo_21 : decode cX5_undo 21 = .ok (.aload_n 0, 1) := by decide +kernel
theorem dX5_undo_22 : decode cX5_undo 22 = .ok (.getfield 38, 3) := by decide +kernel
theorem dX5_undo_25 : decode cX5_undo 25 = .ok (.aload_n 0, 1) := by decide +kernel
theorem dX5_undo_26 : decode cX5_undo 26 = .ok (.getfield 89, 3) := by decide +kernel
theorem dX5_undo_29 : decode cX5_undo 29 = .ok (.aload_n 0, 1) := by decide +kernel
theorem dX5_undo_30 : decode cX5_undo 30 = .ok (.getfield 26, 3) := by decide +kernel
theorem dX5_undo_33 : decode cX5_undo 33 = .ok (.invokevirtual 187, 3) := by decide +kernel
theorem dX5_undo_36 : decode cX5_undo 36 = .ok (.aload_n 0, 1) := by decide +kernel
theorem dX5_undo_37 : decode cX5_undo 37 = .ok (.getfield 89, 3) := by decide +kernel
theorem dX5_undo_40 : decode cX5_undo 40 = .ok (.ireturn, 1) := by decide +kernel
theorem dX5_remember_0 : decode cX5_remember 0 = .ok (.aload_n 0, 1) := by decide +kernel
theorem dX5_remember_1 : decode cX5_remember 1 = .ok (.getfield 89, 3) := by decide +kernel
theorem dX5_remember_4 : decode cX5_remember 4 = .ok (.bipush 14, 2) := by decide +kernel
theorem dX5_remember_6 : decode cX5_remember 6 = .ok (.if_icmp .lt 16, 3) := by decide +kernel
theorem dX5_remember_9 : decode cX5_remember 9 = .ok (.aload_n 0, 1) := by decide +kernel
theorem dX5_remember_10 : decode cX5_remember 10 = .ok (.getfield 38, 3) := by decide +kernel
theorem dX5_remember_13 : decode cX5_remember 13 = .ok (.invokevirtual 191, 3) := by decide +kernel
theorem dX5_remember_16 : decode cX5_remember 16 = .ok (.aload_n 0, 1) := by decide +kernel
theorem dX5_remember_17 : decode cX5_remember 17 = .ok (.bipush 13, 2) := by decide +kernel
theorem dX5_remember_19 : decode cX5_remember 19 = .ok (.putfield 89, 3) := by decide +kernel
theorem dX5_remember_22 : decode cX5_remember 22 = .ok (.aload_n 0, 1) := by decide +kernel
theorem dX5_remember_23 : decode cX5_remember 23 = .ok (.getfield 38, 3) := by decide +kernel
theorem dX5_remember_26 : decode cX5_remember 26 = .ok (.aload_n 0, 1) := by decide +kernel
theorem dX5_remember_27 : decode cX5_remember 27 = .ok (.getfield 89, 3) := by decide +kernel
theorem dX5_remember_30 : decode cX5_remember 30 = .ok (.aload_n 0, 1) := by decide +kernel
theorem dX5_remember_31 : decode cX5_remember 31 = .ok (.getfield 26, 3) := by decide +kernel
theorem dX5_remember_34 : decode cX5_remember 34 = .ok (.invokevirtual 194, 3) := by decide +kernel
theorem dX5_remember_37 : decode cX5_remember 37 = .ok (.aload_n 0, 1) := by decide +kernel
theorem dX5_remember_38 : decode cX5_remember 38 = .ok (.dup, 1) := by decide +kernel
theorem dX5_remember_39 : decode cX5_remember 39 = .ok (.getfield 89, 3) := by decide +kernel
theorem dX5_remember_42 : decode cX5_remember 42 = .ok (.iconst 1, 1) := by decide +kernel
theorem dX5_remember_43 : decode cX5_remember 43 = .ok (.iadd, 1) := by decide +kernel
theorem dX5_remember_44 : decode cX5_remember 44 = .ok (.putfield 89, 3) := by decide +kernel
theorem dX5_remember_47 : decode cX5_remember 47 = .ok (.return_, 1) := by decide +kernel
theorem dX5_comes_0 : decode cX5_comes 0 = .ok (.aload_n 0, 1) := by decide +kernel
theorem dX5_comes_1 : decode cX5_comes 1 = .ok (.getfield 19, 3) := by decide +kernel
theorem dX5_comes_4 : decode cX5_comes 4 = .ok (.iload_n 1, 1) := by decide +kernel
theorem dX5_comes_5 : decode cX5_comes 5 = .ok (.invokevirtual 107, 3) := by decide +kernel
theorem dX5_comes_8 : decode cX5_comes 8 = .ok (.ifCond .ne 5, 3) := by decide +kernel
theorem dX5_comes_11 : decode cX5_comes 11 = .ok (.iconst (-1), 1) := by decide +kernel
theorem dX5_comes_12 : decode cX5_comes 12 = .ok (.ireturn, 1) := by decide +kernel
theorem dX5_comes_13 : decode cX5_comes 13 = .ok (.iload_n 2, 1) := by decide +kernel
theorem dX5_comes_14 : decode cX5_comes 14 = .ok (.invokestatic 147, 3) := by decide +kernel
theorem dX5_comes_17 : decode cX5_comes 17 = .ok (.ifCond .eq 6, 3) := by decide +kernel
theorem dX5_comes_20 : decode cX5_comes 20 = .ok (.bipush (-2), 2) := by decide +kernel
theorem dX5_comes_22 : decode cX5_comes 22 = .ok (.ireturn, 1) := by decide +kernel
theorem dX5_comes_23 : decode cX5_comes 23 = .ok (.aload_n 0, 1) := by decide +kernel
theorem dX5_comes_24 : decode cX5_comes 24 = .ok (.getfield 19, 3) := by decide +kernel
theorem dX5_comes_27 : decode cX5_comes 27 = .ok (.aload_n 0, 1) := by decide +kernel
theorem dX5_comes_28 : decode cX5_comes 28 = .ok (.getfield 26, 3) := by decide +kernel
theorem dX5_comes_31 : decode cX5_comes 31 = .ok (.iload_n 1, 1) := by decide +kernel
theorem dX5_comes_32 : decode cX5_comes 32 = .ok (.iload_n 2, 1) := by decide +kernel
theorem dX5_comes_33 : decode cX5_comes 33 = .ok (.invokevirtual 124, 3) := by decide +kernel
theorem dX5_comes_36 : decode cX5_comes 36 = .ok (.invokestatic 128, 3) := by decide +kernel
theorem dX5_comes_39 : decode cX5_comes 39 = .ok (.ireturn, 1) := by decide +kernel
theorem dX5_best_0 : decode cX5_best 0 = .ok (.iload_n 1, 1) := by decide +kernel
theorem dX5_best_1 : decode cX5_best 1 = .ok (.invokestatic 147, 3) := by decide +kernel
theorem dX5_best_4 : decode cX5_best 4 = .ok (.ifCond .eq 6, 3) := by decide +kernel
theorem dX5_best_7 : decode cX5_best 7 = .ok (.bipush (-2), 2) := by decide +kernel
theorem dX5_best_9 : decode cX5_best 9 = .ok (.ireturn, 1) := by decide +kernel
theorem dX5_best_10 : decode cX5_best 10 = .ok (.bipush (-9), 2) := by decide +kernel
theorem dX5_best_12 : decode cX5_best 12 = .ok (.istore_n 2, 1) := by decide +kernel
theorem dX5_best_13 : decode cX5_best 13 = .ok (.iconst 0, 1) := by decide +kernel
theorem dX5_best_14 : decode cX5_best 14 = .ok (.istore_n 3, 1) := by decide +kernel
theorem dX5_best_15 : decode cX5_best 15 = .ok (.iconst 0, 1) := by decide +kernel
theorem dX5_best_16 : decode cX5_best 16 = .ok (.istore 4, 2) := by decide +kernel
theorem dX5_best_18 : decode cX5_best 18 = .ok (.iload 4, 2) := by decide +kernel
theorem dX5_best_20 : decode cX5_best 20 = .ok (.aload_n 0, 1) := by decide +kernel
theorem dX5_best_21 : decode cX5_best 21 = .ok (.getfield 19, 3) := by decide +kernel
theorem dX5_best_24 : decode cX5_best 24 = .ok (.getfield 92, 3) := by decide +kernel
theorem dX5_best_27 : decode cX5_best 27 = .ok (.if_icmp .ge 54, 3) := by decide +kernel
theorem dX5_best_30 : decode cX5_best 30 = .ok (.aload_n 0, 1) := by decide +kernel
theorem dX5_best_31 : decode cX5_best 31 = .ok (.getfield 19, 3) := by decide +kernel
theorem dX5_best_34 : decode cX5_best 34 = .ok (.aload_n 0, 1) := by decide +kernel
theorem dX5_best_35 : decode cX5_best 35 = .ok (.getfield 26, 3) := by decide +kernel
theorem dX5_best_38 : decode cX5_best 38 = .ok (.iload 4, 2) := by decide +kernel
theorem dX5_best_40 : decode cX5_best 40 = .ok (.iload_n 1, 1) := by decide +kernel
theorem dX5_best_41 : decode cX5_best 41 = .ok (.invokevirtual 120, 3) := by decide +kernel
theorem dX5_best_44 : decode cX5_best 44 = .ok (.istore 5, 2) := by decide +kernel
theorem dX5_best_46 : decode cX5_best 46 = .ok (.aload_n 0, 1) := by decide +kernel
theorem dX5_best_47 : decode cX5_best 47 = .ok (.getfield 19, 3) := by decide +kernel
theorem dX5_best_50 : decode cX5_best 50 = .ok (.aload_n 0, 1) := by decide +kernel
theorem dX5_best_51 : decode cX5_best 51 = .ok (.getfield 26, 3) := by decide +kernel
theorem dX5_best_54 : decode cX5_best 54 = .ok (.iload 4, 2) := by decide +kernel
theorem dX5_best_56 : decode cX5_best 56 = .ok (.iload_n 1, 1) := by decide +kernel
theorem dX5_best_57 : decode cX5_best 57 = .ok (.invokevirtual 124, 3) := by decide +kernel
theorem dX5_best_60 : decode cX5_best 60 = .ok (.ifCond .eq 15, 3) := by decide +kernel
theorem dX5_best_63 : decode cX5_best 63 = .ok (.iload 5, 2) := by decide +kernel
theorem dX5_best_65 : decode cX5_best 65 = .ok (.iload_n 3, 1) := by decide +kernel
theorem dX5_best_66 : decode cX5_best 66 = .ok (.if_icmp .le 9, 3) := by decide +kernel
theorem dX5_best_69 : decode cX5_best 69 = .ok (.iload 4, 2) := by decide +kernel
theorem dX5_best_71 : decode cX5_best 71 = .ok (.istore_n 2, 1) := by decide +kernel
theorem dX5_best_72 : decode cX5_best 72 = .ok (.iload 5, 2) := by decide +kernel
theorem dX5_best_74 : decode cX5_best 74 = .ok (.istore_n 3, 1) := by decide +kernel
theorem dX5_best_75 : decode cX5_best 75 = .ok (.iinc 4 1, 3) := by decide +kernel
theorem dX5_best_78 : decode cX5_best 78 = .ok (.goto (-60), 3) := by decide +kernel
theorem dX5_best_81 : decode cX5_best 81 = .ok (.iload_n 2, 1) := by decide +kernel
theorem dX5_best_82 : decode cX5_best 82 = .ok (.ireturn, 1) := by decide +kernel
theorem dX5_fewest_0 : decode cX5_fewest 0 = .ok (.aload_n 0, 1) := by decide +kernel
theorem dX5_fewest_1 : decode cX5_fewest 1 = .ok (.getfield 26, 3) := by decide +kernel
theorem dX5_fewest_4 : decode cX5_fewest 4 = .ok (.getfield 154, 3) := by decide +kernel
theorem dX5_fewest_7 : decode cX5_fewest 7 = .ok (.ifCond .eq 6, 3) := by decide +kernel
theorem dX5_fewest_10 : decode cX5_fewest 10 = .ok (.bipush (-9), 2) := by decide +kernel
theorem dX5_fewest_12 : decode cX5_fewest 12 = .ok (.ireturn, 1) := by decide +kernel
theorem dX5_fewest_13 : decode cX5_fewest 13 = .ok (.iconst 1, 1) := by decide +kernel
theorem dX5_fewest_14 : decode cX5_fewest 14 = .ok (.istore_n 2, 1) := by decide +kernel
theorem dX5_fewest_15 : decode cX5_fewest 15 = .ok (.iconst 1, 1) := by decide +kernel
theorem dX5_fewest_16 : decode cX5_fewest 16 = .ok (.istore_n 3, 1) := by decide +kernel
theorem dX5_fewest_17 : decode cX5_fewest 17 = .ok (.iload_n 3, 1) := by decide +kernel
theorem dX5_fewest_18 : decode cX5_fewest 18 = .ok (.iconst 4, 1) := by decide +kernel
theorem dX5_fewest_19 : decode cX5_fewest 19 = .ok (.if_icmp .gt 64, 3) := by decide +kernel
theorem dX5_fewest_22 : decode cX5_fewest 22 = .ok (.iload_n 2, 1) := by decide +kernel
theorem dX5_fewest_23 : decode cX5_fewest 23 = .ok (.aload_n 0, 1) := by decide +kernel
theorem dX5_fewest_24 : decode cX5_fewest 24 = .ok (.getfield 19, 3) := by decide +kernel
theorem dX5_fewest_27 : decode cX5_fewest 27 = .ok (.getfield 92, 3) := by decide +kernel
theorem dX5_fewest_30 : decode cX5_fewest 30 = .ok (.imul, 1) := by decide +kernel
theorem dX5_fewest_31 : decode cX5_fewest 31 = .ok (.istore_n 2, 1) := by decide +kernel
theorem dX5_fewest_32 : decode cX5_fewest 32 = .ok (.iconst 0, 1) := by decide +kernel
theorem dX5_fewest_33 : decode cX5_fewest 33 = .ok (.istore 4, 2) := by decide +kernel
theorem dX5_fewest_35 : decode cX5_fewest 35 = .ok (.iload 4, 2) := by decide +kernel
theorem dX5_fewest_37 : decode cX5_fewest 37 = .ok (.iload_n 2, 1) := by decide +kernel
theorem dX5_fewest_38 : decode cX5_fewest 38 = .ok (.if_icmp .ge 39, 3) := by decide +kernel
theorem dX5_fewest_41 : decode cX5_fewest 41 = .ok (.aload_n 0, 1) := by decide +kernel
theorem dX5_fewest_42 : decode cX5_fewest 42 = .ok (.iload 4, 2) := by decide +kernel
theorem dX5_fewest_44 : decode cX5_fewest 44 = .ok (.iload_n 3, 1) := by decide +kernel
theorem dX5_fewest_45 : decode cX5_fewest 45 = .ok (.invokevirtual 197, 3) := by decide +kernel
theorem dX5_fewest_48 : decode cX5_fewest 48 = .ok (.istore 5, 2) := by decide +kernel
theorem dX5_fewest_50 : decode cX5_fewest 50 = .ok (.aload_n 0, 1) := by decide +kernel
theorem dX5_fewest_51 : decode cX5_fewest 51 = .ok (.iload_n 3, 1) := by decide +kernel
theorem dX5_fewest_52 : decode cX5_fewest 52 = .ok (.iload 5, 2) := by decide +kernel
theorem dX5_fewest_54 : decode cX5_fewest 54 = .ok (.invokevirtual 200, 3) := by decide +kernel
theorem dX5_fewest_57 : decode cX5_fewest 57 = .ok (.ifCond .eq 14, 3) := by decide +kernel
theorem dX5_fewest_60 : decode cX5_fewest 60 = .ok (.iload_n 1, 1) := by decide +kernel
theorem dX5_fewest_61 : decode cX5_fewest 61 = .ok (.ifCond .eq 8, 3) := by decide +kernel
theorem dX5_fewest_64 : decode cX5_fewest 64 = .ok (.iload 5, 2) := by decide +kernel
theorem dX5_fewest_66 : decode cX5_fewest 66 = .ok (.goto 4, 3) := by decide +kernel
theorem dX5_fewest_69 : decode cX5_fewest 69 = .ok (.iload_n 3, 1) := by decide +kernel
theorem dX5_fewest_70 : decode cX5_fewest 70 = .ok (.ireturn, 1) := by decide +kernel
theorem dX5_fewest_71 : decode cX5_fewest 71 = .ok (.iinc 4 1, 3) := by decide +kernel
theorem dX5_fewest_74 : decode cX5_fewest 74 = .ok (.goto (-39), 3) := by decide +kernel
theorem dX5_fewest_77 : decode cX5_fewest 77 = .ok (.iinc 3 1, 3) := by decide +kernel
theorem dX5_fewest_80 : decode cX5_fewest 80 = .ok (.goto (-63), 3) := by decide +kernel
theorem dX5_fewest_83 : decode cX5_fewest 83 = .ok (.bipush (-9), 2) := by decide +kernel
theorem dX5_fewest_85 : decode cX5_fewest 85 = .ok (.ireturn, 1) := by decide +kernel
theorem dX5_nthRow_0 : decode cX5_nthRow 0 = .ok (.aload_n 0, 1) := by decide +kernel
theorem dX5_nthRow_1 : decode cX5_nthRow 1 = .ok (.getfield 19, 3) := by decide +kernel
theorem dX5_nthRow_4 : decode cX5_nthRow 4 = .ok (.getfield 92, 3) := by decide +kernel
theorem dX5_nthRow_7 : decode cX5_nthRow 7 = .ok (.istore_n 3, 1) := by decide +kernel
theorem dX5_nthRow_8 : decode cX5_nthRow 8 = .ok (.iload_n 3, 1) := by decide +kernel
theorem dX5_nthRow_9 : decode cX5_nthRow 9 = .ok (.iconst 1, 1) := by decide +kernel
theorem dX5_nthRow_10 : decode cX5_nthRow 10 = .ok (.if_icmp .ge 5, 3) := by decide +kernel
theorem dX5_nthRow_13 : decode cX5_nthRow 13 = .ok (.iconst 0, 1) := by decide +kernel
theorem dX5_nthRow_14 : decode cX5_nthRow 14 = .ok (.ireturn, 1) := by decide +kernel
theorem dX5_nthRow_15 : decode cX5_nthRow 15 = .ok (.iconst 0, 1) := by decide +kernel
theorem dX5_nthRow_16 : decode cX5_nthRow 16 = .ok (.istore 4, 2) := by decide +kernel
theorem dX5_nthRow_18 : decode cX5_nthRow 18 = .ok (.iconst 1, 1) := by decide +kernel
theorem dX5_nthRow_19 : decode cX5_nthRow 19 = .ok (.istore 5, 2) := by decide +kernel
theorem dX5_nthRow_21 : decode cX5_nthRow 21 = .ok (.iload_n 1, 1) := by decide +kernel
theorem dX5_nthRow_22 : decode cX5_nthRow 22 = .ok (.istore 6, 2) := by decide +kernel
theorem dX5_nthRow_24 : decode cX5_nthRow 24 = .ok (.iconst 0, 1) := by decide +kernel
theorem dX5_nthRow_25 : decode cX5_nthRow 25 = .ok (.istore 7, 2) := by decide +kernel
theorem dX5_nthRow_27 : decode cX5_nthRow 27 = .ok (.iload 7, 2) := by decide +kernel
theorem dX5_nthRow_29 : decode cX5_nthRow 29 = .ok (.iload_n 2, 1) := by decide +kernel
theorem dX5_nthRow_30 : decode cX5_nthRow 30 = .ok (.if_icmp .ge 36, 3) := by decide +kernel
theorem dX5_nthRow_33 : decode cX5_nthRow 33 = .ok (.iload 4, 2) := by decide +kernel
theorem dX5_nthRow_35 : decode cX5_nthRow 35 = .ok (.iload 6, 2) := by decide +kernel
theorem dX5_nthRow_37 : decode cX5_nthRow 37 = .ok (.iload_n 3, 1) := by decide +kernel
theorem dX5_nthRow_38 : decode cX5_nthRow 38 = .ok (.irem, 1) := by decide +kernel
theorem dX5_nthRow_39 : decode cX5_nthRow 39 = .ok (.iconst 1, 1) := by decide +kernel
theorem dX5_nthRow_40 : decode cX5_nthRow 40 = .ok (.iadd, 1) := by decide +kernel
theorem dX5_nthRow_41 : decode cX5_nthRow 41 = .ok (.iload 5, 2) := by decide +kernel
theorem dX5_nthRow_43 : decode cX5_nthRow 43 = .ok (.imul, 1) := by decide +kernel
theorem dX5_nthRow_44 : decode cX5_nthRow 44 = .ok (.iadd, 1) := by decide +kernel
theorem dX5_nthRow_45 : decode cX5_nthRow 45 = .ok (.istore 4, 2) := by decide +kernel
theorem dX5_nthRow_47 : decode cX5_nthRow 47 = .ok (.iload 6, 2) := by decide +kernel
theorem dX5_nthRow_49 : decode cX5_nthRow 49 = .ok (.iload_n 3, 1) := by decide +kernel
theorem dX5_nthRow_50 : decode cX5_nthRow 50 = .ok (.idiv, 1) := by decide +kernel
theorem dX5_nthRow_51 : decode cX5_nthRow 51 = .ok (.istore 6, 2) := by decide +kernel
theorem dX5_nthRow_53 : decode cX5_nthRow 53 = .ok (.iload 5, 2) := by decide +kernel
theorem dX5_nthRow_55 : decode cX5_nthRow 55 = .ok (.bipush 10, 2) := by decide +kernel
theorem dX5_nthRow_57 : decode cX5_nthRow 57 = .ok (.imul, 1) := by decide +kernel
theorem dX5_nthRow_58 : decode cX5_nthRow 58 = .ok (.istore 5, 2) := by decide +kernel
theorem dX5_nthRow_60 : decode cX5_nthRow 60 = .ok (.iinc 7 1, 3) := by decide +kernel
theorem dX5_nthRow_63 : decode cX5_nthRow 63 = .ok (.goto (-36), 3) := by decide +kernel
theorem dX5_nthRow_66 : decode cX5_nthRow 66 = .ok (.iload 4, 2) := by decide +kernel
theorem dX5_nthRow_68 : decode cX5_nthRow 68 = .ok (.ireturn, 1) := by decide +kernel
theorem dX5_onlyLastBrings_0 : decode cX5_onlyLastBrings 0 = .ok (.aload_n 0, 1) := by decide +kernel
theorem dX5_onlyLastBrings_1 : decode cX5_onlyLastBrings 1 = .ok (.getfield 30, 3) := by decide +kernel
theorem dX5_onlyLastBrings_4 : decode cX5_onlyLastBrings 4 = .ok (.aload_n 0, 1) := by decide +kernel
theorem dX5_onlyLastBrings_5 : decode cX5_onlyLastBrings 5 = .ok (.getfield 26, 3) := by decide +kernel
theorem dX5_onlyLastBrings_8 : decode cX5_onlyLastBrings 8 = .ok (.invokevirtual 204, 3) := by decide +kernel
theorem dX5_onlyLastBrings_11 : decode cX5_onlyLastBrings 11 = .ok (.iconst 0, 1) := by decide +kernel
theorem dX5_onlyLastBrings_12 : decode cX5_onlyLastBrings 12 = .ok (.istore_n 3, 1) := by decide +kernel
theorem dX5_onlyLastBrings_13 : decode cX5_onlyLastBrings 13 = .ok (.iload_n 3, 1) := by decide +kernel
theorem dX5_onlyLastBrings_14 : decode cX5_onlyLastBrings 14 = .ok (.iload_n 1, 1) := by decide +kernel
theorem dX5_onlyLastBrings_15 : decode cX5_onlyLastBrings 15 = .ok (.if_icmp .ge 49, 3) := by decide +kernel
theorem dX5_onlyLastBrings_18 : decode cX5_onlyLastBrings 18 = .ok (.aload_n 0, 1) := by decide +kernel
theorem dX5_onlyLastBrings_19 : decode cX5_onlyLastBrings 19 = .ok (.getfield 19, 3) := by decide +kernel
theorem dX5_onlyLastBrings_22 : decode cX5_onlyLastBrings 22 = .ok (.aload_n 0, 1) := by decide +kernel
theorem dX5_onlyLastBrings_23 : decode cX5_onlyLastBrings 23 = .ok (.getfield 30, 3) := by decide +kernel
theorem dX5_onlyLastBrings_26 : decode cX5_onlyLastBrings 26 = .ok (.iload_n 2, 1) := by decide +kernel
theorem dX5_onlyLastBrings_27 : decode cX5_onlyLastBrings 27 = .ok (.iload_n 1, 1) := by decide +kernel
theorem dX5_onlyLastBrings_28 : decode cX5_onlyLastBrings 28 = .ok (.iload_n 3, 1) := by decide +kernel
theorem dX5_onlyLastBrings_29 : decode cX5_onlyLastBrings 29 = .ok (.invokestatic 207, 3) := by decide +kernel
theorem dX5_onlyLastBrings_32 : decode cX5_onlyLastBrings 32 = .ok (.iconst 1, 1) := by decide +kernel
theorem dX5_onlyLastBrings_33 : decode cX5_onlyLastBrings 33 = .ok (.isub, 1) := by decide +kernel
theorem dX5_onlyLastBrings_34 : decode cX5_onlyLastBrings 34 = .ok (.invokevirtual 161, 3) := by decide +kernel
theorem dX5_onlyLastBrings_37 : decode cX5_onlyLastBrings 37 = .ok (.istore 4, 2) := by decide +kernel
theorem dX5_onlyLastBrings_39 : decode cX5_onlyLastBrings 39 = .ok (.iload 4, 2) := by decide +kernel
theorem dX5_onlyLastBrings_41 : decode cX5_onlyLastBrings 41 = .ok (.iload_n 3, 1) := by decide +kernel
theorem dX5_onlyLastBrings_42 : decode cX5_onlyLastBrings 42 = .ok (.iload_n 1, 1) := by decide +kernel
theorem dX5_onlyLastBrings_43 : decode cX5_onlyLastBrings 43 = .ok (.iconst 1, 1) := by decide +kernel
theorem dX5_onlyLastBrings_44 : decode cX5_onlyLastBrings 44 = .ok (.isub, 1) := by decide +kernel
theorem dX5_onlyLastBrings_45 : decode cX5_onlyLastBrings 45 = .ok (.if_icmp .ne 7, 3) := by decide +kernel
theorem dX5_onlyLastBrings_48 : decode cX5_onlyLastBrings 48 = .ok (.iconst 1, 1) := by decide +kernel
theorem dX5_onlyLastBrings_49 : decode cX5_onlyLastBrings 49 = .ok (.goto 4, 3) := by decide +kernel
theorem dX5_onlyLastBrings_52 : decode cX5_onlyLastBrings 52 = .ok (.iconst 0, 1) := by decide +kernel
theorem dX5_onlyLastBrings_53 : decode cX5_onlyLastBrings 53 = .ok (.if_icmp .eq 5, 3) := by decide +kernel
theorem dX5_onlyLastBrings_56 : decode cX5_onlyLastBrings 56 = .ok (.iconst 0, 1) := by decide +kernel
theorem dX5_onlyLastBrings_57 : decode cX5_onlyLastBrings 57 = .ok (.ireturn, 1) := by decide +kernel
theorem dX5_onlyLastBrings_58 : decode cX5_onlyLastBrings 58 = .ok (.iinc 3 1, 3) := by decide +kernel
theorem dX5_onlyLastBrings_61 : decode cX5_onlyLastBrings 61 = .ok (.goto (-48), 3) := by decide +kernel
theorem dX5_onlyLastBrings_64 : decode cX5_onlyLastBrings 64 = .ok (.iconst 1, 1) := by decide +kernel
theorem dX5_onlyLastBrings_65 : decode cX5_onlyLastBrings 65 = .ok (.ireturn, 1) := by decide +kernel
theorem dX5_good_0 : decode cX5_good 0 = .ok (.aload_n 0, 1) := by decide +kernel
theorem dX5_good_1 : decode cX5_good 1 = .ok (.getfield 19, 3) := by decide +kernel
theorem dX5_good_4 : decode cX5_good 4 = .ok (.iload_n 1, 1) := by decide +kernel
theorem dX5_good_5 : decode cX5_good 5 = .ok (.invokevirtual 107, 3) := by decide +kernel
theorem dX5_good_8 : decode cX5_good 8 = .ok (.ifCond .ne 5, 3) := by decide +kernel
theorem dX5_good_11 : decode cX5_good 11 = .ok (.iconst (-1), 1) := by decide +kernel
theorem dX5_good_12 : decode cX5_good 12 = .ok (.ireturn, 1) := by decide +kernel
theorem dX5_good_13 : decode cX5_good 13 = .ok (.iload_n 2, 1) := by decide +kernel
theorem dX5_good_14 : decode cX5_good 14 = .ok (.invokestatic 147, 3) := by decide +kernel
theorem dX5_good_17 : decode cX5_good 17 = .ok (.ifCond .eq 6, 3) := by decide +kernel
theorem dX5_good_20 : decode cX5_good 20 = .ok (.bipush (-2), 2) := by decide +kernel
theorem dX5_good_22 : decode cX5_good 22 = .ok (.ireturn, 1) := by decide +kernel
theorem dX5_good_23 : decode cX5_good 23 = .ok (.aload_n 0, 1) := by decide +kernel
theorem dX5_good_24 : decode cX5_good 24 = .ok (.getfield 26, 3) := by decide +kernel
theorem dX5_good_27 : decode cX5_good 27 = .ok (.iload_n 1, 1) := by decide +kernel
theorem dX5_good_28 : decode cX5_good 28 = .ok (.invokevirtual 111, 3) := by decide +kernel
theorem dX5_good_31 : decode cX5_good 31 = .ok (.istore_n 3, 1) := by decide +kernel
theorem dX5_good_32 : decode cX5_good 32 = .ok (.iconst 0, 1) := by decide +kernel
theorem dX5_good_33 : decode cX5_good 33 = .ok (.istore 4, 2) := by decide +kernel
theorem dX5_good_35 : decode cX5_good 35 = .ok (.iload_n 3, 1) := by decide +kernel
theorem dX5_good_36 : decode cX5_good 36 = .ok (.iload 4, 2) := by decide +kernel
theorem dX5_good_38 : decode cX5_good 38 = .ok (.iadd, 1) := by decide +kernel
theorem dX5_good_39 : decode cX5_good 39 = .ok (.bipush 9, 2) := by decide +kernel
theorem dX5_good_41 : decode cX5_good 41 = .ok (.if_icmp .gt 49, 3) := by decide +kernel
theorem dX5_good_44 : decode cX5_good 44 = .ok (.aload_n 0, 1) := by decide +kernel
theorem dX5_good_45 : decode cX5_good 45 = .ok (.getfield 19, 3) := by decide +kernel
theorem dX5_good_48 : decode cX5_good 48 = .ok (.iload_n 3, 1) := by decide +kernel
theorem dX5_good_49 : decode cX5_good 49 = .ok (.iload 4, 2) := by decide +kernel
theorem dX5_good_51 : decode cX5_good 51 = .ok (.iadd, 1) := by decide +kernel
theorem dX5_good_52 : decode cX5_good 52 = .ok (.iload_n 1, 1) := by decide +kernel
theorem dX5_good_53 : decode cX5_good 53 = .ok (.aload_n 0, 1) := by decide +kernel
theorem dX5_good_54 : decode cX5_good 54 = .ok (.getfield 26, 3) := by decide +kernel
theorem dX5_good_57 : decode cX5_good 57 = .ok (.getfield 184, 3) := by decide +kernel
theorem dX5_good_60 : decode cX5_good 60 = .ok (.iload_n 2, 1) := by decide +kernel
theorem dX5_good_61 : decode cX5_good 61 = .ok (.invokevirtual 211, 3) := by decide +kernel
theorem dX5_good_64 : decode cX5_good 64 = .ok (.istore 5, 2) := by decide +kernel
theorem dX5_good_66 : decode cX5_good 66 = .ok (.aload_n 0, 1) := by decide +kernel
theorem dX5_good_67 : decode cX5_good 67 = .ok (.getfield 19, 3) := by decide +kernel
theorem dX5_good_70 : decode cX5_good 70 = .ok (.iload 5, 2) := by decide +kernel
theorem dX5_good_72 : decode cX5_good 72 = .ok (.iload_n 2, 1) := by decide +kernel
theorem dX5_good_73 : decode cX5_good 73 = .ok (.bipush 15, 2) := by decide +kernel
theorem dX5_good_75 : decode cX5_good 75 = .ok (.invokevirtual 215, 3) := by decide +kernel
theorem dX5_good_78 : decode cX5_good 78 = .ok (.ifCond .eq 6, 3) := by decide +kernel
theorem dX5_good_81 : decode cX5_good 81 = .ok (.iload 4, 2) := by decide +kernel
theorem dX5_good_83 : decode cX5_good 83 = .ok (.ireturn, 1) := by decide +kernel
theorem dX5_good_84 : decode cX5_good 84 = .ok (.iinc 4 1, 3) := by decide +kernel
theorem dX5_good_87 : decode cX5_good 87 = .ok (.goto (-52), 3) := by decide +kernel
theorem dX5_good_90 : decode cX5_good 90 = .ok (.bipush (-9), 2) := by decide +kernel
theorem dX5_good_92 : decode cX5_good 92 = .ok (.ireturn, 1) := by decide +kernel
theorem dX5_judge_0 : decode cX5_judge 0 = .ok (.iload_n 1, 1) := by decide +kernel
theorem dX5_judge_1 : decode cX5_judge 1 = .ok (.iconst 1, 1) := by decide +kernel
theorem dX5_judge_2 : decode cX5_judge 2 = .ok (.if_icmp .lt 9, 3) := by decide +kernel
theorem dX5_judge_5 : decode cX5_judge 5 = .ok (.iload_n 1, 1) := by decide +kernel
theorem dX5_judge_6 : decode cX5_judge 6 = .ok (.bipush 6, 2) := by decide +kernel
theorem dX5_judge_8 : decode cX5_judge 8 = .ok (.if_icmp .le 6, 3) := by decide +kernel
theorem dX5_judge_11 : decode cX5_judge 11 = .ok (.bipush (-2), 2) := by decide +kernel
theorem dX5_judge_13 : decode cX5_judge 13 = .ok (.ireturn, 1) := by decide +kernel
theorem dX5_judge_14 : decode cX5_judge 14 = .ok (.iload_n 2, 1) := by decide +kernel
theorem dX5_judge_15 : decode cX5_judge 15 = .ok (.ifCond .lt 11, 3) := by decide +kernel
theorem dX5_judge_18 : decode cX5_judge 18 = .ok (.iload_n 2, 1) := by decide +kernel
theorem dX5_judge_19 : decode cX5_judge 19 = .ok (.iload_n 1, 1) := by decide +kernel
theorem dX5_judge_20 : decode cX5_judge 20 = .ok (.invokestatic 219, 3) := by decide +kernel
theorem dX5_judge_23 : decode cX5_judge 23 = .ok (.if_icmp .lt 6, 3) := by decide +kernel
theorem dX5_judge_26 : decode cX5_judge 26 = .ok (.bipush (-2), 2) := by decide +kernel
theorem dX5_judge_28 : decode cX5_judge 28 = .ok (.ireturn, 1) := by decide +kernel
theorem dX5_judge_29 : decode cX5_judge 29 = .ok (.aload_n 0, 1) := by decide +kernel
theorem dX5_judge_30 : decode cX5_judge 30 = .ok (.getfield 30, 3) := by decide +kernel
theorem dX5_judge_33 : decode cX5_judge 33 = .ok (.aload_n 0, 1) := by decide +kernel
theorem dX5_judge_34 : decode cX5_judge 34 = .ok (.getfield 26, 3) := by decide +kernel
theorem dX5_judge_37 : decode cX5_judge 37 = .ok (.invokevirtual 204, 3) := by decide +kernel
theorem dX5_judge_40 : decode cX5_judge 40 = .ok (.iconst 0, 1) := by decide +kernel
theorem dX5_judge_41 : decode cX5_judge 41 = .ok (.istore_n 3, 1) := by decide +kernel
theorem dX5_judge_42 : decode cX5_judge 42 = .ok (.iload_n 3, 1) := by decide +kernel
theorem dX5_judge_43 : decode cX5_judge 43 = .ok (.iload_n 1, 1) := by decide +kernel
theorem dX5_judge_44 : decode cX5_judge 44 = .ok (.if_icmp .ge 28, 3) := by decide +kernel
theorem dX5_judge_47 : decode cX5_judge 47 = .ok (.aload_n 0, 1) := by decide +kernel
theorem dX5_judge_48 : decode cX5_judge 48 = .ok (.aload_n 0, 1) := by decide +kernel
theorem dX5_judge_49 : decode cX5_judge 49 = .ok (.getfield 30, 3) := by decide +kernel
theorem dX5_judge_52 : decode cX5_judge 52 = .ok (.iload_n 2, 1) := by decide +kernel
theorem dX5_judge_53 : decode cX5_judge 53 = .ok (.iload_n 1, 1) := by decide +kernel
theorem dX5_judge_54 : decode cX5_judge 54 = .ok (.iload_n 3, 1) := by decide +kernel
theorem dX5_judge_55 : decode cX5_judge 55 = .ok (.invokestatic 207, 3) := by decide +kernel
theorem dX5_judge_58 : decode cX5_judge 58 = .ok (.invokevirtual 222, 3) := by decide +kernel
theorem dX5_judge_61 : decode cX5_judge 61 = .ok (.ifCond .ne 5, 3) := by decide +kernel
theorem dX5_judge_64 : decode cX5_judge 64 = .ok (.iload_n 3, 1) := by decide +kernel
theorem dX5_judge_65 : decode cX5_judge 65 = .ok (.ireturn, 1) := by decide +kernel
theorem dX5_judge_66 : decode cX5_judge 66 = .ok (.iinc 3 1, 3) := by decide +kernel
theorem dX5_judge_69 : decode cX5_judge 69 = .ok (.goto (-27), 3) := by decide +kernel
theorem dX5_judge_72 : decode cX5_judge 72 = .ok (.bipush (-9), 2) := by decide +kernel
theorem dX5_judge_74 : decode cX5_judge 74 = .ok (.ireturn, 1) := by decide +kernel
theorem dX5_doesWell_0 : decode cX5_doesWell 0 = .ok (.iload_n 2, 1) := by decide +kernel
theorem dX5_doesWell_1 : decode cX5_doesWell 1 = .ok (.tableswitch 127 0 9 #[55, 127, 127, 127, 127, 57, 72, 88, 107, 125], 55) := by decide +kernel
theorem dX5_doesWell_56 : decode cX5_doesWell 56 = .ok (.iconst 1, 1) := by decide +kernel
theorem dX5_doesWell_57 : decode cX5_doesWell 57 = .ok (.ireturn, 1) := by decide +kernel
theorem dX5_doesWell_58 : decode cX5_doesWell 58 = .ok (.aload_n 1, 1) := by decide +kernel
theorem dX5_doesWell_59 : decode cX5_doesWell 59 = .ok (.invokevirtual 165, 3) := by decide +kernel
theorem dX5_doesWell_62 : decode cX5_doesWell 62 = .ok (.ifCond .ne 5, 3) := by decide +kernel
theorem dX5_doesWell_65 : decode cX5_doesWell 65 = .ok (.iconst 0, 1) := by decide +kernel
theorem dX5_doesWell_66 : decode cX5_doesWell 66 = .ok (.ireturn, 1) := by decide +kernel
theorem dX5_doesWell_67 : decode cX5_doesWell 67 = .ok (.aload_n 1, 1) := by decide +kernel
theorem dX5_doesWell_68 : decode cX5_doesWell 68 = .ok (.invokevirtual 171, 3) := by decide +kernel
theorem dX5_doesWell_71 : decode cX5_doesWell 71 = .ok (.iconst 1, 1) := by decide +kernel
theorem dX5_doesWell_72 : decode cX5_doesWell 72 = .ok (.ireturn, 1) := by decide +kernel
theorem dX5_doesWell_73 : decode cX5_doesWell 73 = .ok (.aload_n 1, 1) := by decide +kernel
theorem dX5_doesWell_74 : decode cX5_doesWell 74 = .ok (.getfield 154, 3) := by decide +kernel
theorem dX5_doesWell_77 : decode cX5_doesWell 77 = .ok (.ifCond .eq 5, 3) := by decide +kernel
theorem dX5_doesWell_80 : decode cX5_doesWell 80 = .ok (.iconst 0, 1) := by decide +kernel
theorem dX5_doesWell_81 : decode cX5_doesWell 81 = .ok (.ireturn, 1) := by decide +kernel
theorem dX5_doesWell_82 : decode cX5_doesWell 82 = .ok (.aload_n 1, 1) := by decide +kernel
theorem dX5_doesWell_83 : decode cX5_doesWell 83 = .ok (.iconst 1, 1) := by decide +kernel
theorem dX5_doesWell_84 : decode cX5_doesWell 84 = .ok (.invokevirtual 174, 3) := by decide +kernel
theorem dX5_doesWell_87 : decode cX5_doesWell 87 = .ok (.iconst 1, 1) := by decide +kernel
theorem dX5_doesWell_88 : decode cX5_doesWell 88 = .ok (.ireturn, 1) := by decide +kernel
theorem dX5_doesWell_89 : decode cX5_doesWell 89 = .ok (.aload_n 1, 1) := by decide +kernel
theorem dX5_doesWell_90 : decode cX5_doesWell 90 = .ok (.invokevirtual 177, 3) := by decide +kernel
theorem dX5_doesWell_93 : decode cX5_doesWell 93 = .ok (.ifCond .ne 5, 3) := by decide +kernel
theorem dX5_doesWell_96 : decode cX5_doesWell 96 = .ok (.iconst 0, 1) := by decide +kernel
theorem dX5_doesWell_97 : decode cX5_doesWell 97 = .ok (.ireturn, 1) := by decide +kernel
theorem dX5_doesWell_98 : decode cX5_doesWell 98 = .ok (.aload_n 0, 1) := by decide +kernel
theorem dX5_doesWell_99 : decode cX5_doesWell 99 = .ok (.getfield 19, 3) := by decide +kernel
theorem dX5_doesWell_102 : decode cX5_doesWell 102 = .ok (.aload_n 1, 1) := by decide +kernel
theorem dX5_doesWell_103 : decode cX5_doesWell 103 = .ok (.invokevirtual 180, 3) := by decide +kernel
theorem dX5_doesWell_106 : decode cX5_doesWell 106 = .ok (.iconst 1, 1) := by decide +kernel
theorem dX5_doesWell_107 : decode cX5_doesWell 107 = .ok (.ireturn, 1) := by decide +kernel
theorem dX5_doesWell_108 : decode cX5_doesWell 108 = .ok (.aload_n 1, 1) := by decide +kernel
theorem dX5_doesWell_109 : decode cX5_doesWell 109 = .ok (.aload_n 1, 1) := by decide +kernel
theorem dX5_doesWell_110 : decode cX5_doesWell 110 = .ok (.getfield 184, 3) := by decide +kernel
theorem dX5_doesWell_113 : decode cX5_doesWell 113 = .ok (.ifCond .ne 7, 3) := by decide +kernel
theorem dX5_doesWell_116 : decode cX5_doesWell 116 = .ok (.iconst 1, 1) := by decide +kernel
theorem dX5_doesWell_117 : decode cX5_doesWell 117 = .ok (.goto 4, 3) := by decide +kernel
theorem dX5_doesWell_120 : decode cX5_doesWell 120 = .ok (.iconst 0, 1) := by decide +kernel
theorem dX5_doesWell_121 : decode cX5_doesWell 121 = .ok (.putfield 184, 3) := by decide +kernel
theorem dX5_doesWell_124 : decode cX5_doesWell 124 = .ok (.iconst 1, 1) := by decide +kernel
theorem dX5_doesWell_125 : decode cX5_doesWell 125 = .ok (.ireturn, 1) := by decide +kernel
theorem dX5_doesWell_126 : decode cX5_doesWell 126 = .ok (.iconst 0, 1) := by decide +kernel
theorem dX5_doesWell_127 : decode cX5_doesWell 127 = .ok (.ireturn, 1) := by decide +kernel
theorem dX5_doesWell_128 : decode cX5_doesWell 128 = .ok (.aload_n 1, 1) := by decide +kernel
theorem dX5_doesWell_129 : decode cX5_doesWell 129 = .ok (.getfield 154, 3) := by decide +kernel
theorem dX5_doesWell_132 : decode cX5_doesWell 132 = .ok (.ifCond .ne 34, 3) := by decide +kernel
theorem dX5_doesWell_135 : decode cX5_doesWell 135 = .ok (.aload_n 0, 1) := by decide +kernel
theorem dX5_doesWell_136 : decode cX5_doesWell 136 = .ok (.getfield 19, 3) := by decide +kernel
theorem dX5_doesWell_139 : decode cX5_doesWell 139 = .ok (.iload_n 2, 1) := by decide +kernel
theorem dX5_doesWell_140 : decode cX5_doesWell 140 = .ok (.iconst 1, 1) := by decide +kernel
theorem dX5_doesWell_141 : decode cX5_doesWell 141 = .ok (.isub, 1) := by decide +kernel
theorem dX5_doesWell_142 : decode cX5_doesWell 142 = .ok (.invokevirtual 107, 3) := by decide +kernel
theorem dX5_doesWell_145 : decode cX5_doesWell 145 = .ok (.ifCond .eq 21, 3) := by decide +kernel
theorem dX5_doesWell_148 : decode cX5_doesWell 148 = .ok (.aload_n 0, 1) := by decide +kernel
theorem dX5_doesWell_149 : decode cX5_doesWell 149 = .ok (.getfield 19, 3) := by decide +kernel
theorem dX5_doesWell_152 : decode cX5_doesWell 152 = .ok (.aload_n 1, 1) := by decide +kernel
theorem dX5_doesWell_153 : decode cX5_doesWell 153 = .ok (.iload_n 2, 1) := by decide +kernel
theorem dX5_doesWell_154 : decode cX5_doesWell 154 = .ok (.iconst 1, 1) := by decide +kernel
theorem dX5_doesWell_155 : decode cX5_doesWell 155 = .ok (.isub, 1) := by decide +kernel
theorem dX5_doesWell_156 : decode cX5_doesWell 156 = .ok (.invokevirtual 161, 3) := by decide +kernel
theorem dX5_doesWell_159 : decode cX5_doesWell 159 = .ok (.ifCond .eq 7, 3) := by decide +kernel
theorem dX5_doesWell_162 : decode cX5_doesWell 162 = .ok (.iconst 1, 1) := by decide +kernel
theorem dX5_doesWell_163 : decode cX5_doesWell 163 = .ok (.goto 4, 3) := by decide +kernel
theorem dX5_doesWell_166 : decode cX5_doesWell 166 = .ok (.iconst 0, 1) := by decide +kernel
theorem dX5_doesWell_167 : decode cX5_doesWell 167 = .ok (.ireturn, 1) := by decide +kernel
theorem dX5_see_0 : decode cX5_see 0 = .ok (.aload_n 0, 1) := by decide +kernel
theorem dX5_see_1 : decode cX5_see 1 = .ok (.getfield 19, 3) := by decide +kernel
theorem dX5_see_4 : decode cX5_see 4 = .ok (.iload_n 1, 1) := by decide +kernel
theorem dX5_see_5 : decode cX5_see 5 = .ok (.invokevirtual 107, 3) := by decide +kernel
theorem dX5_see_8 : decode cX5_see 8 = .ok (.ifCond .ne 5, 3) := by decide +kernel
theorem dX5_see_11 : decode cX5_see 11 = .ok (.iconst (-1), 1) := by decide +kernel
theorem dX5_see_12 : decode cX5_see 12 = .ok (.ireturn, 1) := by decide +kernel
theorem dX5_see_13 : decode cX5_see 13 = .ok (.iload_n 2, 1) := by decide +kernel
theorem dX5_see_14 : decode cX5_see 14 = .ok (.invokestatic 147, 3) := by decide +kernel
theorem dX5_see_17 : decode cX5_see 17 = .ok (.ifCond .ne 12, 3) := by decide +kernel
theorem dX5_see_20 : decode cX5_see 20 = .ok (.iload_n 3, 1) := by decide +kernel
theorem dX5_see_21 : decode cX5_see 21 = .ok (.ifCond .lt 8, 3) := by decide +kernel
theorem dX5_see_24 : decode cX5_see 24 = .ok (.iload_n 3, 1) := by decide +kernel
theorem dX5_see_25 : decode cX5_see 25 = .ok (.iconst 1, 1) := by decide +kernel
theorem dX5_see_26 : decode cX5_see 26 = .ok (.if_icmp .le 6, 3) := by decide +kernel
theorem dX5_see_29 : decode cX5_see 29 = .ok (.bipush (-2), 2) := by decide +kernel
theorem dX5_see_31 : decode cX5_see 31 = .ok (.ireturn, 1) := by decide +kernel
theorem dX5_see_32 : decode cX5_see 32 = .ok (.aload_n 0, 1) := by decide +kernel
theorem dX5_see_33 : decode cX5_see 33 = .ok (.getfield 52, 3) := by decide +kernel
theorem dX5_see_36 : decode cX5_see 36 = .ok (.invokevirtual 225, 3) := by decide +kernel
theorem dX5_see_39 : decode cX5_see 39 = .ok (.ifCond .eq 6, 3) := by decide +kernel
theorem dX5_see_42 : decode cX5_see 42 = .ok (.bipush (-4), 2) := by decide +kernel
theorem dX5_see_44 : decode cX5_see 44 = .ok (.ireturn, 1) := by decide +kernel
theorem dX5_see_45 : decode cX5_see 45 = .ok (.aload_n 0, 1) := by decide +kernel
theorem dX5_see_46 : decode cX5_see 46 = .ok (.getfield 52, 3) := by decide +kernel
theorem dX5_see_49 : decode cX5_see 49 = .ok (.iload_n 1, 1) := by decide +kernel
theorem dX5_see_50 : decode cX5_see 50 = .ok (.iload_n 2, 1) := by decide +kernel
theorem dX5_see_51 : decode cX5_see 51 = .ok (.iload_n 3, 1) := by decide +kernel
theorem dX5_see_52 : decode cX5_see 52 = .ok (.iconst 1, 1) := by decide +kernel
theorem dX5_see_53 : decode cX5_see 53 = .ok (.if_icmp .ne 7, 3) := by decide +kernel
theorem dX5_see_56 : decode cX5_see 56 = .ok (.iconst 1, 1) := by decide +kernel
theorem dX5_see_57 : decode cX5_see 57 = .ok (.goto 4, 3) := by decide +kernel
theorem dX5_see_60 : decode cX5_see 60 = .ok (.iconst 0, 1) := by decide +kernel
theorem dX5_see_61 : decode cX5_see 61 = .ok (.invokevirtual 226, 3) := by decide +kernel
theorem dX5_see_64 : decode cX5_see 64 = .ok (.aload_n 0, 1) := by decide +kernel
theorem dX5_see_65 : decode cX5_see 65 = .ok (.getfield 52, 3) := by decide +kernel
theorem dX5_see_68 : decode cX5_see 68 = .ok (.getfield 230, 3) := by decide +kernel
theorem dX5_see_71 : decode cX5_see 71 = .ok (.ireturn, 1) := by decide +kernel
theorem dX5_unsee_0 : decode cX5_unsee 0 = .ok (.aload_n 0, 1) := by decide +kernel
theorem dX5_unsee_1 : decode cX5_unsee 1 = .ok (.getfield 52, 3) := by decide +kernel
theorem dX5_unsee_4 : decode cX5_unsee 4 = .ok (.getfield 230, 3) := by decide +kernel
theorem dX5_unsee_7 : decode cX5_unsee 7 = .ok (.istore_n 1, 1) := by decide +kernel
theorem dX5_unsee_8 : decode cX5_unsee 8 = .ok (.aload_n 0, 1) := by decide +kernel
theorem dX5_unsee_9 : decode cX5_unsee 9 = .ok (.getfield 52, 3) := by decide +kernel
theorem dX5_unsee_12 : decode cX5_unsee 12 = .ok (.iconst 0, 1) := by decide +kernel
theorem dX5_unsee_13 : decode cX5_unsee 13 = .ok (.putfield 230, 3) := by decide +kernel
theorem dX5_unsee_16 : decode cX5_unsee 16 = .ok (.iload_n 1, 1) := by decide +kernel
theorem dX5_unsee_17 : decode cX5_unsee 17 = .ok (.ireturn, 1) := by decide +kernel
theorem dX5_may_0 : decode cX5_may 0 = .ok (.aload_n 0, 1) := by decide +kernel
theorem dX5_may_1 : decode cX5_may 1 = .ok (.getfield 19, 3) := by decide +kernel
theorem dX5_may_4 : decode cX5_may 4 = .ok (.iload_n 1, 1) := by decide +kernel
theorem dX5_may_5 : decode cX5_may 5 = .ok (.invokevirtual 107, 3) := by decide +kernel
theorem dX5_may_8 : decode cX5_may 8 = .ok (.ifCond .ne 5, 3) := by decide +kernel
theorem dX5_may_11 : decode cX5_may 11 = .ok (.iconst (-1), 1) := by decide +kernel
theorem dX5_may_12 : decode cX5_may 12 = .ok (.ireturn, 1) := by decide +kernel
theorem dX5_may_13 : decode cX5_may 13 = .ok (.iconst 0, 1) := by decide +kernel
theorem dX5_may_14 : decode cX5_may 14 = .ok (.istore_n 2, 1) := by decide +kernel
theorem dX5_may_15 : decode cX5_may 15 = .ok (.iconst 0, 1) := by decide +kernel
theorem dX5_may_16 : decode cX5_may 16 = .ok (.istore_n 3, 1) := by decide +kernel
theorem dX5_may_17 : decode cX5_may 17 = .ok (.iload_n 3, 1) := by decide +kernel
theorem dX5_may_18 : decode cX5_may 18 = .ok (.bipush 9, 2) := by decide +kernel
theorem dX5_may_20 : decode cX5_may 20 = .ok (.if_icmp .gt 38, 3) := by decide +kernel
theorem dX5_may_23 : decode cX5_may 23 = .ok (.aload_n 0, 1) := by decide +kernel
theorem dX5_may_24 : decode cX5_may 24 = .ok (.getfield 52, 3) := by decide +kernel
theorem dX5_may_27 : decode cX5_may 27 = .ok (.aload_n 0, 1) := by decide +kernel
theorem dX5_may_28 : decode cX5_may 28 = .ok (.getfield 19, 3) := by decide +kernel
theorem dX5_may_31 : decode cX5_may 31 = .ok (.iload_n 1, 1) := by decide +kernel
theorem dX5_may_32 : decode cX5_may 32 = .ok (.iload_n 3, 1) := by decide +kernel
theorem dX5_may_33 : decode cX5_may 33 = .ok (.aload_n 0, 1) := by decide +kernel
theorem dX5_may_34 : decode cX5_may 34 = .ok (.getfield 26, 3) := by decide +kernel
theorem dX5_may_37 : decode cX5_may 37 = .ok (.getfield 184, 3) := by decide +kernel
theorem dX5_may_40 : decode cX5_may 40 = .ok (.invokevirtual 231, 3) := by decide +kernel
theorem dX5_may_43 : decode cX5_may 43 = .ok (.ifCond .eq 9, 3) := by decide +kernel
theorem dX5_may_46 : decode cX5_may 46 = .ok (.iload_n 2, 1) := by decide +kernel
theorem dX5_may_47 : decode cX5_may 47 = .ok (.iconst 1, 1) := by decide +kernel
theorem dX5_may_48 : decode cX5_may 48 = .ok (.iload_n 3, 1) := by decide +kernel
theorem dX5_may_49 : decode cX5_may 49 = .ok (.ishl, 1) := by decide +kernel
theorem dX5_may_50 : decode cX5_may 50 = .ok (.ior, 1) := by decide +kernel
theorem dX5_may_51 : decode cX5_may 51 = .ok (.istore_n 2, 1) := by decide +kernel
theorem dX5_may_52 : decode cX5_may 52 = .ok (.iinc 3 1, 3) := by decide +kernel
theorem dX5_may_55 : decode cX5_may 55 = .ok (.goto (-38), 3) := by decide +kernel
theorem dX5_may_58 : decode cX5_may 58 = .ok (.iload_n 2, 1) := by decide +kernel
theorem dX5_may_59 : decode cX5_may 59 = .ok (.ireturn, 1) := by decide +kernel
theorem dX5_share_0 : decode cX5_share 0 = .ok (.aload_n 0, 1) := by decide +kernel
theorem dX5_share_1 : decode cX5_share 1 = .ok (.getfield 19, 3) := by decide +kernel
theorem dX5_share_4 : decode cX5_share 4 = .ok (.iload_n 1, 1) := by decide +kernel
theorem dX5_share_5 : decode cX5_share 5 = .ok (.invokevirtual 107, 3) := by decide +kernel
theorem dX5_share_8 : decode cX5_share 8 = .ok (.ifCond .ne 5, 3) := by decide +kernel
theorem dX5_share_11 : decode cX5_share 11 = .ok (.iconst (-1), 1) := by decide +kernel
theorem dX5_share_12 : decode cX5_share 12 = .ok (.ireturn, 1) := by decide +kernel
theorem dX5_share_13 : decode cX5_share 13 = .ok (.iconst 0, 1) := by decide +kernel
theorem dX5_share_14 : decode cX5_share 14 = .ok (.istore_n 3, 1) := by decide +kernel
theorem dX5_share_15 : decode cX5_share 15 = .ok (.iconst 0, 1) := by decide +kernel
theorem dX5_share_16 : decode cX5_share 16 = .ok (.istore 4, 2) := by decide +kernel
theorem dX5_share_18 : decode cX5_share 18 = .ok (.iload 4, 2) := by decide +kernel
theorem dX5_share_20 : decode cX5_share 20 = .ok (.bipush 9, 2) := by decide +kernel
theorem dX5_share_22 : decode cX5_share 22 = .ok (.if_icmp .gt 47, 3) := by decide +kernel
theorem dX5_share_25 : decode cX5_share 25 = .ok (.aload_n 0, 1) := by decide +kernel
theorem dX5_share_26 : decode cX5_share 26 = .ok (.iload 4, 2) := by decide +kernel
theorem dX5_share_28 : decode cX5_share 28 = .ok (.invokevirtual 235, 3) := by decide +kernel
theorem dX5_share_31 : decode cX5_share 31 = .ok (.istore 5, 2) := by decide +kernel
theorem dX5_share_33 : decode cX5_share 33 = .ok (.iload 5, 2) := by decide +kernel
theorem dX5_share_35 : decode cX5_share 35 = .ok (.ifCond .le 28, 3) := by decide +kernel
theorem dX5_share_38 : decode cX5_share 38 = .ok (.aload_n 0, 1) := by decide +kernel
theorem dX5_share_39 : decode cX5_share 39 = .ok (.getfield 19, 3) := by decide +kernel
theorem dX5_share_42 : decode cX5_share 42 = .ok (.aload_n 0, 1) := by decide +kernel
theorem dX5_share_43 : decode cX5_share 43 = .ok (.getfield 26, 3) := by decide +kernel
theorem dX5_share_46 : decode cX5_share 46 = .ok (.iload_n 1, 1) := by decide +kernel
theorem dX5_share_47 : decode cX5_share 47 = .ok (.iload 4, 2) := by decide +kernel
theorem dX5_share_49 : decode cX5_share 49 = .ok (.invokevirtual 124, 3) := by decide +kernel
theorem dX5_share_52 : decode cX5_share 52 = .ok (.ifCond .eq 11, 3) := by decide +kernel
theorem dX5_share_55 : decode cX5_share 55 = .ok (.iload_n 3, 1) := by decide +kernel
theorem dX5_share_56 : decode cX5_share 56 = .ok (.bipush 12, 2) := by decide +kernel
theorem dX5_share_58 : decode cX5_share 58 = .ok (.iload 5, 2) := by decide +kernel
theorem dX5_share_60 : decode cX5_share 60 = .ok (.idiv, 1) := by decide +kernel
theorem dX5_share_61 : decode cX5_share 61 = .ok (.iadd, 1) := by decide +kernel
theorem dX5_share_62 : decode cX5_share 62 = .ok (.istore_n 3, 1) := by decide +kernel
theorem dX5_share_63 : decode cX5_share 63 = .ok (.iinc 4 1, 3) := by decide +kernel
theorem dX5_share_66 : decode cX5_share 66 = .ok (.goto (-48), 3) := by decide +kernel
theorem dX5_share_69 : decode cX5_share 69 = .ok (.iload_n 3, 1) := by decide +kernel
theorem dX5_share_70 : decode cX5_share 70 = .ok (.bipush 12, 2) := by decide +kernel
theorem dX5_share_72 : decode cX5_share 72 = .ok (.iload_n 2, 1) := by decide +kernel
theorem dX5_share_73 : decode cX5_share 73 = .ok (.invokestatic 238, 3) := by decide +kernel
theorem dX5_share_76 : decode cX5_share 76 = .ok (.ireturn, 1) := by decide +kernel
theorem dX5_wordsThatBring_0 : decode cX5_wordsThatBring 0 = .ok (.iconst 0, 1) := by decide +kernel
theorem dX5_wordsThatBring_1 : decode cX5_wordsThatBring 1 = .ok (.istore_n 2, 1) := by decide +kernel
theorem dX5_wordsThatBring_2 : decode cX5_wordsThatBring 2 = .ok (.iconst 0, 1) := by decide +kernel
theorem dX5_wordsThatBring_3 : decode cX5_wordsThatBring 3 = .ok (.istore_n 3, 1) := by decide +kernel
theorem dX5_wordsThatBring_4 : decode cX5_wordsThatBring 4 = .ok (.iload_n 3, 1) := by decide +kernel
theorem dX5_wordsThatBring_5 : decode cX5_wordsThatBring 5 = .ok (.aload_n 0, 1) := by decide +kernel
theorem dX5_wordsThatBring_6 : decode cX5_wordsThatBring 6 = .ok (.getfield 19, 3) := by decide +kernel
theorem dX5_wordsThatBring_9 : decode cX5_wordsThatBring 9 = .ok (.getfield 92, 3) := by decide +kernel
theorem dX5_wordsThatBring_12 : decode cX5_wordsThatBring 12 = .ok (.if_icmp .ge 28, 3) := by decide +kernel
theorem dX5_wordsThatBring_15 : decode cX5_wordsThatBring 15 = .ok (.aload_n 0, 1) := by decide +kernel
theorem dX5_wordsThatBring_16 : decode cX5_wordsThatBring 16 = .ok (.getfield 19, 3) := by decide +kernel
theorem dX5_wordsThatBring_19 : decode cX5_wordsThatBring 19 = .ok (.aload_n 0, 1) := by decide +kernel
theorem dX5_wordsThatBring_20 : decode cX5_wordsThatBring 20 = .ok (.getfield 26, 3) := by decide +kernel
theorem dX5_wordsThatBring_23 : decode cX5_wordsThatBring 23 = .ok (.iload_n 3, 1) := by decide +kernel
theorem dX5_wordsThatBring_24 : decode cX5_wordsThatBring 24 = .ok (.iload_n 1, 1) := by decide +kernel
theorem dX5_wordsThatBring_25 : decode cX5_wordsThatBring 25 = .ok (.invokevirtual 124, 3) := by decide +kernel
theorem dX5_wordsThatBring_28 : decode cX5_wordsThatBring 28 = .ok (.ifCond .eq 6, 3) := by decide +kernel
theorem dX5_wordsThatBring_31 : decode cX5_wordsThatBring 31 = .ok (.iinc 2 1, 3) := by decide +kernel
theorem dX5_wordsThatBring_34 : decode cX5_wordsThatBring 34 = .ok (.iinc 3 1, 3) := by decide +kernel
theorem dX5_wordsThatBring_37 : decode cX5_wordsThatBring 37 = .ok (.goto (-33), 3) := by decide +kernel
theorem dX5_wordsThatBring_40 : decode cX5_wordsThatBring 40 = .ok (.iload_n 2, 1) := by decide +kernel
theorem dX5_wordsThatBring_41 : decode cX5_wordsThatBring 41 = .ok (.ireturn, 1) := by decide +kernel
theorem dX5_rests_0 : decode cX5_rests 0 = .ok (.aload_n 0, 1) := by decide +kernel
theorem dX5_rests_1 : decode cX5_rests 1 = .ok (.getfield 19, 3) := by decide +kernel
theorem dX5_rests_4 : decode cX5_rests 4 = .ok (.iload_n 1, 1) := by decide +kernel
theorem dX5_rests_5 : decode cX5_rests 5 = .ok (.invokevirtual 107, 3) := by decide +kernel
theorem dX5_rests_8 : decode cX5_rests 8 = .ok (.ifCond .eq 14, 3) := by decide +kernel
theorem dX5_rests_11 : decode cX5_rests 11 = .ok (.aload_n 0, 1) := by decide +kernel
theorem dX5_rests_12 : decode cX5_rests 12 = .ok (.getfield 19, 3) := by decide +kernel
theorem dX5_rests_15 : decode cX5_rests 15 = .ok (.iload_n 2, 1) := by decide +kernel
theorem dX5_rests_16 : decode cX5_rests 16 = .ok (.invokevirtual 107, 3) := by decide +kernel
theorem dX5_rests_19 : decode cX5_rests 19 = .ok (.ifCond .ne 5, 3) := by decide +kernel
theorem dX5_rests_22 : decode cX5_rests 22 = .ok (.iconst (-1), 1) := by decide +kernel
theorem dX5_rests_23 : decode cX5_rests 23 = .ok (.ireturn, 1) := by decide +kernel
theorem dX5_rests_24 : decode cX5_rests 24 = .ok (.iload_n 3, 1) := by decide +kernel
theorem dX5_rests_25 : decode cX5_rests 25 = .ok (.ifCond .lt 8, 3) := by decide +kernel
theorem dX5_rests_28 : decode cX5_rests 28 = .ok (.iload_n 3, 1) := by decide +kernel
theorem dX5_rests_29 : decode cX5_rests 29 = .ok (.iconst 1, 1) := by decide +kernel
theorem dX5_rests_30 : decode cX5_rests 30 = .ok (.if_icmp .le 6, 3) := by decide +kernel
theorem dX5_rests_33 : decode cX5_rests 33 = .ok (.bipush (-2), 2) := by decide +kernel
theorem dX5_rests_35 : decode cX5_rests 35 = .ok (.ireturn, 1) := by decide +kernel
theorem dX5_rests_36 : decode cX5_rests 36 = .ok (.iconst 0, 1) := by decide +kernel
theorem dX5_rests_37 : decode cX5_rests 37 = .ok (.istore 4, 2) := by decide +kernel
theorem dX5_rests_39 : decode cX5_rests 39 = .ok (.bipush (-9), 2) := by decide +kernel
theorem dX5_rests_41 : decode cX5_rests 41 = .ok (.istore 5, 2) := by decide +kernel
theorem dX5_rests_43 : decode cX5_rests 43 = .ok (.iconst 0, 1) := by decide +kernel
theorem dX5_rests_44 : decode cX5_rests 44 = .ok (.istore 6, 2) := by decide +kernel
theorem dX5_rests_46 : decode cX5_rests 46 = .ok (.iload 6, 2) := by decide +kernel
theorem dX5_rests_48 : decode cX5_rests 48 = .ok (.iconst 1, 1) := by decide +kernel
theorem dX5_rests_49 : decode cX5_rests 49 = .ok (.if_icmp .gt 69, 3) := by decide +kernel
theorem dX5_rests_52 : decode cX5_rests 52 = .ok (.iconst 0, 1) := by decide +kernel
theorem dX5_rests_53 : decode cX5_rests 53 = .ok (.istore 7, 2) := by decide +kernel
theorem dX5_rests_55 : decode cX5_rests 55 = .ok (.iload 7, 2) := by decide +kernel
theorem dX5_rests_57 : decode cX5_rests 57 = .ok (.iconst 1, 1) := by decide +kernel
theorem dX5_rests_58 : decode cX5_rests 58 = .ok (.if_icmp .gt 54, 3) := by decide +kernel
theorem dX5_rests_61 : decode cX5_rests 61 = .ok (.aload_n 0, 1) := by decide +kernel
theorem dX5_rests_62 : decode cX5_rests 62 = .ok (.iload_n 1, 1) := by decide +kernel
theorem dX5_rests_63 : decode cX5_rests 63 = .ok (.iload 6, 2) := by decide +kernel
theorem dX5_rests_65 : decode cX5_rests 65 = .ok (.iload 7, 2) := by decide +kernel
theorem dX5_rests_67 : decode cX5_rests 67 = .ok (.invokevirtual 242, 3) := by decide +kernel
theorem dX5_rests_70 : decode cX5_rests 70 = .ok (.ifCond .eq 36, 3) := by decide +kernel
theorem dX5_rests_73 : decode cX5_rests 73 = .ok (.aload_n 0, 1) := by decide +kernel
theorem dX5_rests_74 : decode cX5_rests 74 = .ok (.iload_n 2, 1) := by decide +kernel
theorem dX5_rests_75 : decode cX5_rests 75 = .ok (.iload 7, 2) := by decide +kernel
theorem dX5_rests_77 : decode cX5_rests 77 = .ok (.iload 6, 2) := by decide +kernel
theorem dX5_rests_79 : decode cX5_rests 79 = .ok (.invokevirtual 242, 3) := by decide +kernel
theorem dX5_rests_82 : decode cX5_rests 82 = .ok (.ifCond .ne 6, 3) := by decide +kernel
theorem dX5_rests_85 : decode cX5_rests 85 = .ok (.goto 21, 3) := by decide +kernel
theorem dX5_rests_88 : decode cX5_rests 88 = .ok (.iload 4, 2) := by decide +kernel
theorem dX5_rests_90 : decode cX5_rests 90 = .ok (.ifCond .ne 13, 3) := by decide +kernel
theorem dX5_rests_93 : decode cX5_rests 93 = .ok (.bipush 10, 2) := by decide +kernel
theorem dX5_rests_95 : decode cX5_rests 95 = .ok (.iload 6, 2) := by decide +kernel
theorem dX5_rests_97 : decode cX5_rests 97 = .ok (.imul, 1) := by decide +kernel
theorem dX5_rests_98 : decode cX5_rests 98 = .ok (.iload 7, 2) := by decide +kernel
theorem dX5_rests_100 : decode cX5_rests 100 = .ok (.iadd, 1) := by decide +kernel
theorem dX5_rests_101 : decode cX5_rests 101 = .ok (.istore 5, 2) := by decide +kernel
theorem dX5_rests_103 : decode cX5_rests 103 = .ok (.iinc 4 1, 3) := by decide +kernel
theorem dX5_rests_106 : decode cX5_rests 106 = .ok (.iinc 7 1, 3) := by decide +kernel
theorem dX5_rests_109 : decode cX5_rests 109 = .ok (.goto (-54), 3) := by decide +kernel
theorem dX5_rests_112 : decode cX5_rests 112 = .ok (.iinc 6 1, 3) := by decide +kernel
theorem dX5_rests_115 : decode cX5_rests 115 = .ok (.goto (-69), 3) := by decide +kernel
theorem dX5_rests_118 : decode cX5_rests 118 = .ok (.iload_n 3, 1) := by decide +kernel
theorem dX5_rests_119 : decode cX5_rests 119 = .ok (.ifCond .ne 8, 3) := by decide +kernel
theorem dX5_rests_122 : decode cX5_rests 122 = .ok (.iload 4, 2) := by decide +kernel
theorem dX5_rests_124 : decode cX5_rests 124 = .ok (.goto 5, 3) := by decide +kernel
theorem dX5_rests_127 : decode cX5_rests 127 = .ok (.iload 5, 2) := by decide +kernel
theorem dX5_rests_129 : decode cX5_rests 129 = .ok (.ireturn, 1) := by decide +kernel
theorem dX5_isContent_0 : decode cX5_isContent 0 = .ok (.aload_n 0, 1) := by decide +kernel
theorem dX5_isContent_1 : decode cX5_isContent 1 = .ok (.iload_n 1, 1) := by decide +kernel
theorem dX5_isContent_2 : decode cX5_isContent 2 = .ok (.iload_n 2, 1) := by decide +kernel
theorem dX5_isContent_3 : decode cX5_isContent 3 = .ok (.iload_n 3, 1) := by decide +kernel
theorem dX5_isContent_4 : decode cX5_isContent 4 = .ok (.invokevirtual 245, 3) := by decide +kernel
theorem dX5_isContent_7 : decode cX5_isContent 7 = .ok (.aload_n 0, 1) := by decide +kernel
theorem dX5_isContent_8 : decode cX5_isContent 8 = .ok (.iload_n 1, 1) := by decide +kernel
theorem dX5_isContent_9 : decode cX5_isContent 9 = .ok (.iconst 1, 1) := by decide +kernel
theorem dX5_isContent_10 : decode cX5_isContent 10 = .ok (.iload_n 2, 1) := by decide +kernel
theorem dX5_isContent_11 : decode cX5_isContent 11 = .ok (.isub, 1) := by decide +kernel
theorem dX5_isContent_12 : decode cX5_isContent 12 = .ok (.iload_n 3, 1) := by decide +kernel
theorem dX5_isContent_13 : decode cX5_isContent 13 = .ok (.invokevirtual 245, 3) := by decide +kernel
theorem dX5_isContent_16 : decode cX5_isContent 16 = .ok (.if_icmp .lt 7, 3) := by decide +kernel
theorem dX5_isContent_19 : decode cX5_isContent 19 = .ok (.iconst 1, 1) := by decide +kernel
theorem dX5_isContent_20 : decode cX5_isContent 20 = .ok (.goto 4, 3) := by decide +kernel
theorem dX5_isContent_23 : decode cX5_isContent 23 = .ok (.iconst 0, 1) := by decide +kernel
theorem dX5_isContent_24 : decode cX5_isContent 24 = .ok (.ireturn, 1) := by decide +kernel
theorem dX5_gainOf_0 : decode cX5_gainOf 0 = .ok (.iload_n 2, 1) := by decide +kernel
theorem dX5_gainOf_1 : decode cX5_gainOf 1 = .ok (.ifCond .ne 5, 3) := by decide +kernel
theorem dX5_gainOf_4 : decode cX5_gainOf 4 = .ok (.iconst 0, 1) := by decide +kernel
theorem dX5_gainOf_5 : decode cX5_gainOf 5 = .ok (.ireturn, 1) := by decide +kernel
theorem dX5_gainOf_6 : decode cX5_gainOf 6 = .ok (.aload_n 0, 1) := by decide +kernel
theorem dX5_gainOf_7 : decode cX5_gainOf 7 = .ok (.getfield 19, 3) := by decide +kernel
theorem dX5_gainOf_10 : decode cX5_gainOf 10 = .ok (.aload_n 0, 1) := by decide +kernel
theorem dX5_gainOf_11 : decode cX5_gainOf 11 = .ok (.getfield 26, 3) := by decide +kernel
theorem dX5_gainOf_14 : decode cX5_gainOf 14 = .ok (.iload_n 1, 1) := by decide +kernel
theorem dX5_gainOf_15 : decode cX5_gainOf 15 = .ok (.aload_n 0, 1) := by decide +kernel
theorem dX5_gainOf_16 : decode cX5_gainOf 16 = .ok (.getfield 26, 3) := by decide +kernel
theorem dX5_gainOf_19 : decode cX5_gainOf 19 = .ok (.getfield 117, 3) := by decide +kernel
theorem dX5_gainOf_22 : decode cX5_gainOf 22 = .ok (.invokevirtual 120, 3) := by decide +kernel
theorem dX5_gainOf_25 : decode cX5_gainOf 25 = .ok (.iconst 2, 1) := by decide +kernel
theorem dX5_gainOf_26 : decode cX5_gainOf 26 = .ok (.iload_n 3, 1) := by decide +kernel
theorem dX5_gainOf_27 : decode cX5_gainOf 27 = .ok (.imul, 1) := by decide +kernel
theorem dX5_gainOf_28 : decode cX5_gainOf 28 = .ok (.isub, 1) := by decide +kernel
theorem dX5_gainOf_29 : decode cX5_gainOf 29 = .ok (.istore 4, 2) := by decide +kernel
theorem dX5_gainOf_31 : decode cX5_gainOf 31 = .ok (.aload_n 0, 1) := by decide +kernel
theorem dX5_gainOf_32 : decode cX5_gainOf 32 = .ok (.getfield 19, 3) := by decide +kernel
theorem dX5_gainOf_35 : decode cX5_gainOf 35 = .ok (.iload 4, 2) := by decide +kernel
theorem dX5_gainOf_37 : decode cX5_gainOf 37 = .ok (.aload_n 0, 1) := by decide +kernel
theorem dX5_gainOf_38 : decode cX5_gainOf 38 = .ok (.getfield 26, 3) := by decide +kernel
theorem dX5_gainOf_41 : decode cX5_gainOf 41 = .ok (.getfield 117, 3) := by decide +kernel
theorem dX5_gainOf_44 : decode cX5_gainOf 44 = .ok (.bipush 15, 2) := by decide +kernel
theorem dX5_gainOf_46 : decode cX5_gainOf 46 = .ok (.invokevirtual 215, 3) := by decide +kernel
theorem dX5_gainOf_49 : decode cX5_gainOf 49 = .ok (.ifCond .eq 9, 3) := by decide +kernel
theorem dX5_gainOf_52 : decode cX5_gainOf 52 = .ok (.iconst 3, 1) := by decide +kernel
theorem dX5_gainOf_53 : decode cX5_gainOf 53 = .ok (.iload_n 3, 1) := by decide +kernel
theorem dX5_gainOf_54 : decode cX5_gainOf 54 = .ok (.isub, 1) := by decide +kernel
theorem dX5_gainOf_55 : decode cX5_gainOf 55 = .ok (.goto 4, 3) := by decide +kernel
theorem dX5_gainOf_58 : decode cX5_gainOf 58 = .ok (.iconst (-1), 1) := by decide +kernel
theorem dX5_gainOf_59 : decode cX5_gainOf 59 = .ok (.ireturn, 1) := by decide +kernel
theorem dX5_there_0 : decode cX5_there 0 = .ok (.aload_n 0, 1) := by decide +kernel
theorem dX5_there_1 : decode cX5_there 1 = .ok (.getfield 19, 3) := by decide +kernel
theorem dX5_there_4 : decode cX5_there 4 = .ok (.iload_n 1, 1) := by decide +kernel
theorem dX5_there_5 : decode cX5_there 5 = .ok (.invokevirtual 107, 3) := by decide +kernel
theorem dX5_there_8 : decode cX5_there 8 = .ok (.ifCond .ne 5, 3) := by decide +kernel
theorem dX5_there_11 : decode cX5_there 11 = .ok (.iconst (-1), 1) := by decide +kernel
theorem dX5_there_12 : decode cX5_there 12 = .ok (.ireturn, 1) := by decide +kernel
theorem dX5_there_13 : decode cX5_there 13 = .ok (.iload_n 2, 1) := by decide +kernel
theorem dX5_there_14 : decode cX5_there 14 = .ok (.ifCond .lt 9, 3) := by decide +kernel
theorem dX5_there_17 : decode cX5_there 17 = .ok (.iload_n 2, 1) := by decide +kernel
theorem dX5_there_18 : decode cX5_there 18 = .ok (.bipush 10, 2) := by decide +kernel
theorem dX5_there_20 : decode cX5_there 20 = .ok (.if_icmp .le 6, 3) := by decide +kernel
theorem dX5_there_23 : decode cX5_there 23 = .ok (.bipush (-2), 2) := by decide +kernel
theorem dX5_there_25 : decode cX5_there 25 = .ok (.ireturn, 1) := by decide +kernel
theorem dX5_there_26 : decode cX5_there 26 = .ok (.aload_n 0, 1) := by decide +kernel
theorem dX5_there_27 : decode cX5_there 27 = .ok (.getfield 19, 3) := by decide +kernel
theorem dX5_there_30 : decode cX5_there 30 = .ok (.aload_n 0, 1) := by decide +kernel
theorem dX5_there_31 : decode cX5_there 31 = .ok (.getfield 26, 3) := by decide +kernel
theorem dX5_there_34 : decode cX5_there 34 = .ok (.iload_n 1, 1) := by decide +kernel
theorem dX5_there_35 : decode cX5_there 35 = .ok (.aload_n 0, 1) := by decide +kernel
theorem dX5_there_36 : decode cX5_there 36 = .ok (.getfield 26, 3) := by decide +kernel
theorem dX5_there_39 : decode cX5_there 39 = .ok (.getfield 117, 3) := by decide +kernel
theorem dX5_there_42 : decode cX5_there 42 = .ok (.invokevirtual 120, 3) := by decide +kernel
theorem dX5_there_45 : decode cX5_there 45 = .ok (.istore 4, 2) := by decide +kernel
theorem dX5_there_47 : decode cX5_there 47 = .ok (.iconst 0, 1) := by decide +kernel
theorem dX5_there_48 : decode cX5_there 48 = .ok (.istore 5, 2) := by decide +kernel
theorem dX5_there_50 : decode cX5_there 50 = .ok (.iconst 0, 1) := by decide +kernel
theorem dX5_there_51 : decode cX5_there 51 = .ok (.istore 6, 2) := by decide +kernel
theorem dX5_there_53 : decode cX5_there 53 = .ok (.iload 6, 2) := by decide +kernel
theorem dX5_there_55 : decode cX5_there 55 = .ok (.iconst 1, 1) := by decide +kernel
theorem dX5_there_56 : decode cX5_there 56 = .ok (.aload_n 0, 1) := by decide +kernel
theorem dX5_there_57 : decode cX5_there 57 = .ok (.getfield 19, 3) := by decide +kernel
theorem dX5_there_60 : decode cX5_there 60 = .ok (.getfield 95, 3) := by decide +kernel
theorem dX5_there_63 : decode cX5_there 63 = .ok (.ishl, 1) := by decide +kernel
theorem dX5_there_64 : decode cX5_there 64 = .ok (.if_icmp .ge 42, 3) := by decide +kernel
theorem dX5_there_67 : decode cX5_there 67 = .ok (.aload_n 0, 1) := by decide +kernel
theorem dX5_there_68 : decode cX5_there 68 = .ok (.getfield 19, 3) := by decide +kernel
theorem dX5_there_71 : decode cX5_there 71 = .ok (.iload 4, 2) := by decide +kernel
theorem dX5_there_73 : decode cX5_there 73 = .ok (.aload_n 0, 1) := by decide +kernel
theorem dX5_there_74 : decode cX5_there 74 = .ok (.getfield 26, 3) := by decide +kernel
theorem dX5_there_77 : decode cX5_there 77 = .ok (.getfield 117, 3) := by decide +kernel
theorem dX5_there_80 : decode cX5_there 80 = .ok (.iload 6, 2) := by decide +kernel
theorem dX5_there_82 : decode cX5_there 82 = .ok (.invokevirtual 215, 3) := by decide +kernel
theorem dX5_there_85 : decode cX5_there 85 = .ok (.ifCond .eq 15, 3) := by decide +kernel
theorem dX5_there_88 : decode cX5_there 88 = .ok (.iload 5, 2) := by decide +kernel
theorem dX5_there_90 : decode cX5_there 90 = .ok (.aload_n 0, 1) := by decide +kernel
theorem dX5_there_91 : decode cX5_there 91 = .ok (.iload 6, 2) := by decide +kernel
theorem dX5_there_93 : decode cX5_there 93 = .ok (.iload_n 2, 1) := by decide +kernel
theorem dX5_there_94 : decode cX5_there 94 = .ok (.invokevirtual 248, 3) := by decide +kernel
theorem dX5_there_97 : decode cX5_there 97 = .ok (.iadd, 1) := by decide +kernel
theorem dX5_there_98 : decode cX5_there 98 = .ok (.istore 5, 2) := by decide +kernel
theorem dX5_there_100 : decode cX5_there 100 = .ok (.iinc 6 1, 3) := by decide +kernel
theorem dX5_there_103 : decode cX5_there 103 = .ok (.goto (-50), 3) := by decide +kernel
theorem dX5_there_106 : decode cX5_there 106 = .ok (.iload 5, 2) := by decide +kernel
theorem dX5_there_108 : decode cX5_there 108 = .ok (.aload_n 0, 1) := by decide +kernel
theorem dX5_there_109 : decode cX5_there 109 = .ok (.getfield 19, 3) := by decide +kernel
theorem dX5_there_112 : decode cX5_there 112 = .ok (.getfield 95, 3) := by decide +kernel
theorem dX5_there_115 : decode cX5_there 115 = .ok (.invokestatic 219, 3) := by decide +kernel
theorem dX5_there_118 : decode cX5_there 118 = .ok (.iload_n 3, 1) := by decide +kernel
theorem dX5_there_119 : decode cX5_there 119 = .ok (.invokestatic 238, 3) := by decide +kernel
theorem dX5_there_122 : decode cX5_there 122 = .ok (.ireturn, 1) := by decide +kernel
theorem dX5_weightOf_0 : decode cX5_weightOf 0 = .ok (.iconst 1, 1) := by decide +kernel
theorem dX5_weightOf_1 : decode cX5_weightOf 1 = .ok (.istore_n 3, 1) := by decide +kernel
theorem dX5_weightOf_2 : decode cX5_weightOf 2 = .ok (.iconst 0, 1) := by decide +kernel
theorem dX5_weightOf_3 : decode cX5_weightOf 3 = .ok (.istore 4, 2) := by decide +kernel
theorem dX5_weightOf_5 : decode cX5_weightOf 5 = .ok (.iload 4, 2) := by decide +kernel
theorem dX5_weightOf_7 : decode cX5_weightOf 7 = .ok (.aload_n 0, 1) := by decide +kernel
theorem dX5_weightOf_8 : decode cX5_weightOf 8 = .ok (.getfield 19, 3) := by decide +kernel
theorem dX5_weightOf_11 : decode cX5_weightOf 11 = .ok (.getfield 95, 3) := by decide +kernel
theorem dX5_weightOf_14 : decode cX5_weightOf 14 = .ok (.if_icmp .ge 30, 3) := by decide +kernel
theorem dX5_weightOf_17 : decode cX5_weightOf 17 = .ok (.iload_n 3, 1) := by decide +kernel
theorem dX5_weightOf_18 : decode cX5_weightOf 18 = .ok (.iload_n 1, 1) := by decide +kernel
theorem dX5_weightOf_19 : decode cX5_weightOf 19 = .ok (.iload 4, 2) := by decide +kernel
theorem dX5_weightOf_21 : decode cX5_weightOf 21 = .ok (.ishr, 1) := by decide +kernel
theorem dX5_weightOf_22 : decode cX5_weightOf 22 = .ok (.iconst 1, 1) := by decide +kernel
theorem dX5_weightOf_23 : decode cX5_weightOf 23 = .ok (.iand, 1) := by decide +kernel
theorem dX5_weightOf_24 : decode cX5_weightOf 24 = .ok (.iconst 1, 1) := by decide +kernel
theorem dX5_weightOf_25 : decode cX5_weightOf 25 = .ok (.if_icmp .ne 7, 3) := by decide +kernel
theorem dX5_weightOf_28 : decode cX5_weightOf 28 = .ok (.iload_n 2, 1) := by decide +kernel
theorem dX5_weightOf_29 : decode cX5_weightOf 29 = .ok (.goto 7, 3) := by decide +kernel
theorem dX5_weightOf_32 : decode cX5_weightOf 32 = .ok (.bipush 10, 2) := by decide +kernel
theorem dX5_weightOf_34 : decode cX5_weightOf 34 = .ok (.iload_n 2, 1) := by decide +kernel
theorem dX5_weightOf_35 : decode cX5_weightOf 35 = .ok (.isub, 1) := by decide +kernel
theorem dX5_weightOf_36 : decode cX5_weightOf 36 = .ok (.imul, 1) := by decide +kernel
theorem dX5_weightOf_37 : decode cX5_weightOf 37 = .ok (.istore_n 3, 1) := by decide +kernel
theorem dX5_weightOf_38 : decode cX5_weightOf 38 = .ok (.iinc 4 1, 3) := by decide +kernel
theorem dX5_weightOf_41 : decode cX5_weightOf 41 = .ok (.goto (-36), 3) := by decide +kernel
theorem dX5_weightOf_44 : decode cX5_weightOf 44 = .ok (.iload_n 3, 1) := by decide +kernel
theorem dX5_weightOf_45 : decode cX5_weightOf 45 = .ok (.ireturn, 1) := by decide +kernel
theorem dX5_seed_0 : decode cX5_seed 0 = .ok (.aload_n 0, 1) := by decide +kernel
theorem dX5_seed_1 : decode cX5_seed 1 = .ok (.getfield 251, 3) := by decide +kernel
theorem dX5_seed_4 : decode cX5_seed 4 = .ok (.lstore_n 3, 1) := by decide +kernel
theorem dX5_seed_5 : decode cX5_seed 5 = .ok (.aload_n 0, 1) := by decide +kernel
theorem dX5_seed_6 : decode cX5_seed 6 = .ok (.lload_n 1, 1) := by decide +kernel
theorem dX5_seed_7 : decode cX5_seed 7 = .ok (.putfield 251, 3) := by decide +kernel
theorem dX5_seed_10 : decode cX5_seed 10 = .ok (.lload_n 3, 1) := by decide +kernel
theorem dX5_seed_11 : decode cX5_seed 11 = .ok (.lreturn, 1) := by decide +kernel
theorem dX5_walks_0 : decode cX5_walks 0 = .ok (.iload_n 1, 1) := by decide +kernel
theorem dX5_walks_1 : decode cX5_walks 1 = .ok (.iconst 1, 1) := by decide +kernel
theorem dX5_walks_2 : decode cX5_walks 2 = .ok (.if_icmp .lt 9, 3) := by decide +kernel
theorem dX5_walks_5 : decode cX5_walks 5 = .ok (.iload_n 1, 1) := by decide +kernel
theorem dX5_walks_6 : decode cX5_walks 6 = .ok (.bipush 30, 2) := by decide +kernel
theorem dX5_walks_8 : decode cX5_walks 8 = .ok (.if_icmp .le 6, 3) := by decide +kernel
theorem dX5_walks_11 : decode cX5_walks 11 = .ok (.bipush (-2), 2) := by decide +kernel
theorem dX5_walks_13 : decode cX5_walks 13 = .ok (.ireturn, 1) := by decide +kernel
theorem dX5_walks_14 : decode cX5_walks 14 = .ok (.aload_n 0, 1) := by decide +kernel
theorem dX5_walks_15 : decode cX5_walks 15 = .ok (.getfield 30, 3) := by decide +kernel
theorem dX5_walks_18 : decode cX5_walks 18 = .ok (.aload_n 0, 1) := by decide +kernel
theorem dX5_walks_19 : decode cX5_walks 19 = .ok (.getfield 26, 3) := by decide +kernel
theorem dX5_walks_22 : decode cX5_walks 22 = .ok (.invokevirtual 204, 3) := by decide +kernel
theorem dX5_walks_25 : decode cX5_walks 25 = .ok (.iconst 0, 1) := by decide +kernel
theorem dX5_walks_26 : decode cX5_walks 26 = .ok (.istore_n 2, 1) := by decide +kernel
theorem dX5_walks_27 : decode cX5_walks 27 = .ok (.iconst 0, 1) := by decide +kernel
theorem dX5_walks_28 : decode cX5_walks 28 = .ok (.istore_n 3, 1) := by decide +kernel
theorem dX5_walks_29 : decode cX5_walks 29 = .ok (.iload_n 3, 1) := by decide +kernel
theorem dX5_walks_30 : decode cX5_walks 30 = .ok (.iload_n 1, 1) := by decide +kernel
theorem dX5_walks_31 : decode cX5_walks 31 = .ok (.if_icmp .ge 65, 3) := by decide +kernel
theorem dX5_walks_34 : decode cX5_walks 34 = .ok (.aload_n 0, 1) := by decide +kernel
theorem dX5_walks_35 : decode cX5_walks 35 = .ok (.aload_n 0, 1) := by decide +kernel
theorem dX5_walks_36 : decode cX5_walks 36 = .ok (.getfield 251, 3) := by decide +kernel
theorem dX5_walks_39 : decode cX5_walks 39 = .ok (.ldc2_w 255, 3) := by decide +kernel
theorem dX5_walks_42 : decode cX5_walks 42 = .ok (.lmul, 1) := by decide +kernel
theorem dX5_walks_43 : decode cX5_walks 43 = .ok (.ldc2_w 257, 3) := by decide +kernel
theorem dX5_walks_46 : decode cX5_walks 46 = .ok (.ladd, 1) := by decide +kernel
theorem dX5_walks_47 : decode cX5_walks 47 = .ok (.putfield 251, 3) := by decide +kernel
theorem dX5_walks_50 : decode cX5_walks 50 = .ok (.aload_n 0, 1) := by decide +kernel
theorem dX5_walks_51 : decode cX5_walks 51 = .ok (.getfield 251, 3) := by decide +kernel
theorem dX5_walks_54 : decode cX5_walks 54 = .ok (.bipush 33, 2) := by decide +kernel
theorem dX5_walks_56 : decode cX5_walks 56 = .ok (.lushr, 1) := by decide +kernel
theorem dX5_walks_57 : decode cX5_walks 57 = .ok (.ldc2_w 259, 3) := by decide +kernel
theorem dX5_walks_60 : decode cX5_walks 60 = .ok (.lrem, 1) := by decide +kernel
theorem dX5_walks_61 : decode cX5_walks 61 = .ok (.l2i, 1) := by decide +kernel
theorem dX5_walks_62 : decode cX5_walks 62 = .ok (.istore 4, 2) := by decide +kernel
theorem dX5_walks_64 : decode cX5_walks 64 = .ok (.aload_n 0, 1) := by decide +kernel
theorem dX5_walks_65 : decode cX5_walks 65 = .ok (.getfield 30, 3) := by decide +kernel
theorem dX5_walks_68 : decode cX5_walks 68 = .ok (.getfield 154, 3) := by decide +kernel
theorem dX5_walks_71 : decode cX5_walks 71 = .ok (.ifCond .ne 19, 3) := by decide +kernel
theorem dX5_walks_74 : decode cX5_walks 74 = .ok (.aload_n 0, 1) := by decide +kernel
theorem dX5_walks_75 : decode cX5_walks 75 = .ok (.aload_n 0, 1) := by decide +kernel
theorem dX5_walks_76 : decode cX5_walks 76 = .ok (.getfield 30, 3) := by decide +kernel
theorem dX5_walks_79 : decode cX5_walks 79 = .ok (.iload 4, 2) := by decide +kernel
theorem dX5_walks_81 : decode cX5_walks 81 = .ok (.invokevirtual 261, 3) := by decide +kernel
theorem dX5_walks_84 : decode cX5_walks 84 = .ok (.ifCond .eq 6, 3) := by decide +kernel
theorem dX5_walks_87 : decode cX5_walks 87 = .ok (.iinc 2 1, 3) := by decide +kernel
theorem dX5_walks_90 : decode cX5_walks 90 = .ok (.iinc 3 1, 3) := by decide +kernel
theorem dX5_walks_93 : decode cX5_walks 93 = .ok (.goto (-64), 3) := by decide +kernel
theorem dX5_walks_96 : decode cX5_walks 96 = .ok (.iload_n 2, 1) := by decide +kernel
theorem dX5_walks_97 : decode cX5_walks 97 = .ok (.ireturn, 1) := by decide +kernel
theorem dX5_returnsFrom_0 : decode cX5_returnsFrom 0 = .ok (.aload_n 1, 1) := by decide +kernel
theorem dX5_returnsFrom_1 : decode cX5_returnsFrom 1 = .ok (.iload_n 2, 1) := by decide +kernel
theorem dX5_returnsFrom_2 : decode cX5_returnsFrom 2 = .ok (.iconst 5, 1) := by decide +kernel
theorem dX5_returnsFrom_3 : decode cX5_returnsFrom 3 = .ok (.irem, 1) := by decide +kernel
theorem dX5_returnsFrom_4 : decode cX5_returnsFrom 4 = .ok (.invokevirtual 174, 3) := by decide +kernel
theorem dX5_returnsFrom_7 : decode cX5_returnsFrom 7 = .ok (.iload_n 2, 1) := by decide +kernel
theorem dX5_returnsFrom_8 : decode cX5_returnsFrom 8 = .ok (.iconst 5, 1) := by decide +kernel
theorem dX5_returnsFrom_9 : decode cX5_returnsFrom 9 = .ok (.idiv, 1) := by decide +kernel
theorem dX5_returnsFrom_10 : decode cX5_returnsFrom 10 = .ok (.istore_n 3, 1) := by decide +kernel
theorem dX5_returnsFrom_11 : decode cX5_returnsFrom 11 = .ok (.aload_n 0, 1) := by decide +kernel
theorem dX5_returnsFrom_12 : decode cX5_returnsFrom 12 = .ok (.getfield 19, 3) := by decide +kernel
theorem dX5_returnsFrom_15 : decode cX5_returnsFrom 15 = .ok (.iload_n 3, 1) := by decide +kernel
theorem dX5_returnsFrom_16 : decode cX5_returnsFrom 16 = .ok (.invokevirtual 107, 3) := by decide +kernel
theorem dX5_returnsFrom_19 : decode cX5_returnsFrom 19 = .ok (.ifCond .eq 15, 3) := by decide +kernel
theorem dX5_returnsFrom_22 : decode cX5_returnsFrom 22 = .ok (.aload_n 0, 1) := by decide +kernel
theorem dX5_returnsFrom_23 : decode cX5_returnsFrom 23 = .ok (.getfield 19, 3) := by decide +kernel
theorem dX5_returnsFrom_26 : decode cX5_returnsFrom 26 = .ok (.aload_n 1, 1) := by decide +kernel
theorem dX5_returnsFrom_27 : decode cX5_returnsFrom 27 = .ok (.iload_n 3, 1) := by decide +kernel
theorem dX5_returnsFrom_28 : decode cX5_returnsFrom 28 = .ok (.invokevirtual 161, 3) := by decide +kernel
theorem dX5_returnsFrom_31 : decode cX5_returnsFrom 31 = .ok (.ifCond .ne 5, 3) := by decide +kernel
theorem dX5_returnsFrom_34 : decode cX5_returnsFrom 34 = .ok (.iconst 0, 1) := by decide +kernel
theorem dX5_returnsFrom_35 : decode cX5_returnsFrom 35 = .ok (.ireturn, 1) := by decide +kernel
theorem dX5_returnsFrom_36 : decode cX5_returnsFrom 36 = .ok (.aload_n 1, 1) := by decide +kernel
theorem dX5_returnsFrom_37 : decode cX5_returnsFrom 37 = .ok (.invokevirtual 165, 3) := by decide +kernel
theorem dX5_returnsFrom_40 : decode cX5_returnsFrom 40 = .ok (.ifCond .eq 7, 3) := by decide +kernel
theorem dX5_returnsFrom_43 : decode cX5_returnsFrom 43 = .ok (.aload_n 1, 1) := by decide +kernel
theorem dX5_returnsFrom_44 : decode cX5_returnsFrom 44 = .ok (.invokevirtual 171, 3) := by decide +kernel
theorem dX5_returnsFrom_47 : decode cX5_returnsFrom 47 = .ok (.iconst 1, 1) := by decide +kernel
theorem dX5_returnsFrom_48 : decode cX5_returnsFrom 48 = .ok (.ireturn, 1) := by decide +kernel
theorem dX5_keep_0 : decode cX5_keep 0 = .ok (.aload_n 0, 1) := by decide +kernel
theorem dX5_keep_1 : decode cX5_keep 1 = .ok (.iload_n 1, 1) := by decide +kernel
theorem dX5_keep_2 : decode cX5_keep 2 = .ok (.invokevirtual 264, 3) := by decide +kernel
theorem dX5_keep_5 : decode cX5_keep 5 = .ok (.ifCond .eq 5, 3) := by decide +kernel
theorem dX5_keep_8 : decode cX5_keep 8 = .ok (.iconst (-1), 1) := by decide +kernel
theorem dX5_keep_9 : decode cX5_keep 9 = .ok (.ireturn, 1) := by decide +kernel
theorem dX5_keep_10 : decode cX5_keep 10 = .ok (.aload_n 0, 1) := by decide +kernel
theorem dX5_keep_11 : decode cX5_keep 11 = .ok (.getfield 42, 3) := by decide +kernel
theorem dX5_keep_14 : decode cX5_keep 14 = .ok (.iload_n 1, 1) := by decide +kernel
theorem dX5_keep_15 : decode cX5_keep 15 = .ok (.aload_n 0, 1) := by decide +kernel
theorem dX5_keep_16 : decode cX5_keep 16 = .ok (.getfield 26, 3) := by decide +kernel
theorem dX5_keep_19 : decode cX5_keep 19 = .ok (.invokevirtual 194, 3) := by decide +kernel
theorem dX5_keep_22 : decode cX5_keep 22 = .ok (.aload_n 0, 1) := by decide +kernel
theorem dX5_keep_23 : decode cX5_keep 23 = .ok (.getfield 45, 3) := by decide +kernel
theorem dX5_keep_26 : decode cX5_keep 26 = .ok (.iload_n 1, 1) := by decide +kernel
theorem dX5_keep_27 : decode cX5_keep 27 = .ok (.iconst 1, 1) := by decide +kernel
theorem dX5_keep_28 : decode cX5_keep 28 = .ok (.bastore, 1) := by decide +kernel
theorem dX5_keep_29 : decode cX5_keep 29 = .ok (.aload_n 0, 1) := by decide +kernel
theorem dX5_keep_30 : decode cX5_keep 30 = .ok (.getfield 26, 3) := by decide +kernel
theorem dX5_keep_33 : decode cX5_keep 33 = .ok (.getfield 267, 3) := by decide +kernel
theorem dX5_keep_36 : decode cX5_keep 36 = .ok (.ireturn, 1) := by decide +kernel
theorem dX5_again_0 : decode cX5_again 0 = .ok (.aload_n 0, 1) := by decide +kernel
theorem dX5_again_1 : decode cX5_again 1 = .ok (.iload_n 1, 1) := by decide +kernel
theorem dX5_again_2 : decode cX5_again 2 = .ok (.invokevirtual 264, 3) := by decide +kernel
theorem dX5_again_5 : decode cX5_again 5 = .ok (.ifCond .eq 5, 3) := by decide +kernel
theorem dX5_again_8 : decode cX5_again 8 = .ok (.iconst (-1), 1) := by decide +kernel
theorem dX5_again_9 : decode cX5_again 9 = .ok (.ireturn, 1) := by decide +kernel
theorem dX5_again_10 : decode cX5_again 10 = .ok (.aload_n 0, 1) := by decide +kernel
theorem dX5_again_11 : decode cX5_again 11 = .ok (.getfield 45, 3) := by decide +kernel
theorem dX5_again_14 : decode cX5_again 14 = .ok (.iload_n 1, 1) := by decide +kernel
theorem dX5_again_15 : decode cX5_again 15 = .ok (.baload, 1) := by decide +kernel
theorem dX5_again_16 : decode cX5_again 16 = .ok (.ifCond .ne 6, 3) := by decide +kernel
theorem dX5_again_19 : decode cX5_again 19 = .ok (.bipush (-3), 2) := by decide +kernel
theorem dX5_again_21 : decode cX5_again 21 = .ok (.ireturn, 1) := by decide +kernel
theorem dX5_again_22 : decode cX5_again 22 = .ok (.aload_n 0, 1) := by decide +kernel
theorem dX5_again_23 : decode cX5_again 23 = .ok (.getfield 42, 3) := by decide +kernel
theorem dX5_again_26 : decode cX5_again 26 = .ok (.iload_n 1, 1) := by decide +kernel
theorem dX5_again_27 : decode cX5_again 27 = .ok (.aload_n 0, 1) := by decide +kernel
theorem dX5_again_28 : decode cX5_again 28 = .ok (.getfield 26, 3) := by decide +kernel
theorem dX5_again_31 : decode cX5_again 31 = .ok (.invokevirtual 187, 3) := by decide +kernel
theorem dX5_again_34 : decode cX5_again 34 = .ok (.aload_n 0, 1) := by decide +kernel
theorem dX5_again_35 : decode cX5_again 35 = .ok (.iconst 0, 1) := by decide +kernel
theorem dX5_again_36 : decode cX5_again 36 = .ok (.putfield 89, 3) := by decide +kernel
theorem dX5_again_39 : decode cX5_again 39 = .ok (.aload_n 0, 1) := by decide +kernel
theorem dX5_again_40 : decode cX5_again 40 = .ok (.getfield 26, 3) := by decide +kernel
theorem dX5_again_43 : decode cX5_again 43 = .ok (.getfield 267, 3) := by decide +kernel
theorem dX5_again_46 : decode cX5_again 46 = .ok (.ireturn, 1) := by decide +kernel
theorem dX5_isNoSlot_0 : decode cX5_isNoSlot 0 = .ok (.iload_n 1, 1) := by decide +kernel
theorem dX5_isNoSlot_1 : decode cX5_isNoSlot 1 = .ok (.ifCond .lt 12, 3) := by decide +kernel
theorem dX5_isNoSlot_4 : decode cX5_isNoSlot 4 = .ok (.iload_n 1, 1) := by decide +kernel
theorem dX5_isNoSlot_5 : decode cX5_isNoSlot 5 = .ok (.aload_n 0, 1) := by decide +kernel
theorem dX5_isNoSlot_6 : decode cX5_isNoSlot 6 = .ok (.getfield 45, 3) := by decide +kernel
theorem dX5_isNoSlot_9 : decode cX5_isNoSlot 9 = .ok (.arraylength, 1) := by decide +kernel
theorem dX5_isNoSlot_10 : decode cX5_isNoSlot 10 = .ok (.if_icmp .lt 7, 3) := by decide +kernel
theorem dX5_isNoSlot_13 : decode cX5_isNoSlot 13 = .ok (.iconst 1, 1) := by decide +kernel
theorem dX5_isNoSlot_14 : decode cX5_isNoSlot 14 = .ok (.goto 4, 3) := by decide +kernel
theorem dX5_isNoSlot_17 : decode cX5_isNoSlot 17 = .ok (.iconst 0, 1) := by decide +kernel
theorem dX5_isNoSlot_18 : decode cX5_isNoSlot 18 = .ok (.ireturn, 1) := by decide +kernel
theorem dX5_count_0 : decode cX5_count 0 = .ok (.iload_n 1, 1) := by decide +kernel
theorem dX5_count_1 : decode cX5_count 1 = .ok (.tableswitch 150 0 10 #[59, 67, 75, 83, 91, 99, 107, 118, 129, 137, 142], 59) := by decide +kernel
theorem dX5_count_60 : decode cX5_count 60 = .ok (.aload_n 0, 1) := by decide +kernel
theorem dX5_count_61 : decode cX5_count 61 = .ok (.getfield 12, 3) := by decide +kernel
theorem dX5_count_64 : decode cX5_count 64 = .ok (.getfield 63, 3) := by decide +kernel
theorem dX5_count_67 : decode cX5_count 67 = .ok (.ireturn, 1) := by decide +kernel
theorem dX5_count_68 : decode cX5_count 68 = .ok (.aload_n 0, 1) := by decide +kernel
theorem dX5_count_69 : decode cX5_count 69 = .ok (.getfield 19, 3) := by decide +kernel
theorem dX5_count_72 : decode cX5_count 72 = .ok (.getfield 92, 3) := by decide +kernel
theorem dX5_count_75 : decode cX5_count 75 = .ok (.ireturn, 1) := by decide +kernel
theorem dX5_count_76 : decode cX5_count 76 = .ok (.aload_n 0, 1) := by decide +kernel
theorem dX5_count_77 : decode cX5_count 77 = .ok (.getfield 19, 3) := by decide +kernel
theorem dX5_count_80 : decode cX5_count 80 = .ok (.getfield 95, 3) := by decide +kernel
theorem dX5_count_83 : decode cX5_count 83 = .ok (.ireturn, 1) := by decide +kernel
theorem dX5_count_84 : decode cX5_count 84 = .ok (.aload_n 0, 1) := by decide +kernel
theorem dX5_count_85 : decode cX5_count 85 = .ok (.getfield 26, 3) := by decide +kernel
theorem dX5_count_88 : decode cX5_count 88 = .ok (.getfield 270, 3) := by decide +kernel
theorem dX5_count_91 : decode cX5_count 91 = .ok (.ireturn, 1) := by decide +kernel
theorem dX5_count_92 : decode cX5_count 92 = .ok (.aload_n 0, 1) := by decide +kernel
theorem dX5_count_93 : decode cX5_count 93 = .ok (.getfield 26, 3) := by decide +kernel
theorem dX5_count_96 : decode cX5_count 96 = .ok (.getfield 117, 3) := by decide +kernel
theorem dX5_count_99 : decode cX5_count 99 = .ok (.ireturn, 1) := by decide +kernel
theorem dX5_count_100 : decode cX5_count 100 = .ok (.aload_n 0, 1) := by decide +kernel
theorem dX5_count_101 : decode cX5_count 101 = .ok (.getfield 26, 3) := by decide +kernel
theorem dX5_count_104 : decode cX5_count 104 = .ok (.getfield 168, 3) := by decide +kernel
theorem dX5_count_107 : decode cX5_count 107 = .ok (.ireturn, 1) := by decide +kernel
theorem dX5_count_108 : decode cX5_count 108 = .ok (.aload_n 0, 1) := by decide +kernel
theorem dX5_count_109 : decode cX5_count 109 = .ok (.getfield 26, 3) := by decide +kernel
theorem dX5_count_112 : decode cX5_count 112 = .ok (.getfield 184, 3) := by decide +kernel
theorem dX5_count_115 : decode cX5_count 115 = .ok (.invokestatic 128, 3) := by decide +kernel
theorem dX5_count_118 : decode cX5_count 118 = .ok (.ireturn, 1) := by decide +kernel
theorem dX5_count_119 : decode cX5_count 119 = .ok (.aload_n 0, 1) := by decide +kernel
theorem dX5_count_120 : decode cX5_count 120 = .ok (.getfield 26, 3) := by decide +kernel
theorem dX5_count_123 : decode cX5_count 123 = .ok (.getfield 154, 3) := by decide +kernel
theorem dX5_count_126 : decode cX5_count 126 = .ok (.invokestatic 128, 3) := by decide +kernel
theorem dX5_count_129 : decode cX5_count 129 = .ok (.ireturn, 1) := by decide +kernel
theorem dX5_count_130 : decode cX5_count 130 = .ok (.aload_n 0, 1) := by decide +kernel
theorem dX5_count_131 : decode cX5_count 131 = .ok (.getfield 26, 3) := by decide +kernel
theorem dX5_count_134 : decode cX5_count 134 = .ok (.getfield 267, 3) := by decide +kernel
theorem dX5_count_137 : decode cX5_count 137 = .ok (.ireturn, 1) := by decide +kernel
theorem dX5_count_138 : decode cX5_count 138 = .ok (.aload_n 0, 1) := by decide +kernel
theorem dX5_count_139 : decode cX5_count 139 = .ok (.getfield 89, 3) := by decide +kernel
theorem dX5_count_142 : decode cX5_count 142 = .ok (.ireturn, 1) := by decide +kernel
theorem dX5_count_143 : decode cX5_count 143 = .ok (.aload_n 0, 1) := by decide +kernel
theorem dX5_count_144 : decode cX5_count 144 = .ok (.getfield 52, 3) := by decide +kernel
theorem dX5_count_147 : decode cX5_count 147 = .ok (.getfield 230, 3) := by decide +kernel
theorem dX5_count_150 : decode cX5_count 150 = .ok (.ireturn, 1) := by decide +kernel
theorem dX5_count_151 : decode cX5_count 151 = .ok (.bipush (-2), 2) := by decide +kernel
theorem dX5_count_153 : decode cX5_count 153 = .ok (.ireturn, 1) := by decide +kernel
theorem dX5_asNumber_0 : decode cX5_asNumber 0 = .ok (.iload_n 0, 1) := by decide +kernel
theorem dX5_asNumber_1 : decode cX5_asNumber 1 = .ok (.ifCond .eq 7, 3) := by decide +kernel
theorem dX5_asNumber_4 : decode cX5_asNumber 4 = .ok (.iconst 1, 1) := by decide +kernel
theorem dX5_asNumber_5 : decode cX5_asNumber 5 = .ok (.goto 4, 3) := by decide +kernel
theorem dX5_asNumber_8 : decode cX5_asNumber 8 = .ok (.iconst 0, 1) := by decide +kernel
theorem dX5_asNumber_9 : decode cX5_asNumber 9 = .ok (.ireturn, 1) := by decide +kernel
theorem dX5_isNoYard_0 : decode cX5_isNoYard 0 = .ok (.iload_n 0, 1) := by decide +kernel
theorem dX5_isNoYard_1 : decode cX5_isNoYard 1 = .ok (.ifCond .lt 9, 3) := by decide +kernel
theorem dX5_isNoYard_4 : decode cX5_isNoYard 4 = .ok (.iload_n 0, 1) := by decide +kernel
theorem dX5_isNoYard_5 : decode cX5_isNoYard 5 = .ok (.bipush 9, 2) := by decide +kernel
theorem dX5_isNoYard_7 : decode cX5_isNoYard 7 = .ok (.if_icmp .le 7, 3) := by decide +kernel
theorem dX5_isNoYard_10 : decode cX5_isNoYard 10 = .ok (.iconst 1, 1) := by decide +kernel
theorem dX5_isNoYard_11 : decode cX5_isNoYard 11 = .ok (.goto 4, 3) := by decide +kernel
theorem dX5_isNoYard_14 : decode cX5_isNoYard 14 = .ok (.iconst 0, 1) := by decide +kernel
theorem dX5_isNoYard_15 : decode cX5_isNoYard 15 = .ok (.ireturn, 1) := by decide +kernel
theorem dX5_tenTo_0 : decode cX5_tenTo 0 = .ok (.iconst 1, 1) := by decide +kernel
theorem dX5_tenTo_1 : decode cX5_tenTo 1 = .ok (.istore_n 1, 1) := by decide +kernel
theorem dX5_tenTo_2 : decode cX5_tenTo 2 = .ok (.iconst 0, 1) := by decide +kernel
theorem dX5_tenTo_3 : decode cX5_tenTo 3 = .ok (.istore_n 2, 1) := by decide +kernel
theorem dX5_tenTo_4 : decode cX5_tenTo 4 = .ok (.iload_n 2, 1) := by decide +kernel
theorem dX5_tenTo_5 : decode cX5_tenTo 5 = .ok (.iload_n 0, 1) := by decide +kernel
theorem dX5_tenTo_6 : decode cX5_tenTo 6 = .ok (.if_icmp .ge 14, 3) := by decide +kernel
theorem dX5_tenTo_9 : decode cX5_tenTo 9 = .ok (.iload_n 1, 1) := by decide +kernel
theorem dX5_tenTo_10 : decode cX5_tenTo 10 = .ok (.bipush 10, 2) := by decide +kernel
theorem dX5_tenTo_12 : decode cX5_tenTo 12 = .ok (.imul, 1) := by decide +kernel
theorem dX5_tenTo_13 : decode cX5_tenTo 13 = .ok (.istore_n 1, 1) := by decide +kernel
theorem dX5_tenTo_14 : decode cX5_tenTo 14 = .ok (.iinc 2 1, 3) := by decide +kernel
theorem dX5_tenTo_17 : decode cX5_tenTo 17 = .ok (.goto (-13), 3) := by decide +kernel
theorem dX5_tenTo_20 : decode cX5_tenTo 20 = .ok (.iload_n 1, 1) := by decide +kernel
theorem dX5_tenTo_21 : decode cX5_tenTo 21 = .ok (.ireturn, 1) := by decide +kernel
theorem dX5_figureOf_0 : decode cX5_figureOf 0 = .ok (.iload_n 0, 1) := by decide +kernel
theorem dX5_figureOf_1 : decode cX5_figureOf 1 = .ok (.istore_n 3, 1) := by decide +kernel
theorem dX5_figureOf_2 : decode cX5_figureOf 2 = .ok (.iload_n 2, 1) := by decide +kernel
theorem dX5_figureOf_3 : decode cX5_figureOf 3 = .ok (.iconst 1, 1) := by decide +kernel
theorem dX5_figureOf_4 : decode cX5_figureOf 4 = .ok (.iadd, 1) := by decide +kernel
theorem dX5_figureOf_5 : decode cX5_figureOf 5 = .ok (.istore 4, 2) := by decide +kernel
theorem dX5_figureOf_7 : decode cX5_figureOf 7 = .ok (.iload 4, 2) := by decide +kernel
theorem dX5_figureOf_9 : decode cX5_figureOf 9 = .ok (.iload_n 1, 1) := by decide +kernel
theorem dX5_figureOf_10 : decode cX5_figureOf 10 = .ok (.if_icmp .ge 14, 3) := by decide +kernel
theorem dX5_figureOf_13 : decode cX5_figureOf 13 = .ok (.iload_n 3, 1) := by decide +kernel
theorem dX5_figureOf_14 : decode cX5_figureOf 14 = .ok (.bipush 10, 2) := by decide +kernel
theorem dX5_figureOf_16 : decode cX5_figureOf 16 = .ok (.idiv, 1) := by decide +kernel
theorem dX5_figureOf_17 : decode cX5_figureOf 17 = .ok (.istore_n 3, 1) := by decide +kernel
theorem dX5_figureOf_18 : decode cX5_figureOf 18 = .ok (.iinc 4 1, 3) := by decide +kernel
theorem dX5_figureOf_21 : decode cX5_figureOf 21 = .ok (.goto (-14), 3) := by decide +kernel
theorem dX5_figureOf_24 : decode cX5_figureOf 24 = .ok (.iload_n 3, 1) := by decide +kernel
theorem dX5_figureOf_25 : decode cX5_figureOf 25 = .ok (.bipush 10, 2) := by decide +kernel
theorem dX5_figureOf_27 : decode cX5_figureOf 27 = .ok (.irem, 1) := by decide +kernel
theorem dX5_figureOf_28 : decode cX5_figureOf 28 = .ok (.ireturn, 1) := by decide +kernel
theorem dX5_fraction_0 : decode cX5_fraction 0 = .ok (.iload_n 0, 1) := by decide +kernel
theorem dX5_fraction_1 : decode cX5_fraction 1 = .ok (.iload_n 1, 1) := by decide +kernel
theorem dX5_fraction_2 : decode cX5_fraction 2 = .ok (.invokestatic 273, 3) := by decide +kernel
theorem dX5_fraction_5 : decode cX5_fraction 5 = .ok (.istore_n 3, 1) := by decide +kernel
theorem dX5_fraction_6 : decode cX5_fraction 6 = .ok (.iload_n 3, 1) := by decide +kernel
theorem dX5_fraction_7 : decode cX5_fraction 7 = .ok (.iconst 1, 1) := by decide +kernel
theorem dX5_fraction_8 : decode cX5_fraction 8 = .ok (.if_icmp .ge 13, 3) := by decide +kernel
theorem dX5_fraction_11 : decode cX5_fraction 11 = .ok (.iload_n 2, 1) := by decide +kernel
theorem dX5_fraction_12 : decode cX5_fraction 12 = .ok (.ifCond .eq 7, 3) := by decide +kernel
theorem dX5_fraction_15 : decode cX5_fraction 15 = .ok (.iload_n 0, 1) := by decide +kernel
theorem dX5_fraction_16 : decode cX5_fraction 16 = .ok (.goto 4, 3) := by decide +kernel
theorem dX5_fraction_19 : decode cX5_fraction 19 = .ok (.iload_n 1, 1) := by decide +kernel
theorem dX5_fraction_20 : decode cX5_fraction 20 = .ok (.ireturn, 1) := by decide +kernel
theorem dX5_fraction_21 : decode cX5_fraction 21 = .ok (.iload_n 2, 1) := by decide +kernel
theorem dX5_fraction_22 : decode cX5_fraction 22 = .ok (.ifCond .eq 9, 3) := by decide +kernel
theorem dX5_fraction_25 : decode cX5_fraction 25 = .ok (.iload_n 0, 1) := by decide +kernel
theorem dX5_fraction_26 : decode cX5_fraction 26 = .ok (.iload_n 3, 1) := by decide +kernel
theorem dX5_fraction_27 : decode cX5_fraction 27 = .ok (.idiv, 1) := by decide +kernel
theorem dX5_fraction_28 : decode cX5_fraction 28 = .ok (.goto 6, 3) := by decide +kernel
theorem dX5_fraction_31 : decode cX5_fraction 31 = .ok (.iload_n 1, 1) := by decide +kernel
theorem dX5_fraction_32 : decode cX5_fraction 32 = .ok (.iload_n 3, 1) := by decide +kernel
theorem dX5_fraction_33 : decode cX5_fraction 33 = .ok (.idiv, 1) := by decide +kernel
theorem dX5_fraction_34 : decode cX5_fraction 34 = .ok (.ireturn, 1) := by decide +kernel
theorem dX5_greatestDivisor_0 : decode cX5_greatestDivisor 0 = .ok (.iload_n 0, 1) := by decide +kernel
theorem dX5_greatestDivisor_1 : decode cX5_greatestDivisor 1 = .ok (.istore_n 2, 1) := by decide +kernel
theorem dX5_greatestDivisor_2 : decode cX5_greatestDivisor 2 = .ok (.iload_n 1, 1) := by decide +kernel
theorem dX5_greatestDivisor_3 : decode cX5_greatestDivisor 3 = .ok (.istore_n 3, 1) := by decide +kernel
theorem dX5_greatestDivisor_4 : decode cX5_greatestDivisor 4 = .ok (.iconst 0, 1) := by decide +kernel
theorem dX5_greatestDivisor_5 : decode cX5_greatestDivisor 5 = .ok (.istore 4, 2) := by decide +kernel
theorem dX5_greatestDivisor_7 : decode cX5_greatestDivisor 7 = .ok (.iload 4, 2) := by decide +kernel
theorem dX5_greatestDivisor_9 : decode cX5_greatestDivisor 9 = .ok (.bipush 64, 2) := by decide +kernel
theorem dX5_greatestDivisor_11 : decode cX5_greatestDivisor 11 = .ok (.if_icmp .ge 23, 3) := by decide +kernel
theorem dX5_greatestDivisor_14 : decode cX5_greatestDivisor 14 = .ok (.iload_n 3, 1) := by decide +kernel
theorem dX5_greatestDivisor_15 : decode cX5_greatestDivisor 15 = .ok (.ifCond .eq 19, 3) := by decide +kernel
theorem dX5_greatestDivisor_18 : decode cX5_greatestDivisor 18 = .ok (.iload_n 2, 1) := by decide +kernel
theorem dX5_greatestDivisor_19 : decode cX5_greatestDivisor 19 = .ok (.iload_n 3, 1) := by decide +kernel
theorem dX5_greatestDivisor_20 : decode cX5_greatestDivisor 20 = .ok (.irem, 1) := by decide +kernel
theorem dX5_greatestDivisor_21 : decode cX5_greatestDivisor 21 = .ok (.istore 5, 2) := by decide +kernel
theorem dX5_greatestDivisor_23 : decode cX5_greatestDivisor 23 = .ok (.iload_n 3, 1) := by decide +kernel
theorem dX5_greatestDivisor_24 : decode cX5_greatestDivisor 24 = .ok (.istore_n 2, 1) := by decide +kernel
theorem dX5_greatestDivisor_25 : decode cX5_greatestDivisor 25 = .ok (.iload 5, 2) := by decide +kernel
theorem dX5_greatestDivisor_27 : decode cX5_greatestDivisor 27 = .ok (.istore_n 3, 1) := by decide +kernel
theorem dX5_greatestDivisor_28 : decode cX5_greatestDivisor 28 = .ok (.iinc 4 1, 3) := by decide +kernel
theorem dX5_greatestDivisor_31 : decode cX5_greatestDivisor 31 = .ok (.goto (-24), 3) := by decide +kernel
theorem dX5_greatestDivisor_34 : decode cX5_greatestDivisor 34 = .ok (.iload_n 2, 1) := by decide +kernel
theorem dX5_greatestDivisor_35 : decode cX5_greatestDivisor 35 = .ok (.ireturn, 1) := by decide +kernel
end
section
theorem dX6_init_0 : decode cX6_init 0 = .ok (.aload_n 0, 1) := by decide +kernel
theorem dX6_init_1 : decode cX6_init 1 = .ok (.invokespecial 1, 3) := by decide +kernel
theorem dX6_init_4 : decode cX6_init 4 = .ok (.aload_n 0, 1) := by decide +kernel
theorem dX6_init_5 : decode cX6_init 5 = .ok (.iconst 4, 1) := by decide +kernel
theorem dX6_init_6 : decode cX6_init 6 = .ok (.newarray .int, 2) := by decide +kernel
theorem dX6_init_8 : decode cX6_init 8 = .ok (.putfield 7, 3) := by decide +kernel
theorem dX6_init_11 : decode cX6_init 11 = .ok (.aload_n 0, 1) := by decide +kernel
theorem dX6_init_12 : decode cX6_init 12 = .ok (.iconst 4, 1) := by decide +kernel
theorem dX6_init_13 : decode cX6_init 13 = .ok (.newarray .int, 2) := by decide +kernel
theorem dX6_init_15 : decode cX6_init 15 = .ok (.putfield 13, 3) := by decide +kernel
theorem dX6_init_18 : decode cX6_init 18 = .ok (.aload_n 0, 1) := by decide +kernel
theorem dX6_init_19 : decode cX6_init 19 = .ok (.iconst 4, 1) := by decide +kernel
theorem dX6_init_20 : decode cX6_init 20 = .ok (.newarray .int, 2) := by decide +kernel
theorem dX6_init_22 : decode cX6_init 22 = .ok (.putfield 16, 3) := by decide +kernel
theorem dX6_init_25 : decode cX6_init 25 = .ok (.aload_n 0, 1) := by decide +kernel
theorem dX6_init_26 : decode cX6_init 26 = .ok (.bipush 20, 2) := by decide +kernel
theorem dX6_init_28 : decode cX6_init 28 = .ok (.newarray .int, 2) := by decide +kernel
theorem dX6_init_30 : decode cX6_init 30 = .ok (.putfield 19, 3) := by decide +kernel
theorem dX6_init_33 : decode cX6_init 33 = .ok (.aload_n 0, 1) := by decide +kernel
theorem dX6_init_34 : decode cX6_init 34 = .ok (.bipush 8, 2) := by decide +kernel
theorem dX6_init_36 : decode cX6_init 36 = .ok (.newarray .int, 2) := by decide +kernel
theorem dX6_init_38 : decode cX6_init 38 = .ok (.putfield 22, 3) := by decide +kernel
theorem dX6_init_41 : decode cX6_init 41 = .ok (.aload_n 0, 1) := by decide +kernel
theorem dX6_init_42 : decode cX6_init 42 = .ok (.bipush 8, 2) := by decide +kernel
theorem dX6_init_44 : decode cX6_init 44 = .ok (.newarray .int, 2) := by decide +kernel
theorem dX6_init_46 : decode cX6_init 46 = .ok (.putfield 25, 3) := by decide +kernel
theorem dX6_init_49 : decode cX6_init 49 = .ok (.aload_n 0, 1) := by decide +kernel
theorem dX6_init_50 : decode cX6_init 50 = .ok (.bipush 36, 2) := by decide +kernel
theorem dX6_init_52 : decode cX6_init 52 = .ok (.newarray .int, 2) := by decide +kernel
theorem dX6_init_54 : decode cX6_init 54 = .ok (.putfield 28, 3) := by decide +kernel
theorem dX6_init_57 : decode cX6_init 57 = .ok (.aload_n 0, 1) := by decide +kernel
theorem dX6_init_58 : decode cX6_init 58 = .ok (.sipush 140, 3) := by decide +kernel
theorem dX6_init_61 : decode cX6_init 61 = .ok (.newarray .int, 2) := by decide +kernel
theorem dX6_init_63 : decode cX6_init 63 = .ok (.putfield 31, 3) := by decide +kernel
theorem dX6_init_66 : decode cX6_init 66 = .ok (.aload_n 0, 1) := by decide +kernel
theorem dX6_init_67 : decode cX6_init 67 = .ok (.bipush 6, 2) := by decide +kernel
theorem dX6_init_69 : decode cX6_init 69 = .ok (.newarray .int, 2) := by decide +kernel
theorem dX6_init_71 : decode cX6_init 71 = .ok (.putfield 34, 3) := by decide +kernel
theorem dX6_init_74 : decode cX6_init 74 = .ok (.aload_n 0, 1) := by decide +kernel
theorem dX6_init_75 : decode cX6_init 75 = .ok (.bipush 6, 2) := by decide +kernel
theorem dX6_init_77 : decode cX6_init 77 = .ok (.newarray .int, 2) := by decide +kernel
theorem dX6_init_79 : decode cX6_init 79 = .ok (.putfield 37, 3) := by decide +kernel
theorem dX6_init_82 : decode cX6_init 82 = .ok (.aload_n 0, 1) := by decide +kernel
theorem dX6_init_83 : decode cX6_init 83 = .ok (.bipush 6, 2) := by decide +kernel
theorem dX6_init_85 : decode cX6_init 85 = .ok (.newarray .int, 2) := by decide +kernel
theorem dX6_init_87 : decode cX6_init 87 = .ok (.putfield 40, 3) := by decide +kernel
theorem dX6_init_90 : decode cX6_init 90 = .ok (.aload_n 0, 1) := by decide +kernel
theorem dX6_init_91 : decode cX6_init 91 = .ok (.iconst 2, 1) := by decide +kernel
theorem dX6_init_92 : decode cX6_init 92 = .ok (.newarray .boolean, 2) := by decide +kernel
theorem dX6_init_94 : decode cX6_init 94 = .ok (.putfield 43, 3) := by decide +kernel
theorem dX6_init_97 : decode cX6_init 97 = .ok (.aload_n 0, 1) := by decide +kernel
theorem dX6_init_98 : decode cX6_init 98 = .ok (.bipush 20, 2) := by decide +kernel
theorem dX6_init_100 : decode cX6_init 100 = .ok (.newarray .int, 2) := by decide +kernel
theorem dX6_init_102 : decode cX6_init 102 = .ok (.putfield 47, 3) := by decide +kernel
theorem dX6_init_105 : decode cX6_init 105 = .ok (.aload_n 0, 1) := by decide +kernel
theorem dX6_init_106 : decode cX6_init 106 = .ok (.getfield 19, 3) := by decide +kernel
theorem dX6_init_109 : decode cX6_init 109 = .ok (.bipush 6, 2) := by decide +kernel
theorem dX6_init_111 : decode cX6_init 111 = .ok (.bipush (-9), 2) := by decide +kernel
theorem dX6_init_113 : decode cX6_init 113 = .ok (.iastore, 1) := by decide +kernel
theorem dX6_init_114 : decode cX6_init 114 = .ok (.return_, 1) := by decide +kernel
theorem dX6_in_0 : decode cX6_in 0 = .ok (.lload_n 0, 1) := by decide +kernel
theorem dX6_in_1 : decode cX6_in 1 = .ok (.lload_n 2, 1) := by decide +kernel
theorem dX6_in_2 : decode cX6_in 2 = .ok (.lcmp, 1) := by decide +kernel
theorem dX6_in_3 : decode cX6_in 3 = .ok (.ifCond .lt 14, 3) := by decide +kernel
theorem dX6_in_6 : decode cX6_in 6 = .ok (.lload_n 0, 1) := by decide +kernel
theorem dX6_in_7 : decode cX6_in 7 = .ok (.lload 4, 2) := by decide +kernel
theorem dX6_in_9 : decode cX6_in 9 = .ok (.lcmp, 1) := by decide +kernel
theorem dX6_in_10 : decode cX6_in 10 = .ok (.ifCond .gt 7, 3) := by decide +kernel
theorem dX6_in_13 : decode cX6_in 13 = .ok (.iconst 1, 1) := by decide +kernel
theorem dX6_in_14 : decode cX6_in 14 = .ok (.goto 4, 3) := by decide +kernel
theorem dX6_in_17 : decode cX6_in 17 = .ok (.iconst 0, 1) := by decide +kernel
theorem dX6_in_18 : decode cX6_in 18 = .ok (.ireturn, 1) := by decide +kernel
theorem dX6_has_0 : decode cX6_has 0 = .ok (.iload_n 0, 1) := by decide +kernel
theorem dX6_has_1 : decode cX6_has 1 = .ok (.iload_n 1, 1) := by decide +kernel
theorem dX6_has_2 : decode cX6_has 2 = .ok (.ishr, 1) := by decide +kernel
theorem dX6_has_3 : decode cX6_has 3 = .ok (.iconst 1, 1) := by decide +kernel
theorem dX6_has_4 : decode cX6_has 4 = .ok (.iand, 1) := by decide +kernel
theorem dX6_has_5 : decode cX6_has 5 = .ok (.iconst 1, 1) := by decide +kernel
theorem dX6_has_6 : decode cX6_has 6 = .ok (.if_icmp .ne 7, 3) := by decide +kernel
theorem dX6_has_9 : decode cX6_has 9 = .ok (.iconst 1, 1) := by decide +kernel
theorem dX6_has_10 : decode cX6_has 10 = .ok (.goto 4, 3) := by decide +kernel
theorem dX6_has_13 : decode cX6_has 13 = .ok (.iconst 0, 1) := by decide +kernel
theorem dX6_has_14 : decode cX6_has 14 = .ok (.ireturn, 1) := by decide +kernel
theorem dX6_ones_0 : decode cX6_ones 0 = .ok (.iconst 0, 1) := by decide +kernel
theorem dX6_ones_1 : decode cX6_ones 1 = .ok (.istore_n 1, 1) := by decide +kernel
theorem dX6_ones_2 : decode cX6_ones 2 = .ok (.iconst 0, 1) := by decide +kernel
theorem dX6_ones_3 : decode cX6_ones 3 = .ok (.istore_n 2, 1) := by decide +kernel
theorem dX6_ones_4 : decode cX6_ones 4 = .ok (.iload_n 2, 1) := by decide +kernel
theorem dX6_ones_5 : decode cX6_ones 5 = .ok (.iconst 4, 1) := by decide +kernel
theorem dX6_ones_6 : decode cX6_ones 6 = .ok (.if_icmp .ge 17, 3) := by decide +kernel
theorem dX6_ones_9 : decode cX6_ones 9 = .ok (.iload_n 1, 1) := by decide +kernel
theorem dX6_ones_10 : decode cX6_ones 10 = .ok (.iload_n 0, 1) := by decide +kernel
theorem dX6_ones_11 : decode cX6_ones 11 = .ok (.iload_n 2, 1) := by decide +kernel
theorem dX6_ones_12 : decode cX6_ones 12 = .ok (.ishr, 1) := by decide +kernel
theorem dX6_ones_13 : decode cX6_ones 13 = .ok (.iconst 1, 1) := by decide +kernel
theorem dX6_ones_14 : decode cX6_ones 14 = .ok (.iand, 1) := by decide +kernel
theorem dX6_ones_15 : decode cX6_ones 15 = .ok (.iadd, 1) := by decide +kernel
theorem dX6_ones_16 : decode cX6_ones 16 = .ok (.istore_n 1, 1) := by decide +kernel
theorem dX6_ones_17 : decode cX6_ones 17 = .ok (.iinc 2 1, 3) := by decide +kernel
theorem dX6_ones_20 : decode cX6_ones 20 = .ok (.goto (-16), 3) := by decide +kernel
theorem dX6_ones_23 : decode cX6_ones 23 = .ok (.iload_n 1, 1) := by decide +kernel
theorem dX6_ones_24 : decode cX6_ones 24 = .ok (.ireturn, 1) := by decide +kernel
theorem dX6_write_0 : decode cX6_write 0 = .ok (.iload_n 1, 1) := by decide +kernel
theorem dX6_write_1 : decode cX6_write 1 = .ok (.i2l, 1) := by decide +kernel
theorem dX6_write_2 : decode cX6_write 2 = .ok (.lconst 0, 1) := by decide +kernel
theorem dX6_write_3 : decode cX6_write 3 = .ok (.ldc2_w 50, 3) := by decide +kernel
theorem dX6_write_6 : decode cX6_write 6 = .ok (.invokestatic 52, 3) := by decide +kernel
theorem dX6_write_9 : decode cX6_write 9 = .ok (.ifCond .ne 6, 3) := by decide +kernel
theorem dX6_write_12 : decode cX6_write 12 = .ok (.bipush (-2), 2) := by decide +kernel
theorem dX6_write_14 : decode cX6_write 14 = .ok (.ireturn, 1) := by decide +kernel
theorem dX6_write_15 : decode cX6_write 15 = .ok (.aload_n 0, 1) := by decide +kernel
theorem dX6_write_16 : decode cX6_write 16 = .ok (.getfield 56, 3) := by decide +kernel
theorem dX6_write_19 : decode cX6_write 19 = .ok (.bipush 36, 2) := by decide +kernel
theorem dX6_write_21 : decode cX6_write 21 = .ok (.if_icmp .ne 6, 3) := by decide +kernel
theorem dX6_write_24 : decode cX6_write 24 = .ok (.bipush (-4), 2) := by decide +kernel
theorem dX6_write_26 : decode cX6_write 26 = .ok (.ireturn, 1) := by decide +kernel
theorem dX6_write_27 : decode cX6_write 27 = .ok (.aload_n 0, 1) := by decide +kernel
theorem dX6_write_28 : decode cX6_write 28 = .ok (.getfield 28, 3) := by decide +kernel
theorem dX6_write_31 : decode cX6_write 31 = .ok (.aload_n 0, 1) := by decide +kernel
theorem dX6_write_32 : decode cX6_write 32 = .ok (.getfield 56, 3) := by decide +kernel
theorem dX6_write_35 : decode cX6_write 35 = .ok (.iload_n 1, 1) := by decide +kernel
theorem dX6_write_36 : decode cX6_write 36 = .ok (.iastore, 1) := by decide +kernel
theorem dX6_write_37 : decode cX6_write 37 = .ok (.aload_n 0, 1) := by decide +kernel
theorem dX6_write_38 : decode cX6_write 38 = .ok (.dup, 1) := by decide +kernel
theorem dX6_write_39 : decode cX6_write 39 = .ok (.getfield 56, 3) := by decide +kernel
theorem dX6_write_42 : decode cX6_write 42 = .ok (.iconst 1, 1) := by decide +kernel
theorem dX6_write_43 : decode cX6_write 43 = .ok (.iadd, 1) := by decide +kernel
theorem dX6_write_44 : decode cX6_write 44 = .ok (.putfield 56, 3) := by decide +kernel
theorem dX6_write_47 : decode cX6_write 47 = .ok (.aload_n 0, 1) := by decide +kernel
theorem dX6_write_48 : decode cX6_write 48 = .ok (.getfield 56, 3) := by decide +kernel
theorem dX6_write_51 : decode cX6_write 51 = .ok (.ireturn, 1) := by decide +kernel
theorem dX6_wipe_0 : decode cX6_wipe 0 = .ok (.aload_n 0, 1) := by decide +kernel
theorem dX6_wipe_1 : decode cX6_wipe 1 = .ok (.getfield 56, 3) := by decide +kernel
theorem dX6_wipe_4 : decode cX6_wipe 4 = .ok (.istore_n 1, 1) := by decide +kernel
theorem dX6_wipe_5 : decode cX6_wipe 5 = .ok (.aload_n 0, 1) := by decide +kernel
theorem dX6_wipe_6 : decode cX6_wipe 6 = .ok (.iconst 0, 1) := by decide +kernel
theorem dX6_wipe_7 : decode cX6_wipe 7 = .ok (.putfield 56, 3) := by decide +kernel
theorem dX6_wipe_10 : decode cX6_wipe 10 = .ok (.iload_n 1, 1) := by decide +kernel
theorem dX6_wipe_11 : decode cX6_wipe 11 = .ok (.ireturn, 1) := by decide +kernel
theorem dX6_figure_0 : decode cX6_figure 0 = .ok (.aload_n 0, 1) := by decide +kernel
theorem dX6_figure_1 : decode cX6_figure 1 = .ok (.getfield 60, 3) := by decide +kernel
theorem dX6_figure_4 : decode cX6_figure 4 = .ok (.bipush (-9), 2) := by decide +kernel
theorem dX6_figure_6 : decode cX6_figure 6 = .ok (.if_icmp .ne 29, 3) := by decide +kernel
theorem dX6_figure_9 : decode cX6_figure 9 = .ok (.aload_n 0, 1) := by decide +kernel
theorem dX6_figure_10 : decode cX6_figure 10 = .ok (.getfield 63, 3) := by decide +kernel
theorem dX6_figure_13 : decode cX6_figure 13 = .ok (.aload_n 0, 1) := by decide +kernel
theorem dX6_figure_14 : decode cX6_figure 14 = .ok (.getfield 56, 3) := by decide +kernel
theorem dX6_figure_17 : decode cX6_figure 17 = .ok (.if_icmp .ge 18, 3) := by decide +kernel
theorem dX6_figure_20 : decode cX6_figure 20 = .ok (.aload_n 0, 1) := by decide +kernel
theorem dX6_figure_21 : decode cX6_figure 21 = .ok (.getfield 28, 3) := by decide +kernel
theorem dX6_figure_24 : decode cX6_figure 24 = .ok (.aload_n 0, 1) := by decide +kernel
theorem dX6_figure_25 : decode cX6_figure 25 = .ok (.getfield 63, 3) := by decide +kernel
theorem dX6_figure_28 : decode cX6_figure 28 = .ok (.iaload, 1) := by decide +kernel
theorem dX6_figure_29 : decode cX6_figure 29 = .ok (.bipush 48, 2) := by decide +kernel
theorem dX6_figure_31 : decode cX6_figure 31 = .ok (.isub, 1) := by decide +kernel
theorem dX6_figure_32 : decode cX6_figure 32 = .ok (.goto 5, 3) := by decide +kernel
theorem dX6_figure_35 : decode cX6_figure 35 = .ok (.bipush (-9), 2) := by decide +kernel
theorem dX6_figure_37 : decode cX6_figure 37 = .ok (.istore_n 3, 1) := by decide +kernel
theorem dX6_figure_38 : decode cX6_figure 38 = .ok (.iload_n 3, 1) := by decide +kernel
theorem dX6_figure_39 : decode cX6_figure 39 = .ok (.i2l, 1) := by decide +kernel
theorem dX6_figure_40 : decode cX6_figure 40 = .ok (.iload_n 1, 1) := by decide +kernel
theorem dX6_figure_41 : decode cX6_figure 41 = .ok (.i2l, 1) := by decide +kernel
theorem dX6_figure_42 : decode cX6_figure 42 = .ok (.iload_n 2, 1) := by decide +kernel
theorem dX6_figure_43 : decode cX6_figure 43 = .ok (.i2l, 1) := by decide +kernel
theorem dX6_figure_44 : decode cX6_figure 44 = .ok (.invokestatic 52, 3) := by decide +kernel
theorem dX6_figure_47 : decode cX6_figure 47 = .ok (.ifCond .ne 29, 3) := by decide +kernel
theorem dX6_figure_50 : decode cX6_figure 50 = .ok (.aload_n 0, 1) := by decide +kernel
theorem dX6_figure_51 : decode cX6_figure 51 = .ok (.aload_n 0, 1) := by decide +kernel
theorem dX6_figure_52 : decode cX6_figure 52 = .ok (.getfield 60, 3) := by decide +kernel
theorem dX6_figure_55 : decode cX6_figure 55 = .ok (.bipush (-9), 2) := by decide +kernel
theorem dX6_figure_57 : decode cX6_figure 57 = .ok (.if_icmp .ne 10, 3) := by decide +kernel
theorem dX6_figure_60 : decode cX6_figure 60 = .ok (.aload_n 0, 1) := by decide +kernel
theorem dX6_figure_61 : decode cX6_figure 61 = .ok (.getfield 63, 3) := by decide +kernel
theorem dX6_figure_64 : decode cX6_figure 64 = .ok (.goto 7, 3) := by decide +kernel
theorem dX6_figure_67 : decode cX6_figure 67 = .ok (.aload_n 0, 1) := by decide +kernel
theorem dX6_figure_68 : decode cX6_figure 68 = .ok (.getfield 60, 3) := by decide +kernel
theorem dX6_figure_71 : decode cX6_figure 71 = .ok (.putfield 60, 3) := by decide +kernel
theorem dX6_figure_74 : decode cX6_figure 74 = .ok (.iload_n 1, 1) := by decide +kernel
theorem dX6_figure_75 : decode cX6_figure 75 = .ok (.ireturn, 1) := by decide +kernel
theorem dX6_figure_76 : decode cX6_figure 76 = .ok (.aload_n 0, 1) := by decide +kernel
theorem dX6_figure_77 : decode cX6_figure 77 = .ok (.dup, 1) := by decide +kernel
theorem dX6_figure_78 : decode cX6_figure 78 = .ok (.getfield 63, 3) := by decide +kernel
theorem dX6_figure_81 : decode cX6_figure 81 = .ok (.iconst 1, 1) := by decide +kernel
theorem dX6_figure_82 : decode cX6_figure 82 = .ok (.iadd, 1) := by decide +kernel
theorem dX6_figure_83 : decode cX6_figure 83 = .ok (.putfield 63, 3) := by decide +kernel
theorem dX6_figure_86 : decode cX6_figure 86 = .ok (.iload_n 3, 1) := by decide +kernel
theorem dX6_figure_87 : decode cX6_figure 87 = .ok (.ireturn, 1) := by decide +kernel
theorem dX6_readText_0 : decode cX6_readText 0 = .ok (.aload_n 0, 1) := by decide +kernel
theorem dX6_readText_1 : decode cX6_readText 1 = .ok (.iconst 0, 1) := by decide +kernel
theorem dX6_readText_2 : decode cX6_readText 2 = .ok (.putfield 63, 3) := by decide +kernel
theorem dX6_readText_5 : decode cX6_readText 5 = .ok (.aload_n 0, 1) := by decide +kernel
theorem dX6_readText_6 : decode cX6_readText 6 = .ok (.bipush (-9), 2) := by decide +kernel
theorem dX6_readText_8 : decode cX6_readText 8 = .ok (.putfield 60, 3) := by decide +kernel
theorem dX6_readText_11 : decode cX6_readText 11 = .ok (.aload_n 0, 1) := by decide +kernel
theorem dX6_readText_12 : decode cX6_readText 12 = .ok (.iconst 0, 1) := by decide +kernel
theorem dX6_readText_13 : decode cX6_readText 13 = .ok (.putfield 66, 3) := by decide +kernel
theorem dX6_readText_16 : decode cX6_readText 16 = .ok (.aload_n 0, 1) := by decide +kernel
theorem dX6_readText_17 : decode cX6_readText 17 = .ok (.iconst 0, 1) := by decide +kernel
theorem dX6_readText_18 : decode cX6_readText 18 = .ok (.putfield 69, 3) := by decide +kernel
theorem dX6_readText_21 : decode cX6_readText 21 = .ok (.aload_n 0, 1) := by decide +kernel
theorem dX6_readText_22 : decode cX6_readText 22 = .ok (.getfield 56, 3) := by decide +kernel
theorem dX6_readText_25 : decode cX6_readText 25 = .ok (.ifCond .eq 14, 3) := by decide +kernel
theorem dX6_readText_28 : decode cX6_readText 28 = .ok (.aload_n 0, 1) := by decide +kernel
theorem dX6_readText_29 : decode cX6_readText 29 = .ok (.getfield 28, 3) := by decide +kernel
theorem dX6_readText_32 : decode cX6_readText 32 = .ok (.iconst 0, 1) := by decide +kernel
theorem dX6_readText_33 : decode cX6_readText 33 = .ok (.iaload, 1) := by decide +kernel
theorem dX6_readText_34 : decode cX6_readText 34 = .ok (.bipush 68, 2) := by decide +kernel
theorem dX6_readText_36 : decode cX6_readText 36 = .ok (.if_icmp .eq 5, 3) := by decide +kernel
theorem dX6_readText_39 : decode cX6_readText 39 = .ok (.iconst 0, 1) := by decide +kernel
theorem dX6_readText_40 : decode cX6_readText 40 = .ok (.ireturn, 1) := by decide +kernel
theorem dX6_readText_41 : decode cX6_readText 41 = .ok (.aload_n 0, 1) := by decide +kernel
theorem dX6_readText_42 : decode cX6_readText 42 = .ok (.iconst 1, 1) := by decide +kernel
theorem dX6_readText_43 : decode cX6_readText 43 = .ok (.putfield 63, 3) := by decide +kernel
theorem dX6_readText_46 : decode cX6_readText 46 = .ok (.aload_n 0, 1) := by decide +kernel
theorem dX6_readText_47 : decode cX6_readText 47 = .ok (.iconst 0, 1) := by decide +kernel
theorem dX6_readText_48 : decode cX6_readText 48 = .ok (.bipush 9, 2) := by decide +kernel
theorem dX6_readText_50 : decode cX6_readText 50 = .ok (.invokevirtual 72, 3) := by decide +kernel
theorem dX6_readText_53 : decode cX6_readText 53 = .ok (.pop, 1) := by decide +kernel
theorem dX6_readText_54 : decode cX6_readText 54 = .ok (.aload_n 0, 1) := by decide +kernel
theorem dX6_readText_55 : decode cX6_readText 55 = .ok (.iconst 0, 1) := by decide +kernel
theorem dX6_readText_56 : decode cX6_readText 56 = .ok (.bipush 9, 2) := by decide +kernel
theorem dX6_readText_58 : decode cX6_readText 58 = .ok (.invokevirtual 72, 3) := by decide +kernel
theorem dX6_readText_61 : decode cX6_readText 61 = .ok (.pop, 1) := by decide +kernel
theorem dX6_readText_62 : decode cX6_readText 62 = .ok (.aload_n 0, 1) := by decide +kernel
theorem dX6_readText_63 : decode cX6_readText 63 = .ok (.getfield 60, 3) := by decide +kernel
theorem dX6_readText_66 : decode cX6_readText 66 = .ok (.bipush (-9), 2) := by decide +kernel
theorem dX6_readText_68 : decode cX6_readText 68 = .ok (.if_icmp .ne 190, 3) := by decide +kernel
theorem dX6_readText_71 : decode cX6_readText 71 = .ok (.aload_n 0, 1) := by decide +kernel
theorem dX6_readText_72 : decode cX6_readText 72 = .ok (.getfield 63, 3) := by decide +kernel
theorem dX6_readText_75 : decode cX6_readText 75 = .ok (.aload_n 0, 1) := by decide +kernel
theorem dX6_readText_76 : decode cX6_readText 76 = .ok (.getfield 56, 3) := by decide +kernel
theorem dX6_readText_79 : decode cX6_readText 79 = .ok (.if_icmp .ge 179, 3) := by decide +kernel
theorem dX6_readText_82 : decode cX6_readText 82 = .ok (.aload_n 0, 1) := by decide +kernel
theorem dX6_readText_83 : decode cX6_readText 83 = .ok (.getfield 28, 3) := by decide +kernel
theorem dX6_readText_86 : decode cX6_readText 86 = .ok (.aload_n 0, 1) := by decide +kernel
theorem dX6_readText_87 : decode cX6_readText 87 = .ok (.getfield 63, 3) := by decide +kernel
theorem dX6_readText_90 : decode cX6_readText 90 = .ok (.iaload, 1) := by decide +kernel
theorem dX6_readText_91 : decode cX6_readText 91 = .ok (.bipush 87, 2) := by decide +kernel
theorem dX6_readText_93 : decode cX6_readText 93 = .ok (.if_icmp .ne 71, 3) := by decide +kernel
theorem dX6_readText_96 : decode cX6_readText 96 = .ok (.aload_n 0, 1) := by decide +kernel
theorem dX6_readText_97 : decode cX6_readText 97 = .ok (.getfield 66, 3) := by decide +kernel
theorem dX6_readText_100 : decode cX6_readText 100 = .ok (.iconst 4, 1) := by decide +kernel
theorem dX6_readText_101 : decode cX6_readText 101 = .ok (.if_icmp .ge 63, 3) := by decide +kernel
theorem dX6_readText_104 : decode cX6_readText 104 = .ok (.aload_n 0, 1) := by decide +kernel
theorem dX6_readText_105 : decode cX6_readText 105 = .ok (.dup, 1) := by decide +kernel
theorem dX6_readText_106 : decode cX6_readText 106 = .ok (.getfield 63, 3) := by decide +kernel
theorem dX6_readText_109 : decode cX6_readText 109 = .ok (.iconst 1, 1) := by decide +kernel
theorem dX6_readText_110 : decode cX6_readText 110 = .ok (.iadd, 1) := by decide +kernel
theorem dX6_readText_111 : decode cX6_readText 111 = .ok (.putfield 63, 3) := by decide +kernel
theorem dX6_readText_114 : decode cX6_readText 114 = .ok (.aload_n 0, 1) := by decide +kernel
theorem dX6_readText_115 : decode cX6_readText 115 = .ok (.getfield 22, 3) := by decide +kernel
theorem dX6_readText_118 : decode cX6_readText 118 = .ok (.iconst 2, 1) := by decide +kernel
theorem dX6_readText_119 : decode cX6_readText 119 = .ok (.aload_n 0, 1) := by decide +kernel
theorem dX6_readText_120 : decode cX6_readText 120 = .ok (.getfield 66, 3) := by decide +kernel
theorem dX6_readText_123 : decode cX6_readText 123 = .ok (.imul, 1) := by decide +kernel
theorem dX6_readText_124 : decode cX6_readText 124 = .ok (.aload_n 0, 1) := by decide +kernel
theorem dX6_readText_125 : decode cX6_readText 125 = .ok (.iconst 0, 1) := by decide +kernel
theorem dX6_readText_126 : decode cX6_readText 126 = .ok (.bipush 9, 2) := by decide +kernel
theorem dX6_readText_128 : decode cX6_readText 128 = .ok (.invokevirtual 72, 3) := by decide +kernel
theorem dX6_readText_131 : decode cX6_readText 131 = .ok (.iastore, 1) := by decide +kernel
theorem dX6_readText_132 : decode cX6_readText 132 = .ok (.aload_n 0, 1) := by decide +kernel
theorem dX6_readText_133 : decode cX6_readText 133 = .ok (.getfield 22, 3) := by decide +kernel
theorem dX6_readText_136 : decode cX6_readText 136 = .ok (.iconst 2, 1) := by decide +kernel
theorem dX6_readText_137 : decode cX6_readText 137 = .ok (.aload_n 0, 1) := by decide +kernel
theorem dX6_readText_138 : decode cX6_readText 138 = .ok (.getfield 66, 3) := by decide +kernel
theorem dX6_readText_141 : decode cX6_readText 141 = .ok (.imul, 1) := by decide +kernel
theorem dX6_readText_142 : decode cX6_readText 142 = .ok (.iconst 1, 1) := by decide +kernel
theorem dX6_readText_143 : decode cX6_readText 143 = .ok (.iadd, 1) := by decide +kernel
theorem dX6_readText_144 : decode cX6_readText 144 = .ok (.aload_n 0, 1) := by decide +kernel
theorem dX6_readText_145 : decode cX6_readText 145 = .ok (.iconst 0, 1) := by decide +kernel
theorem dX6_readText_146 : decode cX6_readText 146 = .ok (.iconst 3, 1) := by decide +kernel
theorem dX6_readText_147 : decode cX6_readText 147 = .ok (.invokevirtual 72, 3) := by decide +kernel
theorem dX6_readText_150 : decode cX6_readText 150 = .ok (.iastore, 1) := by decide +kernel
theorem dX6_readText_151 : decode cX6_readText 151 = .ok (.aload_n 0, 1) := by decide +kernel
theorem dX6_readText_152 : decode cX6_readText 152 = .ok (.dup, 1) := by decide +kernel
theorem dX6_readText_153 : decode cX6_readText 153 = .ok (.getfield 66, 3) := by decide +kernel
theorem dX6_readText_156 : decode cX6_readText 156 = .ok (.iconst 1, 1) := by decide +kernel
theorem dX6_readText_157 : decode cX6_readText 157 = .ok (.iadd, 1) := by decide +kernel
theorem dX6_readText_158 : decode cX6_readText 158 = .ok (.putfield 66, 3) := by decide +kernel
theorem dX6_readText_161 : decode cX6_readText 161 = .ok (.goto (-99), 3) := by decide +kernel
theorem dX6_readText_164 : decode cX6_readText 164 = .ok (.aload_n 0, 1) := by decide +kernel
theorem dX6_readText_165 : decode cX6_readText 165 = .ok (.getfield 28, 3) := by decide +kernel
theorem dX6_readText_168 : decode cX6_readText 168 = .ok (.aload_n 0, 1) := by decide +kernel
theorem dX6_readText_169 : decode cX6_readText 169 = .ok (.getfield 63, 3) := by decide +kernel
theorem dX6_readText_172 : decode cX6_readText 172 = .ok (.iaload, 1) := by decide +kernel
theorem dX6_readText_173 : decode cX6_readText 173 = .ok (.bipush 84, 2) := by decide +kernel
theorem dX6_readText_175 : decode cX6_readText 175 = .ok (.if_icmp .ne 72, 3) := by decide +kernel
theorem dX6_readText_178 : decode cX6_readText 178 = .ok (.aload_n 0, 1) := by decide +kernel
theorem dX6_readText_179 : decode cX6_readText 179 = .ok (.getfield 69, 3) := by decide +kernel
theorem dX6_readText_182 : decode cX6_readText 182 = .ok (.iconst 4, 1) := by decide +kernel
theorem dX6_readText_183 : decode cX6_readText 183 = .ok (.if_icmp .ge 64, 3) := by decide +kernel
theorem dX6_readText_186 : decode cX6_readText 186 = .ok (.aload_n 0, 1) := by decide +kernel
theorem dX6_readText_187 : decode cX6_readText 187 = .ok (.dup, 1) := by decide +kernel
theorem dX6_readText_188 : decode cX6_readText 188 = .ok (.getfield 63, 3) := by decide +kernel
theorem dX6_readText_191 : decode cX6_readText 191 = .ok (.iconst 1, 1) := by decide +kernel
theorem dX6_readText_192 : decode cX6_readText 192 = .ok (.iadd, 1) := by decide +kernel
theorem dX6_readText_193 : decode cX6_readText 193 = .ok (.putfield 63, 3) := by decide +kernel
theorem dX6_readText_196 : decode cX6_readText 196 = .ok (.aload_n 0, 1) := by decide +kernel
theorem dX6_readText_197 : decode cX6_readText 197 = .ok (.getfield 25, 3) := by decide +kernel
theorem dX6_readText_200 : decode cX6_readText 200 = .ok (.iconst 2, 1) := by decide +kernel
theorem dX6_readText_201 : decode cX6_readText 201 = .ok (.aload_n 0, 1) := by decide +kernel
theorem dX6_readText_202 : decode cX6_readText 202 = .ok (.getfield 69, 3) := by decide +kernel
theorem dX6_readText_205 : decode cX6_readText 205 = .ok (.imul, 1) := by decide +kernel
theorem dX6_readText_206 : decode cX6_readText 206 = .ok (.aload_n 0, 1) := by decide +kernel
theorem dX6_readText_207 : decode cX6_readText 207 = .ok (.iconst 0, 1) := by decide +kernel
theorem dX6_readText_208 : decode cX6_readText 208 = .ok (.bipush 9, 2) := by decide +kernel
theorem dX6_readText_210 : decode cX6_readText 210 = .ok (.invokevirtual 72, 3) := by decide +kernel
theorem dX6_readText_213 : decode cX6_readText 213 = .ok (.iastore, 1) := by decide +kernel
theorem dX6_readText_214 : decode cX6_readText 214 = .ok (.aload_n 0, 1) := by decide +kernel
theorem dX6_readText_215 : decode cX6_readText 215 = .ok (.getfield 25, 3) := by decide +kernel
theorem dX6_readText_218 : decode cX6_readText 218 = .ok (.iconst 2, 1) := by decide +kernel
theorem dX6_readText_219 : decode cX6_readText 219 = .ok (.aload_n 0, 1) := by decide +kernel
theorem dX6_readText_220 : decode cX6_readText 220 = .ok (.getfield 69, 3) := by decide +kernel
theorem dX6_readText_223 : decode cX6_readText 223 = .ok (.imul, 1) := by decide +kernel
theorem dX6_readText_224 : decode cX6_readText 224 = .ok (.iconst 1, 1) := by decide +kernel
theorem dX6_readText_225 : decode cX6_readText 225 = .ok (.iadd, 1) := by decide +kernel
theorem dX6_readText_226 : decode cX6_readText 226 = .ok (.aload_n 0, 1) := by decide +kernel
theorem dX6_readText_227 : decode cX6_readText 227 = .ok (.iconst 1, 1) := by decide +kernel
theorem dX6_readText_228 : decode cX6_readText 228 = .ok (.bipush 9, 2) := by decide +kernel
theorem dX6_readText_230 : decode cX6_readText 230 = .ok (.invokevirtual 72, 3) := by decide +kernel
theorem dX6_readText_233 : decode cX6_readText 233 = .ok (.iastore, 1) := by decide +kernel
theorem dX6_readText_234 : decode cX6_readText 234 = .ok (.aload_n 0, 1) := by decide +kernel
theorem dX6_readText_235 : decode cX6_readText 235 = .ok (.dup, 1) := by decide +kernel
theorem dX6_readText_236 : decode cX6_readText 236 = .ok (.getfield 69, 3) := by decide +kernel
theorem dX6_readText_239 : decode cX6_readText 239 = .ok (.iconst 1, 1) := by decide +kernel
theorem dX6_readText_240 : decode cX6_readText 240 = .ok (.iadd, 1) := by decide +kernel
theorem dX6_readText_241 : decode cX6_readText 241 = .ok (.putfield 69, 3) := by decide +kernel
theorem dX6_readText_244 : decode cX6_readText 244 = .ok (.goto (-182), 3) := by decide +kernel
theorem dX6_readText_247 : decode cX6_readText 247 = .ok (.aload_n 0, 1) := by decide +kernel
theorem dX6_readText_248 : decode cX6_readText 248 = .ok (.aload_n 0, 1) := by decide +kernel
theorem dX6_readText_249 : decode cX6_readText 249 = .ok (.getfield 63, 3) := by decide +kernel
theorem dX6_readText_252 : decode cX6_readText 252 = .ok (.putfield 60, 3) := by decide +kernel
theorem dX6_readText_255 : decode cX6_readText 255 = .ok (.goto (-193), 3) := by decide +kernel
theorem dX6_readText_258 : decode cX6_readText 258 = .ok (.aload_n 0, 1) := by decide +kernel
theorem dX6_readText_259 : decode cX6_readText 259 = .ok (.getfield 60, 3) := by decide +kernel
theorem dX6_readText_262 : decode cX6_readText 262 = .ok (.ireturn, 1) := by decide +kernel
theorem dX6_fault_0 : decode cX6_fault 0 = .ok (.aload_n 0, 1) := by decide +kernel
theorem dX6_fault_1 : decode cX6_fault 1 = .ok (.invokevirtual 76, 3) := by decide +kernel
theorem dX6_fault_4 : decode cX6_fault 4 = .ok (.ireturn, 1) := by decide +kernel
theorem dX6_walk_0 : decode cX6_walk 0 = .ok (.aload_n 0, 1) := by decide +kernel
theorem dX6_walk_1 : decode cX6_walk 1 = .ok (.invokevirtual 76, 3) := by decide +kernel
theorem dX6_walk_4 : decode cX6_walk 4 = .ok (.bipush (-9), 2) := by decide +kernel
theorem dX6_walk_6 : decode cX6_walk 6 = .ok (.if_icmp .eq 6, 3) := by decide +kernel
theorem dX6_walk_9 : decode cX6_walk 9 = .ok (.bipush (-3), 2) := by decide +kernel
theorem dX6_walk_11 : decode cX6_walk 11 = .ok (.ireturn, 1) := by decide +kernel
theorem dX6_walk_12 : decode cX6_walk 12 = .ok (.aload_n 0, 1) := by decide +kernel
theorem dX6_walk_13 : decode cX6_walk 13 = .ok (.aload_n 0, 1) := by decide +kernel
theorem dX6_walk_14 : decode cX6_walk 14 = .ok (.getfield 66, 3) := by decide +kernel
theorem dX6_walk_17 : decode cX6_walk 17 = .ok (.putfield 80, 3) := by decide +kernel
theorem dX6_walk_20 : decode cX6_walk 20 = .ok (.aload_n 0, 1) := by decide +kernel
theorem dX6_walk_21 : decode cX6_walk 21 = .ok (.aload_n 0, 1) := by decide +kernel
theorem dX6_walk_22 : decode cX6_walk 22 = .ok (.getfield 69, 3) := by decide +kernel
theorem dX6_walk_25 : decode cX6_walk 25 = .ok (.putfield 83, 3) := by decide +kernel
theorem dX6_walk_28 : decode cX6_walk 28 = .ok (.iconst 0, 1) := by decide +kernel
theorem dX6_walk_29 : decode cX6_walk 29 = .ok (.istore_n 1, 1) := by decide +kernel
theorem dX6_walk_30 : decode cX6_walk 30 = .ok (.iload_n 1, 1) := by decide +kernel
theorem dX6_walk_31 : decode cX6_walk 31 = .ok (.bipush 10, 2) := by decide +kernel
theorem dX6_walk_33 : decode cX6_walk 33 = .ok (.if_icmp .ge 16, 3) := by decide +kernel
theorem dX6_walk_36 : decode cX6_walk 36 = .ok (.aload_n 0, 1) := by decide +kernel
theorem dX6_walk_37 : decode cX6_walk 37 = .ok (.getfield 19, 3) := by decide +kernel
theorem dX6_walk_40 : decode cX6_walk 40 = .ok (.iload_n 1, 1) := by decide +kernel
theorem dX6_walk_41 : decode cX6_walk 41 = .ok (.iconst 0, 1) := by decide +kernel
theorem dX6_walk_42 : decode cX6_walk 42 = .ok (.iastore, 1) := by decide +kernel
theorem dX6_walk_43 : decode cX6_walk 43 = .ok (.iinc 1 1, 3) := by decide +kernel
theorem dX6_walk_46 : decode cX6_walk 46 = .ok (.goto (-16), 3) := by decide +kernel
theorem dX6_walk_49 : decode cX6_walk 49 = .ok (.iconst 0, 1) := by decide +kernel
theorem dX6_walk_50 : decode cX6_walk 50 = .ok (.istore_n 1, 1) := by decide +kernel
theorem dX6_walk_51 : decode cX6_walk 51 = .ok (.iload_n 1, 1) := by decide +kernel
theorem dX6_walk_52 : decode cX6_walk 52 = .ok (.aload_n 0, 1) := by decide +kernel
theorem dX6_walk_53 : decode cX6_walk 53 = .ok (.getfield 80, 3) := by decide +kernel
theorem dX6_walk_56 : decode cX6_walk 56 = .ok (.if_icmp .ge 39, 3) := by decide +kernel
theorem dX6_walk_59 : decode cX6_walk 59 = .ok (.aload_n 0, 1) := by decide +kernel
theorem dX6_walk_60 : decode cX6_walk 60 = .ok (.getfield 19, 3) := by decide +kernel
theorem dX6_walk_63 : decode cX6_walk 63 = .ok (.iload_n 1, 1) := by decide +kernel
theorem dX6_walk_64 : decode cX6_walk 64 = .ok (.aload_n 0, 1) := by decide +kernel
theorem dX6_walk_65 : decode cX6_walk 65 = .ok (.getfield 22, 3) := by decide +kernel
theorem dX6_walk_68 : decode cX6_walk 68 = .ok (.iconst 2, 1) := by decide +kernel
theorem dX6_walk_69 : decode cX6_walk 69 = .ok (.iload_n 1, 1) := by decide +kernel
theorem dX6_walk_70 : decode cX6_walk 70 = .ok (.imul, 1) := by decide +kernel
theorem dX6_walk_71 : decode cX6_walk 71 = .ok (.iaload, 1) := by decide +kernel
theorem dX6_walk_72 : decode cX6_walk 72 = .ok (.iastore, 1) := by decide +kernel
theorem dX6_walk_73 : decode cX6_walk 73 = .ok (.aload_n 0, 1) := by decide +kernel
theorem dX6_walk_74 : decode cX6_walk 74 = .ok (.getfield 7, 3) := by decide +kernel
theorem dX6_walk_77 : decode cX6_walk 77 = .ok (.iload_n 1, 1) := by decide +kernel
theorem dX6_walk_78 : decode cX6_walk 78 = .ok (.aload_n 0, 1) := by decide +kernel
theorem dX6_walk_79 : decode cX6_walk 79 = .ok (.getfield 22, 3) := by decide +kernel
theorem dX6_walk_82 : decode cX6_walk 82 = .ok (.iconst 2, 1) := by decide +kernel
theorem dX6_walk_83 : decode cX6_walk 83 = .ok (.iload_n 1, 1) := by decide +kernel
theorem dX6_walk_84 : decode cX6_walk 84 = .ok (.imul, 1) := by decide +kernel
theorem dX6_walk_85 : decode cX6_walk 85 = .ok (.iconst 1, 1) := by decide +kernel
theorem dX6_walk_86 : decode cX6_walk 86 = .ok (.iadd, 1) := by decide +kernel
theorem dX6_walk_87 : decode cX6_walk 87 = .ok (.iaload, 1) := by decide +kernel
theorem dX6_walk_88 : decode cX6_walk 88 = .ok (.iastore, 1) := by decide +kernel
theorem dX6_walk_89 : decode cX6_walk 89 = .ok (.iinc 1 1, 3) := by decide +kernel
theorem dX6_walk_92 : decode cX6_walk 92 = .ok (.goto (-41), 3) := by decide +kernel
theorem dX6_walk_95 : decode cX6_walk 95 = .ok (.iconst 0, 1) := by decide +kernel
theorem dX6_walk_96 : decode cX6_walk 96 = .ok (.istore_n 1, 1) := by decide +kernel
theorem dX6_walk_97 : decode cX6_walk 97 = .ok (.iload_n 1, 1) := by decide +kernel
theorem dX6_walk_98 : decode cX6_walk 98 = .ok (.aload_n 0, 1) := by decide +kernel
theorem dX6_walk_99 : decode cX6_walk 99 = .ok (.getfield 83, 3) := by decide +kernel
theorem dX6_walk_102 : decode cX6_walk 102 = .ok (.if_icmp .ge 39, 3) := by decide +kernel
theorem dX6_walk_105 : decode cX6_walk 105 = .ok (.aload_n 0, 1) := by decide +kernel
theorem dX6_walk_106 : decode cX6_walk 106 = .ok (.getfield 13, 3) := by decide +kernel
theorem dX6_walk_109 : decode cX6_walk 109 = .ok (.iload_n 1, 1) := by decide +kernel
theorem dX6_walk_110 : decode cX6_walk 110 = .ok (.aload_n 0, 1) := by decide +kernel
theorem dX6_walk_111 : decode cX6_walk 111 = .ok (.getfield 25, 3) := by decide +kernel
theorem dX6_walk_114 : decode cX6_walk 114 = .ok (.iconst 2, 1) := by decide +kernel
theorem dX6_walk_115 : decode cX6_walk 115 = .ok (.iload_n 1, 1) := by decide +kernel
theorem dX6_walk_116 : decode cX6_walk 116 = .ok (.imul, 1) := by decide +kernel
theorem dX6_walk_117 : decode cX6_walk 117 = .ok (.iaload, 1) := by decide +kernel
theorem dX6_walk_118 : decode cX6_walk 118 = .ok (.iastore, 1) := by decide +kernel
theorem dX6_walk_119 : decode cX6_walk 119 = .ok (.aload_n 0, 1) := by decide +kernel
theorem dX6_walk_120 : decode cX6_walk 120 = .ok (.getfield 16, 3) := by decide +kernel
theorem dX6_walk_123 : decode cX6_walk 123 = .ok (.iload_n 1, 1) := by decide +kernel
theorem dX6_walk_124 : decode cX6_walk 124 = .ok (.aload_n 0, 1) := by decide +kernel
theorem dX6_walk_125 : decode cX6_walk 125 = .ok (.getfield 25, 3) := by decide +kernel
theorem dX6_walk_128 : decode cX6_walk 128 = .ok (.iconst 2, 1) := by decide +kernel
theorem dX6_walk_129 : decode cX6_walk 129 = .ok (.iload_n 1, 1) := by decide +kernel
theorem dX6_walk_130 : decode cX6_walk 130 = .ok (.imul, 1) := by decide +kernel
theorem dX6_walk_131 : decode cX6_walk 131 = .ok (.iconst 1, 1) := by decide +kernel
theorem dX6_walk_132 : decode cX6_walk 132 = .ok (.iadd, 1) := by decide +kernel
theorem dX6_walk_133 : decode cX6_walk 133 = .ok (.iaload, 1) := by decide +kernel
theorem dX6_walk_134 : decode cX6_walk 134 = .ok (.iastore, 1) := by decide +kernel
theorem dX6_walk_135 : decode cX6_walk 135 = .ok (.iinc 1 1, 3) := by decide +kernel
theorem dX6_walk_138 : decode cX6_walk 138 = .ok (.goto (-41), 3) := by decide +kernel
theorem dX6_walk_141 : decode cX6_walk 141 = .ok (.aload_n 0, 1) := by decide +kernel
theorem dX6_walk_142 : decode cX6_walk 142 = .ok (.getfield 19, 3) := by decide +kernel
theorem dX6_walk_145 : decode cX6_walk 145 = .ok (.iconst 4, 1) := by decide +kernel
theorem dX6_walk_146 : decode cX6_walk 146 = .ok (.aload_n 0, 1) := by decide +kernel
theorem dX6_walk_147 : decode cX6_walk 147 = .ok (.getfield 28, 3) := by decide +kernel
theorem dX6_walk_150 : decode cX6_walk 150 = .ok (.iconst 1, 1) := by decide +kernel
theorem dX6_walk_151 : decode cX6_walk 151 = .ok (.iaload, 1) := by decide +kernel
theorem dX6_walk_152 : decode cX6_walk 152 = .ok (.bipush 48, 2) := by decide +kernel
theorem dX6_walk_154 : decode cX6_walk 154 = .ok (.isub, 1) := by decide +kernel
theorem dX6_walk_155 : decode cX6_walk 155 = .ok (.iastore, 1) := by decide +kernel
theorem dX6_walk_156 : decode cX6_walk 156 = .ok (.aload_n 0, 1) := by decide +kernel
theorem dX6_walk_157 : decode cX6_walk 157 = .ok (.getfield 19, 3) := by decide +kernel
theorem dX6_walk_160 : decode cX6_walk 160 = .ok (.iconst 5, 1) := by decide +kernel
theorem dX6_walk_161 : decode cX6_walk 161 = .ok (.aload_n 0, 1) := by decide +kernel
theorem dX6_walk_162 : decode cX6_walk 162 = .ok (.getfield 28, 3) := by decide +kernel
theorem dX6_walk_165 : decode cX6_walk 165 = .ok (.iconst 2, 1) := by decide +kernel
theorem dX6_walk_166 : decode cX6_walk 166 = .ok (.iaload, 1) := by decide +kernel
theorem dX6_walk_167 : decode cX6_walk 167 = .ok (.bipush 48, 2) := by decide +kernel
theorem dX6_walk_169 : decode cX6_walk 169 = .ok (.isub, 1) := by decide +kernel
theorem dX6_walk_170 : decode cX6_walk 170 = .ok (.iastore, 1) := by decide +kernel
theorem dX6_walk_171 : decode cX6_walk 171 = .ok (.aload_n 0, 1) := by decide +kernel
theorem dX6_walk_172 : decode cX6_walk 172 = .ok (.getfield 19, 3) := by decide +kernel
theorem dX6_walk_175 : decode cX6_walk 175 = .ok (.bipush 6, 2) := by decide +kernel
theorem dX6_walk_177 : decode cX6_walk 177 = .ok (.bipush (-9), 2) := by decide +kernel
theorem dX6_walk_179 : decode cX6_walk 179 = .ok (.iastore, 1) := by decide +kernel
theorem dX6_walk_180 : decode cX6_walk 180 = .ok (.aload_n 0, 1) := by decide +kernel
theorem dX6_walk_181 : decode cX6_walk 181 = .ok (.iconst 0, 1) := by decide +kernel
theorem dX6_walk_182 : decode cX6_walk 182 = .ok (.putfield 86, 3) := by decide +kernel
theorem dX6_walk_185 : decode cX6_walk 185 = .ok (.aload_n 0, 1) := by decide +kernel
theorem dX6_walk_186 : decode cX6_walk 186 = .ok (.getfield 43, 3) := by decide +kernel
theorem dX6_walk_189 : decode cX6_walk 189 = .ok (.iconst 0, 1) := by decide +kernel
theorem dX6_walk_190 : decode cX6_walk 190 = .ok (.iconst 0, 1) := by decide +kernel
theorem dX6_walk_191 : decode cX6_walk 191 = .ok (.bastore, 1) := by decide +kernel
theorem dX6_walk_192 : decode cX6_walk 192 = .ok (.aload_n 0, 1) := by decide +kernel
theorem dX6_walk_193 : decode cX6_walk 193 = .ok (.getfield 43, 3) := by decide +kernel
theorem dX6_walk_196 : decode cX6_walk 196 = .ok (.iconst 1, 1) := by decide +kernel
theorem dX6_walk_197 : decode cX6_walk 197 = .ok (.iconst 0, 1) := by decide +kernel
theorem dX6_walk_198 : decode cX6_walk 198 = .ok (.bastore, 1) := by decide +kernel
theorem dX6_walk_199 : decode cX6_walk 199 = .ok (.bipush 10, 2) := by decide +kernel
theorem dX6_walk_201 : decode cX6_walk 201 = .ok (.aload_n 0, 1) := by decide +kernel
theorem dX6_walk_202 : decode cX6_walk 202 = .ok (.getfield 80, 3) := by decide +kernel
theorem dX6_walk_205 : decode cX6_walk 205 = .ok (.imul, 1) := by decide +kernel
theorem dX6_walk_206 : decode cX6_walk 206 = .ok (.aload_n 0, 1) := by decide +kernel
theorem dX6_walk_207 : decode cX6_walk 207 = .ok (.getfield 83, 3) := by decide +kernel
theorem dX6_walk_210 : decode cX6_walk 210 = .ok (.iadd, 1) := by decide +kernel
theorem dX6_walk_211 : decode cX6_walk 211 = .ok (.ireturn, 1) := by decide +kernel
theorem dX6_isWord_0 : decode cX6_isWord 0 = .ok (.iload_n 1, 1) := by decide +kernel
theorem dX6_isWord_1 : decode cX6_isWord 1 = .ok (.i2l, 1) := by decide +kernel
theorem dX6_isWord_2 : decode cX6_isWord 2 = .ok (.lconst 0, 1) := by decide +kernel
theorem dX6_isWord_3 : decode cX6_isWord 3 = .ok (.aload_n 0, 1) := by decide +kernel
theorem dX6_isWord_4 : decode cX6_isWord 4 = .ok (.getfield 80, 3) := by decide +kernel
theorem dX6_isWord_7 : decode cX6_isWord 7 = .ok (.iconst 1, 1) := by decide +kernel
theorem dX6_isWord_8 : decode cX6_isWord 8 = .ok (.isub, 1) := by decide +kernel
theorem dX6_isWord_9 : decode cX6_isWord 9 = .ok (.i2l, 1) := by decide +kernel
theorem dX6_isWord_10 : decode cX6_isWord 10 = .ok (.invokestatic 52, 3) := by decide +kernel
theorem dX6_isWord_13 : decode cX6_isWord 13 = .ok (.ireturn, 1) := by decide +kernel
theorem dX6_pullAt_0 : decode cX6_pullAt 0 = .ok (.iconst 0, 1) := by decide +kernel
theorem dX6_pullAt_1 : decode cX6_pullAt 1 = .ok (.istore_n 3, 1) := by decide +kernel
theorem dX6_pullAt_2 : decode cX6_pullAt 2 = .ok (.iconst 0, 1) := by decide +kernel
theorem dX6_pullAt_3 : decode cX6_pullAt 3 = .ok (.istore 4, 2) := by decide +kernel
theorem dX6_pullAt_5 : decode cX6_pullAt 5 = .ok (.iload 4, 2) := by decide +kernel
theorem dX6_pullAt_7 : decode cX6_pullAt 7 = .ok (.aload_n 0, 1) := by decide +kernel
theorem dX6_pullAt_8 : decode cX6_pullAt 8 = .ok (.getfield 83, 3) := by decide +kernel
theorem dX6_pullAt_11 : decode cX6_pullAt 11 = .ok (.if_icmp .ge 73, 3) := by decide +kernel
theorem dX6_pullAt_14 : decode cX6_pullAt 14 = .ok (.aload_n 0, 1) := by decide +kernel
theorem dX6_pullAt_15 : decode cX6_pullAt 15 = .ok (.getfield 16, 3) := by decide +kernel
theorem dX6_pullAt_18 : decode cX6_pullAt 18 = .ok (.iload 4, 2) := by decide +kernel
theorem dX6_pullAt_20 : decode cX6_pullAt 20 = .ok (.iaload, 1) := by decide +kernel
theorem dX6_pullAt_21 : decode cX6_pullAt 21 = .ok (.iload_n 1, 1) := by decide +kernel
theorem dX6_pullAt_22 : decode cX6_pullAt 22 = .ok (.aload_n 0, 1) := by decide +kernel
theorem dX6_pullAt_23 : decode cX6_pullAt 23 = .ok (.getfield 13, 3) := by decide +kernel
theorem dX6_pullAt_26 : decode cX6_pullAt 26 = .ok (.iload 4, 2) := by decide +kernel
theorem dX6_pullAt_28 : decode cX6_pullAt 28 = .ok (.iaload, 1) := by decide +kernel
theorem dX6_pullAt_29 : decode cX6_pullAt 29 = .ok (.if_icmp .le 15, 3) := by decide +kernel
theorem dX6_pullAt_32 : decode cX6_pullAt 32 = .ok (.iload_n 1, 1) := by decide +kernel
theorem dX6_pullAt_33 : decode cX6_pullAt 33 = .ok (.aload_n 0, 1) := by decide +kernel
theorem dX6_pullAt_34 : decode cX6_pullAt 34 = .ok (.getfield 13, 3) := by decide +kernel
theorem dX6_pullAt_37 : decode cX6_pullAt 37 = .ok (.iload 4, 2) := by decide +kernel
theorem dX6_pullAt_39 : decode cX6_pullAt 39 = .ok (.iaload, 1) := by decide +kernel
theorem dX6_pullAt_40 : decode cX6_pullAt 40 = .ok (.isub, 1) := by decide +kernel
theorem dX6_pullAt_41 : decode cX6_pullAt 41 = .ok (.goto 12, 3) := by decide +kernel
theorem dX6_pullAt_44 : decode cX6_pullAt 44 = .ok (.aload_n 0, 1) := by decide +kernel
theorem dX6_pullAt_45 : decode cX6_pullAt 45 = .ok (.getfield 13, 3) := by decide +kernel
theorem dX6_pullAt_48 : decode cX6_pullAt 48 = .ok (.iload 4, 2) := by decide +kernel
theorem dX6_pullAt_50 : decode cX6_pullAt 50 = .ok (.iaload, 1) := by decide +kernel
theorem dX6_pullAt_51 : decode cX6_pullAt 51 = .ok (.iload_n 1, 1) := by decide +kernel
theorem dX6_pullAt_52 : decode cX6_pullAt 52 = .ok (.isub, 1) := by decide +kernel
theorem dX6_pullAt_53 : decode cX6_pullAt 53 = .ok (.isub, 1) := by decide +kernel
theorem dX6_pullAt_54 : decode cX6_pullAt 54 = .ok (.istore 5, 2) := by decide +kernel
theorem dX6_pullAt_56 : decode cX6_pullAt 56 = .ok (.iload_n 2, 1) := by decide +kernel
theorem dX6_pullAt_57 : decode cX6_pullAt 57 = .ok (.iload 4, 2) := by decide +kernel
theorem dX6_pullAt_59 : decode cX6_pullAt 59 = .ok (.invokestatic 89, 3) := by decide +kernel
theorem dX6_pullAt_62 : decode cX6_pullAt 62 = .ok (.ifCond .eq 14, 3) := by decide +kernel
theorem dX6_pullAt_65 : decode cX6_pullAt 65 = .ok (.iload 5, 2) := by decide +kernel
theorem dX6_pullAt_67 : decode cX6_pullAt 67 = .ok (.iload_n 3, 1) := by decide +kernel
theorem dX6_pullAt_68 : decode cX6_pullAt 68 = .ok (.if_icmp .le 8, 3) := by decide +kernel
theorem dX6_pullAt_71 : decode cX6_pullAt 71 = .ok (.iload 5, 2) := by decide +kernel
theorem dX6_pullAt_73 : decode cX6_pullAt 73 = .ok (.goto 4, 3) := by decide +kernel
theorem dX6_pullAt_76 : decode cX6_pullAt 76 = .ok (.iload_n 3, 1) := by decide +kernel
theorem dX6_pullAt_77 : decode cX6_pullAt 77 = .ok (.istore_n 3, 1) := by decide +kernel
theorem dX6_pullAt_78 : decode cX6_pullAt 78 = .ok (.iinc 4 1, 3) := by decide +kernel
theorem dX6_pullAt_81 : decode cX6_pullAt 81 = .ok (.goto (-76), 3) := by decide +kernel
theorem dX6_pullAt_84 : decode cX6_pullAt 84 = .ok (.iload_n 3, 1) := by decide +kernel
theorem dX6_pullAt_85 : decode cX6_pullAt 85 = .ok (.ireturn, 1) := by decide +kernel
theorem dX6_power_0 : decode cX6_power 0 = .ok (.iload_n 1, 1) := by decide +kernel
theorem dX6_power_1 : decode cX6_power 1 = .ok (.aload_n 0, 1) := by decide +kernel
theorem dX6_power_2 : decode cX6_power 2 = .ok (.getfield 19, 3) := by decide +kernel
theorem dX6_power_5 : decode cX6_power 5 = .ok (.bipush 7, 2) := by decide +kernel
theorem dX6_power_7 : decode cX6_power 7 = .ok (.iaload, 1) := by decide +kernel
theorem dX6_power_8 : decode cX6_power 8 = .ok (.iadd, 1) := by decide +kernel
theorem dX6_power_9 : decode cX6_power 9 = .ok (.iload_n 3, 1) := by decide +kernel
theorem dX6_power_10 : decode cX6_power 10 = .ok (.aload_n 0, 1) := by decide +kernel
theorem dX6_power_11 : decode cX6_power 11 = .ok (.getfield 7, 3) := by decide +kernel
theorem dX6_power_14 : decode cX6_power 14 = .ok (.iload_n 2, 1) := by decide +kernel
theorem dX6_power_15 : decode cX6_power 15 = .ok (.iaload, 1) := by decide +kernel
theorem dX6_power_16 : decode cX6_power 16 = .ok (.iconst 1, 1) := by decide +kernel
theorem dX6_power_17 : decode cX6_power 17 = .ok (.if_icmp .ne 7, 3) := by decide +kernel
theorem dX6_power_20 : decode cX6_power 20 = .ok (.iconst 4, 1) := by decide +kernel
theorem dX6_power_21 : decode cX6_power 21 = .ok (.goto 4, 3) := by decide +kernel
theorem dX6_power_24 : decode cX6_power 24 = .ok (.iconst 2, 1) := by decide +kernel
theorem dX6_power_25 : decode cX6_power 25 = .ok (.idiv, 1) := by decide +kernel
theorem dX6_power_26 : decode cX6_power 26 = .ok (.isub, 1) := by decide +kernel
theorem dX6_power_27 : decode cX6_power 27 = .ok (.ireturn, 1) := by decide +kernel
theorem dX6_comesBy_0 : decode cX6_comesBy 0 = .ok (.aload_n 0, 1) := by decide +kernel
theorem dX6_comesBy_1 : decode cX6_comesBy 1 = .ok (.iload_n 1, 1) := by decide +kernel
theorem dX6_comesBy_2 : decode cX6_comesBy 2 = .ok (.iload_n 2, 1) := by decide +kernel
theorem dX6_comesBy_3 : decode cX6_comesBy 3 = .ok (.iload_n 3, 1) := by decide +kernel
theorem dX6_comesBy_4 : decode cX6_comesBy 4 = .ok (.invokevirtual 93, 3) := by decide +kernel
theorem dX6_comesBy_7 : decode cX6_comesBy 7 = .ok (.istore 5, 2) := by decide +kernel
theorem dX6_comesBy_9 : decode cX6_comesBy 9 = .ok (.iload 5, 2) := by decide +kernel
theorem dX6_comesBy_11 : decode cX6_comesBy 11 = .ok (.ifCond .le 19, 3) := by decide +kernel
theorem dX6_comesBy_14 : decode cX6_comesBy 14 = .ok (.iload 5, 2) := by decide +kernel
theorem dX6_comesBy_16 : decode cX6_comesBy 16 = .ok (.aload_n 0, 1) := by decide +kernel
theorem dX6_comesBy_17 : decode cX6_comesBy 17 = .ok (.iload_n 3, 1) := by decide +kernel
theorem dX6_comesBy_18 : decode cX6_comesBy 18 = .ok (.iload 4, 2) := by decide +kernel
theorem dX6_comesBy_20 : decode cX6_comesBy 20 = .ok (.invokevirtual 97, 3) := by decide +kernel
theorem dX6_comesBy_23 : decode cX6_comesBy 23 = .ok (.if_icmp .lt 7, 3) := by decide +kernel
theorem dX6_comesBy_26 : decode cX6_comesBy 26 = .ok (.iconst 1, 1) := by decide +kernel
theorem dX6_comesBy_27 : decode cX6_comesBy 27 = .ok (.goto 4, 3) := by decide +kernel
theorem dX6_comesBy_30 : decode cX6_comesBy 30 = .ok (.iconst 0, 1) := by decide +kernel
theorem dX6_comesBy_31 : decode cX6_comesBy 31 = .ok (.ireturn, 1) := by decide +kernel
theorem dX6_comesNow_0 : decode cX6_comesNow 0 = .ok (.aload_n 0, 1) := by decide +kernel
theorem dX6_comesNow_1 : decode cX6_comesNow 1 = .ok (.aload_n 0, 1) := by decide +kernel
theorem dX6_comesNow_2 : decode cX6_comesNow 2 = .ok (.getfield 19, 3) := by decide +kernel
theorem dX6_comesNow_5 : decode cX6_comesNow 5 = .ok (.iload_n 1, 1) := by decide +kernel
theorem dX6_comesNow_6 : decode cX6_comesNow 6 = .ok (.iaload, 1) := by decide +kernel
theorem dX6_comesNow_7 : decode cX6_comesNow 7 = .ok (.iload_n 1, 1) := by decide +kernel
theorem dX6_comesNow_8 : decode cX6_comesNow 8 = .ok (.iload_n 2, 1) := by decide +kernel
theorem dX6_comesNow_9 : decode cX6_comesNow 9 = .ok (.bipush 15, 2) := by decide +kernel
theorem dX6_comesNow_11 : decode cX6_comesNow 11 = .ok (.invokevirtual 100, 3) := by decide +kernel
theorem dX6_comesNow_14 : decode cX6_comesNow 14 = .ok (.ireturn, 1) := by decide +kernel
theorem dX6_farOf_0 : decode cX6_farOf 0 = .ok (.bipush (-9), 2) := by decide +kernel
theorem dX6_farOf_2 : decode cX6_farOf 2 = .ok (.istore_n 2, 1) := by decide +kernel
theorem dX6_farOf_3 : decode cX6_farOf 3 = .ok (.iconst 0, 1) := by decide +kernel
theorem dX6_farOf_4 : decode cX6_farOf 4 = .ok (.istore_n 3, 1) := by decide +kernel
theorem dX6_farOf_5 : decode cX6_farOf 5 = .ok (.iload_n 3, 1) := by decide +kernel
theorem dX6_farOf_6 : decode cX6_farOf 6 = .ok (.bipush 10, 2) := by decide +kernel
theorem dX6_farOf_8 : decode cX6_farOf 8 = .ok (.if_icmp .ge 24, 3) := by decide +kernel
theorem dX6_farOf_11 : decode cX6_farOf 11 = .ok (.aload_n 0, 1) := by decide +kernel
theorem dX6_farOf_12 : decode cX6_farOf 12 = .ok (.iload_n 1, 1) := by decide +kernel
theorem dX6_farOf_13 : decode cX6_farOf 13 = .ok (.iload_n 3, 1) := by decide +kernel
theorem dX6_farOf_14 : decode cX6_farOf 14 = .ok (.invokevirtual 104, 3) := by decide +kernel
theorem dX6_farOf_17 : decode cX6_farOf 17 = .ok (.ifCond .eq 7, 3) := by decide +kernel
theorem dX6_farOf_20 : decode cX6_farOf 20 = .ok (.iload_n 3, 1) := by decide +kernel
theorem dX6_farOf_21 : decode cX6_farOf 21 = .ok (.goto 4, 3) := by decide +kernel
theorem dX6_farOf_24 : decode cX6_farOf 24 = .ok (.iload_n 2, 1) := by decide +kernel
theorem dX6_farOf_25 : decode cX6_farOf 25 = .ok (.istore_n 2, 1) := by decide +kernel
theorem dX6_farOf_26 : decode cX6_farOf 26 = .ok (.iinc 3 1, 3) := by decide +kernel
theorem dX6_farOf_29 : decode cX6_farOf 29 = .ok (.goto (-24), 3) := by decide +kernel
theorem dX6_farOf_32 : decode cX6_farOf 32 = .ok (.iload_n 2, 1) := by decide +kernel
theorem dX6_farOf_33 : decode cX6_farOf 33 = .ok (.ireturn, 1) := by decide +kernel
theorem dX6_wears_0 : decode cX6_wears 0 = .ok (.aload_n 0, 1) := by decide +kernel
theorem dX6_wears_1 : decode cX6_wears 1 = .ok (.getfield 7, 3) := by decide +kernel
theorem dX6_wears_4 : decode cX6_wears 4 = .ok (.iload_n 1, 1) := by decide +kernel
theorem dX6_wears_5 : decode cX6_wears 5 = .ok (.iaload, 1) := by decide +kernel
theorem dX6_wears_6 : decode cX6_wears 6 = .ok (.iconst 2, 1) := by decide +kernel
theorem dX6_wears_7 : decode cX6_wears 7 = .ok (.if_icmp .ne 7, 3) := by decide +kernel
theorem dX6_wears_10 : decode cX6_wears 10 = .ok (.iconst 2, 1) := by decide +kernel
theorem dX6_wears_11 : decode cX6_wears 11 = .ok (.goto 4, 3) := by decide +kernel
theorem dX6_wears_14 : decode cX6_wears 14 = .ok (.iconst 1, 1) := by decide +kernel
theorem dX6_wears_15 : decode cX6_wears 15 = .ok (.ireturn, 1) := by decide +kernel
theorem dX6_word_0 : decode cX6_word 0 = .ok (.aload_n 0, 1) := by decide +kernel
theorem dX6_word_1 : decode cX6_word 1 = .ok (.iload_n 1, 1) := by decide +kernel
theorem dX6_word_2 : decode cX6_word 2 = .ok (.invokevirtual 107, 3) := by decide +kernel
theorem dX6_word_5 : decode cX6_word 5 = .ok (.ifCond .ne 5, 3) := by decide +kernel
theorem dX6_word_8 : decode cX6_word 8 = .ok (.iconst (-1), 1) := by decide +kernel
theorem dX6_word_9 : decode cX6_word 9 = .ok (.ireturn, 1) := by decide +kernel
theorem dX6_word_10 : decode cX6_word 10 = .ok (.iload_n 2, 1) := by decide +kernel
theorem dX6_word_11 : decode cX6_word 11 = .ok (.tableswitch 116 0 5 #[37, 44, 51, 69, 89, 95], 37) := by decide +kernel
theorem dX6_word_48 : decode cX6_word 48 = .ok (.aload_n 0, 1) := by decide +kernel
theorem dX6_word_49 : decode cX6_word 49 = .ok (.getfield 19, 3) := by decide +kernel
theorem dX6_word_52 : decode cX6_word 52 = .ok (.iload_n 1, 1) := by decide +kernel
theorem dX6_word_53 : decode cX6_word 53 = .ok (.iaload, 1) := by decide +kernel
theorem dX6_word_54 : decode cX6_word 54 = .ok (.ireturn, 1) := by decide +kernel
theorem dX6_word_55 : decode cX6_word 55 = .ok (.aload_n 0, 1) := by decide +kernel
theorem dX6_word_56 : decode cX6_word 56 = .ok (.getfield 7, 3) := by decide +kernel
theorem dX6_word_59 : decode cX6_word 59 = .ok (.iload_n 1, 1) := by decide +kernel
theorem dX6_word_60 : decode cX6_word 60 = .ok (.iaload, 1) := by decide +kernel
theorem dX6_word_61 : decode cX6_word 61 = .ok (.ireturn, 1) := by decide +kernel
theorem dX6_word_62 : decode cX6_word 62 = .ok (.aload_n 0, 1) := by decide +kernel
theorem dX6_word_63 : decode cX6_word 63 = .ok (.aload_n 0, 1) := by decide +kernel
theorem dX6_word_64 : decode cX6_word 64 = .ok (.getfield 19, 3) := by decide +kernel
theorem dX6_word_67 : decode cX6_word 67 = .ok (.iload_n 1, 1) := by decide +kernel
theorem dX6_word_68 : decode cX6_word 68 = .ok (.iaload, 1) := by decide +kernel
theorem dX6_word_69 : decode cX6_word 69 = .ok (.iload_n 1, 1) := by decide +kernel
theorem dX6_word_70 : decode cX6_word 70 = .ok (.aload_n 0, 1) := by decide +kernel
theorem dX6_word_71 : decode cX6_word 71 = .ok (.getfield 19, 3) := by decide +kernel
theorem dX6_word_74 : decode cX6_word 74 = .ok (.iconst 5, 1) := by decide +kernel
theorem dX6_word_75 : decode cX6_word 75 = .ok (.iaload, 1) := by decide +kernel
theorem dX6_word_76 : decode cX6_word 76 = .ok (.invokevirtual 93, 3) := by decide +kernel
theorem dX6_word_79 : decode cX6_word 79 = .ok (.ireturn, 1) := by decide +kernel
theorem dX6_word_80 : decode cX6_word 80 = .ok (.aload_n 0, 1) := by decide +kernel
theorem dX6_word_81 : decode cX6_word 81 = .ok (.iload_n 1, 1) := by decide +kernel
theorem dX6_word_82 : decode cX6_word 82 = .ok (.aload_n 0, 1) := by decide +kernel
theorem dX6_word_83 : decode cX6_word 83 = .ok (.getfield 19, 3) := by decide +kernel
theorem dX6_word_86 : decode cX6_word 86 = .ok (.iconst 5, 1) := by decide +kernel
theorem dX6_word_87 : decode cX6_word 87 = .ok (.iaload, 1) := by decide +kernel
theorem dX6_word_88 : decode cX6_word 88 = .ok (.invokevirtual 104, 3) := by decide +kernel
theorem dX6_word_91 : decode cX6_word 91 = .ok (.ifCond .eq 7, 3) := by decide +kernel
theorem dX6_word_94 : decode cX6_word 94 = .ok (.iconst 1, 1) := by decide +kernel
theorem dX6_word_95 : decode cX6_word 95 = .ok (.goto 4, 3) := by decide +kernel
theorem dX6_word_98 : decode cX6_word 98 = .ok (.iconst 0, 1) := by decide +kernel
theorem dX6_word_99 : decode cX6_word 99 = .ok (.ireturn, 1) := by decide +kernel
theorem dX6_word_100 : decode cX6_word 100 = .ok (.aload_n 0, 1) := by decide +kernel
theorem dX6_word_101 : decode cX6_word 101 = .ok (.iload_n 1, 1) := by decide +kernel
theorem dX6_word_102 : decode cX6_word 102 = .ok (.invokevirtual 111, 3) := by decide +kernel
theorem dX6_word_105 : decode cX6_word 105 = .ok (.ireturn, 1) := by decide +kernel
theorem dX6_word_106 : decode cX6_word 106 = .ok (.aload_n 0, 1) := by decide +kernel
theorem dX6_word_107 : decode cX6_word 107 = .ok (.getfield 19, 3) := by decide +kernel
theorem dX6_word_110 : decode cX6_word 110 = .ok (.iload_n 1, 1) := by decide +kernel
theorem dX6_word_111 : decode cX6_word 111 = .ok (.iaload, 1) := by decide +kernel
theorem dX6_word_112 : decode cX6_word 112 = .ok (.aload_n 0, 1) := by decide +kernel
theorem dX6_word_113 : decode cX6_word 113 = .ok (.iload_n 1, 1) := by decide +kernel
theorem dX6_word_114 : decode cX6_word 114 = .ok (.invokevirtual 115, 3) := by decide +kernel
theorem dX6_word_117 : decode cX6_word 117 = .ok (.iadd, 1) := by decide +kernel
theorem dX6_word_118 : decode cX6_word 118 = .ok (.iconst 1, 1) := by decide +kernel
theorem dX6_word_119 : decode cX6_word 119 = .ok (.isub, 1) := by decide +kernel
theorem dX6_word_120 : decode cX6_word 120 = .ok (.aload_n 0, 1) := by decide +kernel
theorem dX6_word_121 : decode cX6_word 121 = .ok (.iload_n 1, 1) := by decide +kernel
theorem dX6_word_122 : decode cX6_word 122 = .ok (.invokevirtual 115, 3) := by decide +kernel
theorem dX6_word_125 : decode cX6_word 125 = .ok (.idiv, 1) := by decide +kernel
theorem dX6_word_126 : decode cX6_word 126 = .ok (.ireturn, 1) := by decide +kernel
theorem dX6_word_127 : decode cX6_word 127 = .ok (.bipush (-2), 2) := by decide +kernel
theorem dX6_word_129 : decode cX6_word 129 = .ok (.ireturn, 1) := by decide +kernel
theorem dX6_thing_0 : decode cX6_thing 0 = .ok (.iload_n 1, 1) := by decide +kernel
theorem dX6_thing_1 : decode cX6_thing 1 = .ok (.i2l, 1) := by decide +kernel
theorem dX6_thing_2 : decode cX6_thing 2 = .ok (.lconst 0, 1) := by decide +kernel
theorem dX6_thing_3 : decode cX6_thing 3 = .ok (.aload_n 0, 1) := by decide +kernel
theorem dX6_thing_4 : decode cX6_thing 4 = .ok (.getfield 83, 3) := by decide +kernel
theorem dX6_thing_7 : decode cX6_thing 7 = .ok (.iconst 1, 1) := by decide +kernel
theorem dX6_thing_8 : decode cX6_thing 8 = .ok (.isub, 1) := by decide +kernel
theorem dX6_thing_9 : decode cX6_thing 9 = .ok (.i2l, 1) := by decide +kernel
theorem dX6_thing_10 : decode cX6_thing 10 = .ok (.invokestatic 52, 3) := by decide +kernel
theorem dX6_thing_13 : decode cX6_thing 13 = .ok (.ifCond .ne 5, 3) := by decide +kernel
theorem dX6_thing_16 : decode cX6_thing 16 = .ok (.iconst (-1), 1) := by decide +kernel
theorem dX6_thing_17 : decode cX6_thing 17 = .ok (.ireturn, 1) := by decide +kernel
theorem dX6_thing_18 : decode cX6_thing 18 = .ok (.iload_n 2, 1) := by decide +kernel
theorem dX6_thing_19 : decode cX6_thing 19 = .ok (.ifCond .ne 12, 3) := by decide +kernel
theorem dX6_thing_22 : decode cX6_thing 22 = .ok (.aload_n 0, 1) := by decide +kernel
theorem dX6_thing_23 : decode cX6_thing 23 = .ok (.getfield 13, 3) := by decide +kernel
theorem dX6_thing_26 : decode cX6_thing 26 = .ok (.iload_n 1, 1) := by decide +kernel
theorem dX6_thing_27 : decode cX6_thing 27 = .ok (.iaload, 1) := by decide +kernel
theorem dX6_thing_28 : decode cX6_thing 28 = .ok (.goto 19, 3) := by decide +kernel
theorem dX6_thing_31 : decode cX6_thing 31 = .ok (.iload_n 2, 1) := by decide +kernel
theorem dX6_thing_32 : decode cX6_thing 32 = .ok (.iconst 1, 1) := by decide +kernel
theorem dX6_thing_33 : decode cX6_thing 33 = .ok (.if_icmp .ne 12, 3) := by decide +kernel
theorem dX6_thing_36 : decode cX6_thing 36 = .ok (.aload_n 0, 1) := by decide +kernel
theorem dX6_thing_37 : decode cX6_thing 37 = .ok (.getfield 16, 3) := by decide +kernel
theorem dX6_thing_40 : decode cX6_thing 40 = .ok (.iload_n 1, 1) := by decide +kernel
theorem dX6_thing_41 : decode cX6_thing 41 = .ok (.iaload, 1) := by decide +kernel
theorem dX6_thing_42 : decode cX6_thing 42 = .ok (.goto 5, 3) := by decide +kernel
theorem dX6_thing_45 : decode cX6_thing 45 = .ok (.bipush (-2), 2) := by decide +kernel
theorem dX6_thing_47 : decode cX6_thing 47 = .ok (.ireturn, 1) := by decide +kernel
theorem dX6_pull_0 : decode cX6_pull 0 = .ok (.iload_n 1, 1) := by decide +kernel
theorem dX6_pull_1 : decode cX6_pull 1 = .ok (.i2l, 1) := by decide +kernel
theorem dX6_pull_2 : decode cX6_pull 2 = .ok (.lconst 0, 1) := by decide +kernel
theorem dX6_pull_3 : decode cX6_pull 3 = .ok (.ldc2_w 118, 3) := by decide +kernel
theorem dX6_pull_6 : decode cX6_pull 6 = .ok (.invokestatic 52, 3) := by decide +kernel
theorem dX6_pull_9 : decode cX6_pull 9 = .ok (.ifCond .eq 13, 3) := by decide +kernel
theorem dX6_pull_12 : decode cX6_pull 12 = .ok (.aload_n 0, 1) := by decide +kernel
theorem dX6_pull_13 : decode cX6_pull 13 = .ok (.iload_n 1, 1) := by decide +kernel
theorem dX6_pull_14 : decode cX6_pull 14 = .ok (.bipush 15, 2) := by decide +kernel
theorem dX6_pull_16 : decode cX6_pull 16 = .ok (.invokevirtual 97, 3) := by decide +kernel
theorem dX6_pull_19 : decode cX6_pull 19 = .ok (.goto 5, 3) := by decide +kernel
theorem dX6_pull_22 : decode cX6_pull 22 = .ok (.bipush (-2), 2) := by decide +kernel
theorem dX6_pull_24 : decode cX6_pull 24 = .ok (.ireturn, 1) := by decide +kernel
theorem dX6_callOn_0 : decode cX6_callOn 0 = .ok (.bipush 10, 2) := by decide +kernel
theorem dX6_callOn_2 : decode cX6_callOn 2 = .ok (.iload_n 1, 1) := by decide +kernel
theorem dX6_callOn_3 : decode cX6_callOn 3 = .ok (.imul, 1) := by decide +kernel
theorem dX6_callOn_4 : decode cX6_callOn 4 = .ok (.istore_n 3, 1) := by decide +kernel
theorem dX6_callOn_5 : decode cX6_callOn 5 = .ok (.aload_n 0, 1) := by decide +kernel
theorem dX6_callOn_6 : decode cX6_callOn 6 = .ok (.getfield 19, 3) := by decide +kernel
theorem dX6_callOn_9 : decode cX6_callOn 9 = .ok (.iload_n 3, 1) := by decide +kernel
theorem dX6_callOn_10 : decode cX6_callOn 10 = .ok (.iconst 5, 1) := by decide +kernel
theorem dX6_callOn_11 : decode cX6_callOn 11 = .ok (.iadd, 1) := by decide +kernel
theorem dX6_callOn_12 : decode cX6_callOn 12 = .ok (.iaload, 1) := by decide +kernel
theorem dX6_callOn_13 : decode cX6_callOn 13 = .ok (.istore 4, 2) := by decide +kernel
theorem dX6_callOn_15 : decode cX6_callOn 15 = .ok (.aload_n 0, 1) := by decide +kernel
theorem dX6_callOn_16 : decode cX6_callOn 16 = .ok (.getfield 19, 3) := by decide +kernel
theorem dX6_callOn_19 : decode cX6_callOn 19 = .ok (.iload_n 3, 1) := by decide +kernel
theorem dX6_callOn_20 : decode cX6_callOn 20 = .ok (.bipush 7, 2) := by decide +kernel
theorem dX6_callOn_22 : decode cX6_callOn 22 = .ok (.iadd, 1) := by decide +kernel
theorem dX6_callOn_23 : decode cX6_callOn 23 = .ok (.iaload, 1) := by decide +kernel
theorem dX6_callOn_24 : decode cX6_callOn 24 = .ok (.aload_n 0, 1) := by decide +kernel
theorem dX6_callOn_25 : decode cX6_callOn 25 = .ok (.getfield 19, 3) := by decide +kernel
theorem dX6_callOn_28 : decode cX6_callOn 28 = .ok (.bipush 7, 2) := by decide +kernel
theorem dX6_callOn_30 : decode cX6_callOn 30 = .ok (.iaload, 1) := by decide +kernel
theorem dX6_callOn_31 : decode cX6_callOn 31 = .ok (.isub, 1) := by decide +kernel
theorem dX6_callOn_32 : decode cX6_callOn 32 = .ok (.istore 5, 2) := by decide +kernel
theorem dX6_callOn_34 : decode cX6_callOn 34 = .ok (.aload_n 0, 1) := by decide +kernel
theorem dX6_callOn_35 : decode cX6_callOn 35 = .ok (.aload_n 0, 1) := by decide +kernel
theorem dX6_callOn_36 : decode cX6_callOn 36 = .ok (.getfield 19, 3) := by decide +kernel
theorem dX6_callOn_39 : decode cX6_callOn 39 = .ok (.iload_n 3, 1) := by decide +kernel
theorem dX6_callOn_40 : decode cX6_callOn 40 = .ok (.iload_n 2, 1) := by decide +kernel
theorem dX6_callOn_41 : decode cX6_callOn 41 = .ok (.iadd, 1) := by decide +kernel
theorem dX6_callOn_42 : decode cX6_callOn 42 = .ok (.iaload, 1) := by decide +kernel
theorem dX6_callOn_43 : decode cX6_callOn 43 = .ok (.iload 5, 2) := by decide +kernel
theorem dX6_callOn_45 : decode cX6_callOn 45 = .ok (.iadd, 1) := by decide +kernel
theorem dX6_callOn_46 : decode cX6_callOn 46 = .ok (.iload_n 2, 1) := by decide +kernel
theorem dX6_callOn_47 : decode cX6_callOn 47 = .ok (.iload 4, 2) := by decide +kernel
theorem dX6_callOn_49 : decode cX6_callOn 49 = .ok (.bipush 15, 2) := by decide +kernel
theorem dX6_callOn_51 : decode cX6_callOn 51 = .ok (.invokevirtual 100, 3) := by decide +kernel
theorem dX6_callOn_54 : decode cX6_callOn 54 = .ok (.istore 6, 2) := by decide +kernel
theorem dX6_callOn_56 : decode cX6_callOn 56 = .ok (.aload_n 0, 1) := by decide +kernel
theorem dX6_callOn_57 : decode cX6_callOn 57 = .ok (.getfield 19, 3) := by decide +kernel
theorem dX6_callOn_60 : decode cX6_callOn 60 = .ok (.iload_n 3, 1) := by decide +kernel
theorem dX6_callOn_61 : decode cX6_callOn 61 = .ok (.bipush 9, 2) := by decide +kernel
theorem dX6_callOn_63 : decode cX6_callOn 63 = .ok (.iadd, 1) := by decide +kernel
theorem dX6_callOn_64 : decode cX6_callOn 64 = .ok (.dup2, 1) := by decide +kernel
theorem dX6_callOn_65 : decode cX6_callOn 65 = .ok (.iaload, 1) := by decide +kernel
theorem dX6_callOn_66 : decode cX6_callOn 66 = .ok (.iconst 1, 1) := by decide +kernel
theorem dX6_callOn_67 : decode cX6_callOn 67 = .ok (.iadd, 1) := by decide +kernel
theorem dX6_callOn_68 : decode cX6_callOn 68 = .ok (.iastore, 1) := by decide +kernel
theorem dX6_callOn_69 : decode cX6_callOn 69 = .ok (.iload 6, 2) := by decide +kernel
theorem dX6_callOn_71 : decode cX6_callOn 71 = .ok (.ifCond .eq 24, 3) := by decide +kernel
theorem dX6_callOn_74 : decode cX6_callOn 74 = .ok (.aload_n 0, 1) := by decide +kernel
theorem dX6_callOn_75 : decode cX6_callOn 75 = .ok (.getfield 19, 3) := by decide +kernel
theorem dX6_callOn_78 : decode cX6_callOn 78 = .ok (.iload_n 3, 1) := by decide +kernel
theorem dX6_callOn_79 : decode cX6_callOn 79 = .ok (.iconst 5, 1) := by decide +kernel
theorem dX6_callOn_80 : decode cX6_callOn 80 = .ok (.iadd, 1) := by decide +kernel
theorem dX6_callOn_81 : decode cX6_callOn 81 = .ok (.iconst 0, 1) := by decide +kernel
theorem dX6_callOn_82 : decode cX6_callOn 82 = .ok (.iastore, 1) := by decide +kernel
theorem dX6_callOn_83 : decode cX6_callOn 83 = .ok (.aload_n 0, 1) := by decide +kernel
theorem dX6_callOn_84 : decode cX6_callOn 84 = .ok (.getfield 19, 3) := by decide +kernel
theorem dX6_callOn_87 : decode cX6_callOn 87 = .ok (.iload_n 3, 1) := by decide +kernel
theorem dX6_callOn_88 : decode cX6_callOn 88 = .ok (.bipush 6, 2) := by decide +kernel
theorem dX6_callOn_90 : decode cX6_callOn 90 = .ok (.iadd, 1) := by decide +kernel
theorem dX6_callOn_91 : decode cX6_callOn 91 = .ok (.iload_n 2, 1) := by decide +kernel
theorem dX6_callOn_92 : decode cX6_callOn 92 = .ok (.iastore, 1) := by decide +kernel
theorem dX6_callOn_93 : decode cX6_callOn 93 = .ok (.iconst 1, 1) := by decide +kernel
theorem dX6_callOn_94 : decode cX6_callOn 94 = .ok (.ireturn, 1) := by decide +kernel
theorem dX6_callOn_95 : decode cX6_callOn 95 = .ok (.aload_n 0, 1) := by decide +kernel
theorem dX6_callOn_96 : decode cX6_callOn 96 = .ok (.getfield 19, 3) := by decide +kernel
theorem dX6_callOn_99 : decode cX6_callOn 99 = .ok (.iload_n 3, 1) := by decide +kernel
theorem dX6_callOn_100 : decode cX6_callOn 100 = .ok (.iload_n 2, 1) := by decide +kernel
theorem dX6_callOn_101 : decode cX6_callOn 101 = .ok (.iadd, 1) := by decide +kernel
theorem dX6_callOn_102 : decode cX6_callOn 102 = .ok (.iaload, 1) := by decide +kernel
theorem dX6_callOn_103 : decode cX6_callOn 103 = .ok (.aload_n 0, 1) := by decide +kernel
theorem dX6_callOn_104 : decode cX6_callOn 104 = .ok (.iload_n 2, 1) := by decide +kernel
theorem dX6_callOn_105 : decode cX6_callOn 105 = .ok (.invokevirtual 115, 3) := by decide +kernel
theorem dX6_callOn_108 : decode cX6_callOn 108 = .ok (.isub, 1) := by decide +kernel
theorem dX6_callOn_109 : decode cX6_callOn 109 = .ok (.istore 7, 2) := by decide +kernel
theorem dX6_callOn_111 : decode cX6_callOn 111 = .ok (.aload_n 0, 1) := by decide +kernel
theorem dX6_callOn_112 : decode cX6_callOn 112 = .ok (.getfield 19, 3) := by decide +kernel
theorem dX6_callOn_115 : decode cX6_callOn 115 = .ok (.iload_n 3, 1) := by decide +kernel
theorem dX6_callOn_116 : decode cX6_callOn 116 = .ok (.iload_n 2, 1) := by decide +kernel
theorem dX6_callOn_117 : decode cX6_callOn 117 = .ok (.iadd, 1) := by decide +kernel
theorem dX6_callOn_118 : decode cX6_callOn 118 = .ok (.iload 7, 2) := by decide +kernel
theorem dX6_callOn_120 : decode cX6_callOn 120 = .ok (.ifCond .ge 7, 3) := by decide +kernel
theorem dX6_callOn_123 : decode cX6_callOn 123 = .ok (.iconst 0, 1) := by decide +kernel
theorem dX6_callOn_124 : decode cX6_callOn 124 = .ok (.goto 5, 3) := by decide +kernel
theorem dX6_callOn_127 : decode cX6_callOn 127 = .ok (.iload 7, 2) := by decide +kernel
theorem dX6_callOn_129 : decode cX6_callOn 129 = .ok (.iastore, 1) := by decide +kernel
theorem dX6_callOn_130 : decode cX6_callOn 130 = .ok (.aload_n 0, 1) := by decide +kernel
theorem dX6_callOn_131 : decode cX6_callOn 131 = .ok (.getfield 19, 3) := by decide +kernel
theorem dX6_callOn_134 : decode cX6_callOn 134 = .ok (.iload_n 3, 1) := by decide +kernel
theorem dX6_callOn_135 : decode cX6_callOn 135 = .ok (.bipush 6, 2) := by decide +kernel
theorem dX6_callOn_137 : decode cX6_callOn 137 = .ok (.iadd, 1) := by decide +kernel
theorem dX6_callOn_138 : decode cX6_callOn 138 = .ok (.bipush (-9), 2) := by decide +kernel
theorem dX6_callOn_140 : decode cX6_callOn 140 = .ok (.iastore, 1) := by decide +kernel
theorem dX6_callOn_141 : decode cX6_callOn 141 = .ok (.aload_n 0, 1) := by decide +kernel
theorem dX6_callOn_142 : decode cX6_callOn 142 = .ok (.getfield 19, 3) := by decide +kernel
theorem dX6_callOn_145 : decode cX6_callOn 145 = .ok (.iload_n 3, 1) := by decide +kernel
theorem dX6_callOn_146 : decode cX6_callOn 146 = .ok (.iconst 5, 1) := by decide +kernel
theorem dX6_callOn_147 : decode cX6_callOn 147 = .ok (.iadd, 1) := by decide +kernel
theorem dX6_callOn_148 : decode cX6_callOn 148 = .ok (.iload 4, 2) := by decide +kernel
theorem dX6_callOn_150 : decode cX6_callOn 150 = .ok (.bipush 9, 2) := by decide +kernel
theorem dX6_callOn_152 : decode cX6_callOn 152 = .ok (.if_icmp .ge 10, 3) := by decide +kernel
theorem dX6_callOn_155 : decode cX6_callOn 155 = .ok (.iload 4, 2) := by decide +kernel
theorem dX6_callOn_157 : decode cX6_callOn 157 = .ok (.iconst 1, 1) := by decide +kernel
theorem dX6_callOn_158 : decode cX6_callOn 158 = .ok (.iadd, 1) := by decide +kernel
theorem dX6_callOn_159 : decode cX6_callOn 159 = .ok (.goto 5, 3) := by decide +kernel
theorem dX6_callOn_162 : decode cX6_callOn 162 = .ok (.bipush 9, 2) := by decide +kernel
theorem dX6_callOn_164 : decode cX6_callOn 164 = .ok (.iastore, 1) := by decide +kernel
theorem dX6_callOn_165 : decode cX6_callOn 165 = .ok (.iconst 0, 1) := by decide +kernel
theorem dX6_callOn_166 : decode cX6_callOn 166 = .ok (.ireturn, 1) := by decide +kernel
theorem dX6_canPay_0 : decode cX6_canPay 0 = .ok (.aload_n 0, 1) := by decide +kernel
theorem dX6_canPay_1 : decode cX6_canPay 1 = .ok (.getfield 19, 3) := by decide +kernel
theorem dX6_canPay_4 : decode cX6_canPay 4 = .ok (.bipush 10, 2) := by decide +kernel
theorem dX6_canPay_6 : decode cX6_canPay 6 = .ok (.iload_n 1, 1) := by decide +kernel
theorem dX6_canPay_7 : decode cX6_canPay 7 = .ok (.imul, 1) := by decide +kernel
theorem dX6_canPay_8 : decode cX6_canPay 8 = .ok (.bipush 6, 2) := by decide +kernel
theorem dX6_canPay_10 : decode cX6_canPay 10 = .ok (.iadd, 1) := by decide +kernel
theorem dX6_canPay_11 : decode cX6_canPay 11 = .ok (.iaload, 1) := by decide +kernel
theorem dX6_canPay_12 : decode cX6_canPay 12 = .ok (.bipush (-9), 2) := by decide +kernel
theorem dX6_canPay_14 : decode cX6_canPay 14 = .ok (.if_icmp .eq 21, 3) := by decide +kernel
theorem dX6_canPay_17 : decode cX6_canPay 17 = .ok (.aload_n 0, 1) := by decide +kernel
theorem dX6_canPay_18 : decode cX6_canPay 18 = .ok (.getfield 19, 3) := by decide +kernel
theorem dX6_canPay_21 : decode cX6_canPay 21 = .ok (.bipush 10, 2) := by decide +kernel
theorem dX6_canPay_23 : decode cX6_canPay 23 = .ok (.iload_n 1, 1) := by decide +kernel
theorem dX6_canPay_24 : decode cX6_canPay 24 = .ok (.imul, 1) := by decide +kernel
theorem dX6_canPay_25 : decode cX6_canPay 25 = .ok (.iconst 4, 1) := by decide +kernel
theorem dX6_canPay_26 : decode cX6_canPay 26 = .ok (.iadd, 1) := by decide +kernel
theorem dX6_canPay_27 : decode cX6_canPay 27 = .ok (.iaload, 1) := by decide +kernel
theorem dX6_canPay_28 : decode cX6_canPay 28 = .ok (.ifCond .le 7, 3) := by decide +kernel
theorem dX6_canPay_31 : decode cX6_canPay 31 = .ok (.iconst 1, 1) := by decide +kernel
theorem dX6_canPay_32 : decode cX6_canPay 32 = .ok (.goto 4, 3) := by decide +kernel
theorem dX6_canPay_35 : decode cX6_canPay 35 = .ok (.iconst 0, 1) := by decide +kernel
theorem dX6_canPay_36 : decode cX6_canPay 36 = .ok (.ireturn, 1) := by decide +kernel
theorem dX6_payOn_0 : decode cX6_payOn 0 = .ok (.bipush 10, 2) := by decide +kernel
theorem dX6_payOn_2 : decode cX6_payOn 2 = .ok (.iload_n 1, 1) := by decide +kernel
theorem dX6_payOn_3 : decode cX6_payOn 3 = .ok (.imul, 1) := by decide +kernel
theorem dX6_payOn_4 : decode cX6_payOn 4 = .ok (.istore_n 2, 1) := by decide +kernel
theorem dX6_payOn_5 : decode cX6_payOn 5 = .ok (.aload_n 0, 1) := by decide +kernel
theorem dX6_payOn_6 : decode cX6_payOn 6 = .ok (.getfield 19, 3) := by decide +kernel
theorem dX6_payOn_9 : decode cX6_payOn 9 = .ok (.iload_n 2, 1) := by decide +kernel
theorem dX6_payOn_10 : decode cX6_payOn 10 = .ok (.bipush 6, 2) := by decide +kernel
theorem dX6_payOn_12 : decode cX6_payOn 12 = .ok (.iadd, 1) := by decide +kernel
theorem dX6_payOn_13 : decode cX6_payOn 13 = .ok (.iaload, 1) := by decide +kernel
theorem dX6_payOn_14 : decode cX6_payOn 14 = .ok (.istore_n 3, 1) := by decide +kernel
theorem dX6_payOn_15 : decode cX6_payOn 15 = .ok (.aload_n 0, 1) := by decide +kernel
theorem dX6_payOn_16 : decode cX6_payOn 16 = .ok (.getfield 19, 3) := by decide +kernel
theorem dX6_payOn_19 : decode cX6_payOn 19 = .ok (.iload_n 2, 1) := by decide +kernel
theorem dX6_payOn_20 : decode cX6_payOn 20 = .ok (.iconst 4, 1) := by decide +kernel
theorem dX6_payOn_21 : decode cX6_payOn 21 = .ok (.iadd, 1) := by decide +kernel
theorem dX6_payOn_22 : decode cX6_payOn 22 = .ok (.dup2, 1) := by decide +kernel
theorem dX6_payOn_23 : decode cX6_payOn 23 = .ok (.iaload, 1) := by decide +kernel
theorem dX6_payOn_24 : decode cX6_payOn 24 = .ok (.iconst 1, 1) := by decide +kernel
theorem dX6_payOn_25 : decode cX6_payOn 25 = .ok (.isub, 1) := by decide +kernel
theorem dX6_payOn_26 : decode cX6_payOn 26 = .ok (.iastore, 1) := by decide +kernel
theorem dX6_payOn_27 : decode cX6_payOn 27 = .ok (.aload_n 0, 1) := by decide +kernel
theorem dX6_payOn_28 : decode cX6_payOn 28 = .ok (.getfield 19, 3) := by decide +kernel
theorem dX6_payOn_31 : decode cX6_payOn 31 = .ok (.iload_n 2, 1) := by decide +kernel
theorem dX6_payOn_32 : decode cX6_payOn 32 = .ok (.iload_n 3, 1) := by decide +kernel
theorem dX6_payOn_33 : decode cX6_payOn 33 = .ok (.iadd, 1) := by decide +kernel
theorem dX6_payOn_34 : decode cX6_payOn 34 = .ok (.dup2, 1) := by decide +kernel
theorem dX6_payOn_35 : decode cX6_payOn 35 = .ok (.iaload, 1) := by decide +kernel
theorem dX6_payOn_36 : decode cX6_payOn 36 = .ok (.aload_n 0, 1) := by decide +kernel
theorem dX6_payOn_37 : decode cX6_payOn 37 = .ok (.getfield 19, 3) := by decide +kernel
theorem dX6_payOn_40 : decode cX6_payOn 40 = .ok (.iload_n 2, 1) := by decide +kernel
theorem dX6_payOn_41 : decode cX6_payOn 41 = .ok (.iload_n 3, 1) := by decide +kernel
theorem dX6_payOn_42 : decode cX6_payOn 42 = .ok (.iadd, 1) := by decide +kernel
theorem dX6_payOn_43 : decode cX6_payOn 43 = .ok (.iaload, 1) := by decide +kernel
theorem dX6_payOn_44 : decode cX6_payOn 44 = .ok (.bipush 9, 2) := by decide +kernel
theorem dX6_payOn_46 : decode cX6_payOn 46 = .ok (.if_icmp .ge 7, 3) := by decide +kernel
theorem dX6_payOn_49 : decode cX6_payOn 49 = .ok (.iconst 1, 1) := by decide +kernel
theorem dX6_payOn_50 : decode cX6_payOn 50 = .ok (.goto 4, 3) := by decide +kernel
theorem dX6_payOn_53 : decode cX6_payOn 53 = .ok (.iconst 0, 1) := by decide +kernel
theorem dX6_payOn_54 : decode cX6_payOn 54 = .ok (.iadd, 1) := by decide +kernel
theorem dX6_payOn_55 : decode cX6_payOn 55 = .ok (.iastore, 1) := by decide +kernel
theorem dX6_payOn_56 : decode cX6_payOn 56 = .ok (.aload_n 0, 1) := by decide +kernel
theorem dX6_payOn_57 : decode cX6_payOn 57 = .ok (.getfield 19, 3) := by decide +kernel
theorem dX6_payOn_60 : decode cX6_payOn 60 = .ok (.iload_n 2, 1) := by decide +kernel
theorem dX6_payOn_61 : decode cX6_payOn 61 = .ok (.bipush 6, 2) := by decide +kernel
theorem dX6_payOn_63 : decode cX6_payOn 63 = .ok (.iadd, 1) := by decide +kernel
theorem dX6_payOn_64 : decode cX6_payOn 64 = .ok (.bipush (-9), 2) := by decide +kernel
theorem dX6_payOn_66 : decode cX6_payOn 66 = .ok (.iastore, 1) := by decide +kernel
theorem dX6_payOn_67 : decode cX6_payOn 67 = .ok (.aload_n 0, 1) := by decide +kernel
theorem dX6_payOn_68 : decode cX6_payOn 68 = .ok (.getfield 19, 3) := by decide +kernel
theorem dX6_payOn_71 : decode cX6_payOn 71 = .ok (.iload_n 2, 1) := by decide +kernel
theorem dX6_payOn_72 : decode cX6_payOn 72 = .ok (.iload_n 3, 1) := by decide +kernel
theorem dX6_payOn_73 : decode cX6_payOn 73 = .ok (.iadd, 1) := by decide +kernel
theorem dX6_payOn_74 : decode cX6_payOn 74 = .ok (.iaload, 1) := by decide +kernel
theorem dX6_payOn_75 : decode cX6_payOn 75 = .ok (.ireturn, 1) := by decide +kernel
theorem dX6_runOn_0 : decode cX6_runOn 0 = .ok (.bipush 10, 2) := by decide +kernel
theorem dX6_runOn_2 : decode cX6_runOn 2 = .ok (.iload_n 1, 1) := by decide +kernel
theorem dX6_runOn_3 : decode cX6_runOn 3 = .ok (.imul, 1) := by decide +kernel
theorem dX6_runOn_4 : decode cX6_runOn 4 = .ok (.istore_n 3, 1) := by decide +kernel
theorem dX6_runOn_5 : decode cX6_runOn 5 = .ok (.aload_n 0, 1) := by decide +kernel
theorem dX6_runOn_6 : decode cX6_runOn 6 = .ok (.getfield 19, 3) := by decide +kernel
theorem dX6_runOn_9 : decode cX6_runOn 9 = .ok (.iload_n 3, 1) := by decide +kernel
theorem dX6_runOn_10 : decode cX6_runOn 10 = .ok (.iconst 5, 1) := by decide +kernel
theorem dX6_runOn_11 : decode cX6_runOn 11 = .ok (.iadd, 1) := by decide +kernel
theorem dX6_runOn_12 : decode cX6_runOn 12 = .ok (.iaload, 1) := by decide +kernel
theorem dX6_runOn_13 : decode cX6_runOn 13 = .ok (.iload_n 2, 1) := by decide +kernel
theorem dX6_runOn_14 : decode cX6_runOn 14 = .ok (.iadd, 1) := by decide +kernel
theorem dX6_runOn_15 : decode cX6_runOn 15 = .ok (.istore 4, 2) := by decide +kernel
theorem dX6_runOn_17 : decode cX6_runOn 17 = .ok (.aload_n 0, 1) := by decide +kernel
theorem dX6_runOn_18 : decode cX6_runOn 18 = .ok (.getfield 19, 3) := by decide +kernel
theorem dX6_runOn_21 : decode cX6_runOn 21 = .ok (.iload_n 3, 1) := by decide +kernel
theorem dX6_runOn_22 : decode cX6_runOn 22 = .ok (.iconst 5, 1) := by decide +kernel
theorem dX6_runOn_23 : decode cX6_runOn 23 = .ok (.iadd, 1) := by decide +kernel
theorem dX6_runOn_24 : decode cX6_runOn 24 = .ok (.iload 4, 2) := by decide +kernel
theorem dX6_runOn_26 : decode cX6_runOn 26 = .ok (.bipush 9, 2) := by decide +kernel
theorem dX6_runOn_28 : decode cX6_runOn 28 = .ok (.if_icmp .le 8, 3) := by decide +kernel
theorem dX6_runOn_31 : decode cX6_runOn 31 = .ok (.bipush 9, 2) := by decide +kernel
theorem dX6_runOn_33 : decode cX6_runOn 33 = .ok (.goto 5, 3) := by decide +kernel
theorem dX6_runOn_36 : decode cX6_runOn 36 = .ok (.iload 4, 2) := by decide +kernel
theorem dX6_runOn_38 : decode cX6_runOn 38 = .ok (.iastore, 1) := by decide +kernel
theorem dX6_runOn_39 : decode cX6_runOn 39 = .ok (.aload_n 0, 1) := by decide +kernel
theorem dX6_runOn_40 : decode cX6_runOn 40 = .ok (.getfield 19, 3) := by decide +kernel
theorem dX6_runOn_43 : decode cX6_runOn 43 = .ok (.iload_n 3, 1) := by decide +kernel
theorem dX6_runOn_44 : decode cX6_runOn 44 = .ok (.bipush 6, 2) := by decide +kernel
theorem dX6_runOn_46 : decode cX6_runOn 46 = .ok (.iadd, 1) := by decide +kernel
theorem dX6_runOn_47 : decode cX6_runOn 47 = .ok (.bipush (-9), 2) := by decide +kernel
theorem dX6_runOn_49 : decode cX6_runOn 49 = .ok (.iastore, 1) := by decide +kernel
theorem dX6_runOn_50 : decode cX6_runOn 50 = .ok (.return_, 1) := by decide +kernel
theorem dX6_canLead_0 : decode cX6_canLead 0 = .ok (.aload_n 0, 1) := by decide +kernel
theorem dX6_canLead_1 : decode cX6_canLead 1 = .ok (.getfield 19, 3) := by decide +kernel
theorem dX6_canLead_4 : decode cX6_canLead 4 = .ok (.bipush 10, 2) := by decide +kernel
theorem dX6_canLead_6 : decode cX6_canLead 6 = .ok (.iload_n 1, 1) := by decide +kernel
theorem dX6_canLead_7 : decode cX6_canLead 7 = .ok (.imul, 1) := by decide +kernel
theorem dX6_canLead_8 : decode cX6_canLead 8 = .ok (.bipush 8, 2) := by decide +kernel
theorem dX6_canLead_10 : decode cX6_canLead 10 = .ok (.iadd, 1) := by decide +kernel
theorem dX6_canLead_11 : decode cX6_canLead 11 = .ok (.iaload, 1) := by decide +kernel
theorem dX6_canLead_12 : decode cX6_canLead 12 = .ok (.iconst 1, 1) := by decide +kernel
theorem dX6_canLead_13 : decode cX6_canLead 13 = .ok (.if_icmp .eq 17, 3) := by decide +kernel
theorem dX6_canLead_16 : decode cX6_canLead 16 = .ok (.aload_n 0, 1) := by decide +kernel
theorem dX6_canLead_17 : decode cX6_canLead 17 = .ok (.getfield 19, 3) := by decide +kernel
theorem dX6_canLead_20 : decode cX6_canLead 20 = .ok (.bipush 10, 2) := by decide +kernel
theorem dX6_canLead_22 : decode cX6_canLead 22 = .ok (.iload_n 1, 1) := by decide +kernel
theorem dX6_canLead_23 : decode cX6_canLead 23 = .ok (.imul, 1) := by decide +kernel
theorem dX6_canLead_24 : decode cX6_canLead 24 = .ok (.iconst 5, 1) := by decide +kernel
theorem dX6_canLead_25 : decode cX6_canLead 25 = .ok (.iadd, 1) := by decide +kernel
theorem dX6_canLead_26 : decode cX6_canLead 26 = .ok (.iaload, 1) := by decide +kernel
theorem dX6_canLead_27 : decode cX6_canLead 27 = .ok (.ifCond .ne 7, 3) := by decide +kernel
theorem dX6_canLead_30 : decode cX6_canLead 30 = .ok (.iconst 1, 1) := by decide +kernel
theorem dX6_canLead_31 : decode cX6_canLead 31 = .ok (.goto 4, 3) := by decide +kernel
theorem dX6_canLead_34 : decode cX6_canLead 34 = .ok (.iconst 0, 1) := by decide +kernel
theorem dX6_canLead_35 : decode cX6_canLead 35 = .ok (.ireturn, 1) := by decide +kernel
theorem dX6_leadOn_0 : decode cX6_leadOn 0 = .ok (.bipush 10, 2) := by decide +kernel
theorem dX6_leadOn_2 : decode cX6_leadOn 2 = .ok (.iload_n 1, 1) := by decide +kernel
theorem dX6_leadOn_3 : decode cX6_leadOn 3 = .ok (.imul, 1) := by decide +kernel
theorem dX6_leadOn_4 : decode cX6_leadOn 4 = .ok (.istore_n 2, 1) := by decide +kernel
theorem dX6_leadOn_5 : decode cX6_leadOn 5 = .ok (.aload_n 0, 1) := by decide +kernel
theorem dX6_leadOn_6 : decode cX6_leadOn 6 = .ok (.getfield 19, 3) := by decide +kernel
theorem dX6_leadOn_9 : decode cX6_leadOn 9 = .ok (.iload_n 2, 1) := by decide +kernel
theorem dX6_leadOn_10 : decode cX6_leadOn 10 = .ok (.bipush 6, 2) := by decide +kernel
theorem dX6_leadOn_12 : decode cX6_leadOn 12 = .ok (.iadd, 1) := by decide +kernel
theorem dX6_leadOn_13 : decode cX6_leadOn 13 = .ok (.iaload, 1) := by decide +kernel
theorem dX6_leadOn_14 : decode cX6_leadOn 14 = .ok (.istore_n 3, 1) := by decide +kernel
theorem dX6_leadOn_15 : decode cX6_leadOn 15 = .ok (.aload_n 0, 1) := by decide +kernel
theorem dX6_leadOn_16 : decode cX6_leadOn 16 = .ok (.getfield 19, 3) := by decide +kernel
theorem dX6_leadOn_19 : decode cX6_leadOn 19 = .ok (.iload_n 2, 1) := by decide +kernel
theorem dX6_leadOn_20 : decode cX6_leadOn 20 = .ok (.bipush 8, 2) := by decide +kernel
theorem dX6_leadOn_22 : decode cX6_leadOn 22 = .ok (.iadd, 1) := by decide +kernel
theorem dX6_leadOn_23 : decode cX6_leadOn 23 = .ok (.iaload, 1) := by decide +kernel
theorem dX6_leadOn_24 : decode cX6_leadOn 24 = .ok (.ifCond .ne 65, 3) := by decide +kernel
theorem dX6_leadOn_27 : decode cX6_leadOn 27 = .ok (.iload_n 3, 1) := by decide +kernel
theorem dX6_leadOn_28 : decode cX6_leadOn 28 = .ok (.bipush (-9), 2) := by decide +kernel
theorem dX6_leadOn_30 : decode cX6_leadOn 30 = .ok (.if_icmp .eq 59, 3) := by decide +kernel
theorem dX6_leadOn_33 : decode cX6_leadOn 33 = .ok (.aload_n 0, 1) := by decide +kernel
theorem dX6_leadOn_34 : decode cX6_leadOn 34 = .ok (.getfield 19, 3) := by decide +kernel
theorem dX6_leadOn_37 : decode cX6_leadOn 37 = .ok (.iload_n 2, 1) := by decide +kernel
theorem dX6_leadOn_38 : decode cX6_leadOn 38 = .ok (.iload_n 3, 1) := by decide +kernel
theorem dX6_leadOn_39 : decode cX6_leadOn 39 = .ok (.iadd, 1) := by decide +kernel
theorem dX6_leadOn_40 : decode cX6_leadOn 40 = .ok (.iaload, 1) := by decide +kernel
theorem dX6_leadOn_41 : decode cX6_leadOn 41 = .ok (.aload_n 0, 1) := by decide +kernel
theorem dX6_leadOn_42 : decode cX6_leadOn 42 = .ok (.getfield 7, 3) := by decide +kernel
theorem dX6_leadOn_45 : decode cX6_leadOn 45 = .ok (.iload_n 3, 1) := by decide +kernel
theorem dX6_leadOn_46 : decode cX6_leadOn 46 = .ok (.iaload, 1) := by decide +kernel
theorem dX6_leadOn_47 : decode cX6_leadOn 47 = .ok (.iconst 3, 1) := by decide +kernel
theorem dX6_leadOn_48 : decode cX6_leadOn 48 = .ok (.if_icmp .ne 7, 3) := by decide +kernel
theorem dX6_leadOn_51 : decode cX6_leadOn 51 = .ok (.iconst 1, 1) := by decide +kernel
theorem dX6_leadOn_52 : decode cX6_leadOn 52 = .ok (.goto 4, 3) := by decide +kernel
theorem dX6_leadOn_55 : decode cX6_leadOn 55 = .ok (.iconst 2, 1) := by decide +kernel
theorem dX6_leadOn_56 : decode cX6_leadOn 56 = .ok (.isub, 1) := by decide +kernel
theorem dX6_leadOn_57 : decode cX6_leadOn 57 = .ok (.istore 4, 2) := by decide +kernel
theorem dX6_leadOn_59 : decode cX6_leadOn 59 = .ok (.aload_n 0, 1) := by decide +kernel
theorem dX6_leadOn_60 : decode cX6_leadOn 60 = .ok (.getfield 19, 3) := by decide +kernel
theorem dX6_leadOn_63 : decode cX6_leadOn 63 = .ok (.iload_n 2, 1) := by decide +kernel
theorem dX6_leadOn_64 : decode cX6_leadOn 64 = .ok (.iload_n 3, 1) := by decide +kernel
theorem dX6_leadOn_65 : decode cX6_leadOn 65 = .ok (.iadd, 1) := by decide +kernel
theorem dX6_leadOn_66 : decode cX6_leadOn 66 = .ok (.iload 4, 2) := by decide +kernel
theorem dX6_leadOn_68 : decode cX6_leadOn 68 = .ok (.ifCond .ge 7, 3) := by decide +kernel
theorem dX6_leadOn_71 : decode cX6_leadOn 71 = .ok (.iconst 0, 1) := by decide +kernel
theorem dX6_leadOn_72 : decode cX6_leadOn 72 = .ok (.goto 5, 3) := by decide +kernel
theorem dX6_leadOn_75 : decode cX6_leadOn 75 = .ok (.iload 4, 2) := by decide +kernel
theorem dX6_leadOn_77 : decode cX6_leadOn 77 = .ok (.iastore, 1) := by decide +kernel
theorem dX6_leadOn_78 : decode cX6_leadOn 78 = .ok (.aload_n 0, 1) := by decide +kernel
theorem dX6_leadOn_79 : decode cX6_leadOn 79 = .ok (.getfield 19, 3) := by decide +kernel
theorem dX6_leadOn_82 : decode cX6_leadOn 82 = .ok (.iload_n 2, 1) := by decide +kernel
theorem dX6_leadOn_83 : decode cX6_leadOn 83 = .ok (.bipush 6, 2) := by decide +kernel
theorem dX6_leadOn_85 : decode cX6_leadOn 85 = .ok (.iadd, 1) := by decide +kernel
theorem dX6_leadOn_86 : decode cX6_leadOn 86 = .ok (.bipush (-9), 2) := by decide +kernel
theorem dX6_leadOn_88 : decode cX6_leadOn 88 = .ok (.iastore, 1) := by decide +kernel
theorem dX6_leadOn_89 : decode cX6_leadOn 89 = .ok (.aload_n 0, 1) := by decide +kernel
theorem dX6_leadOn_90 : decode cX6_leadOn 90 = .ok (.getfield 19, 3) := by decide +kernel
theorem dX6_leadOn_93 : decode cX6_leadOn 93 = .ok (.iload_n 2, 1) := by decide +kernel
theorem dX6_leadOn_94 : decode cX6_leadOn 94 = .ok (.bipush 8, 2) := by decide +kernel
theorem dX6_leadOn_96 : decode cX6_leadOn 96 = .ok (.iadd, 1) := by decide +kernel
theorem dX6_leadOn_97 : decode cX6_leadOn 97 = .ok (.iconst 1, 1) := by decide +kernel
theorem dX6_leadOn_98 : decode cX6_leadOn 98 = .ok (.aload_n 0, 1) := by decide +kernel
theorem dX6_leadOn_99 : decode cX6_leadOn 99 = .ok (.getfield 19, 3) := by decide +kernel
theorem dX6_leadOn_102 : decode cX6_leadOn 102 = .ok (.iload_n 2, 1) := by decide +kernel
theorem dX6_leadOn_103 : decode cX6_leadOn 103 = .ok (.bipush 8, 2) := by decide +kernel
theorem dX6_leadOn_105 : decode cX6_leadOn 105 = .ok (.iadd, 1) := by decide +kernel
theorem dX6_leadOn_106 : decode cX6_leadOn 106 = .ok (.iaload, 1) := by decide +kernel
theorem dX6_leadOn_107 : decode cX6_leadOn 107 = .ok (.isub, 1) := by decide +kernel
theorem dX6_leadOn_108 : decode cX6_leadOn 108 = .ok (.iastore, 1) := by decide +kernel
theorem dX6_leadOn_109 : decode cX6_leadOn 109 = .ok (.return_, 1) := by decide +kernel
theorem dX6_keepAct_0 : decode cX6_keepAct 0 = .ok (.iconst 0, 1) := by decide +kernel
theorem dX6_keepAct_1 : decode cX6_keepAct 1 = .ok (.istore_n 1, 1) := by decide +kernel
theorem dX6_keepAct_2 : decode cX6_keepAct 2 = .ok (.iload_n 1, 1) := by decide +kernel
theorem dX6_keepAct_3 : decode cX6_keepAct 3 = .ok (.bipush 10, 2) := by decide +kernel
theorem dX6_keepAct_5 : decode cX6_keepAct 5 = .ok (.if_icmp .ge 29, 3) := by decide +kernel
theorem dX6_keepAct_8 : decode cX6_keepAct 8 = .ok (.aload_n 0, 1) := by decide +kernel
theorem dX6_keepAct_9 : decode cX6_keepAct 9 = .ok (.getfield 31, 3) := by decide +kernel
theorem dX6_keepAct_12 : decode cX6_keepAct 12 = .ok (.bipush 10, 2) := by decide +kernel
theorem dX6_keepAct_14 : decode cX6_keepAct 14 = .ok (.aload_n 0, 1) := by decide +kernel
theorem dX6_keepAct_15 : decode cX6_keepAct 15 = .ok (.getfield 120, 3) := by decide +kernel
theorem dX6_keepAct_18 : decode cX6_keepAct 18 = .ok (.imul, 1) := by decide +kernel
theorem dX6_keepAct_19 : decode cX6_keepAct 19 = .ok (.iload_n 1, 1) := by decide +kernel
theorem dX6_keepAct_20 : decode cX6_keepAct 20 = .ok (.iadd, 1) := by decide +kernel
theorem dX6_keepAct_21 : decode cX6_keepAct 21 = .ok (.aload_n 0, 1) := by decide +kernel
theorem dX6_keepAct_22 : decode cX6_keepAct 22 = .ok (.getfield 19, 3) := by decide +kernel
theorem dX6_keepAct_25 : decode cX6_keepAct 25 = .ok (.iload_n 1, 1) := by decide +kernel
theorem dX6_keepAct_26 : decode cX6_keepAct 26 = .ok (.iaload, 1) := by decide +kernel
theorem dX6_keepAct_27 : decode cX6_keepAct 27 = .ok (.iastore, 1) := by decide +kernel
theorem dX6_keepAct_28 : decode cX6_keepAct 28 = .ok (.iinc 1 1, 3) := by decide +kernel
theorem dX6_keepAct_31 : decode cX6_keepAct 31 = .ok (.goto (-29), 3) := by decide +kernel
theorem dX6_keepAct_34 : decode cX6_keepAct 34 = .ok (.aload_n 0, 1) := by decide +kernel
theorem dX6_keepAct_35 : decode cX6_keepAct 35 = .ok (.aload_n 0, 1) := by decide +kernel
theorem dX6_keepAct_36 : decode cX6_keepAct 36 = .ok (.getfield 120, 3) := by decide +kernel
theorem dX6_keepAct_39 : decode cX6_keepAct 39 = .ok (.iconst 1, 1) := by decide +kernel
theorem dX6_keepAct_40 : decode cX6_keepAct 40 = .ok (.iadd, 1) := by decide +kernel
theorem dX6_keepAct_41 : decode cX6_keepAct 41 = .ok (.bipush 14, 2) := by decide +kernel
theorem dX6_keepAct_43 : decode cX6_keepAct 43 = .ok (.irem, 1) := by decide +kernel
theorem dX6_keepAct_44 : decode cX6_keepAct 44 = .ok (.putfield 120, 3) := by decide +kernel
theorem dX6_keepAct_47 : decode cX6_keepAct 47 = .ok (.aload_n 0, 1) := by decide +kernel
theorem dX6_keepAct_48 : decode cX6_keepAct 48 = .ok (.aload_n 0, 1) := by decide +kernel
theorem dX6_keepAct_49 : decode cX6_keepAct 49 = .ok (.getfield 86, 3) := by decide +kernel
theorem dX6_keepAct_52 : decode cX6_keepAct 52 = .ok (.bipush 14, 2) := by decide +kernel
theorem dX6_keepAct_54 : decode cX6_keepAct 54 = .ok (.if_icmp .ge 12, 3) := by decide +kernel
theorem dX6_keepAct_57 : decode cX6_keepAct 57 = .ok (.aload_n 0, 1) := by decide +kernel
theorem dX6_keepAct_58 : decode cX6_keepAct 58 = .ok (.getfield 86, 3) := by decide +kernel
theorem dX6_keepAct_61 : decode cX6_keepAct 61 = .ok (.iconst 1, 1) := by decide +kernel
theorem dX6_keepAct_62 : decode cX6_keepAct 62 = .ok (.iadd, 1) := by decide +kernel
theorem dX6_keepAct_63 : decode cX6_keepAct 63 = .ok (.goto 5, 3) := by decide +kernel
theorem dX6_keepAct_66 : decode cX6_keepAct 66 = .ok (.bipush 14, 2) := by decide +kernel
theorem dX6_keepAct_68 : decode cX6_keepAct 68 = .ok (.putfield 86, 3) := by decide +kernel
theorem dX6_keepAct_71 : decode cX6_keepAct 71 = .ok (.return_, 1) := by decide +kernel
theorem dX6_call_0 : decode cX6_call 0 = .ok (.aload_n 0, 1) := by decide +kernel
theorem dX6_call_1 : decode cX6_call 1 = .ok (.iload_n 1, 1) := by decide +kernel
theorem dX6_call_2 : decode cX6_call 2 = .ok (.invokevirtual 107, 3) := by decide +kernel
theorem dX6_call_5 : decode cX6_call 5 = .ok (.ifCond .ne 5, 3) := by decide +kernel
theorem dX6_call_8 : decode cX6_call 8 = .ok (.iconst (-1), 1) := by decide +kernel
theorem dX6_call_9 : decode cX6_call 9 = .ok (.ireturn, 1) := by decide +kernel
theorem dX6_call_10 : decode cX6_call 10 = .ok (.aload_n 0, 1) := by decide +kernel
theorem dX6_call_11 : decode cX6_call 11 = .ok (.getfield 19, 3) := by decide +kernel
theorem dX6_call_14 : decode cX6_call 14 = .ok (.bipush 8, 2) := by decide +kernel
theorem dX6_call_16 : decode cX6_call 16 = .ok (.iaload, 1) := by decide +kernel
theorem dX6_call_17 : decode cX6_call 17 = .ok (.iconst 1, 1) := by decide +kernel
theorem dX6_call_18 : decode cX6_call 18 = .ok (.if_icmp .ne 6, 3) := by decide +kernel
theorem dX6_call_21 : decode cX6_call 21 = .ok (.bipush (-3), 2) := by decide +kernel
theorem dX6_call_23 : decode cX6_call 23 = .ok (.ireturn, 1) := by decide +kernel
theorem dX6_call_24 : decode cX6_call 24 = .ok (.aload_n 0, 1) := by decide +kernel
theorem dX6_call_25 : decode cX6_call 25 = .ok (.invokevirtual 123, 3) := by decide +kernel
theorem dX6_call_28 : decode cX6_call 28 = .ok (.aload_n 0, 1) := by decide +kernel
theorem dX6_call_29 : decode cX6_call 29 = .ok (.iconst 0, 1) := by decide +kernel
theorem dX6_call_30 : decode cX6_call 30 = .ok (.iload_n 1, 1) := by decide +kernel
theorem dX6_call_31 : decode cX6_call 31 = .ok (.invokevirtual 126, 3) := by decide +kernel
theorem dX6_call_34 : decode cX6_call 34 = .ok (.ifCond .eq 7, 3) := by decide +kernel
theorem dX6_call_37 : decode cX6_call 37 = .ok (.iconst 1, 1) := by decide +kernel
theorem dX6_call_38 : decode cX6_call 38 = .ok (.goto 4, 3) := by decide +kernel
theorem dX6_call_41 : decode cX6_call 41 = .ok (.iconst 0, 1) := by decide +kernel
theorem dX6_call_42 : decode cX6_call 42 = .ok (.ireturn, 1) := by decide +kernel
theorem dX6_pay_0 : decode cX6_pay 0 = .ok (.aload_n 0, 1) := by decide +kernel
theorem dX6_pay_1 : decode cX6_pay 1 = .ok (.iconst 0, 1) := by decide +kernel
theorem dX6_pay_2 : decode cX6_pay 2 = .ok (.invokevirtual 129, 3) := by decide +kernel
theorem dX6_pay_5 : decode cX6_pay 5 = .ok (.ifCond .ne 6, 3) := by decide +kernel
theorem dX6_pay_8 : decode cX6_pay 8 = .ok (.bipush (-3), 2) := by decide +kernel
theorem dX6_pay_10 : decode cX6_pay 10 = .ok (.ireturn, 1) := by decide +kernel
theorem dX6_pay_11 : decode cX6_pay 11 = .ok (.aload_n 0, 1) := by decide +kernel
theorem dX6_pay_12 : decode cX6_pay 12 = .ok (.invokevirtual 123, 3) := by decide +kernel
theorem dX6_pay_15 : decode cX6_pay 15 = .ok (.aload_n 0, 1) := by decide +kernel
theorem dX6_pay_16 : decode cX6_pay 16 = .ok (.iconst 0, 1) := by decide +kernel
theorem dX6_pay_17 : decode cX6_pay 17 = .ok (.invokevirtual 132, 3) := by decide +kernel
theorem dX6_pay_20 : decode cX6_pay 20 = .ok (.ireturn, 1) := by decide +kernel
theorem dX6_run_0 : decode cX6_run 0 = .ok (.iload_n 1, 1) := by decide +kernel
theorem dX6_run_1 : decode cX6_run 1 = .ok (.i2l, 1) := by decide +kernel
theorem dX6_run_2 : decode cX6_run 2 = .ok (.lconst 1, 1) := by decide +kernel
theorem dX6_run_3 : decode cX6_run 3 = .ok (.ldc2_w 118, 3) := by decide +kernel
theorem dX6_run_6 : decode cX6_run 6 = .ok (.invokestatic 52, 3) := by decide +kernel
theorem dX6_run_9 : decode cX6_run 9 = .ok (.ifCond .ne 6, 3) := by decide +kernel
theorem dX6_run_12 : decode cX6_run 12 = .ok (.bipush (-2), 2) := by decide +kernel
theorem dX6_run_14 : decode cX6_run 14 = .ok (.ireturn, 1) := by decide +kernel
theorem dX6_run_15 : decode cX6_run 15 = .ok (.aload_n 0, 1) := by decide +kernel
theorem dX6_run_16 : decode cX6_run 16 = .ok (.getfield 19, 3) := by decide +kernel
theorem dX6_run_19 : decode cX6_run 19 = .ok (.bipush 8, 2) := by decide +kernel
theorem dX6_run_21 : decode cX6_run 21 = .ok (.iaload, 1) := by decide +kernel
theorem dX6_run_22 : decode cX6_run 22 = .ok (.iconst 1, 1) := by decide +kernel
theorem dX6_run_23 : decode cX6_run 23 = .ok (.if_icmp .ne 6, 3) := by decide +kernel
theorem dX6_run_26 : decode cX6_run 26 = .ok (.bipush (-3), 2) := by decide +kernel
theorem dX6_run_28 : decode cX6_run 28 = .ok (.ireturn, 1) := by decide +kernel
theorem dX6_run_29 : decode cX6_run 29 = .ok (.aload_n 0, 1) := by decide +kernel
theorem dX6_run_30 : decode cX6_run 30 = .ok (.invokevirtual 123, 3) := by decide +kernel
theorem dX6_run_33 : decode cX6_run 33 = .ok (.aload_n 0, 1) := by decide +kernel
theorem dX6_run_34 : decode cX6_run 34 = .ok (.iconst 0, 1) := by decide +kernel
theorem dX6_run_35 : decode cX6_run 35 = .ok (.iload_n 1, 1) := by decide +kernel
theorem dX6_run_36 : decode cX6_run 36 = .ok (.invokevirtual 135, 3) := by decide +kernel
theorem dX6_run_39 : decode cX6_run 39 = .ok (.aload_n 0, 1) := by decide +kernel
theorem dX6_run_40 : decode cX6_run 40 = .ok (.getfield 19, 3) := by decide +kernel
theorem dX6_run_43 : decode cX6_run 43 = .ok (.iconst 5, 1) := by decide +kernel
theorem dX6_run_44 : decode cX6_run 44 = .ok (.iaload, 1) := by decide +kernel
theorem dX6_run_45 : decode cX6_run 45 = .ok (.ireturn, 1) := by decide +kernel
theorem dX6_lead_0 : decode cX6_lead 0 = .ok (.aload_n 0, 1) := by decide +kernel
theorem dX6_lead_1 : decode cX6_lead 1 = .ok (.iconst 0, 1) := by decide +kernel
theorem dX6_lead_2 : decode cX6_lead 2 = .ok (.invokevirtual 139, 3) := by decide +kernel
theorem dX6_lead_5 : decode cX6_lead 5 = .ok (.ifCond .ne 6, 3) := by decide +kernel
theorem dX6_lead_8 : decode cX6_lead 8 = .ok (.bipush (-3), 2) := by decide +kernel
theorem dX6_lead_10 : decode cX6_lead 10 = .ok (.ireturn, 1) := by decide +kernel
theorem dX6_lead_11 : decode cX6_lead 11 = .ok (.aload_n 0, 1) := by decide +kernel
theorem dX6_lead_12 : decode cX6_lead 12 = .ok (.invokevirtual 123, 3) := by decide +kernel
theorem dX6_lead_15 : decode cX6_lead 15 = .ok (.aload_n 0, 1) := by decide +kernel
theorem dX6_lead_16 : decode cX6_lead 16 = .ok (.iconst 0, 1) := by decide +kernel
theorem dX6_lead_17 : decode cX6_lead 17 = .ok (.invokevirtual 142, 3) := by decide +kernel
theorem dX6_lead_20 : decode cX6_lead 20 = .ok (.aload_n 0, 1) := by decide +kernel
theorem dX6_lead_21 : decode cX6_lead 21 = .ok (.getfield 19, 3) := by decide +kernel
theorem dX6_lead_24 : decode cX6_lead 24 = .ok (.bipush 8, 2) := by decide +kernel
theorem dX6_lead_26 : decode cX6_lead 26 = .ok (.iaload, 1) := by decide +kernel
theorem dX6_lead_27 : decode cX6_lead 27 = .ok (.ireturn, 1) := by decide +kernel
theorem dX6_hunger_0 : decode cX6_hunger 0 = .ok (.aload_n 0, 1) := by decide +kernel
theorem dX6_hunger_1 : decode cX6_hunger 1 = .ok (.invokevirtual 123, 3) := by decide +kernel
theorem dX6_hunger_4 : decode cX6_hunger 4 = .ok (.aload_n 0, 1) := by decide +kernel
theorem dX6_hunger_5 : decode cX6_hunger 5 = .ok (.getfield 19, 3) := by decide +kernel
theorem dX6_hunger_8 : decode cX6_hunger 8 = .ok (.bipush 7, 2) := by decide +kernel
theorem dX6_hunger_10 : decode cX6_hunger 10 = .ok (.iconst 1, 1) := by decide +kernel
theorem dX6_hunger_11 : decode cX6_hunger 11 = .ok (.aload_n 0, 1) := by decide +kernel
theorem dX6_hunger_12 : decode cX6_hunger 12 = .ok (.getfield 19, 3) := by decide +kernel
theorem dX6_hunger_15 : decode cX6_hunger 15 = .ok (.bipush 7, 2) := by decide +kernel
theorem dX6_hunger_17 : decode cX6_hunger 17 = .ok (.iaload, 1) := by decide +kernel
theorem dX6_hunger_18 : decode cX6_hunger 18 = .ok (.isub, 1) := by decide +kernel
theorem dX6_hunger_19 : decode cX6_hunger 19 = .ok (.iastore, 1) := by decide +kernel
theorem dX6_hunger_20 : decode cX6_hunger 20 = .ok (.aload_n 0, 1) := by decide +kernel
theorem dX6_hunger_21 : decode cX6_hunger 21 = .ok (.getfield 19, 3) := by decide +kernel
theorem dX6_hunger_24 : decode cX6_hunger 24 = .ok (.bipush 7, 2) := by decide +kernel
theorem dX6_hunger_26 : decode cX6_hunger 26 = .ok (.iaload, 1) := by decide +kernel
theorem dX6_hunger_27 : decode cX6_hunger 27 = .ok (.ireturn, 1) := by decide +kernel
theorem dX6_undo_0 : decode cX6_undo 0 = .ok (.aload_n 0, 1) := by decide +kernel
theorem dX6_undo_1 : decode cX6_undo 1 = .ok (.getfield 86, 3) := by decide +kernel
theorem dX6_undo_4 : decode cX6_undo 4 = .ok (.ifCond .ne 6, 3) := by decide +kernel
theorem dX6_undo_7 : decode cX6_undo 7 = .ok (.bipush (-3), 2) := by decide +kernel
theorem dX6_undo_9 : decode cX6_undo 9 = .ok (.ireturn, 1) := by decide +kernel
theorem dX6_undo_10 : decode cX6_undo 10 = .ok (.aload_n 0, 1) := by decide +kernel
theorem dX6_undo_11 : decode cX6_undo 11 = .ok (.dup, 1) := by decide +kernel
theorem dX6_undo_12 : decode cX6_undo 12 = .ok (.getfield 86, 3) := by decide +kernel
theorem dX6_undo_15 : decode cX6_undo 15 = .ok (.iconst 1, 1) := by decide +kernel
theorem dX6_undo_16 : decode cX6_undo 16 = .ok (.isub, 1) := by decide +kernel
theorem dX6_undo_17 : decode cX6_undo 17 = .ok (.putfield 86, 3) := by decide +kernel
theorem dX6_undo_20 : decode cX6_undo 20 = .ok (.aload_n 0, 1) := by decide +kernel
theorem dX6_undo_21 : decode cX6_undo 21 = .ok (.aload_n 0, 1) := by decide +kernel
theorem dX6_undo_22 : decode cX6_undo 22 = .ok (.getfield 120, 3) := by decide +kernel
theorem dX6_undo_25 : decode cX6_undo 25 = .ok (.bipush 13, 2) := by decide +kernel
theorem dX6_undo_27 : decode cX6_undo 27 = .ok (.iadd, 1) := by decide +kernel
theorem dX6_undo_28 : decode cX6_undo 28 = .ok (.bipush 14, 2) := by decide +kernel
theorem dX6_undo_30 : decode cX6_undo 30 = .ok (.irem, 1) := by decide +kernel
theorem dX6_undo_31 : decode cX6_undo 31 = .ok (.putfield 120, 3) := by decide +kernel
theorem dX6_undo_34 : decode cX6_undo 34 = .ok (.iconst 0, 1) := by decide +kernel
theorem dX6_undo_35 : decode cX6_undo 35 = .ok (.istore_n 1, 1) := by decide +kernel
theorem dX6_undo_36 : decode cX6_undo 36 = .ok (.iload_n 1, 1) := by decide +kernel
theorem dX6_undo_37 : decode cX6_undo 37 = .ok (.bipush 10, 2) := by decide +kernel
theorem dX6_undo_39 : decode cX6_undo 39 = .ok (.if_icmp .ge 29, 3) := by decide +kernel
theorem dX6_undo_42 : decode cX6_undo 42 = .ok (.aload_n 0, 1) := by decide +kernel
theorem dX6_undo_43 : decode cX6_undo 43 = .ok (.getfield 19, 3) := by decide +kernel
theorem dX6_undo_46 : decode cX6_undo 46 = .ok (.iload_n 1, 1) := by decide +kernel
theorem dX6_undo_47 : decode cX6_undo 47 = .ok (.aload_n 0, 1) := by decide +kernel
theorem dX6_undo_48 : decode cX6_undo 48 = .ok (.getfield 31, 3) := by decide +kernel
theorem dX6_undo_51 : decode cX6_undo 51 = .ok (.bipush 10, 2) := by decide +kernel
theorem dX6_undo_53 : decode cX6_undo 53 = .ok (.aload_n 0, 1) := by decide +kernel
theorem dX6_undo_54 : decode cX6_undo 54 = .ok (.getfield 120, 3) := by decide +kernel
theorem dX6_undo_57 : decode cX6_undo 57 = .ok (.imul, 1) := by decide +kernel
theorem dX6_undo_58 : decode cX6_undo 58 = .ok (.iload_n 1, 1) := by decide +kernel
theorem dX6_undo_59 : decode cX6_undo 59 = .ok (.iadd, 1) := by decide +kernel
theorem dX6_undo_60 : decode cX6_undo 60 = .ok (.iaload, 1) := by decide +kernel
theorem dX6_undo_61 : decode cX6_undo 61 = .ok (.iastore, 1) := by decide +kernel
theorem dX6_undo_62 : decode cX6_undo 62 = .ok (.iinc 1 1, 3) := by decide +kernel
theorem dX6_undo_65 : decode cX6_undo 65 = .ok (.goto (-29), 3) := by decide +kernel
theorem dX6_undo_68 : decode cX6_undo 68 = .ok (.aload_n 0, 1) := by decide +kernel
theorem dX6_undo_69 : decode cX6_undo 69 = .ok (.getfield 86, 3) := by decide +kernel
theorem dX6_undo_72 : decode cX6_undo 72 = .ok (.ireturn, 1) := by decide +kernel
theorem dX6_comes_0 : decode cX6_comes 0 = .ok (.aload_n 0, 1) := by decide +kernel
theorem dX6_comes_1 : decode cX6_comes 1 = .ok (.iload_n 1, 1) := by decide +kernel
theorem dX6_comes_2 : decode cX6_comes 2 = .ok (.invokevirtual 107, 3) := by decide +kernel
theorem dX6_comes_5 : decode cX6_comes 5 = .ok (.ifCond .ne 5, 3) := by decide +kernel
theorem dX6_comes_8 : decode cX6_comes 8 = .ok (.iconst (-1), 1) := by decide +kernel
theorem dX6_comes_9 : decode cX6_comes 9 = .ok (.ireturn, 1) := by decide +kernel
theorem dX6_comes_10 : decode cX6_comes 10 = .ok (.iload_n 2, 1) := by decide +kernel
theorem dX6_comes_11 : decode cX6_comes 11 = .ok (.i2l, 1) := by decide +kernel
theorem dX6_comes_12 : decode cX6_comes 12 = .ok (.lconst 0, 1) := by decide +kernel
theorem dX6_comes_13 : decode cX6_comes 13 = .ok (.ldc2_w 118, 3) := by decide +kernel
theorem dX6_comes_16 : decode cX6_comes 16 = .ok (.invokestatic 52, 3) := by decide +kernel
theorem dX6_comes_19 : decode cX6_comes 19 = .ok (.ifCond .ne 8, 3) := by decide +kernel
theorem dX6_comes_22 : decode cX6_comes 22 = .ok (.bipush (-2), 2) := by decide +kernel
theorem dX6_comes_24 : decode cX6_comes 24 = .ok (.goto 17, 3) := by decide +kernel
theorem dX6_comes_27 : decode cX6_comes 27 = .ok (.aload_n 0, 1) := by decide +kernel
theorem dX6_comes_28 : decode cX6_comes 28 = .ok (.iload_n 1, 1) := by decide +kernel
theorem dX6_comes_29 : decode cX6_comes 29 = .ok (.iload_n 2, 1) := by decide +kernel
theorem dX6_comes_30 : decode cX6_comes 30 = .ok (.invokevirtual 104, 3) := by decide +kernel
theorem dX6_comes_33 : decode cX6_comes 33 = .ok (.ifCond .eq 7, 3) := by decide +kernel
theorem dX6_comes_36 : decode cX6_comes 36 = .ok (.iconst 1, 1) := by decide +kernel
theorem dX6_comes_37 : decode cX6_comes 37 = .ok (.goto 4, 3) := by decide +kernel
theorem dX6_comes_40 : decode cX6_comes 40 = .ok (.iconst 0, 1) := by decide +kernel
theorem dX6_comes_41 : decode cX6_comes 41 = .ok (.ireturn, 1) := by decide +kernel
theorem dX6_best_0 : decode cX6_best 0 = .ok (.iload_n 1, 1) := by decide +kernel
theorem dX6_best_1 : decode cX6_best 1 = .ok (.i2l, 1) := by decide +kernel
theorem dX6_best_2 : decode cX6_best 2 = .ok (.lconst 0, 1) := by decide +kernel
theorem dX6_best_3 : decode cX6_best 3 = .ok (.ldc2_w 118, 3) := by decide +kernel
theorem dX6_best_6 : decode cX6_best 6 = .ok (.invokestatic 52, 3) := by decide +kernel
theorem dX6_best_9 : decode cX6_best 9 = .ok (.ifCond .ne 6, 3) := by decide +kernel
theorem dX6_best_12 : decode cX6_best 12 = .ok (.bipush (-2), 2) := by decide +kernel
theorem dX6_best_14 : decode cX6_best 14 = .ok (.ireturn, 1) := by decide +kernel
theorem dX6_best_15 : decode cX6_best 15 = .ok (.bipush (-9), 2) := by decide +kernel
theorem dX6_best_17 : decode cX6_best 17 = .ok (.istore_n 2, 1) := by decide +kernel
theorem dX6_best_18 : decode cX6_best 18 = .ok (.iconst 0, 1) := by decide +kernel
theorem dX6_best_19 : decode cX6_best 19 = .ok (.istore_n 3, 1) := by decide +kernel
theorem dX6_best_20 : decode cX6_best 20 = .ok (.iload_n 3, 1) := by decide +kernel
theorem dX6_best_21 : decode cX6_best 21 = .ok (.aload_n 0, 1) := by decide +kernel
theorem dX6_best_22 : decode cX6_best 22 = .ok (.getfield 80, 3) := by decide +kernel
theorem dX6_best_25 : decode cX6_best 25 = .ok (.if_icmp .ge 69, 3) := by decide +kernel
theorem dX6_best_28 : decode cX6_best 28 = .ok (.iload_n 2, 1) := by decide +kernel
theorem dX6_best_29 : decode cX6_best 29 = .ok (.bipush (-9), 2) := by decide +kernel
theorem dX6_best_31 : decode cX6_best 31 = .ok (.if_icmp .eq 30, 3) := by decide +kernel
theorem dX6_best_34 : decode cX6_best 34 = .ok (.aload_n 0, 1) := by decide +kernel
theorem dX6_best_35 : decode cX6_best 35 = .ok (.aload_n 0, 1) := by decide +kernel
theorem dX6_best_36 : decode cX6_best 36 = .ok (.getfield 19, 3) := by decide +kernel
theorem dX6_best_39 : decode cX6_best 39 = .ok (.iload_n 3, 1) := by decide +kernel
theorem dX6_best_40 : decode cX6_best 40 = .ok (.iaload, 1) := by decide +kernel
theorem dX6_best_41 : decode cX6_best 41 = .ok (.iload_n 3, 1) := by decide +kernel
theorem dX6_best_42 : decode cX6_best 42 = .ok (.iload_n 1, 1) := by decide +kernel
theorem dX6_best_43 : decode cX6_best 43 = .ok (.invokevirtual 93, 3) := by decide +kernel
theorem dX6_best_46 : decode cX6_best 46 = .ok (.aload_n 0, 1) := by decide +kernel
theorem dX6_best_47 : decode cX6_best 47 = .ok (.aload_n 0, 1) := by decide +kernel
theorem dX6_best_48 : decode cX6_best 48 = .ok (.getfield 19, 3) := by decide +kernel
theorem dX6_best_51 : decode cX6_best 51 = .ok (.iload_n 2, 1) := by decide +kernel
theorem dX6_best_52 : decode cX6_best 52 = .ok (.iaload, 1) := by decide +kernel
theorem dX6_best_53 : decode cX6_best 53 = .ok (.iload_n 2, 1) := by decide +kernel
theorem dX6_best_54 : decode cX6_best 54 = .ok (.iload_n 1, 1) := by decide +kernel
theorem dX6_best_55 : decode cX6_best 55 = .ok (.invokevirtual 93, 3) := by decide +kernel
theorem dX6_best_58 : decode cX6_best 58 = .ok (.if_icmp .le 7, 3) := by decide +kernel
theorem dX6_best_61 : decode cX6_best 61 = .ok (.iconst 1, 1) := by decide +kernel
theorem dX6_best_62 : decode cX6_best 62 = .ok (.goto 4, 3) := by decide +kernel
theorem dX6_best_65 : decode cX6_best 65 = .ok (.iconst 0, 1) := by decide +kernel
theorem dX6_best_66 : decode cX6_best 66 = .ok (.istore 4, 2) := by decide +kernel
theorem dX6_best_68 : decode cX6_best 68 = .ok (.aload_n 0, 1) := by decide +kernel
theorem dX6_best_69 : decode cX6_best 69 = .ok (.iload_n 3, 1) := by decide +kernel
theorem dX6_best_70 : decode cX6_best 70 = .ok (.iload_n 1, 1) := by decide +kernel
theorem dX6_best_71 : decode cX6_best 71 = .ok (.invokevirtual 104, 3) := by decide +kernel
theorem dX6_best_74 : decode cX6_best 74 = .ok (.ifCond .eq 12, 3) := by decide +kernel
theorem dX6_best_77 : decode cX6_best 77 = .ok (.iload 4, 2) := by decide +kernel
theorem dX6_best_79 : decode cX6_best 79 = .ok (.ifCond .eq 7, 3) := by decide +kernel
theorem dX6_best_82 : decode cX6_best 82 = .ok (.iload_n 3, 1) := by decide +kernel
theorem dX6_best_83 : decode cX6_best 83 = .ok (.goto 4, 3) := by decide +kernel
theorem dX6_best_86 : decode cX6_best 86 = .ok (.iload_n 2, 1) := by decide +kernel
theorem dX6_best_87 : decode cX6_best 87 = .ok (.istore_n 2, 1) := by decide +kernel
theorem dX6_best_88 : decode cX6_best 88 = .ok (.iinc 3 1, 3) := by decide +kernel
theorem dX6_best_91 : decode cX6_best 91 = .ok (.goto (-71), 3) := by decide +kernel
theorem dX6_best_94 : decode cX6_best 94 = .ok (.iload_n 2, 1) := by decide +kernel
theorem dX6_best_95 : decode cX6_best 95 = .ok (.ireturn, 1) := by decide +kernel
theorem dX6_layTrial_0 : decode cX6_layTrial 0 = .ok (.iconst 0, 1) := by decide +kernel
theorem dX6_layTrial_1 : decode cX6_layTrial 1 = .ok (.istore_n 1, 1) := by decide +kernel
theorem dX6_layTrial_2 : decode cX6_layTrial 2 = .ok (.iload_n 1, 1) := by decide +kernel
theorem dX6_layTrial_3 : decode cX6_layTrial 3 = .ok (.bipush 10, 2) := by decide +kernel
theorem dX6_layTrial_5 : decode cX6_layTrial 5 = .ok (.if_icmp .ge 24, 3) := by decide +kernel
theorem dX6_layTrial_8 : decode cX6_layTrial 8 = .ok (.aload_n 0, 1) := by decide +kernel
theorem dX6_layTrial_9 : decode cX6_layTrial 9 = .ok (.getfield 19, 3) := by decide +kernel
theorem dX6_layTrial_12 : decode cX6_layTrial 12 = .ok (.bipush 10, 2) := by decide +kernel
theorem dX6_layTrial_14 : decode cX6_layTrial 14 = .ok (.iload_n 1, 1) := by decide +kernel
theorem dX6_layTrial_15 : decode cX6_layTrial 15 = .ok (.iadd, 1) := by decide +kernel
theorem dX6_layTrial_16 : decode cX6_layTrial 16 = .ok (.aload_n 0, 1) := by decide +kernel
theorem dX6_layTrial_17 : decode cX6_layTrial 17 = .ok (.getfield 19, 3) := by decide +kernel
theorem dX6_layTrial_20 : decode cX6_layTrial 20 = .ok (.iload_n 1, 1) := by decide +kernel
theorem dX6_layTrial_21 : decode cX6_layTrial 21 = .ok (.iaload, 1) := by decide +kernel
theorem dX6_layTrial_22 : decode cX6_layTrial 22 = .ok (.iastore, 1) := by decide +kernel
theorem dX6_layTrial_23 : decode cX6_layTrial 23 = .ok (.iinc 1 1, 3) := by decide +kernel
theorem dX6_layTrial_26 : decode cX6_layTrial 26 = .ok (.goto (-24), 3) := by decide +kernel
theorem dX6_layTrial_29 : decode cX6_layTrial 29 = .ok (.return_, 1) := by decide +kernel
theorem dX6_tenTo_0 : decode cX6_tenTo 0 = .ok (.iconst 1, 1) := by decide +kernel
theorem dX6_tenTo_1 : decode cX6_tenTo 1 = .ok (.istore_n 1, 1) := by decide +kernel
theorem dX6_tenTo_2 : decode cX6_tenTo 2 = .ok (.iconst 0, 1) := by decide +kernel
theorem dX6_tenTo_3 : decode cX6_tenTo 3 = .ok (.istore_n 2, 1) := by decide +kernel
theorem dX6_tenTo_4 : decode cX6_tenTo 4 = .ok (.iload_n 2, 1) := by decide +kernel
theorem dX6_tenTo_5 : decode cX6_tenTo 5 = .ok (.iload_n 0, 1) := by decide +kernel
theorem dX6_tenTo_6 : decode cX6_tenTo 6 = .ok (.if_icmp .ge 14, 3) := by decide +kernel
theorem dX6_tenTo_9 : decode cX6_tenTo 9 = .ok (.iload_n 1, 1) := by decide +kernel
theorem dX6_tenTo_10 : decode cX6_tenTo 10 = .ok (.bipush 10, 2) := by decide +kernel
theorem dX6_tenTo_12 : decode cX6_tenTo 12 = .ok (.imul, 1) := by decide +kernel
theorem dX6_tenTo_13 : decode cX6_tenTo 13 = .ok (.istore_n 1, 1) := by decide +kernel
theorem dX6_tenTo_14 : decode cX6_tenTo 14 = .ok (.iinc 2 1, 3) := by decide +kernel
theorem dX6_tenTo_17 : decode cX6_tenTo 17 = .ok (.goto (-13), 3) := by decide +kernel
theorem dX6_tenTo_20 : decode cX6_tenTo 20 = .ok (.iload_n 1, 1) := by decide +kernel
theorem dX6_tenTo_21 : decode cX6_tenTo 21 = .ok (.ireturn, 1) := by decide +kernel
theorem dX6_isRow_0 : decode cX6_isRow 0 = .ok (.aload_n 0, 1) := by decide +kernel
theorem dX6_isRow_1 : decode cX6_isRow 1 = .ok (.invokevirtual 146, 3) := by decide +kernel
theorem dX6_isRow_4 : decode cX6_isRow 4 = .ok (.iconst 0, 1) := by decide +kernel
theorem dX6_isRow_5 : decode cX6_isRow 5 = .ok (.istore_n 3, 1) := by decide +kernel
theorem dX6_isRow_6 : decode cX6_isRow 6 = .ok (.iload_n 3, 1) := by decide +kernel
theorem dX6_isRow_7 : decode cX6_isRow 7 = .ok (.iload_n 1, 1) := by decide +kernel
theorem dX6_isRow_8 : decode cX6_isRow 8 = .ok (.if_icmp .ge 59, 3) := by decide +kernel
theorem dX6_isRow_11 : decode cX6_isRow 11 = .ok (.iload_n 2, 1) := by decide +kernel
theorem dX6_isRow_12 : decode cX6_isRow 12 = .ok (.iload_n 1, 1) := by decide +kernel
theorem dX6_isRow_13 : decode cX6_isRow 13 = .ok (.iconst 1, 1) := by decide +kernel
theorem dX6_isRow_14 : decode cX6_isRow 14 = .ok (.isub, 1) := by decide +kernel
theorem dX6_isRow_15 : decode cX6_isRow 15 = .ok (.iload_n 3, 1) := by decide +kernel
theorem dX6_isRow_16 : decode cX6_isRow 16 = .ok (.isub, 1) := by decide +kernel
theorem dX6_isRow_17 : decode cX6_isRow 17 = .ok (.invokestatic 149, 3) := by decide +kernel
theorem dX6_isRow_20 : decode cX6_isRow 20 = .ok (.idiv, 1) := by decide +kernel
theorem dX6_isRow_21 : decode cX6_isRow 21 = .ok (.bipush 10, 2) := by decide +kernel
theorem dX6_isRow_23 : decode cX6_isRow 23 = .ok (.irem, 1) := by decide +kernel
theorem dX6_isRow_24 : decode cX6_isRow 24 = .ok (.iconst 1, 1) := by decide +kernel
theorem dX6_isRow_25 : decode cX6_isRow 25 = .ok (.isub, 1) := by decide +kernel
theorem dX6_isRow_26 : decode cX6_isRow 26 = .ok (.istore 4, 2) := by decide +kernel
theorem dX6_isRow_28 : decode cX6_isRow 28 = .ok (.aload_n 0, 1) := by decide +kernel
theorem dX6_isRow_29 : decode cX6_isRow 29 = .ok (.iload 4, 2) := by decide +kernel
theorem dX6_isRow_31 : decode cX6_isRow 31 = .ok (.invokevirtual 107, 3) := by decide +kernel
theorem dX6_isRow_34 : decode cX6_isRow 34 = .ok (.ifCond .eq 25, 3) := by decide +kernel
theorem dX6_isRow_37 : decode cX6_isRow 37 = .ok (.aload_n 0, 1) := by decide +kernel
theorem dX6_isRow_38 : decode cX6_isRow 38 = .ok (.iconst 1, 1) := by decide +kernel
theorem dX6_isRow_39 : decode cX6_isRow 39 = .ok (.iload 4, 2) := by decide +kernel
theorem dX6_isRow_41 : decode cX6_isRow 41 = .ok (.invokevirtual 126, 3) := by decide +kernel
theorem dX6_isRow_44 : decode cX6_isRow 44 = .ok (.iload_n 3, 1) := by decide +kernel
theorem dX6_isRow_45 : decode cX6_isRow 45 = .ok (.iload_n 1, 1) := by decide +kernel
theorem dX6_isRow_46 : decode cX6_isRow 46 = .ok (.iconst 1, 1) := by decide +kernel
theorem dX6_isRow_47 : decode cX6_isRow 47 = .ok (.isub, 1) := by decide +kernel
theorem dX6_isRow_48 : decode cX6_isRow 48 = .ok (.if_icmp .ne 7, 3) := by decide +kernel
theorem dX6_isRow_51 : decode cX6_isRow 51 = .ok (.iconst 1, 1) := by decide +kernel
theorem dX6_isRow_52 : decode cX6_isRow 52 = .ok (.goto 4, 3) := by decide +kernel
theorem dX6_isRow_55 : decode cX6_isRow 55 = .ok (.iconst 0, 1) := by decide +kernel
theorem dX6_isRow_56 : decode cX6_isRow 56 = .ok (.if_icmp .eq 5, 3) := by decide +kernel
theorem dX6_isRow_59 : decode cX6_isRow 59 = .ok (.iconst 0, 1) := by decide +kernel
theorem dX6_isRow_60 : decode cX6_isRow 60 = .ok (.ireturn, 1) := by decide +kernel
theorem dX6_isRow_61 : decode cX6_isRow 61 = .ok (.iinc 3 1, 3) := by decide +kernel
theorem dX6_isRow_64 : decode cX6_isRow 64 = .ok (.goto (-58), 3) := by decide +kernel
theorem dX6_isRow_67 : decode cX6_isRow 67 = .ok (.iconst 1, 1) := by decide +kernel
theorem dX6_isRow_68 : decode cX6_isRow 68 = .ok (.ireturn, 1) := by decide +kernel
theorem dX6_fewest_0 : decode cX6_fewest 0 = .ok (.iconst 1, 1) := by decide +kernel
theorem dX6_fewest_1 : decode cX6_fewest 1 = .ok (.istore_n 2, 1) := by decide +kernel
theorem dX6_fewest_2 : decode cX6_fewest 2 = .ok (.iload_n 2, 1) := by decide +kernel
theorem dX6_fewest_3 : decode cX6_fewest 3 = .ok (.iconst 5, 1) := by decide +kernel
theorem dX6_fewest_4 : decode cX6_fewest 4 = .ok (.if_icmp .ge 54, 3) := by decide +kernel
theorem dX6_fewest_7 : decode cX6_fewest 7 = .ok (.aload_n 0, 1) := by decide +kernel
theorem dX6_fewest_8 : decode cX6_fewest 8 = .ok (.getfield 19, 3) := by decide +kernel
theorem dX6_fewest_11 : decode cX6_fewest 11 = .ok (.bipush 8, 2) := by decide +kernel
theorem dX6_fewest_13 : decode cX6_fewest 13 = .ok (.iaload, 1) := by decide +kernel
theorem dX6_fewest_14 : decode cX6_fewest 14 = .ok (.ifCond .ne 44, 3) := by decide +kernel
theorem dX6_fewest_17 : decode cX6_fewest 17 = .ok (.iconst 0, 1) := by decide +kernel
theorem dX6_fewest_18 : decode cX6_fewest 18 = .ok (.istore_n 3, 1) := by decide +kernel
theorem dX6_fewest_19 : decode cX6_fewest 19 = .ok (.iload_n 3, 1) := by decide +kernel
theorem dX6_fewest_20 : decode cX6_fewest 20 = .ok (.iload_n 2, 1) := by decide +kernel
theorem dX6_fewest_21 : decode cX6_fewest 21 = .ok (.invokestatic 149, 3) := by decide +kernel
theorem dX6_fewest_24 : decode cX6_fewest 24 = .ok (.if_icmp .ge 28, 3) := by decide +kernel
theorem dX6_fewest_27 : decode cX6_fewest 27 = .ok (.aload_n 0, 1) := by decide +kernel
theorem dX6_fewest_28 : decode cX6_fewest 28 = .ok (.iload_n 2, 1) := by decide +kernel
theorem dX6_fewest_29 : decode cX6_fewest 29 = .ok (.iload_n 3, 1) := by decide +kernel
theorem dX6_fewest_30 : decode cX6_fewest 30 = .ok (.invokevirtual 152, 3) := by decide +kernel
theorem dX6_fewest_33 : decode cX6_fewest 33 = .ok (.ifCond .eq 13, 3) := by decide +kernel
theorem dX6_fewest_36 : decode cX6_fewest 36 = .ok (.iload_n 1, 1) := by decide +kernel
theorem dX6_fewest_37 : decode cX6_fewest 37 = .ok (.ifCond .eq 7, 3) := by decide +kernel
theorem dX6_fewest_40 : decode cX6_fewest 40 = .ok (.iload_n 3, 1) := by decide +kernel
theorem dX6_fewest_41 : decode cX6_fewest 41 = .ok (.goto 4, 3) := by decide +kernel
theorem dX6_fewest_44 : decode cX6_fewest 44 = .ok (.iload_n 2, 1) := by decide +kernel
theorem dX6_fewest_45 : decode cX6_fewest 45 = .ok (.ireturn, 1) := by decide +kernel
theorem dX6_fewest_46 : decode cX6_fewest 46 = .ok (.iinc 3 1, 3) := by decide +kernel
theorem dX6_fewest_49 : decode cX6_fewest 49 = .ok (.goto (-30), 3) := by decide +kernel
theorem dX6_fewest_52 : decode cX6_fewest 52 = .ok (.iinc 2 1, 3) := by decide +kernel
theorem dX6_fewest_55 : decode cX6_fewest 55 = .ok (.goto (-53), 3) := by decide +kernel
theorem dX6_fewest_58 : decode cX6_fewest 58 = .ok (.bipush (-9), 2) := by decide +kernel
theorem dX6_fewest_60 : decode cX6_fewest 60 = .ok (.ireturn, 1) := by decide +kernel
theorem dX6_good_0 : decode cX6_good 0 = .ok (.aload_n 0, 1) := by decide +kernel
theorem dX6_good_1 : decode cX6_good 1 = .ok (.iload_n 1, 1) := by decide +kernel
theorem dX6_good_2 : decode cX6_good 2 = .ok (.invokevirtual 107, 3) := by decide +kernel
theorem dX6_good_5 : decode cX6_good 5 = .ok (.ifCond .ne 5, 3) := by decide +kernel
theorem dX6_good_8 : decode cX6_good 8 = .ok (.iconst (-1), 1) := by decide +kernel
theorem dX6_good_9 : decode cX6_good 9 = .ok (.ireturn, 1) := by decide +kernel
theorem dX6_good_10 : decode cX6_good 10 = .ok (.iload_n 2, 1) := by decide +kernel
theorem dX6_good_11 : decode cX6_good 11 = .ok (.i2l, 1) := by decide +kernel
theorem dX6_good_12 : decode cX6_good 12 = .ok (.lconst 0, 1) := by decide +kernel
theorem dX6_good_13 : decode cX6_good 13 = .ok (.ldc2_w 118, 3) := by decide +kernel
theorem dX6_good_16 : decode cX6_good 16 = .ok (.invokestatic 52, 3) := by decide +kernel
theorem dX6_good_19 : decode cX6_good 19 = .ok (.ifCond .ne 6, 3) := by decide +kernel
theorem dX6_good_22 : decode cX6_good 22 = .ok (.bipush (-2), 2) := by decide +kernel
theorem dX6_good_24 : decode cX6_good 24 = .ok (.ireturn, 1) := by decide +kernel
theorem dX6_good_25 : decode cX6_good 25 = .ok (.iconst 0, 1) := by decide +kernel
theorem dX6_good_26 : decode cX6_good 26 = .ok (.istore_n 3, 1) := by decide +kernel
theorem dX6_good_27 : decode cX6_good 27 = .ok (.aload_n 0, 1) := by decide +kernel
theorem dX6_good_28 : decode cX6_good 28 = .ok (.getfield 19, 3) := by decide +kernel
theorem dX6_good_31 : decode cX6_good 31 = .ok (.iload_n 1, 1) := by decide +kernel
theorem dX6_good_32 : decode cX6_good 32 = .ok (.iaload, 1) := by decide +kernel
theorem dX6_good_33 : decode cX6_good 33 = .ok (.iload_n 3, 1) := by decide +kernel
theorem dX6_good_34 : decode cX6_good 34 = .ok (.iadd, 1) := by decide +kernel
theorem dX6_good_35 : decode cX6_good 35 = .ok (.bipush 9, 2) := by decide +kernel
theorem dX6_good_37 : decode cX6_good 37 = .ok (.if_icmp .gt 30, 3) := by decide +kernel
theorem dX6_good_40 : decode cX6_good 40 = .ok (.aload_n 0, 1) := by decide +kernel
theorem dX6_good_41 : decode cX6_good 41 = .ok (.aload_n 0, 1) := by decide +kernel
theorem dX6_good_42 : decode cX6_good 42 = .ok (.getfield 19, 3) := by decide +kernel
theorem dX6_good_45 : decode cX6_good 45 = .ok (.iload_n 1, 1) := by decide +kernel
theorem dX6_good_46 : decode cX6_good 46 = .ok (.iaload, 1) := by decide +kernel
theorem dX6_good_47 : decode cX6_good 47 = .ok (.iload_n 3, 1) := by decide +kernel
theorem dX6_good_48 : decode cX6_good 48 = .ok (.iadd, 1) := by decide +kernel
theorem dX6_good_49 : decode cX6_good 49 = .ok (.iload_n 1, 1) := by decide +kernel
theorem dX6_good_50 : decode cX6_good 50 = .ok (.iload_n 2, 1) := by decide +kernel
theorem dX6_good_51 : decode cX6_good 51 = .ok (.bipush 15, 2) := by decide +kernel
theorem dX6_good_53 : decode cX6_good 53 = .ok (.invokevirtual 100, 3) := by decide +kernel
theorem dX6_good_56 : decode cX6_good 56 = .ok (.ifCond .eq 5, 3) := by decide +kernel
theorem dX6_good_59 : decode cX6_good 59 = .ok (.iload_n 3, 1) := by decide +kernel
theorem dX6_good_60 : decode cX6_good 60 = .ok (.ireturn, 1) := by decide +kernel
theorem dX6_good_61 : decode cX6_good 61 = .ok (.iinc 3 1, 3) := by decide +kernel
theorem dX6_good_64 : decode cX6_good 64 = .ok (.goto (-37), 3) := by decide +kernel
theorem dX6_good_67 : decode cX6_good 67 = .ok (.bipush (-9), 2) := by decide +kernel
theorem dX6_good_69 : decode cX6_good 69 = .ok (.ireturn, 1) := by decide +kernel
theorem dX6_tryThing_0 : decode cX6_tryThing 0 = .ok (.aload_n 0, 1) := by decide +kernel
theorem dX6_tryThing_1 : decode cX6_tryThing 1 = .ok (.getfield 19, 3) := by decide +kernel
theorem dX6_tryThing_4 : decode cX6_tryThing 4 = .ok (.bipush 18, 2) := by decide +kernel
theorem dX6_tryThing_6 : decode cX6_tryThing 6 = .ok (.iaload, 1) := by decide +kernel
theorem dX6_tryThing_7 : decode cX6_tryThing 7 = .ok (.ifCond .ne 7, 3) := by decide +kernel
theorem dX6_tryThing_10 : decode cX6_tryThing 10 = .ok (.iconst 1, 1) := by decide +kernel
theorem dX6_tryThing_11 : decode cX6_tryThing 11 = .ok (.goto 4, 3) := by decide +kernel
theorem dX6_tryThing_14 : decode cX6_tryThing 14 = .ok (.iconst 0, 1) := by decide +kernel
theorem dX6_tryThing_15 : decode cX6_tryThing 15 = .ok (.istore_n 2, 1) := by decide +kernel
theorem dX6_tryThing_16 : decode cX6_tryThing 16 = .ok (.iload_n 1, 1) := by decide +kernel
theorem dX6_tryThing_17 : decode cX6_tryThing 17 = .ok (.tableswitch 125 0 8 #[51, 125, 125, 125, 125, 53, 71, 87, 107], 51) := by decide +kernel
theorem dX6_tryThing_68 : decode cX6_tryThing 68 = .ok (.iconst 1, 1) := by decide +kernel
theorem dX6_tryThing_69 : decode cX6_tryThing 69 = .ok (.ireturn, 1) := by decide +kernel
theorem dX6_tryThing_70 : decode cX6_tryThing 70 = .ok (.aload_n 0, 1) := by decide +kernel
theorem dX6_tryThing_71 : decode cX6_tryThing 71 = .ok (.iconst 1, 1) := by decide +kernel
theorem dX6_tryThing_72 : decode cX6_tryThing 72 = .ok (.invokevirtual 129, 3) := by decide +kernel
theorem dX6_tryThing_75 : decode cX6_tryThing 75 = .ok (.istore_n 3, 1) := by decide +kernel
theorem dX6_tryThing_76 : decode cX6_tryThing 76 = .ok (.iload_n 3, 1) := by decide +kernel
theorem dX6_tryThing_77 : decode cX6_tryThing 77 = .ok (.ifCond .eq 9, 3) := by decide +kernel
theorem dX6_tryThing_80 : decode cX6_tryThing 80 = .ok (.aload_n 0, 1) := by decide +kernel
theorem dX6_tryThing_81 : decode cX6_tryThing 81 = .ok (.iconst 1, 1) := by decide +kernel
theorem dX6_tryThing_82 : decode cX6_tryThing 82 = .ok (.invokevirtual 132, 3) := by decide +kernel
theorem dX6_tryThing_85 : decode cX6_tryThing 85 = .ok (.pop, 1) := by decide +kernel
theorem dX6_tryThing_86 : decode cX6_tryThing 86 = .ok (.iload_n 3, 1) := by decide +kernel
theorem dX6_tryThing_87 : decode cX6_tryThing 87 = .ok (.ireturn, 1) := by decide +kernel
theorem dX6_tryThing_88 : decode cX6_tryThing 88 = .ok (.aload_n 0, 1) := by decide +kernel
theorem dX6_tryThing_89 : decode cX6_tryThing 89 = .ok (.iconst 1, 1) := by decide +kernel
theorem dX6_tryThing_90 : decode cX6_tryThing 90 = .ok (.iload_n 2, 1) := by decide +kernel
theorem dX6_tryThing_91 : decode cX6_tryThing 91 = .ok (.ifCond .eq 7, 3) := by decide +kernel
theorem dX6_tryThing_94 : decode cX6_tryThing 94 = .ok (.iconst 1, 1) := by decide +kernel
theorem dX6_tryThing_95 : decode cX6_tryThing 95 = .ok (.goto 4, 3) := by decide +kernel
theorem dX6_tryThing_98 : decode cX6_tryThing 98 = .ok (.iconst 0, 1) := by decide +kernel
theorem dX6_tryThing_99 : decode cX6_tryThing 99 = .ok (.invokevirtual 135, 3) := by decide +kernel
theorem dX6_tryThing_102 : decode cX6_tryThing 102 = .ok (.iload_n 2, 1) := by decide +kernel
theorem dX6_tryThing_103 : decode cX6_tryThing 103 = .ok (.ireturn, 1) := by decide +kernel
theorem dX6_tryThing_104 : decode cX6_tryThing 104 = .ok (.aload_n 0, 1) := by decide +kernel
theorem dX6_tryThing_105 : decode cX6_tryThing 105 = .ok (.iconst 1, 1) := by decide +kernel
theorem dX6_tryThing_106 : decode cX6_tryThing 106 = .ok (.invokevirtual 139, 3) := by decide +kernel
theorem dX6_tryThing_109 : decode cX6_tryThing 109 = .ok (.istore 4, 2) := by decide +kernel
theorem dX6_tryThing_111 : decode cX6_tryThing 111 = .ok (.iload 4, 2) := by decide +kernel
theorem dX6_tryThing_113 : decode cX6_tryThing 113 = .ok (.ifCond .eq 8, 3) := by decide +kernel
theorem dX6_tryThing_116 : decode cX6_tryThing 116 = .ok (.aload_n 0, 1) := by decide +kernel
theorem dX6_tryThing_117 : decode cX6_tryThing 117 = .ok (.iconst 1, 1) := by decide +kernel
theorem dX6_tryThing_118 : decode cX6_tryThing 118 = .ok (.invokevirtual 142, 3) := by decide +kernel
theorem dX6_tryThing_121 : decode cX6_tryThing 121 = .ok (.iload 4, 2) := by decide +kernel
theorem dX6_tryThing_123 : decode cX6_tryThing 123 = .ok (.ireturn, 1) := by decide +kernel
theorem dX6_tryThing_124 : decode cX6_tryThing 124 = .ok (.aload_n 0, 1) := by decide +kernel
theorem dX6_tryThing_125 : decode cX6_tryThing 125 = .ok (.getfield 19, 3) := by decide +kernel
theorem dX6_tryThing_128 : decode cX6_tryThing 128 = .ok (.bipush 17, 2) := by decide +kernel
theorem dX6_tryThing_130 : decode cX6_tryThing 130 = .ok (.iconst 1, 1) := by decide +kernel
theorem dX6_tryThing_131 : decode cX6_tryThing 131 = .ok (.aload_n 0, 1) := by decide +kernel
theorem dX6_tryThing_132 : decode cX6_tryThing 132 = .ok (.getfield 19, 3) := by decide +kernel
theorem dX6_tryThing_135 : decode cX6_tryThing 135 = .ok (.bipush 17, 2) := by decide +kernel
theorem dX6_tryThing_137 : decode cX6_tryThing 137 = .ok (.iaload, 1) := by decide +kernel
theorem dX6_tryThing_138 : decode cX6_tryThing 138 = .ok (.isub, 1) := by decide +kernel
theorem dX6_tryThing_139 : decode cX6_tryThing 139 = .ok (.iastore, 1) := by decide +kernel
theorem dX6_tryThing_140 : decode cX6_tryThing 140 = .ok (.iconst 1, 1) := by decide +kernel
theorem dX6_tryThing_141 : decode cX6_tryThing 141 = .ok (.ireturn, 1) := by decide +kernel
theorem dX6_tryThing_142 : decode cX6_tryThing 142 = .ok (.iload_n 1, 1) := by decide +kernel
theorem dX6_tryThing_143 : decode cX6_tryThing 143 = .ok (.iconst 5, 1) := by decide +kernel
theorem dX6_tryThing_144 : decode cX6_tryThing 144 = .ok (.if_icmp .ge 32, 3) := by decide +kernel
theorem dX6_tryThing_147 : decode cX6_tryThing 147 = .ok (.aload_n 0, 1) := by decide +kernel
theorem dX6_tryThing_148 : decode cX6_tryThing 148 = .ok (.iload_n 1, 1) := by decide +kernel
theorem dX6_tryThing_149 : decode cX6_tryThing 149 = .ok (.iconst 1, 1) := by decide +kernel
theorem dX6_tryThing_150 : decode cX6_tryThing 150 = .ok (.isub, 1) := by decide +kernel
theorem dX6_tryThing_151 : decode cX6_tryThing 151 = .ok (.invokevirtual 107, 3) := by decide +kernel
theorem dX6_tryThing_154 : decode cX6_tryThing 154 = .ok (.ifCond .eq 22, 3) := by decide +kernel
theorem dX6_tryThing_157 : decode cX6_tryThing 157 = .ok (.iload_n 2, 1) := by decide +kernel
theorem dX6_tryThing_158 : decode cX6_tryThing 158 = .ok (.ifCond .eq 18, 3) := by decide +kernel
theorem dX6_tryThing_161 : decode cX6_tryThing 161 = .ok (.aload_n 0, 1) := by decide +kernel
theorem dX6_tryThing_162 : decode cX6_tryThing 162 = .ok (.iconst 1, 1) := by decide +kernel
theorem dX6_tryThing_163 : decode cX6_tryThing 163 = .ok (.iload_n 1, 1) := by decide +kernel
theorem dX6_tryThing_164 : decode cX6_tryThing 164 = .ok (.iconst 1, 1) := by decide +kernel
theorem dX6_tryThing_165 : decode cX6_tryThing 165 = .ok (.isub, 1) := by decide +kernel
theorem dX6_tryThing_166 : decode cX6_tryThing 166 = .ok (.invokevirtual 126, 3) := by decide +kernel
theorem dX6_tryThing_169 : decode cX6_tryThing 169 = .ok (.ifCond .eq 7, 3) := by decide +kernel
theorem dX6_tryThing_172 : decode cX6_tryThing 172 = .ok (.iconst 1, 1) := by decide +kernel
theorem dX6_tryThing_173 : decode cX6_tryThing 173 = .ok (.goto 4, 3) := by decide +kernel
theorem dX6_tryThing_176 : decode cX6_tryThing 176 = .ok (.iconst 0, 1) := by decide +kernel
theorem dX6_tryThing_177 : decode cX6_tryThing 177 = .ok (.ireturn, 1) := by decide +kernel
theorem dX6_judge_0 : decode cX6_judge 0 = .ok (.iload_n 1, 1) := by decide +kernel
theorem dX6_judge_1 : decode cX6_judge 1 = .ok (.i2l, 1) := by decide +kernel
theorem dX6_judge_2 : decode cX6_judge 2 = .ok (.lconst 1, 1) := by decide +kernel
theorem dX6_judge_3 : decode cX6_judge 3 = .ok (.ldc2_w 155, 3) := by decide +kernel
theorem dX6_judge_6 : decode cX6_judge 6 = .ok (.invokestatic 52, 3) := by decide +kernel
theorem dX6_judge_9 : decode cX6_judge 9 = .ok (.ifCond .eq 19, 3) := by decide +kernel
theorem dX6_judge_12 : decode cX6_judge 12 = .ok (.iload_n 2, 1) := by decide +kernel
theorem dX6_judge_13 : decode cX6_judge 13 = .ok (.i2l, 1) := by decide +kernel
theorem dX6_judge_14 : decode cX6_judge 14 = .ok (.lconst 0, 1) := by decide +kernel
theorem dX6_judge_15 : decode cX6_judge 15 = .ok (.iload_n 1, 1) := by decide +kernel
theorem dX6_judge_16 : decode cX6_judge 16 = .ok (.invokestatic 149, 3) := by decide +kernel
theorem dX6_judge_19 : decode cX6_judge 19 = .ok (.iconst 1, 1) := by decide +kernel
theorem dX6_judge_20 : decode cX6_judge 20 = .ok (.isub, 1) := by decide +kernel
theorem dX6_judge_21 : decode cX6_judge 21 = .ok (.i2l, 1) := by decide +kernel
theorem dX6_judge_22 : decode cX6_judge 22 = .ok (.invokestatic 52, 3) := by decide +kernel
theorem dX6_judge_25 : decode cX6_judge 25 = .ok (.ifCond .ne 6, 3) := by decide +kernel
theorem dX6_judge_28 : decode cX6_judge 28 = .ok (.bipush (-2), 2) := by decide +kernel
theorem dX6_judge_30 : decode cX6_judge 30 = .ok (.ireturn, 1) := by decide +kernel
theorem dX6_judge_31 : decode cX6_judge 31 = .ok (.aload_n 0, 1) := by decide +kernel
theorem dX6_judge_32 : decode cX6_judge 32 = .ok (.invokevirtual 146, 3) := by decide +kernel
theorem dX6_judge_35 : decode cX6_judge 35 = .ok (.iconst 0, 1) := by decide +kernel
theorem dX6_judge_36 : decode cX6_judge 36 = .ok (.istore_n 3, 1) := by decide +kernel
theorem dX6_judge_37 : decode cX6_judge 37 = .ok (.iload_n 3, 1) := by decide +kernel
theorem dX6_judge_38 : decode cX6_judge 38 = .ok (.iload_n 1, 1) := by decide +kernel
theorem dX6_judge_39 : decode cX6_judge 39 = .ok (.if_icmp .ge 31, 3) := by decide +kernel
theorem dX6_judge_42 : decode cX6_judge 42 = .ok (.aload_n 0, 1) := by decide +kernel
theorem dX6_judge_43 : decode cX6_judge 43 = .ok (.iload_n 2, 1) := by decide +kernel
theorem dX6_judge_44 : decode cX6_judge 44 = .ok (.iload_n 1, 1) := by decide +kernel
theorem dX6_judge_45 : decode cX6_judge 45 = .ok (.iconst 1, 1) := by decide +kernel
theorem dX6_judge_46 : decode cX6_judge 46 = .ok (.isub, 1) := by decide +kernel
theorem dX6_judge_47 : decode cX6_judge 47 = .ok (.iload_n 3, 1) := by decide +kernel
theorem dX6_judge_48 : decode cX6_judge 48 = .ok (.isub, 1) := by decide +kernel
theorem dX6_judge_49 : decode cX6_judge 49 = .ok (.invokestatic 149, 3) := by decide +kernel
theorem dX6_judge_52 : decode cX6_judge 52 = .ok (.idiv, 1) := by decide +kernel
theorem dX6_judge_53 : decode cX6_judge 53 = .ok (.bipush 10, 2) := by decide +kernel
theorem dX6_judge_55 : decode cX6_judge 55 = .ok (.irem, 1) := by decide +kernel
theorem dX6_judge_56 : decode cX6_judge 56 = .ok (.invokevirtual 157, 3) := by decide +kernel
theorem dX6_judge_59 : decode cX6_judge 59 = .ok (.ifCond .ne 5, 3) := by decide +kernel
theorem dX6_judge_62 : decode cX6_judge 62 = .ok (.iload_n 3, 1) := by decide +kernel
theorem dX6_judge_63 : decode cX6_judge 63 = .ok (.ireturn, 1) := by decide +kernel
theorem dX6_judge_64 : decode cX6_judge 64 = .ok (.iinc 3 1, 3) := by decide +kernel
theorem dX6_judge_67 : decode cX6_judge 67 = .ok (.goto (-30), 3) := by decide +kernel
theorem dX6_judge_70 : decode cX6_judge 70 = .ok (.bipush (-9), 2) := by decide +kernel
theorem dX6_judge_72 : decode cX6_judge 72 = .ok (.ireturn, 1) := by decide +kernel
theorem dX6_see_0 : decode cX6_see 0 = .ok (.aload_n 0, 1) := by decide +kernel
theorem dX6_see_1 : decode cX6_see 1 = .ok (.iload_n 1, 1) := by decide +kernel
theorem dX6_see_2 : decode cX6_see 2 = .ok (.invokevirtual 107, 3) := by decide +kernel
theorem dX6_see_5 : decode cX6_see 5 = .ok (.ifCond .ne 5, 3) := by decide +kernel
theorem dX6_see_8 : decode cX6_see 8 = .ok (.iconst (-1), 1) := by decide +kernel
theorem dX6_see_9 : decode cX6_see 9 = .ok (.ireturn, 1) := by decide +kernel
theorem dX6_see_10 : decode cX6_see 10 = .ok (.iload_n 2, 1) := by decide +kernel
theorem dX6_see_11 : decode cX6_see 11 = .ok (.i2l, 1) := by decide +kernel
theorem dX6_see_12 : decode cX6_see 12 = .ok (.lconst 0, 1) := by decide +kernel
theorem dX6_see_13 : decode cX6_see 13 = .ok (.ldc2_w 118, 3) := by decide +kernel
theorem dX6_see_16 : decode cX6_see 16 = .ok (.invokestatic 52, 3) := by decide +kernel
theorem dX6_see_19 : decode cX6_see 19 = .ok (.ifCond .eq 13, 3) := by decide +kernel
theorem dX6_see_22 : decode cX6_see 22 = .ok (.iload_n 3, 1) := by decide +kernel
theorem dX6_see_23 : decode cX6_see 23 = .ok (.i2l, 1) := by decide +kernel
theorem dX6_see_24 : decode cX6_see 24 = .ok (.lconst 0, 1) := by decide +kernel
theorem dX6_see_25 : decode cX6_see 25 = .ok (.lconst 1, 1) := by decide +kernel
theorem dX6_see_26 : decode cX6_see 26 = .ok (.invokestatic 52, 3) := by decide +kernel
theorem dX6_see_29 : decode cX6_see 29 = .ok (.ifCond .ne 6, 3) := by decide +kernel
theorem dX6_see_32 : decode cX6_see 32 = .ok (.bipush (-2), 2) := by decide +kernel
theorem dX6_see_34 : decode cX6_see 34 = .ok (.ireturn, 1) := by decide +kernel
theorem dX6_see_35 : decode cX6_see 35 = .ok (.aload_n 0, 1) := by decide +kernel
theorem dX6_see_36 : decode cX6_see 36 = .ok (.getfield 160, 3) := by decide +kernel
theorem dX6_see_39 : decode cX6_see 39 = .ok (.bipush 6, 2) := by decide +kernel
theorem dX6_see_41 : decode cX6_see 41 = .ok (.if_icmp .ne 6, 3) := by decide +kernel
theorem dX6_see_44 : decode cX6_see 44 = .ok (.bipush (-4), 2) := by decide +kernel
theorem dX6_see_46 : decode cX6_see 46 = .ok (.ireturn, 1) := by decide +kernel
theorem dX6_see_47 : decode cX6_see 47 = .ok (.aload_n 0, 1) := by decide +kernel
theorem dX6_see_48 : decode cX6_see 48 = .ok (.getfield 34, 3) := by decide +kernel
theorem dX6_see_51 : decode cX6_see 51 = .ok (.aload_n 0, 1) := by decide +kernel
theorem dX6_see_52 : decode cX6_see 52 = .ok (.getfield 160, 3) := by decide +kernel
theorem dX6_see_55 : decode cX6_see 55 = .ok (.iload_n 1, 1) := by decide +kernel
theorem dX6_see_56 : decode cX6_see 56 = .ok (.iastore, 1) := by decide +kernel
theorem dX6_see_57 : decode cX6_see 57 = .ok (.aload_n 0, 1) := by decide +kernel
theorem dX6_see_58 : decode cX6_see 58 = .ok (.getfield 37, 3) := by decide +kernel
theorem dX6_see_61 : decode cX6_see 61 = .ok (.aload_n 0, 1) := by decide +kernel
theorem dX6_see_62 : decode cX6_see 62 = .ok (.getfield 160, 3) := by decide +kernel
theorem dX6_see_65 : decode cX6_see 65 = .ok (.iload_n 2, 1) := by decide +kernel
theorem dX6_see_66 : decode cX6_see 66 = .ok (.iastore, 1) := by decide +kernel
theorem dX6_see_67 : decode cX6_see 67 = .ok (.aload_n 0, 1) := by decide +kernel
theorem dX6_see_68 : decode cX6_see 68 = .ok (.getfield 40, 3) := by decide +kernel
theorem dX6_see_71 : decode cX6_see 71 = .ok (.aload_n 0, 1) := by decide +kernel
theorem dX6_see_72 : decode cX6_see 72 = .ok (.getfield 160, 3) := by decide +kernel
theorem dX6_see_75 : decode cX6_see 75 = .ok (.iload_n 3, 1) := by decide +kernel
theorem dX6_see_76 : decode cX6_see 76 = .ok (.iastore, 1) := by decide +kernel
theorem dX6_see_77 : decode cX6_see 77 = .ok (.aload_n 0, 1) := by decide +kernel
theorem dX6_see_78 : decode cX6_see 78 = .ok (.dup, 1) := by decide +kernel
theorem dX6_see_79 : decode cX6_see 79 = .ok (.getfield 160, 3) := by decide +kernel
theorem dX6_see_82 : decode cX6_see 82 = .ok (.iconst 1, 1) := by decide +kernel
theorem dX6_see_83 : decode cX6_see 83 = .ok (.iadd, 1) := by decide +kernel
theorem dX6_see_84 : decode cX6_see 84 = .ok (.putfield 160, 3) := by decide +kernel
theorem dX6_see_87 : decode cX6_see 87 = .ok (.aload_n 0, 1) := by decide +kernel
theorem dX6_see_88 : decode cX6_see 88 = .ok (.getfield 160, 3) := by decide +kernel
theorem dX6_see_91 : decode cX6_see 91 = .ok (.ireturn, 1) := by decide +kernel
theorem dX6_unsee_0 : decode cX6_unsee 0 = .ok (.aload_n 0, 1) := by decide +kernel
theorem dX6_unsee_1 : decode cX6_unsee 1 = .ok (.getfield 160, 3) := by decide +kernel
theorem dX6_unsee_4 : decode cX6_unsee 4 = .ok (.istore_n 1, 1) := by decide +kernel
theorem dX6_unsee_5 : decode cX6_unsee 5 = .ok (.aload_n 0, 1) := by decide +kernel
theorem dX6_unsee_6 : decode cX6_unsee 6 = .ok (.iconst 0, 1) := by decide +kernel
theorem dX6_unsee_7 : decode cX6_unsee 7 = .ok (.putfield 160, 3) := by decide +kernel
theorem dX6_unsee_10 : decode cX6_unsee 10 = .ok (.iload_n 1, 1) := by decide +kernel
theorem dX6_unsee_11 : decode cX6_unsee 11 = .ok (.ireturn, 1) := by decide +kernel
theorem dX6_may_0 : decode cX6_may 0 = .ok (.aload_n 0, 1) := by decide +kernel
theorem dX6_may_1 : decode cX6_may 1 = .ok (.iload_n 1, 1) := by decide +kernel
theorem dX6_may_2 : decode cX6_may 2 = .ok (.invokevirtual 107, 3) := by decide +kernel
theorem dX6_may_5 : decode cX6_may 5 = .ok (.ifCond .ne 5, 3) := by decide +kernel
theorem dX6_may_8 : decode cX6_may 8 = .ok (.iconst (-1), 1) := by decide +kernel
theorem dX6_may_9 : decode cX6_may 9 = .ok (.ireturn, 1) := by decide +kernel
theorem dX6_may_10 : decode cX6_may 10 = .ok (.iconst 0, 1) := by decide +kernel
theorem dX6_may_11 : decode cX6_may 11 = .ok (.istore_n 2, 1) := by decide +kernel
theorem dX6_may_12 : decode cX6_may 12 = .ok (.iconst 0, 1) := by decide +kernel
theorem dX6_may_13 : decode cX6_may 13 = .ok (.istore_n 3, 1) := by decide +kernel
theorem dX6_may_14 : decode cX6_may 14 = .ok (.iload_n 3, 1) := by decide +kernel
theorem dX6_may_15 : decode cX6_may 15 = .ok (.bipush 10, 2) := by decide +kernel
theorem dX6_may_17 : decode cX6_may 17 = .ok (.if_icmp .ge 102, 3) := by decide +kernel
theorem dX6_may_20 : decode cX6_may 20 = .ok (.iconst 1, 1) := by decide +kernel
theorem dX6_may_21 : decode cX6_may 21 = .ok (.istore 4, 2) := by decide +kernel
theorem dX6_may_23 : decode cX6_may 23 = .ok (.iconst 0, 1) := by decide +kernel
theorem dX6_may_24 : decode cX6_may 24 = .ok (.istore 5, 2) := by decide +kernel
theorem dX6_may_26 : decode cX6_may 26 = .ok (.iload 5, 2) := by decide +kernel
theorem dX6_may_28 : decode cX6_may 28 = .ok (.aload_n 0, 1) := by decide +kernel
theorem dX6_may_29 : decode cX6_may 29 = .ok (.getfield 160, 3) := by decide +kernel
theorem dX6_may_32 : decode cX6_may 32 = .ok (.if_icmp .ge 66, 3) := by decide +kernel
theorem dX6_may_35 : decode cX6_may 35 = .ok (.iload 4, 2) := by decide +kernel
theorem dX6_may_37 : decode cX6_may 37 = .ok (.ifCond .eq 52, 3) := by decide +kernel
theorem dX6_may_40 : decode cX6_may 40 = .ok (.aload_n 0, 1) := by decide +kernel
theorem dX6_may_41 : decode cX6_may 41 = .ok (.getfield 34, 3) := by decide +kernel
theorem dX6_may_44 : decode cX6_may 44 = .ok (.iload 5, 2) := by decide +kernel
theorem dX6_may_46 : decode cX6_may 46 = .ok (.iaload, 1) := by decide +kernel
theorem dX6_may_47 : decode cX6_may 47 = .ok (.iload_n 1, 1) := by decide +kernel
theorem dX6_may_48 : decode cX6_may 48 = .ok (.if_icmp .ne 37, 3) := by decide +kernel
theorem dX6_may_51 : decode cX6_may 51 = .ok (.aload_n 0, 1) := by decide +kernel
theorem dX6_may_52 : decode cX6_may 52 = .ok (.iload_n 3, 1) := by decide +kernel
theorem dX6_may_53 : decode cX6_may 53 = .ok (.iload_n 1, 1) := by decide +kernel
theorem dX6_may_54 : decode cX6_may 54 = .ok (.aload_n 0, 1) := by decide +kernel
theorem dX6_may_55 : decode cX6_may 55 = .ok (.getfield 37, 3) := by decide +kernel
theorem dX6_may_58 : decode cX6_may 58 = .ok (.iload 5, 2) := by decide +kernel
theorem dX6_may_60 : decode cX6_may 60 = .ok (.iaload, 1) := by decide +kernel
theorem dX6_may_61 : decode cX6_may 61 = .ok (.bipush 15, 2) := by decide +kernel
theorem dX6_may_63 : decode cX6_may 63 = .ok (.invokevirtual 100, 3) := by decide +kernel
theorem dX6_may_66 : decode cX6_may 66 = .ok (.aload_n 0, 1) := by decide +kernel
theorem dX6_may_67 : decode cX6_may 67 = .ok (.getfield 40, 3) := by decide +kernel
theorem dX6_may_70 : decode cX6_may 70 = .ok (.iload 5, 2) := by decide +kernel
theorem dX6_may_72 : decode cX6_may 72 = .ok (.iaload, 1) := by decide +kernel
theorem dX6_may_73 : decode cX6_may 73 = .ok (.iconst 1, 1) := by decide +kernel
theorem dX6_may_74 : decode cX6_may 74 = .ok (.if_icmp .ne 7, 3) := by decide +kernel
theorem dX6_may_77 : decode cX6_may 77 = .ok (.iconst 1, 1) := by decide +kernel
theorem dX6_may_78 : decode cX6_may 78 = .ok (.goto 4, 3) := by decide +kernel
theorem dX6_may_81 : decode cX6_may 81 = .ok (.iconst 0, 1) := by decide +kernel
theorem dX6_may_82 : decode cX6_may 82 = .ok (.if_icmp .ne 7, 3) := by decide +kernel
theorem dX6_may_85 : decode cX6_may 85 = .ok (.iconst 1, 1) := by decide +kernel
theorem dX6_may_86 : decode cX6_may 86 = .ok (.goto 4, 3) := by decide +kernel
theorem dX6_may_89 : decode cX6_may 89 = .ok (.iconst 0, 1) := by decide +kernel
theorem dX6_may_90 : decode cX6_may 90 = .ok (.istore 4, 2) := by decide +kernel
theorem dX6_may_92 : decode cX6_may 92 = .ok (.iinc 5 1, 3) := by decide +kernel
theorem dX6_may_95 : decode cX6_may 95 = .ok (.goto (-69), 3) := by decide +kernel
theorem dX6_may_98 : decode cX6_may 98 = .ok (.iload_n 2, 1) := by decide +kernel
theorem dX6_may_99 : decode cX6_may 99 = .ok (.iload 4, 2) := by decide +kernel
theorem dX6_may_101 : decode cX6_may 101 = .ok (.ifCond .eq 9, 3) := by decide +kernel
theorem dX6_may_104 : decode cX6_may 104 = .ok (.iconst 1, 1) := by decide +kernel
theorem dX6_may_105 : decode cX6_may 105 = .ok (.iload_n 3, 1) := by decide +kernel
theorem dX6_may_106 : decode cX6_may 106 = .ok (.ishl, 1) := by decide +kernel
theorem dX6_may_107 : decode cX6_may 107 = .ok (.goto 4, 3) := by decide +kernel
theorem dX6_may_110 : decode cX6_may 110 = .ok (.iconst 0, 1) := by decide +kernel
theorem dX6_may_111 : decode cX6_may 111 = .ok (.ior, 1) := by decide +kernel
theorem dX6_may_112 : decode cX6_may 112 = .ok (.istore_n 2, 1) := by decide +kernel
theorem dX6_may_113 : decode cX6_may 113 = .ok (.iinc 3 1, 3) := by decide +kernel
theorem dX6_may_116 : decode cX6_may 116 = .ok (.goto (-102), 3) := by decide +kernel
theorem dX6_may_119 : decode cX6_may 119 = .ok (.iload_n 2, 1) := by decide +kernel
theorem dX6_may_120 : decode cX6_may 120 = .ok (.ireturn, 1) := by decide +kernel
theorem dX6_factorial_0 : decode cX6_factorial 0 = .ok (.iconst 1, 1) := by decide +kernel
theorem dX6_factorial_1 : decode cX6_factorial 1 = .ok (.istore_n 1, 1) := by decide +kernel
theorem dX6_factorial_2 : decode cX6_factorial 2 = .ok (.iconst 2, 1) := by decide +kernel
theorem dX6_factorial_3 : decode cX6_factorial 3 = .ok (.istore_n 2, 1) := by decide +kernel
theorem dX6_factorial_4 : decode cX6_factorial 4 = .ok (.iload_n 2, 1) := by decide +kernel
theorem dX6_factorial_5 : decode cX6_factorial 5 = .ok (.iload_n 0, 1) := by decide +kernel
theorem dX6_factorial_6 : decode cX6_factorial 6 = .ok (.if_icmp .gt 13, 3) := by decide +kernel
theorem dX6_factorial_9 : decode cX6_factorial 9 = .ok (.iload_n 1, 1) := by decide +kernel
theorem dX6_factorial_10 : decode cX6_factorial 10 = .ok (.iload_n 2, 1) := by decide +kernel
theorem dX6_factorial_11 : decode cX6_factorial 11 = .ok (.imul, 1) := by decide +kernel
theorem dX6_factorial_12 : decode cX6_factorial 12 = .ok (.istore_n 1, 1) := by decide +kernel
theorem dX6_factorial_13 : decode cX6_factorial 13 = .ok (.iinc 2 1, 3) := by decide +kernel
theorem dX6_factorial_16 : decode cX6_factorial 16 = .ok (.goto (-12), 3) := by decide +kernel
theorem dX6_factorial_19 : decode cX6_factorial 19 = .ok (.iload_n 1, 1) := by decide +kernel
theorem dX6_factorial_20 : decode cX6_factorial 20 = .ok (.ireturn, 1) := by decide +kernel
theorem dX6_common_0 : decode cX6_common 0 = .ok (.iload_n 0, 1) := by decide +kernel
theorem dX6_common_1 : decode cX6_common 1 = .ok (.ifCond .ge 8, 3) := by decide +kernel
theorem dX6_common_4 : decode cX6_common 4 = .ok (.iload_n 0, 1) := by decide +kernel
theorem dX6_common_5 : decode cX6_common 5 = .ok (.ineg, 1) := by decide +kernel
theorem dX6_common_6 : decode cX6_common 6 = .ok (.goto 4, 3) := by decide +kernel
theorem dX6_common_9 : decode cX6_common 9 = .ok (.iload_n 0, 1) := by decide +kernel
theorem dX6_common_10 : decode cX6_common 10 = .ok (.istore_n 2, 1) := by decide +kernel
theorem dX6_common_11 : decode cX6_common 11 = .ok (.iload_n 1, 1) := by decide +kernel
theorem dX6_common_12 : decode cX6_common 12 = .ok (.istore_n 3, 1) := by decide +kernel
theorem dX6_common_13 : decode cX6_common 13 = .ok (.iload_n 3, 1) := by decide +kernel
theorem dX6_common_14 : decode cX6_common 14 = .ok (.ifCond .eq 16, 3) := by decide +kernel
theorem dX6_common_17 : decode cX6_common 17 = .ok (.iload_n 2, 1) := by decide +kernel
theorem dX6_common_18 : decode cX6_common 18 = .ok (.iload_n 3, 1) := by decide +kernel
theorem dX6_common_19 : decode cX6_common 19 = .ok (.irem, 1) := by decide +kernel
theorem dX6_common_20 : decode cX6_common 20 = .ok (.istore 4, 2) := by decide +kernel
theorem dX6_common_22 : decode cX6_common 22 = .ok (.iload_n 3, 1) := by decide +kernel
theorem dX6_common_23 : decode cX6_common 23 = .ok (.istore_n 2, 1) := by decide +kernel
theorem dX6_common_24 : decode cX6_common 24 = .ok (.iload 4, 2) := by decide +kernel
theorem dX6_common_26 : decode cX6_common 26 = .ok (.istore_n 3, 1) := by decide +kernel
theorem dX6_common_27 : decode cX6_common 27 = .ok (.goto (-14), 3) := by decide +kernel
theorem dX6_common_30 : decode cX6_common 30 = .ok (.iload_n 2, 1) := by decide +kernel
theorem dX6_common_31 : decode cX6_common 31 = .ok (.ireturn, 1) := by decide +kernel
theorem dX6_reached_0 : decode cX6_reached 0 = .ok (.iconst 0, 1) := by decide +kernel
theorem dX6_reached_1 : decode cX6_reached 1 = .ok (.istore_n 2, 1) := by decide +kernel
theorem dX6_reached_2 : decode cX6_reached 2 = .ok (.iconst 0, 1) := by decide +kernel
theorem dX6_reached_3 : decode cX6_reached 3 = .ok (.istore_n 3, 1) := by decide +kernel
theorem dX6_reached_4 : decode cX6_reached 4 = .ok (.iload_n 3, 1) := by decide +kernel
theorem dX6_reached_5 : decode cX6_reached 5 = .ok (.bipush 10, 2) := by decide +kernel
theorem dX6_reached_7 : decode cX6_reached 7 = .ok (.if_icmp .ge 74, 3) := by decide +kernel
theorem dX6_reached_10 : decode cX6_reached 10 = .ok (.iconst 0, 1) := by decide +kernel
theorem dX6_reached_11 : decode cX6_reached 11 = .ok (.istore 4, 2) := by decide +kernel
theorem dX6_reached_13 : decode cX6_reached 13 = .ok (.iconst 0, 1) := by decide +kernel
theorem dX6_reached_14 : decode cX6_reached 14 = .ok (.istore 5, 2) := by decide +kernel
theorem dX6_reached_16 : decode cX6_reached 16 = .ok (.iload 5, 2) := by decide +kernel
theorem dX6_reached_18 : decode cX6_reached 18 = .ok (.aload_n 0, 1) := by decide +kernel
theorem dX6_reached_19 : decode cX6_reached 19 = .ok (.getfield 80, 3) := by decide +kernel
theorem dX6_reached_22 : decode cX6_reached 22 = .ok (.if_icmp .ge 40, 3) := by decide +kernel
theorem dX6_reached_25 : decode cX6_reached 25 = .ok (.iload 4, 2) := by decide +kernel
theorem dX6_reached_27 : decode cX6_reached 27 = .ok (.ifCond .ne 22, 3) := by decide +kernel
theorem dX6_reached_30 : decode cX6_reached 30 = .ok (.iload_n 1, 1) := by decide +kernel
theorem dX6_reached_31 : decode cX6_reached 31 = .ok (.iload 5, 2) := by decide +kernel
theorem dX6_reached_33 : decode cX6_reached 33 = .ok (.invokestatic 89, 3) := by decide +kernel
theorem dX6_reached_36 : decode cX6_reached 36 = .ok (.ifCond .eq 17, 3) := by decide +kernel
theorem dX6_reached_39 : decode cX6_reached 39 = .ok (.aload_n 0, 1) := by decide +kernel
theorem dX6_reached_40 : decode cX6_reached 40 = .ok (.iload 5, 2) := by decide +kernel
theorem dX6_reached_42 : decode cX6_reached 42 = .ok (.iload_n 3, 1) := by decide +kernel
theorem dX6_reached_43 : decode cX6_reached 43 = .ok (.invokevirtual 104, 3) := by decide +kernel
theorem dX6_reached_46 : decode cX6_reached 46 = .ok (.ifCond .eq 7, 3) := by decide +kernel
theorem dX6_reached_49 : decode cX6_reached 49 = .ok (.iconst 1, 1) := by decide +kernel
theorem dX6_reached_50 : decode cX6_reached 50 = .ok (.goto 4, 3) := by decide +kernel
theorem dX6_reached_53 : decode cX6_reached 53 = .ok (.iconst 0, 1) := by decide +kernel
theorem dX6_reached_54 : decode cX6_reached 54 = .ok (.istore 4, 2) := by decide +kernel
theorem dX6_reached_56 : decode cX6_reached 56 = .ok (.iinc 5 1, 3) := by decide +kernel
theorem dX6_reached_59 : decode cX6_reached 59 = .ok (.goto (-43), 3) := by decide +kernel
theorem dX6_reached_62 : decode cX6_reached 62 = .ok (.iload_n 2, 1) := by decide +kernel
theorem dX6_reached_63 : decode cX6_reached 63 = .ok (.iload 4, 2) := by decide +kernel
theorem dX6_reached_65 : decode cX6_reached 65 = .ok (.ifCond .eq 7, 3) := by decide +kernel
theorem dX6_reached_68 : decode cX6_reached 68 = .ok (.iconst 1, 1) := by decide +kernel
theorem dX6_reached_69 : decode cX6_reached 69 = .ok (.goto 4, 3) := by decide +kernel
theorem dX6_reached_72 : decode cX6_reached 72 = .ok (.iconst 0, 1) := by decide +kernel
theorem dX6_reached_73 : decode cX6_reached 73 = .ok (.iadd, 1) := by decide +kernel
theorem dX6_reached_74 : decode cX6_reached 74 = .ok (.istore_n 2, 1) := by decide +kernel
theorem dX6_reached_75 : decode cX6_reached 75 = .ok (.iinc 3 1, 3) := by decide +kernel
theorem dX6_reached_78 : decode cX6_reached 78 = .ok (.goto (-74), 3) := by decide +kernel
theorem dX6_reached_81 : decode cX6_reached 81 = .ok (.iload_n 2, 1) := by decide +kernel
theorem dX6_reached_82 : decode cX6_reached 82 = .ok (.ireturn, 1) := by decide +kernel
theorem dX6_share_0 : decode cX6_share 0 = .ok (.aload_n 0, 1) := by decide +kernel
theorem dX6_share_1 : decode cX6_share 1 = .ok (.iload_n 1, 1) := by decide +kernel
theorem dX6_share_2 : decode cX6_share 2 = .ok (.invokevirtual 107, 3) := by decide +kernel
theorem dX6_share_5 : decode cX6_share 5 = .ok (.ifCond .ne 5, 3) := by decide +kernel
theorem dX6_share_8 : decode cX6_share 8 = .ok (.iconst (-1), 1) := by decide +kernel
theorem dX6_share_9 : decode cX6_share 9 = .ok (.ireturn, 1) := by decide +kernel
theorem dX6_share_10 : decode cX6_share 10 = .ok (.iconst 0, 1) := by decide +kernel
theorem dX6_share_11 : decode cX6_share 11 = .ok (.istore_n 3, 1) := by decide +kernel
theorem dX6_share_12 : decode cX6_share 12 = .ok (.iconst 0, 1) := by decide +kernel
theorem dX6_share_13 : decode cX6_share 13 = .ok (.istore 4, 2) := by decide +kernel
theorem dX6_share_15 : decode cX6_share 15 = .ok (.iload 4, 2) := by decide +kernel
theorem dX6_share_17 : decode cX6_share 17 = .ok (.iconst 1, 1) := by decide +kernel
theorem dX6_share_18 : decode cX6_share 18 = .ok (.aload_n 0, 1) := by decide +kernel
theorem dX6_share_19 : decode cX6_share 19 = .ok (.getfield 80, 3) := by decide +kernel
theorem dX6_share_22 : decode cX6_share 22 = .ok (.ishl, 1) := by decide +kernel
theorem dX6_share_23 : decode cX6_share 23 = .ok (.if_icmp .ge 67, 3) := by decide +kernel
theorem dX6_share_26 : decode cX6_share 26 = .ok (.iload 4, 2) := by decide +kernel
theorem dX6_share_28 : decode cX6_share 28 = .ok (.iload_n 1, 1) := by decide +kernel
theorem dX6_share_29 : decode cX6_share 29 = .ok (.invokestatic 89, 3) := by decide +kernel
theorem dX6_share_32 : decode cX6_share 32 = .ok (.ifCond .ne 52, 3) := by decide +kernel
theorem dX6_share_35 : decode cX6_share 35 = .ok (.iload 4, 2) := by decide +kernel
theorem dX6_share_37 : decode cX6_share 37 = .ok (.invokestatic 163, 3) := by decide +kernel
theorem dX6_share_40 : decode cX6_share 40 = .ok (.invokestatic 166, 3) := by decide +kernel
theorem dX6_share_43 : decode cX6_share 43 = .ok (.aload_n 0, 1) := by decide +kernel
theorem dX6_share_44 : decode cX6_share 44 = .ok (.getfield 80, 3) := by decide +kernel
theorem dX6_share_47 : decode cX6_share 47 = .ok (.iconst 1, 1) := by decide +kernel
theorem dX6_share_48 : decode cX6_share 48 = .ok (.isub, 1) := by decide +kernel
theorem dX6_share_49 : decode cX6_share 49 = .ok (.iload 4, 2) := by decide +kernel
theorem dX6_share_51 : decode cX6_share 51 = .ok (.invokestatic 163, 3) := by decide +kernel
theorem dX6_share_54 : decode cX6_share 54 = .ok (.isub, 1) := by decide +kernel
theorem dX6_share_55 : decode cX6_share 55 = .ok (.invokestatic 166, 3) := by decide +kernel
theorem dX6_share_58 : decode cX6_share 58 = .ok (.imul, 1) := by decide +kernel
theorem dX6_share_59 : decode cX6_share 59 = .ok (.istore 5, 2) := by decide +kernel
theorem dX6_share_61 : decode cX6_share 61 = .ok (.iload_n 3, 1) := by decide +kernel
theorem dX6_share_62 : decode cX6_share 62 = .ok (.iload 5, 2) := by decide +kernel
theorem dX6_share_64 : decode cX6_share 64 = .ok (.aload_n 0, 1) := by decide +kernel
theorem dX6_share_65 : decode cX6_share 65 = .ok (.iload 4, 2) := by decide +kernel
theorem dX6_share_67 : decode cX6_share 67 = .ok (.iconst 1, 1) := by decide +kernel
theorem dX6_share_68 : decode cX6_share 68 = .ok (.iload_n 1, 1) := by decide +kernel
theorem dX6_share_69 : decode cX6_share 69 = .ok (.ishl, 1) := by decide +kernel
theorem dX6_share_70 : decode cX6_share 70 = .ok (.ior, 1) := by decide +kernel
theorem dX6_share_71 : decode cX6_share 71 = .ok (.invokevirtual 169, 3) := by decide +kernel
theorem dX6_share_74 : decode cX6_share 74 = .ok (.aload_n 0, 1) := by decide +kernel
theorem dX6_share_75 : decode cX6_share 75 = .ok (.iload 4, 2) := by decide +kernel
theorem dX6_share_77 : decode cX6_share 77 = .ok (.invokevirtual 169, 3) := by decide +kernel
theorem dX6_share_80 : decode cX6_share 80 = .ok (.isub, 1) := by decide +kernel
theorem dX6_share_81 : decode cX6_share 81 = .ok (.imul, 1) := by decide +kernel
theorem dX6_share_82 : decode cX6_share 82 = .ok (.iadd, 1) := by decide +kernel
theorem dX6_share_83 : decode cX6_share 83 = .ok (.istore_n 3, 1) := by decide +kernel
theorem dX6_share_84 : decode cX6_share 84 = .ok (.iinc 4 1, 3) := by decide +kernel
theorem dX6_share_87 : decode cX6_share 87 = .ok (.goto (-72), 3) := by decide +kernel
theorem dX6_share_90 : decode cX6_share 90 = .ok (.iload_n 3, 1) := by decide +kernel
theorem dX6_share_91 : decode cX6_share 91 = .ok (.aload_n 0, 1) := by decide +kernel
theorem dX6_share_92 : decode cX6_share 92 = .ok (.getfield 80, 3) := by decide +kernel
theorem dX6_share_95 : decode cX6_share 95 = .ok (.invokestatic 166, 3) := by decide +kernel
theorem dX6_share_98 : decode cX6_share 98 = .ok (.invokestatic 172, 3) := by decide +kernel
theorem dX6_share_101 : decode cX6_share 101 = .ok (.istore 4, 2) := by decide +kernel
theorem dX6_share_103 : decode cX6_share 103 = .ok (.iload_n 2, 1) := by decide +kernel
theorem dX6_share_104 : decode cX6_share 104 = .ok (.ifCond .eq 10, 3) := by decide +kernel
theorem dX6_share_107 : decode cX6_share 107 = .ok (.iload_n 3, 1) := by decide +kernel
theorem dX6_share_108 : decode cX6_share 108 = .ok (.iload 4, 2) := by decide +kernel
theorem dX6_share_110 : decode cX6_share 110 = .ok (.idiv, 1) := by decide +kernel
theorem dX6_share_111 : decode cX6_share 111 = .ok (.goto 13, 3) := by decide +kernel
theorem dX6_share_114 : decode cX6_share 114 = .ok (.aload_n 0, 1) := by decide +kernel
theorem dX6_share_115 : decode cX6_share 115 = .ok (.getfield 80, 3) := by decide +kernel
theorem dX6_share_118 : decode cX6_share 118 = .ok (.invokestatic 166, 3) := by decide +kernel
theorem dX6_share_121 : decode cX6_share 121 = .ok (.iload 4, 2) := by decide +kernel
theorem dX6_share_123 : decode cX6_share 123 = .ok (.idiv, 1) := by decide +kernel
theorem dX6_share_124 : decode cX6_share 124 = .ok (.ireturn, 1) := by decide +kernel
theorem dX6_gain_0 : decode cX6_gain 0 = .ok (.iload_n 2, 1) := by decide +kernel
theorem dX6_gain_1 : decode cX6_gain 1 = .ok (.ifCond .ne 5, 3) := by decide +kernel
theorem dX6_gain_4 : decode cX6_gain 4 = .ok (.iconst 0, 1) := by decide +kernel
theorem dX6_gain_5 : decode cX6_gain 5 = .ok (.ireturn, 1) := by decide +kernel
theorem dX6_gain_6 : decode cX6_gain 6 = .ok (.aload_n 0, 1) := by decide +kernel
theorem dX6_gain_7 : decode cX6_gain 7 = .ok (.getfield 19, 3) := by decide +kernel
theorem dX6_gain_10 : decode cX6_gain 10 = .ok (.iconst 5, 1) := by decide +kernel
theorem dX6_gain_11 : decode cX6_gain 11 = .ok (.iaload, 1) := by decide +kernel
theorem dX6_gain_12 : decode cX6_gain 12 = .ok (.istore 4, 2) := by decide +kernel
theorem dX6_gain_14 : decode cX6_gain 14 = .ok (.aload_n 0, 1) := by decide +kernel
theorem dX6_gain_15 : decode cX6_gain 15 = .ok (.aload_n 0, 1) := by decide +kernel
theorem dX6_gain_16 : decode cX6_gain 16 = .ok (.getfield 19, 3) := by decide +kernel
theorem dX6_gain_19 : decode cX6_gain 19 = .ok (.iload_n 1, 1) := by decide +kernel
theorem dX6_gain_20 : decode cX6_gain 20 = .ok (.iaload, 1) := by decide +kernel
theorem dX6_gain_21 : decode cX6_gain 21 = .ok (.iconst 2, 1) := by decide +kernel
theorem dX6_gain_22 : decode cX6_gain 22 = .ok (.iload_n 3, 1) := by decide +kernel
theorem dX6_gain_23 : decode cX6_gain 23 = .ok (.imul, 1) := by decide +kernel
theorem dX6_gain_24 : decode cX6_gain 24 = .ok (.isub, 1) := by decide +kernel
theorem dX6_gain_25 : decode cX6_gain 25 = .ok (.iload_n 1, 1) := by decide +kernel
theorem dX6_gain_26 : decode cX6_gain 26 = .ok (.iload 4, 2) := by decide +kernel
theorem dX6_gain_28 : decode cX6_gain 28 = .ok (.bipush 15, 2) := by decide +kernel
theorem dX6_gain_30 : decode cX6_gain 30 = .ok (.invokevirtual 100, 3) := by decide +kernel
theorem dX6_gain_33 : decode cX6_gain 33 = .ok (.istore 5, 2) := by decide +kernel
theorem dX6_gain_35 : decode cX6_gain 35 = .ok (.iload 5, 2) := by decide +kernel
theorem dX6_gain_37 : decode cX6_gain 37 = .ok (.ifCond .ne 7, 3) := by decide +kernel
theorem dX6_gain_40 : decode cX6_gain 40 = .ok (.iconst (-1), 1) := by decide +kernel
theorem dX6_gain_41 : decode cX6_gain 41 = .ok (.goto 6, 3) := by decide +kernel
theorem dX6_gain_44 : decode cX6_gain 44 = .ok (.iconst 3, 1) := by decide +kernel
theorem dX6_gain_45 : decode cX6_gain 45 = .ok (.iload_n 3, 1) := by decide +kernel
theorem dX6_gain_46 : decode cX6_gain 46 = .ok (.isub, 1) := by decide +kernel
theorem dX6_gain_47 : decode cX6_gain 47 = .ok (.ireturn, 1) := by decide +kernel
theorem dX6_isRest_0 : decode cX6_isRest 0 = .ok (.aload_n 0, 1) := by decide +kernel
theorem dX6_isRest_1 : decode cX6_isRest 1 = .ok (.iload_n 1, 1) := by decide +kernel
theorem dX6_isRest_2 : decode cX6_isRest 2 = .ok (.iconst 1, 1) := by decide +kernel
theorem dX6_isRest_3 : decode cX6_isRest 3 = .ok (.iload_n 3, 1) := by decide +kernel
theorem dX6_isRest_4 : decode cX6_isRest 4 = .ok (.isub, 1) := by decide +kernel
theorem dX6_isRest_5 : decode cX6_isRest 5 = .ok (.iload 4, 2) := by decide +kernel
theorem dX6_isRest_7 : decode cX6_isRest 7 = .ok (.invokevirtual 175, 3) := by decide +kernel
theorem dX6_isRest_10 : decode cX6_isRest 10 = .ok (.aload_n 0, 1) := by decide +kernel
theorem dX6_isRest_11 : decode cX6_isRest 11 = .ok (.iload_n 1, 1) := by decide +kernel
theorem dX6_isRest_12 : decode cX6_isRest 12 = .ok (.iload_n 3, 1) := by decide +kernel
theorem dX6_isRest_13 : decode cX6_isRest 13 = .ok (.iload 4, 2) := by decide +kernel
theorem dX6_isRest_15 : decode cX6_isRest 15 = .ok (.invokevirtual 175, 3) := by decide +kernel
theorem dX6_isRest_18 : decode cX6_isRest 18 = .ok (.if_icmp .gt 28, 3) := by decide +kernel
theorem dX6_isRest_21 : decode cX6_isRest 21 = .ok (.aload_n 0, 1) := by decide +kernel
theorem dX6_isRest_22 : decode cX6_isRest 22 = .ok (.iload_n 2, 1) := by decide +kernel
theorem dX6_isRest_23 : decode cX6_isRest 23 = .ok (.iconst 1, 1) := by decide +kernel
theorem dX6_isRest_24 : decode cX6_isRest 24 = .ok (.iload 4, 2) := by decide +kernel
theorem dX6_isRest_26 : decode cX6_isRest 26 = .ok (.isub, 1) := by decide +kernel
theorem dX6_isRest_27 : decode cX6_isRest 27 = .ok (.iload_n 3, 1) := by decide +kernel
theorem dX6_isRest_28 : decode cX6_isRest 28 = .ok (.invokevirtual 175, 3) := by decide +kernel
theorem dX6_isRest_31 : decode cX6_isRest 31 = .ok (.aload_n 0, 1) := by decide +kernel
theorem dX6_isRest_32 : decode cX6_isRest 32 = .ok (.iload_n 2, 1) := by decide +kernel
theorem dX6_isRest_33 : decode cX6_isRest 33 = .ok (.iload 4, 2) := by decide +kernel
theorem dX6_isRest_35 : decode cX6_isRest 35 = .ok (.iload_n 3, 1) := by decide +kernel
theorem dX6_isRest_36 : decode cX6_isRest 36 = .ok (.invokevirtual 175, 3) := by decide +kernel
theorem dX6_isRest_39 : decode cX6_isRest 39 = .ok (.if_icmp .gt 7, 3) := by decide +kernel
theorem dX6_isRest_42 : decode cX6_isRest 42 = .ok (.iconst 1, 1) := by decide +kernel
theorem dX6_isRest_43 : decode cX6_isRest 43 = .ok (.goto 4, 3) := by decide +kernel
theorem dX6_isRest_46 : decode cX6_isRest 46 = .ok (.iconst 0, 1) := by decide +kernel
theorem dX6_isRest_47 : decode cX6_isRest 47 = .ok (.ireturn, 1) := by decide +kernel
theorem dX6_rests_0 : decode cX6_rests 0 = .ok (.aload_n 0, 1) := by decide +kernel
theorem dX6_rests_1 : decode cX6_rests 1 = .ok (.iload_n 1, 1) := by decide +kernel
theorem dX6_rests_2 : decode cX6_rests 2 = .ok (.invokevirtual 107, 3) := by decide +kernel
theorem dX6_rests_5 : decode cX6_rests 5 = .ok (.ifCond .eq 11, 3) := by decide +kernel
theorem dX6_rests_8 : decode cX6_rests 8 = .ok (.aload_n 0, 1) := by decide +kernel
theorem dX6_rests_9 : decode cX6_rests 9 = .ok (.iload_n 2, 1) := by decide +kernel
theorem dX6_rests_10 : decode cX6_rests 10 = .ok (.invokevirtual 107, 3) := by decide +kernel
theorem dX6_rests_13 : decode cX6_rests 13 = .ok (.ifCond .ne 5, 3) := by decide +kernel
theorem dX6_rests_16 : decode cX6_rests 16 = .ok (.iconst (-1), 1) := by decide +kernel
theorem dX6_rests_17 : decode cX6_rests 17 = .ok (.ireturn, 1) := by decide +kernel
theorem dX6_rests_18 : decode cX6_rests 18 = .ok (.iload_n 3, 1) := by decide +kernel
theorem dX6_rests_19 : decode cX6_rests 19 = .ok (.i2l, 1) := by decide +kernel
theorem dX6_rests_20 : decode cX6_rests 20 = .ok (.lconst 0, 1) := by decide +kernel
theorem dX6_rests_21 : decode cX6_rests 21 = .ok (.lconst 1, 1) := by decide +kernel
theorem dX6_rests_22 : decode cX6_rests 22 = .ok (.invokestatic 52, 3) := by decide +kernel
theorem dX6_rests_25 : decode cX6_rests 25 = .ok (.ifCond .ne 6, 3) := by decide +kernel
theorem dX6_rests_28 : decode cX6_rests 28 = .ok (.bipush (-2), 2) := by decide +kernel
theorem dX6_rests_30 : decode cX6_rests 30 = .ok (.ireturn, 1) := by decide +kernel
theorem dX6_rests_31 : decode cX6_rests 31 = .ok (.iconst 0, 1) := by decide +kernel
theorem dX6_rests_32 : decode cX6_rests 32 = .ok (.istore 4, 2) := by decide +kernel
theorem dX6_rests_34 : decode cX6_rests 34 = .ok (.bipush (-9), 2) := by decide +kernel
theorem dX6_rests_36 : decode cX6_rests 36 = .ok (.istore 5, 2) := by decide +kernel
theorem dX6_rests_38 : decode cX6_rests 38 = .ok (.iconst 0, 1) := by decide +kernel
theorem dX6_rests_39 : decode cX6_rests 39 = .ok (.istore 6, 2) := by decide +kernel
theorem dX6_rests_41 : decode cX6_rests 41 = .ok (.iload 6, 2) := by decide +kernel
theorem dX6_rests_43 : decode cX6_rests 43 = .ok (.iconst 4, 1) := by decide +kernel
theorem dX6_rests_44 : decode cX6_rests 44 = .ok (.if_icmp .ge 53, 3) := by decide +kernel
theorem dX6_rests_47 : decode cX6_rests 47 = .ok (.aload_n 0, 1) := by decide +kernel
theorem dX6_rests_48 : decode cX6_rests 48 = .ok (.iload_n 1, 1) := by decide +kernel
theorem dX6_rests_49 : decode cX6_rests 49 = .ok (.iload_n 2, 1) := by decide +kernel
theorem dX6_rests_50 : decode cX6_rests 50 = .ok (.iload 6, 2) := by decide +kernel
theorem dX6_rests_52 : decode cX6_rests 52 = .ok (.iconst 2, 1) := by decide +kernel
theorem dX6_rests_53 : decode cX6_rests 53 = .ok (.idiv, 1) := by decide +kernel
theorem dX6_rests_54 : decode cX6_rests 54 = .ok (.iload 6, 2) := by decide +kernel
theorem dX6_rests_56 : decode cX6_rests 56 = .ok (.iconst 2, 1) := by decide +kernel
theorem dX6_rests_57 : decode cX6_rests 57 = .ok (.irem, 1) := by decide +kernel
theorem dX6_rests_58 : decode cX6_rests 58 = .ok (.invokevirtual 178, 3) := by decide +kernel
theorem dX6_rests_61 : decode cX6_rests 61 = .ok (.ifCond .eq 30, 3) := by decide +kernel
theorem dX6_rests_64 : decode cX6_rests 64 = .ok (.iload 4, 2) := by decide +kernel
theorem dX6_rests_66 : decode cX6_rests 66 = .ok (.ifCond .ne 18, 3) := by decide +kernel
theorem dX6_rests_69 : decode cX6_rests 69 = .ok (.bipush 10, 2) := by decide +kernel
theorem dX6_rests_71 : decode cX6_rests 71 = .ok (.iload 6, 2) := by decide +kernel
theorem dX6_rests_73 : decode cX6_rests 73 = .ok (.iconst 2, 1) := by decide +kernel
theorem dX6_rests_74 : decode cX6_rests 74 = .ok (.idiv, 1) := by decide +kernel
theorem dX6_rests_75 : decode cX6_rests 75 = .ok (.imul, 1) := by decide +kernel
theorem dX6_rests_76 : decode cX6_rests 76 = .ok (.iload 6, 2) := by decide +kernel
theorem dX6_rests_78 : decode cX6_rests 78 = .ok (.iconst 2, 1) := by decide +kernel
theorem dX6_rests_79 : decode cX6_rests 79 = .ok (.irem, 1) := by decide +kernel
theorem dX6_rests_80 : decode cX6_rests 80 = .ok (.iadd, 1) := by decide +kernel
theorem dX6_rests_81 : decode cX6_rests 81 = .ok (.goto 5, 3) := by decide +kernel
theorem dX6_rests_84 : decode cX6_rests 84 = .ok (.iload 5, 2) := by decide +kernel
theorem dX6_rests_86 : decode cX6_rests 86 = .ok (.istore 5, 2) := by decide +kernel
theorem dX6_rests_88 : decode cX6_rests 88 = .ok (.iinc 4 1, 3) := by decide +kernel
theorem dX6_rests_91 : decode cX6_rests 91 = .ok (.iinc 6 1, 3) := by decide +kernel
theorem dX6_rests_94 : decode cX6_rests 94 = .ok (.goto (-53), 3) := by decide +kernel
theorem dX6_rests_97 : decode cX6_rests 97 = .ok (.iload_n 3, 1) := by decide +kernel
theorem dX6_rests_98 : decode cX6_rests 98 = .ok (.ifCond .ne 8, 3) := by decide +kernel
theorem dX6_rests_101 : decode cX6_rests 101 = .ok (.iload 4, 2) := by decide +kernel
theorem dX6_rests_103 : decode cX6_rests 103 = .ok (.goto 5, 3) := by decide +kernel
theorem dX6_rests_106 : decode cX6_rests 106 = .ok (.iload 5, 2) := by decide +kernel
theorem dX6_rests_108 : decode cX6_rests 108 = .ok (.ireturn, 1) := by decide +kernel
theorem dX6_there_0 : decode cX6_there 0 = .ok (.aload_n 0, 1) := by decide +kernel
theorem dX6_there_1 : decode cX6_there 1 = .ok (.iload_n 1, 1) := by decide +kernel
theorem dX6_there_2 : decode cX6_there 2 = .ok (.invokevirtual 107, 3) := by decide +kernel
theorem dX6_there_5 : decode cX6_there 5 = .ok (.ifCond .ne 5, 3) := by decide +kernel
theorem dX6_there_8 : decode cX6_there 8 = .ok (.iconst (-1), 1) := by decide +kernel
theorem dX6_there_9 : decode cX6_there 9 = .ok (.ireturn, 1) := by decide +kernel
theorem dX6_there_10 : decode cX6_there 10 = .ok (.iload_n 2, 1) := by decide +kernel
theorem dX6_there_11 : decode cX6_there 11 = .ok (.i2l, 1) := by decide +kernel
theorem dX6_there_12 : decode cX6_there 12 = .ok (.lconst 0, 1) := by decide +kernel
theorem dX6_there_13 : decode cX6_there 13 = .ok (.ldc2_w 181, 3) := by decide +kernel
theorem dX6_there_16 : decode cX6_there 16 = .ok (.invokestatic 52, 3) := by decide +kernel
theorem dX6_there_19 : decode cX6_there 19 = .ok (.ifCond .ne 6, 3) := by decide +kernel
theorem dX6_there_22 : decode cX6_there 22 = .ok (.bipush (-2), 2) := by decide +kernel
theorem dX6_there_24 : decode cX6_there 24 = .ok (.ireturn, 1) := by decide +kernel
theorem dX6_there_25 : decode cX6_there 25 = .ok (.iconst 0, 1) := by decide +kernel
theorem dX6_there_26 : decode cX6_there 26 = .ok (.istore 4, 2) := by decide +kernel
theorem dX6_there_28 : decode cX6_there 28 = .ok (.iconst 0, 1) := by decide +kernel
theorem dX6_there_29 : decode cX6_there 29 = .ok (.istore 5, 2) := by decide +kernel
theorem dX6_there_31 : decode cX6_there 31 = .ok (.iconst 0, 1) := by decide +kernel
theorem dX6_there_32 : decode cX6_there 32 = .ok (.istore 6, 2) := by decide +kernel
theorem dX6_there_34 : decode cX6_there 34 = .ok (.iload 6, 2) := by decide +kernel
theorem dX6_there_36 : decode cX6_there 36 = .ok (.iconst 1, 1) := by decide +kernel
theorem dX6_there_37 : decode cX6_there 37 = .ok (.aload_n 0, 1) := by decide +kernel
theorem dX6_there_38 : decode cX6_there 38 = .ok (.getfield 83, 3) := by decide +kernel
theorem dX6_there_41 : decode cX6_there 41 = .ok (.ishl, 1) := by decide +kernel
theorem dX6_there_42 : decode cX6_there 42 = .ok (.if_icmp .ge 93, 3) := by decide +kernel
theorem dX6_there_45 : decode cX6_there 45 = .ok (.iconst 1, 1) := by decide +kernel
theorem dX6_there_46 : decode cX6_there 46 = .ok (.istore 7, 2) := by decide +kernel
theorem dX6_there_48 : decode cX6_there 48 = .ok (.iconst 0, 1) := by decide +kernel
theorem dX6_there_49 : decode cX6_there 49 = .ok (.istore 8, 2) := by decide +kernel
theorem dX6_there_51 : decode cX6_there 51 = .ok (.iload 8, 2) := by decide +kernel
theorem dX6_there_53 : decode cX6_there 53 = .ok (.aload_n 0, 1) := by decide +kernel
theorem dX6_there_54 : decode cX6_there 54 = .ok (.getfield 83, 3) := by decide +kernel
theorem dX6_there_57 : decode cX6_there 57 = .ok (.if_icmp .ge 32, 3) := by decide +kernel
theorem dX6_there_60 : decode cX6_there 60 = .ok (.iload 7, 2) := by decide +kernel
theorem dX6_there_62 : decode cX6_there 62 = .ok (.iload 6, 2) := by decide +kernel
theorem dX6_there_64 : decode cX6_there 64 = .ok (.iload 8, 2) := by decide +kernel
theorem dX6_there_66 : decode cX6_there 66 = .ok (.invokestatic 89, 3) := by decide +kernel
theorem dX6_there_69 : decode cX6_there 69 = .ok (.ifCond .eq 7, 3) := by decide +kernel
theorem dX6_there_72 : decode cX6_there 72 = .ok (.iload_n 2, 1) := by decide +kernel
theorem dX6_there_73 : decode cX6_there 73 = .ok (.goto 7, 3) := by decide +kernel
theorem dX6_there_76 : decode cX6_there 76 = .ok (.bipush 10, 2) := by decide +kernel
theorem dX6_there_78 : decode cX6_there 78 = .ok (.iload_n 2, 1) := by decide +kernel
theorem dX6_there_79 : decode cX6_there 79 = .ok (.isub, 1) := by decide +kernel
theorem dX6_there_80 : decode cX6_there 80 = .ok (.imul, 1) := by decide +kernel
theorem dX6_there_81 : decode cX6_there 81 = .ok (.istore 7, 2) := by decide +kernel
theorem dX6_there_83 : decode cX6_there 83 = .ok (.iinc 8 1, 3) := by decide +kernel
theorem dX6_there_86 : decode cX6_there 86 = .ok (.goto (-35), 3) := by decide +kernel
theorem dX6_there_89 : decode cX6_there 89 = .ok (.iload 5, 2) := by decide +kernel
theorem dX6_there_91 : decode cX6_there 91 = .ok (.iload 7, 2) := by decide +kernel
theorem dX6_there_93 : decode cX6_there 93 = .ok (.iadd, 1) := by decide +kernel
theorem dX6_there_94 : decode cX6_there 94 = .ok (.istore 5, 2) := by decide +kernel
theorem dX6_there_96 : decode cX6_there 96 = .ok (.iload 4, 2) := by decide +kernel
theorem dX6_there_98 : decode cX6_there 98 = .ok (.aload_n 0, 1) := by decide +kernel
theorem dX6_there_99 : decode cX6_there 99 = .ok (.aload_n 0, 1) := by decide +kernel
theorem dX6_there_100 : decode cX6_there 100 = .ok (.getfield 19, 3) := by decide +kernel
theorem dX6_there_103 : decode cX6_there 103 = .ok (.iload_n 1, 1) := by decide +kernel
theorem dX6_there_104 : decode cX6_there 104 = .ok (.iaload, 1) := by decide +kernel
theorem dX6_there_105 : decode cX6_there 105 = .ok (.iload_n 1, 1) := by decide +kernel
theorem dX6_there_106 : decode cX6_there 106 = .ok (.aload_n 0, 1) := by decide +kernel
theorem dX6_there_107 : decode cX6_there 107 = .ok (.getfield 19, 3) := by decide +kernel
theorem dX6_there_110 : decode cX6_there 110 = .ok (.iconst 5, 1) := by decide +kernel
theorem dX6_there_111 : decode cX6_there 111 = .ok (.iaload, 1) := by decide +kernel
theorem dX6_there_112 : decode cX6_there 112 = .ok (.iload 6, 2) := by decide +kernel
theorem dX6_there_114 : decode cX6_there 114 = .ok (.invokevirtual 100, 3) := by decide +kernel
theorem dX6_there_117 : decode cX6_there 117 = .ok (.ifCond .eq 8, 3) := by decide +kernel
theorem dX6_there_120 : decode cX6_there 120 = .ok (.iload 7, 2) := by decide +kernel
theorem dX6_there_122 : decode cX6_there 122 = .ok (.goto 4, 3) := by decide +kernel
theorem dX6_there_125 : decode cX6_there 125 = .ok (.iconst 0, 1) := by decide +kernel
theorem dX6_there_126 : decode cX6_there 126 = .ok (.iadd, 1) := by decide +kernel
theorem dX6_there_127 : decode cX6_there 127 = .ok (.istore 4, 2) := by decide +kernel
theorem dX6_there_129 : decode cX6_there 129 = .ok (.iinc 6 1, 3) := by decide +kernel
theorem dX6_there_132 : decode cX6_there 132 = .ok (.goto (-98), 3) := by decide +kernel
theorem dX6_there_135 : decode cX6_there 135 = .ok (.iload 4, 2) := by decide +kernel
theorem dX6_there_137 : decode cX6_there 137 = .ok (.iload 5, 2) := by decide +kernel
theorem dX6_there_139 : decode cX6_there 139 = .ok (.invokestatic 172, 3) := by decide +kernel
theorem dX6_there_142 : decode cX6_there 142 = .ok (.istore 6, 2) := by decide +kernel
theorem dX6_there_144 : decode cX6_there 144 = .ok (.iload_n 3, 1) := by decide +kernel
theorem dX6_there_145 : decode cX6_there 145 = .ok (.ifCond .eq 11, 3) := by decide +kernel
theorem dX6_there_148 : decode cX6_there 148 = .ok (.iload 4, 2) := by decide +kernel
theorem dX6_there_150 : decode cX6_there 150 = .ok (.iload 6, 2) := by decide +kernel
theorem dX6_there_152 : decode cX6_there 152 = .ok (.idiv, 1) := by decide +kernel
theorem dX6_there_153 : decode cX6_there 153 = .ok (.goto 8, 3) := by decide +kernel
theorem dX6_there_156 : decode cX6_there 156 = .ok (.iload 5, 2) := by decide +kernel
theorem dX6_there_158 : decode cX6_there 158 = .ok (.iload 6, 2) := by decide +kernel
theorem dX6_there_160 : decode cX6_there 160 = .ok (.idiv, 1) := by decide +kernel
theorem dX6_there_161 : decode cX6_there 161 = .ok (.ireturn, 1) := by decide +kernel
theorem dX6_seed_0 : decode cX6_seed 0 = .ok (.aload_n 0, 1) := by decide +kernel
theorem dX6_seed_1 : decode cX6_seed 1 = .ok (.getfield 183, 3) := by decide +kernel
theorem dX6_seed_4 : decode cX6_seed 4 = .ok (.lstore_n 3, 1) := by decide +kernel
theorem dX6_seed_5 : decode cX6_seed 5 = .ok (.aload_n 0, 1) := by decide +kernel
theorem dX6_seed_6 : decode cX6_seed 6 = .ok (.lload_n 1, 1) := by decide +kernel
theorem dX6_seed_7 : decode cX6_seed 7 = .ok (.putfield 183, 3) := by decide +kernel
theorem dX6_seed_10 : decode cX6_seed 10 = .ok (.lload_n 3, 1) := by decide +kernel
theorem dX6_seed_11 : decode cX6_seed 11 = .ok (.lreturn, 1) := by decide +kernel
theorem dX6_walks_0 : decode cX6_walks 0 = .ok (.iload_n 1, 1) := by decide +kernel
theorem dX6_walks_1 : decode cX6_walks 1 = .ok (.i2l, 1) := by decide +kernel
theorem dX6_walks_2 : decode cX6_walks 2 = .ok (.lconst 1, 1) := by decide +kernel
theorem dX6_walks_3 : decode cX6_walks 3 = .ok (.ldc2_w 187, 3) := by decide +kernel
theorem dX6_walks_6 : decode cX6_walks 6 = .ok (.invokestatic 52, 3) := by decide +kernel
theorem dX6_walks_9 : decode cX6_walks 9 = .ok (.ifCond .ne 6, 3) := by decide +kernel
theorem dX6_walks_12 : decode cX6_walks 12 = .ok (.bipush (-2), 2) := by decide +kernel
theorem dX6_walks_14 : decode cX6_walks 14 = .ok (.ireturn, 1) := by decide +kernel
theorem dX6_walks_15 : decode cX6_walks 15 = .ok (.aload_n 0, 1) := by decide +kernel
theorem dX6_walks_16 : decode cX6_walks 16 = .ok (.invokevirtual 146, 3) := by decide +kernel
theorem dX6_walks_19 : decode cX6_walks 19 = .ok (.iconst 0, 1) := by decide +kernel
theorem dX6_walks_20 : decode cX6_walks 20 = .ok (.istore_n 2, 1) := by decide +kernel
theorem dX6_walks_21 : decode cX6_walks 21 = .ok (.iconst 0, 1) := by decide +kernel
theorem dX6_walks_22 : decode cX6_walks 22 = .ok (.istore_n 3, 1) := by decide +kernel
theorem dX6_walks_23 : decode cX6_walks 23 = .ok (.iload_n 3, 1) := by decide +kernel
theorem dX6_walks_24 : decode cX6_walks 24 = .ok (.iload_n 1, 1) := by decide +kernel
theorem dX6_walks_25 : decode cX6_walks 25 = .ok (.if_icmp .ge 120, 3) := by decide +kernel
theorem dX6_walks_28 : decode cX6_walks 28 = .ok (.aload_n 0, 1) := by decide +kernel
theorem dX6_walks_29 : decode cX6_walks 29 = .ok (.aload_n 0, 1) := by decide +kernel
theorem dX6_walks_30 : decode cX6_walks 30 = .ok (.getfield 183, 3) := by decide +kernel
theorem dX6_walks_33 : decode cX6_walks 33 = .ok (.ldc2_w 189, 3) := by decide +kernel
theorem dX6_walks_36 : decode cX6_walks 36 = .ok (.lmul, 1) := by decide +kernel
theorem dX6_walks_37 : decode cX6_walks 37 = .ok (.ldc2_w 191, 3) := by decide +kernel
theorem dX6_walks_40 : decode cX6_walks 40 = .ok (.ladd, 1) := by decide +kernel
theorem dX6_walks_41 : decode cX6_walks 41 = .ok (.putfield 183, 3) := by decide +kernel
theorem dX6_walks_44 : decode cX6_walks 44 = .ok (.aload_n 0, 1) := by decide +kernel
theorem dX6_walks_45 : decode cX6_walks 45 = .ok (.getfield 183, 3) := by decide +kernel
theorem dX6_walks_48 : decode cX6_walks 48 = .ok (.bipush 33, 2) := by decide +kernel
theorem dX6_walks_50 : decode cX6_walks 50 = .ok (.lushr, 1) := by decide +kernel
theorem dX6_walks_51 : decode cX6_walks 51 = .ok (.ldc2_w 193, 3) := by decide +kernel
theorem dX6_walks_54 : decode cX6_walks 54 = .ok (.lrem, 1) := by decide +kernel
theorem dX6_walks_55 : decode cX6_walks 55 = .ok (.l2i, 1) := by decide +kernel
theorem dX6_walks_56 : decode cX6_walks 56 = .ok (.istore 4, 2) := by decide +kernel
theorem dX6_walks_58 : decode cX6_walks 58 = .ok (.aload_n 0, 1) := by decide +kernel
theorem dX6_walks_59 : decode cX6_walks 59 = .ok (.getfield 19, 3) := by decide +kernel
theorem dX6_walks_62 : decode cX6_walks 62 = .ok (.bipush 18, 2) := by decide +kernel
theorem dX6_walks_64 : decode cX6_walks 64 = .ok (.iaload, 1) := by decide +kernel
theorem dX6_walks_65 : decode cX6_walks 65 = .ok (.ifCond .ne 74, 3) := by decide +kernel
theorem dX6_walks_68 : decode cX6_walks 68 = .ok (.aload_n 0, 1) := by decide +kernel
theorem dX6_walks_69 : decode cX6_walks 69 = .ok (.iconst 1, 1) := by decide +kernel
theorem dX6_walks_70 : decode cX6_walks 70 = .ok (.iload 4, 2) := by decide +kernel
theorem dX6_walks_72 : decode cX6_walks 72 = .ok (.iconst 5, 1) := by decide +kernel
theorem dX6_walks_73 : decode cX6_walks 73 = .ok (.irem, 1) := by decide +kernel
theorem dX6_walks_74 : decode cX6_walks 74 = .ok (.invokevirtual 135, 3) := by decide +kernel
theorem dX6_walks_77 : decode cX6_walks 77 = .ok (.aload_n 0, 1) := by decide +kernel
theorem dX6_walks_78 : decode cX6_walks 78 = .ok (.iload 4, 2) := by decide +kernel
theorem dX6_walks_80 : decode cX6_walks 80 = .ok (.iconst 5, 1) := by decide +kernel
theorem dX6_walks_81 : decode cX6_walks 81 = .ok (.idiv, 1) := by decide +kernel
theorem dX6_walks_82 : decode cX6_walks 82 = .ok (.invokevirtual 107, 3) := by decide +kernel
theorem dX6_walks_85 : decode cX6_walks 85 = .ok (.ifCond .eq 19, 3) := by decide +kernel
theorem dX6_walks_88 : decode cX6_walks 88 = .ok (.aload_n 0, 1) := by decide +kernel
theorem dX6_walks_89 : decode cX6_walks 89 = .ok (.iconst 1, 1) := by decide +kernel
theorem dX6_walks_90 : decode cX6_walks 90 = .ok (.iload 4, 2) := by decide +kernel
theorem dX6_walks_92 : decode cX6_walks 92 = .ok (.iconst 5, 1) := by decide +kernel
theorem dX6_walks_93 : decode cX6_walks 93 = .ok (.idiv, 1) := by decide +kernel
theorem dX6_walks_94 : decode cX6_walks 94 = .ok (.invokevirtual 126, 3) := by decide +kernel
theorem dX6_walks_97 : decode cX6_walks 97 = .ok (.ifCond .eq 7, 3) := by decide +kernel
theorem dX6_walks_100 : decode cX6_walks 100 = .ok (.iconst 1, 1) := by decide +kernel
theorem dX6_walks_101 : decode cX6_walks 101 = .ok (.goto 4, 3) := by decide +kernel
theorem dX6_walks_104 : decode cX6_walks 104 = .ok (.iconst 0, 1) := by decide +kernel
theorem dX6_walks_105 : decode cX6_walks 105 = .ok (.istore 5, 2) := by decide +kernel
theorem dX6_walks_107 : decode cX6_walks 107 = .ok (.iload_n 2, 1) := by decide +kernel
theorem dX6_walks_108 : decode cX6_walks 108 = .ok (.iload 5, 2) := by decide +kernel
theorem dX6_walks_110 : decode cX6_walks 110 = .ok (.ifCond .eq 7, 3) := by decide +kernel
theorem dX6_walks_113 : decode cX6_walks 113 = .ok (.iconst 1, 1) := by decide +kernel
theorem dX6_walks_114 : decode cX6_walks 114 = .ok (.goto 4, 3) := by decide +kernel
theorem dX6_walks_117 : decode cX6_walks 117 = .ok (.iconst 0, 1) := by decide +kernel
theorem dX6_walks_118 : decode cX6_walks 118 = .ok (.iadd, 1) := by decide +kernel
theorem dX6_walks_119 : decode cX6_walks 119 = .ok (.istore_n 2, 1) := by decide +kernel
theorem dX6_walks_120 : decode cX6_walks 120 = .ok (.iload 5, 2) := by decide +kernel
theorem dX6_walks_122 : decode cX6_walks 122 = .ok (.ifCond .eq 17, 3) := by decide +kernel
theorem dX6_walks_125 : decode cX6_walks 125 = .ok (.aload_n 0, 1) := by decide +kernel
theorem dX6_walks_126 : decode cX6_walks 126 = .ok (.iconst 1, 1) := by decide +kernel
theorem dX6_walks_127 : decode cX6_walks 127 = .ok (.invokevirtual 129, 3) := by decide +kernel
theorem dX6_walks_130 : decode cX6_walks 130 = .ok (.ifCond .eq 9, 3) := by decide +kernel
theorem dX6_walks_133 : decode cX6_walks 133 = .ok (.aload_n 0, 1) := by decide +kernel
theorem dX6_walks_134 : decode cX6_walks 134 = .ok (.iconst 1, 1) := by decide +kernel
theorem dX6_walks_135 : decode cX6_walks 135 = .ok (.invokevirtual 132, 3) := by decide +kernel
theorem dX6_walks_138 : decode cX6_walks 138 = .ok (.pop, 1) := by decide +kernel
theorem dX6_walks_139 : decode cX6_walks 139 = .ok (.iinc 3 1, 3) := by decide +kernel
theorem dX6_walks_142 : decode cX6_walks 142 = .ok (.goto (-119), 3) := by decide +kernel
theorem dX6_walks_145 : decode cX6_walks 145 = .ok (.iload_n 2, 1) := by decide +kernel
theorem dX6_walks_146 : decode cX6_walks 146 = .ok (.ireturn, 1) := by decide +kernel
theorem dX6_keep_0 : decode cX6_keep 0 = .ok (.iload_n 1, 1) := by decide +kernel
theorem dX6_keep_1 : decode cX6_keep 1 = .ok (.i2l, 1) := by decide +kernel
theorem dX6_keep_2 : decode cX6_keep 2 = .ok (.lconst 0, 1) := by decide +kernel
theorem dX6_keep_3 : decode cX6_keep 3 = .ok (.lconst 1, 1) := by decide +kernel
theorem dX6_keep_4 : decode cX6_keep 4 = .ok (.invokestatic 52, 3) := by decide +kernel
theorem dX6_keep_7 : decode cX6_keep 7 = .ok (.ifCond .ne 5, 3) := by decide +kernel
theorem dX6_keep_10 : decode cX6_keep 10 = .ok (.iconst (-1), 1) := by decide +kernel
theorem dX6_keep_11 : decode cX6_keep 11 = .ok (.ireturn, 1) := by decide +kernel
theorem dX6_keep_12 : decode cX6_keep 12 = .ok (.aload_n 0, 1) := by decide +kernel
theorem dX6_keep_13 : decode cX6_keep 13 = .ok (.getfield 43, 3) := by decide +kernel
theorem dX6_keep_16 : decode cX6_keep 16 = .ok (.iload_n 1, 1) := by decide +kernel
theorem dX6_keep_17 : decode cX6_keep 17 = .ok (.iconst 1, 1) := by decide +kernel
theorem dX6_keep_18 : decode cX6_keep 18 = .ok (.bastore, 1) := by decide +kernel
theorem dX6_keep_19 : decode cX6_keep 19 = .ok (.iconst 0, 1) := by decide +kernel
theorem dX6_keep_20 : decode cX6_keep 20 = .ok (.istore_n 2, 1) := by decide +kernel
theorem dX6_keep_21 : decode cX6_keep 21 = .ok (.iload_n 2, 1) := by decide +kernel
theorem dX6_keep_22 : decode cX6_keep 22 = .ok (.bipush 10, 2) := by decide +kernel
theorem dX6_keep_24 : decode cX6_keep 24 = .ok (.if_icmp .ge 26, 3) := by decide +kernel
theorem dX6_keep_27 : decode cX6_keep 27 = .ok (.aload_n 0, 1) := by decide +kernel
theorem dX6_keep_28 : decode cX6_keep 28 = .ok (.getfield 47, 3) := by decide +kernel
theorem dX6_keep_31 : decode cX6_keep 31 = .ok (.bipush 10, 2) := by decide +kernel
theorem dX6_keep_33 : decode cX6_keep 33 = .ok (.iload_n 1, 1) := by decide +kernel
theorem dX6_keep_34 : decode cX6_keep 34 = .ok (.imul, 1) := by decide +kernel
theorem dX6_keep_35 : decode cX6_keep 35 = .ok (.iload_n 2, 1) := by decide +kernel
theorem dX6_keep_36 : decode cX6_keep 36 = .ok (.iadd, 1) := by decide +kernel
theorem dX6_keep_37 : decode cX6_keep 37 = .ok (.aload_n 0, 1) := by decide +kernel
theorem dX6_keep_38 : decode cX6_keep 38 = .ok (.getfield 19, 3) := by decide +kernel
theorem dX6_keep_41 : decode cX6_keep 41 = .ok (.iload_n 2, 1) := by decide +kernel
theorem dX6_keep_42 : decode cX6_keep 42 = .ok (.iaload, 1) := by decide +kernel
theorem dX6_keep_43 : decode cX6_keep 43 = .ok (.iastore, 1) := by decide +kernel
theorem dX6_keep_44 : decode cX6_keep 44 = .ok (.iinc 2 1, 3) := by decide +kernel
theorem dX6_keep_47 : decode cX6_keep 47 = .ok (.goto (-26), 3) := by decide +kernel
theorem dX6_keep_50 : decode cX6_keep 50 = .ok (.aload_n 0, 1) := by decide +kernel
theorem dX6_keep_51 : decode cX6_keep 51 = .ok (.getfield 19, 3) := by decide +kernel
theorem dX6_keep_54 : decode cX6_keep 54 = .ok (.bipush 9, 2) := by decide +kernel
theorem dX6_keep_56 : decode cX6_keep 56 = .ok (.iaload, 1) := by decide +kernel
theorem dX6_keep_57 : decode cX6_keep 57 = .ok (.ireturn, 1) := by decide +kernel
theorem dX6_again_0 : decode cX6_again 0 = .ok (.iload_n 1, 1) := by decide +kernel
theorem dX6_again_1 : decode cX6_again 1 = .ok (.i2l, 1) := by decide +kernel
theorem dX6_again_2 : decode cX6_again 2 = .ok (.lconst 0, 1) := by decide +kernel
theorem dX6_again_3 : decode cX6_again 3 = .ok (.lconst 1, 1) := by decide +kernel
theorem dX6_again_4 : decode cX6_again 4 = .ok (.invokestatic 52, 3) := by decide +kernel
theorem dX6_again_7 : decode cX6_again 7 = .ok (.ifCond .ne 5, 3) := by decide +kernel
theorem dX6_again_10 : decode cX6_again 10 = .ok (.iconst (-1), 1) := by decide +kernel
theorem dX6_again_11 : decode cX6_again 11 = .ok (.ireturn, 1) := by decide +kernel
theorem dX6_again_12 : decode cX6_again 12 = .ok (.aload_n 0, 1) := by decide +kernel
theorem dX6_again_13 : decode cX6_again 13 = .ok (.getfield 43, 3) := by decide +kernel
theorem dX6_again_16 : decode cX6_again 16 = .ok (.iload_n 1, 1) := by decide +kernel
theorem dX6_again_17 : decode cX6_again 17 = .ok (.baload, 1) := by decide +kernel
theorem dX6_again_18 : decode cX6_again 18 = .ok (.ifCond .ne 6, 3) := by decide +kernel
theorem dX6_again_21 : decode cX6_again 21 = .ok (.bipush (-3), 2) := by decide +kernel
theorem dX6_again_23 : decode cX6_again 23 = .ok (.ireturn, 1) := by decide +kernel
theorem dX6_again_24 : decode cX6_again 24 = .ok (.iconst 0, 1) := by decide +kernel
theorem dX6_again_25 : decode cX6_again 25 = .ok (.istore_n 2, 1) := by decide +kernel
theorem dX6_again_26 : decode cX6_again 26 = .ok (.iload_n 2, 1) := by decide +kernel
theorem dX6_again_27 : decode cX6_again 27 = .ok (.bipush 10, 2) := by decide +kernel
theorem dX6_again_29 : decode cX6_again 29 = .ok (.if_icmp .ge 26, 3) := by decide +kernel
theorem dX6_again_32 : decode cX6_again 32 = .ok (.aload_n 0, 1) := by decide +kernel
theorem dX6_again_33 : decode cX6_again 33 = .ok (.getfield 19, 3) := by decide +kernel
theorem dX6_again_36 : decode cX6_again 36 = .ok (.iload_n 2, 1) := by decide +kernel
theorem dX6_again_37 : decode cX6_again 37 = .ok (.aload_n 0, 1) := by decide +kernel
theorem dX6_again_38 : decode cX6_again 38 = .ok (.getfield 47, 3) := by decide +kernel
theorem dX6_again_41 : decode cX6_again 41 = .ok (.bipush 10, 2) := by decide +kernel
theorem dX6_again_43 : decode cX6_again 43 = .ok (.iload_n 1, 1) := by decide +kernel
theorem dX6_again_44 : decode cX6_again 44 = .ok (.imul, 1) := by decide +kernel
theorem dX6_again_45 : decode cX6_again 45 = .ok (.iload_n 2, 1) := by decide +kernel
theorem dX6_again_46 : decode cX6_again 46 = .ok (.iadd, 1) := by decide +kernel
theorem dX6_again_47 : decode cX6_again 47 = .ok (.iaload, 1) := by decide +kernel
theorem dX6_again_48 : decode cX6_again 48 = .ok (.iastore, 1) := by decide +kernel
theorem dX6_again_49 : decode cX6_again 49 = .ok (.iinc 2 1, 3) := by decide +kernel
theorem dX6_again_52 : decode cX6_again 52 = .ok (.goto (-26), 3) := by decide +kernel
theorem dX6_again_55 : decode cX6_again 55 = .ok (.aload_n 0, 1) := by decide +kernel
theorem dX6_again_56 : decode cX6_again 56 = .ok (.iconst 0, 1) := by decide +kernel
theorem dX6_again_57 : decode cX6_again 57 = .ok (.putfield 86, 3) := by decide +kernel
theorem dX6_again_60 : decode cX6_again 60 = .ok (.aload_n 0, 1) := by decide +kernel
theorem dX6_again_61 : decode cX6_again 61 = .ok (.getfield 19, 3) := by decide +kernel
theorem dX6_again_64 : decode cX6_again 64 = .ok (.bipush 9, 2) := by decide +kernel
theorem dX6_again_66 : decode cX6_again 66 = .ok (.iaload, 1) := by decide +kernel
theorem dX6_again_67 : decode cX6_again 67 = .ok (.ireturn, 1) := by decide +kernel
theorem dX6_count_0 : decode cX6_count 0 = .ok (.iload_n 1, 1) := by decide +kernel
theorem dX6_count_1 : decode cX6_count 1 = .ok (.tableswitch 130 0 10 #[59, 64, 69, 74, 81, 88, 96, 104, 112, 120, 125], 59) := by decide +kernel
theorem dX6_count_60 : decode cX6_count 60 = .ok (.aload_n 0, 1) := by decide +kernel
theorem dX6_count_61 : decode cX6_count 61 = .ok (.getfield 56, 3) := by decide +kernel
theorem dX6_count_64 : decode cX6_count 64 = .ok (.ireturn, 1) := by decide +kernel
theorem dX6_count_65 : decode cX6_count 65 = .ok (.aload_n 0, 1) := by decide +kernel
theorem dX6_count_66 : decode cX6_count 66 = .ok (.getfield 80, 3) := by decide +kernel
theorem dX6_count_69 : decode cX6_count 69 = .ok (.ireturn, 1) := by decide +kernel
theorem dX6_count_70 : decode cX6_count 70 = .ok (.aload_n 0, 1) := by decide +kernel
theorem dX6_count_71 : decode cX6_count 71 = .ok (.getfield 83, 3) := by decide +kernel
theorem dX6_count_74 : decode cX6_count 74 = .ok (.ireturn, 1) := by decide +kernel
theorem dX6_count_75 : decode cX6_count 75 = .ok (.aload_n 0, 1) := by decide +kernel
theorem dX6_count_76 : decode cX6_count 76 = .ok (.getfield 19, 3) := by decide +kernel
theorem dX6_count_79 : decode cX6_count 79 = .ok (.iconst 4, 1) := by decide +kernel
theorem dX6_count_80 : decode cX6_count 80 = .ok (.iaload, 1) := by decide +kernel
theorem dX6_count_81 : decode cX6_count 81 = .ok (.ireturn, 1) := by decide +kernel
theorem dX6_count_82 : decode cX6_count 82 = .ok (.aload_n 0, 1) := by decide +kernel
theorem dX6_count_83 : decode cX6_count 83 = .ok (.getfield 19, 3) := by decide +kernel
theorem dX6_count_86 : decode cX6_count 86 = .ok (.iconst 5, 1) := by decide +kernel
theorem dX6_count_87 : decode cX6_count 87 = .ok (.iaload, 1) := by decide +kernel
theorem dX6_count_88 : decode cX6_count 88 = .ok (.ireturn, 1) := by decide +kernel
theorem dX6_count_89 : decode cX6_count 89 = .ok (.aload_n 0, 1) := by decide +kernel
theorem dX6_count_90 : decode cX6_count 90 = .ok (.getfield 19, 3) := by decide +kernel
theorem dX6_count_93 : decode cX6_count 93 = .ok (.bipush 6, 2) := by decide +kernel
theorem dX6_count_95 : decode cX6_count 95 = .ok (.iaload, 1) := by decide +kernel
theorem dX6_count_96 : decode cX6_count 96 = .ok (.ireturn, 1) := by decide +kernel
theorem dX6_count_97 : decode cX6_count 97 = .ok (.aload_n 0, 1) := by decide +kernel
theorem dX6_count_98 : decode cX6_count 98 = .ok (.getfield 19, 3) := by decide +kernel
theorem dX6_count_101 : decode cX6_count 101 = .ok (.bipush 7, 2) := by decide +kernel
theorem dX6_count_103 : decode cX6_count 103 = .ok (.iaload, 1) := by decide +kernel
theorem dX6_count_104 : decode cX6_count 104 = .ok (.ireturn, 1) := by decide +kernel
theorem dX6_count_105 : decode cX6_count 105 = .ok (.aload_n 0, 1) := by decide +kernel
theorem dX6_count_106 : decode cX6_count 106 = .ok (.getfield 19, 3) := by decide +kernel
theorem dX6_count_109 : decode cX6_count 109 = .ok (.bipush 8, 2) := by decide +kernel
theorem dX6_count_111 : decode cX6_count 111 = .ok (.iaload, 1) := by decide +kernel
theorem dX6_count_112 : decode cX6_count 112 = .ok (.ireturn, 1) := by decide +kernel
theorem dX6_count_113 : decode cX6_count 113 = .ok (.aload_n 0, 1) := by decide +kernel
theorem dX6_count_114 : decode cX6_count 114 = .ok (.getfield 19, 3) := by decide +kernel
theorem dX6_count_117 : decode cX6_count 117 = .ok (.bipush 9, 2) := by decide +kernel
theorem dX6_count_119 : decode cX6_count 119 = .ok (.iaload, 1) := by decide +kernel
theorem dX6_count_120 : decode cX6_count 120 = .ok (.ireturn, 1) := by decide +kernel
theorem dX6_count_121 : decode cX6_count 121 = .ok (.aload_n 0, 1) := by decide +kernel
theorem dX6_count_122 : decode cX6_count 122 = .ok (.getfield 86, 3) := by decide +kernel
theorem dX6_count_125 : decode cX6_count 125 = .ok (.ireturn, 1) := by decide +kernel
theorem dX6_count_126 : decode cX6_count 126 = .ok (.aload_n 0, 1) := by decide +kernel
theorem dX6_count_127 : decode cX6_count 127 = .ok (.getfield 160, 3) := by decide +kernel
theorem dX6_count_130 : decode cX6_count 130 = .ok (.ireturn, 1) := by decide +kernel
theorem dX6_count_131 : decode cX6_count 131 = .ok (.bipush (-2), 2) := by decide +kernel
theorem dX6_count_133 : decode cX6_count 133 = .ok (.ireturn, 1) := by decide +kernel
theorem dL_law_0 : decode cL_law 0 = .ok (.new 7, 3) := by decide +kernel
theorem dL_law_3 : decode cL_law 3 = .ok (.dup, 1) := by decide +kernel
theorem dL_law_4 : decode cL_law 4 = .ok (.invokespecial 9, 3) := by decide +kernel
theorem dL_law_7 : decode cL_law 7 = .ok (.astore_n 1, 1) := by decide +kernel
theorem dL_law_8 : decode cL_law 8 = .ok (.new 10, 3) := by decide +kernel
theorem dL_law_11 : decode cL_law 11 = .ok (.dup, 1) := by decide +kernel
theorem dL_law_12 : decode cL_law 12 = .ok (.invokespecial 12, 3) := by decide +kernel
theorem dL_law_15 : decode cL_law 15 = .ok (.astore_n 2, 1) := by decide +kernel
theorem dL_law_16 : decode cL_law 16 = .ok (.iconst 0, 1) := by decide +kernel
theorem dL_law_17 : decode cL_law 17 = .ok (.istore_n 3, 1) := by decide +kernel
theorem dL_law_18 : decode cL_law 18 = .ok (.iload_n 3, 1) := by decide +kernel
theorem dL_law_19 : decode cL_law 19 = .ok (.aload_n 0, 1) := by decide +kernel
theorem dL_law_20 : decode cL_law 20 = .ok (.arraylength, 1) := by decide +kernel
theorem dL_law_21 : decode cL_law 21 = .ok (.iconst 4, 1) := by decide +kernel
theorem dL_law_22 : decode cL_law 22 = .ok (.isub, 1) := by decide +kernel
theorem dL_law_23 : decode cL_law 23 = .ok (.if_icmp .gt 933, 3) := by decide +kernel
theorem dL_law_26 : decode cL_law 26 = .ok (.aload_n 0, 1) := by decide +kernel
theorem dL_law_27 : decode cL_law 27 = .ok (.iload_n 3, 1) := by decide +kernel
theorem dL_law_28 : decode cL_law 28 = .ok (.iaload, 1) := by decide +kernel
theorem dL_law_29 : decode cL_law 29 = .ok (.bipush 31, 2) := by decide +kernel
theorem dL_law_31 : decode cL_law 31 = .ok (.iand, 1) := by decide +kernel
theorem dL_law_32 : decode cL_law 32 = .ok (.tableswitch 918 0 28 #[132, 155, 168, 181, 194, 227, 260, 283, 306, 319, 342, 355, 368, 381, 414, 437, 476, 509, 542, 585, 598, 621, 670, 713, 772, 826, 849, 872, 895], 132) := by decide +kernel
theorem dL_law_164 : decode cL_law 164 = .ok (.aload_n 1, 1) := by decide +kernel
theorem dL_law_165 : decode cL_law 165 = .ok (.aload_n 0, 1) := by decide +kernel
theorem dL_law_166 : decode cL_law 166 = .ok (.iload_n 3, 1) := by decide +kernel
theorem dL_law_167 : decode cL_law 167 = .ok (.iconst 1, 1) := by decide +kernel
theorem dL_law_168 : decode cL_law 168 = .ok (.iadd, 1) := by decide +kernel
theorem dL_law_169 : decode cL_law 169 = .ok (.iaload, 1) := by decide +kernel
theorem dL_law_170 : decode cL_law 170 = .ok (.invokevirtual 13, 3) := by decide +kernel
theorem dL_law_173 : decode cL_law 173 = .ok (.aload_n 2, 1) := by decide +kernel
theorem dL_law_174 : decode cL_law 174 = .ok (.aload_n 0, 1) := by decide +kernel
theorem dL_law_175 : decode cL_law 175 = .ok (.iload_n 3, 1) := by decide +kernel
theorem dL_law_176 : decode cL_law 176 = .ok (.iconst 1, 1) := by decide +kernel
theorem dL_law_177 : decode cL_law 177 = .ok (.iadd, 1) := by decide +kernel
theorem dL_law_178 : decode cL_law 178 = .ok (.iaload, 1) := by decide +kernel
theorem dL_law_179 : decode cL_law 179 = .ok (.invokevirtual 17, 3) := by decide +kernel
theorem dL_law_182 : decode cL_law 182 = .ok (.if_icmp .eq 768, 3) := by decide +kernel
theorem dL_law_185 : decode cL_law 185 = .ok (.iconst 0, 1) := by decide +kernel
theorem dL_law_186 : decode cL_law 186 = .ok (.ireturn, 1) := by decide +kernel
theorem dL_law_187 : decode cL_law 187 = .ok (.aload_n 1, 1) := by decide +kernel
theorem dL_law_188 : decode cL_law 188 = .ok (.invokevirtual 18, 3) := by decide +kernel
theorem dL_law_191 : decode cL_law 191 = .ok (.aload_n 2, 1) := by decide +kernel
theorem dL_law_192 : decode cL_law 192 = .ok (.invokevirtual 22, 3) := by decide +kernel
theorem dL_law_195 : decode cL_law 195 = .ok (.if_icmp .eq 755, 3) := by decide +kernel
theorem dL_law_198 : decode cL_law 198 = .ok (.iconst 0, 1) := by decide +kernel
theorem dL_law_199 : decode cL_law 199 = .ok (.ireturn, 1) := by decide +kernel
theorem dL_law_200 : decode cL_law 200 = .ok (.aload_n 1, 1) := by decide +kernel
theorem dL_law_201 : decode cL_law 201 = .ok (.invokevirtual 23, 3) := by decide +kernel
theorem dL_law_204 : decode cL_law 204 = .ok (.aload_n 2, 1) := by decide +kernel
theorem dL_law_205 : decode cL_law 205 = .ok (.invokevirtual 26, 3) := by decide +kernel
theorem dL_law_208 : decode cL_law 208 = .ok (.if_icmp .eq 742, 3) := by decide +kernel
theorem dL_law_211 : decode cL_law 211 = .ok (.iconst 0, 1) := by decide +kernel
theorem dL_law_212 : decode cL_law 212 = .ok (.ireturn, 1) := by decide +kernel
theorem dL_law_213 : decode cL_law 213 = .ok (.aload_n 1, 1) := by decide +kernel
theorem dL_law_214 : decode cL_law 214 = .ok (.invokevirtual 27, 3) := by decide +kernel
theorem dL_law_217 : decode cL_law 217 = .ok (.aload_n 2, 1) := by decide +kernel
theorem dL_law_218 : decode cL_law 218 = .ok (.invokevirtual 30, 3) := by decide +kernel
theorem dL_law_221 : decode cL_law 221 = .ok (.if_icmp .eq 729, 3) := by decide +kernel
theorem dL_law_224 : decode cL_law 224 = .ok (.iconst 0, 1) := by decide +kernel
theorem dL_law_225 : decode cL_law 225 = .ok (.ireturn, 1) := by decide +kernel
theorem dL_law_226 : decode cL_law 226 = .ok (.aload_n 1, 1) := by decide +kernel
theorem dL_law_227 : decode cL_law 227 = .ok (.aload_n 0, 1) := by decide +kernel
theorem dL_law_228 : decode cL_law 228 = .ok (.iload_n 3, 1) := by decide +kernel
theorem dL_law_229 : decode cL_law 229 = .ok (.iconst 1, 1) := by decide +kernel
theorem dL_law_230 : decode cL_law 230 = .ok (.iadd, 1) := by decide +kernel
theorem dL_law_231 : decode cL_law 231 = .ok (.iaload, 1) := by decide +kernel
theorem dL_law_232 : decode cL_law 232 = .ok (.aload_n 0, 1) := by decide +kernel
theorem dL_law_233 : decode cL_law 233 = .ok (.iload_n 3, 1) := by decide +kernel
theorem dL_law_234 : decode cL_law 234 = .ok (.iconst 2, 1) := by decide +kernel
theorem dL_law_235 : decode cL_law 235 = .ok (.iadd, 1) := by decide +kernel
theorem dL_law_236 : decode cL_law 236 = .ok (.iaload, 1) := by decide +kernel
theorem dL_law_237 : decode cL_law 237 = .ok (.invokevirtual 31, 3) := by decide +kernel
theorem dL_law_240 : decode cL_law 240 = .ok (.aload_n 2, 1) := by decide +kernel
theorem dL_law_241 : decode cL_law 241 = .ok (.aload_n 0, 1) := by decide +kernel
theorem dL_law_242 : decode cL_law 242 = .ok (.iload_n 3, 1) := by decide +kernel
theorem dL_law_243 : decode cL_law 243 = .ok (.iconst 1, 1) := by decide +kernel
theorem dL_law_244 : decode cL_law 244 = .ok (.iadd, 1) := by decide +kernel
theorem dL_law_245 : decode cL_law 245 = .ok (.iaload, 1) := by decide +kernel
theorem dL_law_246 : decode cL_law 246 = .ok (.aload_n 0, 1) := by decide +kernel
theorem dL_law_247 : decode cL_law 247 = .ok (.iload_n 3, 1) := by decide +kernel
theorem dL_law_248 : decode cL_law 248 = .ok (.iconst 2, 1) := by decide +kernel
theorem dL_law_249 : decode cL_law 249 = .ok (.iadd, 1) := by decide +kernel
theorem dL_law_250 : decode cL_law 250 = .ok (.iaload, 1) := by decide +kernel
theorem dL_law_251 : decode cL_law 251 = .ok (.invokevirtual 35, 3) := by decide +kernel
theorem dL_law_254 : decode cL_law 254 = .ok (.if_icmp .eq 696, 3) := by decide +kernel
theorem dL_law_257 : decode cL_law 257 = .ok (.iconst 0, 1) := by decide +kernel
theorem dL_law_258 : decode cL_law 258 = .ok (.ireturn, 1) := by decide +kernel
theorem dL_law_259 : decode cL_law 259 = .ok (.aload_n 1, 1) := by decide +kernel
theorem dL_law_260 : decode cL_law 260 = .ok (.aload_n 0, 1) := by decide +kernel
theorem dL_law_261 : decode cL_law 261 = .ok (.iload_n 3, 1) := by decide +kernel
theorem dL_law_262 : decode cL_law 262 = .ok (.iconst 1, 1) := by decide +kernel
theorem dL_law_263 : decode cL_law 263 = .ok (.iadd, 1) := by decide +kernel
theorem dL_law_264 : decode cL_law 264 = .ok (.iaload, 1) := by decide +kernel
theorem dL_law_265 : decode cL_law 265 = .ok (.aload_n 0, 1) := by decide +kernel
theorem dL_law_266 : decode cL_law 266 = .ok (.iload_n 3, 1) := by decide +kernel
theorem dL_law_267 : decode cL_law 267 = .ok (.iconst 2, 1) := by decide +kernel
theorem dL_law_268 : decode cL_law 268 = .ok (.iadd, 1) := by decide +kernel
theorem dL_law_269 : decode cL_law 269 = .ok (.iaload, 1) := by decide +kernel
theorem dL_law_270 : decode cL_law 270 = .ok (.invokevirtual 36, 3) := by decide +kernel
theorem dL_law_273 : decode cL_law 273 = .ok (.aload_n 2, 1) := by decide +kernel
theorem dL_law_274 : decode cL_law 274 = .ok (.aload_n 0, 1) := by decide +kernel
theorem dL_law_275 : decode cL_law 275 = .ok (.iload_n 3, 1) := by decide +kernel
theorem dL_law_276 : decode cL_law 276 = .ok (.iconst 1, 1) := by decide +kernel
theorem dL_law_277 : decode cL_law 277 = .ok (.iadd, 1) := by decide +kernel
theorem dL_law_278 : decode cL_law 278 = .ok (.iaload, 1) := by decide +kernel
theorem dL_law_279 : decode cL_law 279 = .ok (.aload_n 0, 1) := by decide +kernel
theorem dL_law_280 : decode cL_law 280 = .ok (.iload_n 3, 1) := by decide +kernel
theorem dL_law_281 : decode cL_law 281 = .ok (.iconst 2, 1) := by decide +kernel
theorem dL_law_282 : decode cL_law 282 = .ok (.iadd, 1) := by decide +kernel
theorem dL_law_283 : decode cL_law 283 = .ok (.iaload, 1) := by decide +kernel
theorem dL_law_284 : decode cL_law 284 = .ok (.invokevirtual 39, 3) := by decide +kernel
theorem dL_law_287 : decode cL_law 287 = .ok (.if_icmp .eq 663, 3) := by decide +kernel
theorem dL_law_290 : decode cL_law 290 = .ok (.iconst 0, 1) := by decide +kernel
theorem dL_law_291 : decode cL_law 291 = .ok (.ireturn, 1) := by decide +kernel
theorem dL_law_292 : decode cL_law 292 = .ok (.aload_n 1, 1) := by decide +kernel
theorem dL_law_293 : decode cL_law 293 = .ok (.aload_n 0, 1) := by decide +kernel
theorem dL_law_294 : decode cL_law 294 = .ok (.iload_n 3, 1) := by decide +kernel
theorem dL_law_295 : decode cL_law 295 = .ok (.iconst 1, 1) := by decide +kernel
theorem dL_law_296 : decode cL_law 296 = .ok (.iadd, 1) := by decide +kernel
theorem dL_law_297 : decode cL_law 297 = .ok (.iaload, 1) := by decide +kernel
theorem dL_law_298 : decode cL_law 298 = .ok (.invokevirtual 40, 3) := by decide +kernel
theorem dL_law_301 : decode cL_law 301 = .ok (.aload_n 2, 1) := by decide +kernel
theorem dL_law_302 : decode cL_law 302 = .ok (.aload_n 0, 1) := by decide +kernel
theorem dL_law_303 : decode cL_law 303 = .ok (.iload_n 3, 1) := by decide +kernel
theorem dL_law_304 : decode cL_law 304 = .ok (.iconst 1, 1) := by decide +kernel
theorem dL_law_305 : decode cL_law 305 = .ok (.iadd, 1) := by decide +kernel
theorem dL_law_306 : decode cL_law 306 = .ok (.iaload, 1) := by decide +kernel
theorem dL_law_307 : decode cL_law 307 = .ok (.invokevirtual 43, 3) := by decide +kernel
theorem dL_law_310 : decode cL_law 310 = .ok (.if_icmp .eq 640, 3) := by decide +kernel
theorem dL_law_313 : decode cL_law 313 = .ok (.iconst 0, 1) := by decide +kernel
theorem dL_law_314 : decode cL_law 314 = .ok (.ireturn, 1) := by decide +kernel
theorem dL_law_315 : decode cL_law 315 = .ok (.aload_n 1, 1) := by decide +kernel
theorem dL_law_316 : decode cL_law 316 = .ok (.aload_n 0, 1) := by decide +kernel
theorem dL_law_317 : decode cL_law 317 = .ok (.iload_n 3, 1) := by decide +kernel
theorem dL_law_318 : decode cL_law 318 = .ok (.iconst 1, 1) := by decide +kernel
theorem dL_law_319 : decode cL_law 319 = .ok (.iadd, 1) := by decide +kernel
theorem dL_law_320 : decode cL_law 320 = .ok (.iaload, 1) := by decide +kernel
theorem dL_law_321 : decode cL_law 321 = .ok (.invokevirtual 44, 3) := by decide +kernel
theorem dL_law_324 : decode cL_law 324 = .ok (.aload_n 2, 1) := by decide +kernel
theorem dL_law_325 : decode cL_law 325 = .ok (.aload_n 0, 1) := by decide +kernel
theorem dL_law_326 : decode cL_law 326 = .ok (.iload_n 3, 1) := by decide +kernel
theorem dL_law_327 : decode cL_law 327 = .ok (.iconst 1, 1) := by decide +kernel
theorem dL_law_328 : decode cL_law 328 = .ok (.iadd, 1) := by decide +kernel
theorem dL_law_329 : decode cL_law 329 = .ok (.iaload, 1) := by decide +kernel
theorem dL_law_330 : decode cL_law 330 = .ok (.invokevirtual 47, 3) := by decide +kernel
theorem dL_law_333 : decode cL_law 333 = .ok (.if_icmp .eq 617, 3) := by decide +kernel
theorem dL_law_336 : decode cL_law 336 = .ok (.iconst 0, 1) := by decide +kernel
theorem dL_law_337 : decode cL_law 337 = .ok (.ireturn, 1) := by decide +kernel
theorem dL_law_338 : decode cL_law 338 = .ok (.aload_n 1, 1) := by decide +kernel
theorem dL_law_339 : decode cL_law 339 = .ok (.invokevirtual 48, 3) := by decide +kernel
theorem dL_law_342 : decode cL_law 342 = .ok (.aload_n 2, 1) := by decide +kernel
theorem dL_law_343 : decode cL_law 343 = .ok (.invokevirtual 51, 3) := by decide +kernel
theorem dL_law_346 : decode cL_law 346 = .ok (.if_icmp .eq 604, 3) := by decide +kernel
theorem dL_law_349 : decode cL_law 349 = .ok (.iconst 0, 1) := by decide +kernel
theorem dL_law_350 : decode cL_law 350 = .ok (.ireturn, 1) := by decide +kernel
theorem dL_law_351 : decode cL_law 351 = .ok (.aload_n 1, 1) := by decide +kernel
theorem dL_law_352 : decode cL_law 352 = .ok (.aload_n 0, 1) := by decide +kernel
theorem dL_law_353 : decode cL_law 353 = .ok (.iload_n 3, 1) := by decide +kernel
theorem dL_law_354 : decode cL_law 354 = .ok (.iconst 1, 1) := by decide +kernel
theorem dL_law_355 : decode cL_law 355 = .ok (.iadd, 1) := by decide +kernel
theorem dL_law_356 : decode cL_law 356 = .ok (.iaload, 1) := by decide +kernel
theorem dL_law_357 : decode cL_law 357 = .ok (.invokevirtual 52, 3) := by decide +kernel
theorem dL_law_360 : decode cL_law 360 = .ok (.aload_n 2, 1) := by decide +kernel
theorem dL_law_361 : decode cL_law 361 = .ok (.aload_n 0, 1) := by decide +kernel
theorem dL_law_362 : decode cL_law 362 = .ok (.iload_n 3, 1) := by decide +kernel
theorem dL_law_363 : decode cL_law 363 = .ok (.iconst 1, 1) := by decide +kernel
theorem dL_law_364 : decode cL_law 364 = .ok (.iadd, 1) := by decide +kernel
theorem dL_law_365 : decode cL_law 365 = .ok (.iaload, 1) := by decide +kernel
theorem dL_law_366 : decode cL_law 366 = .ok (.invokevirtual 55, 3) := by decide +kernel
theorem dL_law_369 : decode cL_law 369 = .ok (.if_icmp .eq 581, 3) := by decide +kernel
theorem dL_law_372 : decode cL_law 372 = .ok (.iconst 0, 1) := by decide +kernel
theorem dL_law_373 : decode cL_law 373 = .ok (.ireturn, 1) := by decide +kernel
theorem dL_law_374 : decode cL_law 374 = .ok (.aload_n 1, 1) := by decide +kernel
theorem dL_law_375 : decode cL_law 375 = .ok (.invokevirtual 56, 3) := by decide +kernel
theorem dL_law_378 : decode cL_law 378 = .ok (.aload_n 2, 1) := by decide +kernel
theorem dL_law_379 : decode cL_law 379 = .ok (.invokevirtual 59, 3) := by decide +kernel
theorem dL_law_382 : decode cL_law 382 = .ok (.if_icmp .eq 568, 3) := by decide +kernel
theorem dL_law_385 : decode cL_law 385 = .ok (.iconst 0, 1) := by decide +kernel
theorem dL_law_386 : decode cL_law 386 = .ok (.ireturn, 1) := by decide +kernel
theorem dL_law_387 : decode cL_law 387 = .ok (.aload_n 1, 1) := by decide +kernel
theorem dL_law_388 : decode cL_law 388 = .ok (.invokevirtual 60, 3) := by decide +kernel
theorem dL_law_391 : decode cL_law 391 = .ok (.aload_n 2, 1) := by decide +kernel
theorem dL_law_392 : decode cL_law 392 = .ok (.invokevirtual 63, 3) := by decide +kernel
theorem dL_law_395 : decode cL_law 395 = .ok (.if_icmp .eq 555, 3) := by decide +kernel
theorem dL_law_398 : decode cL_law 398 = .ok (.iconst 0, 1) := by decide +kernel
theorem dL_law_399 : decode cL_law 399 = .ok (.ireturn, 1) := by decide +kernel
theorem dL_law_400 : decode cL_law 400 = .ok (.aload_n 1, 1) := by decide +kernel
theorem dL_law_401 : decode cL_law 401 = .ok (.invokevirtual 64, 3) := by decide +kernel
theorem dL_law_404 : decode cL_law 404 = .ok (.aload_n 2, 1) := by decide +kernel
theorem dL_law_405 : decode cL_law 405 = .ok (.invokevirtual 67, 3) := by decide +kernel
theorem dL_law_408 : decode cL_law 408 = .ok (.if_icmp .eq 542, 3) := by decide +kernel
theorem dL_law_411 : decode cL_law 411 = .ok (.iconst 0, 1) := by decide +kernel
theorem dL_law_412 : decode cL_law 412 = .ok (.ireturn, 1) := by decide +kernel
theorem dL_law_413 : decode cL_law 413 = .ok (.aload_n 1, 1) := by decide +kernel
theorem dL_law_414 : decode cL_law 414 = .ok (.aload_n 0, 1) := by decide +kernel
theorem dL_law_415 : decode cL_law 415 = .ok (.iload_n 3, 1) := by decide +kernel
theorem dL_law_416 : decode cL_law 416 = .ok (.iconst 1, 1) := by decide +kernel
theorem dL_law_417 : decode cL_law 417 = .ok (.iadd, 1) := by decide +kernel
theorem dL_law_418 : decode cL_law 418 = .ok (.iaload, 1) := by decide +kernel
theorem dL_law_419 : decode cL_law 419 = .ok (.aload_n 0, 1) := by decide +kernel
theorem dL_law_420 : decode cL_law 420 = .ok (.iload_n 3, 1) := by decide +kernel
theorem dL_law_421 : decode cL_law 421 = .ok (.iconst 2, 1) := by decide +kernel
theorem dL_law_422 : decode cL_law 422 = .ok (.iadd, 1) := by decide +kernel
theorem dL_law_423 : decode cL_law 423 = .ok (.iaload, 1) := by decide +kernel
theorem dL_law_424 : decode cL_law 424 = .ok (.invokevirtual 68, 3) := by decide +kernel
theorem dL_law_427 : decode cL_law 427 = .ok (.aload_n 2, 1) := by decide +kernel
theorem dL_law_428 : decode cL_law 428 = .ok (.aload_n 0, 1) := by decide +kernel
theorem dL_law_429 : decode cL_law 429 = .ok (.iload_n 3, 1) := by decide +kernel
theorem dL_law_430 : decode cL_law 430 = .ok (.iconst 1, 1) := by decide +kernel
theorem dL_law_431 : decode cL_law 431 = .ok (.iadd, 1) := by decide +kernel
theorem dL_law_432 : decode cL_law 432 = .ok (.iaload, 1) := by decide +kernel
theorem dL_law_433 : decode cL_law 433 = .ok (.aload_n 0, 1) := by decide +kernel
theorem dL_law_434 : decode cL_law 434 = .ok (.iload_n 3, 1) := by decide +kernel
theorem dL_law_435 : decode cL_law 435 = .ok (.iconst 2, 1) := by decide +kernel
theorem dL_law_436 : decode cL_law 436 = .ok (.iadd, 1) := by decide +kernel
theorem dL_law_437 : decode cL_law 437 = .ok (.iaload, 1) := by decide +kernel
theorem dL_law_438 : decode cL_law 438 = .ok (.invokevirtual 71, 3) := by decide +kernel
theorem dL_law_441 : decode cL_law 441 = .ok (.if_icmp .eq 509, 3) := by decide +kernel
theorem dL_law_444 : decode cL_law 444 = .ok (.iconst 0, 1) := by decide +kernel
theorem dL_law_445 : decode cL_law 445 = .ok (.ireturn, 1) := by decide +kernel
theorem dL_law_446 : decode cL_law 446 = .ok (.aload_n 1, 1) := by decide +kernel
theorem dL_law_447 : decode cL_law 447 = .ok (.aload_n 0, 1) := by decide +kernel
theorem dL_law_448 : decode cL_law 448 = .ok (.iload_n 3, 1) := by decide +kernel
theorem dL_law_449 : decode cL_law 449 = .ok (.iconst 1, 1) := by decide +kernel
theorem dL_law_450 : decode cL_law 450 = .ok (.iadd, 1) := by decide +kernel
theorem dL_law_451 : decode cL_law 451 = .ok (.iaload, 1) := by decide +kernel
theorem dL_law_452 : decode cL_law 452 = .ok (.invokevirtual 72, 3) := by decide +kernel
theorem dL_law_455 : decode cL_law 455 = .ok (.aload_n 2, 1) := by decide +kernel
theorem dL_law_456 : decode cL_law 456 = .ok (.aload_n 0, 1) := by decide +kernel
theorem dL_law_457 : decode cL_law 457 = .ok (.iload_n 3, 1) := by decide +kernel
theorem dL_law_458 : decode cL_law 458 = .ok (.iconst 1, 1) := by decide +kernel
theorem dL_law_459 : decode cL_law 459 = .ok (.iadd, 1) := by decide +kernel
theorem dL_law_460 : decode cL_law 460 = .ok (.iaload, 1) := by decide +kernel
theorem dL_law_461 : decode cL_law 461 = .ok (.invokevirtual 75, 3) := by decide +kernel
theorem dL_law_464 : decode cL_law 464 = .ok (.if_icmp .eq 486, 3) := by decide +kernel
theorem dL_law_467 : decode cL_law 467 = .ok (.iconst 0, 1) := by decide +kernel
theorem dL_law_468 : decode cL_law 468 = .ok (.ireturn, 1) := by decide +kernel
theorem dL_law_469 : decode cL_law 469 = .ok (.aload_n 1, 1) := by decide +kernel
theorem dL_law_470 : decode cL_law 470 = .ok (.aload_n 0, 1) := by decide +kernel
theorem dL_law_471 : decode cL_law 471 = .ok (.iload_n 3, 1) := by decide +kernel
theorem dL_law_472 : decode cL_law 472 = .ok (.iconst 1, 1) := by decide +kernel
theorem dL_law_473 : decode cL_law 473 = .ok (.iadd, 1) := by decide +kernel
theorem dL_law_474 : decode cL_law 474 = .ok (.iaload, 1) := by decide +kernel
theorem dL_law_475 : decode cL_law 475 = .ok (.ifCond .eq 7, 3) := by decide +kernel
theorem dL_law_478 : decode cL_law 478 = .ok (.iconst 1, 1) := by decide +kernel
theorem dL_law_479 : decode cL_law 479 = .ok (.goto 4, 3) := by decide +kernel
theorem dL_law_482 : decode cL_law 482 = .ok (.iconst 0, 1) := by decide +kernel
theorem dL_law_483 : decode cL_law 483 = .ok (.invokevirtual 76, 3) := by decide +kernel
theorem dL_law_486 : decode cL_law 486 = .ok (.aload_n 2, 1) := by decide +kernel
theorem dL_law_487 : decode cL_law 487 = .ok (.aload_n 0, 1) := by decide +kernel
theorem dL_law_488 : decode cL_law 488 = .ok (.iload_n 3, 1) := by decide +kernel
theorem dL_law_489 : decode cL_law 489 = .ok (.iconst 1, 1) := by decide +kernel
theorem dL_law_490 : decode cL_law 490 = .ok (.iadd, 1) := by decide +kernel
theorem dL_law_491 : decode cL_law 491 = .ok (.iaload, 1) := by decide +kernel
theorem dL_law_492 : decode cL_law 492 = .ok (.ifCond .eq 7, 3) := by decide +kernel
theorem dL_law_495 : decode cL_law 495 = .ok (.iconst 1, 1) := by decide +kernel
theorem dL_law_496 : decode cL_law 496 = .ok (.goto 4, 3) := by decide +kernel
theorem dL_law_499 : decode cL_law 499 = .ok (.iconst 0, 1) := by decide +kernel
theorem dL_law_500 : decode cL_law 500 = .ok (.invokevirtual 80, 3) := by decide +kernel
theorem dL_law_503 : decode cL_law 503 = .ok (.if_icmp .eq 447, 3) := by decide +kernel
theorem dL_law_506 : decode cL_law 506 = .ok (.iconst 0, 1) := by decide +kernel
theorem dL_law_507 : decode cL_law 507 = .ok (.ireturn, 1) := by decide +kernel
theorem dL_law_508 : decode cL_law 508 = .ok (.aload_n 1, 1) := by decide +kernel
theorem dL_law_509 : decode cL_law 509 = .ok (.aload_n 0, 1) := by decide +kernel
theorem dL_law_510 : decode cL_law 510 = .ok (.iload_n 3, 1) := by decide +kernel
theorem dL_law_511 : decode cL_law 511 = .ok (.iconst 1, 1) := by decide +kernel
theorem dL_law_512 : decode cL_law 512 = .ok (.iadd, 1) := by decide +kernel
theorem dL_law_513 : decode cL_law 513 = .ok (.iaload, 1) := by decide +kernel
theorem dL_law_514 : decode cL_law 514 = .ok (.aload_n 0, 1) := by decide +kernel
theorem dL_law_515 : decode cL_law 515 = .ok (.iload_n 3, 1) := by decide +kernel
theorem dL_law_516 : decode cL_law 516 = .ok (.iconst 2, 1) := by decide +kernel
theorem dL_law_517 : decode cL_law 517 = .ok (.iadd, 1) := by decide +kernel
theorem dL_law_518 : decode cL_law 518 = .ok (.iaload, 1) := by decide +kernel
theorem dL_law_519 : decode cL_law 519 = .ok (.invokevirtual 81, 3) := by decide +kernel
theorem dL_law_522 : decode cL_law 522 = .ok (.aload_n 2, 1) := by decide +kernel
theorem dL_law_523 : decode cL_law 523 = .ok (.aload_n 0, 1) := by decide +kernel
theorem dL_law_524 : decode cL_law 524 = .ok (.iload_n 3, 1) := by decide +kernel
theorem dL_law_525 : decode cL_law 525 = .ok (.iconst 1, 1) := by decide +kernel
theorem dL_law_526 : decode cL_law 526 = .ok (.iadd, 1) := by decide +kernel
theorem dL_law_527 : decode cL_law 527 = .ok (.iaload, 1) := by decide +kernel
theorem dL_law_528 : decode cL_law 528 = .ok (.aload_n 0, 1) := by decide +kernel
theorem dL_law_529 : decode cL_law 529 = .ok (.iload_n 3, 1) := by decide +kernel
theorem dL_law_530 : decode cL_law 530 = .ok (.iconst 2, 1) := by decide +kernel
theorem dL_law_531 : decode cL_law 531 = .ok (.iadd, 1) := by decide +kernel
theorem dL_law_532 : decode cL_law 532 = .ok (.iaload, 1) := by decide +kernel
theorem dL_law_533 : decode cL_law 533 = .ok (.invokevirtual 84, 3) := by decide +kernel
theorem dL_law_536 : decode cL_law 536 = .ok (.if_icmp .eq 414, 3) := by decide +kernel
theorem dL_law_539 : decode cL_law 539 = .ok (.iconst 0, 1) := by decide +kernel
theorem dL_law_540 : decode cL_law 540 = .ok (.ireturn, 1) := by decide +kernel
theorem dL_law_541 : decode cL_law 541 = .ok (.aload_n 1, 1) := by decide +kernel
theorem dL_law_542 : decode cL_law 542 = .ok (.aload_n 0, 1) := by decide +kernel
theorem dL_law_543 : decode cL_law 543 = .ok (.iload_n 3, 1) := by decide +kernel
theorem dL_law_544 : decode cL_law 544 = .ok (.iconst 1, 1) := by decide +kernel
theorem dL_law_545 : decode cL_law 545 = .ok (.iadd, 1) := by decide +kernel
theorem dL_law_546 : decode cL_law 546 = .ok (.iaload, 1) := by decide +kernel
theorem dL_law_547 : decode cL_law 547 = .ok (.aload_n 0, 1) := by decide +kernel
theorem dL_law_548 : decode cL_law 548 = .ok (.iload_n 3, 1) := by decide +kernel
theorem dL_law_549 : decode cL_law 549 = .ok (.iconst 2, 1) := by decide +kernel
theorem dL_law_550 : decode cL_law 550 = .ok (.iadd, 1) := by decide +kernel
theorem dL_law_551 : decode cL_law 551 = .ok (.iaload, 1) := by decide +kernel
theorem dL_law_552 : decode cL_law 552 = .ok (.invokevirtual 85, 3) := by decide +kernel
theorem dL_law_555 : decode cL_law 555 = .ok (.aload_n 2, 1) := by decide +kernel
theorem dL_law_556 : decode cL_law 556 = .ok (.aload_n 0, 1) := by decide +kernel
theorem dL_law_557 : decode cL_law 557 = .ok (.iload_n 3, 1) := by decide +kernel
theorem dL_law_558 : decode cL_law 558 = .ok (.iconst 1, 1) := by decide +kernel
theorem dL_law_559 : decode cL_law 559 = .ok (.iadd, 1) := by decide +kernel
theorem dL_law_560 : decode cL_law 560 = .ok (.iaload, 1) := by decide +kernel
theorem dL_law_561 : decode cL_law 561 = .ok (.aload_n 0, 1) := by decide +kernel
theorem dL_law_562 : decode cL_law 562 = .ok (.iload_n 3, 1) := by decide +kernel
theorem dL_law_563 : decode cL_law 563 = .ok (.iconst 2, 1) := by decide +kernel
theorem dL_law_564 : decode cL_law 564 = .ok (.iadd, 1) := by decide +kernel
theorem dL_law_565 : decode cL_law 565 = .ok (.iaload, 1) := by decide +kernel
theorem dL_law_566 : decode cL_law 566 = .ok (.invokevirtual 88, 3) := by decide +kernel
theorem dL_law_569 : decode cL_law 569 = .ok (.if_icmp .eq 381, 3) := by decide +kernel
theorem dL_law_572 : decode cL_law 572 = .ok (.iconst 0, 1) := by decide +kernel
theorem dL_law_573 : decode cL_law 573 = .ok (.ireturn, 1) := by decide +kernel
theorem dL_law_574 : decode cL_law 574 = .ok (.aload_n 1, 1) := by decide +kernel
theorem dL_law_575 : decode cL_law 575 = .ok (.aload_n 0, 1) := by decide +kernel
theorem dL_law_576 : decode cL_law 576 = .ok (.iload_n 3, 1) := by decide +kernel
theorem dL_law_577 : decode cL_law 577 = .ok (.iconst 1, 1) := by decide +kernel
theorem dL_law_578 : decode cL_law 578 = .ok (.iadd, 1) := by decide +kernel
theorem dL_law_579 : decode cL_law 579 = .ok (.iaload, 1) := by decide +kernel
theorem dL_law_580 : decode cL_law 580 = .ok (.aload_n 0, 1) := by decide +kernel
theorem dL_law_581 : decode cL_law 581 = .ok (.iload_n 3, 1) := by decide +kernel
theorem dL_law_582 : decode cL_law 582 = .ok (.iconst 2, 1) := by decide +kernel
theorem dL_law_583 : decode cL_law 583 = .ok (.iadd, 1) := by decide +kernel
theorem dL_law_584 : decode cL_law 584 = .ok (.iaload, 1) := by decide +kernel
theorem dL_law_585 : decode cL_law 585 = .ok (.aload_n 0, 1) := by decide +kernel
theorem dL_law_586 : decode cL_law 586 = .ok (.iload_n 3, 1) := by decide +kernel
theorem dL_law_587 : decode cL_law 587 = .ok (.iconst 3, 1) := by decide +kernel
theorem dL_law_588 : decode cL_law 588 = .ok (.iadd, 1) := by decide +kernel
theorem dL_law_589 : decode cL_law 589 = .ok (.iaload, 1) := by decide +kernel
theorem dL_law_590 : decode cL_law 590 = .ok (.invokevirtual 89, 3) := by decide +kernel
theorem dL_law_593 : decode cL_law 593 = .ok (.aload_n 2, 1) := by decide +kernel
theorem dL_law_594 : decode cL_law 594 = .ok (.aload_n 0, 1) := by decide +kernel
theorem dL_law_595 : decode cL_law 595 = .ok (.iload_n 3, 1) := by decide +kernel
theorem dL_law_596 : decode cL_law 596 = .ok (.iconst 1, 1) := by decide +kernel
theorem dL_law_597 : decode cL_law 597 = .ok (.iadd, 1) := by decide +kernel
theorem dL_law_598 : decode cL_law 598 = .ok (.iaload, 1) := by decide +kernel
theorem dL_law_599 : decode cL_law 599 = .ok (.aload_n 0, 1) := by decide +kernel
theorem dL_law_600 : decode cL_law 600 = .ok (.iload_n 3, 1) := by decide +kernel
theorem dL_law_601 : decode cL_law 601 = .ok (.iconst 2, 1) := by decide +kernel
theorem dL_law_602 : decode cL_law 602 = .ok (.iadd, 1) := by decide +kernel
theorem dL_law_603 : decode cL_law 603 = .ok (.iaload, 1) := by decide +kernel
theorem dL_law_604 : decode cL_law 604 = .ok (.aload_n 0, 1) := by decide +kernel
theorem dL_law_605 : decode cL_law 605 = .ok (.iload_n 3, 1) := by decide +kernel
theorem dL_law_606 : decode cL_law 606 = .ok (.iconst 3, 1) := by decide +kernel
theorem dL_law_607 : decode cL_law 607 = .ok (.iadd, 1) := by decide +kernel
theorem dL_law_608 : decode cL_law 608 = .ok (.iaload, 1) := by decide +kernel
theorem dL_law_609 : decode cL_law 609 = .ok (.invokevirtual 93, 3) := by decide +kernel
theorem dL_law_612 : decode cL_law 612 = .ok (.if_icmp .eq 338, 3) := by decide +kernel
theorem dL_law_615 : decode cL_law 615 = .ok (.iconst 0, 1) := by decide +kernel
theorem dL_law_616 : decode cL_law 616 = .ok (.ireturn, 1) := by decide +kernel
theorem dL_law_617 : decode cL_law 617 = .ok (.aload_n 1, 1) := by decide +kernel
theorem dL_law_618 : decode cL_law 618 = .ok (.invokevirtual 94, 3) := by decide +kernel
theorem dL_law_621 : decode cL_law 621 = .ok (.aload_n 2, 1) := by decide +kernel
theorem dL_law_622 : decode cL_law 622 = .ok (.invokevirtual 97, 3) := by decide +kernel
theorem dL_law_625 : decode cL_law 625 = .ok (.if_icmp .eq 325, 3) := by decide +kernel
theorem dL_law_628 : decode cL_law 628 = .ok (.iconst 0, 1) := by decide +kernel
theorem dL_law_629 : decode cL_law 629 = .ok (.ireturn, 1) := by decide +kernel
theorem dL_law_630 : decode cL_law 630 = .ok (.aload_n 1, 1) := by decide +kernel
theorem dL_law_631 : decode cL_law 631 = .ok (.aload_n 0, 1) := by decide +kernel
theorem dL_law_632 : decode cL_law 632 = .ok (.iload_n 3, 1) := by decide +kernel
theorem dL_law_633 : decode cL_law 633 = .ok (.iconst 1, 1) := by decide +kernel
theorem dL_law_634 : decode cL_law 634 = .ok (.iadd, 1) := by decide +kernel
theorem dL_law_635 : decode cL_law 635 = .ok (.iaload, 1) := by decide +kernel
theorem dL_law_636 : decode cL_law 636 = .ok (.invokevirtual 98, 3) := by decide +kernel
theorem dL_law_639 : decode cL_law 639 = .ok (.aload_n 2, 1) := by decide +kernel
theorem dL_law_640 : decode cL_law 640 = .ok (.aload_n 0, 1) := by decide +kernel
theorem dL_law_641 : decode cL_law 641 = .ok (.iload_n 3, 1) := by decide +kernel
theorem dL_law_642 : decode cL_law 642 = .ok (.iconst 1, 1) := by decide +kernel
theorem dL_law_643 : decode cL_law 643 = .ok (.iadd, 1) := by decide +kernel
theorem dL_law_644 : decode cL_law 644 = .ok (.iaload, 1) := by decide +kernel
theorem dL_law_645 : decode cL_law 645 = .ok (.invokevirtual 101, 3) := by decide +kernel
theorem dL_law_648 : decode cL_law 648 = .ok (.if_icmp .eq 302, 3) := by decide +kernel
theorem dL_law_651 : decode cL_law 651 = .ok (.iconst 0, 1) := by decide +kernel
theorem dL_law_652 : decode cL_law 652 = .ok (.ireturn, 1) := by decide +kernel
theorem dL_law_653 : decode cL_law 653 = .ok (.aload_n 1, 1) := by decide +kernel
theorem dL_law_654 : decode cL_law 654 = .ok (.aload_n 0, 1) := by decide +kernel
theorem dL_law_655 : decode cL_law 655 = .ok (.iload_n 3, 1) := by decide +kernel
theorem dL_law_656 : decode cL_law 656 = .ok (.iconst 1, 1) := by decide +kernel
theorem dL_law_657 : decode cL_law 657 = .ok (.iadd, 1) := by decide +kernel
theorem dL_law_658 : decode cL_law 658 = .ok (.iaload, 1) := by decide +kernel
theorem dL_law_659 : decode cL_law 659 = .ok (.aload_n 0, 1) := by decide +kernel
theorem dL_law_660 : decode cL_law 660 = .ok (.iload_n 3, 1) := by decide +kernel
theorem dL_law_661 : decode cL_law 661 = .ok (.iconst 2, 1) := by decide +kernel
theorem dL_law_662 : decode cL_law 662 = .ok (.iadd, 1) := by decide +kernel
theorem dL_law_663 : decode cL_law 663 = .ok (.iaload, 1) := by decide +kernel
theorem dL_law_664 : decode cL_law 664 = .ok (.ifCond .eq 7, 3) := by decide +kernel
theorem dL_law_667 : decode cL_law 667 = .ok (.iconst 1, 1) := by decide +kernel
theorem dL_law_668 : decode cL_law 668 = .ok (.goto 4, 3) := by decide +kernel
theorem dL_law_671 : decode cL_law 671 = .ok (.iconst 0, 1) := by decide +kernel
theorem dL_law_672 : decode cL_law 672 = .ok (.invokevirtual 102, 3) := by decide +kernel
theorem dL_law_675 : decode cL_law 675 = .ok (.aload_n 2, 1) := by decide +kernel
theorem dL_law_676 : decode cL_law 676 = .ok (.aload_n 0, 1) := by decide +kernel
theorem dL_law_677 : decode cL_law 677 = .ok (.iload_n 3, 1) := by decide +kernel
theorem dL_law_678 : decode cL_law 678 = .ok (.iconst 1, 1) := by decide +kernel
theorem dL_law_679 : decode cL_law 679 = .ok (.iadd, 1) := by decide +kernel
theorem dL_law_680 : decode cL_law 680 = .ok (.iaload, 1) := by decide +kernel
theorem dL_law_681 : decode cL_law 681 = .ok (.aload_n 0, 1) := by decide +kernel
theorem dL_law_682 : decode cL_law 682 = .ok (.iload_n 3, 1) := by decide +kernel
theorem dL_law_683 : decode cL_law 683 = .ok (.iconst 2, 1) := by decide +kernel
theorem dL_law_684 : decode cL_law 684 = .ok (.iadd, 1) := by decide +kernel
theorem dL_law_685 : decode cL_law 685 = .ok (.iaload, 1) := by decide +kernel
theorem dL_law_686 : decode cL_law 686 = .ok (.ifCond .eq 7, 3) := by decide +kernel
theorem dL_law_689 : decode cL_law 689 = .ok (.iconst 1, 1) := by decide +kernel
theorem dL_law_690 : decode cL_law 690 = .ok (.goto 4, 3) := by decide +kernel
theorem dL_law_693 : decode cL_law 693 = .ok (.iconst 0, 1) := by decide +kernel
theorem dL_law_694 : decode cL_law 694 = .ok (.invokevirtual 106, 3) := by decide +kernel
theorem dL_law_697 : decode cL_law 697 = .ok (.if_icmp .eq 253, 3) := by decide +kernel
theorem dL_law_700 : decode cL_law 700 = .ok (.iconst 0, 1) := by decide +kernel
theorem dL_law_701 : decode cL_law 701 = .ok (.ireturn, 1) := by decide +kernel
theorem dL_law_702 : decode cL_law 702 = .ok (.aload_n 1, 1) := by decide +kernel
theorem dL_law_703 : decode cL_law 703 = .ok (.aload_n 0, 1) := by decide +kernel
theorem dL_law_704 : decode cL_law 704 = .ok (.iload_n 3, 1) := by decide +kernel
theorem dL_law_705 : decode cL_law 705 = .ok (.iconst 1, 1) := by decide +kernel
theorem dL_law_706 : decode cL_law 706 = .ok (.iadd, 1) := by decide +kernel
theorem dL_law_707 : decode cL_law 707 = .ok (.iaload, 1) := by decide +kernel
theorem dL_law_708 : decode cL_law 708 = .ok (.aload_n 0, 1) := by decide +kernel
theorem dL_law_709 : decode cL_law 709 = .ok (.iload_n 3, 1) := by decide +kernel
theorem dL_law_710 : decode cL_law 710 = .ok (.iconst 2, 1) := by decide +kernel
theorem dL_law_711 : decode cL_law 711 = .ok (.iadd, 1) := by decide +kernel
theorem dL_law_712 : decode cL_law 712 = .ok (.iaload, 1) := by decide +kernel
theorem dL_law_713 : decode cL_law 713 = .ok (.aload_n 0, 1) := by decide +kernel
theorem dL_law_714 : decode cL_law 714 = .ok (.iload_n 3, 1) := by decide +kernel
theorem dL_law_715 : decode cL_law 715 = .ok (.iconst 3, 1) := by decide +kernel
theorem dL_law_716 : decode cL_law 716 = .ok (.iadd, 1) := by decide +kernel
theorem dL_law_717 : decode cL_law 717 = .ok (.iaload, 1) := by decide +kernel
theorem dL_law_718 : decode cL_law 718 = .ok (.invokevirtual 107, 3) := by decide +kernel
theorem dL_law_721 : decode cL_law 721 = .ok (.aload_n 2, 1) := by decide +kernel
theorem dL_law_722 : decode cL_law 722 = .ok (.aload_n 0, 1) := by decide +kernel
theorem dL_law_723 : decode cL_law 723 = .ok (.iload_n 3, 1) := by decide +kernel
theorem dL_law_724 : decode cL_law 724 = .ok (.iconst 1, 1) := by decide +kernel
theorem dL_law_725 : decode cL_law 725 = .ok (.iadd, 1) := by decide +kernel
theorem dL_law_726 : decode cL_law 726 = .ok (.iaload, 1) := by decide +kernel
theorem dL_law_727 : decode cL_law 727 = .ok (.aload_n 0, 1) := by decide +kernel
theorem dL_law_728 : decode cL_law 728 = .ok (.iload_n 3, 1) := by decide +kernel
theorem dL_law_729 : decode cL_law 729 = .ok (.iconst 2, 1) := by decide +kernel
theorem dL_law_730 : decode cL_law 730 = .ok (.iadd, 1) := by decide +kernel
theorem dL_law_731 : decode cL_law 731 = .ok (.iaload, 1) := by decide +kernel
theorem dL_law_732 : decode cL_law 732 = .ok (.aload_n 0, 1) := by decide +kernel
theorem dL_law_733 : decode cL_law 733 = .ok (.iload_n 3, 1) := by decide +kernel
theorem dL_law_734 : decode cL_law 734 = .ok (.iconst 3, 1) := by decide +kernel
theorem dL_law_735 : decode cL_law 735 = .ok (.iadd, 1) := by decide +kernel
theorem dL_law_736 : decode cL_law 736 = .ok (.iaload, 1) := by decide +kernel
theorem dL_law_737 : decode cL_law 737 = .ok (.invokevirtual 110, 3) := by decide +kernel
theorem dL_law_740 : decode cL_law 740 = .ok (.if_icmp .eq 210, 3) := by decide +kernel
theorem dL_law_743 : decode cL_law 743 = .ok (.iconst 0, 1) := by decide +kernel
theorem dL_law_744 : decode cL_law 744 = .ok (.ireturn, 1) := by decide +kernel
theorem dL_law_745 : decode cL_law 745 = .ok (.aload_n 1, 1) := by decide +kernel
theorem dL_law_746 : decode cL_law 746 = .ok (.aload_n 0, 1) := by decide +kernel
theorem dL_law_747 : decode cL_law 747 = .ok (.iload_n 3, 1) := by decide +kernel
theorem dL_law_748 : decode cL_law 748 = .ok (.iconst 1, 1) := by decide +kernel
theorem dL_law_749 : decode cL_law 749 = .ok (.iadd, 1) := by decide +kernel
theorem dL_law_750 : decode cL_law 750 = .ok (.iaload, 1) := by decide +kernel
theorem dL_law_751 : decode cL_law 751 = .ok (.aload_n 0, 1) := by decide +kernel
theorem dL_law_752 : decode cL_law 752 = .ok (.iload_n 3, 1) := by decide +kernel
theorem dL_law_753 : decode cL_law 753 = .ok (.iconst 2, 1) := by decide +kernel
theorem dL_law_754 : decode cL_law 754 = .ok (.iadd, 1) := by decide +kernel
theorem dL_law_755 : decode cL_law 755 = .ok (.iaload, 1) := by decide +kernel
theorem dL_law_756 : decode cL_law 756 = .ok (.aload_n 0, 1) := by decide +kernel
theorem dL_law_757 : decode cL_law 757 = .ok (.iload_n 3, 1) := by decide +kernel
theorem dL_law_758 : decode cL_law 758 = .ok (.iconst 3, 1) := by decide +kernel
theorem dL_law_759 : decode cL_law 759 = .ok (.iadd, 1) := by decide +kernel
theorem dL_law_760 : decode cL_law 760 = .ok (.iaload, 1) := by decide +kernel
theorem dL_law_761 : decode cL_law 761 = .ok (.ifCond .eq 7, 3) := by decide +kernel
theorem dL_law_764 : decode cL_law 764 = .ok (.iconst 1, 1) := by decide +kernel
theorem dL_law_765 : decode cL_law 765 = .ok (.goto 4, 3) := by decide +kernel
theorem dL_law_768 : decode cL_law 768 = .ok (.iconst 0, 1) := by decide +kernel
theorem dL_law_769 : decode cL_law 769 = .ok (.invokevirtual 111, 3) := by decide +kernel
theorem dL_law_772 : decode cL_law 772 = .ok (.aload_n 2, 1) := by decide +kernel
theorem dL_law_773 : decode cL_law 773 = .ok (.aload_n 0, 1) := by decide +kernel
theorem dL_law_774 : decode cL_law 774 = .ok (.iload_n 3, 1) := by decide +kernel
theorem dL_law_775 : decode cL_law 775 = .ok (.iconst 1, 1) := by decide +kernel
theorem dL_law_776 : decode cL_law 776 = .ok (.iadd, 1) := by decide +kernel
theorem dL_law_777 : decode cL_law 777 = .ok (.iaload, 1) := by decide +kernel
theorem dL_law_778 : decode cL_law 778 = .ok (.aload_n 0, 1) := by decide +kernel
theorem dL_law_779 : decode cL_law 779 = .ok (.iload_n 3, 1) := by decide +kernel
theorem dL_law_780 : decode cL_law 780 = .ok (.iconst 2, 1) := by decide +kernel
theorem dL_law_781 : decode cL_law 781 = .ok (.iadd, 1) := by decide +kernel
theorem dL_law_782 : decode cL_law 782 = .ok (.iaload, 1) := by decide +kernel
theorem dL_law_783 : decode cL_law 783 = .ok (.aload_n 0, 1) := by decide +kernel
theorem dL_law_784 : decode cL_law 784 = .ok (.iload_n 3, 1) := by decide +kernel
theorem dL_law_785 : decode cL_law 785 = .ok (.iconst 3, 1) := by decide +kernel
theorem dL_law_786 : decode cL_law 786 = .ok (.iadd, 1) := by decide +kernel
theorem dL_law_787 : decode cL_law 787 = .ok (.iaload, 1) := by decide +kernel
theorem dL_law_788 : decode cL_law 788 = .ok (.ifCond .eq 7, 3) := by decide +kernel
theorem dL_law_791 : decode cL_law 791 = .ok (.iconst 1, 1) := by decide +kernel
theorem dL_law_792 : decode cL_law 792 = .ok (.goto 4, 3) := by decide +kernel
theorem dL_law_795 : decode cL_law 795 = .ok (.iconst 0, 1) := by decide +kernel
theorem dL_law_796 : decode cL_law 796 = .ok (.invokevirtual 115, 3) := by decide +kernel
theorem dL_law_799 : decode cL_law 799 = .ok (.if_icmp .eq 151, 3) := by decide +kernel
theorem dL_law_802 : decode cL_law 802 = .ok (.iconst 0, 1) := by decide +kernel
theorem dL_law_803 : decode cL_law 803 = .ok (.ireturn, 1) := by decide +kernel
theorem dL_law_804 : decode cL_law 804 = .ok (.aload_n 1, 1) := by decide +kernel
theorem dL_law_805 : decode cL_law 805 = .ok (.aload_n 0, 1) := by decide +kernel
theorem dL_law_806 : decode cL_law 806 = .ok (.iload_n 3, 1) := by decide +kernel
theorem dL_law_807 : decode cL_law 807 = .ok (.iconst 1, 1) := by decide +kernel
theorem dL_law_808 : decode cL_law 808 = .ok (.iadd, 1) := by decide +kernel
theorem dL_law_809 : decode cL_law 809 = .ok (.iaload, 1) := by decide +kernel
theorem dL_law_810 : decode cL_law 810 = .ok (.i2l, 1) := by decide +kernel
theorem dL_law_811 : decode cL_law 811 = .ok (.bipush 32, 2) := by decide +kernel
theorem dL_law_813 : decode cL_law 813 = .ok (.lshl, 1) := by decide +kernel
theorem dL_law_814 : decode cL_law 814 = .ok (.aload_n 0, 1) := by decide +kernel
theorem dL_law_815 : decode cL_law 815 = .ok (.iload_n 3, 1) := by decide +kernel
theorem dL_law_816 : decode cL_law 816 = .ok (.iconst 2, 1) := by decide +kernel
theorem dL_law_817 : decode cL_law 817 = .ok (.iadd, 1) := by decide +kernel
theorem dL_law_818 : decode cL_law 818 = .ok (.iaload, 1) := by decide +kernel
theorem dL_law_819 : decode cL_law 819 = .ok (.i2l, 1) := by decide +kernel
theorem dL_law_820 : decode cL_law 820 = .ok (.ldc2_w 116, 3) := by decide +kernel
theorem dL_law_823 : decode cL_law 823 = .ok (.land, 1) := by decide +kernel
theorem dL_law_824 : decode cL_law 824 = .ok (.lor, 1) := by decide +kernel
theorem dL_law_825 : decode cL_law 825 = .ok (.invokevirtual 118, 3) := by decide +kernel
theorem dL_law_828 : decode cL_law 828 = .ok (.aload_n 2, 1) := by decide +kernel
theorem dL_law_829 : decode cL_law 829 = .ok (.aload_n 0, 1) := by decide +kernel
theorem dL_law_830 : decode cL_law 830 = .ok (.iload_n 3, 1) := by decide +kernel
theorem dL_law_831 : decode cL_law 831 = .ok (.iconst 1, 1) := by decide +kernel
theorem dL_law_832 : decode cL_law 832 = .ok (.iadd, 1) := by decide +kernel
theorem dL_law_833 : decode cL_law 833 = .ok (.iaload, 1) := by decide +kernel
theorem dL_law_834 : decode cL_law 834 = .ok (.i2l, 1) := by decide +kernel
theorem dL_law_835 : decode cL_law 835 = .ok (.bipush 32, 2) := by decide +kernel
theorem dL_law_837 : decode cL_law 837 = .ok (.lshl, 1) := by decide +kernel
theorem dL_law_838 : decode cL_law 838 = .ok (.aload_n 0, 1) := by decide +kernel
theorem dL_law_839 : decode cL_law 839 = .ok (.iload_n 3, 1) := by decide +kernel
theorem dL_law_840 : decode cL_law 840 = .ok (.iconst 2, 1) := by decide +kernel
theorem dL_law_841 : decode cL_law 841 = .ok (.iadd, 1) := by decide +kernel
theorem dL_law_842 : decode cL_law 842 = .ok (.iaload, 1) := by decide +kernel
theorem dL_law_843 : decode cL_law 843 = .ok (.i2l, 1) := by decide +kernel
theorem dL_law_844 : decode cL_law 844 = .ok (.ldc2_w 116, 3) := by decide +kernel
theorem dL_law_847 : decode cL_law 847 = .ok (.land, 1) := by decide +kernel
theorem dL_law_848 : decode cL_law 848 = .ok (.lor, 1) := by decide +kernel
theorem dL_law_849 : decode cL_law 849 = .ok (.invokevirtual 122, 3) := by decide +kernel
theorem dL_law_852 : decode cL_law 852 = .ok (.lcmp, 1) := by decide +kernel
theorem dL_law_853 : decode cL_law 853 = .ok (.ifCond .eq 97, 3) := by decide +kernel
theorem dL_law_856 : decode cL_law 856 = .ok (.iconst 0, 1) := by decide +kernel
theorem dL_law_857 : decode cL_law 857 = .ok (.ireturn, 1) := by decide +kernel
theorem dL_law_858 : decode cL_law 858 = .ok (.aload_n 1, 1) := by decide +kernel
theorem dL_law_859 : decode cL_law 859 = .ok (.aload_n 0, 1) := by decide +kernel
theorem dL_law_860 : decode cL_law 860 = .ok (.iload_n 3, 1) := by decide +kernel
theorem dL_law_861 : decode cL_law 861 = .ok (.iconst 1, 1) := by decide +kernel
theorem dL_law_862 : decode cL_law 862 = .ok (.iadd, 1) := by decide +kernel
theorem dL_law_863 : decode cL_law 863 = .ok (.iaload, 1) := by decide +kernel
theorem dL_law_864 : decode cL_law 864 = .ok (.invokevirtual 123, 3) := by decide +kernel
theorem dL_law_867 : decode cL_law 867 = .ok (.aload_n 2, 1) := by decide +kernel
theorem dL_law_868 : decode cL_law 868 = .ok (.aload_n 0, 1) := by decide +kernel
theorem dL_law_869 : decode cL_law 869 = .ok (.iload_n 3, 1) := by decide +kernel
theorem dL_law_870 : decode cL_law 870 = .ok (.iconst 1, 1) := by decide +kernel
theorem dL_law_871 : decode cL_law 871 = .ok (.iadd, 1) := by decide +kernel
theorem dL_law_872 : decode cL_law 872 = .ok (.iaload, 1) := by decide +kernel
theorem dL_law_873 : decode cL_law 873 = .ok (.invokevirtual 126, 3) := by decide +kernel
theorem dL_law_876 : decode cL_law 876 = .ok (.if_icmp .eq 74, 3) := by decide +kernel
theorem dL_law_879 : decode cL_law 879 = .ok (.iconst 0, 1) := by decide +kernel
theorem dL_law_880 : decode cL_law 880 = .ok (.ireturn, 1) := by decide +kernel
theorem dL_law_881 : decode cL_law 881 = .ok (.aload_n 1, 1) := by decide +kernel
theorem dL_law_882 : decode cL_law 882 = .ok (.aload_n 0, 1) := by decide +kernel
theorem dL_law_883 : decode cL_law 883 = .ok (.iload_n 3, 1) := by decide +kernel
theorem dL_law_884 : decode cL_law 884 = .ok (.iconst 1, 1) := by decide +kernel
theorem dL_law_885 : decode cL_law 885 = .ok (.iadd, 1) := by decide +kernel
theorem dL_law_886 : decode cL_law 886 = .ok (.iaload, 1) := by decide +kernel
theorem dL_law_887 : decode cL_law 887 = .ok (.invokevirtual 127, 3) := by decide +kernel
theorem dL_law_890 : decode cL_law 890 = .ok (.aload_n 2, 1) := by decide +kernel
theorem dL_law_891 : decode cL_law 891 = .ok (.aload_n 0, 1) := by decide +kernel
theorem dL_law_892 : decode cL_law 892 = .ok (.iload_n 3, 1) := by decide +kernel
theorem dL_law_893 : decode cL_law 893 = .ok (.iconst 1, 1) := by decide +kernel
theorem dL_law_894 : decode cL_law 894 = .ok (.iadd, 1) := by decide +kernel
theorem dL_law_895 : decode cL_law 895 = .ok (.iaload, 1) := by decide +kernel
theorem dL_law_896 : decode cL_law 896 = .ok (.invokevirtual 130, 3) := by decide +kernel
theorem dL_law_899 : decode cL_law 899 = .ok (.if_icmp .eq 51, 3) := by decide +kernel
theorem dL_law_902 : decode cL_law 902 = .ok (.iconst 0, 1) := by decide +kernel
theorem dL_law_903 : decode cL_law 903 = .ok (.ireturn, 1) := by decide +kernel
theorem dL_law_904 : decode cL_law 904 = .ok (.aload_n 1, 1) := by decide +kernel
theorem dL_law_905 : decode cL_law 905 = .ok (.aload_n 0, 1) := by decide +kernel
theorem dL_law_906 : decode cL_law 906 = .ok (.iload_n 3, 1) := by decide +kernel
theorem dL_law_907 : decode cL_law 907 = .ok (.iconst 1, 1) := by decide +kernel
theorem dL_law_908 : decode cL_law 908 = .ok (.iadd, 1) := by decide +kernel
theorem dL_law_909 : decode cL_law 909 = .ok (.iaload, 1) := by decide +kernel
theorem dL_law_910 : decode cL_law 910 = .ok (.invokevirtual 131, 3) := by decide +kernel
theorem dL_law_913 : decode cL_law 913 = .ok (.aload_n 2, 1) := by decide +kernel
theorem dL_law_914 : decode cL_law 914 = .ok (.aload_n 0, 1) := by decide +kernel
theorem dL_law_915 : decode cL_law 915 = .ok (.iload_n 3, 1) := by decide +kernel
theorem dL_law_916 : decode cL_law 916 = .ok (.iconst 1, 1) := by decide +kernel
theorem dL_law_917 : decode cL_law 917 = .ok (.iadd, 1) := by decide +kernel
theorem dL_law_918 : decode cL_law 918 = .ok (.iaload, 1) := by decide +kernel
theorem dL_law_919 : decode cL_law 919 = .ok (.invokevirtual 134, 3) := by decide +kernel
theorem dL_law_922 : decode cL_law 922 = .ok (.if_icmp .eq 28, 3) := by decide +kernel
theorem dL_law_925 : decode cL_law 925 = .ok (.iconst 0, 1) := by decide +kernel
theorem dL_law_926 : decode cL_law 926 = .ok (.ireturn, 1) := by decide +kernel
theorem dL_law_927 : decode cL_law 927 = .ok (.aload_n 1, 1) := by decide +kernel
theorem dL_law_928 : decode cL_law 928 = .ok (.aload_n 0, 1) := by decide +kernel
theorem dL_law_929 : decode cL_law 929 = .ok (.iload_n 3, 1) := by decide +kernel
theorem dL_law_930 : decode cL_law 930 = .ok (.iconst 1, 1) := by decide +kernel
theorem dL_law_931 : decode cL_law 931 = .ok (.iadd, 1) := by decide +kernel
theorem dL_law_932 : decode cL_law 932 = .ok (.iaload, 1) := by decide +kernel
theorem dL_law_933 : decode cL_law 933 = .ok (.invokevirtual 135, 3) := by decide +kernel
theorem dL_law_936 : decode cL_law 936 = .ok (.aload_n 2, 1) := by decide +kernel
theorem dL_law_937 : decode cL_law 937 = .ok (.aload_n 0, 1) := by decide +kernel
theorem dL_law_938 : decode cL_law 938 = .ok (.iload_n 3, 1) := by decide +kernel
theorem dL_law_939 : decode cL_law 939 = .ok (.iconst 1, 1) := by decide +kernel
theorem dL_law_940 : decode cL_law 940 = .ok (.iadd, 1) := by decide +kernel
theorem dL_law_941 : decode cL_law 941 = .ok (.iaload, 1) := by decide +kernel
theorem dL_law_942 : decode cL_law 942 = .ok (.invokevirtual 138, 3) := by decide +kernel
theorem dL_law_945 : decode cL_law 945 = .ok (.if_icmp .eq 5, 3) := by decide +kernel
theorem dL_law_948 : decode cL_law 948 = .ok (.iconst 0, 1) := by decide +kernel
theorem dL_law_949 : decode cL_law 949 = .ok (.ireturn, 1) := by decide +kernel
theorem dL_law_950 : decode cL_law 950 = .ok (.iinc 3 4, 3) := by decide +kernel
theorem dL_law_953 : decode cL_law 953 = .ok (.goto (-935), 3) := by decide +kernel
theorem dL_law_956 : decode cL_law 956 = .ok (.iconst 1, 1) := by decide +kernel
theorem dL_law_957 : decode cL_law 957 = .ok (.ireturn, 1) := by decide +kernel
end
section
/-! numbers from Int; small words for the decompiled functions -/
def iI (z : Int) : Int32 := Int32.ofInt z
def ib (i : Int32) (n : Nat) : Bool := decide (¬ (i < 0 ∨ n ≤ i.toNatClampNeg))
def okB (v : Int32) : Bool := decide (v = 0 ∨ v = 1)
def FU : Nat := 20000
def mxI (x y : Int32) : Int32 := if x < y then y else x
def mnI (x y : Int32) : Int32 := if y < x then y else x
def abI (x : Int32) : Int32 := if 0 ≤ x then x else 0 - x
theorem ib_some {α : Type} {i : Int32} {n : Nat} {x : Option α} {z : α} (h : (if ib i n = true then x else none) = some z) : vp_in i n ∧ x = some z := by
  by_cases hc : ib i n = true
  · rw [if_pos hc] at h
    exact ⟨of_decide_eq_true (p := ¬ (i < 0 ∨ n ≤ i.toNatClampNeg)) hc, h⟩
  · rw [if_neg hc] at h
    cases h
theorem vin {i : Int32} {n : Nat} (h : ib i n = true) : vp_in i n := of_decide_eq_true (p := ¬ (i < 0 ∨ n ≤ i.toNatClampNeg)) h
theorem okB_some {α : Type} {v : Int32} {x : Option α} {z : α} (h : (if okB v = true then x else none) = some z) : okB v = true ∧ x = some z := by
  by_cases hc : okB v = true
  · rw [if_pos hc] at h
    exact ⟨hc, h⟩
  · rw [if_neg hc] at h
    cases h
theorem nz_some {α : Type} {v : Int32} {x : Option α} {z : α} (h : (if v = 0 then none else x) = some z) : ¬ v = 0 ∧ x = some z := by
  by_cases hc : v = 0
  · rw [if_pos hc] at h
    cases h
  · rw [if_neg hc] at h
    exact ⟨hc, h⟩
theorem nzl_some {α : Type} {v : Int64} {x : Option α} {z : α} (h : (if v = 0 then none else x) = some z) : ¬ v = 0 ∧ x = some z := by
  by_cases hc : v = 0
  · rw [if_pos hc] at h
    cases h
  · rw [if_neg hc] at h
    exact ⟨hc, h⟩
theorem ite_t {α : Type} {c : Prop} {dc : Decidable c} {x y : Option α} {z : α} (h : (@ite _ c dc x y) = some z) (hc : c) : x = some z := by
  rw [if_pos hc] at h
  exact h
theorem ite_f {α : Type} {c : Prop} {dc : Decidable c} {x y : Option α} {z : α} (h : (@ite _ c dc x y) = some z) (hc : ¬ c) : y = some z := by
  rw [if_neg hc] at h
  exact h
theorem bd_some {α β : Type} {o : Option α} {f : α → Option β} {z : β} (h : o.bind f = some z) : ∃ u, o = some u ∧ f u = some z := by
  cases o with
  | none => cases h
  | some u => exact ⟨u, rfl, h⟩
theorem okB_nar {v : Int32} (h : okB v = true) : narrow .boolean (.int v) = .int v := by
  rcases of_decide_eq_true (p := (v = 0 ∨ v = 1)) h with h | h <;> subst h <;> rfl
theorem okB_fit {v : Int32} (h : okB v = true) : fits .boolean (.int v) = true := by
  rcases of_decide_eq_true (p := (v = 0 ∨ v = 1)) h with h | h <;> subst h <;> rfl
theorem okB_0 : okB (iI 0) = true := by decide
theorem okB_1 : okB (iI 1) = true := by decide
theorem sw_ne {x : Int32} {k : Int} (h : ¬ x = iI k) (h1 : -2147483648 ≤ k) (h2 : k < 2147483648) : x.toInt ≠ k := by
  intro e
  apply h
  apply Int32.toInt_inj.mp
  rw [e]
  unfold iI
  rw [Int32.toInt_ofInt_of_le (by omega) (by omega)]
/-! words -/
def TB : List Cond := lw_tbl.filter goodWord
theorem mTB {w : Cond} (k : Nat) (h : lw_tbl[k]? = some w) (g : goodWord w = true) : w ∈ TB := List.mem_filter.mpr ⟨List.mem_of_getElem? h, g⟩
theorem TB_good {args : Array Value} {s : State} (ht : ∀ w ∈ TB, w.before args s = true) : ∀ w ∈ TB, ∀ (a' : Array Value) (U : State), s.WarmedH U.vm → w.before a' U = true := fun w hw _ _ hW => word_at hW (good_of_word (List.mem_filter.mp hw).2) (ht w hw)
theorem TB_of {args : Array Value} {s : State} (ht : ∀ w ∈ lw_tbl, w.before args s = true) : ∀ w ∈ TB, w.before args s = true := fun w hw => ht w (List.mem_filter.mp hw).1
theorem tw0 : Cond.selects RX5 yX5_tellPart yX5_tellPart ∈ TB := mTB 0 (by decide +kernel) (by decide +kernel)
theorem tw1 : Cond.selects RX5 yX5_farOf yX5_farOf ∈ TB := mTB 1 (by decide +kernel) (by decide +kernel)
theorem tw2 : Cond.selects RX5 yX5_spentOf yX5_spentOf ∈ TB := mTB 2 (by decide +kernel) (by decide +kernel)
theorem tw3 : Cond.selects RX5 yX5_remember yX5_remember ∈ TB := mTB 3 (by decide +kernel) (by decide +kernel)
theorem tw4 : Cond.selects RX2 yX2_setNumber yX2_setNumber ∈ TB := mTB 4 (by decide +kernel) (by decide +kernel)
theorem tw5 : Cond.selects RX2 yX2_numberAt yX2_numberAt ∈ TB := mTB 5 (by decide +kernel) (by decide +kernel)
theorem tw6 : Cond.selects RX5 yX5_nthRow yX5_nthRow ∈ TB := mTB 6 (by decide +kernel) (by decide +kernel)
theorem tw7 : Cond.selects RX5 yX5_onlyLastBrings yX5_onlyLastBrings ∈ TB := mTB 7 (by decide +kernel) (by decide +kernel)
theorem tw8 : Cond.selects RX5 yX5_doesWell yX5_doesWell ∈ TB := mTB 8 (by decide +kernel) (by decide +kernel)
theorem tw9 : Cond.selects RX3 yX3_holds yX3_holds ∈ TB := mTB 9 (by decide +kernel) (by decide +kernel)
theorem tw10 : Cond.selects RX5 yX5_wordsThatBring yX5_wordsThatBring ∈ TB := mTB 10 (by decide +kernel) (by decide +kernel)
theorem tw11 : Cond.selects RX5 yX5_isContent yX5_isContent ∈ TB := mTB 11 (by decide +kernel) (by decide +kernel)
theorem tw12 : Cond.selects RX5 yX5_gainOf yX5_gainOf ∈ TB := mTB 12 (by decide +kernel) (by decide +kernel)
theorem tw13 : Cond.selects RX5 yX5_weightOf yX5_weightOf ∈ TB := mTB 13 (by decide +kernel) (by decide +kernel)
theorem tw14 : Cond.selects RX5 yX5_returnsFrom yX5_returnsFrom ∈ TB := mTB 14 (by decide +kernel) (by decide +kernel)
theorem tw15 : Cond.selects RX5 yX5_isNoSlot yX5_isNoSlot ∈ TB := mTB 15 (by decide +kernel) (by decide +kernel)
theorem tw16 : Cond.selects RX6 yX6_readText yX6_readText ∈ TB := mTB 16 (by decide +kernel) (by decide +kernel)
theorem tw17 : Cond.selects RX6 yX6_figure yX6_figure ∈ TB := mTB 17 (by decide +kernel) (by decide +kernel)
theorem tw18 : Cond.selects RX6 yX6_isWord yX6_isWord ∈ TB := mTB 18 (by decide +kernel) (by decide +kernel)
theorem tw19 : Cond.selects RX6 yX6_power yX6_power ∈ TB := mTB 19 (by decide +kernel) (by decide +kernel)
theorem tw20 : Cond.selects RX6 yX6_comesNow yX6_comesNow ∈ TB := mTB 20 (by decide +kernel) (by decide +kernel)
theorem tw21 : Cond.selects RX6 yX6_comesBy yX6_comesBy ∈ TB := mTB 21 (by decide +kernel) (by decide +kernel)
theorem tw22 : Cond.selects RX6 yX6_pullAt yX6_pullAt ∈ TB := mTB 22 (by decide +kernel) (by decide +kernel)
theorem tw23 : Cond.selects RX6 yX6_farOf yX6_farOf ∈ TB := mTB 23 (by decide +kernel) (by decide +kernel)
theorem tw24 : Cond.selects RX6 yX6_wears yX6_wears ∈ TB := mTB 24 (by decide +kernel) (by decide +kernel)
theorem tw25 : Cond.selects RX6 yX6_keepAct yX6_keepAct ∈ TB := mTB 25 (by decide +kernel) (by decide +kernel)
theorem tw26 : Cond.selects RX6 yX6_callOn yX6_callOn ∈ TB := mTB 26 (by decide +kernel) (by decide +kernel)
theorem tw27 : Cond.selects RX6 yX6_canPay yX6_canPay ∈ TB := mTB 27 (by decide +kernel) (by decide +kernel)
theorem tw28 : Cond.selects RX6 yX6_payOn yX6_payOn ∈ TB := mTB 28 (by decide +kernel) (by decide +kernel)
theorem tw29 : Cond.selects RX6 yX6_runOn yX6_runOn ∈ TB := mTB 29 (by decide +kernel) (by decide +kernel)
theorem tw30 : Cond.selects RX6 yX6_canLead yX6_canLead ∈ TB := mTB 30 (by decide +kernel) (by decide +kernel)
theorem tw31 : Cond.selects RX6 yX6_leadOn yX6_leadOn ∈ TB := mTB 31 (by decide +kernel) (by decide +kernel)
theorem tw32 : Cond.selects RX6 yX6_isRow yX6_isRow ∈ TB := mTB 32 (by decide +kernel) (by decide +kernel)
theorem tw33 : Cond.selects RX6 yX6_layTrial yX6_layTrial ∈ TB := mTB 33 (by decide +kernel) (by decide +kernel)
theorem tw34 : Cond.selects RX6 yX6_tryThing yX6_tryThing ∈ TB := mTB 34 (by decide +kernel) (by decide +kernel)
theorem tw35 : Cond.selects RX6 yX6_reached yX6_reached ∈ TB := mTB 35 (by decide +kernel) (by decide +kernel)
theorem tw36 : Cond.selects RX6 yX6_isRest yX6_isRest ∈ TB := mTB 36 (by decide +kernel) (by decide +kernel)
theorem tw37 : Cond.selects RX6 yX6_gain yX6_gain ∈ TB := mTB 37 (by decide +kernel) (by decide +kernel)
theorem tw38 : Cond.initialized RL ∈ TB := mTB 38 (by decide +kernel) (by decide +kernel)
theorem tw39 : Cond.initialized RX5 ∈ TB := mTB 39 (by decide +kernel) (by decide +kernel)
theorem tw40 : Cond.initialized RX4 ∈ TB := mTB 40 (by decide +kernel) (by decide +kernel)
theorem tw41 : Cond.initialized RX1 ∈ TB := mTB 41 (by decide +kernel) (by decide +kernel)
theorem tw42 : Cond.initialized RX0 ∈ TB := mTB 42 (by decide +kernel) (by decide +kernel)
theorem tw43 : Cond.initialized RX2 ∈ TB := mTB 43 (by decide +kernel) (by decide +kernel)
theorem tw44 : Cond.initialized RX3 ∈ TB := mTB 44 (by decide +kernel) (by decide +kernel)
theorem tw45 : Cond.initialized RX6 ∈ TB := mTB 45 (by decide +kernel) (by decide +kernel)
theorem tw46 : Cond.initialized RJ9 ∈ TB := mTB 46 (by decide +kernel) (by decide +kernel)
theorem tw47 : Cond.classLink RL 7 RX5 ∈ TB := mTB 47 (by decide +kernel) (by decide +kernel)
theorem tw48 : Cond.instantiable RX5 10 ∈ TB := mTB 48 (by decide +kernel) (by decide +kernel)
theorem tw49 : Cond.methodLink RL 9 yX5_init ∈ TB := mTB 49 (by decide +kernel) (by decide +kernel)
theorem tw50 : Cond.instanceMethod yX5_init ∈ TB := mTB 50 (by decide +kernel) (by decide +kernel)
theorem tw51 : Cond.code yX5_init cX5_init 1 none ∈ TB := mTB 51 (by decide +kernel) (by decide +kernel)
theorem tw52 : Cond.methodLink RX5 3 objectInit ∈ TB := mTB 52 (by decide +kernel) (by decide +kernel)
theorem tw53 : Cond.instanceMethod objectInit ∈ TB := mTB 53 (by decide +kernel) (by decide +kernel)
theorem tw54 : Cond.code objectInit ⟨#[0xb1]⟩ 1 none ∈ TB := mTB 54 (by decide +kernel) (by decide +kernel)
theorem tw55 : Cond.classLink RX5 9 RX4 ∈ TB := mTB 55 (by decide +kernel) (by decide +kernel)
theorem tw56 : Cond.instantiable RX4 2 ∈ TB := mTB 56 (by decide +kernel) (by decide +kernel)
theorem tw57 : Cond.methodLink RX5 11 yX4_init ∈ TB := mTB 57 (by decide +kernel) (by decide +kernel)
theorem tw58 : Cond.instanceMethod yX4_init ∈ TB := mTB 58 (by decide +kernel) (by decide +kernel)
theorem tw59 : Cond.code yX4_init cX4_init 1 none ∈ TB := mTB 59 (by decide +kernel) (by decide +kernel)
theorem tw60 : Cond.methodLink RX4 3 objectInit ∈ TB := mTB 60 (by decide +kernel) (by decide +kernel)
theorem tw61 : Cond.fieldLink RX4 9 "WhistleBack$Text" "letters" "[I" ∈ TB := mTB 61 (by decide +kernel) (by decide +kernel)
theorem tw62 : Cond.fieldLink RX4 15 "WhistleBack$Text" "size" "I" ∈ TB := mTB 62 (by decide +kernel) (by decide +kernel)
theorem tw69 : Cond.arrayClass .int ∈ TB := mTB 69 (by decide +kernel) (by decide +kernel)
theorem tw70 : Cond.classLink RX5 16 RX1 ∈ TB := mTB 70 (by decide +kernel) (by decide +kernel)
theorem tw71 : Cond.instantiable RX1 5 ∈ TB := mTB 71 (by decide +kernel) (by decide +kernel)
theorem tw72 : Cond.methodLink RX5 18 yX1_init ∈ TB := mTB 72 (by decide +kernel) (by decide +kernel)
theorem tw73 : Cond.instanceMethod yX1_init ∈ TB := mTB 73 (by decide +kernel) (by decide +kernel)
theorem tw74 : Cond.code yX1_init cX1_init 1 none ∈ TB := mTB 74 (by decide +kernel) (by decide +kernel)
theorem tw75 : Cond.methodLink RX1 3 objectInit ∈ TB := mTB 75 (by decide +kernel) (by decide +kernel)
theorem tw76 : Cond.fieldLink RX1 9 "WhistleBack$Fields" "kinds" "[I" ∈ TB := mTB 76 (by decide +kernel) (by decide +kernel)
theorem tw77 : Cond.fieldLink RX1 15 "WhistleBack$Fields" "spots" "[I" ∈ TB := mTB 77 (by decide +kernel) (by decide +kernel)
theorem tw78 : Cond.fieldLink RX1 18 "WhistleBack$Fields" "tugs" "[I" ∈ TB := mTB 78 (by decide +kernel) (by decide +kernel)
theorem tw79 : Cond.fieldLink RX1 21 "WhistleBack$Fields" "words" "I" ∈ TB := mTB 79 (by decide +kernel) (by decide +kernel)
theorem tw81 : Cond.fieldLink RX1 25 "WhistleBack$Fields" "things" "I" ∈ TB := mTB 81 (by decide +kernel) (by decide +kernel)
theorem tw94 : Cond.classLink RX5 23 RX0 ∈ TB := mTB 94 (by decide +kernel) (by decide +kernel)
theorem tw95 : Cond.instantiable RX0 7 ∈ TB := mTB 95 (by decide +kernel) (by decide +kernel)
theorem tw96 : Cond.methodLink RX5 25 yX0_init ∈ TB := mTB 96 (by decide +kernel) (by decide +kernel)
theorem tw97 : Cond.instanceMethod yX0_init ∈ TB := mTB 97 (by decide +kernel) (by decide +kernel)
theorem tw98 : Cond.code yX0_init cX0_init 1 none ∈ TB := mTB 98 (by decide +kernel) (by decide +kernel)
theorem tw99 : Cond.methodLink RX0 3 objectInit ∈ TB := mTB 99 (by decide +kernel) (by decide +kernel)
theorem tw100 : Cond.fieldLink RX0 9 "WhistleBack$Dog" "strengths" "[I" ∈ TB := mTB 100 (by decide +kernel) (by decide +kernel)
theorem tw101 : Cond.fieldLink RX0 19 "WhistleBack$Dog" "cheese" "I" ∈ TB := mTB 101 (by decide +kernel) (by decide +kernel)
theorem tw104 : Cond.fieldLink RX0 22 "WhistleBack$Dog" "yards" "I" ∈ TB := mTB 104 (by decide +kernel) (by decide +kernel)
theorem tw108 : Cond.fieldLink RX0 15 "WhistleBack$Dog" "owed" "I" ∈ TB := mTB 108 (by decide +kernel) (by decide +kernel)
theorem tw112 : Cond.fieldLink RX0 25 "WhistleBack$Dog" "calls" "I" ∈ TB := mTB 112 (by decide +kernel) (by decide +kernel)
theorem tw116 : Cond.fieldLink RX0 28 "WhistleBack$Dog" "hungry" "Z" ∈ TB := mTB 116 (by decide +kernel) (by decide +kernel)
theorem tw120 : Cond.fieldLink RX0 32 "WhistleBack$Dog" "onLead" "Z" ∈ TB := mTB 120 (by decide +kernel) (by decide +kernel)
theorem tw139 : Cond.classLink RX5 33 RX2 ∈ TB := mTB 139 (by decide +kernel) (by decide +kernel)
theorem tw140 : Cond.instantiable RX2 1 ∈ TB := mTB 140 (by decide +kernel) (by decide +kernel)
theorem tw141 : Cond.methodLink RX5 35 yX2_init ∈ TB := mTB 141 (by decide +kernel) (by decide +kernel)
theorem tw142 : Cond.instanceMethod yX2_init ∈ TB := mTB 142 (by decide +kernel) (by decide +kernel)
theorem tw143 : Cond.code yX2_init cX2_init 2 none ∈ TB := mTB 143 (by decide +kernel) (by decide +kernel)
theorem tw144 : Cond.methodLink RX2 3 objectInit ∈ TB := mTB 144 (by decide +kernel) (by decide +kernel)
theorem tw145 : Cond.fieldLink RX2 11 "WhistleBack$Shelf" "numbers" "[I" ∈ TB := mTB 145 (by decide +kernel) (by decide +kernel)
theorem tw149 : Cond.classLink RX5 49 RX3 ∈ TB := mTB 149 (by decide +kernel) (by decide +kernel)
theorem tw150 : Cond.instantiable RX3 4 ∈ TB := mTB 150 (by decide +kernel) (by decide +kernel)
theorem tw151 : Cond.methodLink RX5 51 yX3_init ∈ TB := mTB 151 (by decide +kernel) (by decide +kernel)
theorem tw152 : Cond.instanceMethod yX3_init ∈ TB := mTB 152 (by decide +kernel) (by decide +kernel)
theorem tw153 : Cond.code yX3_init cX3_init 1 none ∈ TB := mTB 153 (by decide +kernel) (by decide +kernel)
theorem tw154 : Cond.methodLink RX3 3 objectInit ∈ TB := mTB 154 (by decide +kernel) (by decide +kernel)
theorem tw155 : Cond.fieldLink RX3 9 "WhistleBack$Sights" "ofWord" "[I" ∈ TB := mTB 155 (by decide +kernel) (by decide +kernel)
theorem tw156 : Cond.fieldLink RX3 15 "WhistleBack$Sights" "fromYards" "[I" ∈ TB := mTB 156 (by decide +kernel) (by decide +kernel)
theorem tw157 : Cond.fieldLink RX3 18 "WhistleBack$Sights" "cameThen" "[Z" ∈ TB := mTB 157 (by decide +kernel) (by decide +kernel)
theorem tw158 : Cond.fieldLink RX3 22 "WhistleBack$Sights" "size" "I" ∈ TB := mTB 158 (by decide +kernel) (by decide +kernel)
theorem tw169 : Cond.arrayClass .boolean ∈ TB := mTB 169 (by decide +kernel) (by decide +kernel)
theorem tw170 : Cond.fieldLink RX5 12 "WhistleBack" "text" "LWhistleBack$Text;" ∈ TB := mTB 170 (by decide +kernel) (by decide +kernel)
theorem tw171 : Cond.fieldLink RX5 19 "WhistleBack" "fields" "LWhistleBack$Fields;" ∈ TB := mTB 171 (by decide +kernel) (by decide +kernel)
theorem tw172 : Cond.fieldLink RX5 26 "WhistleBack" "dog" "LWhistleBack$Dog;" ∈ TB := mTB 172 (by decide +kernel) (by decide +kernel)
theorem tw173 : Cond.fieldLink RX5 30 "WhistleBack" "trial" "LWhistleBack$Dog;" ∈ TB := mTB 173 (by decide +kernel) (by decide +kernel)
theorem tw174 : Cond.fieldLink RX5 38 "WhistleBack" "acts" "LWhistleBack$Shelf;" ∈ TB := mTB 174 (by decide +kernel) (by decide +kernel)
theorem tw175 : Cond.fieldLink RX5 89 "WhistleBack" "actsInRow" "I" ∈ TB := mTB 175 (by decide +kernel) (by decide +kernel)
theorem tw176 : Cond.fieldLink RX5 42 "WhistleBack" "slots" "LWhistleBack$Shelf;" ∈ TB := mTB 176 (by decide +kernel) (by decide +kernel)
theorem tw177 : Cond.fieldLink RX5 45 "WhistleBack" "kept" "[Z" ∈ TB := mTB 177 (by decide +kernel) (by decide +kernel)
theorem tw178 : Cond.fieldLink RX5 52 "WhistleBack" "sights" "LWhistleBack$Sights;" ∈ TB := mTB 178 (by decide +kernel) (by decide +kernel)
theorem tw179 : Cond.fieldLink RX5 251 "WhistleBack" "theSeed" "J" ∈ TB := mTB 179 (by decide +kernel) (by decide +kernel)
theorem tw201 : Cond.methodLink RL 13 yX5_write ∈ TB := mTB 201 (by decide +kernel) (by decide +kernel)
theorem tw202 : Cond.instanceMethod yX5_write ∈ TB := mTB 202 (by decide +kernel) (by decide +kernel)
theorem tw203 : Cond.selects RX5 yX5_write yX5_write ∈ TB := mTB 203 (by decide +kernel) (by decide +kernel)
theorem tw204 : Cond.code yX5_write cX5_write 2 (some .int) ∈ TB := mTB 204 (by decide +kernel) (by decide +kernel)
theorem tw205 : Cond.methodLink RX5 56 yX4_isFull ∈ TB := mTB 205 (by decide +kernel) (by decide +kernel)
theorem tw206 : Cond.instanceMethod yX4_isFull ∈ TB := mTB 206 (by decide +kernel) (by decide +kernel)
theorem tw207 : Cond.selects RX4 yX4_isFull yX4_isFull ∈ TB := mTB 207 (by decide +kernel) (by decide +kernel)
theorem tw208 : Cond.code yX4_isFull cX4_isFull 1 (some .boolean) ∈ TB := mTB 208 (by decide +kernel) (by decide +kernel)
theorem tw209 : Cond.methodLink RX5 60 yX4_append ∈ TB := mTB 209 (by decide +kernel) (by decide +kernel)
theorem tw210 : Cond.instanceMethod yX4_append ∈ TB := mTB 210 (by decide +kernel) (by decide +kernel)
theorem tw211 : Cond.selects RX4 yX4_append yX4_append ∈ TB := mTB 211 (by decide +kernel) (by decide +kernel)
theorem tw212 : Cond.code yX4_append cX4_append 2 none ∈ TB := mTB 212 (by decide +kernel) (by decide +kernel)
theorem tw213 : Cond.methodLink RL 18 yX5_wipe ∈ TB := mTB 213 (by decide +kernel) (by decide +kernel)
theorem tw214 : Cond.instanceMethod yX5_wipe ∈ TB := mTB 214 (by decide +kernel) (by decide +kernel)
theorem tw215 : Cond.selects RX5 yX5_wipe yX5_wipe ∈ TB := mTB 215 (by decide +kernel) (by decide +kernel)
theorem tw216 : Cond.code yX5_wipe cX5_wipe 2 (some .int) ∈ TB := mTB 216 (by decide +kernel) (by decide +kernel)
theorem tw217 : Cond.methodLink RL 23 yX5_fault ∈ TB := mTB 217 (by decide +kernel) (by decide +kernel)
theorem tw218 : Cond.instanceMethod yX5_fault ∈ TB := mTB 218 (by decide +kernel) (by decide +kernel)
theorem tw219 : Cond.selects RX5 yX5_fault yX5_fault ∈ TB := mTB 219 (by decide +kernel) (by decide +kernel)
theorem tw220 : Cond.code yX5_fault cX5_fault 1 (some .int) ∈ TB := mTB 220 (by decide +kernel) (by decide +kernel)
theorem tw221 : Cond.methodLink RX5 67 yX4_firstFault ∈ TB := mTB 221 (by decide +kernel) (by decide +kernel)
theorem tw222 : Cond.instanceMethod yX4_firstFault ∈ TB := mTB 222 (by decide +kernel) (by decide +kernel)
theorem tw223 : Cond.selects RX4 yX4_firstFault yX4_firstFault ∈ TB := mTB 223 (by decide +kernel) (by decide +kernel)
theorem tw224 : Cond.code yX4_firstFault cX4_firstFault 4 (some .int) ∈ TB := mTB 224 (by decide +kernel) (by decide +kernel)
theorem tw225 : Cond.methodLink RX4 23 yX4_fits ∈ TB := mTB 225 (by decide +kernel) (by decide +kernel)
theorem tw226 : Cond.instanceMethod yX4_fits ∈ TB := mTB 226 (by decide +kernel) (by decide +kernel)
theorem tw227 : Cond.selects RX4 yX4_fits yX4_fits ∈ TB := mTB 227 (by decide +kernel) (by decide +kernel)
theorem tw228 : Cond.code yX4_fits cX4_fits 5 (some .boolean) ∈ TB := mTB 228 (by decide +kernel) (by decide +kernel)
theorem tw229 : Cond.methodLink RX4 19 yX4_letterAt ∈ TB := mTB 229 (by decide +kernel) (by decide +kernel)
theorem tw230 : Cond.instanceMethod yX4_letterAt ∈ TB := mTB 230 (by decide +kernel) (by decide +kernel)
theorem tw231 : Cond.selects RX4 yX4_letterAt yX4_letterAt ∈ TB := mTB 231 (by decide +kernel) (by decide +kernel)
theorem tw232 : Cond.code yX4_letterAt cX4_letterAt 2 (some .int) ∈ TB := mTB 232 (by decide +kernel) (by decide +kernel)
theorem tw233 : Cond.methodLink RX4 27 yX4_endsPart ∈ TB := mTB 233 (by decide +kernel) (by decide +kernel)
theorem tw234 : Cond.instanceMethod yX4_endsPart ∈ TB := mTB 234 (by decide +kernel) (by decide +kernel)
theorem tw235 : Cond.selects RX4 yX4_endsPart yX4_endsPart ∈ TB := mTB 235 (by decide +kernel) (by decide +kernel)
theorem tw236 : Cond.code yX4_endsPart cX4_endsPart 3 (some .boolean) ∈ TB := mTB 236 (by decide +kernel) (by decide +kernel)
theorem tw237 : Cond.methodLink RL 27 yX5_walk ∈ TB := mTB 237 (by decide +kernel) (by decide +kernel)
theorem tw238 : Cond.instanceMethod yX5_walk ∈ TB := mTB 238 (by decide +kernel) (by decide +kernel)
theorem tw239 : Cond.selects RX5 yX5_walk yX5_walk ∈ TB := mTB 239 (by decide +kernel) (by decide +kernel)
theorem tw240 : Cond.code yX5_walk cX5_walk 2 (some .int) ∈ TB := mTB 240 (by decide +kernel) (by decide +kernel)
theorem tw241 : Cond.methodLink RX5 71 yX4_figureAt ∈ TB := mTB 241 (by decide +kernel) (by decide +kernel)
theorem tw242 : Cond.instanceMethod yX4_figureAt ∈ TB := mTB 242 (by decide +kernel) (by decide +kernel)
theorem tw243 : Cond.selects RX4 yX4_figureAt yX4_figureAt ∈ TB := mTB 243 (by decide +kernel) (by decide +kernel)
theorem tw244 : Cond.code yX4_figureAt cX4_figureAt 2 (some .int) ∈ TB := mTB 244 (by decide +kernel) (by decide +kernel)
theorem tw245 : Cond.methodLink RX5 75 yX0_startAnew ∈ TB := mTB 245 (by decide +kernel) (by decide +kernel)
theorem tw246 : Cond.instanceMethod yX0_startAnew ∈ TB := mTB 246 (by decide +kernel) (by decide +kernel)
theorem tw247 : Cond.selects RX0 yX0_startAnew yX0_startAnew ∈ TB := mTB 247 (by decide +kernel) (by decide +kernel)
theorem tw248 : Cond.code yX0_startAnew cX0_startAnew 3 none ∈ TB := mTB 248 (by decide +kernel) (by decide +kernel)
theorem tw249 : Cond.methodLink RX5 79 yX1_clear ∈ TB := mTB 249 (by decide +kernel) (by decide +kernel)
theorem tw250 : Cond.instanceMethod yX1_clear ∈ TB := mTB 250 (by decide +kernel) (by decide +kernel)
theorem tw251 : Cond.selects RX1 yX1_clear yX1_clear ∈ TB := mTB 251 (by decide +kernel) (by decide +kernel)
theorem tw252 : Cond.code yX1_clear cX1_clear 1 none ∈ TB := mTB 252 (by decide +kernel) (by decide +kernel)
theorem tw253 : Cond.methodLink RX5 82 yX4_letterAt ∈ TB := mTB 253 (by decide +kernel) (by decide +kernel)
theorem tw254 : Cond.methodLink RX5 85 yX5_tellPart ∈ TB := mTB 254 (by decide +kernel) (by decide +kernel)
theorem tw256 : Cond.instanceMethod yX5_tellPart ∈ TB := mTB 256 (by decide +kernel) (by decide +kernel)
theorem tw257 : Cond.code yX5_tellPart cX5_tellPart 4 none ∈ TB := mTB 257 (by decide +kernel) (by decide +kernel)
theorem tw258 : Cond.methodLink RX5 98 yX0_setStrength ∈ TB := mTB 258 (by decide +kernel) (by decide +kernel)
theorem tw259 : Cond.instanceMethod yX0_setStrength ∈ TB := mTB 259 (by decide +kernel) (by decide +kernel)
theorem tw260 : Cond.selects RX0 yX0_setStrength yX0_setStrength ∈ TB := mTB 260 (by decide +kernel) (by decide +kernel)
theorem tw261 : Cond.code yX0_setStrength cX0_setStrength 3 none ∈ TB := mTB 261 (by decide +kernel) (by decide +kernel)
theorem tw262 : Cond.methodLink RX5 101 yX1_addWord ∈ TB := mTB 262 (by decide +kernel) (by decide +kernel)
theorem tw263 : Cond.instanceMethod yX1_addWord ∈ TB := mTB 263 (by decide +kernel) (by decide +kernel)
theorem tw264 : Cond.selects RX1 yX1_addWord yX1_addWord ∈ TB := mTB 264 (by decide +kernel) (by decide +kernel)
theorem tw265 : Cond.code yX1_addWord cX1_addWord 2 none ∈ TB := mTB 265 (by decide +kernel) (by decide +kernel)
theorem tw266 : Cond.methodLink RX5 104 yX1_addThing ∈ TB := mTB 266 (by decide +kernel) (by decide +kernel)
theorem tw267 : Cond.instanceMethod yX1_addThing ∈ TB := mTB 267 (by decide +kernel) (by decide +kernel)
theorem tw268 : Cond.selects RX1 yX1_addThing yX1_addThing ∈ TB := mTB 268 (by decide +kernel) (by decide +kernel)
theorem tw269 : Cond.code yX1_addThing cX1_addThing 3 none ∈ TB := mTB 269 (by decide +kernel) (by decide +kernel)
theorem tw270 : Cond.methodLink RL 31 yX5_word ∈ TB := mTB 270 (by decide +kernel) (by decide +kernel)
theorem tw271 : Cond.instanceMethod yX5_word ∈ TB := mTB 271 (by decide +kernel) (by decide +kernel)
theorem tw272 : Cond.selects RX5 yX5_word yX5_word ∈ TB := mTB 272 (by decide +kernel) (by decide +kernel)
theorem tw273 : Cond.code yX5_word cX5_word 3 (some .int) ∈ TB := mTB 273 (by decide +kernel) (by decide +kernel)
theorem tw274 : Cond.methodLink RX5 107 yX1_hasWord ∈ TB := mTB 274 (by decide +kernel) (by decide +kernel)
theorem tw275 : Cond.instanceMethod yX1_hasWord ∈ TB := mTB 275 (by decide +kernel) (by decide +kernel)
theorem tw276 : Cond.selects RX1 yX1_hasWord yX1_hasWord ∈ TB := mTB 276 (by decide +kernel) (by decide +kernel)
theorem tw277 : Cond.code yX1_hasWord cX1_hasWord 2 (some .boolean) ∈ TB := mTB 277 (by decide +kernel) (by decide +kernel)
theorem tw278 : Cond.methodLink RX5 111 yX0_strengthOf ∈ TB := mTB 278 (by decide +kernel) (by decide +kernel)
theorem tw279 : Cond.instanceMethod yX0_strengthOf ∈ TB := mTB 279 (by decide +kernel) (by decide +kernel)
theorem tw280 : Cond.selects RX0 yX0_strengthOf yX0_strengthOf ∈ TB := mTB 280 (by decide +kernel) (by decide +kernel)
theorem tw281 : Cond.code yX0_strengthOf cX0_strengthOf 2 (some .int) ∈ TB := mTB 281 (by decide +kernel) (by decide +kernel)
theorem tw282 : Cond.methodLink RX5 114 yX1_kindOf ∈ TB := mTB 282 (by decide +kernel) (by decide +kernel)
theorem tw283 : Cond.instanceMethod yX1_kindOf ∈ TB := mTB 283 (by decide +kernel) (by decide +kernel)
theorem tw284 : Cond.selects RX1 yX1_kindOf yX1_kindOf ∈ TB := mTB 284 (by decide +kernel) (by decide +kernel)
theorem tw285 : Cond.code yX1_kindOf cX1_kindOf 2 (some .int) ∈ TB := mTB 285 (by decide +kernel) (by decide +kernel)
theorem tw286 : Cond.methodLink RX5 120 yX1_powerOf ∈ TB := mTB 286 (by decide +kernel) (by decide +kernel)
theorem tw287 : Cond.instanceMethod yX1_powerOf ∈ TB := mTB 287 (by decide +kernel) (by decide +kernel)
theorem tw288 : Cond.selects RX1 yX1_powerOf yX1_powerOf ∈ TB := mTB 288 (by decide +kernel) (by decide +kernel)
theorem tw289 : Cond.code yX1_powerOf cX1_powerOf 4 (some .int) ∈ TB := mTB 289 (by decide +kernel) (by decide +kernel)
theorem tw290 : Cond.methodLink RX1 47 yX0_strengthOf ∈ TB := mTB 290 (by decide +kernel) (by decide +kernel)
theorem tw291 : Cond.methodLink RX1 56 yX1_powerWith ∈ TB := mTB 291 (by decide +kernel) (by decide +kernel)
theorem tw292 : Cond.instanceMethod yX1_powerWith ∈ TB := mTB 292 (by decide +kernel) (by decide +kernel)
theorem tw293 : Cond.selects RX1 yX1_powerWith yX1_powerWith ∈ TB := mTB 293 (by decide +kernel) (by decide +kernel)
theorem tw294 : Cond.code yX1_powerWith cX1_powerWith 6 (some .int) ∈ TB := mTB 294 (by decide +kernel) (by decide +kernel)
theorem tw295 : Cond.methodLink RX1 44 yX1_kindOf ∈ TB := mTB 295 (by decide +kernel) (by decide +kernel)
theorem tw296 : Cond.methodLink RX5 124 yX1_brings ∈ TB := mTB 296 (by decide +kernel) (by decide +kernel)
theorem tw297 : Cond.instanceMethod yX1_brings ∈ TB := mTB 297 (by decide +kernel) (by decide +kernel)
theorem tw298 : Cond.selects RX1 yX1_brings yX1_brings ∈ TB := mTB 298 (by decide +kernel) (by decide +kernel)
theorem tw299 : Cond.code yX1_brings cX1_brings 4 (some .boolean) ∈ TB := mTB 299 (by decide +kernel) (by decide +kernel)
theorem tw300 : Cond.methodLink RX1 63 yX1_powerOf ∈ TB := mTB 300 (by decide +kernel) (by decide +kernel)
theorem tw301 : Cond.methodLink RX1 67 yX1_isEnough ∈ TB := mTB 301 (by decide +kernel) (by decide +kernel)
theorem tw302 : Cond.instanceMethod yX1_isEnough ∈ TB := mTB 302 (by decide +kernel) (by decide +kernel)
theorem tw303 : Cond.selects RX1 yX1_isEnough yX1_isEnough ∈ TB := mTB 303 (by decide +kernel) (by decide +kernel)
theorem tw304 : Cond.code yX1_isEnough cX1_isEnough 4 (some .boolean) ∈ TB := mTB 304 (by decide +kernel) (by decide +kernel)
theorem tw305 : Cond.methodLink RX1 60 yX1_pullAt ∈ TB := mTB 305 (by decide +kernel) (by decide +kernel)
theorem tw306 : Cond.instanceMethod yX1_pullAt ∈ TB := mTB 306 (by decide +kernel) (by decide +kernel)
theorem tw307 : Cond.selects RX1 yX1_pullAt yX1_pullAt ∈ TB := mTB 307 (by decide +kernel) (by decide +kernel)
theorem tw308 : Cond.code yX1_pullAt cX1_pullAt 5 (some .int) ∈ TB := mTB 308 (by decide +kernel) (by decide +kernel)
theorem tw309 : Cond.methodLink RX1 28 yX1_tugOf ∈ TB := mTB 309 (by decide +kernel) (by decide +kernel)
theorem tw310 : Cond.instanceMethod yX1_tugOf ∈ TB := mTB 310 (by decide +kernel) (by decide +kernel)
theorem tw311 : Cond.selects RX1 yX1_tugOf yX1_tugOf ∈ TB := mTB 311 (by decide +kernel) (by decide +kernel)
theorem tw312 : Cond.code yX1_tugOf cX1_tugOf 2 (some .int) ∈ TB := mTB 312 (by decide +kernel) (by decide +kernel)
theorem tw313 : Cond.methodLink RX1 32 yX1_spotOf ∈ TB := mTB 313 (by decide +kernel) (by decide +kernel)
theorem tw314 : Cond.instanceMethod yX1_spotOf ∈ TB := mTB 314 (by decide +kernel) (by decide +kernel)
theorem tw315 : Cond.selects RX1 yX1_spotOf yX1_spotOf ∈ TB := mTB 315 (by decide +kernel) (by decide +kernel)
theorem tw316 : Cond.code yX1_spotOf cX1_spotOf 2 (some .int) ∈ TB := mTB 316 (by decide +kernel) (by decide +kernel)
theorem tw317 : Cond.methodLink RX1 35 Lib.Math.abs.name ∈ TB := mTB 317 (by decide +kernel) (by decide +kernel)
theorem tw318 : Cond.static Lib.Math.abs.name ∈ TB := mTB 318 (by decide +kernel) (by decide +kernel)
theorem tw319 : Cond.code Lib.Math.abs.name Lib.Math.abs.code 1 (some .int) ∈ TB := mTB 319 (by decide +kernel) (by decide +kernel)
theorem tw320 : Cond.methodLink RX1 40 Lib.Math.max.name ∈ TB := mTB 320 (by decide +kernel) (by decide +kernel)
theorem tw321 : Cond.static Lib.Math.max.name ∈ TB := mTB 321 (by decide +kernel) (by decide +kernel)
theorem tw322 : Cond.code Lib.Math.max.name Lib.Math.max.code 2 (some .int) ∈ TB := mTB 322 (by decide +kernel) (by decide +kernel)
theorem tw323 : Cond.methodLink RX5 128 yX5_asNumber ∈ TB := mTB 323 (by decide +kernel) (by decide +kernel)
theorem tw324 : Cond.static yX5_asNumber ∈ TB := mTB 324 (by decide +kernel) (by decide +kernel)
theorem tw325 : Cond.code yX5_asNumber cX5_asNumber 1 (some .int) ∈ TB := mTB 325 (by decide +kernel) (by decide +kernel)
theorem tw326 : Cond.methodLink RX5 132 yX5_farOf ∈ TB := mTB 326 (by decide +kernel) (by decide +kernel)
theorem tw328 : Cond.instanceMethod yX5_farOf ∈ TB := mTB 328 (by decide +kernel) (by decide +kernel)
theorem tw329 : Cond.code yX5_farOf cX5_farOf 3 (some .int) ∈ TB := mTB 329 (by decide +kernel) (by decide +kernel)
theorem tw330 : Cond.methodLink RX5 135 yX5_spentOf ∈ TB := mTB 330 (by decide +kernel) (by decide +kernel)
theorem tw332 : Cond.instanceMethod yX5_spentOf ∈ TB := mTB 332 (by decide +kernel) (by decide +kernel)
theorem tw333 : Cond.code yX5_spentOf cX5_spentOf 3 (some .int) ∈ TB := mTB 333 (by decide +kernel) (by decide +kernel)
theorem tw334 : Cond.methodLink RL 36 yX5_thing ∈ TB := mTB 334 (by decide +kernel) (by decide +kernel)
theorem tw335 : Cond.instanceMethod yX5_thing ∈ TB := mTB 335 (by decide +kernel) (by decide +kernel)
theorem tw336 : Cond.selects RX5 yX5_thing yX5_thing ∈ TB := mTB 336 (by decide +kernel) (by decide +kernel)
theorem tw337 : Cond.code yX5_thing cX5_thing 3 (some .int) ∈ TB := mTB 337 (by decide +kernel) (by decide +kernel)
theorem tw338 : Cond.methodLink RX5 138 yX1_hasThing ∈ TB := mTB 338 (by decide +kernel) (by decide +kernel)
theorem tw339 : Cond.instanceMethod yX1_hasThing ∈ TB := mTB 339 (by decide +kernel) (by decide +kernel)
theorem tw340 : Cond.selects RX1 yX1_hasThing yX1_hasThing ∈ TB := mTB 340 (by decide +kernel) (by decide +kernel)
theorem tw341 : Cond.code yX1_hasThing cX1_hasThing 2 (some .boolean) ∈ TB := mTB 341 (by decide +kernel) (by decide +kernel)
theorem tw342 : Cond.methodLink RX5 141 yX1_spotOf ∈ TB := mTB 342 (by decide +kernel) (by decide +kernel)
theorem tw343 : Cond.methodLink RX5 144 yX1_tugOf ∈ TB := mTB 343 (by decide +kernel) (by decide +kernel)
theorem tw344 : Cond.methodLink RL 40 yX5_pull ∈ TB := mTB 344 (by decide +kernel) (by decide +kernel)
theorem tw345 : Cond.instanceMethod yX5_pull ∈ TB := mTB 345 (by decide +kernel) (by decide +kernel)
theorem tw346 : Cond.selects RX5 yX5_pull yX5_pull ∈ TB := mTB 346 (by decide +kernel) (by decide +kernel)
theorem tw347 : Cond.code yX5_pull cX5_pull 2 (some .int) ∈ TB := mTB 347 (by decide +kernel) (by decide +kernel)
theorem tw348 : Cond.methodLink RX5 147 yX5_isNoYard ∈ TB := mTB 348 (by decide +kernel) (by decide +kernel)
theorem tw349 : Cond.static yX5_isNoYard ∈ TB := mTB 349 (by decide +kernel) (by decide +kernel)
theorem tw350 : Cond.code yX5_isNoYard cX5_isNoYard 1 (some .boolean) ∈ TB := mTB 350 (by decide +kernel) (by decide +kernel)
theorem tw351 : Cond.methodLink RX5 150 yX1_pullAt ∈ TB := mTB 351 (by decide +kernel) (by decide +kernel)
theorem tw352 : Cond.methodLink RL 44 yX5_call ∈ TB := mTB 352 (by decide +kernel) (by decide +kernel)
theorem tw353 : Cond.instanceMethod yX5_call ∈ TB := mTB 353 (by decide +kernel) (by decide +kernel)
theorem tw354 : Cond.selects RX5 yX5_call yX5_call ∈ TB := mTB 354 (by decide +kernel) (by decide +kernel)
theorem tw355 : Cond.code yX5_call cX5_call 2 (some .int) ∈ TB := mTB 355 (by decide +kernel) (by decide +kernel)
theorem tw356 : Cond.methodLink RX5 158 yX5_remember ∈ TB := mTB 356 (by decide +kernel) (by decide +kernel)
theorem tw358 : Cond.instanceMethod yX5_remember ∈ TB := mTB 358 (by decide +kernel) (by decide +kernel)
theorem tw359 : Cond.code yX5_remember cX5_remember 1 none ∈ TB := mTB 359 (by decide +kernel) (by decide +kernel)
theorem tw360 : Cond.methodLink RX5 191 yX2_dropFirst ∈ TB := mTB 360 (by decide +kernel) (by decide +kernel)
theorem tw361 : Cond.instanceMethod yX2_dropFirst ∈ TB := mTB 361 (by decide +kernel) (by decide +kernel)
theorem tw362 : Cond.selects RX2 yX2_dropFirst yX2_dropFirst ∈ TB := mTB 362 (by decide +kernel) (by decide +kernel)
theorem tw363 : Cond.code yX2_dropFirst cX2_dropFirst 2 none ∈ TB := mTB 363 (by decide +kernel) (by decide +kernel)
theorem tw364 : Cond.methodLink RX2 21 yX2_setNumber ∈ TB := mTB 364 (by decide +kernel) (by decide +kernel)
theorem tw366 : Cond.instanceMethod yX2_setNumber ∈ TB := mTB 366 (by decide +kernel) (by decide +kernel)
theorem tw367 : Cond.code yX2_setNumber cX2_setNumber 3 none ∈ TB := mTB 367 (by decide +kernel) (by decide +kernel)
theorem tw368 : Cond.methodLink RX5 194 yX2_put ∈ TB := mTB 368 (by decide +kernel) (by decide +kernel)
theorem tw369 : Cond.instanceMethod yX2_put ∈ TB := mTB 369 (by decide +kernel) (by decide +kernel)
theorem tw370 : Cond.selects RX2 yX2_put yX2_put ∈ TB := mTB 370 (by decide +kernel) (by decide +kernel)
theorem tw371 : Cond.code yX2_put cX2_put 5 none ∈ TB := mTB 371 (by decide +kernel) (by decide +kernel)
theorem tw372 : Cond.methodLink RX2 17 yX0_strengthOf ∈ TB := mTB 372 (by decide +kernel) (by decide +kernel)
theorem tw374 : Cond.methodLink RX5 161 yX1_callHim ∈ TB := mTB 374 (by decide +kernel) (by decide +kernel)
theorem tw375 : Cond.instanceMethod yX1_callHim ∈ TB := mTB 375 (by decide +kernel) (by decide +kernel)
theorem tw376 : Cond.selects RX1 yX1_callHim yX1_callHim ∈ TB := mTB 376 (by decide +kernel) (by decide +kernel)
theorem tw377 : Cond.code yX1_callHim cX1_callHim 4 (some .boolean) ∈ TB := mTB 377 (by decide +kernel) (by decide +kernel)
theorem tw378 : Cond.methodLink RX1 74 yX1_brings ∈ TB := mTB 378 (by decide +kernel) (by decide +kernel)
theorem tw379 : Cond.methodLink RX1 84 yX0_addStrength ∈ TB := mTB 379 (by decide +kernel) (by decide +kernel)
theorem tw380 : Cond.instanceMethod yX0_addStrength ∈ TB := mTB 380 (by decide +kernel) (by decide +kernel)
theorem tw381 : Cond.selects RX0 yX0_addStrength yX0_addStrength ∈ TB := mTB 381 (by decide +kernel) (by decide +kernel)
theorem tw382 : Cond.code yX0_addStrength cX0_addStrength 3 none ∈ TB := mTB 382 (by decide +kernel) (by decide +kernel)
theorem tw383 : Cond.methodLink RX0 35 yX0_strengthOf ∈ TB := mTB 383 (by decide +kernel) (by decide +kernel)
theorem tw384 : Cond.methodLink RX0 39 Lib.Math.min.name ∈ TB := mTB 384 (by decide +kernel) (by decide +kernel)
theorem tw385 : Cond.static Lib.Math.min.name ∈ TB := mTB 385 (by decide +kernel) (by decide +kernel)
theorem tw386 : Cond.code Lib.Math.min.name Lib.Math.min.code 2 (some .int) ∈ TB := mTB 386 (by decide +kernel) (by decide +kernel)
theorem tw387 : Cond.methodLink RX0 45 Lib.Math.max.name ∈ TB := mTB 387 (by decide +kernel) (by decide +kernel)
theorem tw388 : Cond.methodLink RX0 48 yX0_setStrength ∈ TB := mTB 388 (by decide +kernel) (by decide +kernel)
theorem tw389 : Cond.methodLink RX1 88 yX0_runOff ∈ TB := mTB 389 (by decide +kernel) (by decide +kernel)
theorem tw390 : Cond.instanceMethod yX0_runOff ∈ TB := mTB 390 (by decide +kernel) (by decide +kernel)
theorem tw391 : Cond.selects RX0 yX0_runOff yX0_runOff ∈ TB := mTB 391 (by decide +kernel) (by decide +kernel)
theorem tw392 : Cond.code yX0_runOff cX0_runOff 2 none ∈ TB := mTB 392 (by decide +kernel) (by decide +kernel)
theorem tw393 : Cond.methodLink RL 48 yX5_pay ∈ TB := mTB 393 (by decide +kernel) (by decide +kernel)
theorem tw394 : Cond.instanceMethod yX5_pay ∈ TB := mTB 394 (by decide +kernel) (by decide +kernel)
theorem tw395 : Cond.selects RX5 yX5_pay yX5_pay ∈ TB := mTB 395 (by decide +kernel) (by decide +kernel)
theorem tw396 : Cond.code yX5_pay cX5_pay 2 (some .int) ∈ TB := mTB 396 (by decide +kernel) (by decide +kernel)
theorem tw397 : Cond.methodLink RX5 165 yX0_canBePaid ∈ TB := mTB 397 (by decide +kernel) (by decide +kernel)
theorem tw398 : Cond.instanceMethod yX0_canBePaid ∈ TB := mTB 398 (by decide +kernel) (by decide +kernel)
theorem tw399 : Cond.selects RX0 yX0_canBePaid yX0_canBePaid ∈ TB := mTB 399 (by decide +kernel) (by decide +kernel)
theorem tw400 : Cond.code yX0_canBePaid cX0_canBePaid 1 (some .boolean) ∈ TB := mTB 400 (by decide +kernel) (by decide +kernel)
theorem tw401 : Cond.methodLink RX5 171 yX0_bePaid ∈ TB := mTB 401 (by decide +kernel) (by decide +kernel)
theorem tw402 : Cond.instanceMethod yX0_bePaid ∈ TB := mTB 402 (by decide +kernel) (by decide +kernel)
theorem tw403 : Cond.selects RX0 yX0_bePaid yX0_bePaid ∈ TB := mTB 403 (by decide +kernel) (by decide +kernel)
theorem tw404 : Cond.code yX0_bePaid cX0_bePaid 1 none ∈ TB := mTB 404 (by decide +kernel) (by decide +kernel)
theorem tw405 : Cond.methodLink RX0 52 yX0_addStrength ∈ TB := mTB 405 (by decide +kernel) (by decide +kernel)
theorem tw406 : Cond.methodLink RL 52 yX5_run ∈ TB := mTB 406 (by decide +kernel) (by decide +kernel)
theorem tw407 : Cond.instanceMethod yX5_run ∈ TB := mTB 407 (by decide +kernel) (by decide +kernel)
theorem tw408 : Cond.selects RX5 yX5_run yX5_run ∈ TB := mTB 408 (by decide +kernel) (by decide +kernel)
theorem tw409 : Cond.code yX5_run cX5_run 2 (some .int) ∈ TB := mTB 409 (by decide +kernel) (by decide +kernel)
theorem tw410 : Cond.methodLink RX5 174 yX0_runOff ∈ TB := mTB 410 (by decide +kernel) (by decide +kernel)
theorem tw411 : Cond.methodLink RL 56 yX5_lead ∈ TB := mTB 411 (by decide +kernel) (by decide +kernel)
theorem tw412 : Cond.instanceMethod yX5_lead ∈ TB := mTB 412 (by decide +kernel) (by decide +kernel)
theorem tw413 : Cond.selects RX5 yX5_lead yX5_lead ∈ TB := mTB 413 (by decide +kernel) (by decide +kernel)
theorem tw414 : Cond.code yX5_lead cX5_lead 1 (some .int) ∈ TB := mTB 414 (by decide +kernel) (by decide +kernel)
theorem tw415 : Cond.methodLink RX5 177 yX0_canBeLed ∈ TB := mTB 415 (by decide +kernel) (by decide +kernel)
theorem tw416 : Cond.instanceMethod yX0_canBeLed ∈ TB := mTB 416 (by decide +kernel) (by decide +kernel)
theorem tw417 : Cond.selects RX0 yX0_canBeLed yX0_canBeLed ∈ TB := mTB 417 (by decide +kernel) (by decide +kernel)
theorem tw418 : Cond.code yX0_canBeLed cX0_canBeLed 1 (some .boolean) ∈ TB := mTB 418 (by decide +kernel) (by decide +kernel)
theorem tw419 : Cond.methodLink RX5 180 yX1_leash ∈ TB := mTB 419 (by decide +kernel) (by decide +kernel)
theorem tw420 : Cond.instanceMethod yX1_leash ∈ TB := mTB 420 (by decide +kernel) (by decide +kernel)
theorem tw421 : Cond.selects RX1 yX1_leash yX1_leash ∈ TB := mTB 421 (by decide +kernel) (by decide +kernel)
theorem tw422 : Cond.code yX1_leash cX1_leash 2 none ∈ TB := mTB 422 (by decide +kernel) (by decide +kernel)
theorem tw423 : Cond.methodLink RL 60 yX5_hunger ∈ TB := mTB 423 (by decide +kernel) (by decide +kernel)
theorem tw424 : Cond.instanceMethod yX5_hunger ∈ TB := mTB 424 (by decide +kernel) (by decide +kernel)
theorem tw425 : Cond.selects RX5 yX5_hunger yX5_hunger ∈ TB := mTB 425 (by decide +kernel) (by decide +kernel)
theorem tw426 : Cond.code yX5_hunger cX5_hunger 1 (some .int) ∈ TB := mTB 426 (by decide +kernel) (by decide +kernel)
theorem tw427 : Cond.methodLink RL 64 yX5_undo ∈ TB := mTB 427 (by decide +kernel) (by decide +kernel)
theorem tw428 : Cond.instanceMethod yX5_undo ∈ TB := mTB 428 (by decide +kernel) (by decide +kernel)
theorem tw429 : Cond.selects RX5 yX5_undo yX5_undo ∈ TB := mTB 429 (by decide +kernel) (by decide +kernel)
theorem tw430 : Cond.code yX5_undo cX5_undo 1 (some .int) ∈ TB := mTB 430 (by decide +kernel) (by decide +kernel)
theorem tw431 : Cond.methodLink RX5 187 yX2_take ∈ TB := mTB 431 (by decide +kernel) (by decide +kernel)
theorem tw432 : Cond.instanceMethod yX2_take ∈ TB := mTB 432 (by decide +kernel) (by decide +kernel)
theorem tw433 : Cond.selects RX2 yX2_take yX2_take ∈ TB := mTB 433 (by decide +kernel) (by decide +kernel)
theorem tw434 : Cond.code yX2_take cX2_take 5 none ∈ TB := mTB 434 (by decide +kernel) (by decide +kernel)
theorem tw435 : Cond.methodLink RX2 49 yX2_numberAt ∈ TB := mTB 435 (by decide +kernel) (by decide +kernel)
theorem tw437 : Cond.instanceMethod yX2_numberAt ∈ TB := mTB 437 (by decide +kernel) (by decide +kernel)
theorem tw438 : Cond.code yX2_numberAt cX2_numberAt 2 (some .int) ∈ TB := mTB 438 (by decide +kernel) (by decide +kernel)
theorem tw439 : Cond.methodLink RX2 52 yX0_setStrength ∈ TB := mTB 439 (by decide +kernel) (by decide +kernel)
theorem tw440 : Cond.methodLink RL 68 yX5_comes ∈ TB := mTB 440 (by decide +kernel) (by decide +kernel)
theorem tw441 : Cond.instanceMethod yX5_comes ∈ TB := mTB 441 (by decide +kernel) (by decide +kernel)
theorem tw442 : Cond.selects RX5 yX5_comes yX5_comes ∈ TB := mTB 442 (by decide +kernel) (by decide +kernel)
theorem tw443 : Cond.code yX5_comes cX5_comes 3 (some .int) ∈ TB := mTB 443 (by decide +kernel) (by decide +kernel)
theorem tw444 : Cond.methodLink RL 72 yX5_best ∈ TB := mTB 444 (by decide +kernel) (by decide +kernel)
theorem tw445 : Cond.instanceMethod yX5_best ∈ TB := mTB 445 (by decide +kernel) (by decide +kernel)
theorem tw446 : Cond.selects RX5 yX5_best yX5_best ∈ TB := mTB 446 (by decide +kernel) (by decide +kernel)
theorem tw447 : Cond.code yX5_best cX5_best 6 (some .int) ∈ TB := mTB 447 (by decide +kernel) (by decide +kernel)
theorem tw448 : Cond.methodLink RL 76 yX5_fewest ∈ TB := mTB 448 (by decide +kernel) (by decide +kernel)
theorem tw449 : Cond.instanceMethod yX5_fewest ∈ TB := mTB 449 (by decide +kernel) (by decide +kernel)
theorem tw450 : Cond.selects RX5 yX5_fewest yX5_fewest ∈ TB := mTB 450 (by decide +kernel) (by decide +kernel)
theorem tw451 : Cond.code yX5_fewest cX5_fewest 6 (some .int) ∈ TB := mTB 451 (by decide +kernel) (by decide +kernel)
theorem tw452 : Cond.methodLink RX5 197 yX5_nthRow ∈ TB := mTB 452 (by decide +kernel) (by decide +kernel)
theorem tw454 : Cond.instanceMethod yX5_nthRow ∈ TB := mTB 454 (by decide +kernel) (by decide +kernel)
theorem tw455 : Cond.code yX5_nthRow cX5_nthRow 8 (some .int) ∈ TB := mTB 455 (by decide +kernel) (by decide +kernel)
theorem tw456 : Cond.methodLink RX5 200 yX5_onlyLastBrings ∈ TB := mTB 456 (by decide +kernel) (by decide +kernel)
theorem tw458 : Cond.instanceMethod yX5_onlyLastBrings ∈ TB := mTB 458 (by decide +kernel) (by decide +kernel)
theorem tw459 : Cond.code yX5_onlyLastBrings cX5_onlyLastBrings 5 (some .boolean) ∈ TB := mTB 459 (by decide +kernel) (by decide +kernel)
theorem tw460 : Cond.methodLink RX5 204 yX0_copyFrom ∈ TB := mTB 460 (by decide +kernel) (by decide +kernel)
theorem tw461 : Cond.instanceMethod yX0_copyFrom ∈ TB := mTB 461 (by decide +kernel) (by decide +kernel)
theorem tw462 : Cond.selects RX0 yX0_copyFrom yX0_copyFrom ∈ TB := mTB 462 (by decide +kernel) (by decide +kernel)
theorem tw463 : Cond.code yX0_copyFrom cX0_copyFrom 3 none ∈ TB := mTB 463 (by decide +kernel) (by decide +kernel)
theorem tw464 : Cond.methodLink RX5 207 yX5_figureOf ∈ TB := mTB 464 (by decide +kernel) (by decide +kernel)
theorem tw465 : Cond.static yX5_figureOf ∈ TB := mTB 465 (by decide +kernel) (by decide +kernel)
theorem tw466 : Cond.code yX5_figureOf cX5_figureOf 5 (some .int) ∈ TB := mTB 466 (by decide +kernel) (by decide +kernel)
theorem tw467 : Cond.methodLink RL 81 yX5_good ∈ TB := mTB 467 (by decide +kernel) (by decide +kernel)
theorem tw468 : Cond.instanceMethod yX5_good ∈ TB := mTB 468 (by decide +kernel) (by decide +kernel)
theorem tw469 : Cond.selects RX5 yX5_good yX5_good ∈ TB := mTB 469 (by decide +kernel) (by decide +kernel)
theorem tw470 : Cond.code yX5_good cX5_good 6 (some .int) ∈ TB := mTB 470 (by decide +kernel) (by decide +kernel)
theorem tw471 : Cond.methodLink RX5 211 yX1_powerWith ∈ TB := mTB 471 (by decide +kernel) (by decide +kernel)
theorem tw472 : Cond.methodLink RX5 215 yX1_isEnough ∈ TB := mTB 472 (by decide +kernel) (by decide +kernel)
theorem tw473 : Cond.methodLink RL 85 yX5_judge ∈ TB := mTB 473 (by decide +kernel) (by decide +kernel)
theorem tw474 : Cond.instanceMethod yX5_judge ∈ TB := mTB 474 (by decide +kernel) (by decide +kernel)
theorem tw475 : Cond.selects RX5 yX5_judge yX5_judge ∈ TB := mTB 475 (by decide +kernel) (by decide +kernel)
theorem tw476 : Cond.code yX5_judge cX5_judge 4 (some .int) ∈ TB := mTB 476 (by decide +kernel) (by decide +kernel)
theorem tw477 : Cond.methodLink RX5 219 yX5_tenTo ∈ TB := mTB 477 (by decide +kernel) (by decide +kernel)
theorem tw478 : Cond.static yX5_tenTo ∈ TB := mTB 478 (by decide +kernel) (by decide +kernel)
theorem tw479 : Cond.code yX5_tenTo cX5_tenTo 3 (some .int) ∈ TB := mTB 479 (by decide +kernel) (by decide +kernel)
theorem tw480 : Cond.methodLink RX5 222 yX5_doesWell ∈ TB := mTB 480 (by decide +kernel) (by decide +kernel)
theorem tw482 : Cond.instanceMethod yX5_doesWell ∈ TB := mTB 482 (by decide +kernel) (by decide +kernel)
theorem tw483 : Cond.code yX5_doesWell cX5_doesWell 3 (some .boolean) ∈ TB := mTB 483 (by decide +kernel) (by decide +kernel)
theorem tw484 : Cond.methodLink RL 89 yX5_see ∈ TB := mTB 484 (by decide +kernel) (by decide +kernel)
theorem tw485 : Cond.instanceMethod yX5_see ∈ TB := mTB 485 (by decide +kernel) (by decide +kernel)
theorem tw486 : Cond.selects RX5 yX5_see yX5_see ∈ TB := mTB 486 (by decide +kernel) (by decide +kernel)
theorem tw487 : Cond.code yX5_see cX5_see 4 (some .int) ∈ TB := mTB 487 (by decide +kernel) (by decide +kernel)
theorem tw488 : Cond.methodLink RX5 225 yX3_isFull ∈ TB := mTB 488 (by decide +kernel) (by decide +kernel)
theorem tw489 : Cond.instanceMethod yX3_isFull ∈ TB := mTB 489 (by decide +kernel) (by decide +kernel)
theorem tw490 : Cond.selects RX3 yX3_isFull yX3_isFull ∈ TB := mTB 490 (by decide +kernel) (by decide +kernel)
theorem tw491 : Cond.code yX3_isFull cX3_isFull 1 (some .boolean) ∈ TB := mTB 491 (by decide +kernel) (by decide +kernel)
theorem tw492 : Cond.methodLink RX5 226 yX3_add ∈ TB := mTB 492 (by decide +kernel) (by decide +kernel)
theorem tw493 : Cond.instanceMethod yX3_add ∈ TB := mTB 493 (by decide +kernel) (by decide +kernel)
theorem tw494 : Cond.selects RX3 yX3_add yX3_add ∈ TB := mTB 494 (by decide +kernel) (by decide +kernel)
theorem tw495 : Cond.code yX3_add cX3_add 4 none ∈ TB := mTB 495 (by decide +kernel) (by decide +kernel)
theorem tw496 : Cond.methodLink RX3 26 yX3_holds ∈ TB := mTB 496 (by decide +kernel) (by decide +kernel)
theorem tw498 : Cond.instanceMethod yX3_holds ∈ TB := mTB 498 (by decide +kernel) (by decide +kernel)
theorem tw499 : Cond.code yX3_holds cX3_holds 2 (some .boolean) ∈ TB := mTB 499 (by decide +kernel) (by decide +kernel)
theorem tw500 : Cond.methodLink RL 94 yX5_unsee ∈ TB := mTB 500 (by decide +kernel) (by decide +kernel)
theorem tw501 : Cond.instanceMethod yX5_unsee ∈ TB := mTB 501 (by decide +kernel) (by decide +kernel)
theorem tw502 : Cond.selects RX5 yX5_unsee yX5_unsee ∈ TB := mTB 502 (by decide +kernel) (by decide +kernel)
theorem tw503 : Cond.code yX5_unsee cX5_unsee 2 (some .int) ∈ TB := mTB 503 (by decide +kernel) (by decide +kernel)
theorem tw504 : Cond.methodLink RL 98 yX5_may ∈ TB := mTB 504 (by decide +kernel) (by decide +kernel)
theorem tw505 : Cond.instanceMethod yX5_may ∈ TB := mTB 505 (by decide +kernel) (by decide +kernel)
theorem tw506 : Cond.selects RX5 yX5_may yX5_may ∈ TB := mTB 506 (by decide +kernel) (by decide +kernel)
theorem tw507 : Cond.code yX5_may cX5_may 4 (some .int) ∈ TB := mTB 507 (by decide +kernel) (by decide +kernel)
theorem tw508 : Cond.methodLink RX5 231 yX3_agree ∈ TB := mTB 508 (by decide +kernel) (by decide +kernel)
theorem tw509 : Cond.instanceMethod yX3_agree ∈ TB := mTB 509 (by decide +kernel) (by decide +kernel)
theorem tw510 : Cond.selects RX3 yX3_agree yX3_agree ∈ TB := mTB 510 (by decide +kernel) (by decide +kernel)
theorem tw511 : Cond.code yX3_agree cX3_agree 7 (some .boolean) ∈ TB := mTB 511 (by decide +kernel) (by decide +kernel)
theorem tw512 : Cond.methodLink RX3 30 yX1_powerWith ∈ TB := mTB 512 (by decide +kernel) (by decide +kernel)
theorem tw513 : Cond.methodLink RX3 36 yX1_isEnough ∈ TB := mTB 513 (by decide +kernel) (by decide +kernel)
theorem tw514 : Cond.methodLink RL 102 yX5_share ∈ TB := mTB 514 (by decide +kernel) (by decide +kernel)
theorem tw515 : Cond.instanceMethod yX5_share ∈ TB := mTB 515 (by decide +kernel) (by decide +kernel)
theorem tw516 : Cond.selects RX5 yX5_share yX5_share ∈ TB := mTB 516 (by decide +kernel) (by decide +kernel)
theorem tw517 : Cond.code yX5_share cX5_share 6 (some .int) ∈ TB := mTB 517 (by decide +kernel) (by decide +kernel)
theorem tw518 : Cond.methodLink RX5 235 yX5_wordsThatBring ∈ TB := mTB 518 (by decide +kernel) (by decide +kernel)
theorem tw520 : Cond.instanceMethod yX5_wordsThatBring ∈ TB := mTB 520 (by decide +kernel) (by decide +kernel)
theorem tw521 : Cond.code yX5_wordsThatBring cX5_wordsThatBring 4 (some .int) ∈ TB := mTB 521 (by decide +kernel) (by decide +kernel)
theorem tw522 : Cond.methodLink RX5 238 yX5_fraction ∈ TB := mTB 522 (by decide +kernel) (by decide +kernel)
theorem tw523 : Cond.static yX5_fraction ∈ TB := mTB 523 (by decide +kernel) (by decide +kernel)
theorem tw524 : Cond.code yX5_fraction cX5_fraction 4 (some .int) ∈ TB := mTB 524 (by decide +kernel) (by decide +kernel)
theorem tw525 : Cond.methodLink RX5 273 yX5_greatestDivisor ∈ TB := mTB 525 (by decide +kernel) (by decide +kernel)
theorem tw526 : Cond.static yX5_greatestDivisor ∈ TB := mTB 526 (by decide +kernel) (by decide +kernel)
theorem tw527 : Cond.code yX5_greatestDivisor cX5_greatestDivisor 6 (some .int) ∈ TB := mTB 527 (by decide +kernel) (by decide +kernel)
theorem tw528 : Cond.methodLink RL 107 yX5_rests ∈ TB := mTB 528 (by decide +kernel) (by decide +kernel)
theorem tw529 : Cond.instanceMethod yX5_rests ∈ TB := mTB 529 (by decide +kernel) (by decide +kernel)
theorem tw530 : Cond.selects RX5 yX5_rests yX5_rests ∈ TB := mTB 530 (by decide +kernel) (by decide +kernel)
theorem tw531 : Cond.code yX5_rests cX5_rests 8 (some .int) ∈ TB := mTB 531 (by decide +kernel) (by decide +kernel)
theorem tw532 : Cond.methodLink RX5 242 yX5_isContent ∈ TB := mTB 532 (by decide +kernel) (by decide +kernel)
theorem tw534 : Cond.instanceMethod yX5_isContent ∈ TB := mTB 534 (by decide +kernel) (by decide +kernel)
theorem tw535 : Cond.code yX5_isContent cX5_isContent 4 (some .boolean) ∈ TB := mTB 535 (by decide +kernel) (by decide +kernel)
theorem tw536 : Cond.methodLink RX5 245 yX5_gainOf ∈ TB := mTB 536 (by decide +kernel) (by decide +kernel)
theorem tw538 : Cond.instanceMethod yX5_gainOf ∈ TB := mTB 538 (by decide +kernel) (by decide +kernel)
theorem tw539 : Cond.code yX5_gainOf cX5_gainOf 5 (some .int) ∈ TB := mTB 539 (by decide +kernel) (by decide +kernel)
theorem tw540 : Cond.methodLink RL 111 yX5_there ∈ TB := mTB 540 (by decide +kernel) (by decide +kernel)
theorem tw541 : Cond.instanceMethod yX5_there ∈ TB := mTB 541 (by decide +kernel) (by decide +kernel)
theorem tw542 : Cond.selects RX5 yX5_there yX5_there ∈ TB := mTB 542 (by decide +kernel) (by decide +kernel)
theorem tw543 : Cond.code yX5_there cX5_there 7 (some .int) ∈ TB := mTB 543 (by decide +kernel) (by decide +kernel)
theorem tw544 : Cond.methodLink RX5 248 yX5_weightOf ∈ TB := mTB 544 (by decide +kernel) (by decide +kernel)
theorem tw546 : Cond.instanceMethod yX5_weightOf ∈ TB := mTB 546 (by decide +kernel) (by decide +kernel)
theorem tw547 : Cond.code yX5_weightOf cX5_weightOf 5 (some .int) ∈ TB := mTB 547 (by decide +kernel) (by decide +kernel)
theorem tw548 : Cond.methodLink RL 118 yX5_seed ∈ TB := mTB 548 (by decide +kernel) (by decide +kernel)
theorem tw549 : Cond.instanceMethod yX5_seed ∈ TB := mTB 549 (by decide +kernel) (by decide +kernel)
theorem tw550 : Cond.selects RX5 yX5_seed yX5_seed ∈ TB := mTB 550 (by decide +kernel) (by decide +kernel)
theorem tw551 : Cond.code yX5_seed cX5_seed 5 (some .long) ∈ TB := mTB 551 (by decide +kernel) (by decide +kernel)
theorem tw552 : Cond.methodLink RL 123 yX5_walks ∈ TB := mTB 552 (by decide +kernel) (by decide +kernel)
theorem tw553 : Cond.instanceMethod yX5_walks ∈ TB := mTB 553 (by decide +kernel) (by decide +kernel)
theorem tw554 : Cond.selects RX5 yX5_walks yX5_walks ∈ TB := mTB 554 (by decide +kernel) (by decide +kernel)
theorem tw555 : Cond.code yX5_walks cX5_walks 5 (some .int) ∈ TB := mTB 555 (by decide +kernel) (by decide +kernel)
theorem tw556 : Cond.constantLong RX5 255 (6364136223846793005 : Int64) ∈ TB := mTB 556 (by decide +kernel) (by decide +kernel)
theorem tw557 : Cond.constantLong RX5 257 (1442695040888963407 : Int64) ∈ TB := mTB 557 (by decide +kernel) (by decide +kernel)
theorem tw558 : Cond.constantLong RX5 259 (20 : Int64) ∈ TB := mTB 558 (by decide +kernel) (by decide +kernel)
theorem tw559 : Cond.methodLink RX5 261 yX5_returnsFrom ∈ TB := mTB 559 (by decide +kernel) (by decide +kernel)
theorem tw561 : Cond.instanceMethod yX5_returnsFrom ∈ TB := mTB 561 (by decide +kernel) (by decide +kernel)
theorem tw562 : Cond.code yX5_returnsFrom cX5_returnsFrom 4 (some .boolean) ∈ TB := mTB 562 (by decide +kernel) (by decide +kernel)
theorem tw563 : Cond.methodLink RL 127 yX5_keep ∈ TB := mTB 563 (by decide +kernel) (by decide +kernel)
theorem tw564 : Cond.instanceMethod yX5_keep ∈ TB := mTB 564 (by decide +kernel) (by decide +kernel)
theorem tw565 : Cond.selects RX5 yX5_keep yX5_keep ∈ TB := mTB 565 (by decide +kernel) (by decide +kernel)
theorem tw566 : Cond.code yX5_keep cX5_keep 2 (some .int) ∈ TB := mTB 566 (by decide +kernel) (by decide +kernel)
theorem tw567 : Cond.methodLink RX5 264 yX5_isNoSlot ∈ TB := mTB 567 (by decide +kernel) (by decide +kernel)
theorem tw569 : Cond.instanceMethod yX5_isNoSlot ∈ TB := mTB 569 (by decide +kernel) (by decide +kernel)
theorem tw570 : Cond.code yX5_isNoSlot cX5_isNoSlot 2 (some .boolean) ∈ TB := mTB 570 (by decide +kernel) (by decide +kernel)
theorem tw571 : Cond.methodLink RL 131 yX5_again ∈ TB := mTB 571 (by decide +kernel) (by decide +kernel)
theorem tw572 : Cond.instanceMethod yX5_again ∈ TB := mTB 572 (by decide +kernel) (by decide +kernel)
theorem tw573 : Cond.selects RX5 yX5_again yX5_again ∈ TB := mTB 573 (by decide +kernel) (by decide +kernel)
theorem tw574 : Cond.code yX5_again cX5_again 2 (some .int) ∈ TB := mTB 574 (by decide +kernel) (by decide +kernel)
theorem tw575 : Cond.methodLink RL 135 yX5_count ∈ TB := mTB 575 (by decide +kernel) (by decide +kernel)
theorem tw576 : Cond.instanceMethod yX5_count ∈ TB := mTB 576 (by decide +kernel) (by decide +kernel)
theorem tw577 : Cond.selects RX5 yX5_count yX5_count ∈ TB := mTB 577 (by decide +kernel) (by decide +kernel)
theorem tw578 : Cond.code yX5_count cX5_count 2 (some .int) ∈ TB := mTB 578 (by decide +kernel) (by decide +kernel)
theorem tw579 : Cond.classLink RL 10 RX6 ∈ TB := mTB 579 (by decide +kernel) (by decide +kernel)
theorem tw580 : Cond.instantiable RX6 24 ∈ TB := mTB 580 (by decide +kernel) (by decide +kernel)
theorem tw581 : Cond.methodLink RL 12 yX6_init ∈ TB := mTB 581 (by decide +kernel) (by decide +kernel)
theorem tw582 : Cond.instanceMethod yX6_init ∈ TB := mTB 582 (by decide +kernel) (by decide +kernel)
theorem tw583 : Cond.code yX6_init cX6_init 1 none ∈ TB := mTB 583 (by decide +kernel) (by decide +kernel)
theorem tw584 : Cond.methodLink RX6 1 objectInit ∈ TB := mTB 584 (by decide +kernel) (by decide +kernel)
theorem tw585 : Cond.fieldLink RX6 80 "WhistleBackModel" "words" "I" ∈ TB := mTB 585 (by decide +kernel) (by decide +kernel)
theorem tw586 : Cond.fieldLink RX6 83 "WhistleBackModel" "things" "I" ∈ TB := mTB 586 (by decide +kernel) (by decide +kernel)
theorem tw587 : Cond.fieldLink RX6 7 "WhistleBackModel" "kind" "[I" ∈ TB := mTB 587 (by decide +kernel) (by decide +kernel)
theorem tw588 : Cond.fieldLink RX6 13 "WhistleBackModel" "off" "[I" ∈ TB := mTB 588 (by decide +kernel) (by decide +kernel)
theorem tw589 : Cond.fieldLink RX6 16 "WhistleBackModel" "pulls" "[I" ∈ TB := mTB 589 (by decide +kernel) (by decide +kernel)
theorem tw590 : Cond.fieldLink RX6 19 "WhistleBackModel" "now" "[I" ∈ TB := mTB 590 (by decide +kernel) (by decide +kernel)
theorem tw591 : Cond.fieldLink RX6 22 "WhistleBackModel" "readWord" "[I" ∈ TB := mTB 591 (by decide +kernel) (by decide +kernel)
theorem tw592 : Cond.fieldLink RX6 25 "WhistleBackModel" "readThing" "[I" ∈ TB := mTB 592 (by decide +kernel) (by decide +kernel)
theorem tw593 : Cond.fieldLink RX6 66 "WhistleBackModel" "readWords" "I" ∈ TB := mTB 593 (by decide +kernel) (by decide +kernel)
theorem tw594 : Cond.fieldLink RX6 69 "WhistleBackModel" "readThings" "I" ∈ TB := mTB 594 (by decide +kernel) (by decide +kernel)
theorem tw595 : Cond.fieldLink RX6 28 "WhistleBackModel" "text" "[I" ∈ TB := mTB 595 (by decide +kernel) (by decide +kernel)
theorem tw596 : Cond.fieldLink RX6 56 "WhistleBackModel" "length" "I" ∈ TB := mTB 596 (by decide +kernel) (by decide +kernel)
theorem tw597 : Cond.fieldLink RX6 63 "WhistleBackModel" "at" "I" ∈ TB := mTB 597 (by decide +kernel) (by decide +kernel)
theorem tw598 : Cond.fieldLink RX6 60 "WhistleBackModel" "faultAt" "I" ∈ TB := mTB 598 (by decide +kernel) (by decide +kernel)
theorem tw599 : Cond.fieldLink RX6 86 "WhistleBackModel" "acts" "I" ∈ TB := mTB 599 (by decide +kernel) (by decide +kernel)
theorem tw600 : Cond.fieldLink RX6 120 "WhistleBackModel" "next" "I" ∈ TB := mTB 600 (by decide +kernel) (by decide +kernel)
theorem tw601 : Cond.fieldLink RX6 31 "WhistleBackModel" "row" "[I" ∈ TB := mTB 601 (by decide +kernel) (by decide +kernel)
theorem tw602 : Cond.fieldLink RX6 160 "WhistleBackModel" "seen" "I" ∈ TB := mTB 602 (by decide +kernel) (by decide +kernel)
theorem tw603 : Cond.fieldLink RX6 34 "WhistleBackModel" "seenOf" "[I" ∈ TB := mTB 603 (by decide +kernel) (by decide +kernel)
theorem tw604 : Cond.fieldLink RX6 37 "WhistleBackModel" "seenFrom" "[I" ∈ TB := mTB 604 (by decide +kernel) (by decide +kernel)
theorem tw605 : Cond.fieldLink RX6 40 "WhistleBackModel" "seenCame" "[I" ∈ TB := mTB 605 (by decide +kernel) (by decide +kernel)
theorem tw606 : Cond.fieldLink RX6 183 "WhistleBackModel" "seed" "J" ∈ TB := mTB 606 (by decide +kernel) (by decide +kernel)
theorem tw607 : Cond.fieldLink RX6 43 "WhistleBackModel" "isKept" "[Z" ∈ TB := mTB 607 (by decide +kernel) (by decide +kernel)
theorem tw608 : Cond.fieldLink RX6 47 "WhistleBackModel" "kept" "[I" ∈ TB := mTB 608 (by decide +kernel) (by decide +kernel)
theorem tw658 : Cond.methodLink RL 17 yX6_write ∈ TB := mTB 658 (by decide +kernel) (by decide +kernel)
theorem tw659 : Cond.instanceMethod yX6_write ∈ TB := mTB 659 (by decide +kernel) (by decide +kernel)
theorem tw660 : Cond.selects RX6 yX6_write yX6_write ∈ TB := mTB 660 (by decide +kernel) (by decide +kernel)
theorem tw661 : Cond.code yX6_write cX6_write 2 (some .int) ∈ TB := mTB 661 (by decide +kernel) (by decide +kernel)
theorem tw662 : Cond.constantLong RX6 50 (255 : Int64) ∈ TB := mTB 662 (by decide +kernel) (by decide +kernel)
theorem tw663 : Cond.methodLink RX6 52 yX6_in ∈ TB := mTB 663 (by decide +kernel) (by decide +kernel)
theorem tw664 : Cond.static yX6_in ∈ TB := mTB 664 (by decide +kernel) (by decide +kernel)
theorem tw665 : Cond.code yX6_in cX6_in 6 (some .boolean) ∈ TB := mTB 665 (by decide +kernel) (by decide +kernel)
theorem tw666 : Cond.methodLink RL 22 yX6_wipe ∈ TB := mTB 666 (by decide +kernel) (by decide +kernel)
theorem tw667 : Cond.instanceMethod yX6_wipe ∈ TB := mTB 667 (by decide +kernel) (by decide +kernel)
theorem tw668 : Cond.selects RX6 yX6_wipe yX6_wipe ∈ TB := mTB 668 (by decide +kernel) (by decide +kernel)
theorem tw669 : Cond.code yX6_wipe cX6_wipe 2 (some .int) ∈ TB := mTB 669 (by decide +kernel) (by decide +kernel)
theorem tw670 : Cond.methodLink RL 26 yX6_fault ∈ TB := mTB 670 (by decide +kernel) (by decide +kernel)
theorem tw671 : Cond.instanceMethod yX6_fault ∈ TB := mTB 671 (by decide +kernel) (by decide +kernel)
theorem tw672 : Cond.selects RX6 yX6_fault yX6_fault ∈ TB := mTB 672 (by decide +kernel) (by decide +kernel)
theorem tw673 : Cond.code yX6_fault cX6_fault 1 (some .int) ∈ TB := mTB 673 (by decide +kernel) (by decide +kernel)
theorem tw674 : Cond.methodLink RX6 76 yX6_readText ∈ TB := mTB 674 (by decide +kernel) (by decide +kernel)
theorem tw676 : Cond.instanceMethod yX6_readText ∈ TB := mTB 676 (by decide +kernel) (by decide +kernel)
theorem tw677 : Cond.code yX6_readText cX6_readText 1 (some .int) ∈ TB := mTB 677 (by decide +kernel) (by decide +kernel)
theorem tw678 : Cond.methodLink RX6 72 yX6_figure ∈ TB := mTB 678 (by decide +kernel) (by decide +kernel)
theorem tw680 : Cond.instanceMethod yX6_figure ∈ TB := mTB 680 (by decide +kernel) (by decide +kernel)
theorem tw681 : Cond.code yX6_figure cX6_figure 4 (some .int) ∈ TB := mTB 681 (by decide +kernel) (by decide +kernel)
theorem tw682 : Cond.methodLink RL 30 yX6_walk ∈ TB := mTB 682 (by decide +kernel) (by decide +kernel)
theorem tw683 : Cond.instanceMethod yX6_walk ∈ TB := mTB 683 (by decide +kernel) (by decide +kernel)
theorem tw684 : Cond.selects RX6 yX6_walk yX6_walk ∈ TB := mTB 684 (by decide +kernel) (by decide +kernel)
theorem tw685 : Cond.code yX6_walk cX6_walk 2 (some .int) ∈ TB := mTB 685 (by decide +kernel) (by decide +kernel)
theorem tw686 : Cond.methodLink RL 35 yX6_word ∈ TB := mTB 686 (by decide +kernel) (by decide +kernel)
theorem tw687 : Cond.instanceMethod yX6_word ∈ TB := mTB 687 (by decide +kernel) (by decide +kernel)
theorem tw688 : Cond.selects RX6 yX6_word yX6_word ∈ TB := mTB 688 (by decide +kernel) (by decide +kernel)
theorem tw689 : Cond.code yX6_word cX6_word 3 (some .int) ∈ TB := mTB 689 (by decide +kernel) (by decide +kernel)
theorem tw690 : Cond.methodLink RX6 107 yX6_isWord ∈ TB := mTB 690 (by decide +kernel) (by decide +kernel)
theorem tw692 : Cond.instanceMethod yX6_isWord ∈ TB := mTB 692 (by decide +kernel) (by decide +kernel)
theorem tw693 : Cond.code yX6_isWord cX6_isWord 2 (some .boolean) ∈ TB := mTB 693 (by decide +kernel) (by decide +kernel)
theorem tw694 : Cond.methodLink RX6 93 yX6_power ∈ TB := mTB 694 (by decide +kernel) (by decide +kernel)
theorem tw696 : Cond.instanceMethod yX6_power ∈ TB := mTB 696 (by decide +kernel) (by decide +kernel)
theorem tw697 : Cond.code yX6_power cX6_power 4 (some .int) ∈ TB := mTB 697 (by decide +kernel) (by decide +kernel)
theorem tw698 : Cond.methodLink RX6 104 yX6_comesNow ∈ TB := mTB 698 (by decide +kernel) (by decide +kernel)
theorem tw700 : Cond.instanceMethod yX6_comesNow ∈ TB := mTB 700 (by decide +kernel) (by decide +kernel)
theorem tw701 : Cond.code yX6_comesNow cX6_comesNow 3 (some .boolean) ∈ TB := mTB 701 (by decide +kernel) (by decide +kernel)
theorem tw702 : Cond.methodLink RX6 100 yX6_comesBy ∈ TB := mTB 702 (by decide +kernel) (by decide +kernel)
theorem tw704 : Cond.instanceMethod yX6_comesBy ∈ TB := mTB 704 (by decide +kernel) (by decide +kernel)
theorem tw705 : Cond.code yX6_comesBy cX6_comesBy 6 (some .boolean) ∈ TB := mTB 705 (by decide +kernel) (by decide +kernel)
theorem tw706 : Cond.methodLink RX6 97 yX6_pullAt ∈ TB := mTB 706 (by decide +kernel) (by decide +kernel)
theorem tw708 : Cond.instanceMethod yX6_pullAt ∈ TB := mTB 708 (by decide +kernel) (by decide +kernel)
theorem tw709 : Cond.code yX6_pullAt cX6_pullAt 6 (some .int) ∈ TB := mTB 709 (by decide +kernel) (by decide +kernel)
theorem tw710 : Cond.methodLink RX6 89 yX6_has ∈ TB := mTB 710 (by decide +kernel) (by decide +kernel)
theorem tw711 : Cond.static yX6_has ∈ TB := mTB 711 (by decide +kernel) (by decide +kernel)
theorem tw712 : Cond.code yX6_has cX6_has 2 (some .boolean) ∈ TB := mTB 712 (by decide +kernel) (by decide +kernel)
theorem tw713 : Cond.methodLink RX6 111 yX6_farOf ∈ TB := mTB 713 (by decide +kernel) (by decide +kernel)
theorem tw715 : Cond.instanceMethod yX6_farOf ∈ TB := mTB 715 (by decide +kernel) (by decide +kernel)
theorem tw716 : Cond.code yX6_farOf cX6_farOf 4 (some .int) ∈ TB := mTB 716 (by decide +kernel) (by decide +kernel)
theorem tw717 : Cond.methodLink RX6 115 yX6_wears ∈ TB := mTB 717 (by decide +kernel) (by decide +kernel)
theorem tw719 : Cond.instanceMethod yX6_wears ∈ TB := mTB 719 (by decide +kernel) (by decide +kernel)
theorem tw720 : Cond.code yX6_wears cX6_wears 2 (some .int) ∈ TB := mTB 720 (by decide +kernel) (by decide +kernel)
theorem tw721 : Cond.methodLink RL 39 yX6_thing ∈ TB := mTB 721 (by decide +kernel) (by decide +kernel)
theorem tw722 : Cond.instanceMethod yX6_thing ∈ TB := mTB 722 (by decide +kernel) (by decide +kernel)
theorem tw723 : Cond.selects RX6 yX6_thing yX6_thing ∈ TB := mTB 723 (by decide +kernel) (by decide +kernel)
theorem tw724 : Cond.code yX6_thing cX6_thing 3 (some .int) ∈ TB := mTB 724 (by decide +kernel) (by decide +kernel)
theorem tw725 : Cond.methodLink RL 43 yX6_pull ∈ TB := mTB 725 (by decide +kernel) (by decide +kernel)
theorem tw726 : Cond.instanceMethod yX6_pull ∈ TB := mTB 726 (by decide +kernel) (by decide +kernel)
theorem tw727 : Cond.selects RX6 yX6_pull yX6_pull ∈ TB := mTB 727 (by decide +kernel) (by decide +kernel)
theorem tw728 : Cond.code yX6_pull cX6_pull 2 (some .int) ∈ TB := mTB 728 (by decide +kernel) (by decide +kernel)
theorem tw729 : Cond.constantLong RX6 118 (9 : Int64) ∈ TB := mTB 729 (by decide +kernel) (by decide +kernel)
theorem tw730 : Cond.methodLink RL 47 yX6_call ∈ TB := mTB 730 (by decide +kernel) (by decide +kernel)
theorem tw731 : Cond.instanceMethod yX6_call ∈ TB := mTB 731 (by decide +kernel) (by decide +kernel)
theorem tw732 : Cond.selects RX6 yX6_call yX6_call ∈ TB := mTB 732 (by decide +kernel) (by decide +kernel)
theorem tw733 : Cond.code yX6_call cX6_call 2 (some .int) ∈ TB := mTB 733 (by decide +kernel) (by decide +kernel)
theorem tw734 : Cond.methodLink RX6 123 yX6_keepAct ∈ TB := mTB 734 (by decide +kernel) (by decide +kernel)
theorem tw736 : Cond.instanceMethod yX6_keepAct ∈ TB := mTB 736 (by decide +kernel) (by decide +kernel)
theorem tw737 : Cond.code yX6_keepAct cX6_keepAct 2 none ∈ TB := mTB 737 (by decide +kernel) (by decide +kernel)
theorem tw738 : Cond.methodLink RX6 126 yX6_callOn ∈ TB := mTB 738 (by decide +kernel) (by decide +kernel)
theorem tw740 : Cond.instanceMethod yX6_callOn ∈ TB := mTB 740 (by decide +kernel) (by decide +kernel)
theorem tw741 : Cond.code yX6_callOn cX6_callOn 8 (some .boolean) ∈ TB := mTB 741 (by decide +kernel) (by decide +kernel)
theorem tw742 : Cond.methodLink RL 51 yX6_pay ∈ TB := mTB 742 (by decide +kernel) (by decide +kernel)
theorem tw743 : Cond.instanceMethod yX6_pay ∈ TB := mTB 743 (by decide +kernel) (by decide +kernel)
theorem tw744 : Cond.selects RX6 yX6_pay yX6_pay ∈ TB := mTB 744 (by decide +kernel) (by decide +kernel)
theorem tw745 : Cond.code yX6_pay cX6_pay 1 (some .int) ∈ TB := mTB 745 (by decide +kernel) (by decide +kernel)
theorem tw746 : Cond.methodLink RX6 129 yX6_canPay ∈ TB := mTB 746 (by decide +kernel) (by decide +kernel)
theorem tw748 : Cond.instanceMethod yX6_canPay ∈ TB := mTB 748 (by decide +kernel) (by decide +kernel)
theorem tw749 : Cond.code yX6_canPay cX6_canPay 2 (some .boolean) ∈ TB := mTB 749 (by decide +kernel) (by decide +kernel)
theorem tw750 : Cond.methodLink RX6 132 yX6_payOn ∈ TB := mTB 750 (by decide +kernel) (by decide +kernel)
theorem tw752 : Cond.instanceMethod yX6_payOn ∈ TB := mTB 752 (by decide +kernel) (by decide +kernel)
theorem tw753 : Cond.code yX6_payOn cX6_payOn 4 (some .int) ∈ TB := mTB 753 (by decide +kernel) (by decide +kernel)
theorem tw754 : Cond.methodLink RL 55 yX6_run ∈ TB := mTB 754 (by decide +kernel) (by decide +kernel)
theorem tw755 : Cond.instanceMethod yX6_run ∈ TB := mTB 755 (by decide +kernel) (by decide +kernel)
theorem tw756 : Cond.selects RX6 yX6_run yX6_run ∈ TB := mTB 756 (by decide +kernel) (by decide +kernel)
theorem tw757 : Cond.code yX6_run cX6_run 2 (some .int) ∈ TB := mTB 757 (by decide +kernel) (by decide +kernel)
theorem tw758 : Cond.methodLink RX6 135 yX6_runOn ∈ TB := mTB 758 (by decide +kernel) (by decide +kernel)
theorem tw760 : Cond.instanceMethod yX6_runOn ∈ TB := mTB 760 (by decide +kernel) (by decide +kernel)
theorem tw761 : Cond.code yX6_runOn cX6_runOn 5 none ∈ TB := mTB 761 (by decide +kernel) (by decide +kernel)
theorem tw762 : Cond.methodLink RL 59 yX6_lead ∈ TB := mTB 762 (by decide +kernel) (by decide +kernel)
theorem tw763 : Cond.instanceMethod yX6_lead ∈ TB := mTB 763 (by decide +kernel) (by decide +kernel)
theorem tw764 : Cond.selects RX6 yX6_lead yX6_lead ∈ TB := mTB 764 (by decide +kernel) (by decide +kernel)
theorem tw765 : Cond.code yX6_lead cX6_lead 1 (some .int) ∈ TB := mTB 765 (by decide +kernel) (by decide +kernel)
theorem tw766 : Cond.methodLink RX6 139 yX6_canLead ∈ TB := mTB 766 (by decide +kernel) (by decide +kernel)
theorem tw768 : Cond.instanceMethod yX6_canLead ∈ TB := mTB 768 (by decide +kernel) (by decide +kernel)
theorem tw769 : Cond.code yX6_canLead cX6_canLead 2 (some .boolean) ∈ TB := mTB 769 (by decide +kernel) (by decide +kernel)
theorem tw770 : Cond.methodLink RX6 142 yX6_leadOn ∈ TB := mTB 770 (by decide +kernel) (by decide +kernel)
theorem tw772 : Cond.instanceMethod yX6_leadOn ∈ TB := mTB 772 (by decide +kernel) (by decide +kernel)
theorem tw773 : Cond.code yX6_leadOn cX6_leadOn 5 none ∈ TB := mTB 773 (by decide +kernel) (by decide +kernel)
theorem tw774 : Cond.methodLink RL 63 yX6_hunger ∈ TB := mTB 774 (by decide +kernel) (by decide +kernel)
theorem tw775 : Cond.instanceMethod yX6_hunger ∈ TB := mTB 775 (by decide +kernel) (by decide +kernel)
theorem tw776 : Cond.selects RX6 yX6_hunger yX6_hunger ∈ TB := mTB 776 (by decide +kernel) (by decide +kernel)
theorem tw777 : Cond.code yX6_hunger cX6_hunger 1 (some .int) ∈ TB := mTB 777 (by decide +kernel) (by decide +kernel)
theorem tw778 : Cond.methodLink RL 67 yX6_undo ∈ TB := mTB 778 (by decide +kernel) (by decide +kernel)
theorem tw779 : Cond.instanceMethod yX6_undo ∈ TB := mTB 779 (by decide +kernel) (by decide +kernel)
theorem tw780 : Cond.selects RX6 yX6_undo yX6_undo ∈ TB := mTB 780 (by decide +kernel) (by decide +kernel)
theorem tw781 : Cond.code yX6_undo cX6_undo 2 (some .int) ∈ TB := mTB 781 (by decide +kernel) (by decide +kernel)
theorem tw782 : Cond.methodLink RL 71 yX6_comes ∈ TB := mTB 782 (by decide +kernel) (by decide +kernel)
theorem tw783 : Cond.instanceMethod yX6_comes ∈ TB := mTB 783 (by decide +kernel) (by decide +kernel)
theorem tw784 : Cond.selects RX6 yX6_comes yX6_comes ∈ TB := mTB 784 (by decide +kernel) (by decide +kernel)
theorem tw785 : Cond.code yX6_comes cX6_comes 3 (some .int) ∈ TB := mTB 785 (by decide +kernel) (by decide +kernel)
theorem tw786 : Cond.methodLink RL 75 yX6_best ∈ TB := mTB 786 (by decide +kernel) (by decide +kernel)
theorem tw787 : Cond.instanceMethod yX6_best ∈ TB := mTB 787 (by decide +kernel) (by decide +kernel)
theorem tw788 : Cond.selects RX6 yX6_best yX6_best ∈ TB := mTB 788 (by decide +kernel) (by decide +kernel)
theorem tw789 : Cond.code yX6_best cX6_best 5 (some .int) ∈ TB := mTB 789 (by decide +kernel) (by decide +kernel)
theorem tw790 : Cond.methodLink RL 80 yX6_fewest ∈ TB := mTB 790 (by decide +kernel) (by decide +kernel)
theorem tw791 : Cond.instanceMethod yX6_fewest ∈ TB := mTB 791 (by decide +kernel) (by decide +kernel)
theorem tw792 : Cond.selects RX6 yX6_fewest yX6_fewest ∈ TB := mTB 792 (by decide +kernel) (by decide +kernel)
theorem tw793 : Cond.code yX6_fewest cX6_fewest 4 (some .int) ∈ TB := mTB 793 (by decide +kernel) (by decide +kernel)
theorem tw794 : Cond.methodLink RX6 149 yX6_tenTo ∈ TB := mTB 794 (by decide +kernel) (by decide +kernel)
theorem tw795 : Cond.static yX6_tenTo ∈ TB := mTB 795 (by decide +kernel) (by decide +kernel)
theorem tw796 : Cond.code yX6_tenTo cX6_tenTo 3 (some .int) ∈ TB := mTB 796 (by decide +kernel) (by decide +kernel)
theorem tw797 : Cond.methodLink RX6 152 yX6_isRow ∈ TB := mTB 797 (by decide +kernel) (by decide +kernel)
theorem tw799 : Cond.instanceMethod yX6_isRow ∈ TB := mTB 799 (by decide +kernel) (by decide +kernel)
theorem tw800 : Cond.code yX6_isRow cX6_isRow 5 (some .boolean) ∈ TB := mTB 800 (by decide +kernel) (by decide +kernel)
theorem tw801 : Cond.methodLink RX6 146 yX6_layTrial ∈ TB := mTB 801 (by decide +kernel) (by decide +kernel)
theorem tw803 : Cond.instanceMethod yX6_layTrial ∈ TB := mTB 803 (by decide +kernel) (by decide +kernel)
theorem tw804 : Cond.code yX6_layTrial cX6_layTrial 2 none ∈ TB := mTB 804 (by decide +kernel) (by decide +kernel)
theorem tw805 : Cond.methodLink RL 84 yX6_good ∈ TB := mTB 805 (by decide +kernel) (by decide +kernel)
theorem tw806 : Cond.instanceMethod yX6_good ∈ TB := mTB 806 (by decide +kernel) (by decide +kernel)
theorem tw807 : Cond.selects RX6 yX6_good yX6_good ∈ TB := mTB 807 (by decide +kernel) (by decide +kernel)
theorem tw808 : Cond.code yX6_good cX6_good 4 (some .int) ∈ TB := mTB 808 (by decide +kernel) (by decide +kernel)
theorem tw809 : Cond.methodLink RL 88 yX6_judge ∈ TB := mTB 809 (by decide +kernel) (by decide +kernel)
theorem tw810 : Cond.instanceMethod yX6_judge ∈ TB := mTB 810 (by decide +kernel) (by decide +kernel)
theorem tw811 : Cond.selects RX6 yX6_judge yX6_judge ∈ TB := mTB 811 (by decide +kernel) (by decide +kernel)
theorem tw812 : Cond.code yX6_judge cX6_judge 4 (some .int) ∈ TB := mTB 812 (by decide +kernel) (by decide +kernel)
theorem tw813 : Cond.constantLong RX6 155 (6 : Int64) ∈ TB := mTB 813 (by decide +kernel) (by decide +kernel)
theorem tw814 : Cond.methodLink RX6 157 yX6_tryThing ∈ TB := mTB 814 (by decide +kernel) (by decide +kernel)
theorem tw816 : Cond.instanceMethod yX6_tryThing ∈ TB := mTB 816 (by decide +kernel) (by decide +kernel)
theorem tw817 : Cond.code yX6_tryThing cX6_tryThing 5 (some .boolean) ∈ TB := mTB 817 (by decide +kernel) (by decide +kernel)
theorem tw818 : Cond.methodLink RL 93 yX6_see ∈ TB := mTB 818 (by decide +kernel) (by decide +kernel)
theorem tw819 : Cond.instanceMethod yX6_see ∈ TB := mTB 819 (by decide +kernel) (by decide +kernel)
theorem tw820 : Cond.selects RX6 yX6_see yX6_see ∈ TB := mTB 820 (by decide +kernel) (by decide +kernel)
theorem tw821 : Cond.code yX6_see cX6_see 4 (some .int) ∈ TB := mTB 821 (by decide +kernel) (by decide +kernel)
theorem tw822 : Cond.methodLink RL 97 yX6_unsee ∈ TB := mTB 822 (by decide +kernel) (by decide +kernel)
theorem tw823 : Cond.instanceMethod yX6_unsee ∈ TB := mTB 823 (by decide +kernel) (by decide +kernel)
theorem tw824 : Cond.selects RX6 yX6_unsee yX6_unsee ∈ TB := mTB 824 (by decide +kernel) (by decide +kernel)
theorem tw825 : Cond.code yX6_unsee cX6_unsee 2 (some .int) ∈ TB := mTB 825 (by decide +kernel) (by decide +kernel)
theorem tw826 : Cond.methodLink RL 101 yX6_may ∈ TB := mTB 826 (by decide +kernel) (by decide +kernel)
theorem tw827 : Cond.instanceMethod yX6_may ∈ TB := mTB 827 (by decide +kernel) (by decide +kernel)
theorem tw828 : Cond.selects RX6 yX6_may yX6_may ∈ TB := mTB 828 (by decide +kernel) (by decide +kernel)
theorem tw829 : Cond.code yX6_may cX6_may 6 (some .int) ∈ TB := mTB 829 (by decide +kernel) (by decide +kernel)
theorem tw830 : Cond.methodLink RL 106 yX6_share ∈ TB := mTB 830 (by decide +kernel) (by decide +kernel)
theorem tw831 : Cond.instanceMethod yX6_share ∈ TB := mTB 831 (by decide +kernel) (by decide +kernel)
theorem tw832 : Cond.selects RX6 yX6_share yX6_share ∈ TB := mTB 832 (by decide +kernel) (by decide +kernel)
theorem tw833 : Cond.code yX6_share cX6_share 6 (some .int) ∈ TB := mTB 833 (by decide +kernel) (by decide +kernel)
theorem tw834 : Cond.methodLink RX6 163 yX6_ones ∈ TB := mTB 834 (by decide +kernel) (by decide +kernel)
theorem tw835 : Cond.static yX6_ones ∈ TB := mTB 835 (by decide +kernel) (by decide +kernel)
theorem tw836 : Cond.code yX6_ones cX6_ones 3 (some .int) ∈ TB := mTB 836 (by decide +kernel) (by decide +kernel)
theorem tw837 : Cond.methodLink RX6 166 yX6_factorial ∈ TB := mTB 837 (by decide +kernel) (by decide +kernel)
theorem tw838 : Cond.static yX6_factorial ∈ TB := mTB 838 (by decide +kernel) (by decide +kernel)
theorem tw839 : Cond.code yX6_factorial cX6_factorial 3 (some .int) ∈ TB := mTB 839 (by decide +kernel) (by decide +kernel)
theorem tw840 : Cond.methodLink RX6 169 yX6_reached ∈ TB := mTB 840 (by decide +kernel) (by decide +kernel)
theorem tw842 : Cond.instanceMethod yX6_reached ∈ TB := mTB 842 (by decide +kernel) (by decide +kernel)
theorem tw843 : Cond.code yX6_reached cX6_reached 6 (some .int) ∈ TB := mTB 843 (by decide +kernel) (by decide +kernel)
theorem tw844 : Cond.methodLink RX6 172 yX6_common ∈ TB := mTB 844 (by decide +kernel) (by decide +kernel)
theorem tw845 : Cond.static yX6_common ∈ TB := mTB 845 (by decide +kernel) (by decide +kernel)
theorem tw846 : Cond.code yX6_common cX6_common 5 (some .int) ∈ TB := mTB 846 (by decide +kernel) (by decide +kernel)
theorem tw847 : Cond.methodLink RL 110 yX6_rests ∈ TB := mTB 847 (by decide +kernel) (by decide +kernel)
theorem tw848 : Cond.instanceMethod yX6_rests ∈ TB := mTB 848 (by decide +kernel) (by decide +kernel)
theorem tw849 : Cond.selects RX6 yX6_rests yX6_rests ∈ TB := mTB 849 (by decide +kernel) (by decide +kernel)
theorem tw850 : Cond.code yX6_rests cX6_rests 7 (some .int) ∈ TB := mTB 850 (by decide +kernel) (by decide +kernel)
theorem tw851 : Cond.methodLink RX6 178 yX6_isRest ∈ TB := mTB 851 (by decide +kernel) (by decide +kernel)
theorem tw853 : Cond.instanceMethod yX6_isRest ∈ TB := mTB 853 (by decide +kernel) (by decide +kernel)
theorem tw854 : Cond.code yX6_isRest cX6_isRest 5 (some .boolean) ∈ TB := mTB 854 (by decide +kernel) (by decide +kernel)
theorem tw855 : Cond.methodLink RX6 175 yX6_gain ∈ TB := mTB 855 (by decide +kernel) (by decide +kernel)
theorem tw857 : Cond.instanceMethod yX6_gain ∈ TB := mTB 857 (by decide +kernel) (by decide +kernel)
theorem tw858 : Cond.code yX6_gain cX6_gain 6 (some .int) ∈ TB := mTB 858 (by decide +kernel) (by decide +kernel)
theorem tw859 : Cond.methodLink RL 115 yX6_there ∈ TB := mTB 859 (by decide +kernel) (by decide +kernel)
theorem tw860 : Cond.instanceMethod yX6_there ∈ TB := mTB 860 (by decide +kernel) (by decide +kernel)
theorem tw861 : Cond.selects RX6 yX6_there yX6_there ∈ TB := mTB 861 (by decide +kernel) (by decide +kernel)
theorem tw862 : Cond.code yX6_there cX6_there 9 (some .int) ∈ TB := mTB 862 (by decide +kernel) (by decide +kernel)
theorem tw863 : Cond.constantLong RX6 181 (10 : Int64) ∈ TB := mTB 863 (by decide +kernel) (by decide +kernel)
theorem tw864 : Cond.methodLink RL 122 yX6_seed ∈ TB := mTB 864 (by decide +kernel) (by decide +kernel)
theorem tw865 : Cond.instanceMethod yX6_seed ∈ TB := mTB 865 (by decide +kernel) (by decide +kernel)
theorem tw866 : Cond.selects RX6 yX6_seed yX6_seed ∈ TB := mTB 866 (by decide +kernel) (by decide +kernel)
theorem tw867 : Cond.code yX6_seed cX6_seed 5 (some .long) ∈ TB := mTB 867 (by decide +kernel) (by decide +kernel)
theorem tw868 : Cond.methodLink RL 126 yX6_walks ∈ TB := mTB 868 (by decide +kernel) (by decide +kernel)
theorem tw869 : Cond.instanceMethod yX6_walks ∈ TB := mTB 869 (by decide +kernel) (by decide +kernel)
theorem tw870 : Cond.selects RX6 yX6_walks yX6_walks ∈ TB := mTB 870 (by decide +kernel) (by decide +kernel)
theorem tw871 : Cond.code yX6_walks cX6_walks 6 (some .int) ∈ TB := mTB 871 (by decide +kernel) (by decide +kernel)
theorem tw872 : Cond.constantLong RX6 187 (30 : Int64) ∈ TB := mTB 872 (by decide +kernel) (by decide +kernel)
theorem tw873 : Cond.constantLong RX6 189 (6364136223846793005 : Int64) ∈ TB := mTB 873 (by decide +kernel) (by decide +kernel)
theorem tw874 : Cond.constantLong RX6 191 (1442695040888963407 : Int64) ∈ TB := mTB 874 (by decide +kernel) (by decide +kernel)
theorem tw875 : Cond.constantLong RX6 193 (20 : Int64) ∈ TB := mTB 875 (by decide +kernel) (by decide +kernel)
theorem tw876 : Cond.methodLink RL 130 yX6_keep ∈ TB := mTB 876 (by decide +kernel) (by decide +kernel)
theorem tw877 : Cond.instanceMethod yX6_keep ∈ TB := mTB 877 (by decide +kernel) (by decide +kernel)
theorem tw878 : Cond.selects RX6 yX6_keep yX6_keep ∈ TB := mTB 878 (by decide +kernel) (by decide +kernel)
theorem tw879 : Cond.code yX6_keep cX6_keep 3 (some .int) ∈ TB := mTB 879 (by decide +kernel) (by decide +kernel)
theorem tw880 : Cond.methodLink RL 134 yX6_again ∈ TB := mTB 880 (by decide +kernel) (by decide +kernel)
theorem tw881 : Cond.instanceMethod yX6_again ∈ TB := mTB 881 (by decide +kernel) (by decide +kernel)
theorem tw882 : Cond.selects RX6 yX6_again yX6_again ∈ TB := mTB 882 (by decide +kernel) (by decide +kernel)
theorem tw883 : Cond.code yX6_again cX6_again 3 (some .int) ∈ TB := mTB 883 (by decide +kernel) (by decide +kernel)
theorem tw884 : Cond.methodLink RL 138 yX6_count ∈ TB := mTB 884 (by decide +kernel) (by decide +kernel)
theorem tw885 : Cond.instanceMethod yX6_count ∈ TB := mTB 885 (by decide +kernel) (by decide +kernel)
theorem tw886 : Cond.selects RX6 yX6_count yX6_count ∈ TB := mTB 886 (by decide +kernel) (by decide +kernel)
theorem tw887 : Cond.code yX6_count cX6_count 2 (some .int) ∈ TB := mTB 887 (by decide +kernel) (by decide +kernel)
theorem tw888 : Cond.constantLong RL 116 (4294967295 : Int64) ∈ TB := mTB 888 (by decide +kernel) (by decide +kernel)
theorem inX0 : ∀ w ∈ u_ws RX0 TX0 7, w ∈ TB := by decide +kernel
theorem inX1 : ∀ w ∈ u_ws RX1 TX1 5, w ∈ TB := by decide +kernel
theorem inX2 : ∀ w ∈ u_ws RX2 TX2 1, w ∈ TB := by decide +kernel
theorem inX3 : ∀ w ∈ u_ws RX3 TX3 4, w ∈ TB := by decide +kernel
theorem inX4 : ∀ w ∈ u_ws RX4 TX4 2, w ∈ TB := by decide +kernel
theorem inX5 : ∀ w ∈ u_ws RX5 TX5 10, w ∈ TB := by decide +kernel
theorem inX6 : ∀ w ∈ u_ws RX6 TX6 24, w ∈ TB := by decide +kernel
/-! words of nest mates: carried as they are -/
def NB : List Cond := [Cond.fieldLinkNest RX5 63 "WhistleBack$Text" "size" "I" "WhistleBack", Cond.fieldLinkNest RX5 92 "WhistleBack$Fields" "words" "I" "WhistleBack", Cond.fieldLinkNest RX5 95 "WhistleBack$Fields" "things" "I" "WhistleBack", Cond.fieldLinkNest RX2 25 "WhistleBack$Dog" "cheese" "I" "WhistleBack", Cond.fieldLinkNest RX5 270 "WhistleBack$Dog" "cheese" "I" "WhistleBack", Cond.fieldLinkNest RX2 29 "WhistleBack$Dog" "yards" "I" "WhistleBack", Cond.fieldLinkNest RX5 117 "WhistleBack$Dog" "yards" "I" "WhistleBack", Cond.fieldLinkNest RX1 71 "WhistleBack$Dog" "yards" "I" "WhistleBack", Cond.fieldLinkNest RX2 32 "WhistleBack$Dog" "owed" "I" "WhistleBack", Cond.fieldLinkNest RX5 168 "WhistleBack$Dog" "owed" "I" "WhistleBack", Cond.fieldLinkNest RX1 81 "WhistleBack$Dog" "owed" "I" "WhistleBack", Cond.fieldLinkNest RX2 35 "WhistleBack$Dog" "calls" "I" "WhistleBack", Cond.fieldLinkNest RX1 78 "WhistleBack$Dog" "calls" "I" "WhistleBack", Cond.fieldLinkNest RX5 267 "WhistleBack$Dog" "calls" "I" "WhistleBack", Cond.fieldLinkNest RX2 38 "WhistleBack$Dog" "hungry" "Z" "WhistleBack", Cond.fieldLinkNest RX1 52 "WhistleBack$Dog" "hungry" "Z" "WhistleBack", Cond.fieldLinkNest RX5 184 "WhistleBack$Dog" "hungry" "Z" "WhistleBack", Cond.fieldLinkNest RX2 46 "WhistleBack$Dog" "onLead" "Z" "WhistleBack", Cond.fieldLinkNest RX5 154 "WhistleBack$Dog" "onLead" "Z" "WhistleBack", Cond.fieldLinkNest RX1 92 "WhistleBack$Dog" "onLead" "Z" "WhistleBack", Cond.fieldLinkNest RX5 230 "WhistleBack$Sights" "size" "I" "WhistleBack", Cond.methodLinkNest RX2 42 yX5_asNumber "WhistleBack"]
def NWs (U : State) : Prop := ∀ w ∈ NB, va_Nw w U
theorem nb0 : Cond.fieldLinkNest RX5 63 "WhistleBack$Text" "size" "I" "WhistleBack" ∈ NB := List.mem_of_getElem? (i := 0) rfl
theorem nb1 : Cond.fieldLinkNest RX5 92 "WhistleBack$Fields" "words" "I" "WhistleBack" ∈ NB := List.mem_of_getElem? (i := 1) rfl
theorem nb2 : Cond.fieldLinkNest RX5 95 "WhistleBack$Fields" "things" "I" "WhistleBack" ∈ NB := List.mem_of_getElem? (i := 2) rfl
theorem nb3 : Cond.fieldLinkNest RX2 25 "WhistleBack$Dog" "cheese" "I" "WhistleBack" ∈ NB := List.mem_of_getElem? (i := 3) rfl
theorem nb4 : Cond.fieldLinkNest RX5 270 "WhistleBack$Dog" "cheese" "I" "WhistleBack" ∈ NB := List.mem_of_getElem? (i := 4) rfl
theorem nb5 : Cond.fieldLinkNest RX2 29 "WhistleBack$Dog" "yards" "I" "WhistleBack" ∈ NB := List.mem_of_getElem? (i := 5) rfl
theorem nb6 : Cond.fieldLinkNest RX5 117 "WhistleBack$Dog" "yards" "I" "WhistleBack" ∈ NB := List.mem_of_getElem? (i := 6) rfl
theorem nb7 : Cond.fieldLinkNest RX1 71 "WhistleBack$Dog" "yards" "I" "WhistleBack" ∈ NB := List.mem_of_getElem? (i := 7) rfl
theorem nb8 : Cond.fieldLinkNest RX2 32 "WhistleBack$Dog" "owed" "I" "WhistleBack" ∈ NB := List.mem_of_getElem? (i := 8) rfl
theorem nb9 : Cond.fieldLinkNest RX5 168 "WhistleBack$Dog" "owed" "I" "WhistleBack" ∈ NB := List.mem_of_getElem? (i := 9) rfl
theorem nb10 : Cond.fieldLinkNest RX1 81 "WhistleBack$Dog" "owed" "I" "WhistleBack" ∈ NB := List.mem_of_getElem? (i := 10) rfl
theorem nb11 : Cond.fieldLinkNest RX2 35 "WhistleBack$Dog" "calls" "I" "WhistleBack" ∈ NB := List.mem_of_getElem? (i := 11) rfl
theorem nb12 : Cond.fieldLinkNest RX1 78 "WhistleBack$Dog" "calls" "I" "WhistleBack" ∈ NB := List.mem_of_getElem? (i := 12) rfl
theorem nb13 : Cond.fieldLinkNest RX5 267 "WhistleBack$Dog" "calls" "I" "WhistleBack" ∈ NB := List.mem_of_getElem? (i := 13) rfl
theorem nb14 : Cond.fieldLinkNest RX2 38 "WhistleBack$Dog" "hungry" "Z" "WhistleBack" ∈ NB := List.mem_of_getElem? (i := 14) rfl
theorem nb15 : Cond.fieldLinkNest RX1 52 "WhistleBack$Dog" "hungry" "Z" "WhistleBack" ∈ NB := List.mem_of_getElem? (i := 15) rfl
theorem nb16 : Cond.fieldLinkNest RX5 184 "WhistleBack$Dog" "hungry" "Z" "WhistleBack" ∈ NB := List.mem_of_getElem? (i := 16) rfl
theorem nb17 : Cond.fieldLinkNest RX2 46 "WhistleBack$Dog" "onLead" "Z" "WhistleBack" ∈ NB := List.mem_of_getElem? (i := 17) rfl
theorem nb18 : Cond.fieldLinkNest RX5 154 "WhistleBack$Dog" "onLead" "Z" "WhistleBack" ∈ NB := List.mem_of_getElem? (i := 18) rfl
theorem nb19 : Cond.fieldLinkNest RX1 92 "WhistleBack$Dog" "onLead" "Z" "WhistleBack" ∈ NB := List.mem_of_getElem? (i := 19) rfl
theorem nb20 : Cond.fieldLinkNest RX5 230 "WhistleBack$Sights" "size" "I" "WhistleBack" ∈ NB := List.mem_of_getElem? (i := 20) rfl
theorem nb21 : Cond.methodLinkNest RX2 42 yX5_asNumber "WhistleBack" ∈ NB := List.mem_of_getElem? (i := 21) rfl
theorem nt0 : Cond.fieldLinkNest RX5 63 "WhistleBack$Text" "size" "I" "WhistleBack" ∈ lw_tbl := List.mem_of_getElem? (i := 63) (by decide +kernel)
theorem nt1 : Cond.fieldLinkNest RX5 92 "WhistleBack$Fields" "words" "I" "WhistleBack" ∈ lw_tbl := List.mem_of_getElem? (i := 80) (by decide +kernel)
theorem nt2 : Cond.fieldLinkNest RX5 95 "WhistleBack$Fields" "things" "I" "WhistleBack" ∈ lw_tbl := List.mem_of_getElem? (i := 82) (by decide +kernel)
theorem nt3 : Cond.fieldLinkNest RX2 25 "WhistleBack$Dog" "cheese" "I" "WhistleBack" ∈ lw_tbl := List.mem_of_getElem? (i := 102) (by decide +kernel)
theorem nt4 : Cond.fieldLinkNest RX5 270 "WhistleBack$Dog" "cheese" "I" "WhistleBack" ∈ lw_tbl := List.mem_of_getElem? (i := 103) (by decide +kernel)
theorem nt5 : Cond.fieldLinkNest RX2 29 "WhistleBack$Dog" "yards" "I" "WhistleBack" ∈ lw_tbl := List.mem_of_getElem? (i := 105) (by decide +kernel)
theorem nt6 : Cond.fieldLinkNest RX5 117 "WhistleBack$Dog" "yards" "I" "WhistleBack" ∈ lw_tbl := List.mem_of_getElem? (i := 106) (by decide +kernel)
theorem nt7 : Cond.fieldLinkNest RX1 71 "WhistleBack$Dog" "yards" "I" "WhistleBack" ∈ lw_tbl := List.mem_of_getElem? (i := 107) (by decide +kernel)
theorem nt8 : Cond.fieldLinkNest RX2 32 "WhistleBack$Dog" "owed" "I" "WhistleBack" ∈ lw_tbl := List.mem_of_getElem? (i := 109) (by decide +kernel)
theorem nt9 : Cond.fieldLinkNest RX5 168 "WhistleBack$Dog" "owed" "I" "WhistleBack" ∈ lw_tbl := List.mem_of_getElem? (i := 110) (by decide +kernel)
theorem nt10 : Cond.fieldLinkNest RX1 81 "WhistleBack$Dog" "owed" "I" "WhistleBack" ∈ lw_tbl := List.mem_of_getElem? (i := 111) (by decide +kernel)
theorem nt11 : Cond.fieldLinkNest RX2 35 "WhistleBack$Dog" "calls" "I" "WhistleBack" ∈ lw_tbl := List.mem_of_getElem? (i := 113) (by decide +kernel)
theorem nt12 : Cond.fieldLinkNest RX1 78 "WhistleBack$Dog" "calls" "I" "WhistleBack" ∈ lw_tbl := List.mem_of_getElem? (i := 114) (by decide +kernel)
theorem nt13 : Cond.fieldLinkNest RX5 267 "WhistleBack$Dog" "calls" "I" "WhistleBack" ∈ lw_tbl := List.mem_of_getElem? (i := 115) (by decide +kernel)
theorem nt14 : Cond.fieldLinkNest RX2 38 "WhistleBack$Dog" "hungry" "Z" "WhistleBack" ∈ lw_tbl := List.mem_of_getElem? (i := 117) (by decide +kernel)
theorem nt15 : Cond.fieldLinkNest RX1 52 "WhistleBack$Dog" "hungry" "Z" "WhistleBack" ∈ lw_tbl := List.mem_of_getElem? (i := 118) (by decide +kernel)
theorem nt16 : Cond.fieldLinkNest RX5 184 "WhistleBack$Dog" "hungry" "Z" "WhistleBack" ∈ lw_tbl := List.mem_of_getElem? (i := 119) (by decide +kernel)
theorem nt17 : Cond.fieldLinkNest RX2 46 "WhistleBack$Dog" "onLead" "Z" "WhistleBack" ∈ lw_tbl := List.mem_of_getElem? (i := 121) (by decide +kernel)
theorem nt18 : Cond.fieldLinkNest RX5 154 "WhistleBack$Dog" "onLead" "Z" "WhistleBack" ∈ lw_tbl := List.mem_of_getElem? (i := 122) (by decide +kernel)
theorem nt19 : Cond.fieldLinkNest RX1 92 "WhistleBack$Dog" "onLead" "Z" "WhistleBack" ∈ lw_tbl := List.mem_of_getElem? (i := 123) (by decide +kernel)
theorem nt20 : Cond.fieldLinkNest RX5 230 "WhistleBack$Sights" "size" "I" "WhistleBack" ∈ lw_tbl := List.mem_of_getElem? (i := 159) (by decide +kernel)
theorem nt21 : Cond.methodLinkNest RX2 42 yX5_asNumber "WhistleBack" ∈ lw_tbl := List.mem_of_getElem? (i := 373) (by decide +kernel)
theorem NWs_of {args : Array Value} {s : State} (hts : ∀ w ∈ lw_tbl, w.before args s = true) : NWs s := List.forall_mem_cons.mpr ⟨va_Nw.of rfl (hts _ nt0), List.forall_mem_cons.mpr ⟨va_Nw.of rfl (hts _ nt1), List.forall_mem_cons.mpr ⟨va_Nw.of rfl (hts _ nt2), List.forall_mem_cons.mpr ⟨va_Nw.of rfl (hts _ nt3), List.forall_mem_cons.mpr ⟨va_Nw.of rfl (hts _ nt4), List.forall_mem_cons.mpr ⟨va_Nw.of rfl (hts _ nt5), List.forall_mem_cons.mpr ⟨va_Nw.of rfl (hts _ nt6), List.forall_mem_cons.mpr ⟨va_Nw.of rfl (hts _ nt7), List.forall_mem_cons.mpr ⟨va_Nw.of rfl (hts _ nt8), List.forall_mem_cons.mpr ⟨va_Nw.of rfl (hts _ nt9), List.forall_mem_cons.mpr ⟨va_Nw.of rfl (hts _ nt10), List.forall_mem_cons.mpr ⟨va_Nw.of rfl (hts _ nt11), List.forall_mem_cons.mpr ⟨va_Nw.of rfl (hts _ nt12), List.forall_mem_cons.mpr ⟨va_Nw.of rfl (hts _ nt13), List.forall_mem_cons.mpr ⟨va_Nw.of rfl (hts _ nt14), List.forall_mem_cons.mpr ⟨va_Nw.of rfl (hts _ nt15), List.forall_mem_cons.mpr ⟨va_Nw.of rfl (hts _ nt16), List.forall_mem_cons.mpr ⟨va_Nw.of rfl (hts _ nt17), List.forall_mem_cons.mpr ⟨va_Nw.of rfl (hts _ nt18), List.forall_mem_cons.mpr ⟨va_Nw.of rfl (hts _ nt19), List.forall_mem_cons.mpr ⟨va_Nw.of rfl (hts _ nt20), List.forall_mem_cons.mpr ⟨va_Nw.of rfl (hts _ nt21), fun _ h => absurd h List.not_mem_nil⟩⟩⟩⟩⟩⟩⟩⟩⟩⟩⟩⟩⟩⟩⟩⟩⟩⟩⟩⟩⟩⟩
theorem NWs_warm {s U : State} (hW : s.WarmedH U.vm) (h : NWs s) : NWs U := List.forall_mem_cons.mpr ⟨va_Nw.warmF hW (h _ nb0), List.forall_mem_cons.mpr ⟨va_Nw.warmF hW (h _ nb1), List.forall_mem_cons.mpr ⟨va_Nw.warmF hW (h _ nb2), List.forall_mem_cons.mpr ⟨va_Nw.warmF hW (h _ nb3), List.forall_mem_cons.mpr ⟨va_Nw.warmF hW (h _ nb4), List.forall_mem_cons.mpr ⟨va_Nw.warmF hW (h _ nb5), List.forall_mem_cons.mpr ⟨va_Nw.warmF hW (h _ nb6), List.forall_mem_cons.mpr ⟨va_Nw.warmF hW (h _ nb7), List.forall_mem_cons.mpr ⟨va_Nw.warmF hW (h _ nb8), List.forall_mem_cons.mpr ⟨va_Nw.warmF hW (h _ nb9), List.forall_mem_cons.mpr ⟨va_Nw.warmF hW (h _ nb10), List.forall_mem_cons.mpr ⟨va_Nw.warmF hW (h _ nb11), List.forall_mem_cons.mpr ⟨va_Nw.warmF hW (h _ nb12), List.forall_mem_cons.mpr ⟨va_Nw.warmF hW (h _ nb13), List.forall_mem_cons.mpr ⟨va_Nw.warmF hW (h _ nb14), List.forall_mem_cons.mpr ⟨va_Nw.warmF hW (h _ nb15), List.forall_mem_cons.mpr ⟨va_Nw.warmF hW (h _ nb16), List.forall_mem_cons.mpr ⟨va_Nw.warmF hW (h _ nb17), List.forall_mem_cons.mpr ⟨va_Nw.warmF hW (h _ nb18), List.forall_mem_cons.mpr ⟨va_Nw.warmF hW (h _ nb19), List.forall_mem_cons.mpr ⟨va_Nw.warmF hW (h _ nb20), List.forall_mem_cons.mpr ⟨va_Nw.warmM hW (h _ nb21), fun _ h => absurd h List.not_mem_nil⟩⟩⟩⟩⟩⟩⟩⟩⟩⟩⟩⟩⟩⟩⟩⟩⟩⟩⟩⟩⟩⟩
theorem NB_tab : ∀ w ∈ NB, w.onTables = true := by decide +kernel
theorem NWs_same {u U : State} (hv : u.vm = U.vm) (h : NWs u) : NWs U := fun w hw => va_Nw.same (NB_tab w hw) hv (h w hw)
end
section
/-- one world's cells put at places of another -/
def rplc : va_W → List Nat → va_W → va_W
  | ws, i :: is, c :: cs => rplc (ws.set i c) is cs
  | ws, _, _ => ws
theorem rplc_get : ∀ (is : List Nat) (ws cs : va_W), is.length = cs.length → ∀ (k : Nat) (q : Nat × va_E), (rplc ws is cs)[k]? = some q → (∃ j : Nat, cs[j]? = some q) ∨ (ws[k]? = some q ∧ k ∉ is) := by
  intro is
  induction is with
  | nil =>
    intro ws cs hl k q h
    cases cs with
    | nil => exact Or.inr ⟨h, List.not_mem_nil⟩
    | cons c cs => cases hl
  | cons i is ih =>
    intro ws cs hl k q h
    cases cs with
    | nil => cases hl
    | cons c cs =>
      rcases ih (ws.set i c) cs (Nat.succ.inj hl) k q h with ⟨j, hj⟩ | ⟨h1, h2⟩
      · exact Or.inl ⟨j + 1, hj⟩
      · by_cases hk : k = i
        · subst hk
          refine Or.inl ⟨0, ?_⟩
          rw [List.getElem?_set] at h1
          simp only [if_true] at h1
          split at h1
          · simpa using h1
          · cases h1
        · refine Or.inr ⟨?_, fun hm => ?_⟩
          · rw [List.getElem?_set_ne (fun e => hk e.symm)] at h1
            exact h1
          · rcases List.mem_cons.mp hm with e | e
            · exact hk e
            · exact h2 e
theorem va_P.join {G : va_G} {A0 : Nat → Prop} {ws wc w1 ws' : va_W} {H H1 : Heap} (hP : va_P G vwCl ws H) (hD : va_D A0 ws) (isC : List Nat) (hC : isC.map (fun i => ws[i]?) = wc.map some) (hlen : isC.length = w1.length) (hw : rplc ws isC w1 = ws') (hk : ∀ q : Nat, q < H.size → ¬ va_A wc H.size q → H1[q]? = H[q]?) (hP1 : va_P G vwCl w1 H1) : va_P G vwCl ws' H1 := by
  subst hw
  intro k q hq
  rcases rplc_get isC ws w1 hlen k q hq with ⟨j, hj⟩ | ⟨h1, h2⟩
  · exact hP1 j q hj
  · have hlt := (hP k q h1).lt
    refine (hP k q h1).kept (hk q.1 hlt fun h => ?_)
    rcases h with ⟨k2, e, h⟩ | h
    · have h3 : (isC.map (fun i => ws[i]?))[k2]? = some (some (q.1, e)) := by rw [hC, List.getElem?_map, h]; rfl
      rw [List.getElem?_map] at h3
      cases hi : isC[k2]? with
      | none => rw [hi] at h3; cases h3
      | some i =>
        rw [hi] at h3
        have h4 : ws[i]? = some (q.1, e) := Option.some.inj h3
        have h5 := hD.1 k i q (q.1, e) h1 h4 rfl
        subst h5
        exact h2 (List.mem_of_getElem? hi)
    · omega
theorem va_D.same {A : Nat → Prop} {ws ws' : va_W} (h : va_D A ws) (e : ws.map Prod.fst = ws'.map Prod.fst) : va_D A ws' := by
  have key : ∀ (k : Nat) (q : Nat × va_E), ws'[k]? = some q → ∃ z, ws[k]? = some z ∧ z.1 = q.1 := by
    intro k q hq
    have h1 : (ws'.map Prod.fst)[k]? = some q.1 := by rw [List.getElem?_map, hq]; rfl
    rw [← e, List.getElem?_map] at h1
    cases hz : ws[k]? with
    | none => rw [hz] at h1; cases h1
    | some z => rw [hz] at h1; exact ⟨z, rfl, Option.some.inj h1⟩
  refine ⟨fun i j x y hx hy hxy => ?_, fun k q hq => ?_⟩
  · obtain ⟨z, hz, ez⟩ := key i x hx
    obtain ⟨z2, hz2, ez2⟩ := key j y hy
    exact h.1 i j z z2 hz hz2 (by rw [ez, ez2, hxy])
  · obtain ⟨z, hz, ez⟩ := key k q hq
    rw [← ez]
    exact h.2 k z hz
theorem va_P_nil {G : va_G} {H : Heap} : va_P G vwCl [] H := fun k q h => by cases h
/-! a method's frame: what every row wants -/
abbrev Cx (p : Program) (m : MethodId) (meth : Method) (c : Code) (cc : ByteArray) (nL : Nat) (s : State) (args : Array Value) (own : String) (ret : Option FieldType) : Prop := CallFix p m c cc nL s args TB own ∧ NWs s ∧ meth.sig.returnType = ret ∧ meth.locks = false
abbrev tyL (cI cZ : ClassId) : List (ClassId × FieldType) := [(cI, .int), (cZ, .boolean)]
def PcR (G : va_G) (cI cZ : ClassId) (ws : va_W) (av : List Value) : Array Value → State → Prop := va_Pc av (fun U => va_P G vwCl ws U.heap ∧ va_K G vwCl (tyL cI cZ) U ∧ NWs U)
def PcW (G : va_G) (cI cZ : ClassId) (ws : va_W) (sz : Nat) (av : List Value) : Array Value → State → Prop := va_Pc av (fun U => U.heap.size = sz ∧ va_P G vwCl ws U.heap ∧ va_K G vwCl (tyL cI cZ) U ∧ va_D (fun _ => True) ws ∧ NWs U)
def QW (G : va_G) (o : Option Value) (ws' : va_W) (A : Nat → Prop) : Array Value → State → Outcome → State → Prop := fun _ st oc t => oc = .returned o ∧ va_P G vwCl ws' t.heap ∧ va_F A st t
theorem PcR_blind {G : va_G} {cI cZ : ClassId} {ws : va_W} {av : List Value} : FrameBlind (PcR G cI cZ ws av) := fun a U g mk q => ⟨q.1, q.2.1, va_K.moved (u := U) (U := U.calling g mk a) (Vm.Alike.refl U.vm) q.2.2.1, NWs_same (u := U) (U := U.calling g mk a) rfl q.2.2.2⟩
theorem PcW_blind {G : va_G} {cI cZ : ClassId} {ws : va_W} {sz : Nat} {av : List Value} : FrameBlind (PcW G cI cZ ws sz av) := fun a U g mk q => ⟨q.1, q.2.1, q.2.2.1, va_K.moved (u := U) (U := U.calling g mk a) (Vm.Alike.refl U.vm) q.2.2.2.1, q.2.2.2.2.1, NWs_same (u := U) (U := U.calling g mk a) rfl q.2.2.2.2.2⟩
theorem metR {l : Launch} {y : MethodName} {own : String} {cc : ByteArray} {maxL : Nat} {ret : Option FieldType} {rm : Room} {G : va_G} {cI cZ : ClassId} {ws : va_W} {vs : List Value} {r : Int32} (hy : plainName y.cls = true) (ho : y.cls = own) (hlen : (lg_sl vs).length ≤ maxL)
    (body : ∀ (p : Program) (e : Env) (s : State) (m : MethodId) (below : List Frame) (meth : Method) (c : Code) (ls : Array Slot), Cx p m meth c cc maxL s vs.toArray own ret → va_P G vwCl ws s.heap → va_K G vwCl (tyL cI cZ) s → lv_has ls maxL (lv_args 0 vs) → W p l e rm s m vs.toArray below meth c s.heap [] 0 0 (MQ below (QcRead r) vs.toArray s 0 0 (fun _ => False)) (F0 m 0 ls [])) :
    Met l y (Cond.code y cc maxL ret :: TB) rm (PcR G cI cZ ws vs) (QcRead r) 0 0 (fun _ => False) := by
  refine Met.ofW (cc := cc) (maxL := maxL) (ret := ret) hy rfl ?_
  intro p e s m args below meth c s₁ B hml hv
  obtain ⟨rfl, hP, hK, hN⟩ := hv
  have hts := atoms_spec (ws := Cond.code y cc maxL ret :: TB) B.pre
  rw [lg_entry_eq]
  exact body p e s m below meth c _ ⟨⟨B.exec, B.bytes, hml, by rw [← ho]; exact findClass_of_methodNamed B.named, fun w hw => hts w (List.mem_cons_of_mem _ hw)⟩, hN, B.returns, B.notSynchronized⟩ hP hK (lv_entry vs hlen)
theorem metW {l : Launch} {y : MethodName} {own : String} {cc : ByteArray} {maxL : Nat} {ret : Option FieldType} {rm : Room} {G : va_G} {cI cZ : ClassId} {ws ws' : va_W} {sz : Nat} {vs : List Value} {o : Option Value} (hy : plainName y.cls = true) (ho : y.cls = own) (hlen : (lg_sl vs).length ≤ maxL)
    (body : ∀ (p : Program) (e : Env) (s : State) (m : MethodId) (below : List Frame) (meth : Method) (c : Code) (ls : Array Slot) (A : Nat → Prop), Cx p m meth c cc maxL s vs.toArray own ret → (∀ q : Nat, s.heap.size ≤ q → A q) → va_P G vwCl ws s.heap → va_K G vwCl (tyL cI cZ) s → va_D A ws → lv_has ls maxL (lv_args 0 vs) → W p l e rm s m vs.toArray below meth c s.heap [] 0 0 (MQ below (QW G o ws' A) vs.toArray s 0 0 A) (F0 m 0 ls [])) :
    Met l y (Cond.code y cc maxL ret :: TB) rm (PcW G cI cZ ws sz vs) (QW G o ws' (va_A ws sz)) 0 0 (va_A ws sz) := by
  refine Met.ofW (cc := cc) (maxL := maxL) (ret := ret) hy rfl ?_
  intro p e s m args below meth c s₁ B hml hv
  obtain ⟨rfl, hsz, hP, hK, hD0, hN⟩ := hv
  subst hsz
  have hts := atoms_spec (ws := Cond.code y cc maxL ret :: TB) B.pre
  rw [lg_entry_eq]
  exact body p e s m below meth c _ (va_A ws s.heap.size) ⟨⟨B.exec, B.bytes, hml, by rw [← ho]; exact findClass_of_methodNamed B.named, fun w hw => hts w (List.mem_cons_of_mem _ hw)⟩, hN, B.returns, B.notSynchronized⟩ (fun _ h => Or.inr h) hP hK hD0.self (lv_entry vs hlen)
abbrev oV (y : MethodName) (C : String) (cb : ByteArray) (ml : Nat) (ret : Option FieldType) (n : Nat) : Prop := Cond.code y cb ml ret ∈ TB ∧ Cond.instanceMethod y ∈ TB ∧ Cond.selects C y y ∈ TB ∧ Cond.initialized y.cls ∈ TB ∧ (y.cls ≠ "java/lang/invoke/MethodHandle" ∧ y.cls ≠ "java/lang/invoke/VarHandle") ∧ (parseMethodDescriptor y.desc).map (fun d => d.parameters.length) = some n
abbrev oS (y : MethodName) (cb : ByteArray) (ml : Nat) (ret : Option FieldType) (n : Nat) : Prop := Cond.code y cb ml ret ∈ TB ∧ Cond.static y ∈ TB ∧ Cond.initialized y.cls ∈ TB ∧ (y.cls ≠ "java/lang/invoke/MethodHandle" ∧ y.cls ≠ "java/lang/invoke/VarHandle") ∧ (parseMethodDescriptor y.desc).map (fun d => d.parameters.length) = some n
abbrev oI (y : MethodName) (cb : ByteArray) (ml : Nat) (n : Nat) : Prop := Cond.code y cb ml none ∈ TB ∧ Cond.instanceMethod y ∈ TB ∧ y.name = "<init>" ∧ Cond.initialized y.cls ∈ TB ∧ (y.cls ≠ "java/lang/invoke/MethodHandle" ∧ y.cls ≠ "java/lang/invoke/VarHandle") ∧ (parseMethodDescriptor y.desc).map (fun d => d.parameters.length) = some n
section
variable {R : Room} {s : State} {args : Array Value} {own C : String} {idx ml n mc ms : Nat} {y : MethodName} {cb : ByteArray} {ret : Option FieldType} {rm : Room}
theorem mkB (hT : ∀ w ∈ TB, w.before args s = true) (h1 : Cond.code y cb ml ret ∈ TB) (h2 : Cond.initialized y.cls ∈ TB) (h3 : y.cls ≠ "java/lang/invoke/MethodHandle" ∧ y.cls ≠ "java/lang/invoke/VarHandle") (h4 : (parseMethodDescriptor y.desc).map (fun d => d.parameters.length) = some n) (hl : Cond.methodLink own idx y ∈ TB) (hrm : rm.cells = mc ∧ rm.slots = ms ∧ rm.frames + 1 ≤ R.frames ∧ 8 + (ml + 11) + rm.locals ≤ R.locals) : CallB R s args own idx y cb ml ret (Cond.code y cb ml ret :: TB) rm mc ms n := by
  refine ⟨hrm.1, hrm.2.1, hrm.2.2.1, hrm.2.2.2, List.forall_mem_cons.mpr ⟨TB_good hT _ h1, TB_good hT⟩, List.mem_cons_self, hT _ h1, hT _ h2, h3, fun sig h => ?_, hT _ hl⟩
  rw [h] at h4
  exact (Option.some.inj h4).symm
theorem mkN {host : String} (hT : ∀ w ∈ TB, w.before args s = true) (hl : va_Nw (.methodLinkNest own idx y host) s) (h1 : Cond.code y cb ml ret ∈ TB) (h2 : Cond.initialized y.cls ∈ TB) (h3 : y.cls ≠ "java/lang/invoke/MethodHandle" ∧ y.cls ≠ "java/lang/invoke/VarHandle") (h4 : (parseMethodDescriptor y.desc).map (fun d => d.parameters.length) = some n) (hrm : rm.cells = mc ∧ rm.slots = ms ∧ rm.frames + 1 ≤ R.frames ∧ 8 + (ml + 11) + rm.locals ≤ R.locals) : va_CN R s args own idx y host cb ml ret (Cond.code y cb ml ret :: TB) rm mc ms n := by
  refine ⟨⟨hrm.1, hrm.2.1, hrm.2.2.1, hrm.2.2.2, List.forall_mem_cons.mpr ⟨TB_good hT _ h1, TB_good hT⟩, List.mem_cons_self⟩, hT _ h1, hT _ h2, h3, fun sig h => ?_, va_Nw.use rfl hl⟩
  rw [h] at h4
  exact (Option.some.inj h4).symm
end
section
variable {p : Program} {l : Launch} {e : Env} {R : Room} {s : State} {m : MethodId} {args : Array Value} {below : List Frame} {meth : Method} {c : Code} {H H0 : Heap} {locs : List Loc} {cells slots : Nat} {Q : State → Prop} {cc : ByteArray} {pc : Nat} {ls : Array Slot} {rest st0 : List Value} {G : va_G} {A A0 : Nat → Prop} {ws ws' wsC w1 : va_W} {nL n idx ml ci q0 : Nat} {cI cZ : ClassId} {own C : String} {y : MethodName} {cb : ByteArray} {ret : Option FieldType} {rm : Room} {r : Int32} {b : Nat} {As : List Value} {lv : List (Nat × Value)} {fs : List Value} {cq : vw_C} {ov : Option Value} {ret2 : Option FieldType} {st1 : List Value}
theorem retR (X : Cx p m meth c cc nL s args own (some .int)) {v : Int32} (hdg : decode cc pc = .ok (.ireturn, 1)) : W p l e R s m args below meth c s.heap [] 0 0 (MQ below (QcRead v) args s 0 0 (fun _ => False)) (F0 m pc ls [.int v]) := W.iret X.1.1 X.1.2.1 X.2.2.1 (fun t ht _ => ⟨rfl, ht⟩) (fun q h => by cases h) hdg X.2.2.2
theorem retRZ (X : Cx p m meth c cc nL s args own (some .boolean)) {v : Int32} (hz : okB v = true) (hdg : decode cc pc = .ok (.ireturn, 1)) : W p l e R s m args below meth c s.heap [] 0 0 (MQ below (QcRead v) args s 0 0 (fun _ => False)) (F0 m pc ls [.int v]) := W.zret X.1.1 X.1.2.1 X.2.2.1 (okB_nar hz) (fun t ht _ => ⟨rfl, ht⟩) (fun q h => by cases h) hdg X.2.2.2
theorem retW (X : Cx p m meth c cc nL s args own (some .int)) (hP : va_P G vwCl ws H) (hS : va_S A s.heap H locs) {v : Int32} (hdg : decode cc pc = .ok (.ireturn, 1)) : W p l e R s m args below meth c H locs 0 0 (MQ below (QW G (some (.int v)) ws A) args s 0 0 A) (F0 m pc ls [.int v]) := W.iret X.1.1 X.1.2.1 X.2.2.1 (fun t ht _ => ⟨rfl, by rw [ht]; exact hP, hS.F ht⟩) hS.2.2 hdg X.2.2.2
theorem retWZ (X : Cx p m meth c cc nL s args own (some .boolean)) (hP : va_P G vwCl ws H) (hS : va_S A s.heap H locs) {v : Int32} (hz : okB v = true) (hdg : decode cc pc = .ok (.ireturn, 1)) : W p l e R s m args below meth c H locs 0 0 (MQ below (QW G (some (.int v)) ws A) args s 0 0 A) (F0 m pc ls [.int v]) := W.zret X.1.1 X.1.2.1 X.2.2.1 (okB_nar hz) (fun t ht _ => ⟨rfl, by rw [ht]; exact hP, hS.F ht⟩) hS.2.2 hdg X.2.2.2
theorem retWL (X : Cx p m meth c cc nL s args own (some .long)) (hP : va_P G vwCl ws H) (hS : va_S A s.heap H locs) {v : Int64} (hdg : decode cc pc = .ok (.lreturn, 1)) : W p l e R s m args below meth c H locs 0 0 (MQ below (QW G (some (.long v)) ws A) args s 0 0 A) (F0 m pc ls [.long v]) := W.lret X.1.1 X.1.2.1 X.2.2.1 (fun t ht _ => ⟨rfl, by rw [ht]; exact hP, hS.F ht⟩) hS.2.2 hdg X.2.2.2
theorem retWV (X : Cx p m meth c cc nL s args own none) (hP : va_P G vwCl ws H) (hS : va_S A s.heap H locs) (hdg : decode cc pc = .ok (.return_, 1)) : W p l e R s m args below meth c H locs 0 0 (MQ below (QW G none ws A) args s 0 0 A) (F0 m pc ls []) := W.vret X.1.1 X.1.2.1 X.2.2.1 (fun t ht _ => ⟨rfl, by rw [ht]; exact hP, hS.F ht⟩) hS.2.2 hdg X.2.2.2
theorem runR {g : JFrame} {a : Array Value} (hr : va_Run p l e R s m args below meth c H locs cells slots 0 0 g rest (QcRead r a) (fun _ => False)) (kk : W p l e R s m args below meth c H locs cells slots Q { g with pc := g.pc + 3, stack := .int r :: rest }) : W p l e R s m args below meth c H locs cells slots Q g := by
  intro T hT X
  obtain ⟨v, st₀, t, T', L, h0, X', hL, e1, e2, ⟨hv, hh⟩, st⟩ := hr T hT X
  cases hv
  obtain ⟨t2, a1, b1⟩ := kk T' (by rw [e1, hh, h0]) (Stand.forget X' (fun q h => (hL q h).elim))
  exact ⟨t2, st t2 a1, b1⟩
theorem callRV (X : Cx p m meth c cc nL s args own ret2) (hM : Met l y (Cond.code y cb ml ret :: TB) rm (PcR G cI cZ wsC (.ref b :: As)) (QcRead r) 0 0 (fun _ => False)) (o : oV y C cb ml ret n) (hl : Cond.methodLink own idx y ∈ TB) (hrm : rm.cells = 0 ∧ rm.slots = 0 ∧ rm.frames + 1 ≤ R.frames ∧ 8 + (ml + 11) + rm.locals ≤ R.locals) (hP : va_P G vwCl wsC H) (hK : va_K G vwCl (tyL cI cZ) s) (q0 : Nat) (hc : vwCl[ci]? = some cq) (he : wsC[q0]? = some (b, .inr (ci, fs))) (hC : cq.1 = C) (hn : As.length = n) (hls : lv_has ls nL lv) (hst : st0 = As.reverse ++ .ref b :: rest) (hW8 : (rest.map fun v => v.category).sum ≤ 8) (hcs : cells ≤ R.cells ∧ slots ≤ R.slots) (hdg : decode cc pc = .ok (.invokevirtual idx, 3))
    (kk : W p l e R s m args below meth c H locs cells slots Q (F0 m (pc + 3) ls (.int r :: rest))) : W p l e R s m args below meth c H locs cells slots Q (F0 m pc ls st0) := by
  obtain ⟨o1, o2, o3, o4, o5, o6⟩ := o
  subst hC
  exact runR (va_runV (As := As) (rest := rest) (C := cq.1) X.1 hM ⟨mkB X.1.2.2.2.2 o1 o4 o5 o6 hl hrm, X.1.2.2.2.2 _ o2, X.1.2.2.2.2 _ o3⟩ ⟨PcR_blind, va_recv hK hP hc he, fun U hU hW => ⟨rfl, by rw [hU]; exact hP, va_K.moved hW.alike hK, NWs_warm hW X.2.1⟩⟩ rfl hn hls.1 hst (lv_room hW8) hdg hcs) kk
theorem callRS (X : Cx p m meth c cc nL s args own ret2) (hM : Met l y (Cond.code y cb ml ret :: TB) rm (PcR G cI cZ wsC As) (QcRead r) 0 0 (fun _ => False)) (o : oS y cb ml ret n) (hl : Cond.methodLink own idx y ∈ TB) (hrm : rm.cells = 0 ∧ rm.slots = 0 ∧ rm.frames + 1 ≤ R.frames ∧ 8 + (ml + 11) + rm.locals ≤ R.locals) (hP : va_P G vwCl wsC H) (hK : va_K G vwCl (tyL cI cZ) s) (hn : As.length = n) (hls : lv_has ls nL lv) (hst : st0 = As.reverse ++ rest) (hW8 : (rest.map fun v => v.category).sum ≤ 8) (hcs : cells ≤ R.cells ∧ slots ≤ R.slots) (hdg : decode cc pc = .ok (.invokestatic idx, 3))
    (kk : W p l e R s m args below meth c H locs cells slots Q (F0 m (pc + 3) ls (.int r :: rest))) : W p l e R s m args below meth c H locs cells slots Q (F0 m pc ls st0) := by
  obtain ⟨o1, o2, o4, o5, o6⟩ := o
  exact runR (va_runS (As := As) (rest := rest) X.1 hM ⟨mkB X.1.2.2.2.2 o1 o4 o5 o6 hl hrm, X.1.2.2.2.2 _ o2⟩ ⟨PcR_blind, fun U hU hW => ⟨rfl, by rw [hU]; exact hP, va_K.moved hW.alike hK, NWs_warm hW X.2.1⟩⟩ rfl hn hls.1 hst (lv_room hW8) hdg hcs) kk
theorem callRSN {host : String} (X : Cx p m meth c cc nL s args own ret2) (hM : Met l y (Cond.code y cb ml ret :: TB) rm (PcR G cI cZ wsC As) (QcRead r) 0 0 (fun _ => False)) (o : oS y cb ml ret n) (hl : Cond.methodLinkNest own idx y host ∈ NB) (hrm : rm.cells = 0 ∧ rm.slots = 0 ∧ rm.frames + 1 ≤ R.frames ∧ 8 + (ml + 11) + rm.locals ≤ R.locals) (hP : va_P G vwCl wsC H) (hK : va_K G vwCl (tyL cI cZ) s) (hn : As.length = n) (hls : lv_has ls nL lv) (hst : st0 = As.reverse ++ rest) (hW8 : (rest.map fun v => v.category).sum ≤ 8) (hcs : cells ≤ R.cells ∧ slots ≤ R.slots) (hdg : decode cc pc = .ok (.invokestatic idx, 3))
    (kk : W p l e R s m args below meth c H locs cells slots Q (F0 m (pc + 3) ls (.int r :: rest))) : W p l e R s m args below meth c H locs cells slots Q (F0 m pc ls st0) := by
  obtain ⟨o1, o2, o4, o5, o6⟩ := o
  exact runR (va_runSN (As := As) (rest := rest) X.1 hM ⟨mkN X.1.2.2.2.2 (X.2.1 _ hl) o1 o4 o5 o6 hrm, X.1.2.2.2.2 _ o2, trivial⟩ ⟨PcR_blind, fun U hU hW => ⟨rfl, by rw [hU]; exact hP, va_K.moved hW.alike hK, NWs_warm hW X.2.1⟩⟩ rfl hn hls.1 hst (lv_room hW8) hdg hcs) kk
theorem runW {g : JFrame} {a : Array Value} (isC : List Nat) (hr : va_Run p l e R s m args below meth c H locs cells slots 0 0 g rest (QW G ov w1 (va_A wsC H.size) a) (va_A wsC H.size)) (hP : va_P G vwCl ws H) (hD : va_D A0 ws) (hS : va_S A0 H0 H locs) (hA : ∀ q : Nat, H0.size ≤ q → A0 q) (hC : isC.map (fun i => ws[i]?) = wsC.map some) (hlen : isC.length = w1.length) (hw : rplc ws isC w1 = ws') (had : ws.map Prod.fst = ws'.map Prod.fst)
    (kk : ∀ (H1 : Heap) (locs1 : List Loc), va_P G vwCl ws' H1 → va_D A0 ws' → va_S A0 H0 H1 locs1 → W p l e R s m args below meth c H1 locs1 cells slots Q { g with pc := g.pc + 3, stack := ov.toList ++ rest }) : W p l e R s m args below meth c H locs cells slots Q g := by
  have hF := va_free hD hS hA isC hC
  intro T hT X
  obtain ⟨v, st₀, t, T', L, h0, X', hL, e1, e2, ⟨hv, hp, hz, hk⟩, st⟩ := hr T hT X
  have hv2 : v = ov := by injection hv
  subst hv2
  rw [h0] at hz hk
  rw [← e1] at hp hz hk
  obtain ⟨t2, a1, b1⟩ := kk T'.heap (locs ++ L) (hP.join hD isC hC hlen hw hk hp) (hD.same had)
    ⟨Nat.le_trans hS.1 hz, fun q h1 h2 => by rw [hk q (Nat.lt_of_lt_of_le h1 hS.1) (fun z => h2 (hF q z))]; exact hS.2.1 q h1 h2, fun q hq => by
      rcases List.mem_append.mp hq with h | h
      · exact hS.2.2 q h
      · exact hF _ (hL q h)⟩ T' rfl X'
  exact ⟨t2, st t2 a1, b1⟩
theorem callWV (X : Cx p m meth c cc nL s args own ret2) (hM : Met l y (Cond.code y cb ml ret :: TB) rm (PcW G cI cZ wsC H.size (.ref b :: As)) (QW G ov w1 (va_A wsC H.size)) 0 0 (va_A wsC H.size)) (o : oV y C cb ml ret n) (hl : Cond.methodLink own idx y ∈ TB) (hrm : rm.cells = 0 ∧ rm.slots = 0 ∧ rm.frames + 1 ≤ R.frames ∧ 8 + (ml + 11) + rm.locals ≤ R.locals) (hP : va_P G vwCl ws H) (hK : va_K G vwCl (tyL cI cZ) s) (hD : va_D A0 ws) (hS : va_S A0 H0 H locs) (hA : ∀ q : Nat, H0.size ≤ q → A0 q) (isC : List Nat) (hnd : va_nd isC = true) (hC : isC.map (fun i => ws[i]?) = wsC.map some) (hlen : isC.length = w1.length) (hw : rplc ws isC w1 = ws') (had : ws.map Prod.fst = ws'.map Prod.fst) (q0 : Nat) (hc : vwCl[ci]? = some cq) (he : ws[q0]? = some (b, .inr (ci, fs))) (hCC : cq.1 = C) (hn : As.length = n) (hls : lv_has ls nL lv) (hst : st0 = As.reverse ++ .ref b :: rest) (hW8 : (rest.map fun v => v.category).sum ≤ 8) (hcs : cells ≤ R.cells ∧ slots ≤ R.slots) (hs1 : ov.toList ++ rest = st1) (hdg : decode cc pc = .ok (.invokevirtual idx, 3))
    (kk : ∀ (H1 : Heap) (locs1 : List Loc), va_P G vwCl ws' H1 → va_D A0 ws' → va_S A0 H0 H1 locs1 → W p l e R s m args below meth c H1 locs1 cells slots Q (F0 m (pc + 3) ls st1)) : W p l e R s m args below meth c H locs cells slots Q (F0 m pc ls st0) := by
  obtain ⟨o1, o2, o3, o4, o5, o6⟩ := o
  subst hCC
  subst hs1
  have hPc : va_P G vwCl wsC H := by
    intro k q hk
    have h1 : (isC.map (fun i => ws[i]?))[k]? = some (some q) := by rw [hC, List.getElem?_map, hk]; rfl
    rw [List.getElem?_map] at h1
    cases hi : isC[k]? with
    | none => rw [hi] at h1; cases h1
    | some i => rw [hi] at h1; exact hP i q (Option.some.inj h1)
  have hDc := hD.sub isC hnd hC
  exact runW isC (va_runV (As := As) (rest := rest) (C := cq.1) X.1 hM ⟨mkB X.1.2.2.2.2 o1 o4 o5 o6 hl hrm, X.1.2.2.2.2 _ o2, X.1.2.2.2.2 _ o3⟩ ⟨PcW_blind, va_recv hK hP hc he, fun U hU hW => ⟨rfl, by rw [hU], by rw [hU]; exact hPc, va_K.moved hW.alike hK, hDc.weaken (fun _ _ _ _ => trivial), NWs_warm hW X.2.1⟩⟩ rfl hn hls.1 hst (lv_room hW8) hdg hcs) hP hD hS hA hC hlen hw had kk
theorem astI {a t0 N : Nat} {cA : ClassId} {tys : List (ClassId × FieldType)} {f : Nat → Int32} {i x : Int32} (X : Cx p m meth c cc nL s args own ret2) (hK : va_K G vwCl tys s) (hP : va_P G vwCl ws H) (hD : va_D A ws) (hS : va_S A H0 H locs) (q0 t0 : Nat) (ha : ws[q0]? = some (a, .inl (cA, N, .inl f))) (ht : tys[t0]? = some (cA, .int)) (hin : vp_in i N) (hw : ws.set q0 (a, .inl (cA, N, .inl (upd f i.toNatClampNeg x))) = ws') (hdg : decode cc pc = .ok (.iastore, 1))
    (kk : ∀ (H1 : Heap) (locs1 : List Loc), va_P G vwCl ws' H1 → va_D A ws' → va_S A H0 H1 locs1 → W p l e R s m args below meth c H1 locs1 cells slots Q (F0 m (pc + 1) ls rest)) : W p l e R s m args below meth c H locs cells slots Q (F0 m pc ls (.int x :: .int i :: .ref a :: rest)) := by
  subst hw
  exact va_iast X.1.1 X.1.2.1 hK hP hD hS q0 t0 ha ht hin hdg kk
theorem astZ {a t0 N : Nat} {cA : ClassId} {tys : List (ClassId × FieldType)} {f : Nat → Int32} {i x : Int32} (X : Cx p m meth c cc nL s args own ret2) (hK : va_K G vwCl tys s) (hP : va_P G vwCl ws H) (hD : va_D A ws) (hS : va_S A H0 H locs) (q0 t0 : Nat) (ha : ws[q0]? = some (a, .inl (cA, N, .inl f))) (ht : tys[t0]? = some (cA, .boolean)) (hin : vp_in i N) (hw : ws.set q0 (a, .inl (cA, N, .inl (upd f i.toNatClampNeg (vp_nar .boolean x)))) = ws') (hdg : decode cc pc = .ok (.bastore, 1))
    (kk : ∀ (H1 : Heap) (locs1 : List Loc), va_P G vwCl ws' H1 → va_D A ws' → va_S A H0 H1 locs1 → W p l e R s m args below meth c H1 locs1 cells slots Q (F0 m (pc + 1) ls rest)) : W p l e R s m args below meth c H locs cells slots Q (F0 m pc ls (.int x :: .int i :: .ref a :: rest)) := by
  subst hw
  exact va_zast X.1.1 X.1.2.1 hK hP hD hS q0 t0 ha ht hin hdg kk
theorem mMax (X : Cx p m meth c cc nL s args own ret2) (hl : Cond.methodLink own idx Lib.Math.max.name ∈ TB) (hls : lv_has ls nL lv) (hfr : 1 ≤ R.frames) (hlo : (rest.map fun v => v.category).sum + 13 ≤ R.locals) (hcs : cells ≤ R.cells ∧ slots ≤ R.slots) {x y : Int32} (hdg : decode cc pc = .ok (.invokestatic idx, 3)) (kk : W p l e R s m args below meth c H locs cells slots Q (F0 m (pc + 3) ls (.int (mxI x y) :: rest))) : W p l e R s m args below meth c H locs cells slots Q (F0 m pc ls (.int y :: .int x :: rest)) := va_mmax X.1.1 X.1.2.1 (X.1.2.2.1.trans hls.1.symm) X.1.2.2.2.1 (X.1.2.2.2.2 _ hl) (X.1.2.2.2.2 _ tw321) (X.1.2.2.2.2 _ tw46) (X.1.2.2.2.2 _ tw322) hfr hlo hcs.1 hcs.2 hdg kk
theorem mMin (X : Cx p m meth c cc nL s args own ret2) (hl : Cond.methodLink own idx Lib.Math.min.name ∈ TB) (hls : lv_has ls nL lv) (hfr : 1 ≤ R.frames) (hlo : (rest.map fun v => v.category).sum + 13 ≤ R.locals) (hcs : cells ≤ R.cells ∧ slots ≤ R.slots) {x y : Int32} (hdg : decode cc pc = .ok (.invokestatic idx, 3)) (kk : W p l e R s m args below meth c H locs cells slots Q (F0 m (pc + 3) ls (.int (mnI x y) :: rest))) : W p l e R s m args below meth c H locs cells slots Q (F0 m pc ls (.int y :: .int x :: rest)) := va_mmin X.1.1 X.1.2.1 (X.1.2.2.1.trans hls.1.symm) X.1.2.2.2.1 (X.1.2.2.2.2 _ hl) (X.1.2.2.2.2 _ tw385) (X.1.2.2.2.2 _ tw46) (X.1.2.2.2.2 _ tw386) hfr hlo hcs.1 hcs.2 hdg kk
theorem mAbs (X : Cx p m meth c cc nL s args own ret2) (hl : Cond.methodLink own idx Lib.Math.abs.name ∈ TB) (hls : lv_has ls nL lv) (hfr : 1 ≤ R.frames) (hlo : (rest.map fun v => v.category).sum + 13 ≤ R.locals) (hcs : cells ≤ R.cells ∧ slots ≤ R.slots) {x : Int32} (hdg : decode cc pc = .ok (.invokestatic idx, 3)) (kk : W p l e R s m args below meth c H locs cells slots Q (F0 m (pc + 3) ls (.int (abI x) :: rest))) : W p l e R s m args below meth c H locs cells slots Q (F0 m pc ls (.int x :: rest)) := va_mabs X.1.1 X.1.2.1 (X.1.2.2.1.trans hls.1.symm) X.1.2.2.2.1 (X.1.2.2.2.2 _ hl) (X.1.2.2.2.2 _ tw318) (X.1.2.2.2.2 _ tw46) (X.1.2.2.2.2 _ tw319) hfr hlo hcs.1 hcs.2 hdg kk
theorem tbIn (X : Cx p m meth c cc nL s args own ret2) {dflt lo hi : Int} {offs : Array Int} {len : Nat} {x : Int32} {off k : Int} {tgt : Nat} (hdg : decode cc pc = .ok (.tableswitch dflt lo hi offs, len)) (hk : x = iI k) (hkk : (iI k).toInt = k) (h1 : ¬ k < lo) (h2 : ¬ hi < k) (ho : offs[(k - lo).toNat]? = some off) (ht : (pc : Int) + off = (tgt : Int)) (kk : W p l e R s m args below meth c H locs cells slots Q (F0 m tgt ls rest)) : W p l e R s m args below meth c H locs cells slots Q (F0 m pc ls (.int x :: rest)) := by
  have e : x.toInt = k := by rw [hk, hkk]
  exact lv_tableIn X.1.1 X.1.2.1 hdg (by rw [e]; exact h1) (by rw [e]; exact h2) (by rw [e]; exact ho) ht kk
end
section
variable {p : Program} {l : Launch} {e : Env} {R : Room} {s : State} {m : MethodId} {args : Array Value} {below : List Frame} {meth : Method} {c : Code} {H H0 : Heap} {locs : List Loc} {cells slots : Nat} {Q : State → Prop} {cc : ByteArray} {pc : Nat} {ls : Array Slot} {rest : List Value} {G : va_G} {A : Nat → Prop} {ws ws2 : va_W} {nL a : Nat} {cI cZ : ClassId} {fs : List Value} {ret : Option FieldType}
theorem gf4_9 (X : Cx p m meth c cc nL s args RX4 ret) (hK : va_K G vwCl (tyL cI cZ) s) (hP : va_P G vwCl ws H) (q0 : Nat) (he : ws[q0]? = some (a, .inr (4, fs))) {v : Value} (hv : fs[0]? = some v) (hdg : decode cc pc = .ok (.getfield 9, 3)) (kk : W p l e R s m args below meth c H locs cells slots Q (F0 m (pc + 3) ls (v :: rest))) : W p l e R s m args below meth c H locs cells slots Q (F0 m pc ls (.ref a :: rest)) := va_get (D := G) (ci := 4) (own := RX4) (C := RX4) (T := TX4) (N := 2) X.1.1 X.1.2.1 X.1.2.2.2.2 inX4 X.1.2.2.2.1 hK hP q0 he rfl 0 (by decide) (X.1.2.2.2.2 _ tw61) (fun _ h9 => h9) hv hdg kk
theorem gf4_15 (X : Cx p m meth c cc nL s args RX4 ret) (hK : va_K G vwCl (tyL cI cZ) s) (hP : va_P G vwCl ws H) (q0 : Nat) (he : ws[q0]? = some (a, .inr (4, fs))) {v : Value} (hv : fs[1]? = some v) (hdg : decode cc pc = .ok (.getfield 15, 3)) (kk : W p l e R s m args below meth c H locs cells slots Q (F0 m (pc + 3) ls (v :: rest))) : W p l e R s m args below meth c H locs cells slots Q (F0 m pc ls (.ref a :: rest)) := va_get (D := G) (ci := 4) (own := RX4) (C := RX4) (T := TX4) (N := 2) X.1.1 X.1.2.1 X.1.2.2.2.2 inX4 X.1.2.2.2.1 hK hP q0 he rfl 1 (by decide) (X.1.2.2.2.2 _ tw62) (fun _ h9 => h9) hv hdg kk
theorem pf4_15 (X : Cx p m meth c cc nL s args RX4 ret) (hK : va_K G vwCl (tyL cI cZ) s) (hP : va_P G vwCl ws H) (hD : va_D A ws) (hS : va_S A H0 H locs) (q0 : Nat) (he : ws[q0]? = some (a, .inr (4, fs))) {x : Int32} (hl : 1 < fs.length) (hw : ws.set q0 (a, .inr (4, fs.set 1 (.int x))) = ws2) (hdg : decode cc pc = .ok (.putfield 15, 3)) (kk : ∀ (H1 : Heap) (locs1 : List Loc), va_P G vwCl ws2 H1 → va_D A ws2 → va_S A H0 H1 locs1 → W p l e R s m args below meth c H1 locs1 cells slots Q (F0 m (pc + 3) ls rest)) : W p l e R s m args below meth c H locs cells slots Q (F0 m pc ls (.int x :: .ref a :: rest)) := by
  subst hw
  exact va_put (D := G) (ci := 4) (own := RX4) (C := RX4) (T := TX4) (N := 2) (ty := .int) X.1.1 X.1.2.1 X.1.2.2.2.2 inX4 tyX4 tyX4_ok nmX4 X.1.2.2.2.1 hK hP hD hS q0 he rfl 1 (by decide) (X.1.2.2.2.2 _ tw62) (fun _ h9 => h9) rfl (by decide +kernel) rfl rfl hl hdg kk
theorem gf1_9 (X : Cx p m meth c cc nL s args RX1 ret) (hK : va_K G vwCl (tyL cI cZ) s) (hP : va_P G vwCl ws H) (q0 : Nat) (he : ws[q0]? = some (a, .inr (1, fs))) {v : Value} (hv : fs[0]? = some v) (hdg : decode cc pc = .ok (.getfield 9, 3)) (kk : W p l e R s m args below meth c H locs cells slots Q (F0 m (pc + 3) ls (v :: rest))) : W p l e R s m args below meth c H locs cells slots Q (F0 m pc ls (.ref a :: rest)) := va_get (D := G) (ci := 1) (own := RX1) (C := RX1) (T := TX1) (N := 5) X.1.1 X.1.2.1 X.1.2.2.2.2 inX1 X.1.2.2.2.1 hK hP q0 he rfl 0 (by decide) (X.1.2.2.2.2 _ tw76) (fun _ h9 => h9) hv hdg kk
theorem gf1_15 (X : Cx p m meth c cc nL s args RX1 ret) (hK : va_K G vwCl (tyL cI cZ) s) (hP : va_P G vwCl ws H) (q0 : Nat) (he : ws[q0]? = some (a, .inr (1, fs))) {v : Value} (hv : fs[1]? = some v) (hdg : decode cc pc = .ok (.getfield 15, 3)) (kk : W p l e R s m args below meth c H locs cells slots Q (F0 m (pc + 3) ls (v :: rest))) : W p l e R s m args below meth c H locs cells slots Q (F0 m pc ls (.ref a :: rest)) := va_get (D := G) (ci := 1) (own := RX1) (C := RX1) (T := TX1) (N := 5) X.1.1 X.1.2.1 X.1.2.2.2.2 inX1 X.1.2.2.2.1 hK hP q0 he rfl 1 (by decide) (X.1.2.2.2.2 _ tw77) (fun _ h9 => h9) hv hdg kk
theorem gf1_18 (X : Cx p m meth c cc nL s args RX1 ret) (hK : va_K G vwCl (tyL cI cZ) s) (hP : va_P G vwCl ws H) (q0 : Nat) (he : ws[q0]? = some (a, .inr (1, fs))) {v : Value} (hv : fs[2]? = some v) (hdg : decode cc pc = .ok (.getfield 18, 3)) (kk : W p l e R s m args below meth c H locs cells slots Q (F0 m (pc + 3) ls (v :: rest))) : W p l e R s m args below meth c H locs cells slots Q (F0 m pc ls (.ref a :: rest)) := va_get (D := G) (ci := 1) (own := RX1) (C := RX1) (T := TX1) (N := 5) X.1.1 X.1.2.1 X.1.2.2.2.2 inX1 X.1.2.2.2.1 hK hP q0 he rfl 2 (by decide) (X.1.2.2.2.2 _ tw78) (fun _ h9 => h9) hv hdg kk
theorem gf1_21 (X : Cx p m meth c cc nL s args RX1 ret) (hK : va_K G vwCl (tyL cI cZ) s) (hP : va_P G vwCl ws H) (q0 : Nat) (he : ws[q0]? = some (a, .inr (1, fs))) {v : Value} (hv : fs[3]? = some v) (hdg : decode cc pc = .ok (.getfield 21, 3)) (kk : W p l e R s m args below meth c H locs cells slots Q (F0 m (pc + 3) ls (v :: rest))) : W p l e R s m args below meth c H locs cells slots Q (F0 m pc ls (.ref a :: rest)) := va_get (D := G) (ci := 1) (own := RX1) (C := RX1) (T := TX1) (N := 5) X.1.1 X.1.2.1 X.1.2.2.2.2 inX1 X.1.2.2.2.1 hK hP q0 he rfl 3 (by decide) (X.1.2.2.2.2 _ tw79) (fun _ h9 => h9) hv hdg kk
theorem pf1_21 (X : Cx p m meth c cc nL s args RX1 ret) (hK : va_K G vwCl (tyL cI cZ) s) (hP : va_P G vwCl ws H) (hD : va_D A ws) (hS : va_S A H0 H locs) (q0 : Nat) (he : ws[q0]? = some (a, .inr (1, fs))) {x : Int32} (hl : 3 < fs.length) (hw : ws.set q0 (a, .inr (1, fs.set 3 (.int x))) = ws2) (hdg : decode cc pc = .ok (.putfield 21, 3)) (kk : ∀ (H1 : Heap) (locs1 : List Loc), va_P G vwCl ws2 H1 → va_D A ws2 → va_S A H0 H1 locs1 → W p l e R s m args below meth c H1 locs1 cells slots Q (F0 m (pc + 3) ls rest)) : W p l e R s m args below meth c H locs cells slots Q (F0 m pc ls (.int x :: .ref a :: rest)) := by
  subst hw
  exact va_put (D := G) (ci := 1) (own := RX1) (C := RX1) (T := TX1) (N := 5) (ty := .int) X.1.1 X.1.2.1 X.1.2.2.2.2 inX1 tyX1 tyX1_ok nmX1 X.1.2.2.2.1 hK hP hD hS q0 he rfl 3 (by decide) (X.1.2.2.2.2 _ tw79) (fun _ h9 => h9) rfl (by decide +kernel) rfl rfl hl hdg kk
theorem gf1_25 (X : Cx p m meth c cc nL s args RX1 ret) (hK : va_K G vwCl (tyL cI cZ) s) (hP : va_P G vwCl ws H) (q0 : Nat) (he : ws[q0]? = some (a, .inr (1, fs))) {v : Value} (hv : fs[4]? = some v) (hdg : decode cc pc = .ok (.getfield 25, 3)) (kk : W p l e R s m args below meth c H locs cells slots Q (F0 m (pc + 3) ls (v :: rest))) : W p l e R s m args below meth c H locs cells slots Q (F0 m pc ls (.ref a :: rest)) := va_get (D := G) (ci := 1) (own := RX1) (C := RX1) (T := TX1) (N := 5) X.1.1 X.1.2.1 X.1.2.2.2.2 inX1 X.1.2.2.2.1 hK hP q0 he rfl 4 (by decide) (X.1.2.2.2.2 _ tw81) (fun _ h9 => h9) hv hdg kk
theorem pf1_25 (X : Cx p m meth c cc nL s args RX1 ret) (hK : va_K G vwCl (tyL cI cZ) s) (hP : va_P G vwCl ws H) (hD : va_D A ws) (hS : va_S A H0 H locs) (q0 : Nat) (he : ws[q0]? = some (a, .inr (1, fs))) {x : Int32} (hl : 4 < fs.length) (hw : ws.set q0 (a, .inr (1, fs.set 4 (.int x))) = ws2) (hdg : decode cc pc = .ok (.putfield 25, 3)) (kk : ∀ (H1 : Heap) (locs1 : List Loc), va_P G vwCl ws2 H1 → va_D A ws2 → va_S A H0 H1 locs1 → W p l e R s m args below meth c H1 locs1 cells slots Q (F0 m (pc + 3) ls rest)) : W p l e R s m args below meth c H locs cells slots Q (F0 m pc ls (.int x :: .ref a :: rest)) := by
  subst hw
  exact va_put (D := G) (ci := 1) (own := RX1) (C := RX1) (T := TX1) (N := 5) (ty := .int) X.1.1 X.1.2.1 X.1.2.2.2.2 inX1 tyX1 tyX1_ok nmX1 X.1.2.2.2.1 hK hP hD hS q0 he rfl 4 (by decide) (X.1.2.2.2.2 _ tw81) (fun _ h9 => h9) rfl (by decide +kernel) rfl rfl hl hdg kk
theorem gf0_9 (X : Cx p m meth c cc nL s args RX0 ret) (hK : va_K G vwCl (tyL cI cZ) s) (hP : va_P G vwCl ws H) (q0 : Nat) (he : ws[q0]? = some (a, .inr (0, fs))) {v : Value} (hv : fs[0]? = some v) (hdg : decode cc pc = .ok (.getfield 9, 3)) (kk : W p l e R s m args below meth c H locs cells slots Q (F0 m (pc + 3) ls (v :: rest))) : W p l e R s m args below meth c H locs cells slots Q (F0 m pc ls (.ref a :: rest)) := va_get (D := G) (ci := 0) (own := RX0) (C := RX0) (T := TX0) (N := 7) X.1.1 X.1.2.1 X.1.2.2.2.2 inX0 X.1.2.2.2.1 hK hP q0 he rfl 0 (by decide) (X.1.2.2.2.2 _ tw100) (fun _ h9 => h9) hv hdg kk
theorem gf0_19 (X : Cx p m meth c cc nL s args RX0 ret) (hK : va_K G vwCl (tyL cI cZ) s) (hP : va_P G vwCl ws H) (q0 : Nat) (he : ws[q0]? = some (a, .inr (0, fs))) {v : Value} (hv : fs[1]? = some v) (hdg : decode cc pc = .ok (.getfield 19, 3)) (kk : W p l e R s m args below meth c H locs cells slots Q (F0 m (pc + 3) ls (v :: rest))) : W p l e R s m args below meth c H locs cells slots Q (F0 m pc ls (.ref a :: rest)) := va_get (D := G) (ci := 0) (own := RX0) (C := RX0) (T := TX0) (N := 7) X.1.1 X.1.2.1 X.1.2.2.2.2 inX0 X.1.2.2.2.1 hK hP q0 he rfl 1 (by decide) (X.1.2.2.2.2 _ tw101) (fun _ h9 => h9) hv hdg kk
theorem pf0_19 (X : Cx p m meth c cc nL s args RX0 ret) (hK : va_K G vwCl (tyL cI cZ) s) (hP : va_P G vwCl ws H) (hD : va_D A ws) (hS : va_S A H0 H locs) (q0 : Nat) (he : ws[q0]? = some (a, .inr (0, fs))) {x : Int32} (hl : 1 < fs.length) (hw : ws.set q0 (a, .inr (0, fs.set 1 (.int x))) = ws2) (hdg : decode cc pc = .ok (.putfield 19, 3)) (kk : ∀ (H1 : Heap) (locs1 : List Loc), va_P G vwCl ws2 H1 → va_D A ws2 → va_S A H0 H1 locs1 → W p l e R s m args below meth c H1 locs1 cells slots Q (F0 m (pc + 3) ls rest)) : W p l e R s m args below meth c H locs cells slots Q (F0 m pc ls (.int x :: .ref a :: rest)) := by
  subst hw
  exact va_put (D := G) (ci := 0) (own := RX0) (C := RX0) (T := TX0) (N := 7) (ty := .int) X.1.1 X.1.2.1 X.1.2.2.2.2 inX0 tyX0 tyX0_ok nmX0 X.1.2.2.2.1 hK hP hD hS q0 he rfl 1 (by decide) (X.1.2.2.2.2 _ tw101) (fun _ h9 => h9) rfl (by decide +kernel) rfl rfl hl hdg kk
theorem gf0_22 (X : Cx p m meth c cc nL s args RX0 ret) (hK : va_K G vwCl (tyL cI cZ) s) (hP : va_P G vwCl ws H) (q0 : Nat) (he : ws[q0]? = some (a, .inr (0, fs))) {v : Value} (hv : fs[2]? = some v) (hdg : decode cc pc = .ok (.getfield 22, 3)) (kk : W p l e R s m args below meth c H locs cells slots Q (F0 m (pc + 3) ls (v :: rest))) : W p l e R s m args below meth c H locs cells slots Q (F0 m pc ls (.ref a :: rest)) := va_get (D := G) (ci := 0) (own := RX0) (C := RX0) (T := TX0) (N := 7) X.1.1 X.1.2.1 X.1.2.2.2.2 inX0 X.1.2.2.2.1 hK hP q0 he rfl 2 (by decide) (X.1.2.2.2.2 _ tw104) (fun _ h9 => h9) hv hdg kk
theorem pf0_22 (X : Cx p m meth c cc nL s args RX0 ret) (hK : va_K G vwCl (tyL cI cZ) s) (hP : va_P G vwCl ws H) (hD : va_D A ws) (hS : va_S A H0 H locs) (q0 : Nat) (he : ws[q0]? = some (a, .inr (0, fs))) {x : Int32} (hl : 2 < fs.length) (hw : ws.set q0 (a, .inr (0, fs.set 2 (.int x))) = ws2) (hdg : decode cc pc = .ok (.putfield 22, 3)) (kk : ∀ (H1 : Heap) (locs1 : List Loc), va_P G vwCl ws2 H1 → va_D A ws2 → va_S A H0 H1 locs1 → W p l e R s m args below meth c H1 locs1 cells slots Q (F0 m (pc + 3) ls rest)) : W p l e R s m args below meth c H locs cells slots Q (F0 m pc ls (.int x :: .ref a :: rest)) := by
  subst hw
  exact va_put (D := G) (ci := 0) (own := RX0) (C := RX0) (T := TX0) (N := 7) (ty := .int) X.1.1 X.1.2.1 X.1.2.2.2.2 inX0 tyX0 tyX0_ok nmX0 X.1.2.2.2.1 hK hP hD hS q0 he rfl 2 (by decide) (X.1.2.2.2.2 _ tw104) (fun _ h9 => h9) rfl (by decide +kernel) rfl rfl hl hdg kk
theorem gf0_15 (X : Cx p m meth c cc nL s args RX0 ret) (hK : va_K G vwCl (tyL cI cZ) s) (hP : va_P G vwCl ws H) (q0 : Nat) (he : ws[q0]? = some (a, .inr (0, fs))) {v : Value} (hv : fs[3]? = some v) (hdg : decode cc pc = .ok (.getfield 15, 3)) (kk : W p l e R s m args below meth c H locs cells slots Q (F0 m (pc + 3) ls (v :: rest))) : W p l e R s m args below meth c H locs cells slots Q (F0 m pc ls (.ref a :: rest)) := va_get (D := G) (ci := 0) (own := RX0) (C := RX0) (T := TX0) (N := 7) X.1.1 X.1.2.1 X.1.2.2.2.2 inX0 X.1.2.2.2.1 hK hP q0 he rfl 3 (by decide) (X.1.2.2.2.2 _ tw108) (fun _ h9 => h9) hv hdg kk
theorem pf0_15 (X : Cx p m meth c cc nL s args RX0 ret) (hK : va_K G vwCl (tyL cI cZ) s) (hP : va_P G vwCl ws H) (hD : va_D A ws) (hS : va_S A H0 H locs) (q0 : Nat) (he : ws[q0]? = some (a, .inr (0, fs))) {x : Int32} (hl : 3 < fs.length) (hw : ws.set q0 (a, .inr (0, fs.set 3 (.int x))) = ws2) (hdg : decode cc pc = .ok (.putfield 15, 3)) (kk : ∀ (H1 : Heap) (locs1 : List Loc), va_P G vwCl ws2 H1 → va_D A ws2 → va_S A H0 H1 locs1 → W p l e R s m args below meth c H1 locs1 cells slots Q (F0 m (pc + 3) ls rest)) : W p l e R s m args below meth c H locs cells slots Q (F0 m pc ls (.int x :: .ref a :: rest)) := by
  subst hw
  exact va_put (D := G) (ci := 0) (own := RX0) (C := RX0) (T := TX0) (N := 7) (ty := .int) X.1.1 X.1.2.1 X.1.2.2.2.2 inX0 tyX0 tyX0_ok nmX0 X.1.2.2.2.1 hK hP hD hS q0 he rfl 3 (by decide) (X.1.2.2.2.2 _ tw108) (fun _ h9 => h9) rfl (by decide +kernel) rfl rfl hl hdg kk
theorem gf0_25 (X : Cx p m meth c cc nL s args RX0 ret) (hK : va_K G vwCl (tyL cI cZ) s) (hP : va_P G vwCl ws H) (q0 : Nat) (he : ws[q0]? = some (a, .inr (0, fs))) {v : Value} (hv : fs[4]? = some v) (hdg : decode cc pc = .ok (.getfield 25, 3)) (kk : W p l e R s m args below meth c H locs cells slots Q (F0 m (pc + 3) ls (v :: rest))) : W p l e R s m args below meth c H locs cells slots Q (F0 m pc ls (.ref a :: rest)) := va_get (D := G) (ci := 0) (own := RX0) (C := RX0) (T := TX0) (N := 7) X.1.1 X.1.2.1 X.1.2.2.2.2 inX0 X.1.2.2.2.1 hK hP q0 he rfl 4 (by decide) (X.1.2.2.2.2 _ tw112) (fun _ h9 => h9) hv hdg kk
theorem pf0_25 (X : Cx p m meth c cc nL s args RX0 ret) (hK : va_K G vwCl (tyL cI cZ) s) (hP : va_P G vwCl ws H) (hD : va_D A ws) (hS : va_S A H0 H locs) (q0 : Nat) (he : ws[q0]? = some (a, .inr (0, fs))) {x : Int32} (hl : 4 < fs.length) (hw : ws.set q0 (a, .inr (0, fs.set 4 (.int x))) = ws2) (hdg : decode cc pc = .ok (.putfield 25, 3)) (kk : ∀ (H1 : Heap) (locs1 : List Loc), va_P G vwCl ws2 H1 → va_D A ws2 → va_S A H0 H1 locs1 → W p l e R s m args below meth c H1 locs1 cells slots Q (F0 m (pc + 3) ls rest)) : W p l e R s m args below meth c H locs cells slots Q (F0 m pc ls (.int x :: .ref a :: rest)) := by
  subst hw
  exact va_put (D := G) (ci := 0) (own := RX0) (C := RX0) (T := TX0) (N := 7) (ty := .int) X.1.1 X.1.2.1 X.1.2.2.2.2 inX0 tyX0 tyX0_ok nmX0 X.1.2.2.2.1 hK hP hD hS q0 he rfl 4 (by decide) (X.1.2.2.2.2 _ tw112) (fun _ h9 => h9) rfl (by decide +kernel) rfl rfl hl hdg kk
theorem gf0_28 (X : Cx p m meth c cc nL s args RX0 ret) (hK : va_K G vwCl (tyL cI cZ) s) (hP : va_P G vwCl ws H) (q0 : Nat) (he : ws[q0]? = some (a, .inr (0, fs))) {v : Value} (hv : fs[5]? = some v) (hdg : decode cc pc = .ok (.getfield 28, 3)) (kk : W p l e R s m args below meth c H locs cells slots Q (F0 m (pc + 3) ls (v :: rest))) : W p l e R s m args below meth c H locs cells slots Q (F0 m pc ls (.ref a :: rest)) := va_get (D := G) (ci := 0) (own := RX0) (C := RX0) (T := TX0) (N := 7) X.1.1 X.1.2.1 X.1.2.2.2.2 inX0 X.1.2.2.2.1 hK hP q0 he rfl 5 (by decide) (X.1.2.2.2.2 _ tw116) (fun _ h9 => h9) hv hdg kk
theorem pf0_28 (X : Cx p m meth c cc nL s args RX0 ret) (hK : va_K G vwCl (tyL cI cZ) s) (hP : va_P G vwCl ws H) (hD : va_D A ws) (hS : va_S A H0 H locs) (q0 : Nat) (he : ws[q0]? = some (a, .inr (0, fs))) {x : Int32} (hz : okB x = true) (hl : 5 < fs.length) (hw : ws.set q0 (a, .inr (0, fs.set 5 (.int x))) = ws2) (hdg : decode cc pc = .ok (.putfield 28, 3)) (kk : ∀ (H1 : Heap) (locs1 : List Loc), va_P G vwCl ws2 H1 → va_D A ws2 → va_S A H0 H1 locs1 → W p l e R s m args below meth c H1 locs1 cells slots Q (F0 m (pc + 3) ls rest)) : W p l e R s m args below meth c H locs cells slots Q (F0 m pc ls (.int x :: .ref a :: rest)) := by
  subst hw
  exact va_put (D := G) (ci := 0) (own := RX0) (C := RX0) (T := TX0) (N := 7) (ty := .boolean) X.1.1 X.1.2.1 X.1.2.2.2.2 inX0 tyX0 tyX0_ok nmX0 X.1.2.2.2.1 hK hP hD hS q0 he rfl 5 (by decide) (X.1.2.2.2.2 _ tw116) (fun _ h9 => h9) rfl (by decide +kernel) (okB_nar hz) (okB_fit hz) hl hdg kk
theorem gf0_32 (X : Cx p m meth c cc nL s args RX0 ret) (hK : va_K G vwCl (tyL cI cZ) s) (hP : va_P G vwCl ws H) (q0 : Nat) (he : ws[q0]? = some (a, .inr (0, fs))) {v : Value} (hv : fs[6]? = some v) (hdg : decode cc pc = .ok (.getfield 32, 3)) (kk : W p l e R s m args below meth c H locs cells slots Q (F0 m (pc + 3) ls (v :: rest))) : W p l e R s m args below meth c H locs cells slots Q (F0 m pc ls (.ref a :: rest)) := va_get (D := G) (ci := 0) (own := RX0) (C := RX0) (T := TX0) (N := 7) X.1.1 X.1.2.1 X.1.2.2.2.2 inX0 X.1.2.2.2.1 hK hP q0 he rfl 6 (by decide) (X.1.2.2.2.2 _ tw120) (fun _ h9 => h9) hv hdg kk
theorem pf0_32 (X : Cx p m meth c cc nL s args RX0 ret) (hK : va_K G vwCl (tyL cI cZ) s) (hP : va_P G vwCl ws H) (hD : va_D A ws) (hS : va_S A H0 H locs) (q0 : Nat) (he : ws[q0]? = some (a, .inr (0, fs))) {x : Int32} (hz : okB x = true) (hl : 6 < fs.length) (hw : ws.set q0 (a, .inr (0, fs.set 6 (.int x))) = ws2) (hdg : decode cc pc = .ok (.putfield 32, 3)) (kk : ∀ (H1 : Heap) (locs1 : List Loc), va_P G vwCl ws2 H1 → va_D A ws2 → va_S A H0 H1 locs1 → W p l e R s m args below meth c H1 locs1 cells slots Q (F0 m (pc + 3) ls rest)) : W p l e R s m args below meth c H locs cells slots Q (F0 m pc ls (.int x :: .ref a :: rest)) := by
  subst hw
  exact va_put (D := G) (ci := 0) (own := RX0) (C := RX0) (T := TX0) (N := 7) (ty := .boolean) X.1.1 X.1.2.1 X.1.2.2.2.2 inX0 tyX0 tyX0_ok nmX0 X.1.2.2.2.1 hK hP hD hS q0 he rfl 6 (by decide) (X.1.2.2.2.2 _ tw120) (fun _ h9 => h9) rfl (by decide +kernel) (okB_nar hz) (okB_fit hz) hl hdg kk
theorem gf2_11 (X : Cx p m meth c cc nL s args RX2 ret) (hK : va_K G vwCl (tyL cI cZ) s) (hP : va_P G vwCl ws H) (q0 : Nat) (he : ws[q0]? = some (a, .inr (2, fs))) {v : Value} (hv : fs[0]? = some v) (hdg : decode cc pc = .ok (.getfield 11, 3)) (kk : W p l e R s m args below meth c H locs cells slots Q (F0 m (pc + 3) ls (v :: rest))) : W p l e R s m args below meth c H locs cells slots Q (F0 m pc ls (.ref a :: rest)) := va_get (D := G) (ci := 2) (own := RX2) (C := RX2) (T := TX2) (N := 1) X.1.1 X.1.2.1 X.1.2.2.2.2 inX2 X.1.2.2.2.1 hK hP q0 he rfl 0 (by decide) (X.1.2.2.2.2 _ tw145) (fun _ h9 => h9) hv hdg kk
theorem gf3_9 (X : Cx p m meth c cc nL s args RX3 ret) (hK : va_K G vwCl (tyL cI cZ) s) (hP : va_P G vwCl ws H) (q0 : Nat) (he : ws[q0]? = some (a, .inr (3, fs))) {v : Value} (hv : fs[0]? = some v) (hdg : decode cc pc = .ok (.getfield 9, 3)) (kk : W p l e R s m args below meth c H locs cells slots Q (F0 m (pc + 3) ls (v :: rest))) : W p l e R s m args below meth c H locs cells slots Q (F0 m pc ls (.ref a :: rest)) := va_get (D := G) (ci := 3) (own := RX3) (C := RX3) (T := TX3) (N := 4) X.1.1 X.1.2.1 X.1.2.2.2.2 inX3 X.1.2.2.2.1 hK hP q0 he rfl 0 (by decide) (X.1.2.2.2.2 _ tw155) (fun _ h9 => h9) hv hdg kk
theorem gf3_15 (X : Cx p m meth c cc nL s args RX3 ret) (hK : va_K G vwCl (tyL cI cZ) s) (hP : va_P G vwCl ws H) (q0 : Nat) (he : ws[q0]? = some (a, .inr (3, fs))) {v : Value} (hv : fs[1]? = some v) (hdg : decode cc pc = .ok (.getfield 15, 3)) (kk : W p l e R s m args below meth c H locs cells slots Q (F0 m (pc + 3) ls (v :: rest))) : W p l e R s m args below meth c H locs cells slots Q (F0 m pc ls (.ref a :: rest)) := va_get (D := G) (ci := 3) (own := RX3) (C := RX3) (T := TX3) (N := 4) X.1.1 X.1.2.1 X.1.2.2.2.2 inX3 X.1.2.2.2.1 hK hP q0 he rfl 1 (by decide) (X.1.2.2.2.2 _ tw156) (fun _ h9 => h9) hv hdg kk
theorem gf3_18 (X : Cx p m meth c cc nL s args RX3 ret) (hK : va_K G vwCl (tyL cI cZ) s) (hP : va_P G vwCl ws H) (q0 : Nat) (he : ws[q0]? = some (a, .inr (3, fs))) {v : Value} (hv : fs[2]? = some v) (hdg : decode cc pc = .ok (.getfield 18, 3)) (kk : W p l e R s m args below meth c H locs cells slots Q (F0 m (pc + 3) ls (v :: rest))) : W p l e R s m args below meth c H locs cells slots Q (F0 m pc ls (.ref a :: rest)) := va_get (D := G) (ci := 3) (own := RX3) (C := RX3) (T := TX3) (N := 4) X.1.1 X.1.2.1 X.1.2.2.2.2 inX3 X.1.2.2.2.1 hK hP q0 he rfl 2 (by decide) (X.1.2.2.2.2 _ tw157) (fun _ h9 => h9) hv hdg kk
theorem gf3_22 (X : Cx p m meth c cc nL s args RX3 ret) (hK : va_K G vwCl (tyL cI cZ) s) (hP : va_P G vwCl ws H) (q0 : Nat) (he : ws[q0]? = some (a, .inr (3, fs))) {v : Value} (hv : fs[3]? = some v) (hdg : decode cc pc = .ok (.getfield 22, 3)) (kk : W p l e R s m args below meth c H locs cells slots Q (F0 m (pc + 3) ls (v :: rest))) : W p l e R s m args below meth c H locs cells slots Q (F0 m pc ls (.ref a :: rest)) := va_get (D := G) (ci := 3) (own := RX3) (C := RX3) (T := TX3) (N := 4) X.1.1 X.1.2.1 X.1.2.2.2.2 inX3 X.1.2.2.2.1 hK hP q0 he rfl 3 (by decide) (X.1.2.2.2.2 _ tw158) (fun _ h9 => h9) hv hdg kk
theorem pf3_22 (X : Cx p m meth c cc nL s args RX3 ret) (hK : va_K G vwCl (tyL cI cZ) s) (hP : va_P G vwCl ws H) (hD : va_D A ws) (hS : va_S A H0 H locs) (q0 : Nat) (he : ws[q0]? = some (a, .inr (3, fs))) {x : Int32} (hl : 3 < fs.length) (hw : ws.set q0 (a, .inr (3, fs.set 3 (.int x))) = ws2) (hdg : decode cc pc = .ok (.putfield 22, 3)) (kk : ∀ (H1 : Heap) (locs1 : List Loc), va_P G vwCl ws2 H1 → va_D A ws2 → va_S A H0 H1 locs1 → W p l e R s m args below meth c H1 locs1 cells slots Q (F0 m (pc + 3) ls rest)) : W p l e R s m args below meth c H locs cells slots Q (F0 m pc ls (.int x :: .ref a :: rest)) := by
  subst hw
  exact va_put (D := G) (ci := 3) (own := RX3) (C := RX3) (T := TX3) (N := 4) (ty := .int) X.1.1 X.1.2.1 X.1.2.2.2.2 inX3 tyX3 tyX3_ok nmX3 X.1.2.2.2.1 hK hP hD hS q0 he rfl 3 (by decide) (X.1.2.2.2.2 _ tw158) (fun _ h9 => h9) rfl (by decide +kernel) rfl rfl hl hdg kk
theorem gf5_12 (X : Cx p m meth c cc nL s args RX5 ret) (hK : va_K G vwCl (tyL cI cZ) s) (hP : va_P G vwCl ws H) (q0 : Nat) (he : ws[q0]? = some (a, .inr (5, fs))) {v : Value} (hv : fs[0]? = some v) (hdg : decode cc pc = .ok (.getfield 12, 3)) (kk : W p l e R s m args below meth c H locs cells slots Q (F0 m (pc + 3) ls (v :: rest))) : W p l e R s m args below meth c H locs cells slots Q (F0 m pc ls (.ref a :: rest)) := va_get (D := G) (ci := 5) (own := RX5) (C := RX5) (T := TX5) (N := 10) X.1.1 X.1.2.1 X.1.2.2.2.2 inX5 X.1.2.2.2.1 hK hP q0 he rfl 0 (by decide) (X.1.2.2.2.2 _ tw170) (fun _ h9 => h9) hv hdg kk
theorem gf5_19 (X : Cx p m meth c cc nL s args RX5 ret) (hK : va_K G vwCl (tyL cI cZ) s) (hP : va_P G vwCl ws H) (q0 : Nat) (he : ws[q0]? = some (a, .inr (5, fs))) {v : Value} (hv : fs[1]? = some v) (hdg : decode cc pc = .ok (.getfield 19, 3)) (kk : W p l e R s m args below meth c H locs cells slots Q (F0 m (pc + 3) ls (v :: rest))) : W p l e R s m args below meth c H locs cells slots Q (F0 m pc ls (.ref a :: rest)) := va_get (D := G) (ci := 5) (own := RX5) (C := RX5) (T := TX5) (N := 10) X.1.1 X.1.2.1 X.1.2.2.2.2 inX5 X.1.2.2.2.1 hK hP q0 he rfl 1 (by decide) (X.1.2.2.2.2 _ tw171) (fun _ h9 => h9) hv hdg kk
theorem gf5_26 (X : Cx p m meth c cc nL s args RX5 ret) (hK : va_K G vwCl (tyL cI cZ) s) (hP : va_P G vwCl ws H) (q0 : Nat) (he : ws[q0]? = some (a, .inr (5, fs))) {v : Value} (hv : fs[2]? = some v) (hdg : decode cc pc = .ok (.getfield 26, 3)) (kk : W p l e R s m args below meth c H locs cells slots Q (F0 m (pc + 3) ls (v :: rest))) : W p l e R s m args below meth c H locs cells slots Q (F0 m pc ls (.ref a :: rest)) := va_get (D := G) (ci := 5) (own := RX5) (C := RX5) (T := TX5) (N := 10) X.1.1 X.1.2.1 X.1.2.2.2.2 inX5 X.1.2.2.2.1 hK hP q0 he rfl 2 (by decide) (X.1.2.2.2.2 _ tw172) (fun _ h9 => h9) hv hdg kk
theorem gf5_30 (X : Cx p m meth c cc nL s args RX5 ret) (hK : va_K G vwCl (tyL cI cZ) s) (hP : va_P G vwCl ws H) (q0 : Nat) (he : ws[q0]? = some (a, .inr (5, fs))) {v : Value} (hv : fs[3]? = some v) (hdg : decode cc pc = .ok (.getfield 30, 3)) (kk : W p l e R s m args below meth c H locs cells slots Q (F0 m (pc + 3) ls (v :: rest))) : W p l e R s m args below meth c H locs cells slots Q (F0 m pc ls (.ref a :: rest)) := va_get (D := G) (ci := 5) (own := RX5) (C := RX5) (T := TX5) (N := 10) X.1.1 X.1.2.1 X.1.2.2.2.2 inX5 X.1.2.2.2.1 hK hP q0 he rfl 3 (by decide) (X.1.2.2.2.2 _ tw173) (fun _ h9 => h9) hv hdg kk
theorem gf5_38 (X : Cx p m meth c cc nL s args RX5 ret) (hK : va_K G vwCl (tyL cI cZ) s) (hP : va_P G vwCl ws H) (q0 : Nat) (he : ws[q0]? = some (a, .inr (5, fs))) {v : Value} (hv : fs[4]? = some v) (hdg : decode cc pc = .ok (.getfield 38, 3)) (kk : W p l e R s m args below meth c H locs cells slots Q (F0 m (pc + 3) ls (v :: rest))) : W p l e R s m args below meth c H locs cells slots Q (F0 m pc ls (.ref a :: rest)) := va_get (D := G) (ci := 5) (own := RX5) (C := RX5) (T := TX5) (N := 10) X.1.1 X.1.2.1 X.1.2.2.2.2 inX5 X.1.2.2.2.1 hK hP q0 he rfl 4 (by decide) (X.1.2.2.2.2 _ tw174) (fun _ h9 => h9) hv hdg kk
theorem gf5_89 (X : Cx p m meth c cc nL s args RX5 ret) (hK : va_K G vwCl (tyL cI cZ) s) (hP : va_P G vwCl ws H) (q0 : Nat) (he : ws[q0]? = some (a, .inr (5, fs))) {v : Value} (hv : fs[5]? = some v) (hdg : decode cc pc = .ok (.getfield 89, 3)) (kk : W p l e R s m args below meth c H locs cells slots Q (F0 m (pc + 3) ls (v :: rest))) : W p l e R s m args below meth c H locs cells slots Q (F0 m pc ls (.ref a :: rest)) := va_get (D := G) (ci := 5) (own := RX5) (C := RX5) (T := TX5) (N := 10) X.1.1 X.1.2.1 X.1.2.2.2.2 inX5 X.1.2.2.2.1 hK hP q0 he rfl 5 (by decide) (X.1.2.2.2.2 _ tw175) (fun _ h9 => h9) hv hdg kk
theorem pf5_89 (X : Cx p m meth c cc nL s args RX5 ret) (hK : va_K G vwCl (tyL cI cZ) s) (hP : va_P G vwCl ws H) (hD : va_D A ws) (hS : va_S A H0 H locs) (q0 : Nat) (he : ws[q0]? = some (a, .inr (5, fs))) {x : Int32} (hl : 5 < fs.length) (hw : ws.set q0 (a, .inr (5, fs.set 5 (.int x))) = ws2) (hdg : decode cc pc = .ok (.putfield 89, 3)) (kk : ∀ (H1 : Heap) (locs1 : List Loc), va_P G vwCl ws2 H1 → va_D A ws2 → va_S A H0 H1 locs1 → W p l e R s m args below meth c H1 locs1 cells slots Q (F0 m (pc + 3) ls rest)) : W p l e R s m args below meth c H locs cells slots Q (F0 m pc ls (.int x :: .ref a :: rest)) := by
  subst hw
  exact va_put (D := G) (ci := 5) (own := RX5) (C := RX5) (T := TX5) (N := 10) (ty := .int) X.1.1 X.1.2.1 X.1.2.2.2.2 inX5 tyX5 tyX5_ok nmX5 X.1.2.2.2.1 hK hP hD hS q0 he rfl 5 (by decide) (X.1.2.2.2.2 _ tw175) (fun _ h9 => h9) rfl (by decide +kernel) rfl rfl hl hdg kk
theorem gf5_42 (X : Cx p m meth c cc nL s args RX5 ret) (hK : va_K G vwCl (tyL cI cZ) s) (hP : va_P G vwCl ws H) (q0 : Nat) (he : ws[q0]? = some (a, .inr (5, fs))) {v : Value} (hv : fs[6]? = some v) (hdg : decode cc pc = .ok (.getfield 42, 3)) (kk : W p l e R s m args below meth c H locs cells slots Q (F0 m (pc + 3) ls (v :: rest))) : W p l e R s m args below meth c H locs cells slots Q (F0 m pc ls (.ref a :: rest)) := va_get (D := G) (ci := 5) (own := RX5) (C := RX5) (T := TX5) (N := 10) X.1.1 X.1.2.1 X.1.2.2.2.2 inX5 X.1.2.2.2.1 hK hP q0 he rfl 6 (by decide) (X.1.2.2.2.2 _ tw176) (fun _ h9 => h9) hv hdg kk
theorem gf5_45 (X : Cx p m meth c cc nL s args RX5 ret) (hK : va_K G vwCl (tyL cI cZ) s) (hP : va_P G vwCl ws H) (q0 : Nat) (he : ws[q0]? = some (a, .inr (5, fs))) {v : Value} (hv : fs[7]? = some v) (hdg : decode cc pc = .ok (.getfield 45, 3)) (kk : W p l e R s m args below meth c H locs cells slots Q (F0 m (pc + 3) ls (v :: rest))) : W p l e R s m args below meth c H locs cells slots Q (F0 m pc ls (.ref a :: rest)) := va_get (D := G) (ci := 5) (own := RX5) (C := RX5) (T := TX5) (N := 10) X.1.1 X.1.2.1 X.1.2.2.2.2 inX5 X.1.2.2.2.1 hK hP q0 he rfl 7 (by decide) (X.1.2.2.2.2 _ tw177) (fun _ h9 => h9) hv hdg kk
theorem gf5_52 (X : Cx p m meth c cc nL s args RX5 ret) (hK : va_K G vwCl (tyL cI cZ) s) (hP : va_P G vwCl ws H) (q0 : Nat) (he : ws[q0]? = some (a, .inr (5, fs))) {v : Value} (hv : fs[8]? = some v) (hdg : decode cc pc = .ok (.getfield 52, 3)) (kk : W p l e R s m args below meth c H locs cells slots Q (F0 m (pc + 3) ls (v :: rest))) : W p l e R s m args below meth c H locs cells slots Q (F0 m pc ls (.ref a :: rest)) := va_get (D := G) (ci := 5) (own := RX5) (C := RX5) (T := TX5) (N := 10) X.1.1 X.1.2.1 X.1.2.2.2.2 inX5 X.1.2.2.2.1 hK hP q0 he rfl 8 (by decide) (X.1.2.2.2.2 _ tw178) (fun _ h9 => h9) hv hdg kk
theorem gf5_251 (X : Cx p m meth c cc nL s args RX5 ret) (hK : va_K G vwCl (tyL cI cZ) s) (hP : va_P G vwCl ws H) (q0 : Nat) (he : ws[q0]? = some (a, .inr (5, fs))) {v : Value} (hv : fs[9]? = some v) (hdg : decode cc pc = .ok (.getfield 251, 3)) (kk : W p l e R s m args below meth c H locs cells slots Q (F0 m (pc + 3) ls (v :: rest))) : W p l e R s m args below meth c H locs cells slots Q (F0 m pc ls (.ref a :: rest)) := va_get (D := G) (ci := 5) (own := RX5) (C := RX5) (T := TX5) (N := 10) X.1.1 X.1.2.1 X.1.2.2.2.2 inX5 X.1.2.2.2.1 hK hP q0 he rfl 9 (by decide) (X.1.2.2.2.2 _ tw179) (fun _ h9 => h9) hv hdg kk
theorem pf5_251 (X : Cx p m meth c cc nL s args RX5 ret) (hK : va_K G vwCl (tyL cI cZ) s) (hP : va_P G vwCl ws H) (hD : va_D A ws) (hS : va_S A H0 H locs) (q0 : Nat) (he : ws[q0]? = some (a, .inr (5, fs))) {x : Int64} (hl : 9 < fs.length) (hw : ws.set q0 (a, .inr (5, fs.set 9 (.long x))) = ws2) (hdg : decode cc pc = .ok (.putfield 251, 3)) (kk : ∀ (H1 : Heap) (locs1 : List Loc), va_P G vwCl ws2 H1 → va_D A ws2 → va_S A H0 H1 locs1 → W p l e R s m args below meth c H1 locs1 cells slots Q (F0 m (pc + 3) ls rest)) : W p l e R s m args below meth c H locs cells slots Q (F0 m pc ls (.long x :: .ref a :: rest)) := by
  subst hw
  exact va_put (D := G) (ci := 5) (own := RX5) (C := RX5) (T := TX5) (N := 10) (ty := .long) X.1.1 X.1.2.1 X.1.2.2.2.2 inX5 tyX5 tyX5_ok nmX5 X.1.2.2.2.1 hK hP hD hS q0 he rfl 9 (by decide) (X.1.2.2.2.2 _ tw179) (fun _ h9 => h9) rfl (by decide +kernel) rfl rfl hl hdg kk
theorem gf6_80 (X : Cx p m meth c cc nL s args RX6 ret) (hK : va_K G vwCl (tyL cI cZ) s) (hP : va_P G vwCl ws H) (q0 : Nat) (he : ws[q0]? = some (a, .inr (6, fs))) {v : Value} (hv : fs[0]? = some v) (hdg : decode cc pc = .ok (.getfield 80, 3)) (kk : W p l e R s m args below meth c H locs cells slots Q (F0 m (pc + 3) ls (v :: rest))) : W p l e R s m args below meth c H locs cells slots Q (F0 m pc ls (.ref a :: rest)) := va_get (D := G) (ci := 6) (own := RX6) (C := RX6) (T := TX6) (N := 24) X.1.1 X.1.2.1 X.1.2.2.2.2 inX6 X.1.2.2.2.1 hK hP q0 he rfl 0 (by decide) (X.1.2.2.2.2 _ tw585) (fun _ h9 => h9) hv hdg kk
theorem pf6_80 (X : Cx p m meth c cc nL s args RX6 ret) (hK : va_K G vwCl (tyL cI cZ) s) (hP : va_P G vwCl ws H) (hD : va_D A ws) (hS : va_S A H0 H locs) (q0 : Nat) (he : ws[q0]? = some (a, .inr (6, fs))) {x : Int32} (hl : 0 < fs.length) (hw : ws.set q0 (a, .inr (6, fs.set 0 (.int x))) = ws2) (hdg : decode cc pc = .ok (.putfield 80, 3)) (kk : ∀ (H1 : Heap) (locs1 : List Loc), va_P G vwCl ws2 H1 → va_D A ws2 → va_S A H0 H1 locs1 → W p l e R s m args below meth c H1 locs1 cells slots Q (F0 m (pc + 3) ls rest)) : W p l e R s m args below meth c H locs cells slots Q (F0 m pc ls (.int x :: .ref a :: rest)) := by
  subst hw
  exact va_put (D := G) (ci := 6) (own := RX6) (C := RX6) (T := TX6) (N := 24) (ty := .int) X.1.1 X.1.2.1 X.1.2.2.2.2 inX6 tyX6 tyX6_ok nmX6 X.1.2.2.2.1 hK hP hD hS q0 he rfl 0 (by decide) (X.1.2.2.2.2 _ tw585) (fun _ h9 => h9) rfl (by decide +kernel) rfl rfl hl hdg kk
theorem gf6_83 (X : Cx p m meth c cc nL s args RX6 ret) (hK : va_K G vwCl (tyL cI cZ) s) (hP : va_P G vwCl ws H) (q0 : Nat) (he : ws[q0]? = some (a, .inr (6, fs))) {v : Value} (hv : fs[1]? = some v) (hdg : decode cc pc = .ok (.getfield 83, 3)) (kk : W p l e R s m args below meth c H locs cells slots Q (F0 m (pc + 3) ls (v :: rest))) : W p l e R s m args below meth c H locs cells slots Q (F0 m pc ls (.ref a :: rest)) := va_get (D := G) (ci := 6) (own := RX6) (C := RX6) (T := TX6) (N := 24) X.1.1 X.1.2.1 X.1.2.2.2.2 inX6 X.1.2.2.2.1 hK hP q0 he rfl 1 (by decide) (X.1.2.2.2.2 _ tw586) (fun _ h9 => h9) hv hdg kk
theorem pf6_83 (X : Cx p m meth c cc nL s args RX6 ret) (hK : va_K G vwCl (tyL cI cZ) s) (hP : va_P G vwCl ws H) (hD : va_D A ws) (hS : va_S A H0 H locs) (q0 : Nat) (he : ws[q0]? = some (a, .inr (6, fs))) {x : Int32} (hl : 1 < fs.length) (hw : ws.set q0 (a, .inr (6, fs.set 1 (.int x))) = ws2) (hdg : decode cc pc = .ok (.putfield 83, 3)) (kk : ∀ (H1 : Heap) (locs1 : List Loc), va_P G vwCl ws2 H1 → va_D A ws2 → va_S A H0 H1 locs1 → W p l e R s m args below meth c H1 locs1 cells slots Q (F0 m (pc + 3) ls rest)) : W p l e R s m args below meth c H locs cells slots Q (F0 m pc ls (.int x :: .ref a :: rest)) := by
  subst hw
  exact va_put (D := G) (ci := 6) (own := RX6) (C := RX6) (T := TX6) (N := 24) (ty := .int) X.1.1 X.1.2.1 X.1.2.2.2.2 inX6 tyX6 tyX6_ok nmX6 X.1.2.2.2.1 hK hP hD hS q0 he rfl 1 (by decide) (X.1.2.2.2.2 _ tw586) (fun _ h9 => h9) rfl (by decide +kernel) rfl rfl hl hdg kk
theorem gf6_7 (X : Cx p m meth c cc nL s args RX6 ret) (hK : va_K G vwCl (tyL cI cZ) s) (hP : va_P G vwCl ws H) (q0 : Nat) (he : ws[q0]? = some (a, .inr (6, fs))) {v : Value} (hv : fs[2]? = some v) (hdg : decode cc pc = .ok (.getfield 7, 3)) (kk : W p l e R s m args below meth c H locs cells slots Q (F0 m (pc + 3) ls (v :: rest))) : W p l e R s m args below meth c H locs cells slots Q (F0 m pc ls (.ref a :: rest)) := va_get (D := G) (ci := 6) (own := RX6) (C := RX6) (T := TX6) (N := 24) X.1.1 X.1.2.1 X.1.2.2.2.2 inX6 X.1.2.2.2.1 hK hP q0 he rfl 2 (by decide) (X.1.2.2.2.2 _ tw587) (fun _ h9 => h9) hv hdg kk
theorem gf6_13 (X : Cx p m meth c cc nL s args RX6 ret) (hK : va_K G vwCl (tyL cI cZ) s) (hP : va_P G vwCl ws H) (q0 : Nat) (he : ws[q0]? = some (a, .inr (6, fs))) {v : Value} (hv : fs[3]? = some v) (hdg : decode cc pc = .ok (.getfield 13, 3)) (kk : W p l e R s m args below meth c H locs cells slots Q (F0 m (pc + 3) ls (v :: rest))) : W p l e R s m args below meth c H locs cells slots Q (F0 m pc ls (.ref a :: rest)) := va_get (D := G) (ci := 6) (own := RX6) (C := RX6) (T := TX6) (N := 24) X.1.1 X.1.2.1 X.1.2.2.2.2 inX6 X.1.2.2.2.1 hK hP q0 he rfl 3 (by decide) (X.1.2.2.2.2 _ tw588) (fun _ h9 => h9) hv hdg kk
theorem gf6_16 (X : Cx p m meth c cc nL s args RX6 ret) (hK : va_K G vwCl (tyL cI cZ) s) (hP : va_P G vwCl ws H) (q0 : Nat) (he : ws[q0]? = some (a, .inr (6, fs))) {v : Value} (hv : fs[4]? = some v) (hdg : decode cc pc = .ok (.getfield 16, 3)) (kk : W p l e R s m args below meth c H locs cells slots Q (F0 m (pc + 3) ls (v :: rest))) : W p l e R s m args below meth c H locs cells slots Q (F0 m pc ls (.ref a :: rest)) := va_get (D := G) (ci := 6) (own := RX6) (C := RX6) (T := TX6) (N := 24) X.1.1 X.1.2.1 X.1.2.2.2.2 inX6 X.1.2.2.2.1 hK hP q0 he rfl 4 (by decide) (X.1.2.2.2.2 _ tw589) (fun _ h9 => h9) hv hdg kk
theorem gf6_19 (X : Cx p m meth c cc nL s args RX6 ret) (hK : va_K G vwCl (tyL cI cZ) s) (hP : va_P G vwCl ws H) (q0 : Nat) (he : ws[q0]? = some (a, .inr (6, fs))) {v : Value} (hv : fs[5]? = some v) (hdg : decode cc pc = .ok (.getfield 19, 3)) (kk : W p l e R s m args below meth c H locs cells slots Q (F0 m (pc + 3) ls (v :: rest))) : W p l e R s m args below meth c H locs cells slots Q (F0 m pc ls (.ref a :: rest)) := va_get (D := G) (ci := 6) (own := RX6) (C := RX6) (T := TX6) (N := 24) X.1.1 X.1.2.1 X.1.2.2.2.2 inX6 X.1.2.2.2.1 hK hP q0 he rfl 5 (by decide) (X.1.2.2.2.2 _ tw590) (fun _ h9 => h9) hv hdg kk
theorem gf6_22 (X : Cx p m meth c cc nL s args RX6 ret) (hK : va_K G vwCl (tyL cI cZ) s) (hP : va_P G vwCl ws H) (q0 : Nat) (he : ws[q0]? = some (a, .inr (6, fs))) {v : Value} (hv : fs[6]? = some v) (hdg : decode cc pc = .ok (.getfield 22, 3)) (kk : W p l e R s m args below meth c H locs cells slots Q (F0 m (pc + 3) ls (v :: rest))) : W p l e R s m args below meth c H locs cells slots Q (F0 m pc ls (.ref a :: rest)) := va_get (D := G) (ci := 6) (own := RX6) (C := RX6) (T := TX6) (N := 24) X.1.1 X.1.2.1 X.1.2.2.2.2 inX6 X.1.2.2.2.1 hK hP q0 he rfl 6 (by decide) (X.1.2.2.2.2 _ tw591) (fun _ h9 => h9) hv hdg kk
theorem gf6_25 (X : Cx p m meth c cc nL s args RX6 ret) (hK : va_K G vwCl (tyL cI cZ) s) (hP : va_P G vwCl ws H) (q0 : Nat) (he : ws[q0]? = some (a, .inr (6, fs))) {v : Value} (hv : fs[7]? = some v) (hdg : decode cc pc = .ok (.getfield 25, 3)) (kk : W p l e R s m args below meth c H locs cells slots Q (F0 m (pc + 3) ls (v :: rest))) : W p l e R s m args below meth c H locs cells slots Q (F0 m pc ls (.ref a :: rest)) := va_get (D := G) (ci := 6) (own := RX6) (C := RX6) (T := TX6) (N := 24) X.1.1 X.1.2.1 X.1.2.2.2.2 inX6 X.1.2.2.2.1 hK hP q0 he rfl 7 (by decide) (X.1.2.2.2.2 _ tw592) (fun _ h9 => h9) hv hdg kk
theorem gf6_66 (X : Cx p m meth c cc nL s args RX6 ret) (hK : va_K G vwCl (tyL cI cZ) s) (hP : va_P G vwCl ws H) (q0 : Nat) (he : ws[q0]? = some (a, .inr (6, fs))) {v : Value} (hv : fs[8]? = some v) (hdg : decode cc pc = .ok (.getfield 66, 3)) (kk : W p l e R s m args below meth c H locs cells slots Q (F0 m (pc + 3) ls (v :: rest))) : W p l e R s m args below meth c H locs cells slots Q (F0 m pc ls (.ref a :: rest)) := va_get (D := G) (ci := 6) (own := RX6) (C := RX6) (T := TX6) (N := 24) X.1.1 X.1.2.1 X.1.2.2.2.2 inX6 X.1.2.2.2.1 hK hP q0 he rfl 8 (by decide) (X.1.2.2.2.2 _ tw593) (fun _ h9 => h9) hv hdg kk
theorem pf6_66 (X : Cx p m meth c cc nL s args RX6 ret) (hK : va_K G vwCl (tyL cI cZ) s) (hP : va_P G vwCl ws H) (hD : va_D A ws) (hS : va_S A H0 H locs) (q0 : Nat) (he : ws[q0]? = some (a, .inr (6, fs))) {x : Int32} (hl : 8 < fs.length) (hw : ws.set q0 (a, .inr (6, fs.set 8 (.int x))) = ws2) (hdg : decode cc pc = .ok (.putfield 66, 3)) (kk : ∀ (H1 : Heap) (locs1 : List Loc), va_P G vwCl ws2 H1 → va_D A ws2 → va_S A H0 H1 locs1 → W p l e R s m args below meth c H1 locs1 cells slots Q (F0 m (pc + 3) ls rest)) : W p l e R s m args below meth c H locs cells slots Q (F0 m pc ls (.int x :: .ref a :: rest)) := by
  subst hw
  exact va_put (D := G) (ci := 6) (own := RX6) (C := RX6) (T := TX6) (N := 24) (ty := .int) X.1.1 X.1.2.1 X.1.2.2.2.2 inX6 tyX6 tyX6_ok nmX6 X.1.2.2.2.1 hK hP hD hS q0 he rfl 8 (by decide) (X.1.2.2.2.2 _ tw593) (fun _ h9 => h9) rfl (by decide +kernel) rfl rfl hl hdg kk
theorem gf6_69 (X : Cx p m meth c cc nL s args RX6 ret) (hK : va_K G vwCl (tyL cI cZ) s) (hP : va_P G vwCl ws H) (q0 : Nat) (he : ws[q0]? = some (a, .inr (6, fs))) {v : Value} (hv : fs[9]? = some v) (hdg : decode cc pc = .ok (.getfield 69, 3)) (kk : W p l e R s m args below meth c H locs cells slots Q (F0 m (pc + 3) ls (v :: rest))) : W p l e R s m args below meth c H locs cells slots Q (F0 m pc ls (.ref a :: rest)) := va_get (D := G) (ci := 6) (own := RX6) (C := RX6) (T := TX6) (N := 24) X.1.1 X.1.2.1 X.1.2.2.2.2 inX6 X.1.2.2.2.1 hK hP q0 he rfl 9 (by decide) (X.1.2.2.2.2 _ tw594) (fun _ h9 => h9) hv hdg kk
theorem pf6_69 (X : Cx p m meth c cc nL s args RX6 ret) (hK : va_K G vwCl (tyL cI cZ) s) (hP : va_P G vwCl ws H) (hD : va_D A ws) (hS : va_S A H0 H locs) (q0 : Nat) (he : ws[q0]? = some (a, .inr (6, fs))) {x : Int32} (hl : 9 < fs.length) (hw : ws.set q0 (a, .inr (6, fs.set 9 (.int x))) = ws2) (hdg : decode cc pc = .ok (.putfield 69, 3)) (kk : ∀ (H1 : Heap) (locs1 : List Loc), va_P G vwCl ws2 H1 → va_D A ws2 → va_S A H0 H1 locs1 → W p l e R s m args below meth c H1 locs1 cells slots Q (F0 m (pc + 3) ls rest)) : W p l e R s m args below meth c H locs cells slots Q (F0 m pc ls (.int x :: .ref a :: rest)) := by
  subst hw
  exact va_put (D := G) (ci := 6) (own := RX6) (C := RX6) (T := TX6) (N := 24) (ty := .int) X.1.1 X.1.2.1 X.1.2.2.2.2 inX6 tyX6 tyX6_ok nmX6 X.1.2.2.2.1 hK hP hD hS q0 he rfl 9 (by decide) (X.1.2.2.2.2 _ tw594) (fun _ h9 => h9) rfl (by decide +kernel) rfl rfl hl hdg kk
theorem gf6_28 (X : Cx p m meth c cc nL s args RX6 ret) (hK : va_K G vwCl (tyL cI cZ) s) (hP : va_P G vwCl ws H) (q0 : Nat) (he : ws[q0]? = some (a, .inr (6, fs))) {v : Value} (hv : fs[10]? = some v) (hdg : decode cc pc = .ok (.getfield 28, 3)) (kk : W p l e R s m args below meth c H locs cells slots Q (F0 m (pc + 3) ls (v :: rest))) : W p l e R s m args below meth c H locs cells slots Q (F0 m pc ls (.ref a :: rest)) := va_get (D := G) (ci := 6) (own := RX6) (C := RX6) (T := TX6) (N := 24) X.1.1 X.1.2.1 X.1.2.2.2.2 inX6 X.1.2.2.2.1 hK hP q0 he rfl 10 (by decide) (X.1.2.2.2.2 _ tw595) (fun _ h9 => h9) hv hdg kk
theorem gf6_56 (X : Cx p m meth c cc nL s args RX6 ret) (hK : va_K G vwCl (tyL cI cZ) s) (hP : va_P G vwCl ws H) (q0 : Nat) (he : ws[q0]? = some (a, .inr (6, fs))) {v : Value} (hv : fs[11]? = some v) (hdg : decode cc pc = .ok (.getfield 56, 3)) (kk : W p l e R s m args below meth c H locs cells slots Q (F0 m (pc + 3) ls (v :: rest))) : W p l e R s m args below meth c H locs cells slots Q (F0 m pc ls (.ref a :: rest)) := va_get (D := G) (ci := 6) (own := RX6) (C := RX6) (T := TX6) (N := 24) X.1.1 X.1.2.1 X.1.2.2.2.2 inX6 X.1.2.2.2.1 hK hP q0 he rfl 11 (by decide) (X.1.2.2.2.2 _ tw596) (fun _ h9 => h9) hv hdg kk
theorem pf6_56 (X : Cx p m meth c cc nL s args RX6 ret) (hK : va_K G vwCl (tyL cI cZ) s) (hP : va_P G vwCl ws H) (hD : va_D A ws) (hS : va_S A H0 H locs) (q0 : Nat) (he : ws[q0]? = some (a, .inr (6, fs))) {x : Int32} (hl : 11 < fs.length) (hw : ws.set q0 (a, .inr (6, fs.set 11 (.int x))) = ws2) (hdg : decode cc pc = .ok (.putfield 56, 3)) (kk : ∀ (H1 : Heap) (locs1 : List Loc), va_P G vwCl ws2 H1 → va_D A ws2 → va_S A H0 H1 locs1 → W p l e R s m args below meth c H1 locs1 cells slots Q (F0 m (pc + 3) ls rest)) : W p l e R s m args below meth c H locs cells slots Q (F0 m pc ls (.int x :: .ref a :: rest)) := by
  subst hw
  exact va_put (D := G) (ci := 6) (own := RX6) (C := RX6) (T := TX6) (N := 24) (ty := .int) X.1.1 X.1.2.1 X.1.2.2.2.2 inX6 tyX6 tyX6_ok nmX6 X.1.2.2.2.1 hK hP hD hS q0 he rfl 11 (by decide) (X.1.2.2.2.2 _ tw596) (fun _ h9 => h9) rfl (by decide +kernel) rfl rfl hl hdg kk
theorem gf6_63 (X : Cx p m meth c cc nL s args RX6 ret) (hK : va_K G vwCl (tyL cI cZ) s) (hP : va_P G vwCl ws H) (q0 : Nat) (he : ws[q0]? = some (a, .inr (6, fs))) {v : Value} (hv : fs[12]? = some v) (hdg : decode cc pc = .ok (.getfield 63, 3)) (kk : W p l e R s m args below meth c H locs cells slots Q (F0 m (pc + 3) ls (v :: rest))) : W p l e R s m args below meth c H locs cells slots Q (F0 m pc ls (.ref a :: rest)) := va_get (D := G) (ci := 6) (own := RX6) (C := RX6) (T := TX6) (N := 24) X.1.1 X.1.2.1 X.1.2.2.2.2 inX6 X.1.2.2.2.1 hK hP q0 he rfl 12 (by decide) (X.1.2.2.2.2 _ tw597) (fun _ h9 => h9) hv hdg kk
theorem pf6_63 (X : Cx p m meth c cc nL s args RX6 ret) (hK : va_K G vwCl (tyL cI cZ) s) (hP : va_P G vwCl ws H) (hD : va_D A ws) (hS : va_S A H0 H locs) (q0 : Nat) (he : ws[q0]? = some (a, .inr (6, fs))) {x : Int32} (hl : 12 < fs.length) (hw : ws.set q0 (a, .inr (6, fs.set 12 (.int x))) = ws2) (hdg : decode cc pc = .ok (.putfield 63, 3)) (kk : ∀ (H1 : Heap) (locs1 : List Loc), va_P G vwCl ws2 H1 → va_D A ws2 → va_S A H0 H1 locs1 → W p l e R s m args below meth c H1 locs1 cells slots Q (F0 m (pc + 3) ls rest)) : W p l e R s m args below meth c H locs cells slots Q (F0 m pc ls (.int x :: .ref a :: rest)) := by
  subst hw
  exact va_put (D := G) (ci := 6) (own := RX6) (C := RX6) (T := TX6) (N := 24) (ty := .int) X.1.1 X.1.2.1 X.1.2.2.2.2 inX6 tyX6 tyX6_ok nmX6 X.1.2.2.2.1 hK hP hD hS q0 he rfl 12 (by decide) (X.1.2.2.2.2 _ tw597) (fun _ h9 => h9) rfl (by decide +kernel) rfl rfl hl hdg kk
theorem gf6_60 (X : Cx p m meth c cc nL s args RX6 ret) (hK : va_K G vwCl (tyL cI cZ) s) (hP : va_P G vwCl ws H) (q0 : Nat) (he : ws[q0]? = some (a, .inr (6, fs))) {v : Value} (hv : fs[13]? = some v) (hdg : decode cc pc = .ok (.getfield 60, 3)) (kk : W p l e R s m args below meth c H locs cells slots Q (F0 m (pc + 3) ls (v :: rest))) : W p l e R s m args below meth c H locs cells slots Q (F0 m pc ls (.ref a :: rest)) := va_get (D := G) (ci := 6) (own := RX6) (C := RX6) (T := TX6) (N := 24) X.1.1 X.1.2.1 X.1.2.2.2.2 inX6 X.1.2.2.2.1 hK hP q0 he rfl 13 (by decide) (X.1.2.2.2.2 _ tw598) (fun _ h9 => h9) hv hdg kk
theorem pf6_60 (X : Cx p m meth c cc nL s args RX6 ret) (hK : va_K G vwCl (tyL cI cZ) s) (hP : va_P G vwCl ws H) (hD : va_D A ws) (hS : va_S A H0 H locs) (q0 : Nat) (he : ws[q0]? = some (a, .inr (6, fs))) {x : Int32} (hl : 13 < fs.length) (hw : ws.set q0 (a, .inr (6, fs.set 13 (.int x))) = ws2) (hdg : decode cc pc = .ok (.putfield 60, 3)) (kk : ∀ (H1 : Heap) (locs1 : List Loc), va_P G vwCl ws2 H1 → va_D A ws2 → va_S A H0 H1 locs1 → W p l e R s m args below meth c H1 locs1 cells slots Q (F0 m (pc + 3) ls rest)) : W p l e R s m args below meth c H locs cells slots Q (F0 m pc ls (.int x :: .ref a :: rest)) := by
  subst hw
  exact va_put (D := G) (ci := 6) (own := RX6) (C := RX6) (T := TX6) (N := 24) (ty := .int) X.1.1 X.1.2.1 X.1.2.2.2.2 inX6 tyX6 tyX6_ok nmX6 X.1.2.2.2.1 hK hP hD hS q0 he rfl 13 (by decide) (X.1.2.2.2.2 _ tw598) (fun _ h9 => h9) rfl (by decide +kernel) rfl rfl hl hdg kk
theorem gf6_86 (X : Cx p m meth c cc nL s args RX6 ret) (hK : va_K G vwCl (tyL cI cZ) s) (hP : va_P G vwCl ws H) (q0 : Nat) (he : ws[q0]? = some (a, .inr (6, fs))) {v : Value} (hv : fs[14]? = some v) (hdg : decode cc pc = .ok (.getfield 86, 3)) (kk : W p l e R s m args below meth c H locs cells slots Q (F0 m (pc + 3) ls (v :: rest))) : W p l e R s m args below meth c H locs cells slots Q (F0 m pc ls (.ref a :: rest)) := va_get (D := G) (ci := 6) (own := RX6) (C := RX6) (T := TX6) (N := 24) X.1.1 X.1.2.1 X.1.2.2.2.2 inX6 X.1.2.2.2.1 hK hP q0 he rfl 14 (by decide) (X.1.2.2.2.2 _ tw599) (fun _ h9 => h9) hv hdg kk
theorem pf6_86 (X : Cx p m meth c cc nL s args RX6 ret) (hK : va_K G vwCl (tyL cI cZ) s) (hP : va_P G vwCl ws H) (hD : va_D A ws) (hS : va_S A H0 H locs) (q0 : Nat) (he : ws[q0]? = some (a, .inr (6, fs))) {x : Int32} (hl : 14 < fs.length) (hw : ws.set q0 (a, .inr (6, fs.set 14 (.int x))) = ws2) (hdg : decode cc pc = .ok (.putfield 86, 3)) (kk : ∀ (H1 : Heap) (locs1 : List Loc), va_P G vwCl ws2 H1 → va_D A ws2 → va_S A H0 H1 locs1 → W p l e R s m args below meth c H1 locs1 cells slots Q (F0 m (pc + 3) ls rest)) : W p l e R s m args below meth c H locs cells slots Q (F0 m pc ls (.int x :: .ref a :: rest)) := by
  subst hw
  exact va_put (D := G) (ci := 6) (own := RX6) (C := RX6) (T := TX6) (N := 24) (ty := .int) X.1.1 X.1.2.1 X.1.2.2.2.2 inX6 tyX6 tyX6_ok nmX6 X.1.2.2.2.1 hK hP hD hS q0 he rfl 14 (by decide) (X.1.2.2.2.2 _ tw599) (fun _ h9 => h9) rfl (by decide +kernel) rfl rfl hl hdg kk
theorem gf6_120 (X : Cx p m meth c cc nL s args RX6 ret) (hK : va_K G vwCl (tyL cI cZ) s) (hP : va_P G vwCl ws H) (q0 : Nat) (he : ws[q0]? = some (a, .inr (6, fs))) {v : Value} (hv : fs[15]? = some v) (hdg : decode cc pc = .ok (.getfield 120, 3)) (kk : W p l e R s m args below meth c H locs cells slots Q (F0 m (pc + 3) ls (v :: rest))) : W p l e R s m args below meth c H locs cells slots Q (F0 m pc ls (.ref a :: rest)) := va_get (D := G) (ci := 6) (own := RX6) (C := RX6) (T := TX6) (N := 24) X.1.1 X.1.2.1 X.1.2.2.2.2 inX6 X.1.2.2.2.1 hK hP q0 he rfl 15 (by decide) (X.1.2.2.2.2 _ tw600) (fun _ h9 => h9) hv hdg kk
theorem pf6_120 (X : Cx p m meth c cc nL s args RX6 ret) (hK : va_K G vwCl (tyL cI cZ) s) (hP : va_P G vwCl ws H) (hD : va_D A ws) (hS : va_S A H0 H locs) (q0 : Nat) (he : ws[q0]? = some (a, .inr (6, fs))) {x : Int32} (hl : 15 < fs.length) (hw : ws.set q0 (a, .inr (6, fs.set 15 (.int x))) = ws2) (hdg : decode cc pc = .ok (.putfield 120, 3)) (kk : ∀ (H1 : Heap) (locs1 : List Loc), va_P G vwCl ws2 H1 → va_D A ws2 → va_S A H0 H1 locs1 → W p l e R s m args below meth c H1 locs1 cells slots Q (F0 m (pc + 3) ls rest)) : W p l e R s m args below meth c H locs cells slots Q (F0 m pc ls (.int x :: .ref a :: rest)) := by
  subst hw
  exact va_put (D := G) (ci := 6) (own := RX6) (C := RX6) (T := TX6) (N := 24) (ty := .int) X.1.1 X.1.2.1 X.1.2.2.2.2 inX6 tyX6 tyX6_ok nmX6 X.1.2.2.2.1 hK hP hD hS q0 he rfl 15 (by decide) (X.1.2.2.2.2 _ tw600) (fun _ h9 => h9) rfl (by decide +kernel) rfl rfl hl hdg kk
theorem gf6_31 (X : Cx p m meth c cc nL s args RX6 ret) (hK : va_K G vwCl (tyL cI cZ) s) (hP : va_P G vwCl ws H) (q0 : Nat) (he : ws[q0]? = some (a, .inr (6, fs))) {v : Value} (hv : fs[16]? = some v) (hdg : decode cc pc = .ok (.getfield 31, 3)) (kk : W p l e R s m args below meth c H locs cells slots Q (F0 m (pc + 3) ls (v :: rest))) : W p l e R s m args below meth c H locs cells slots Q (F0 m pc ls (.ref a :: rest)) := va_get (D := G) (ci := 6) (own := RX6) (C := RX6) (T := TX6) (N := 24) X.1.1 X.1.2.1 X.1.2.2.2.2 inX6 X.1.2.2.2.1 hK hP q0 he rfl 16 (by decide) (X.1.2.2.2.2 _ tw601) (fun _ h9 => h9) hv hdg kk
theorem gf6_160 (X : Cx p m meth c cc nL s args RX6 ret) (hK : va_K G vwCl (tyL cI cZ) s) (hP : va_P G vwCl ws H) (q0 : Nat) (he : ws[q0]? = some (a, .inr (6, fs))) {v : Value} (hv : fs[17]? = some v) (hdg : decode cc pc = .ok (.getfield 160, 3)) (kk : W p l e R s m args below meth c H locs cells slots Q (F0 m (pc + 3) ls (v :: rest))) : W p l e R s m args below meth c H locs cells slots Q (F0 m pc ls (.ref a :: rest)) := va_get (D := G) (ci := 6) (own := RX6) (C := RX6) (T := TX6) (N := 24) X.1.1 X.1.2.1 X.1.2.2.2.2 inX6 X.1.2.2.2.1 hK hP q0 he rfl 17 (by decide) (X.1.2.2.2.2 _ tw602) (fun _ h9 => h9) hv hdg kk
theorem pf6_160 (X : Cx p m meth c cc nL s args RX6 ret) (hK : va_K G vwCl (tyL cI cZ) s) (hP : va_P G vwCl ws H) (hD : va_D A ws) (hS : va_S A H0 H locs) (q0 : Nat) (he : ws[q0]? = some (a, .inr (6, fs))) {x : Int32} (hl : 17 < fs.length) (hw : ws.set q0 (a, .inr (6, fs.set 17 (.int x))) = ws2) (hdg : decode cc pc = .ok (.putfield 160, 3)) (kk : ∀ (H1 : Heap) (locs1 : List Loc), va_P G vwCl ws2 H1 → va_D A ws2 → va_S A H0 H1 locs1 → W p l e R s m args below meth c H1 locs1 cells slots Q (F0 m (pc + 3) ls rest)) : W p l e R s m args below meth c H locs cells slots Q (F0 m pc ls (.int x :: .ref a :: rest)) := by
  subst hw
  exact va_put (D := G) (ci := 6) (own := RX6) (C := RX6) (T := TX6) (N := 24) (ty := .int) X.1.1 X.1.2.1 X.1.2.2.2.2 inX6 tyX6 tyX6_ok nmX6 X.1.2.2.2.1 hK hP hD hS q0 he rfl 17 (by decide) (X.1.2.2.2.2 _ tw602) (fun _ h9 => h9) rfl (by decide +kernel) rfl rfl hl hdg kk
theorem gf6_34 (X : Cx p m meth c cc nL s args RX6 ret) (hK : va_K G vwCl (tyL cI cZ) s) (hP : va_P G vwCl ws H) (q0 : Nat) (he : ws[q0]? = some (a, .inr (6, fs))) {v : Value} (hv : fs[18]? = some v) (hdg : decode cc pc = .ok (.getfield 34, 3)) (kk : W p l e R s m args below meth c H locs cells slots Q (F0 m (pc + 3) ls (v :: rest))) : W p l e R s m args below meth c H locs cells slots Q (F0 m pc ls (.ref a :: rest)) := va_get (D := G) (ci := 6) (own := RX6) (C := RX6) (T := TX6) (N := 24) X.1.1 X.1.2.1 X.1.2.2.2.2 inX6 X.1.2.2.2.1 hK hP q0 he rfl 18 (by decide) (X.1.2.2.2.2 _ tw603) (fun _ h9 => h9) hv hdg kk
theorem gf6_37 (X : Cx p m meth c cc nL s args RX6 ret) (hK : va_K G vwCl (tyL cI cZ) s) (hP : va_P G vwCl ws H) (q0 : Nat) (he : ws[q0]? = some (a, .inr (6, fs))) {v : Value} (hv : fs[19]? = some v) (hdg : decode cc pc = .ok (.getfield 37, 3)) (kk : W p l e R s m args below meth c H locs cells slots Q (F0 m (pc + 3) ls (v :: rest))) : W p l e R s m args below meth c H locs cells slots Q (F0 m pc ls (.ref a :: rest)) := va_get (D := G) (ci := 6) (own := RX6) (C := RX6) (T := TX6) (N := 24) X.1.1 X.1.2.1 X.1.2.2.2.2 inX6 X.1.2.2.2.1 hK hP q0 he rfl 19 (by decide) (X.1.2.2.2.2 _ tw604) (fun _ h9 => h9) hv hdg kk
theorem gf6_40 (X : Cx p m meth c cc nL s args RX6 ret) (hK : va_K G vwCl (tyL cI cZ) s) (hP : va_P G vwCl ws H) (q0 : Nat) (he : ws[q0]? = some (a, .inr (6, fs))) {v : Value} (hv : fs[20]? = some v) (hdg : decode cc pc = .ok (.getfield 40, 3)) (kk : W p l e R s m args below meth c H locs cells slots Q (F0 m (pc + 3) ls (v :: rest))) : W p l e R s m args below meth c H locs cells slots Q (F0 m pc ls (.ref a :: rest)) := va_get (D := G) (ci := 6) (own := RX6) (C := RX6) (T := TX6) (N := 24) X.1.1 X.1.2.1 X.1.2.2.2.2 inX6 X.1.2.2.2.1 hK hP q0 he rfl 20 (by decide) (X.1.2.2.2.2 _ tw605) (fun _ h9 => h9) hv hdg kk
theorem gf6_183 (X : Cx p m meth c cc nL s args RX6 ret) (hK : va_K G vwCl (tyL cI cZ) s) (hP : va_P G vwCl ws H) (q0 : Nat) (he : ws[q0]? = some (a, .inr (6, fs))) {v : Value} (hv : fs[21]? = some v) (hdg : decode cc pc = .ok (.getfield 183, 3)) (kk : W p l e R s m args below meth c H locs cells slots Q (F0 m (pc + 3) ls (v :: rest))) : W p l e R s m args below meth c H locs cells slots Q (F0 m pc ls (.ref a :: rest)) := va_get (D := G) (ci := 6) (own := RX6) (C := RX6) (T := TX6) (N := 24) X.1.1 X.1.2.1 X.1.2.2.2.2 inX6 X.1.2.2.2.1 hK hP q0 he rfl 21 (by decide) (X.1.2.2.2.2 _ tw606) (fun _ h9 => h9) hv hdg kk
theorem pf6_183 (X : Cx p m meth c cc nL s args RX6 ret) (hK : va_K G vwCl (tyL cI cZ) s) (hP : va_P G vwCl ws H) (hD : va_D A ws) (hS : va_S A H0 H locs) (q0 : Nat) (he : ws[q0]? = some (a, .inr (6, fs))) {x : Int64} (hl : 21 < fs.length) (hw : ws.set q0 (a, .inr (6, fs.set 21 (.long x))) = ws2) (hdg : decode cc pc = .ok (.putfield 183, 3)) (kk : ∀ (H1 : Heap) (locs1 : List Loc), va_P G vwCl ws2 H1 → va_D A ws2 → va_S A H0 H1 locs1 → W p l e R s m args below meth c H1 locs1 cells slots Q (F0 m (pc + 3) ls rest)) : W p l e R s m args below meth c H locs cells slots Q (F0 m pc ls (.long x :: .ref a :: rest)) := by
  subst hw
  exact va_put (D := G) (ci := 6) (own := RX6) (C := RX6) (T := TX6) (N := 24) (ty := .long) X.1.1 X.1.2.1 X.1.2.2.2.2 inX6 tyX6 tyX6_ok nmX6 X.1.2.2.2.1 hK hP hD hS q0 he rfl 21 (by decide) (X.1.2.2.2.2 _ tw606) (fun _ h9 => h9) rfl (by decide +kernel) rfl rfl hl hdg kk
theorem gf6_43 (X : Cx p m meth c cc nL s args RX6 ret) (hK : va_K G vwCl (tyL cI cZ) s) (hP : va_P G vwCl ws H) (q0 : Nat) (he : ws[q0]? = some (a, .inr (6, fs))) {v : Value} (hv : fs[22]? = some v) (hdg : decode cc pc = .ok (.getfield 43, 3)) (kk : W p l e R s m args below meth c H locs cells slots Q (F0 m (pc + 3) ls (v :: rest))) : W p l e R s m args below meth c H locs cells slots Q (F0 m pc ls (.ref a :: rest)) := va_get (D := G) (ci := 6) (own := RX6) (C := RX6) (T := TX6) (N := 24) X.1.1 X.1.2.1 X.1.2.2.2.2 inX6 X.1.2.2.2.1 hK hP q0 he rfl 22 (by decide) (X.1.2.2.2.2 _ tw607) (fun _ h9 => h9) hv hdg kk
theorem gf6_47 (X : Cx p m meth c cc nL s args RX6 ret) (hK : va_K G vwCl (tyL cI cZ) s) (hP : va_P G vwCl ws H) (q0 : Nat) (he : ws[q0]? = some (a, .inr (6, fs))) {v : Value} (hv : fs[23]? = some v) (hdg : decode cc pc = .ok (.getfield 47, 3)) (kk : W p l e R s m args below meth c H locs cells slots Q (F0 m (pc + 3) ls (v :: rest))) : W p l e R s m args below meth c H locs cells slots Q (F0 m pc ls (.ref a :: rest)) := va_get (D := G) (ci := 6) (own := RX6) (C := RX6) (T := TX6) (N := 24) X.1.1 X.1.2.1 X.1.2.2.2.2 inX6 X.1.2.2.2.1 hK hP q0 he rfl 23 (by decide) (X.1.2.2.2.2 _ tw608) (fun _ h9 => h9) hv hdg kk
theorem gf5_63 (X : Cx p m meth c cc nL s args RX5 ret) (hK : va_K G vwCl (tyL cI cZ) s) (hP : va_P G vwCl ws H) (q0 : Nat) (he : ws[q0]? = some (a, .inr (4, fs))) {v : Value} (hv : fs[1]? = some v) (hdg : decode cc pc = .ok (.getfield 63, 3)) (kk : W p l e R s m args below meth c H locs cells slots Q (F0 m (pc + 3) ls (v :: rest))) : W p l e R s m args below meth c H locs cells slots Q (F0 m pc ls (.ref a :: rest)) := va_getN (D := G) (ci := 4) (own := RX5) (C := RX4) (T := TX4) (N := 2) (host := "WhistleBack") X.1.1 X.1.2.1 X.1.2.2.2.2 inX4 X.1.2.2.2.1 hK hP q0 he rfl 1 (by decide) (va_Nw.use rfl (X.2.1 _ nb0)) (fun _ h9 => h9) hv hdg kk
theorem pf5_63 (X : Cx p m meth c cc nL s args RX5 ret) (hK : va_K G vwCl (tyL cI cZ) s) (hP : va_P G vwCl ws H) (hD : va_D A ws) (hS : va_S A H0 H locs) (q0 : Nat) (he : ws[q0]? = some (a, .inr (4, fs))) {x : Int32} (hl : 1 < fs.length) (hw : ws.set q0 (a, .inr (4, fs.set 1 (.int x))) = ws2) (hdg : decode cc pc = .ok (.putfield 63, 3)) (kk : ∀ (H1 : Heap) (locs1 : List Loc), va_P G vwCl ws2 H1 → va_D A ws2 → va_S A H0 H1 locs1 → W p l e R s m args below meth c H1 locs1 cells slots Q (F0 m (pc + 3) ls rest)) : W p l e R s m args below meth c H locs cells slots Q (F0 m pc ls (.int x :: .ref a :: rest)) := by
  subst hw
  exact va_putN (D := G) (ci := 4) (own := RX5) (C := RX4) (T := TX4) (N := 2) (ty := .int) (host := "WhistleBack") X.1.1 X.1.2.1 X.1.2.2.2.2 inX4 tyX4 tyX4_ok nmX4 X.1.2.2.2.1 hK hP hD hS q0 he rfl 1 (by decide) (va_Nw.use rfl (X.2.1 _ nb0)) (fun _ h9 => h9) rfl (by decide +kernel) rfl rfl hl hdg kk
theorem gf5_92 (X : Cx p m meth c cc nL s args RX5 ret) (hK : va_K G vwCl (tyL cI cZ) s) (hP : va_P G vwCl ws H) (q0 : Nat) (he : ws[q0]? = some (a, .inr (1, fs))) {v : Value} (hv : fs[3]? = some v) (hdg : decode cc pc = .ok (.getfield 92, 3)) (kk : W p l e R s m args below meth c H locs cells slots Q (F0 m (pc + 3) ls (v :: rest))) : W p l e R s m args below meth c H locs cells slots Q (F0 m pc ls (.ref a :: rest)) := va_getN (D := G) (ci := 1) (own := RX5) (C := RX1) (T := TX1) (N := 5) (host := "WhistleBack") X.1.1 X.1.2.1 X.1.2.2.2.2 inX1 X.1.2.2.2.1 hK hP q0 he rfl 3 (by decide) (va_Nw.use rfl (X.2.1 _ nb1)) (fun _ h9 => h9) hv hdg kk
theorem pf5_92 (X : Cx p m meth c cc nL s args RX5 ret) (hK : va_K G vwCl (tyL cI cZ) s) (hP : va_P G vwCl ws H) (hD : va_D A ws) (hS : va_S A H0 H locs) (q0 : Nat) (he : ws[q0]? = some (a, .inr (1, fs))) {x : Int32} (hl : 3 < fs.length) (hw : ws.set q0 (a, .inr (1, fs.set 3 (.int x))) = ws2) (hdg : decode cc pc = .ok (.putfield 92, 3)) (kk : ∀ (H1 : Heap) (locs1 : List Loc), va_P G vwCl ws2 H1 → va_D A ws2 → va_S A H0 H1 locs1 → W p l e R s m args below meth c H1 locs1 cells slots Q (F0 m (pc + 3) ls rest)) : W p l e R s m args below meth c H locs cells slots Q (F0 m pc ls (.int x :: .ref a :: rest)) := by
  subst hw
  exact va_putN (D := G) (ci := 1) (own := RX5) (C := RX1) (T := TX1) (N := 5) (ty := .int) (host := "WhistleBack") X.1.1 X.1.2.1 X.1.2.2.2.2 inX1 tyX1 tyX1_ok nmX1 X.1.2.2.2.1 hK hP hD hS q0 he rfl 3 (by decide) (va_Nw.use rfl (X.2.1 _ nb1)) (fun _ h9 => h9) rfl (by decide +kernel) rfl rfl hl hdg kk
theorem gf5_95 (X : Cx p m meth c cc nL s args RX5 ret) (hK : va_K G vwCl (tyL cI cZ) s) (hP : va_P G vwCl ws H) (q0 : Nat) (he : ws[q0]? = some (a, .inr (1, fs))) {v : Value} (hv : fs[4]? = some v) (hdg : decode cc pc = .ok (.getfield 95, 3)) (kk : W p l e R s m args below meth c H locs cells slots Q (F0 m (pc + 3) ls (v :: rest))) : W p l e R s m args below meth c H locs cells slots Q (F0 m pc ls (.ref a :: rest)) := va_getN (D := G) (ci := 1) (own := RX5) (C := RX1) (T := TX1) (N := 5) (host := "WhistleBack") X.1.1 X.1.2.1 X.1.2.2.2.2 inX1 X.1.2.2.2.1 hK hP q0 he rfl 4 (by decide) (va_Nw.use rfl (X.2.1 _ nb2)) (fun _ h9 => h9) hv hdg kk
theorem pf5_95 (X : Cx p m meth c cc nL s args RX5 ret) (hK : va_K G vwCl (tyL cI cZ) s) (hP : va_P G vwCl ws H) (hD : va_D A ws) (hS : va_S A H0 H locs) (q0 : Nat) (he : ws[q0]? = some (a, .inr (1, fs))) {x : Int32} (hl : 4 < fs.length) (hw : ws.set q0 (a, .inr (1, fs.set 4 (.int x))) = ws2) (hdg : decode cc pc = .ok (.putfield 95, 3)) (kk : ∀ (H1 : Heap) (locs1 : List Loc), va_P G vwCl ws2 H1 → va_D A ws2 → va_S A H0 H1 locs1 → W p l e R s m args below meth c H1 locs1 cells slots Q (F0 m (pc + 3) ls rest)) : W p l e R s m args below meth c H locs cells slots Q (F0 m pc ls (.int x :: .ref a :: rest)) := by
  subst hw
  exact va_putN (D := G) (ci := 1) (own := RX5) (C := RX1) (T := TX1) (N := 5) (ty := .int) (host := "WhistleBack") X.1.1 X.1.2.1 X.1.2.2.2.2 inX1 tyX1 tyX1_ok nmX1 X.1.2.2.2.1 hK hP hD hS q0 he rfl 4 (by decide) (va_Nw.use rfl (X.2.1 _ nb2)) (fun _ h9 => h9) rfl (by decide +kernel) rfl rfl hl hdg kk
theorem gf2_25 (X : Cx p m meth c cc nL s args RX2 ret) (hK : va_K G vwCl (tyL cI cZ) s) (hP : va_P G vwCl ws H) (q0 : Nat) (he : ws[q0]? = some (a, .inr (0, fs))) {v : Value} (hv : fs[1]? = some v) (hdg : decode cc pc = .ok (.getfield 25, 3)) (kk : W p l e R s m args below meth c H locs cells slots Q (F0 m (pc + 3) ls (v :: rest))) : W p l e R s m args below meth c H locs cells slots Q (F0 m pc ls (.ref a :: rest)) := va_getN (D := G) (ci := 0) (own := RX2) (C := RX0) (T := TX0) (N := 7) (host := "WhistleBack") X.1.1 X.1.2.1 X.1.2.2.2.2 inX0 X.1.2.2.2.1 hK hP q0 he rfl 1 (by decide) (va_Nw.use rfl (X.2.1 _ nb3)) (fun _ h9 => h9) hv hdg kk
theorem pf2_25 (X : Cx p m meth c cc nL s args RX2 ret) (hK : va_K G vwCl (tyL cI cZ) s) (hP : va_P G vwCl ws H) (hD : va_D A ws) (hS : va_S A H0 H locs) (q0 : Nat) (he : ws[q0]? = some (a, .inr (0, fs))) {x : Int32} (hl : 1 < fs.length) (hw : ws.set q0 (a, .inr (0, fs.set 1 (.int x))) = ws2) (hdg : decode cc pc = .ok (.putfield 25, 3)) (kk : ∀ (H1 : Heap) (locs1 : List Loc), va_P G vwCl ws2 H1 → va_D A ws2 → va_S A H0 H1 locs1 → W p l e R s m args below meth c H1 locs1 cells slots Q (F0 m (pc + 3) ls rest)) : W p l e R s m args below meth c H locs cells slots Q (F0 m pc ls (.int x :: .ref a :: rest)) := by
  subst hw
  exact va_putN (D := G) (ci := 0) (own := RX2) (C := RX0) (T := TX0) (N := 7) (ty := .int) (host := "WhistleBack") X.1.1 X.1.2.1 X.1.2.2.2.2 inX0 tyX0 tyX0_ok nmX0 X.1.2.2.2.1 hK hP hD hS q0 he rfl 1 (by decide) (va_Nw.use rfl (X.2.1 _ nb3)) (fun _ h9 => h9) rfl (by decide +kernel) rfl rfl hl hdg kk
theorem gf5_270 (X : Cx p m meth c cc nL s args RX5 ret) (hK : va_K G vwCl (tyL cI cZ) s) (hP : va_P G vwCl ws H) (q0 : Nat) (he : ws[q0]? = some (a, .inr (0, fs))) {v : Value} (hv : fs[1]? = some v) (hdg : decode cc pc = .ok (.getfield 270, 3)) (kk : W p l e R s m args below meth c H locs cells slots Q (F0 m (pc + 3) ls (v :: rest))) : W p l e R s m args below meth c H locs cells slots Q (F0 m pc ls (.ref a :: rest)) := va_getN (D := G) (ci := 0) (own := RX5) (C := RX0) (T := TX0) (N := 7) (host := "WhistleBack") X.1.1 X.1.2.1 X.1.2.2.2.2 inX0 X.1.2.2.2.1 hK hP q0 he rfl 1 (by decide) (va_Nw.use rfl (X.2.1 _ nb4)) (fun _ h9 => h9) hv hdg kk
theorem pf5_270 (X : Cx p m meth c cc nL s args RX5 ret) (hK : va_K G vwCl (tyL cI cZ) s) (hP : va_P G vwCl ws H) (hD : va_D A ws) (hS : va_S A H0 H locs) (q0 : Nat) (he : ws[q0]? = some (a, .inr (0, fs))) {x : Int32} (hl : 1 < fs.length) (hw : ws.set q0 (a, .inr (0, fs.set 1 (.int x))) = ws2) (hdg : decode cc pc = .ok (.putfield 270, 3)) (kk : ∀ (H1 : Heap) (locs1 : List Loc), va_P G vwCl ws2 H1 → va_D A ws2 → va_S A H0 H1 locs1 → W p l e R s m args below meth c H1 locs1 cells slots Q (F0 m (pc + 3) ls rest)) : W p l e R s m args below meth c H locs cells slots Q (F0 m pc ls (.int x :: .ref a :: rest)) := by
  subst hw
  exact va_putN (D := G) (ci := 0) (own := RX5) (C := RX0) (T := TX0) (N := 7) (ty := .int) (host := "WhistleBack") X.1.1 X.1.2.1 X.1.2.2.2.2 inX0 tyX0 tyX0_ok nmX0 X.1.2.2.2.1 hK hP hD hS q0 he rfl 1 (by decide) (va_Nw.use rfl (X.2.1 _ nb4)) (fun _ h9 => h9) rfl (by decide +kernel) rfl rfl hl hdg kk
theorem gf2_29 (X : Cx p m meth c cc nL s args RX2 ret) (hK : va_K G vwCl (tyL cI cZ) s) (hP : va_P G vwCl ws H) (q0 : Nat) (he : ws[q0]? = some (a, .inr (0, fs))) {v : Value} (hv : fs[2]? = some v) (hdg : decode cc pc = .ok (.getfield 29, 3)) (kk : W p l e R s m args below meth c H locs cells slots Q (F0 m (pc + 3) ls (v :: rest))) : W p l e R s m args below meth c H locs cells slots Q (F0 m pc ls (.ref a :: rest)) := va_getN (D := G) (ci := 0) (own := RX2) (C := RX0) (T := TX0) (N := 7) (host := "WhistleBack") X.1.1 X.1.2.1 X.1.2.2.2.2 inX0 X.1.2.2.2.1 hK hP q0 he rfl 2 (by decide) (va_Nw.use rfl (X.2.1 _ nb5)) (fun _ h9 => h9) hv hdg kk
theorem pf2_29 (X : Cx p m meth c cc nL s args RX2 ret) (hK : va_K G vwCl (tyL cI cZ) s) (hP : va_P G vwCl ws H) (hD : va_D A ws) (hS : va_S A H0 H locs) (q0 : Nat) (he : ws[q0]? = some (a, .inr (0, fs))) {x : Int32} (hl : 2 < fs.length) (hw : ws.set q0 (a, .inr (0, fs.set 2 (.int x))) = ws2) (hdg : decode cc pc = .ok (.putfield 29, 3)) (kk : ∀ (H1 : Heap) (locs1 : List Loc), va_P G vwCl ws2 H1 → va_D A ws2 → va_S A H0 H1 locs1 → W p l e R s m args below meth c H1 locs1 cells slots Q (F0 m (pc + 3) ls rest)) : W p l e R s m args below meth c H locs cells slots Q (F0 m pc ls (.int x :: .ref a :: rest)) := by
  subst hw
  exact va_putN (D := G) (ci := 0) (own := RX2) (C := RX0) (T := TX0) (N := 7) (ty := .int) (host := "WhistleBack") X.1.1 X.1.2.1 X.1.2.2.2.2 inX0 tyX0 tyX0_ok nmX0 X.1.2.2.2.1 hK hP hD hS q0 he rfl 2 (by decide) (va_Nw.use rfl (X.2.1 _ nb5)) (fun _ h9 => h9) rfl (by decide +kernel) rfl rfl hl hdg kk
theorem gf5_117 (X : Cx p m meth c cc nL s args RX5 ret) (hK : va_K G vwCl (tyL cI cZ) s) (hP : va_P G vwCl ws H) (q0 : Nat) (he : ws[q0]? = some (a, .inr (0, fs))) {v : Value} (hv : fs[2]? = some v) (hdg : decode cc pc = .ok (.getfield 117, 3)) (kk : W p l e R s m args below meth c H locs cells slots Q (F0 m (pc + 3) ls (v :: rest))) : W p l e R s m args below meth c H locs cells slots Q (F0 m pc ls (.ref a :: rest)) := va_getN (D := G) (ci := 0) (own := RX5) (C := RX0) (T := TX0) (N := 7) (host := "WhistleBack") X.1.1 X.1.2.1 X.1.2.2.2.2 inX0 X.1.2.2.2.1 hK hP q0 he rfl 2 (by decide) (va_Nw.use rfl (X.2.1 _ nb6)) (fun _ h9 => h9) hv hdg kk
theorem pf5_117 (X : Cx p m meth c cc nL s args RX5 ret) (hK : va_K G vwCl (tyL cI cZ) s) (hP : va_P G vwCl ws H) (hD : va_D A ws) (hS : va_S A H0 H locs) (q0 : Nat) (he : ws[q0]? = some (a, .inr (0, fs))) {x : Int32} (hl : 2 < fs.length) (hw : ws.set q0 (a, .inr (0, fs.set 2 (.int x))) = ws2) (hdg : decode cc pc = .ok (.putfield 117, 3)) (kk : ∀ (H1 : Heap) (locs1 : List Loc), va_P G vwCl ws2 H1 → va_D A ws2 → va_S A H0 H1 locs1 → W p l e R s m args below meth c H1 locs1 cells slots Q (F0 m (pc + 3) ls rest)) : W p l e R s m args below meth c H locs cells slots Q (F0 m pc ls (.int x :: .ref a :: rest)) := by
  subst hw
  exact va_putN (D := G) (ci := 0) (own := RX5) (C := RX0) (T := TX0) (N := 7) (ty := .int) (host := "WhistleBack") X.1.1 X.1.2.1 X.1.2.2.2.2 inX0 tyX0 tyX0_ok nmX0 X.1.2.2.2.1 hK hP hD hS q0 he rfl 2 (by decide) (va_Nw.use rfl (X.2.1 _ nb6)) (fun _ h9 => h9) rfl (by decide +kernel) rfl rfl hl hdg kk
theorem gf1_71 (X : Cx p m meth c cc nL s args RX1 ret) (hK : va_K G vwCl (tyL cI cZ) s) (hP : va_P G vwCl ws H) (q0 : Nat) (he : ws[q0]? = some (a, .inr (0, fs))) {v : Value} (hv : fs[2]? = some v) (hdg : decode cc pc = .ok (.getfield 71, 3)) (kk : W p l e R s m args below meth c H locs cells slots Q (F0 m (pc + 3) ls (v :: rest))) : W p l e R s m args below meth c H locs cells slots Q (F0 m pc ls (.ref a :: rest)) := va_getN (D := G) (ci := 0) (own := RX1) (C := RX0) (T := TX0) (N := 7) (host := "WhistleBack") X.1.1 X.1.2.1 X.1.2.2.2.2 inX0 X.1.2.2.2.1 hK hP q0 he rfl 2 (by decide) (va_Nw.use rfl (X.2.1 _ nb7)) (fun _ h9 => h9) hv hdg kk
theorem pf1_71 (X : Cx p m meth c cc nL s args RX1 ret) (hK : va_K G vwCl (tyL cI cZ) s) (hP : va_P G vwCl ws H) (hD : va_D A ws) (hS : va_S A H0 H locs) (q0 : Nat) (he : ws[q0]? = some (a, .inr (0, fs))) {x : Int32} (hl : 2 < fs.length) (hw : ws.set q0 (a, .inr (0, fs.set 2 (.int x))) = ws2) (hdg : decode cc pc = .ok (.putfield 71, 3)) (kk : ∀ (H1 : Heap) (locs1 : List Loc), va_P G vwCl ws2 H1 → va_D A ws2 → va_S A H0 H1 locs1 → W p l e R s m args below meth c H1 locs1 cells slots Q (F0 m (pc + 3) ls rest)) : W p l e R s m args below meth c H locs cells slots Q (F0 m pc ls (.int x :: .ref a :: rest)) := by
  subst hw
  exact va_putN (D := G) (ci := 0) (own := RX1) (C := RX0) (T := TX0) (N := 7) (ty := .int) (host := "WhistleBack") X.1.1 X.1.2.1 X.1.2.2.2.2 inX0 tyX0 tyX0_ok nmX0 X.1.2.2.2.1 hK hP hD hS q0 he rfl 2 (by decide) (va_Nw.use rfl (X.2.1 _ nb7)) (fun _ h9 => h9) rfl (by decide +kernel) rfl rfl hl hdg kk
theorem gf2_32 (X : Cx p m meth c cc nL s args RX2 ret) (hK : va_K G vwCl (tyL cI cZ) s) (hP : va_P G vwCl ws H) (q0 : Nat) (he : ws[q0]? = some (a, .inr (0, fs))) {v : Value} (hv : fs[3]? = some v) (hdg : decode cc pc = .ok (.getfield 32, 3)) (kk : W p l e R s m args below meth c H locs cells slots Q (F0 m (pc + 3) ls (v :: rest))) : W p l e R s m args below meth c H locs cells slots Q (F0 m pc ls (.ref a :: rest)) := va_getN (D := G) (ci := 0) (own := RX2) (C := RX0) (T := TX0) (N := 7) (host := "WhistleBack") X.1.1 X.1.2.1 X.1.2.2.2.2 inX0 X.1.2.2.2.1 hK hP q0 he rfl 3 (by decide) (va_Nw.use rfl (X.2.1 _ nb8)) (fun _ h9 => h9) hv hdg kk
theorem pf2_32 (X : Cx p m meth c cc nL s args RX2 ret) (hK : va_K G vwCl (tyL cI cZ) s) (hP : va_P G vwCl ws H) (hD : va_D A ws) (hS : va_S A H0 H locs) (q0 : Nat) (he : ws[q0]? = some (a, .inr (0, fs))) {x : Int32} (hl : 3 < fs.length) (hw : ws.set q0 (a, .inr (0, fs.set 3 (.int x))) = ws2) (hdg : decode cc pc = .ok (.putfield 32, 3)) (kk : ∀ (H1 : Heap) (locs1 : List Loc), va_P G vwCl ws2 H1 → va_D A ws2 → va_S A H0 H1 locs1 → W p l e R s m args below meth c H1 locs1 cells slots Q (F0 m (pc + 3) ls rest)) : W p l e R s m args below meth c H locs cells slots Q (F0 m pc ls (.int x :: .ref a :: rest)) := by
  subst hw
  exact va_putN (D := G) (ci := 0) (own := RX2) (C := RX0) (T := TX0) (N := 7) (ty := .int) (host := "WhistleBack") X.1.1 X.1.2.1 X.1.2.2.2.2 inX0 tyX0 tyX0_ok nmX0 X.1.2.2.2.1 hK hP hD hS q0 he rfl 3 (by decide) (va_Nw.use rfl (X.2.1 _ nb8)) (fun _ h9 => h9) rfl (by decide +kernel) rfl rfl hl hdg kk
theorem gf5_168 (X : Cx p m meth c cc nL s args RX5 ret) (hK : va_K G vwCl (tyL cI cZ) s) (hP : va_P G vwCl ws H) (q0 : Nat) (he : ws[q0]? = some (a, .inr (0, fs))) {v : Value} (hv : fs[3]? = some v) (hdg : decode cc pc = .ok (.getfield 168, 3)) (kk : W p l e R s m args below meth c H locs cells slots Q (F0 m (pc + 3) ls (v :: rest))) : W p l e R s m args below meth c H locs cells slots Q (F0 m pc ls (.ref a :: rest)) := va_getN (D := G) (ci := 0) (own := RX5) (C := RX0) (T := TX0) (N := 7) (host := "WhistleBack") X.1.1 X.1.2.1 X.1.2.2.2.2 inX0 X.1.2.2.2.1 hK hP q0 he rfl 3 (by decide) (va_Nw.use rfl (X.2.1 _ nb9)) (fun _ h9 => h9) hv hdg kk
theorem pf5_168 (X : Cx p m meth c cc nL s args RX5 ret) (hK : va_K G vwCl (tyL cI cZ) s) (hP : va_P G vwCl ws H) (hD : va_D A ws) (hS : va_S A H0 H locs) (q0 : Nat) (he : ws[q0]? = some (a, .inr (0, fs))) {x : Int32} (hl : 3 < fs.length) (hw : ws.set q0 (a, .inr (0, fs.set 3 (.int x))) = ws2) (hdg : decode cc pc = .ok (.putfield 168, 3)) (kk : ∀ (H1 : Heap) (locs1 : List Loc), va_P G vwCl ws2 H1 → va_D A ws2 → va_S A H0 H1 locs1 → W p l e R s m args below meth c H1 locs1 cells slots Q (F0 m (pc + 3) ls rest)) : W p l e R s m args below meth c H locs cells slots Q (F0 m pc ls (.int x :: .ref a :: rest)) := by
  subst hw
  exact va_putN (D := G) (ci := 0) (own := RX5) (C := RX0) (T := TX0) (N := 7) (ty := .int) (host := "WhistleBack") X.1.1 X.1.2.1 X.1.2.2.2.2 inX0 tyX0 tyX0_ok nmX0 X.1.2.2.2.1 hK hP hD hS q0 he rfl 3 (by decide) (va_Nw.use rfl (X.2.1 _ nb9)) (fun _ h9 => h9) rfl (by decide +kernel) rfl rfl hl hdg kk
theorem gf1_81 (X : Cx p m meth c cc nL s args RX1 ret) (hK : va_K G vwCl (tyL cI cZ) s) (hP : va_P G vwCl ws H) (q0 : Nat) (he : ws[q0]? = some (a, .inr (0, fs))) {v : Value} (hv : fs[3]? = some v) (hdg : decode cc pc = .ok (.getfield 81, 3)) (kk : W p l e R s m args below meth c H locs cells slots Q (F0 m (pc + 3) ls (v :: rest))) : W p l e R s m args below meth c H locs cells slots Q (F0 m pc ls (.ref a :: rest)) := va_getN (D := G) (ci := 0) (own := RX1) (C := RX0) (T := TX0) (N := 7) (host := "WhistleBack") X.1.1 X.1.2.1 X.1.2.2.2.2 inX0 X.1.2.2.2.1 hK hP q0 he rfl 3 (by decide) (va_Nw.use rfl (X.2.1 _ nb10)) (fun _ h9 => h9) hv hdg kk
theorem pf1_81 (X : Cx p m meth c cc nL s args RX1 ret) (hK : va_K G vwCl (tyL cI cZ) s) (hP : va_P G vwCl ws H) (hD : va_D A ws) (hS : va_S A H0 H locs) (q0 : Nat) (he : ws[q0]? = some (a, .inr (0, fs))) {x : Int32} (hl : 3 < fs.length) (hw : ws.set q0 (a, .inr (0, fs.set 3 (.int x))) = ws2) (hdg : decode cc pc = .ok (.putfield 81, 3)) (kk : ∀ (H1 : Heap) (locs1 : List Loc), va_P G vwCl ws2 H1 → va_D A ws2 → va_S A H0 H1 locs1 → W p l e R s m args below meth c H1 locs1 cells slots Q (F0 m (pc + 3) ls rest)) : W p l e R s m args below meth c H locs cells slots Q (F0 m pc ls (.int x :: .ref a :: rest)) := by
  subst hw
  exact va_putN (D := G) (ci := 0) (own := RX1) (C := RX0) (T := TX0) (N := 7) (ty := .int) (host := "WhistleBack") X.1.1 X.1.2.1 X.1.2.2.2.2 inX0 tyX0 tyX0_ok nmX0 X.1.2.2.2.1 hK hP hD hS q0 he rfl 3 (by decide) (va_Nw.use rfl (X.2.1 _ nb10)) (fun _ h9 => h9) rfl (by decide +kernel) rfl rfl hl hdg kk
theorem gf2_35 (X : Cx p m meth c cc nL s args RX2 ret) (hK : va_K G vwCl (tyL cI cZ) s) (hP : va_P G vwCl ws H) (q0 : Nat) (he : ws[q0]? = some (a, .inr (0, fs))) {v : Value} (hv : fs[4]? = some v) (hdg : decode cc pc = .ok (.getfield 35, 3)) (kk : W p l e R s m args below meth c H locs cells slots Q (F0 m (pc + 3) ls (v :: rest))) : W p l e R s m args below meth c H locs cells slots Q (F0 m pc ls (.ref a :: rest)) := va_getN (D := G) (ci := 0) (own := RX2) (C := RX0) (T := TX0) (N := 7) (host := "WhistleBack") X.1.1 X.1.2.1 X.1.2.2.2.2 inX0 X.1.2.2.2.1 hK hP q0 he rfl 4 (by decide) (va_Nw.use rfl (X.2.1 _ nb11)) (fun _ h9 => h9) hv hdg kk
theorem pf2_35 (X : Cx p m meth c cc nL s args RX2 ret) (hK : va_K G vwCl (tyL cI cZ) s) (hP : va_P G vwCl ws H) (hD : va_D A ws) (hS : va_S A H0 H locs) (q0 : Nat) (he : ws[q0]? = some (a, .inr (0, fs))) {x : Int32} (hl : 4 < fs.length) (hw : ws.set q0 (a, .inr (0, fs.set 4 (.int x))) = ws2) (hdg : decode cc pc = .ok (.putfield 35, 3)) (kk : ∀ (H1 : Heap) (locs1 : List Loc), va_P G vwCl ws2 H1 → va_D A ws2 → va_S A H0 H1 locs1 → W p l e R s m args below meth c H1 locs1 cells slots Q (F0 m (pc + 3) ls rest)) : W p l e R s m args below meth c H locs cells slots Q (F0 m pc ls (.int x :: .ref a :: rest)) := by
  subst hw
  exact va_putN (D := G) (ci := 0) (own := RX2) (C := RX0) (T := TX0) (N := 7) (ty := .int) (host := "WhistleBack") X.1.1 X.1.2.1 X.1.2.2.2.2 inX0 tyX0 tyX0_ok nmX0 X.1.2.2.2.1 hK hP hD hS q0 he rfl 4 (by decide) (va_Nw.use rfl (X.2.1 _ nb11)) (fun _ h9 => h9) rfl (by decide +kernel) rfl rfl hl hdg kk
theorem gf1_78 (X : Cx p m meth c cc nL s args RX1 ret) (hK : va_K G vwCl (tyL cI cZ) s) (hP : va_P G vwCl ws H) (q0 : Nat) (he : ws[q0]? = some (a, .inr (0, fs))) {v : Value} (hv : fs[4]? = some v) (hdg : decode cc pc = .ok (.getfield 78, 3)) (kk : W p l e R s m args below meth c H locs cells slots Q (F0 m (pc + 3) ls (v :: rest))) : W p l e R s m args below meth c H locs cells slots Q (F0 m pc ls (.ref a :: rest)) := va_getN (D := G) (ci := 0) (own := RX1) (C := RX0) (T := TX0) (N := 7) (host := "WhistleBack") X.1.1 X.1.2.1 X.1.2.2.2.2 inX0 X.1.2.2.2.1 hK hP q0 he rfl 4 (by decide) (va_Nw.use rfl (X.2.1 _ nb12)) (fun _ h9 => h9) hv hdg kk
theorem pf1_78 (X : Cx p m meth c cc nL s args RX1 ret) (hK : va_K G vwCl (tyL cI cZ) s) (hP : va_P G vwCl ws H) (hD : va_D A ws) (hS : va_S A H0 H locs) (q0 : Nat) (he : ws[q0]? = some (a, .inr (0, fs))) {x : Int32} (hl : 4 < fs.length) (hw : ws.set q0 (a, .inr (0, fs.set 4 (.int x))) = ws2) (hdg : decode cc pc = .ok (.putfield 78, 3)) (kk : ∀ (H1 : Heap) (locs1 : List Loc), va_P G vwCl ws2 H1 → va_D A ws2 → va_S A H0 H1 locs1 → W p l e R s m args below meth c H1 locs1 cells slots Q (F0 m (pc + 3) ls rest)) : W p l e R s m args below meth c H locs cells slots Q (F0 m pc ls (.int x :: .ref a :: rest)) := by
  subst hw
  exact va_putN (D := G) (ci := 0) (own := RX1) (C := RX0) (T := TX0) (N := 7) (ty := .int) (host := "WhistleBack") X.1.1 X.1.2.1 X.1.2.2.2.2 inX0 tyX0 tyX0_ok nmX0 X.1.2.2.2.1 hK hP hD hS q0 he rfl 4 (by decide) (va_Nw.use rfl (X.2.1 _ nb12)) (fun _ h9 => h9) rfl (by decide +kernel) rfl rfl hl hdg kk
theorem gf5_267 (X : Cx p m meth c cc nL s args RX5 ret) (hK : va_K G vwCl (tyL cI cZ) s) (hP : va_P G vwCl ws H) (q0 : Nat) (he : ws[q0]? = some (a, .inr (0, fs))) {v : Value} (hv : fs[4]? = some v) (hdg : decode cc pc = .ok (.getfield 267, 3)) (kk : W p l e R s m args below meth c H locs cells slots Q (F0 m (pc + 3) ls (v :: rest))) : W p l e R s m args below meth c H locs cells slots Q (F0 m pc ls (.ref a :: rest)) := va_getN (D := G) (ci := 0) (own := RX5) (C := RX0) (T := TX0) (N := 7) (host := "WhistleBack") X.1.1 X.1.2.1 X.1.2.2.2.2 inX0 X.1.2.2.2.1 hK hP q0 he rfl 4 (by decide) (va_Nw.use rfl (X.2.1 _ nb13)) (fun _ h9 => h9) hv hdg kk
theorem pf5_267 (X : Cx p m meth c cc nL s args RX5 ret) (hK : va_K G vwCl (tyL cI cZ) s) (hP : va_P G vwCl ws H) (hD : va_D A ws) (hS : va_S A H0 H locs) (q0 : Nat) (he : ws[q0]? = some (a, .inr (0, fs))) {x : Int32} (hl : 4 < fs.length) (hw : ws.set q0 (a, .inr (0, fs.set 4 (.int x))) = ws2) (hdg : decode cc pc = .ok (.putfield 267, 3)) (kk : ∀ (H1 : Heap) (locs1 : List Loc), va_P G vwCl ws2 H1 → va_D A ws2 → va_S A H0 H1 locs1 → W p l e R s m args below meth c H1 locs1 cells slots Q (F0 m (pc + 3) ls rest)) : W p l e R s m args below meth c H locs cells slots Q (F0 m pc ls (.int x :: .ref a :: rest)) := by
  subst hw
  exact va_putN (D := G) (ci := 0) (own := RX5) (C := RX0) (T := TX0) (N := 7) (ty := .int) (host := "WhistleBack") X.1.1 X.1.2.1 X.1.2.2.2.2 inX0 tyX0 tyX0_ok nmX0 X.1.2.2.2.1 hK hP hD hS q0 he rfl 4 (by decide) (va_Nw.use rfl (X.2.1 _ nb13)) (fun _ h9 => h9) rfl (by decide +kernel) rfl rfl hl hdg kk
theorem gf2_38 (X : Cx p m meth c cc nL s args RX2 ret) (hK : va_K G vwCl (tyL cI cZ) s) (hP : va_P G vwCl ws H) (q0 : Nat) (he : ws[q0]? = some (a, .inr (0, fs))) {v : Value} (hv : fs[5]? = some v) (hdg : decode cc pc = .ok (.getfield 38, 3)) (kk : W p l e R s m args below meth c H locs cells slots Q (F0 m (pc + 3) ls (v :: rest))) : W p l e R s m args below meth c H locs cells slots Q (F0 m pc ls (.ref a :: rest)) := va_getN (D := G) (ci := 0) (own := RX2) (C := RX0) (T := TX0) (N := 7) (host := "WhistleBack") X.1.1 X.1.2.1 X.1.2.2.2.2 inX0 X.1.2.2.2.1 hK hP q0 he rfl 5 (by decide) (va_Nw.use rfl (X.2.1 _ nb14)) (fun _ h9 => h9) hv hdg kk
theorem pf2_38 (X : Cx p m meth c cc nL s args RX2 ret) (hK : va_K G vwCl (tyL cI cZ) s) (hP : va_P G vwCl ws H) (hD : va_D A ws) (hS : va_S A H0 H locs) (q0 : Nat) (he : ws[q0]? = some (a, .inr (0, fs))) {x : Int32} (hz : okB x = true) (hl : 5 < fs.length) (hw : ws.set q0 (a, .inr (0, fs.set 5 (.int x))) = ws2) (hdg : decode cc pc = .ok (.putfield 38, 3)) (kk : ∀ (H1 : Heap) (locs1 : List Loc), va_P G vwCl ws2 H1 → va_D A ws2 → va_S A H0 H1 locs1 → W p l e R s m args below meth c H1 locs1 cells slots Q (F0 m (pc + 3) ls rest)) : W p l e R s m args below meth c H locs cells slots Q (F0 m pc ls (.int x :: .ref a :: rest)) := by
  subst hw
  exact va_putN (D := G) (ci := 0) (own := RX2) (C := RX0) (T := TX0) (N := 7) (ty := .boolean) (host := "WhistleBack") X.1.1 X.1.2.1 X.1.2.2.2.2 inX0 tyX0 tyX0_ok nmX0 X.1.2.2.2.1 hK hP hD hS q0 he rfl 5 (by decide) (va_Nw.use rfl (X.2.1 _ nb14)) (fun _ h9 => h9) rfl (by decide +kernel) (okB_nar hz) (okB_fit hz) hl hdg kk
theorem gf1_52 (X : Cx p m meth c cc nL s args RX1 ret) (hK : va_K G vwCl (tyL cI cZ) s) (hP : va_P G vwCl ws H) (q0 : Nat) (he : ws[q0]? = some (a, .inr (0, fs))) {v : Value} (hv : fs[5]? = some v) (hdg : decode cc pc = .ok (.getfield 52, 3)) (kk : W p l e R s m args below meth c H locs cells slots Q (F0 m (pc + 3) ls (v :: rest))) : W p l e R s m args below meth c H locs cells slots Q (F0 m pc ls (.ref a :: rest)) := va_getN (D := G) (ci := 0) (own := RX1) (C := RX0) (T := TX0) (N := 7) (host := "WhistleBack") X.1.1 X.1.2.1 X.1.2.2.2.2 inX0 X.1.2.2.2.1 hK hP q0 he rfl 5 (by decide) (va_Nw.use rfl (X.2.1 _ nb15)) (fun _ h9 => h9) hv hdg kk
theorem pf1_52 (X : Cx p m meth c cc nL s args RX1 ret) (hK : va_K G vwCl (tyL cI cZ) s) (hP : va_P G vwCl ws H) (hD : va_D A ws) (hS : va_S A H0 H locs) (q0 : Nat) (he : ws[q0]? = some (a, .inr (0, fs))) {x : Int32} (hz : okB x = true) (hl : 5 < fs.length) (hw : ws.set q0 (a, .inr (0, fs.set 5 (.int x))) = ws2) (hdg : decode cc pc = .ok (.putfield 52, 3)) (kk : ∀ (H1 : Heap) (locs1 : List Loc), va_P G vwCl ws2 H1 → va_D A ws2 → va_S A H0 H1 locs1 → W p l e R s m args below meth c H1 locs1 cells slots Q (F0 m (pc + 3) ls rest)) : W p l e R s m args below meth c H locs cells slots Q (F0 m pc ls (.int x :: .ref a :: rest)) := by
  subst hw
  exact va_putN (D := G) (ci := 0) (own := RX1) (C := RX0) (T := TX0) (N := 7) (ty := .boolean) (host := "WhistleBack") X.1.1 X.1.2.1 X.1.2.2.2.2 inX0 tyX0 tyX0_ok nmX0 X.1.2.2.2.1 hK hP hD hS q0 he rfl 5 (by decide) (va_Nw.use rfl (X.2.1 _ nb15)) (fun _ h9 => h9) rfl (by decide +kernel) (okB_nar hz) (okB_fit hz) hl hdg kk
theorem gf5_184 (X : Cx p m meth c cc nL s args RX5 ret) (hK : va_K G vwCl (tyL cI cZ) s) (hP : va_P G vwCl ws H) (q0 : Nat) (he : ws[q0]? = some (a, .inr (0, fs))) {v : Value} (hv : fs[5]? = some v) (hdg : decode cc pc = .ok (.getfield 184, 3)) (kk : W p l e R s m args below meth c H locs cells slots Q (F0 m (pc + 3) ls (v :: rest))) : W p l e R s m args below meth c H locs cells slots Q (F0 m pc ls (.ref a :: rest)) := va_getN (D := G) (ci := 0) (own := RX5) (C := RX0) (T := TX0) (N := 7) (host := "WhistleBack") X.1.1 X.1.2.1 X.1.2.2.2.2 inX0 X.1.2.2.2.1 hK hP q0 he rfl 5 (by decide) (va_Nw.use rfl (X.2.1 _ nb16)) (fun _ h9 => h9) hv hdg kk
theorem pf5_184 (X : Cx p m meth c cc nL s args RX5 ret) (hK : va_K G vwCl (tyL cI cZ) s) (hP : va_P G vwCl ws H) (hD : va_D A ws) (hS : va_S A H0 H locs) (q0 : Nat) (he : ws[q0]? = some (a, .inr (0, fs))) {x : Int32} (hz : okB x = true) (hl : 5 < fs.length) (hw : ws.set q0 (a, .inr (0, fs.set 5 (.int x))) = ws2) (hdg : decode cc pc = .ok (.putfield 184, 3)) (kk : ∀ (H1 : Heap) (locs1 : List Loc), va_P G vwCl ws2 H1 → va_D A ws2 → va_S A H0 H1 locs1 → W p l e R s m args below meth c H1 locs1 cells slots Q (F0 m (pc + 3) ls rest)) : W p l e R s m args below meth c H locs cells slots Q (F0 m pc ls (.int x :: .ref a :: rest)) := by
  subst hw
  exact va_putN (D := G) (ci := 0) (own := RX5) (C := RX0) (T := TX0) (N := 7) (ty := .boolean) (host := "WhistleBack") X.1.1 X.1.2.1 X.1.2.2.2.2 inX0 tyX0 tyX0_ok nmX0 X.1.2.2.2.1 hK hP hD hS q0 he rfl 5 (by decide) (va_Nw.use rfl (X.2.1 _ nb16)) (fun _ h9 => h9) rfl (by decide +kernel) (okB_nar hz) (okB_fit hz) hl hdg kk
theorem gf2_46 (X : Cx p m meth c cc nL s args RX2 ret) (hK : va_K G vwCl (tyL cI cZ) s) (hP : va_P G vwCl ws H) (q0 : Nat) (he : ws[q0]? = some (a, .inr (0, fs))) {v : Value} (hv : fs[6]? = some v) (hdg : decode cc pc = .ok (.getfield 46, 3)) (kk : W p l e R s m args below meth c H locs cells slots Q (F0 m (pc + 3) ls (v :: rest))) : W p l e R s m args below meth c H locs cells slots Q (F0 m pc ls (.ref a :: rest)) := va_getN (D := G) (ci := 0) (own := RX2) (C := RX0) (T := TX0) (N := 7) (host := "WhistleBack") X.1.1 X.1.2.1 X.1.2.2.2.2 inX0 X.1.2.2.2.1 hK hP q0 he rfl 6 (by decide) (va_Nw.use rfl (X.2.1 _ nb17)) (fun _ h9 => h9) hv hdg kk
theorem pf2_46 (X : Cx p m meth c cc nL s args RX2 ret) (hK : va_K G vwCl (tyL cI cZ) s) (hP : va_P G vwCl ws H) (hD : va_D A ws) (hS : va_S A H0 H locs) (q0 : Nat) (he : ws[q0]? = some (a, .inr (0, fs))) {x : Int32} (hz : okB x = true) (hl : 6 < fs.length) (hw : ws.set q0 (a, .inr (0, fs.set 6 (.int x))) = ws2) (hdg : decode cc pc = .ok (.putfield 46, 3)) (kk : ∀ (H1 : Heap) (locs1 : List Loc), va_P G vwCl ws2 H1 → va_D A ws2 → va_S A H0 H1 locs1 → W p l e R s m args below meth c H1 locs1 cells slots Q (F0 m (pc + 3) ls rest)) : W p l e R s m args below meth c H locs cells slots Q (F0 m pc ls (.int x :: .ref a :: rest)) := by
  subst hw
  exact va_putN (D := G) (ci := 0) (own := RX2) (C := RX0) (T := TX0) (N := 7) (ty := .boolean) (host := "WhistleBack") X.1.1 X.1.2.1 X.1.2.2.2.2 inX0 tyX0 tyX0_ok nmX0 X.1.2.2.2.1 hK hP hD hS q0 he rfl 6 (by decide) (va_Nw.use rfl (X.2.1 _ nb17)) (fun _ h9 => h9) rfl (by decide +kernel) (okB_nar hz) (okB_fit hz) hl hdg kk
theorem gf5_154 (X : Cx p m meth c cc nL s args RX5 ret) (hK : va_K G vwCl (tyL cI cZ) s) (hP : va_P G vwCl ws H) (q0 : Nat) (he : ws[q0]? = some (a, .inr (0, fs))) {v : Value} (hv : fs[6]? = some v) (hdg : decode cc pc = .ok (.getfield 154, 3)) (kk : W p l e R s m args below meth c H locs cells slots Q (F0 m (pc + 3) ls (v :: rest))) : W p l e R s m args below meth c H locs cells slots Q (F0 m pc ls (.ref a :: rest)) := va_getN (D := G) (ci := 0) (own := RX5) (C := RX0) (T := TX0) (N := 7) (host := "WhistleBack") X.1.1 X.1.2.1 X.1.2.2.2.2 inX0 X.1.2.2.2.1 hK hP q0 he rfl 6 (by decide) (va_Nw.use rfl (X.2.1 _ nb18)) (fun _ h9 => h9) hv hdg kk
theorem pf5_154 (X : Cx p m meth c cc nL s args RX5 ret) (hK : va_K G vwCl (tyL cI cZ) s) (hP : va_P G vwCl ws H) (hD : va_D A ws) (hS : va_S A H0 H locs) (q0 : Nat) (he : ws[q0]? = some (a, .inr (0, fs))) {x : Int32} (hz : okB x = true) (hl : 6 < fs.length) (hw : ws.set q0 (a, .inr (0, fs.set 6 (.int x))) = ws2) (hdg : decode cc pc = .ok (.putfield 154, 3)) (kk : ∀ (H1 : Heap) (locs1 : List Loc), va_P G vwCl ws2 H1 → va_D A ws2 → va_S A H0 H1 locs1 → W p l e R s m args below meth c H1 locs1 cells slots Q (F0 m (pc + 3) ls rest)) : W p l e R s m args below meth c H locs cells slots Q (F0 m pc ls (.int x :: .ref a :: rest)) := by
  subst hw
  exact va_putN (D := G) (ci := 0) (own := RX5) (C := RX0) (T := TX0) (N := 7) (ty := .boolean) (host := "WhistleBack") X.1.1 X.1.2.1 X.1.2.2.2.2 inX0 tyX0 tyX0_ok nmX0 X.1.2.2.2.1 hK hP hD hS q0 he rfl 6 (by decide) (va_Nw.use rfl (X.2.1 _ nb18)) (fun _ h9 => h9) rfl (by decide +kernel) (okB_nar hz) (okB_fit hz) hl hdg kk
theorem gf1_92 (X : Cx p m meth c cc nL s args RX1 ret) (hK : va_K G vwCl (tyL cI cZ) s) (hP : va_P G vwCl ws H) (q0 : Nat) (he : ws[q0]? = some (a, .inr (0, fs))) {v : Value} (hv : fs[6]? = some v) (hdg : decode cc pc = .ok (.getfield 92, 3)) (kk : W p l e R s m args below meth c H locs cells slots Q (F0 m (pc + 3) ls (v :: rest))) : W p l e R s m args below meth c H locs cells slots Q (F0 m pc ls (.ref a :: rest)) := va_getN (D := G) (ci := 0) (own := RX1) (C := RX0) (T := TX0) (N := 7) (host := "WhistleBack") X.1.1 X.1.2.1 X.1.2.2.2.2 inX0 X.1.2.2.2.1 hK hP q0 he rfl 6 (by decide) (va_Nw.use rfl (X.2.1 _ nb19)) (fun _ h9 => h9) hv hdg kk
theorem pf1_92 (X : Cx p m meth c cc nL s args RX1 ret) (hK : va_K G vwCl (tyL cI cZ) s) (hP : va_P G vwCl ws H) (hD : va_D A ws) (hS : va_S A H0 H locs) (q0 : Nat) (he : ws[q0]? = some (a, .inr (0, fs))) {x : Int32} (hz : okB x = true) (hl : 6 < fs.length) (hw : ws.set q0 (a, .inr (0, fs.set 6 (.int x))) = ws2) (hdg : decode cc pc = .ok (.putfield 92, 3)) (kk : ∀ (H1 : Heap) (locs1 : List Loc), va_P G vwCl ws2 H1 → va_D A ws2 → va_S A H0 H1 locs1 → W p l e R s m args below meth c H1 locs1 cells slots Q (F0 m (pc + 3) ls rest)) : W p l e R s m args below meth c H locs cells slots Q (F0 m pc ls (.int x :: .ref a :: rest)) := by
  subst hw
  exact va_putN (D := G) (ci := 0) (own := RX1) (C := RX0) (T := TX0) (N := 7) (ty := .boolean) (host := "WhistleBack") X.1.1 X.1.2.1 X.1.2.2.2.2 inX0 tyX0 tyX0_ok nmX0 X.1.2.2.2.1 hK hP hD hS q0 he rfl 6 (by decide) (va_Nw.use rfl (X.2.1 _ nb19)) (fun _ h9 => h9) rfl (by decide +kernel) (okB_nar hz) (okB_fit hz) hl hdg kk
theorem gf5_230 (X : Cx p m meth c cc nL s args RX5 ret) (hK : va_K G vwCl (tyL cI cZ) s) (hP : va_P G vwCl ws H) (q0 : Nat) (he : ws[q0]? = some (a, .inr (3, fs))) {v : Value} (hv : fs[3]? = some v) (hdg : decode cc pc = .ok (.getfield 230, 3)) (kk : W p l e R s m args below meth c H locs cells slots Q (F0 m (pc + 3) ls (v :: rest))) : W p l e R s m args below meth c H locs cells slots Q (F0 m pc ls (.ref a :: rest)) := va_getN (D := G) (ci := 3) (own := RX5) (C := RX3) (T := TX3) (N := 4) (host := "WhistleBack") X.1.1 X.1.2.1 X.1.2.2.2.2 inX3 X.1.2.2.2.1 hK hP q0 he rfl 3 (by decide) (va_Nw.use rfl (X.2.1 _ nb20)) (fun _ h9 => h9) hv hdg kk
theorem pf5_230 (X : Cx p m meth c cc nL s args RX5 ret) (hK : va_K G vwCl (tyL cI cZ) s) (hP : va_P G vwCl ws H) (hD : va_D A ws) (hS : va_S A H0 H locs) (q0 : Nat) (he : ws[q0]? = some (a, .inr (3, fs))) {x : Int32} (hl : 3 < fs.length) (hw : ws.set q0 (a, .inr (3, fs.set 3 (.int x))) = ws2) (hdg : decode cc pc = .ok (.putfield 230, 3)) (kk : ∀ (H1 : Heap) (locs1 : List Loc), va_P G vwCl ws2 H1 → va_D A ws2 → va_S A H0 H1 locs1 → W p l e R s m args below meth c H1 locs1 cells slots Q (F0 m (pc + 3) ls rest)) : W p l e R s m args below meth c H locs cells slots Q (F0 m pc ls (.int x :: .ref a :: rest)) := by
  subst hw
  exact va_putN (D := G) (ci := 3) (own := RX5) (C := RX3) (T := TX3) (N := 4) (ty := .int) (host := "WhistleBack") X.1.1 X.1.2.1 X.1.2.2.2.2 inX3 tyX3 tyX3_ok nmX3 X.1.2.2.2.1 hK hP hD hS q0 he rfl 3 (by decide) (va_Nw.use rfl (X.2.1 _ nb20)) (fun _ h9 => h9) rfl (by decide +kernel) rfl rfl hl hdg kk
end
end
section
/-! the methods, as pure functions (by program) -/
def f0_startAnew (v1 : Int32) (v2 : Int32) : Option (Int32 × Int32 × Int32 × Int32 × Int32 × Int32) := some (v1, v2, (iI (-9)), (iI 0), (iI 0), (iI 0))
def f0_strengthOf (v1 : Int32) (st : Nat → Int32) : Option Int32 := (if v1 < 0 then some (iI 0) else (if (Int32.ofNat 4) ≤ v1 then some (iI 0) else (if ib v1 4 = true then some (st v1.toNatClampNeg) else none)))
def l0_copyFrom_2 (k : Int32 → (Nat → Int32) → Option ((Nat → Int32) × Int32 × Int32 × Int32 × Int32 × Int32 × Int32)) (ost : Nat → Int32) : Nat → Int32 → (Nat → Int32) → Option ((Nat → Int32) × Int32 × Int32 × Int32 × Int32 × Int32 × Int32)
  | 0, _, _ => none
  | n + 1, v2, st => (if (Int32.ofNat 4) ≤ v2 then (k v2 st) else ((f0_strengthOf v2 ost).bind fun u2 => (if ib v2 4 = true then (l0_copyFrom_2 k ost n (v2 + (iI 1)) (upd st v2.toNatClampNeg u2)) else none)))
def f0_copyFrom (st : Nat → Int32) (ost : Nat → Int32) (och : Int32) (oya : Int32) (oow : Int32) (oca : Int32) (ohu : Int32) (ole : Int32) : Option ((Nat → Int32) × Int32 × Int32 × Int32 × Int32 × Int32 × Int32) := (l0_copyFrom_2 (fun v2 st => (if okB ohu = true then (if okB ole = true then some (st, och, oya, oow, oca, ohu, ole) else none) else none)) ost FU (iI 0) st)
def f0_setStrength (v1 : Int32) (v2 : Int32) (st : Nat → Int32) : Option (Nat → Int32) := (if v1 < 0 then some st else (if (Int32.ofNat 4) ≤ v1 then some st else (if ib v1 4 = true then some (upd st v1.toNatClampNeg v2) else none)))
def f0_addStrength (v1 : Int32) (v2 : Int32) (st : Nat → Int32) : Option (Nat → Int32) := ((f0_strengthOf v1 st).bind fun u1 => ((f0_setStrength v1 (mxI (iI 0) (mnI (iI 9) (u1 + v2))) st).bind fun u2 => some u2))
def f0_runOff (v1 : Int32) (ya : Int32) : Option (Int32 × Int32) := some ((mnI (iI 9) (ya + v1)), (iI (-9)))
def f0_canBePaid (ch : Int32) (ow : Int32) : Option Int32 := (if ow = (iI (-9)) then some (iI 0) else (if ch ≤ 0 then some (iI 0) else some (iI 1)))
def f0_bePaid (st : Nat → Int32) (ch : Int32) (ow : Int32) : Option ((Nat → Int32) × Int32 × Int32) := ((f0_addStrength ow (iI 1) st).bind fun u1 => some (u1, (ch - (iI 1)), (iI (-9))))
def f0_canBeLed (ya : Int32) (le : Int32) : Option Int32 := (if le = 0 then (if ya = 0 then some (iI 1) else some (iI 0)) else some (iI 1))
def f1_clear : Option (Int32 × Int32) := some ((iI 0), (iI 0))
def f1_addWord (v1 : Int32) (ki : Nat → Int32) (wo : Int32) : Option ((Nat → Int32) × Int32) := (if wo < 0 then some (ki, wo) else (if wo < (Int32.ofNat 4) then (if ib wo 4 = true then some ((upd ki wo.toNatClampNeg v1), (wo + (iI 1))) else none) else some (ki, wo)))
def f1_addThing (v1 : Int32) (v2 : Int32) (sp : Nat → Int32) (tu : Nat → Int32) (th : Int32) : Option ((Nat → Int32) × (Nat → Int32) × Int32) := (if th < 0 then some (sp, tu, th) else (if (Int32.ofNat 4) ≤ th then some (sp, tu, th) else (if th < (Int32.ofNat 4) then (if ib th 4 = true then (if ib th 4 = true then some ((upd sp th.toNatClampNeg v1), (upd tu th.toNatClampNeg v2), (th + (iI 1))) else none) else none) else some (sp, tu, th))))
def f1_hasWord (v1 : Int32) (wo : Int32) : Option Int32 := (if v1 < 0 then some (iI 0) else (if wo ≤ v1 then some (iI 0) else some (iI 1)))
def f1_hasThing (v1 : Int32) (th : Int32) : Option Int32 := (if v1 < 0 then some (iI 0) else (if th ≤ v1 then some (iI 0) else some (iI 1)))
def f1_kindOf (v1 : Int32) (ki : Nat → Int32) : Option Int32 := (if v1 < 0 then some (iI 0) else (if (Int32.ofNat 4) ≤ v1 then some (iI 0) else (if ib v1 4 = true then some (ki v1.toNatClampNeg) else none)))
def f1_spotOf (v1 : Int32) (sp : Nat → Int32) : Option Int32 := (if v1 < 0 then some (iI 0) else (if (Int32.ofNat 4) ≤ v1 then some (iI 0) else (if ib v1 4 = true then some (sp v1.toNatClampNeg) else none)))
def f1_tugOf (v1 : Int32) (tu : Nat → Int32) : Option Int32 := (if v1 < 0 then some (iI 0) else (if (Int32.ofNat 4) ≤ v1 then some (iI 0) else (if ib v1 4 = true then some (tu v1.toNatClampNeg) else none)))
def l1_pullAt_5 (k : Int32 → Int32 → Option Int32) (v1 : Int32) (v2 : Int32) (sp : Nat → Int32) (tu : Nat → Int32) (th : Int32) : Nat → Int32 → Int32 → Option Int32
  | 0, _, _ => none
  | n + 1, v3, v4 => (if th ≤ v4 then (k v3 v4) else (if ((v2 >>> (v4 &&& 31)) &&& (iI 1)) = 0 then (l1_pullAt_5 k v1 v2 sp tu th n v3 (v4 + (iI 1))) else ((f1_tugOf v4 tu).bind fun u3 => ((f1_spotOf v4 sp).bind fun u4 => (l1_pullAt_5 k v1 v2 sp tu th n (mxI v3 (u3 - (abI (u4 - v1)))) (v4 + (iI 1)))))))
def f1_pullAt (v1 : Int32) (v2 : Int32) (sp : Nat → Int32) (tu : Nat → Int32) (th : Int32) : Option Int32 := (l1_pullAt_5 (fun v3 v4 => some v3) v1 v2 sp tu th FU (iI 0) (iI 0))
def f1_powerWith (v1 : Int32) (v2 : Int32) (v3 : Int32) (v4 : Int32) (ki : Nat → Int32) : Option Int32 := ((f1_kindOf v2 ki).bind fun u1 => (if u1 = (iI 1) then (if v3 = 0 then some ((v1 + (iI 0)) - (v4 / (iI 4))) else some ((v1 + (iI 1)) - (v4 / (iI 4)))) else (if v3 = 0 then some ((v1 + (iI 0)) - (v4 / (iI 2))) else some ((v1 + (iI 1)) - (v4 / (iI 2))))))
def f1_powerOf (v2 : Int32) (v3 : Int32) (ki : Nat → Int32) (st : Nat → Int32) (hu : Int32) : Option Int32 := ((f0_strengthOf v2 st).bind fun u1 => ((f1_powerWith u1 v2 hu v3 ki).bind fun u2 => some u2))
def f1_isEnough (v1 : Int32) (v2 : Int32) (v3 : Int32) (sp : Nat → Int32) (tu : Nat → Int32) (th : Int32) : Option Int32 := (if v1 < (iI 1) then some (iI 0) else ((f1_pullAt v2 v3 sp tu th).bind fun u1 => (if v1 < u1 then some (iI 0) else some (iI 1))))
def f1_brings (v2 : Int32) (v3 : Int32) (ki : Nat → Int32) (sp : Nat → Int32) (tu : Nat → Int32) (th : Int32) (st : Nat → Int32) (hu : Int32) : Option Int32 := ((f1_powerOf v2 v3 ki st hu).bind fun u1 => ((f1_isEnough u1 v3 (iI 15) sp tu th).bind fun u2 => if okB u2 = true then (some u2) else none))
def f1_callHim (v2 : Int32) (ki : Nat → Int32) (sp : Nat → Int32) (tu : Nat → Int32) (th : Int32) (st : Nat → Int32) (ya : Int32) (ca : Int32) (hu : Int32) : Option (Int32 × (Nat → Int32) × Int32 × Int32 × Int32) := ((f1_brings v2 ya ki sp tu th st hu).bind fun u1 => (if u1 = 0 then ((f1_kindOf v2 ki).bind fun u2 => (if u2 = (iI 2) then ((f0_addStrength v2 (iI (-2)) st).bind fun u5 => ((f0_runOff (iI 1) ya).bind fun u6 => if okB u1 = true then (some (u1, u5, u6.1, u6.2, (ca + (iI 1)))) else none)) else ((f0_addStrength v2 (iI (-1)) st).bind fun u3 => ((f0_runOff (iI 1) ya).bind fun u4 => if okB u1 = true then (some (u1, u3, u4.1, u4.2, (ca + (iI 1)))) else none)))) else if okB u1 = true then (some (u1, st, (iI 0), v2, (ca + (iI 1)))) else none))
def f1_leash (ki : Nat → Int32) (st : Nat → Int32) (ow : Int32) (le : Int32) : Option ((Nat → Int32) × Int32 × Int32) := (if le = 0 then (if ow = (iI (-9)) then (if le = 0 then some (st, ow, (iI 1)) else some (st, ow, (iI 0))) else ((f1_kindOf ow ki).bind fun u1 => (if u1 = (iI 3) then ((f0_addStrength ow (iI (-1)) st).bind fun u3 => (if le = 0 then some (u3, (iI (-9)), (iI 1)) else some (u3, (iI (-9)), (iI 0)))) else ((f0_addStrength ow (iI (-2)) st).bind fun u2 => (if le = 0 then some (u2, (iI (-9)), (iI 1)) else some (u2, (iI (-9)), (iI 0))))))) else (if le = 0 then some (st, ow, (iI 1)) else some (st, ow, (iI 0))))
def f2_numberAt (nN : Nat) (v1 : Int32) (nu : Nat → Int32) : Option Int32 := (if v1 < 0 then some (iI 0) else (if (Int32.ofNat nN) ≤ v1 then some (iI 0) else (if ib v1 nN = true then some (nu v1.toNatClampNeg) else none)))
def f2_setNumber (nN : Nat) (v1 : Int32) (v2 : Int32) (nu : Nat → Int32) : Option (Nat → Int32) := (if v1 < 0 then some nu else (if (Int32.ofNat nN) ≤ v1 then some nu else (if ib v1 nN = true then some (upd nu v1.toNatClampNeg v2) else none)))
def f5_asNumber (v0 : Int32) : Option Int32 := (if v0 = 0 then some (iI 0) else some (iI 1))
def l2_put_8 (k : Int32 → (Nat → Int32) → Option (Nat → Int32)) (v3 : Int32) (st : Nat → Int32) (nN : Nat) : Nat → Int32 → (Nat → Int32) → Option (Nat → Int32)
  | 0, _, _ => none
  | n + 1, v4, nu => (if (iI 4) ≤ v4 then (k v4 nu) else ((f0_strengthOf v4 st).bind fun u3 => ((f2_setNumber nN (v3 + v4) u3 nu).bind fun u4 => (l2_put_8 k v3 st nN n (v4 + (iI 1)) u4))))
def f2_put (nN : Nat) (v1 : Int32) (nu : Nat → Int32) (st : Nat → Int32) (ch : Int32) (ya : Int32) (ow : Int32) (ca : Int32) (hu : Int32) (le : Int32) : Option (Nat → Int32) := (l2_put_8 (fun v4 nu => ((f2_setNumber nN ((v1 * (iI 10)) + (iI 4)) ch nu).bind fun u5 => ((f2_setNumber nN (((v1 * (iI 10)) + (iI 4)) + (iI 1)) ya u5).bind fun u6 => ((f2_setNumber nN (((v1 * (iI 10)) + (iI 4)) + (iI 2)) ow u6).bind fun u7 => ((f2_setNumber nN (((v1 * (iI 10)) + (iI 4)) + (iI 3)) ca u7).bind fun u8 => ((f5_asNumber hu).bind fun u9 => ((f2_setNumber nN (((v1 * (iI 10)) + (iI 4)) + (iI 4)) u9 u8).bind fun u10 => ((f5_asNumber le).bind fun u11 => ((f2_setNumber nN (((v1 * (iI 10)) + (iI 4)) + (iI 5)) u11 u10).bind fun u12 => some u12))))))))) (v1 * (iI 10)) st nN FU (iI 0) nu)
def l2_take_8 (k : Int32 → (Nat → Int32) → Option ((Nat → Int32) × Int32 × Int32 × Int32 × Int32 × Int32 × Int32)) (v3 : Int32) (nu : Nat → Int32) (nN : Nat) : Nat → Int32 → (Nat → Int32) → Option ((Nat → Int32) × Int32 × Int32 × Int32 × Int32 × Int32 × Int32)
  | 0, _, _ => none
  | n + 1, v4, st => (if (iI 4) ≤ v4 then (k v4 st) else ((f2_numberAt nN (v3 + v4) nu).bind fun u3 => ((f0_setStrength v4 u3 st).bind fun u4 => (l2_take_8 k v3 nu nN n (v4 + (iI 1)) u4))))
def f2_take (nN : Nat) (v1 : Int32) (nu : Nat → Int32) (st : Nat → Int32) : Option ((Nat → Int32) × Int32 × Int32 × Int32 × Int32 × Int32 × Int32) := (l2_take_8 (fun v4 st => ((f2_numberAt nN ((v1 * (iI 10)) + (iI 4)) nu).bind fun u5 => ((f2_numberAt nN (((v1 * (iI 10)) + (iI 4)) + (iI 1)) nu).bind fun u6 => ((f2_numberAt nN (((v1 * (iI 10)) + (iI 4)) + (iI 2)) nu).bind fun u7 => ((f2_numberAt nN (((v1 * (iI 10)) + (iI 4)) + (iI 3)) nu).bind fun u8 => ((f2_numberAt nN (((v1 * (iI 10)) + (iI 4)) + (iI 4)) nu).bind fun u9 => (if u9 = (iI 1) then ((f2_numberAt nN (((v1 * (iI 10)) + (iI 4)) + (iI 5)) nu).bind fun u11 => (if u11 = (iI 1) then some (st, u5, u6, u7, u8, (iI 1), (iI 1)) else some (st, u5, u6, u7, u8, (iI 1), (iI 0)))) else ((f2_numberAt nN (((v1 * (iI 10)) + (iI 4)) + (iI 5)) nu).bind fun u10 => (if u10 = (iI 1) then some (st, u5, u6, u7, u8, (iI 0), (iI 1)) else some (st, u5, u6, u7, u8, (iI 0), (iI 0))))))))))) (v1 * (iI 10)) nu nN FU (iI 0) st)
def l2_dropFirst_3 (k : Int32 → (Nat → Int32) → Option (Nat → Int32)) (nN : Nat) : Nat → Int32 → (Nat → Int32) → Option (Nat → Int32)
  | 0, _, _ => none
  | n + 1, v1, nu => (if (Int32.ofNat nN) ≤ v1 then (k v1 nu) else (if ib v1 nN = true then ((f2_setNumber nN (v1 - (iI 10)) (nu v1.toNatClampNeg) nu).bind fun u2 => (l2_dropFirst_3 k nN n (v1 + (iI 1)) u2)) else none))
def f2_dropFirst (nN : Nat) (nu : Nat → Int32) : Option (Nat → Int32) := (l2_dropFirst_3 (fun v1 nu => some nu) nN FU (iI 10) nu)
def f3_isFull (ss : Int32) : Option Int32 := (if ss < (Int32.ofNat 6) then some (iI 0) else some (iI 1))
def f3_holds (v1 : Int32) : Option Int32 := (if v1 < 0 then some (iI 0) else (if (Int32.ofNat 6) ≤ v1 then some (iI 0) else (if (Int32.ofNat 6) ≤ v1 then some (iI 0) else (if (Int32.ofNat 6) ≤ v1 then some (iI 0) else some (iI 1)))))
def f3_add (v1 : Int32) (v2 : Int32) (v3 : Int32) (so : Nat → Int32) (sf : Nat → Int32) (sc : Nat → Int32) (ss : Int32) : Option ((Nat → Int32) × (Nat → Int32) × (Nat → Int32) × Int32) := ((f3_holds ss).bind fun u1 => (if u1 = 0 then some (so, sf, sc, ss) else (if ib ss 6 = true then (if ib ss 6 = true then (if ib ss 6 = true then some ((upd so ss.toNatClampNeg v1), (upd sf ss.toNatClampNeg v2), (upd sc ss.toNatClampNeg (vp_nar .boolean v3)), (ss + (iI 1))) else none) else none) else none)))
def l3_agree_3 (k : Int32 → Option Int32) (v2 : Int32) (v3 : Int32) (v4 : Int32) (so : Nat → Int32) (sf : Nat → Int32) (sc : Nat → Int32) (ss : Int32) (ki : Nat → Int32) (sp : Nat → Int32) (tu : Nat → Int32) (th : Int32) : Nat → Int32 → Option Int32
  | 0, _ => none
  | n + 1, v5 => (if ss ≤ v5 then (k v5) else ((f3_holds v5).bind fun u4 => (if u4 = 0 then (k v5) else (if ib v5 6 = true then (if (so v5.toNatClampNeg) = v2 then (if ib v5 6 = true then ((f1_powerWith v3 v2 v4 (sf v5.toNatClampNeg) ki).bind fun u5 => (if ib v5 6 = true then ((f1_isEnough u5 (sf v5.toNatClampNeg) (iI 15) sp tu th).bind fun u6 => (if ib v5 6 = true then (if u6 = (sc v5.toNatClampNeg) then (l3_agree_3 k v2 v3 v4 so sf sc ss ki sp tu th n (v5 + (iI 1))) else some (iI 0)) else none)) else none)) else none) else (l3_agree_3 k v2 v3 v4 so sf sc ss ki sp tu th n (v5 + (iI 1)))) else none))))
def f3_agree (v2 : Int32) (v3 : Int32) (v4 : Int32) (so : Nat → Int32) (sf : Nat → Int32) (sc : Nat → Int32) (ss : Int32) (ki : Nat → Int32) (sp : Nat → Int32) (tu : Nat → Int32) (th : Int32) : Option Int32 := (l3_agree_3 (fun v5 => some (iI 1)) v2 v3 v4 so sf sc ss ki sp tu th FU (iI 0))
def f4_isFull (ln : Int32) : Option Int32 := (if ln < (Int32.ofNat 36) then some (iI 0) else some (iI 1))
def f4_append (v1 : Int32) (lt : Nat → Int32) (ln : Int32) : Option ((Nat → Int32) × Int32) := (if ln < 0 then some (lt, ln) else (if ln < (Int32.ofNat 36) then (if ib ln 36 = true then some ((upd lt ln.toNatClampNeg v1), (ln + (iI 1))) else none) else some (lt, ln)))
def f4_letterAt (v1 : Int32) (lt : Nat → Int32) : Option Int32 := (if v1 < 0 then some (iI 0) else (if (Int32.ofNat 36) ≤ v1 then some (iI 0) else (if ib v1 36 = true then some (lt v1.toNatClampNeg) else none)))
def f4_figureAt (v1 : Int32) (lt : Nat → Int32) : Option Int32 := ((f4_letterAt v1 lt).bind fun u1 => some (u1 - (iI 48)))
def f4_endsPart (v1 : Int32) (v2 : Int32) : Option Int32 := (if v1 = (iI 87) then (if v2 < (iI 48) then some (iI 0) else (if (iI 51) < v2 then some (iI 0) else some (iI 1))) else (if v1 = (iI 84) then (if v2 < (iI 49) then some (iI 0) else (if (iI 57) < v2 then some (iI 0) else some (iI 1))) else (if v2 < (iI 48) then some (iI 0) else (if (iI 57) < v2 then some (iI 0) else some (iI 1)))))
def f4_fits (v1 : Int32) (v2 : Int32) (v3 : Int32) (lt : Nat → Int32) : Option Int32 := ((f4_letterAt v1 lt).bind fun u1 => (if v1 = 0 then (if u1 = (iI 68) then some (iI 1) else some (iI 0)) else (if (v1 - v1 / (iI 3) * (iI 3)) = (iI 0) then (if u1 = (iI 87) then (if v2 < (iI 4) then some (iI 1) else (if u1 = (iI 84) then (if (iI 4) ≤ v3 then some (iI 0) else some (iI 1)) else some (iI 0))) else (if u1 = (iI 84) then (if (iI 4) ≤ v3 then some (iI 0) else some (iI 1)) else some (iI 0))) else (if (v1 - v1 / (iI 3) * (iI 3)) = (iI 1) then (if u1 < (iI 48) then some (iI 0) else (if (iI 57) < u1 then some (iI 0) else some (iI 1))) else ((f4_letterAt (v1 - (iI 2)) lt).bind fun u2 => ((f4_endsPart u2 u1).bind fun u3 => if okB u3 = true then (some u3) else none))))))
def l4_firstFault_6 (k : Int32 → Int32 → Int32 → Option Int32) (lt : Nat → Int32) (ln : Int32) : Nat → Int32 → Int32 → Int32 → Option Int32
  | 0, _, _, _ => none
  | n + 1, v1, v2, v3 => (if ln ≤ v3 then (k v1 v2 v3) else ((f4_fits v3 v1 v2 lt).bind fun u5 => (if u5 = 0 then some v3 else ((f4_letterAt v3 lt).bind fun u6 => (if u6 = (iI 87) then ((f4_letterAt v3 lt).bind fun u8 => (if u8 = (iI 84) then (l4_firstFault_6 k lt ln n (v1 + (iI 1)) (v2 + (iI 1)) (v3 + (iI 1))) else (l4_firstFault_6 k lt ln n (v1 + (iI 1)) v2 (v3 + (iI 1))))) else ((f4_letterAt v3 lt).bind fun u7 => (if u7 = (iI 84) then (l4_firstFault_6 k lt ln n v1 (v2 + (iI 1)) (v3 + (iI 1))) else (l4_firstFault_6 k lt ln n v1 v2 (v3 + (iI 1))))))))))
def f4_firstFault (lt : Nat → Int32) (ln : Int32) : Option Int32 := (l4_firstFault_6 (fun v1 v2 v3 => (if ln = 0 then some ln else (if (ln - ln / (iI 3) * (iI 3)) = 0 then some (iI (-9)) else some ln))) lt ln FU (iI 0) (iI 0) (iI 0))
def f5_write (v1 : Int32) (lt : Nat → Int32) (ln : Int32) : Option (Int32 × (Nat → Int32) × Int32) := (if v1 < 0 then some ((iI (-2)), lt, ln) else (if v1 ≤ (iI 255) then ((f4_isFull ln).bind fun u1 => (if u1 = 0 then ((f4_append v1 lt ln).bind fun u2 => some (u2.2, u2.1, u2.2)) else some ((iI (-4)), lt, ln))) else some ((iI (-2)), lt, ln)))
def f5_wipe (ln : Int32) : Option (Int32 × Int32) := some (ln, (iI 0))
def f5_fault (lt : Nat → Int32) (ln : Int32) : Option Int32 := ((f4_firstFault lt ln).bind fun u1 => some u1)
def f5_tellPart (v1 : Int32) (v2 : Int32) (v3 : Int32) (ki : Nat → Int32) (sp : Nat → Int32) (tu : Nat → Int32) (wo : Int32) (th : Int32) (st : Nat → Int32) : Option ((Nat → Int32) × (Nat → Int32) × (Nat → Int32) × Int32 × Int32 × (Nat → Int32)) := (if v1 = (iI 87) then ((f0_setStrength wo v2 st).bind fun u2 => ((f1_addWord v3 ki wo).bind fun u3 => some (u3.1, sp, tu, u3.2, th, u2))) else ((f1_addThing v2 v3 sp tu th).bind fun u1 => some (ki, u1.1, u1.2.1, wo, u1.2.2, st)))
def l5_walk_47 (k : Int32 → (Nat → Int32) → (Nat → Int32) → (Nat → Int32) → Int32 → Int32 → (Nat → Int32) → Option (Int32 × (Nat → Int32) × (Nat → Int32) × (Nat → Int32) × Int32 × Int32 × (Nat → Int32) × Int32 × Int32 × Int32 × Int32 × Int32 × Int32 × (Nat → Int32) × Int32)) (lt : Nat → Int32) (ln : Int32) : Nat → Int32 → (Nat → Int32) → (Nat → Int32) → (Nat → Int32) → Int32 → Int32 → (Nat → Int32) → Option (Int32 × (Nat → Int32) × (Nat → Int32) × (Nat → Int32) × Int32 × Int32 × (Nat → Int32) × Int32 × Int32 × Int32 × Int32 × Int32 × Int32 × (Nat → Int32) × Int32)
  | 0, _, _, _, _, _, _, _ => none
  | n + 1, v1, ki, sp, tu, wo, th, st => (if ln ≤ v1 then (k v1 ki sp tu wo th st) else ((f4_letterAt v1 lt).bind fun u10 => ((f4_figureAt (v1 + (iI 1)) lt).bind fun u11 => ((f4_figureAt (v1 + (iI 2)) lt).bind fun u12 => ((f5_tellPart u10 u11 u12 ki sp tu wo th st).bind fun u13 => (l5_walk_47 k lt ln n (v1 + (iI 3)) u13.1 u13.2.1 u13.2.2.1 u13.2.2.2.1 u13.2.2.2.2.1 u13.2.2.2.2.2))))))
def l5_walk_103 (k : Int32 → (Nat → Int32) → Option (Int32 × (Nat → Int32) × (Nat → Int32) × (Nat → Int32) × Int32 × Int32 × (Nat → Int32) × Int32 × Int32 × Int32 × Int32 × Int32 × Int32 × (Nat → Int32) × Int32)) : Nat → Int32 → (Nat → Int32) → Option (Int32 × (Nat → Int32) × (Nat → Int32) × (Nat → Int32) × Int32 × Int32 × (Nat → Int32) × Int32 × Int32 × Int32 × Int32 × Int32 × Int32 × (Nat → Int32) × Int32)
  | 0, _, _ => none
  | n + 1, v1, kp => (if (Int32.ofNat 2) ≤ v1 then (k v1 kp) else (if ib v1 2 = true then (l5_walk_103 k n (v1 + (iI 1)) (upd kp v1.toNatClampNeg (vp_nar .boolean (iI 0)))) else none))
def f5_walk (lt : Nat → Int32) (ln : Int32) (ki : Nat → Int32) (sp : Nat → Int32) (tu : Nat → Int32) (wo : Int32) (th : Int32) (st : Nat → Int32) (ch : Int32) (ya : Int32) (ow : Int32) (ca : Int32) (hu : Int32) (le : Int32) (kp : Nat → Int32) (ai : Int32) : Option (Int32 × (Nat → Int32) × (Nat → Int32) × (Nat → Int32) × Int32 × Int32 × (Nat → Int32) × Int32 × Int32 × Int32 × Int32 × Int32 × Int32 × (Nat → Int32) × Int32) := ((f4_firstFault lt ln).bind fun u1 => (if u1 = (iI (-9)) then ((f4_figureAt (iI 1) lt).bind fun u2 => ((f4_figureAt (iI 2) lt).bind fun u3 => ((f0_startAnew u2 u3).bind fun u4 => ((f1_clear).bind fun u5 => (l5_walk_47 (fun v1 ki sp tu wo th st => (l5_walk_103 (fun v1 kp => some ((((iI 10) * wo) + th), ki, sp, tu, wo, th, st, u4.1, u4.2.1, u4.2.2.1, u4.2.2.2.1, u4.2.2.2.2.1, u4.2.2.2.2.2, kp, (iI 0))) FU (iI 0) kp)) lt ln FU (iI 3) ki sp tu u5.1 u5.2 st))))) else some ((iI (-3)), ki, sp, tu, wo, th, st, ch, ya, ow, ca, hu, le, kp, ai)))
def l5_farOf_3 (k : Int32 → Option Int32) (v1 : Int32) (ki : Nat → Int32) (sp : Nat → Int32) (tu : Nat → Int32) (th : Int32) (st : Nat → Int32) (hu : Int32) : Nat → Int32 → Option Int32
  | 0, _ => none
  | n + 1, v2 => (if v2 < 0 then (k v2) else ((f1_brings v1 v2 ki sp tu th st hu).bind fun u2 => (if u2 = 0 then (l5_farOf_3 k v1 ki sp tu th st hu n (v2 + (iI (-1)))) else some v2)))
def f5_farOf (v1 : Int32) (ki : Nat → Int32) (sp : Nat → Int32) (tu : Nat → Int32) (th : Int32) (st : Nat → Int32) (hu : Int32) : Option Int32 := (l5_farOf_3 (fun v2 => some (iI (-9))) v1 ki sp tu th st hu FU (iI 9))
def f5_spentOf (v1 : Int32) (ki : Nat → Int32) (st : Nat → Int32) : Option Int32 := ((f0_strengthOf v1 st).bind fun u1 => ((f1_kindOf v1 ki).bind fun u2 => (if u2 = (iI 2) then some ((u1 + (iI 1)) / (iI 2)) else some u1)))
def f5_word (v1 : Int32) (v2 : Int32) (ki : Nat → Int32) (sp : Nat → Int32) (tu : Nat → Int32) (wo : Int32) (th : Int32) (st : Nat → Int32) (ya : Int32) (hu : Int32) : Option Int32 := ((f1_hasWord v1 wo).bind fun u1 => (if u1 = 0 then some (iI (-1)) else (if v2 = (iI 0) then ((f0_strengthOf v1 st).bind fun u8 => some u8) else (if v2 = (iI 1) then ((f1_kindOf v1 ki).bind fun u7 => some u7) else (if v2 = (iI 2) then ((f1_powerOf v1 ya ki st hu).bind fun u6 => some u6) else (if v2 = (iI 3) then ((f1_brings v1 ya ki sp tu th st hu).bind fun u4 => ((f5_asNumber u4).bind fun u5 => some u5)) else (if v2 = (iI 4) then ((f5_farOf v1 ki sp tu th st hu).bind fun u3 => some u3) else (if v2 = (iI 5) then ((f5_spentOf v1 ki st).bind fun u2 => some u2) else some (iI (-2))))))))))
def f5_thing (v1 : Int32) (v2 : Int32) (sp : Nat → Int32) (tu : Nat → Int32) (th : Int32) : Option Int32 := ((f1_hasThing v1 th).bind fun u1 => (if u1 = 0 then some (iI (-1)) else (if v2 = (iI 0) then ((f1_spotOf v1 sp).bind fun u3 => some u3) else (if v2 = (iI 1) then ((f1_tugOf v1 tu).bind fun u2 => some u2) else some (iI (-2))))))
def f5_isNoYard (v0 : Int32) : Option Int32 := (if v0 < 0 then some (iI 1) else (if v0 ≤ (iI 9) then some (iI 0) else some (iI 1)))
def f5_pull (v1 : Int32) (sp : Nat → Int32) (tu : Nat → Int32) (th : Int32) : Option Int32 := ((f5_isNoYard v1).bind fun u1 => (if u1 = 0 then ((f1_pullAt v1 (iI 15) sp tu th).bind fun u2 => some u2) else some (iI (-2))))
def f5_remember (st : Nat → Int32) (ch : Int32) (ya : Int32) (ow : Int32) (ca : Int32) (hu : Int32) (le : Int32) (an : Nat → Int32) (ai : Int32) : Option ((Nat → Int32) × Int32) := (if ai < (iI 14) then ((f2_put 140 ai an st ch ya ow ca hu le).bind fun u1 => some (u1, (ai + (iI 1)))) else ((f2_dropFirst 140 an).bind fun u2 => ((f2_put 140 (iI 13) u2 st ch ya ow ca hu le).bind fun u3 => some (u3, ((iI 13) + (iI 1))))))
def f5_call (v1 : Int32) (ki : Nat → Int32) (sp : Nat → Int32) (tu : Nat → Int32) (wo : Int32) (th : Int32) (st : Nat → Int32) (ch : Int32) (ya : Int32) (ow : Int32) (ca : Int32) (hu : Int32) (le : Int32) (an : Nat → Int32) (ai : Int32) : Option (Int32 × (Nat → Int32) × Int32 × Int32 × Int32 × (Nat → Int32) × Int32) := ((f1_hasWord v1 wo).bind fun u1 => (if u1 = 0 then some ((iI (-1)), st, ya, ow, ca, an, ai) else (if le = 0 then ((f5_remember st ch ya ow ca hu le an ai).bind fun u2 => ((f1_callHim v1 ki sp tu th st ya ca hu).bind fun u3 => ((f5_asNumber u3.1).bind fun u4 => some (u4, u3.2.1, u3.2.2.1, u3.2.2.2.1, u3.2.2.2.2, u2.1, u2.2)))) else some ((iI (-3)), st, ya, ow, ca, an, ai))))
def f5_pay (st : Nat → Int32) (ch : Int32) (ya : Int32) (ow : Int32) (ca : Int32) (hu : Int32) (le : Int32) (an : Nat → Int32) (ai : Int32) : Option (Int32 × (Nat → Int32) × Int32 × Int32 × (Nat → Int32) × Int32) := ((f0_canBePaid ch ow).bind fun u1 => (if u1 = 0 then some ((iI (-3)), st, ch, ow, an, ai) else ((f5_remember st ch ya ow ca hu le an ai).bind fun u2 => ((f0_bePaid st ch ow).bind fun u3 => ((f0_strengthOf ow u3.1).bind fun u4 => some (u4, u3.1, u3.2.1, u3.2.2, u2.1, u2.2))))))
def f5_run (v1 : Int32) (st : Nat → Int32) (ch : Int32) (ya : Int32) (ow : Int32) (ca : Int32) (hu : Int32) (le : Int32) (an : Nat → Int32) (ai : Int32) : Option (Int32 × Int32 × Int32 × (Nat → Int32) × Int32) := (if v1 < (iI 1) then some ((iI (-2)), ya, ow, an, ai) else (if v1 ≤ (iI 9) then (if le = 0 then ((f5_remember st ch ya ow ca hu le an ai).bind fun u1 => ((f0_runOff v1 ya).bind fun u2 => some (u2.1, u2.1, u2.2, u1.1, u1.2))) else some ((iI (-3)), ya, ow, an, ai)) else some ((iI (-2)), ya, ow, an, ai)))
def f5_lead (ki : Nat → Int32) (st : Nat → Int32) (ch : Int32) (ya : Int32) (ow : Int32) (ca : Int32) (hu : Int32) (le : Int32) (an : Nat → Int32) (ai : Int32) : Option (Int32 × (Nat → Int32) × Int32 × Int32 × (Nat → Int32) × Int32) := ((f0_canBeLed ya le).bind fun u1 => (if u1 = 0 then some ((iI (-3)), st, ow, le, an, ai) else ((f5_remember st ch ya ow ca hu le an ai).bind fun u2 => ((f1_leash ki st ow le).bind fun u3 => ((f5_asNumber u3.2.2).bind fun u4 => some (u4, u3.1, u3.2.1, u3.2.2, u2.1, u2.2))))))
def f5_hunger (st : Nat → Int32) (ch : Int32) (ya : Int32) (ow : Int32) (ca : Int32) (hu : Int32) (le : Int32) (an : Nat → Int32) (ai : Int32) : Option (Int32 × Int32 × (Nat → Int32) × Int32) := ((f5_remember st ch ya ow ca hu le an ai).bind fun u1 => (if hu = 0 then ((f5_asNumber (iI 1)).bind fun u3 => some (u3, (iI 1), u1.1, u1.2)) else ((f5_asNumber (iI 0)).bind fun u2 => some (u2, (iI 0), u1.1, u1.2))))
def f5_undo (st : Nat → Int32) (ch : Int32) (ya : Int32) (ow : Int32) (ca : Int32) (hu : Int32) (le : Int32) (an : Nat → Int32) (ai : Int32) : Option (Int32 × (Nat → Int32) × Int32 × Int32 × Int32 × Int32 × Int32 × Int32 × Int32) := (if (iI 1) ≤ ai then ((f2_take 140 (ai - (iI 1)) an st).bind fun u1 => some ((ai - (iI 1)), u1.1, u1.2.1, u1.2.2.1, u1.2.2.2.1, u1.2.2.2.2.1, u1.2.2.2.2.2.1, u1.2.2.2.2.2.2, (ai - (iI 1)))) else some ((iI (-3)), st, ch, ya, ow, ca, hu, le, ai))
def f5_comes (v1 : Int32) (v2 : Int32) (ki : Nat → Int32) (sp : Nat → Int32) (tu : Nat → Int32) (wo : Int32) (th : Int32) (st : Nat → Int32) (hu : Int32) : Option Int32 := ((f1_hasWord v1 wo).bind fun u1 => (if u1 = 0 then some (iI (-1)) else ((f5_isNoYard v2).bind fun u2 => (if u2 = 0 then ((f1_brings v1 v2 ki sp tu th st hu).bind fun u3 => ((f5_asNumber u3).bind fun u4 => some u4)) else some (iI (-2))))))
def l5_best_18 (k : Int32 → Int32 → Int32 → Option Int32) (v1 : Int32) (ki : Nat → Int32) (sp : Nat → Int32) (tu : Nat → Int32) (wo : Int32) (th : Int32) (st : Nat → Int32) (hu : Int32) : Nat → Int32 → Int32 → Int32 → Option Int32
  | 0, _, _, _ => none
  | n + 1, v2, v3, v4 => (if wo ≤ v4 then (k v2 v3 v4) else ((f1_powerOf v4 v1 ki st hu).bind fun u4 => ((f1_brings v4 v1 ki sp tu th st hu).bind fun u5 => (if u5 = 0 then (l5_best_18 k v1 ki sp tu wo th st hu n v2 v3 (v4 + (iI 1))) else (if u4 ≤ v3 then (l5_best_18 k v1 ki sp tu wo th st hu n v2 v3 (v4 + (iI 1))) else (l5_best_18 k v1 ki sp tu wo th st hu n v4 u4 (v4 + (iI 1))))))))
def f5_best (v1 : Int32) (ki : Nat → Int32) (sp : Nat → Int32) (tu : Nat → Int32) (wo : Int32) (th : Int32) (st : Nat → Int32) (hu : Int32) : Option Int32 := ((f5_isNoYard v1).bind fun u1 => (if u1 = 0 then (l5_best_18 (fun v2 v3 v4 => some v2) v1 ki sp tu wo th st hu FU (iI (-9)) (iI 0) (iI 0)) else some (iI (-2))))
def l5_nthRow_27 (k : Int32 → Int32 → Int32 → Int32 → Option Int32) (v2 : Int32) (v3 : Int32) : Nat → Int32 → Int32 → Int32 → Int32 → Option Int32
  | 0, _, _, _, _ => none
  | n + 1, v4, v5, v6, v7 => (if v2 ≤ v7 then (k v4 v5 v6 v7) else (if v3 = 0 then none else (if v3 = 0 then none else (l5_nthRow_27 k v2 v3 n (v4 + (((v6 - v6 / v3 * v3) + (iI 1)) * v5)) (v5 * (iI 10)) (v6 / v3) (v7 + (iI 1))))))
def f5_nthRow (v1 : Int32) (v2 : Int32) (wo : Int32) : Option Int32 := (if (iI 1) ≤ wo then (l5_nthRow_27 (fun v4 v5 v6 v7 => some v4) v2 wo FU (iI 0) (iI 1) v1 (iI 0)) else some (iI 0))
def l5_figureOf_7 (k : Int32 → Int32 → Option Int32) (v1 : Int32) : Nat → Int32 → Int32 → Option Int32
  | 0, _, _ => none
  | n + 1, v3, v4 => (if v1 ≤ v4 then (k v3 v4) else (l5_figureOf_7 k v1 n (v3 / (iI 10)) (v4 + (iI 1))))
def f5_figureOf (v0 : Int32) (v1 : Int32) (v2 : Int32) : Option Int32 := (l5_figureOf_7 (fun v3 v4 => some (v3 - v3 / (iI 10) * (iI 10))) v1 FU v0 (v2 + (iI 1)))
def l5_onlyLastBrings_13 (k : Int32 → (Nat → Int32) → Int32 → Int32 → Int32 → Option (Int32 × (Nat → Int32) × Int32 × Int32 × Int32 × Int32 × Int32 × Int32)) (v1 : Int32) (v2 : Int32) (ki : Nat → Int32) (sp : Nat → Int32) (tu : Nat → Int32) (th : Int32) (tch : Int32) (thu : Int32) (tle : Int32) : Nat → Int32 → (Nat → Int32) → Int32 → Int32 → Int32 → Option (Int32 × (Nat → Int32) × Int32 × Int32 × Int32 × Int32 × Int32 × Int32)
  | 0, _, _, _, _, _ => none
  | n + 1, v3, tst, tya, tow, tca => (if v1 ≤ v3 then (k v3 tst tya tow tca) else ((f5_figureOf v2 v1 v3).bind fun u4 => ((f1_callHim (u4 - (iI 1)) ki sp tu th tst tya tca thu).bind fun u5 => (if v3 = (v1 - (iI 1)) then (if u5.1 = (iI 1) then (l5_onlyLastBrings_13 k v1 v2 ki sp tu th tch thu tle n (v3 + (iI 1)) u5.2.1 u5.2.2.1 u5.2.2.2.1 u5.2.2.2.2) else some ((iI 0), u5.2.1, tch, u5.2.2.1, u5.2.2.2.1, u5.2.2.2.2, thu, tle)) else (if u5.1 = (iI 0) then (l5_onlyLastBrings_13 k v1 v2 ki sp tu th tch thu tle n (v3 + (iI 1)) u5.2.1 u5.2.2.1 u5.2.2.2.1 u5.2.2.2.2) else some ((iI 0), u5.2.1, tch, u5.2.2.1, u5.2.2.2.1, u5.2.2.2.2, thu, tle))))))
def f5_onlyLastBrings (v1 : Int32) (v2 : Int32) (ki : Nat → Int32) (sp : Nat → Int32) (tu : Nat → Int32) (th : Int32) (st : Nat → Int32) (ch : Int32) (ya : Int32) (ow : Int32) (ca : Int32) (hu : Int32) (le : Int32) (tst : Nat → Int32) (tya : Int32) (tow : Int32) (tca : Int32) : Option (Int32 × (Nat → Int32) × Int32 × Int32 × Int32 × Int32 × Int32 × Int32) := ((f0_copyFrom tst st ch ya ow ca hu le).bind fun u1 => (l5_onlyLastBrings_13 (fun v3 tst tya tow tca => some ((iI 1), tst, u1.2.1, tya, tow, tca, u1.2.2.2.2.2.1, u1.2.2.2.2.2.2)) v1 v2 ki sp tu th u1.2.1 u1.2.2.2.2.2.1 u1.2.2.2.2.2.2 FU (iI 0) u1.1 u1.2.2.1 u1.2.2.2.1 u1.2.2.2.2.1))
def l5_fewest_35 (k : Int32 → (Nat → Int32) → Int32 → Int32 → Int32 → Int32 → Int32 → Int32 → Option (Int32 × (Nat → Int32) × Int32 × Int32 × Int32 × Int32 × Int32 × Int32)) (v1 : Int32) (v2 : Int32) (v3 : Int32) (ki : Nat → Int32) (sp : Nat → Int32) (tu : Nat → Int32) (wo : Int32) (th : Int32) (st : Nat → Int32) (ch : Int32) (ya : Int32) (ow : Int32) (ca : Int32) (hu : Int32) (le : Int32) : Nat → Int32 → (Nat → Int32) → Int32 → Int32 → Int32 → Int32 → Int32 → Int32 → Option (Int32 × (Nat → Int32) × Int32 × Int32 × Int32 × Int32 × Int32 × Int32)
  | 0, _, _, _, _, _, _, _, _ => none
  | n + 1, v4, tst, tch, tya, tow, tca, thu, tle => (if v2 ≤ v4 then (k v4 tst tch tya tow tca thu tle) else ((f5_nthRow v4 v3 wo).bind fun u5 => ((f5_onlyLastBrings v3 u5 ki sp tu th st ch ya ow ca hu le tst tya tow tca).bind fun u6 => (if u6.1 = 0 then (l5_fewest_35 k v1 v2 v3 ki sp tu wo th st ch ya ow ca hu le n (v4 + (iI 1)) u6.2.1 u6.2.2.1 u6.2.2.2.1 u6.2.2.2.2.1 u6.2.2.2.2.2.1 u6.2.2.2.2.2.2.1 u6.2.2.2.2.2.2.2) else (if v1 = 0 then some (v3, u6.2.1, u6.2.2.1, u6.2.2.2.1, u6.2.2.2.2.1, u6.2.2.2.2.2.1, u6.2.2.2.2.2.2.1, u6.2.2.2.2.2.2.2) else some (u5, u6.2.1, u6.2.2.1, u6.2.2.2.1, u6.2.2.2.2.1, u6.2.2.2.2.2.1, u6.2.2.2.2.2.2.1, u6.2.2.2.2.2.2.2))))))
def l5_fewest_17 (k : Int32 → Int32 → (Nat → Int32) → Int32 → Int32 → Int32 → Int32 → Int32 → Int32 → Option (Int32 × (Nat → Int32) × Int32 × Int32 × Int32 × Int32 × Int32 × Int32)) (v1 : Int32) (ki : Nat → Int32) (sp : Nat → Int32) (tu : Nat → Int32) (wo : Int32) (th : Int32) (st : Nat → Int32) (ch : Int32) (ya : Int32) (ow : Int32) (ca : Int32) (hu : Int32) (le : Int32) : Nat → Int32 → Int32 → (Nat → Int32) → Int32 → Int32 → Int32 → Int32 → Int32 → Int32 → Option (Int32 × (Nat → Int32) × Int32 × Int32 × Int32 × Int32 × Int32 × Int32)
  | 0, _, _, _, _, _, _, _, _, _ => none
  | n + 1, v2, v3, tst, tch, tya, tow, tca, thu, tle => (if (iI 4) < v3 then (k v2 v3 tst tch tya tow tca thu tle) else (l5_fewest_35 (fun v4 tst tch tya tow tca thu tle => (l5_fewest_17 k v1 ki sp tu wo th st ch ya ow ca hu le n (v2 * wo) (v3 + (iI 1)) tst tch tya tow tca thu tle)) v1 (v2 * wo) v3 ki sp tu wo th st ch ya ow ca hu le FU (iI 0) tst tch tya tow tca thu tle))
def f5_fewest (v1 : Int32) (ki : Nat → Int32) (sp : Nat → Int32) (tu : Nat → Int32) (wo : Int32) (th : Int32) (st : Nat → Int32) (ch : Int32) (ya : Int32) (ow : Int32) (ca : Int32) (hu : Int32) (le : Int32) (tst : Nat → Int32) (tch : Int32) (tya : Int32) (tow : Int32) (tca : Int32) (thu : Int32) (tle : Int32) : Option (Int32 × (Nat → Int32) × Int32 × Int32 × Int32 × Int32 × Int32 × Int32) := (if le = 0 then (l5_fewest_17 (fun v2 v3 tst tch tya tow tca thu tle => some ((iI (-9)), tst, tch, tya, tow, tca, thu, tle)) v1 ki sp tu wo th st ch ya ow ca hu le FU (iI 1) (iI 1) tst tch tya tow tca thu tle) else some ((iI (-9)), tst, tch, tya, tow, tca, thu, tle))
def l5_good_35 (k : Int32 → Option Int32) (v1 : Int32) (v2 : Int32) (v3 : Int32) (ki : Nat → Int32) (sp : Nat → Int32) (tu : Nat → Int32) (th : Int32) (hu : Int32) : Nat → Int32 → Option Int32
  | 0, _ => none
  | n + 1, v4 => (if (iI 9) < (v3 + v4) then (k v4) else ((f1_powerWith (v3 + v4) v1 hu v2 ki).bind fun u6 => ((f1_isEnough u6 v2 (iI 15) sp tu th).bind fun u7 => (if u7 = 0 then (l5_good_35 k v1 v2 v3 ki sp tu th hu n (v4 + (iI 1))) else some v4))))
def f5_good (v1 : Int32) (v2 : Int32) (ki : Nat → Int32) (sp : Nat → Int32) (tu : Nat → Int32) (wo : Int32) (th : Int32) (st : Nat → Int32) (hu : Int32) : Option Int32 := ((f1_hasWord v1 wo).bind fun u1 => (if u1 = 0 then some (iI (-1)) else ((f5_isNoYard v2).bind fun u2 => (if u2 = 0 then ((f0_strengthOf v1 st).bind fun u3 => (l5_good_35 (fun v4 => some (iI (-9))) v1 v2 u3 ki sp tu th hu FU (iI 0))) else some (iI (-2))))))
def l5_tenTo_4 (k : Int32 → Int32 → Option Int32) (v0 : Int32) : Nat → Int32 → Int32 → Option Int32
  | 0, _, _ => none
  | n + 1, v1, v2 => (if v0 ≤ v2 then (k v1 v2) else (l5_tenTo_4 k v0 n (v1 * (iI 10)) (v2 + (iI 1))))
def f5_tenTo (v0 : Int32) : Option Int32 := (l5_tenTo_4 (fun v1 v2 => some v1) v0 FU (iI 1) (iI 0))
def f5_doesWell (v2 : Int32) (ki : Nat → Int32) (sp : Nat → Int32) (tu : Nat → Int32) (wo : Int32) (th : Int32) (tst : Nat → Int32) (tch : Int32) (tya : Int32) (tow : Int32) (tca : Int32) (thu : Int32) (tle : Int32) : Option (Int32 × (Nat → Int32) × Int32 × Int32 × Int32 × Int32 × Int32 × Int32) := (if v2 = (iI 0) then some ((iI 1), tst, tch, tya, tow, tca, thu, tle) else (if v2 = (iI 5) then ((f0_canBePaid tch tow).bind fun u6 => (if u6 = 0 then some ((iI 0), tst, tch, tya, tow, tca, thu, tle) else ((f0_bePaid tst tch tow).bind fun u7 => some ((iI 1), u7.1, u7.2.1, tya, u7.2.2, tca, thu, tle)))) else (if v2 = (iI 6) then (if tle = 0 then ((f0_runOff (iI 1) tya).bind fun u5 => some ((iI 1), tst, tch, u5.1, u5.2, tca, thu, tle)) else some ((iI 0), tst, tch, tya, tow, tca, thu, tle)) else (if v2 = (iI 7) then ((f0_canBeLed tya tle).bind fun u3 => (if u3 = 0 then some ((iI 0), tst, tch, tya, tow, tca, thu, tle) else ((f1_leash ki tst tow tle).bind fun u4 => some ((iI 1), u4.1, tch, tya, u4.2.1, tca, thu, u4.2.2)))) else (if v2 = (iI 8) then (if thu = 0 then some ((iI 1), tst, tch, tya, tow, tca, (iI 1), tle) else some ((iI 1), tst, tch, tya, tow, tca, (iI 0), tle)) else (if v2 = (iI 9) then some ((iI 0), tst, tch, tya, tow, tca, thu, tle) else (if tle = 0 then ((f1_hasWord (v2 - (iI 1)) wo).bind fun u1 => (if u1 = 0 then some ((iI 0), tst, tch, tya, tow, tca, thu, tle) else ((f1_callHim (v2 - (iI 1)) ki sp tu th tst tya tca thu).bind fun u2 => (if u2.1 = 0 then some ((iI 0), u2.2.1, tch, u2.2.2.1, u2.2.2.2.1, u2.2.2.2.2, thu, tle) else some ((iI 1), u2.2.1, tch, u2.2.2.1, u2.2.2.2.1, u2.2.2.2.2, thu, tle))))) else some ((iI 0), tst, tch, tya, tow, tca, thu, tle))))))))
def l5_judge_42 (k : Int32 → (Nat → Int32) → Int32 → Int32 → Int32 → Int32 → Int32 → Int32 → Option (Int32 × (Nat → Int32) × Int32 × Int32 × Int32 × Int32 × Int32 × Int32)) (v1 : Int32) (v2 : Int32) (ki : Nat → Int32) (sp : Nat → Int32) (tu : Nat → Int32) (wo : Int32) (th : Int32) : Nat → Int32 → (Nat → Int32) → Int32 → Int32 → Int32 → Int32 → Int32 → Int32 → Option (Int32 × (Nat → Int32) × Int32 × Int32 × Int32 × Int32 × Int32 × Int32)
  | 0, _, _, _, _, _, _, _, _ => none
  | n + 1, v3, tst, tch, tya, tow, tca, thu, tle => (if v1 ≤ v3 then (k v3 tst tch tya tow tca thu tle) else ((f5_figureOf v2 v1 v3).bind fun u5 => ((f5_doesWell u5 ki sp tu wo th tst tch tya tow tca thu tle).bind fun u6 => (if u6.1 = 0 then some (v3, u6.2.1, u6.2.2.1, u6.2.2.2.1, u6.2.2.2.2.1, u6.2.2.2.2.2.1, u6.2.2.2.2.2.2.1, u6.2.2.2.2.2.2.2) else (l5_judge_42 k v1 v2 ki sp tu wo th n (v3 + (iI 1)) u6.2.1 u6.2.2.1 u6.2.2.2.1 u6.2.2.2.2.1 u6.2.2.2.2.2.1 u6.2.2.2.2.2.2.1 u6.2.2.2.2.2.2.2)))))
def f5_judge (v1 : Int32) (v2 : Int32) (ki : Nat → Int32) (sp : Nat → Int32) (tu : Nat → Int32) (wo : Int32) (th : Int32) (st : Nat → Int32) (ch : Int32) (ya : Int32) (ow : Int32) (ca : Int32) (hu : Int32) (le : Int32) (tst : Nat → Int32) (tch : Int32) (tya : Int32) (tow : Int32) (tca : Int32) (thu : Int32) (tle : Int32) : Option (Int32 × (Nat → Int32) × Int32 × Int32 × Int32 × Int32 × Int32 × Int32) := (if v1 < (iI 1) then some ((iI (-2)), tst, tch, tya, tow, tca, thu, tle) else (if v1 ≤ (iI 6) then (if v2 < 0 then some ((iI (-2)), tst, tch, tya, tow, tca, thu, tle) else ((f5_tenTo v1).bind fun u1 => (if v2 < u1 then ((f0_copyFrom tst st ch ya ow ca hu le).bind fun u2 => (l5_judge_42 (fun v3 tst tch tya tow tca thu tle => some ((iI (-9)), tst, tch, tya, tow, tca, thu, tle)) v1 v2 ki sp tu wo th FU (iI 0) u2.1 u2.2.1 u2.2.2.1 u2.2.2.2.1 u2.2.2.2.2.1 u2.2.2.2.2.2.1 u2.2.2.2.2.2.2)) else some ((iI (-2)), tst, tch, tya, tow, tca, thu, tle)))) else some ((iI (-2)), tst, tch, tya, tow, tca, thu, tle)))
def f5_see (v1 : Int32) (v2 : Int32) (v3 : Int32) (wo : Int32) (so : Nat → Int32) (sf : Nat → Int32) (sc : Nat → Int32) (ss : Int32) : Option (Int32 × (Nat → Int32) × (Nat → Int32) × (Nat → Int32) × Int32) := ((f1_hasWord v1 wo).bind fun u1 => (if u1 = 0 then some ((iI (-1)), so, sf, sc, ss) else ((f5_isNoYard v2).bind fun u2 => (if u2 = 0 then (if v3 < 0 then some ((iI (-2)), so, sf, sc, ss) else (if v3 ≤ (iI 1) then ((f3_isFull ss).bind fun u3 => (if u3 = 0 then (if v3 = (iI 1) then ((f3_add v1 v2 (iI 1) so sf sc ss).bind fun u5 => some (u5.2.2.2, u5.1, u5.2.1, u5.2.2.1, u5.2.2.2)) else ((f3_add v1 v2 (iI 0) so sf sc ss).bind fun u4 => some (u4.2.2.2, u4.1, u4.2.1, u4.2.2.1, u4.2.2.2))) else some ((iI (-4)), so, sf, sc, ss))) else some ((iI (-2)), so, sf, sc, ss))) else some ((iI (-2)), so, sf, sc, ss)))))
def f5_unsee (ss : Int32) : Option (Int32 × Int32) := some (ss, (iI 0))
def l5_may_17 (k : Int32 → Int32 → Option Int32) (v1 : Int32) (ki : Nat → Int32) (sp : Nat → Int32) (tu : Nat → Int32) (th : Int32) (hu : Int32) (so : Nat → Int32) (sf : Nat → Int32) (sc : Nat → Int32) (ss : Int32) : Nat → Int32 → Int32 → Option Int32
  | 0, _, _ => none
  | n + 1, v2, v3 => (if (iI 9) < v3 then (k v2 v3) else ((f3_agree v1 v3 hu so sf sc ss ki sp tu th).bind fun u3 => (if u3 = 0 then (l5_may_17 k v1 ki sp tu th hu so sf sc ss n v2 (v3 + (iI 1))) else (l5_may_17 k v1 ki sp tu th hu so sf sc ss n (v2 ||| ((iI 1) <<< (v3 &&& 31))) (v3 + (iI 1))))))
def f5_may (v1 : Int32) (ki : Nat → Int32) (sp : Nat → Int32) (tu : Nat → Int32) (wo : Int32) (th : Int32) (hu : Int32) (so : Nat → Int32) (sf : Nat → Int32) (sc : Nat → Int32) (ss : Int32) : Option Int32 := ((f1_hasWord v1 wo).bind fun u1 => (if u1 = 0 then some (iI (-1)) else (l5_may_17 (fun v2 v3 => some v2) v1 ki sp tu th hu so sf sc ss FU (iI 0) (iI 0))))
def l5_wordsThatBring_4 (k : Int32 → Int32 → Option Int32) (v1 : Int32) (ki : Nat → Int32) (sp : Nat → Int32) (tu : Nat → Int32) (wo : Int32) (th : Int32) (st : Nat → Int32) (hu : Int32) : Nat → Int32 → Int32 → Option Int32
  | 0, _, _ => none
  | n + 1, v2, v3 => (if wo ≤ v3 then (k v2 v3) else ((f1_brings v3 v1 ki sp tu th st hu).bind fun u2 => (if u2 = 0 then (l5_wordsThatBring_4 k v1 ki sp tu wo th st hu n v2 (v3 + (iI 1))) else (l5_wordsThatBring_4 k v1 ki sp tu wo th st hu n (v2 + (iI 1)) (v3 + (iI 1))))))
def f5_wordsThatBring (v1 : Int32) (ki : Nat → Int32) (sp : Nat → Int32) (tu : Nat → Int32) (wo : Int32) (th : Int32) (st : Nat → Int32) (hu : Int32) : Option Int32 := (l5_wordsThatBring_4 (fun v2 v3 => some v2) v1 ki sp tu wo th st hu FU (iI 0) (iI 0))
def l5_greatestDivisor_7 (k : Int32 → Int32 → Int32 → Option Int32) : Nat → Int32 → Int32 → Int32 → Option Int32
  | 0, _, _, _ => none
  | n + 1, v2, v3, v4 => (if (iI 64) ≤ v4 then (k v2 v3 v4) else (if v3 = 0 then (k v2 v3 v4) else (if v3 = 0 then none else (l5_greatestDivisor_7 k n v3 (v2 - v2 / v3 * v3) (v4 + (iI 1))))))
def f5_greatestDivisor (v0 : Int32) (v1 : Int32) : Option Int32 := (l5_greatestDivisor_7 (fun v2 v3 v4 => some v2) FU v0 v1 (iI 0))
def f5_fraction (v0 : Int32) (v1 : Int32) (v2 : Int32) : Option Int32 := ((f5_greatestDivisor v0 v1).bind fun u1 => (if (iI 1) ≤ u1 then (if v2 = 0 then (if u1 = 0 then none else some (v1 / u1)) else (if u1 = 0 then none else some (v0 / u1))) else (if v2 = 0 then some v1 else some v0)))
def l5_share_18 (k : Int32 → Int32 → Option Int32) (v1 : Int32) (ki : Nat → Int32) (sp : Nat → Int32) (tu : Nat → Int32) (wo : Int32) (th : Int32) (st : Nat → Int32) (hu : Int32) : Nat → Int32 → Int32 → Option Int32
  | 0, _, _ => none
  | n + 1, v3, v4 => (if (iI 9) < v4 then (k v3 v4) else ((f5_wordsThatBring v4 ki sp tu wo th st hu).bind fun u4 => (if u4 ≤ 0 then (l5_share_18 k v1 ki sp tu wo th st hu n v3 (v4 + (iI 1))) else ((f1_brings v1 v4 ki sp tu th st hu).bind fun u5 => (if u5 = 0 then (l5_share_18 k v1 ki sp tu wo th st hu n v3 (v4 + (iI 1))) else (if u4 = 0 then none else (l5_share_18 k v1 ki sp tu wo th st hu n (v3 + ((iI 12) / u4)) (v4 + (iI 1)))))))))
def f5_share (v1 : Int32) (v2 : Int32) (ki : Nat → Int32) (sp : Nat → Int32) (tu : Nat → Int32) (wo : Int32) (th : Int32) (st : Nat → Int32) (hu : Int32) : Option Int32 := ((f1_hasWord v1 wo).bind fun u1 => (if u1 = 0 then some (iI (-1)) else (l5_share_18 (fun v3 v4 => ((f5_fraction v3 (iI 12) v2).bind fun u6 => some u6)) v1 ki sp tu wo th st hu FU (iI 0) (iI 0))))
def f5_gainOf (v1 : Int32) (v2 : Int32) (v3 : Int32) (ki : Nat → Int32) (sp : Nat → Int32) (tu : Nat → Int32) (th : Int32) (st : Nat → Int32) (ya : Int32) (hu : Int32) : Option Int32 := (if v2 = 0 then some (iI 0) else ((f1_powerOf v1 ya ki st hu).bind fun u1 => ((f1_isEnough (u1 - ((iI 2) * v3)) ya (iI 15) sp tu th).bind fun u2 => (if u2 = 0 then some (iI (-1)) else some ((iI 3) - v3)))))
def f5_isContent (v1 : Int32) (v2 : Int32) (v3 : Int32) (ki : Nat → Int32) (sp : Nat → Int32) (tu : Nat → Int32) (th : Int32) (st : Nat → Int32) (ya : Int32) (hu : Int32) : Option Int32 := ((f5_gainOf v1 v2 v3 ki sp tu th st ya hu).bind fun u1 => ((f5_gainOf v1 ((iI 1) - v2) v3 ki sp tu th st ya hu).bind fun u2 => (if u1 < u2 then some (iI 0) else some (iI 1))))
def l5_rests_55 (k : Int32 → Int32 → Int32 → Option Int32) (v1 : Int32) (v2 : Int32) (v6 : Int32) (ki : Nat → Int32) (sp : Nat → Int32) (tu : Nat → Int32) (th : Int32) (st : Nat → Int32) (ya : Int32) (hu : Int32) : Nat → Int32 → Int32 → Int32 → Option Int32
  | 0, _, _, _ => none
  | n + 1, v4, v5, v7 => (if (iI 1) < v7 then (k v4 v5 v7) else ((f5_isContent v1 v6 v7 ki sp tu th st ya hu).bind fun u7 => (if u7 = 0 then (l5_rests_55 k v1 v2 v6 ki sp tu th st ya hu n v4 v5 (v7 + (iI 1))) else ((f5_isContent v2 v7 v6 ki sp tu th st ya hu).bind fun u8 => (if u8 = 0 then (l5_rests_55 k v1 v2 v6 ki sp tu th st ya hu n v4 v5 (v7 + (iI 1))) else (if v4 = 0 then (l5_rests_55 k v1 v2 v6 ki sp tu th st ya hu n (v4 + (iI 1)) (((iI 10) * v6) + v7) (v7 + (iI 1))) else (l5_rests_55 k v1 v2 v6 ki sp tu th st ya hu n (v4 + (iI 1)) v5 (v7 + (iI 1)))))))))
def l5_rests_46 (k : Int32 → Int32 → Int32 → Option Int32) (v1 : Int32) (v2 : Int32) (ki : Nat → Int32) (sp : Nat → Int32) (tu : Nat → Int32) (th : Int32) (st : Nat → Int32) (ya : Int32) (hu : Int32) : Nat → Int32 → Int32 → Int32 → Option Int32
  | 0, _, _, _ => none
  | n + 1, v4, v5, v6 => (if (iI 1) < v6 then (k v4 v5 v6) else (l5_rests_55 (fun v4 v5 v7 => (l5_rests_46 k v1 v2 ki sp tu th st ya hu n v4 v5 (v6 + (iI 1)))) v1 v2 v6 ki sp tu th st ya hu FU v4 v5 (iI 0)))
def f5_rests (v1 : Int32) (v2 : Int32) (v3 : Int32) (ki : Nat → Int32) (sp : Nat → Int32) (tu : Nat → Int32) (wo : Int32) (th : Int32) (st : Nat → Int32) (ya : Int32) (hu : Int32) : Option Int32 := ((f1_hasWord v1 wo).bind fun u1 => (if u1 = 0 then some (iI (-1)) else ((f1_hasWord v2 wo).bind fun u2 => (if u2 = 0 then some (iI (-1)) else (if v3 < 0 then some (iI (-2)) else (if v3 ≤ (iI 1) then (l5_rests_46 (fun v4 v5 v6 => (if v3 = 0 then some v4 else some v5)) v1 v2 ki sp tu th st ya hu FU (iI 0) (iI (-9)) (iI 0)) else some (iI (-2))))))))
def l5_weightOf_5 (k : Int32 → Int32 → Option Int32) (v1 : Int32) (v2 : Int32) (th : Int32) : Nat → Int32 → Int32 → Option Int32
  | 0, _, _ => none
  | n + 1, v3, v4 => (if th ≤ v4 then (k v3 v4) else (if ((v1 >>> (v4 &&& 31)) &&& (iI 1)) = (iI 1) then (l5_weightOf_5 k v1 v2 th n (v3 * v2) (v4 + (iI 1))) else (l5_weightOf_5 k v1 v2 th n (v3 * ((iI 10) - v2)) (v4 + (iI 1)))))
def f5_weightOf (v1 : Int32) (v2 : Int32) (th : Int32) : Option Int32 := (l5_weightOf_5 (fun v3 v4 => some v3) v1 v2 th FU (iI 1) (iI 0))
def l5_there_53 (k : Int32 → Int32 → Option Int32) (v2 : Int32) (v4 : Int32) (sp : Nat → Int32) (tu : Nat → Int32) (th : Int32) (ya : Int32) : Nat → Int32 → Int32 → Option Int32
  | 0, _, _ => none
  | n + 1, v5, v6 => (if ((iI 1) <<< (th &&& 31)) ≤ v6 then (k v5 v6) else ((f1_isEnough v4 ya v6 sp tu th).bind fun u5 => (if u5 = 0 then (l5_there_53 k v2 v4 sp tu th ya n v5 (v6 + (iI 1))) else ((f5_weightOf v6 v2 th).bind fun u6 => (l5_there_53 k v2 v4 sp tu th ya n (v5 + u6) (v6 + (iI 1)))))))
def f5_there (v1 : Int32) (v2 : Int32) (v3 : Int32) (ki : Nat → Int32) (sp : Nat → Int32) (tu : Nat → Int32) (wo : Int32) (th : Int32) (st : Nat → Int32) (ya : Int32) (hu : Int32) : Option Int32 := ((f1_hasWord v1 wo).bind fun u1 => (if u1 = 0 then some (iI (-1)) else (if v2 < 0 then some (iI (-2)) else (if v2 ≤ (iI 10) then ((f1_powerOf v1 ya ki st hu).bind fun u2 => (l5_there_53 (fun v5 v6 => ((f5_tenTo th).bind fun u7 => ((f5_fraction v5 u7 v3).bind fun u8 => some u8))) v2 u2 sp tu th ya FU (iI 0) (iI 0))) else some (iI (-2))))))
def f5_seed (v1 : Int64) (sd : Int64) : Option (Int64 × Int64) := some (sd, v1)
def f5_returnsFrom (v2 : Int32) (ki : Nat → Int32) (sp : Nat → Int32) (tu : Nat → Int32) (wo : Int32) (th : Int32) (tst : Nat → Int32) (tch : Int32) (tya : Int32) (tca : Int32) (thu : Int32) : Option (Int32 × (Nat → Int32) × Int32 × Int32 × Int32 × Int32) := ((f0_runOff (v2 - v2 / (iI 5) * (iI 5)) tya).bind fun u1 => ((f1_hasWord (v2 / (iI 5)) wo).bind fun u2 => (if u2 = 0 then some ((iI 0), tst, tch, u1.1, u1.2, tca) else ((f1_callHim (v2 / (iI 5)) ki sp tu th tst u1.1 tca thu).bind fun u3 => (if u3.1 = 0 then some ((iI 0), u3.2.1, tch, u3.2.2.1, u3.2.2.2.1, u3.2.2.2.2) else ((f0_canBePaid tch u3.2.2.2.1).bind fun u4 => (if u4 = 0 then some ((iI 1), u3.2.1, tch, u3.2.2.1, u3.2.2.2.1, u3.2.2.2.2) else ((f0_bePaid u3.2.1 tch u3.2.2.2.1).bind fun u5 => some ((iI 1), u5.1, u5.2.1, u3.2.2.1, u5.2.2, u3.2.2.2.2)))))))))
def l5_walks_29 (k : Int32 → Int32 → (Nat → Int32) → Int32 → Int32 → Int32 → Int32 → Int64 → Option (Int32 × (Nat → Int32) × Int32 × Int32 × Int32 × Int32 × Int32 × Int32 × Int64)) (v1 : Int32) (ki : Nat → Int32) (sp : Nat → Int32) (tu : Nat → Int32) (wo : Int32) (th : Int32) (thu : Int32) (tle : Int32) : Nat → Int32 → Int32 → (Nat → Int32) → Int32 → Int32 → Int32 → Int32 → Int64 → Option (Int32 × (Nat → Int32) × Int32 × Int32 × Int32 × Int32 × Int32 × Int32 × Int64)
  | 0, _, _, _, _, _, _, _, _ => none
  | n + 1, v2, v3, tst, tch, tya, tow, tca, sd => (if v1 ≤ v3 then (k v2 v3 tst tch tya tow tca sd) else (if tle = 0 then ((f5_returnsFrom ((((((sd * (6364136223846793005 : Int64)) + (1442695040888963407 : Int64)).toUInt64 >>> ((iI 33).toInt64.toUInt64 &&& Int64.toUInt64 63)).toInt64) - ((((sd * (6364136223846793005 : Int64)) + (1442695040888963407 : Int64)).toUInt64 >>> ((iI 33).toInt64.toUInt64 &&& Int64.toUInt64 63)).toInt64) / (20 : Int64) * (20 : Int64)).toInt32) ki sp tu wo th tst tch tya tca thu).bind fun u3 => (if u3.1 = 0 then (l5_walks_29 k v1 ki sp tu wo th thu tle n v2 (v3 + (iI 1)) u3.2.1 u3.2.2.1 u3.2.2.2.1 u3.2.2.2.2.1 u3.2.2.2.2.2 ((sd * (6364136223846793005 : Int64)) + (1442695040888963407 : Int64))) else (l5_walks_29 k v1 ki sp tu wo th thu tle n (v2 + (iI 1)) (v3 + (iI 1)) u3.2.1 u3.2.2.1 u3.2.2.2.1 u3.2.2.2.2.1 u3.2.2.2.2.2 ((sd * (6364136223846793005 : Int64)) + (1442695040888963407 : Int64))))) else (l5_walks_29 k v1 ki sp tu wo th thu tle n v2 (v3 + (iI 1)) tst tch tya tow tca ((sd * (6364136223846793005 : Int64)) + (1442695040888963407 : Int64)))))
def f5_walks (v1 : Int32) (ki : Nat → Int32) (sp : Nat → Int32) (tu : Nat → Int32) (wo : Int32) (th : Int32) (st : Nat → Int32) (ch : Int32) (ya : Int32) (ow : Int32) (ca : Int32) (hu : Int32) (le : Int32) (tst : Nat → Int32) (tch : Int32) (tya : Int32) (tow : Int32) (tca : Int32) (thu : Int32) (tle : Int32) (sd : Int64) : Option (Int32 × (Nat → Int32) × Int32 × Int32 × Int32 × Int32 × Int32 × Int32 × Int64) := (if v1 < (iI 1) then some ((iI (-2)), tst, tch, tya, tow, tca, thu, tle, sd) else (if v1 ≤ (iI 30) then ((f0_copyFrom tst st ch ya ow ca hu le).bind fun u1 => (l5_walks_29 (fun v2 v3 tst tch tya tow tca sd => some (v2, tst, tch, tya, tow, tca, u1.2.2.2.2.2.1, u1.2.2.2.2.2.2, sd)) v1 ki sp tu wo th u1.2.2.2.2.2.1 u1.2.2.2.2.2.2 FU (iI 0) (iI 0) u1.1 u1.2.1 u1.2.2.1 u1.2.2.2.1 u1.2.2.2.2.1 sd)) else some ((iI (-2)), tst, tch, tya, tow, tca, thu, tle, sd)))
def f5_isNoSlot (v1 : Int32) : Option Int32 := (if v1 < 0 then some (iI 1) else (if v1 < (Int32.ofNat 2) then some (iI 0) else some (iI 1)))
def f5_keep (v1 : Int32) (st : Nat → Int32) (ch : Int32) (ya : Int32) (ow : Int32) (ca : Int32) (hu : Int32) (le : Int32) (sn : Nat → Int32) (kp : Nat → Int32) : Option (Int32 × (Nat → Int32) × (Nat → Int32)) := ((f5_isNoSlot v1).bind fun u1 => (if u1 = 0 then ((f2_put 20 v1 sn st ch ya ow ca hu le).bind fun u2 => (if ib v1 2 = true then some (ca, u2, (upd kp v1.toNatClampNeg (vp_nar .boolean (iI 1)))) else none)) else some ((iI (-1)), sn, kp)))
def f5_again (v1 : Int32) (st : Nat → Int32) (ch : Int32) (ya : Int32) (ow : Int32) (ca : Int32) (hu : Int32) (le : Int32) (sn : Nat → Int32) (kp : Nat → Int32) (ai : Int32) : Option (Int32 × (Nat → Int32) × Int32 × Int32 × Int32 × Int32 × Int32 × Int32 × Int32) := ((f5_isNoSlot v1).bind fun u1 => (if u1 = 0 then (if ib v1 2 = true then (if (kp v1.toNatClampNeg) = 0 then some ((iI (-3)), st, ch, ya, ow, ca, hu, le, ai) else ((f2_take 20 v1 sn st).bind fun u2 => some (u2.2.2.2.2.1, u2.1, u2.2.1, u2.2.2.1, u2.2.2.2.1, u2.2.2.2.2.1, u2.2.2.2.2.2.1, u2.2.2.2.2.2.2, (iI 0)))) else none) else some ((iI (-1)), st, ch, ya, ow, ca, hu, le, ai)))
def f5_count (v1 : Int32) (ln : Int32) (wo : Int32) (th : Int32) (ch : Int32) (ya : Int32) (ow : Int32) (ca : Int32) (hu : Int32) (le : Int32) (ss : Int32) (ai : Int32) : Option Int32 := (if v1 = (iI 0) then some ln else (if v1 = (iI 1) then some wo else (if v1 = (iI 2) then some th else (if v1 = (iI 3) then some ch else (if v1 = (iI 4) then some ya else (if v1 = (iI 5) then some ow else (if v1 = (iI 6) then ((f5_asNumber hu).bind fun u2 => some u2) else (if v1 = (iI 7) then ((f5_asNumber le).bind fun u1 => some u1) else (if v1 = (iI 8) then some ca else (if v1 = (iI 9) then some ai else (if v1 = (iI 10) then some ss else some (iI (-2)))))))))))))
def f6_in (v0 : Int64) (v2 : Int64) (v4 : Int64) : Option Int32 := (if (lg_cmp v0 v2) < 0 then some (iI 0) else (if 0 < (lg_cmp v0 v4) then some (iI 0) else some (iI 1)))
def f6_has (v0 : Int32) (v1 : Int32) : Option Int32 := (if ((v0 >>> (v1 &&& 31)) &&& (iI 1)) = (iI 1) then some (iI 1) else some (iI 0))
def l6_ones_4 (k : Int32 → Int32 → Option Int32) (v0 : Int32) : Nat → Int32 → Int32 → Option Int32
  | 0, _, _ => none
  | n + 1, v1, v2 => (if (iI 4) ≤ v2 then (k v1 v2) else (l6_ones_4 k v0 n (v1 + ((v0 >>> (v2 &&& 31)) &&& (iI 1))) (v2 + (iI 1))))
def f6_ones (v0 : Int32) : Option Int32 := (l6_ones_4 (fun v1 v2 => some v1) v0 FU (iI 0) (iI 0))
def f6_write (v1 : Int32) (mln : Int32) (mtx : Nat → Int32) : Option (Int32 × Int32 × (Nat → Int32)) := ((f6_in (v1.toInt64) (Int64.ofNat 0) (255 : Int64)).bind fun u1 => (if u1 = 0 then some ((iI (-2)), mln, mtx) else (if mln = (iI 36) then some ((iI (-4)), mln, mtx) else (if ib mln 36 = true then some ((mln + (iI 1)), (mln + (iI 1)), (upd mtx mln.toNatClampNeg v1)) else none))))
def f6_wipe (mln : Int32) : Option (Int32 × Int32) := some (mln, (iI 0))
def f6_figure (v1 : Int32) (v2 : Int32) (mln : Int32) (mat : Int32) (mfa : Int32) (mtx : Nat → Int32) : Option (Int32 × Int32 × Int32) := (if mfa = (iI (-9)) then (if mln ≤ mat then ((f6_in ((iI (-9)).toInt64) (v1.toInt64) (v2.toInt64)).bind fun u2 => (if u2 = 0 then (if mfa = (iI (-9)) then some (v1, mat, mat) else some (v1, mat, mfa)) else some ((iI (-9)), (mat + (iI 1)), mfa))) else (if ib mat 36 = true then ((f6_in (((mtx mat.toNatClampNeg) - (iI 48)).toInt64) (v1.toInt64) (v2.toInt64)).bind fun u3 => (if u3 = 0 then (if mfa = (iI (-9)) then some (v1, mat, mat) else some (v1, mat, mfa)) else some (((mtx mat.toNatClampNeg) - (iI 48)), (mat + (iI 1)), mfa))) else none)) else ((f6_in ((iI (-9)).toInt64) (v1.toInt64) (v2.toInt64)).bind fun u1 => (if u1 = 0 then (if mfa = (iI (-9)) then some (v1, mat, mat) else some (v1, mat, mfa)) else some ((iI (-9)), (mat + (iI 1)), mfa))))
def l6_readText_62 (k : Int32 → Int32 → Int32 → Int32 → (Nat → Int32) → (Nat → Int32) → Option (Int32 × Int32 × Int32 × Int32 × Int32 × (Nat → Int32) × (Nat → Int32))) (mln : Int32) (mtx : Nat → Int32) : Nat → Int32 → Int32 → Int32 → Int32 → (Nat → Int32) → (Nat → Int32) → Option (Int32 × Int32 × Int32 × Int32 × Int32 × (Nat → Int32) × (Nat → Int32))
  | 0, _, _, _, _, _, _ => none
  | n + 1, mrn, mrm, mat, mfa, mrw, mrt => (if mfa = (iI (-9)) then (if mln ≤ mat then (k mrn mrm mat mfa mrw mrt) else (if ib mat 36 = true then (if (mtx mat.toNatClampNeg) = (iI 87) then (if (iI 4) ≤ mrn then (if ib mat 36 = true then (if (mtx mat.toNatClampNeg) = (iI 84) then (if (iI 4) ≤ mrm then (l6_readText_62 k mln mtx n mrn mrm mat mat mrw mrt) else ((f6_figure (iI 0) (iI 9) mln (mat + (iI 1)) mfa mtx).bind fun u11 => (if ib ((iI 2) * mrm) 8 = true then ((f6_figure (iI 1) (iI 9) mln u11.2.1 u11.2.2 mtx).bind fun u12 => (if ib (((iI 2) * mrm) + (iI 1)) 8 = true then (l6_readText_62 k mln mtx n mrn (mrm + (iI 1)) u12.2.1 u12.2.2 mrw (upd (upd mrt ((iI 2) * mrm).toNatClampNeg u11.1) (((iI 2) * mrm) + (iI 1)).toNatClampNeg u12.1)) else none)) else none))) else (l6_readText_62 k mln mtx n mrn mrm mat mat mrw mrt)) else none) else ((f6_figure (iI 0) (iI 9) mln (mat + (iI 1)) mfa mtx).bind fun u13 => (if ib ((iI 2) * mrn) 8 = true then ((f6_figure (iI 0) (iI 3) mln u13.2.1 u13.2.2 mtx).bind fun u14 => (if ib (((iI 2) * mrn) + (iI 1)) 8 = true then (l6_readText_62 k mln mtx n (mrn + (iI 1)) mrm u14.2.1 u14.2.2 (upd (upd mrw ((iI 2) * mrn).toNatClampNeg u13.1) (((iI 2) * mrn) + (iI 1)).toNatClampNeg u14.1) mrt) else none)) else none))) else (if ib mat 36 = true then (if (mtx mat.toNatClampNeg) = (iI 84) then (if (iI 4) ≤ mrm then (l6_readText_62 k mln mtx n mrn mrm mat mat mrw mrt) else ((f6_figure (iI 0) (iI 9) mln (mat + (iI 1)) mfa mtx).bind fun u9 => (if ib ((iI 2) * mrm) 8 = true then ((f6_figure (iI 1) (iI 9) mln u9.2.1 u9.2.2 mtx).bind fun u10 => (if ib (((iI 2) * mrm) + (iI 1)) 8 = true then (l6_readText_62 k mln mtx n mrn (mrm + (iI 1)) u10.2.1 u10.2.2 mrw (upd (upd mrt ((iI 2) * mrm).toNatClampNeg u9.1) (((iI 2) * mrm) + (iI 1)).toNatClampNeg u10.1)) else none)) else none))) else (l6_readText_62 k mln mtx n mrn mrm mat mat mrw mrt)) else none)) else none)) else (k mrn mrm mat mfa mrw mrt))
def f6_readText (mrn : Int32) (mrm : Int32) (mln : Int32) (mat : Int32) (mfa : Int32) (mrw : Nat → Int32) (mrt : Nat → Int32) (mtx : Nat → Int32) : Option (Int32 × Int32 × Int32 × Int32 × Int32 × (Nat → Int32) × (Nat → Int32)) := (if mln = 0 then some ((iI 0), (iI 0), (iI 0), (iI 0), (iI (-9)), mrw, mrt) else (if (mtx (iI 0).toNatClampNeg) = (iI 68) then ((f6_figure (iI 0) (iI 9) mln (iI 1) (iI (-9)) mtx).bind fun u1 => ((f6_figure (iI 0) (iI 9) mln u1.2.1 u1.2.2 mtx).bind fun u2 => (l6_readText_62 (fun mrn mrm mat mfa mrw mrt => some (mfa, mrn, mrm, mat, mfa, mrw, mrt)) mln mtx FU (iI 0) (iI 0) u2.2.1 u2.2.2 mrw mrt))) else some ((iI 0), (iI 0), (iI 0), (iI 0), (iI (-9)), mrw, mrt)))
def f6_fault (mrn : Int32) (mrm : Int32) (mln : Int32) (mat : Int32) (mfa : Int32) (mrw : Nat → Int32) (mrt : Nat → Int32) (mtx : Nat → Int32) : Option (Int32 × Int32 × Int32 × Int32 × Int32 × (Nat → Int32) × (Nat → Int32)) := ((f6_readText mrn mrm mln mat mfa mrw mrt mtx).bind fun u1 => some (u1.1, u1.2.1, u1.2.2.1, u1.2.2.2.1, u1.2.2.2.2.1, u1.2.2.2.2.2.1, u1.2.2.2.2.2.2))
def l6_walk_30 (k : Int32 → (Nat → Int32) → Option (Int32 × Int32 × Int32 × Int32 × Int32 × Int32 × Int32 × Int32 × (Nat → Int32) × (Nat → Int32) × (Nat → Int32) × (Nat → Int32) × (Nat → Int32) × (Nat → Int32) × (Nat → Int32))) : Nat → Int32 → (Nat → Int32) → Option (Int32 × Int32 × Int32 × Int32 × Int32 × Int32 × Int32 × Int32 × (Nat → Int32) × (Nat → Int32) × (Nat → Int32) × (Nat → Int32) × (Nat → Int32) × (Nat → Int32) × (Nat → Int32))
  | 0, _, _ => none
  | n + 1, v1, mno => (if (iI 10) ≤ v1 then (k v1 mno) else (if ib v1 20 = true then (l6_walk_30 k n (v1 + (iI 1)) (upd mno v1.toNatClampNeg (iI 0))) else none))
def l6_walk_51 (k : Int32 → (Nat → Int32) → (Nat → Int32) → Option (Int32 × Int32 × Int32 × Int32 × Int32 × Int32 × Int32 × Int32 × (Nat → Int32) × (Nat → Int32) × (Nat → Int32) × (Nat → Int32) × (Nat → Int32) × (Nat → Int32) × (Nat → Int32))) (mwo : Int32) (mrw : Nat → Int32) : Nat → Int32 → (Nat → Int32) → (Nat → Int32) → Option (Int32 × Int32 × Int32 × Int32 × Int32 × Int32 × Int32 × Int32 × (Nat → Int32) × (Nat → Int32) × (Nat → Int32) × (Nat → Int32) × (Nat → Int32) × (Nat → Int32) × (Nat → Int32))
  | 0, _, _, _ => none
  | n + 1, v1, mki, mno => (if mwo ≤ v1 then (k v1 mki mno) else (if ib ((iI 2) * v1) 8 = true then (if ib v1 20 = true then (if ib (((iI 2) * v1) + (iI 1)) 8 = true then (if ib v1 4 = true then (l6_walk_51 k mwo mrw n (v1 + (iI 1)) (upd mki v1.toNatClampNeg (mrw (((iI 2) * v1) + (iI 1)).toNatClampNeg)) (upd mno v1.toNatClampNeg (mrw ((iI 2) * v1).toNatClampNeg))) else none) else none) else none) else none))
def l6_walk_97 (k : Int32 → (Nat → Int32) → (Nat → Int32) → Option (Int32 × Int32 × Int32 × Int32 × Int32 × Int32 × Int32 × Int32 × (Nat → Int32) × (Nat → Int32) × (Nat → Int32) × (Nat → Int32) × (Nat → Int32) × (Nat → Int32) × (Nat → Int32))) (mth : Int32) (mrt : Nat → Int32) : Nat → Int32 → (Nat → Int32) → (Nat → Int32) → Option (Int32 × Int32 × Int32 × Int32 × Int32 × Int32 × Int32 × Int32 × (Nat → Int32) × (Nat → Int32) × (Nat → Int32) × (Nat → Int32) × (Nat → Int32) × (Nat → Int32) × (Nat → Int32))
  | 0, _, _, _ => none
  | n + 1, v1, mof, mpu => (if mth ≤ v1 then (k v1 mof mpu) else (if ib ((iI 2) * v1) 8 = true then (if ib v1 4 = true then (if ib (((iI 2) * v1) + (iI 1)) 8 = true then (if ib v1 4 = true then (l6_walk_97 k mth mrt n (v1 + (iI 1)) (upd mof v1.toNatClampNeg (mrt ((iI 2) * v1).toNatClampNeg)) (upd mpu v1.toNatClampNeg (mrt (((iI 2) * v1) + (iI 1)).toNatClampNeg))) else none) else none) else none) else none))
def f6_walk (mwo : Int32) (mth : Int32) (mrn : Int32) (mrm : Int32) (mln : Int32) (mat : Int32) (mfa : Int32) (mac : Int32) (mki : Nat → Int32) (mof : Nat → Int32) (mpu : Nat → Int32) (mno : Nat → Int32) (mrw : Nat → Int32) (mrt : Nat → Int32) (mtx : Nat → Int32) (mik : Nat → Int32) : Option (Int32 × Int32 × Int32 × Int32 × Int32 × Int32 × Int32 × Int32 × (Nat → Int32) × (Nat → Int32) × (Nat → Int32) × (Nat → Int32) × (Nat → Int32) × (Nat → Int32) × (Nat → Int32)) := ((f6_readText mrn mrm mln mat mfa mrw mrt mtx).bind fun u1 => (if u1.1 = (iI (-9)) then (l6_walk_30 (fun v1 mno => (l6_walk_51 (fun v1 mki mno => (l6_walk_97 (fun v1 mof mpu => some ((((iI 10) * u1.2.1) + u1.2.2.1), u1.2.1, u1.2.2.1, u1.2.1, u1.2.2.1, u1.2.2.2.1, u1.2.2.2.2.1, (iI 0), mki, mof, mpu, (upd (upd (upd mno (iI 4).toNatClampNeg ((mtx (iI 1).toNatClampNeg) - (iI 48))) (iI 5).toNatClampNeg ((mtx (iI 2).toNatClampNeg) - (iI 48))) (iI 6).toNatClampNeg (iI (-9))), u1.2.2.2.2.2.1, u1.2.2.2.2.2.2, (upd (upd mik (iI 0).toNatClampNeg (vp_nar .boolean (iI 0))) (iI 1).toNatClampNeg (vp_nar .boolean (iI 0))))) u1.2.2.1 u1.2.2.2.2.2.2 FU (iI 0) mof mpu)) u1.2.1 u1.2.2.2.2.2.1 FU (iI 0) mki mno)) FU (iI 0) mno) else some ((iI (-3)), mwo, mth, u1.2.1, u1.2.2.1, u1.2.2.2.1, u1.2.2.2.2.1, mac, mki, mof, mpu, mno, u1.2.2.2.2.2.1, u1.2.2.2.2.2.2, mik)))
def f6_isWord (v1 : Int32) (mwo : Int32) : Option Int32 := ((f6_in (v1.toInt64) (Int64.ofNat 0) ((mwo - (iI 1)).toInt64)).bind fun u1 => if okB u1 = true then (some u1) else none)
def l6_pullAt_5 (k : Int32 → Int32 → Option Int32) (v1 : Int32) (v2 : Int32) (mth : Int32) (mof : Nat → Int32) (mpu : Nat → Int32) : Nat → Int32 → Int32 → Option Int32
  | 0, _, _ => none
  | n + 1, v3, v4 => (if mth ≤ v4 then (k v3 v4) else (if ib v4 4 = true then (if ib v4 4 = true then (if v1 ≤ (mof v4.toNatClampNeg) then (if ib v4 4 = true then ((f6_has v2 v4).bind fun u3 => (if u3 = 0 then (l6_pullAt_5 k v1 v2 mth mof mpu n v3 (v4 + (iI 1))) else (if ((mpu v4.toNatClampNeg) - ((mof v4.toNatClampNeg) - v1)) ≤ v3 then (l6_pullAt_5 k v1 v2 mth mof mpu n v3 (v4 + (iI 1))) else (l6_pullAt_5 k v1 v2 mth mof mpu n ((mpu v4.toNatClampNeg) - ((mof v4.toNatClampNeg) - v1)) (v4 + (iI 1)))))) else none) else (if ib v4 4 = true then ((f6_has v2 v4).bind fun u4 => (if u4 = 0 then (l6_pullAt_5 k v1 v2 mth mof mpu n v3 (v4 + (iI 1))) else (if ((mpu v4.toNatClampNeg) - (v1 - (mof v4.toNatClampNeg))) ≤ v3 then (l6_pullAt_5 k v1 v2 mth mof mpu n v3 (v4 + (iI 1))) else (l6_pullAt_5 k v1 v2 mth mof mpu n ((mpu v4.toNatClampNeg) - (v1 - (mof v4.toNatClampNeg))) (v4 + (iI 1)))))) else none)) else none) else none))
def f6_pullAt (v1 : Int32) (v2 : Int32) (mth : Int32) (mof : Nat → Int32) (mpu : Nat → Int32) : Option Int32 := (l6_pullAt_5 (fun v3 v4 => some v3) v1 v2 mth mof mpu FU (iI 0) (iI 0))
def f6_power (v1 : Int32) (v2 : Int32) (v3 : Int32) (mki : Nat → Int32) (mno : Nat → Int32) : Option Int32 := (if ib v2 4 = true then (if (mki v2.toNatClampNeg) = (iI 1) then some ((v1 + (mno (iI 7).toNatClampNeg)) - (v3 / (iI 4))) else some ((v1 + (mno (iI 7).toNatClampNeg)) - (v3 / (iI 2)))) else none)
def f6_comesBy (v1 : Int32) (v2 : Int32) (v3 : Int32) (v4 : Int32) (mth : Int32) (mki : Nat → Int32) (mof : Nat → Int32) (mpu : Nat → Int32) (mno : Nat → Int32) : Option Int32 := ((f6_power v1 v2 v3 mki mno).bind fun u1 => (if u1 ≤ 0 then some (iI 0) else ((f6_pullAt v3 v4 mth mof mpu).bind fun u2 => (if u1 < u2 then some (iI 0) else some (iI 1)))))
def f6_comesNow (v1 : Int32) (v2 : Int32) (mth : Int32) (mki : Nat → Int32) (mof : Nat → Int32) (mpu : Nat → Int32) (mno : Nat → Int32) : Option Int32 := (if ib v1 20 = true then ((f6_comesBy (mno v1.toNatClampNeg) v1 v2 (iI 15) mth mki mof mpu mno).bind fun u1 => if okB u1 = true then (some u1) else none) else none)
def l6_farOf_5 (k : Int32 → Int32 → Option Int32) (v1 : Int32) (mth : Int32) (mki : Nat → Int32) (mof : Nat → Int32) (mpu : Nat → Int32) (mno : Nat → Int32) : Nat → Int32 → Int32 → Option Int32
  | 0, _, _ => none
  | n + 1, v2, v3 => (if (iI 10) ≤ v3 then (k v2 v3) else ((f6_comesNow v1 v3 mth mki mof mpu mno).bind fun u2 => (if u2 = 0 then (l6_farOf_5 k v1 mth mki mof mpu mno n v2 (v3 + (iI 1))) else (l6_farOf_5 k v1 mth mki mof mpu mno n v3 (v3 + (iI 1))))))
def f6_farOf (v1 : Int32) (mth : Int32) (mki : Nat → Int32) (mof : Nat → Int32) (mpu : Nat → Int32) (mno : Nat → Int32) : Option Int32 := (l6_farOf_5 (fun v2 v3 => some v2) v1 mth mki mof mpu mno FU (iI (-9)) (iI 0))
def f6_wears (v1 : Int32) (mki : Nat → Int32) : Option Int32 := (if ib v1 4 = true then (if (mki v1.toNatClampNeg) = (iI 2) then some (iI 2) else some (iI 1)) else none)
def f6_word (v1 : Int32) (v2 : Int32) (mwo : Int32) (mth : Int32) (mki : Nat → Int32) (mof : Nat → Int32) (mpu : Nat → Int32) (mno : Nat → Int32) : Option Int32 := ((f6_isWord v1 mwo).bind fun u1 => (if u1 = 0 then some (iI (-1)) else (if v2 = (iI 0) then (if ib v1 20 = true then some (mno v1.toNatClampNeg) else none) else (if v2 = (iI 1) then (if ib v1 4 = true then some (mki v1.toNatClampNeg) else none) else (if v2 = (iI 2) then (if ib v1 20 = true then ((f6_power (mno v1.toNatClampNeg) v1 (mno (iI 5).toNatClampNeg) mki mno).bind fun u6 => some u6) else none) else (if v2 = (iI 3) then ((f6_comesNow v1 (mno (iI 5).toNatClampNeg) mth mki mof mpu mno).bind fun u5 => (if u5 = 0 then some (iI 0) else some (iI 1))) else (if v2 = (iI 4) then ((f6_farOf v1 mth mki mof mpu mno).bind fun u4 => some u4) else (if v2 = (iI 5) then (if ib v1 20 = true then ((f6_wears v1 mki).bind fun u2 => ((f6_wears v1 mki).bind fun u3 => (if u3 = 0 then none else some ((((mno v1.toNatClampNeg) + u2) - (iI 1)) / u3)))) else none) else some (iI (-2))))))))))
def f6_thing (v1 : Int32) (v2 : Int32) (mth : Int32) (mof : Nat → Int32) (mpu : Nat → Int32) : Option Int32 := ((f6_in (v1.toInt64) (Int64.ofNat 0) ((mth - (iI 1)).toInt64)).bind fun u1 => (if u1 = 0 then some (iI (-1)) else (if v2 = 0 then (if ib v1 4 = true then some (mof v1.toNatClampNeg) else none) else (if v2 = (iI 1) then (if ib v1 4 = true then some (mpu v1.toNatClampNeg) else none) else some (iI (-2))))))
def f6_pull (v1 : Int32) (mth : Int32) (mof : Nat → Int32) (mpu : Nat → Int32) : Option Int32 := ((f6_in (v1.toInt64) (Int64.ofNat 0) (9 : Int64)).bind fun u1 => (if u1 = 0 then some (iI (-2)) else ((f6_pullAt v1 (iI 15) mth mof mpu).bind fun u2 => some u2)))
def f6_callOn (v1 : Int32) (v2 : Int32) (mth : Int32) (mki : Nat → Int32) (mof : Nat → Int32) (mpu : Nat → Int32) (mno : Nat → Int32) : Option (Int32 × (Nat → Int32)) := (if ib (((iI 10) * v1) + (iI 5)) 20 = true then (if ib (((iI 10) * v1) + (iI 7)) 20 = true then (if ib (((iI 10) * v1) + v2) 20 = true then ((f6_comesBy ((mno (((iI 10) * v1) + v2).toNatClampNeg) + ((mno (((iI 10) * v1) + (iI 7)).toNatClampNeg) - (mno (iI 7).toNatClampNeg))) v2 (mno (((iI 10) * v1) + (iI 5)).toNatClampNeg) (iI 15) mth mki mof mpu mno).bind fun u1 => (if ib (((iI 10) * v1) + (iI 9)) 20 = true then (if ib (((iI 10) * v1) + (iI 9)) 20 = true then (if u1 = 0 then (if ib (((iI 10) * v1) + v2) 20 = true then ((f6_wears v2 mki).bind fun u2 => (if 0 ≤ (((upd mno (((iI 10) * v1) + (iI 9)).toNatClampNeg ((mno (((iI 10) * v1) + (iI 9)).toNatClampNeg) + (iI 1))) (((iI 10) * v1) + v2).toNatClampNeg) - u2) then (if ib (((iI 10) * v1) + v2) 20 = true then (if ib (((iI 10) * v1) + (iI 6)) 20 = true then (if (iI 9) ≤ (mno (((iI 10) * v1) + (iI 5)).toNatClampNeg) then (if ib (((iI 10) * v1) + (iI 5)) 20 = true then some ((iI 0), (upd (upd (upd (upd mno (((iI 10) * v1) + (iI 9)).toNatClampNeg ((mno (((iI 10) * v1) + (iI 9)).toNatClampNeg) + (iI 1))) (((iI 10) * v1) + v2).toNatClampNeg (((upd mno (((iI 10) * v1) + (iI 9)).toNatClampNeg ((mno (((iI 10) * v1) + (iI 9)).toNatClampNeg) + (iI 1))) (((iI 10) * v1) + v2).toNatClampNeg) - u2)) (((iI 10) * v1) + (iI 6)).toNatClampNeg (iI (-9))) (((iI 10) * v1) + (iI 5)).toNatClampNeg (iI 9))) else none) else (if ib (((iI 10) * v1) + (iI 5)) 20 = true then some ((iI 0), (upd (upd (upd (upd mno (((iI 10) * v1) + (iI 9)).toNatClampNeg ((mno (((iI 10) * v1) + (iI 9)).toNatClampNeg) + (iI 1))) (((iI 10) * v1) + v2).toNatClampNeg (((upd mno (((iI 10) * v1) + (iI 9)).toNatClampNeg ((mno (((iI 10) * v1) + (iI 9)).toNatClampNeg) + (iI 1))) (((iI 10) * v1) + v2).toNatClampNeg) - u2)) (((iI 10) * v1) + (iI 6)).toNatClampNeg (iI (-9))) (((iI 10) * v1) + (iI 5)).toNatClampNeg ((mno (((iI 10) * v1) + (iI 5)).toNatClampNeg) + (iI 1)))) else none)) else none) else none) else (if ib (((iI 10) * v1) + v2) 20 = true then (if ib (((iI 10) * v1) + (iI 6)) 20 = true then (if (iI 9) ≤ (mno (((iI 10) * v1) + (iI 5)).toNatClampNeg) then (if ib (((iI 10) * v1) + (iI 5)) 20 = true then some ((iI 0), (upd (upd (upd (upd mno (((iI 10) * v1) + (iI 9)).toNatClampNeg ((mno (((iI 10) * v1) + (iI 9)).toNatClampNeg) + (iI 1))) (((iI 10) * v1) + v2).toNatClampNeg (iI 0)) (((iI 10) * v1) + (iI 6)).toNatClampNeg (iI (-9))) (((iI 10) * v1) + (iI 5)).toNatClampNeg (iI 9))) else none) else (if ib (((iI 10) * v1) + (iI 5)) 20 = true then some ((iI 0), (upd (upd (upd (upd mno (((iI 10) * v1) + (iI 9)).toNatClampNeg ((mno (((iI 10) * v1) + (iI 9)).toNatClampNeg) + (iI 1))) (((iI 10) * v1) + v2).toNatClampNeg (iI 0)) (((iI 10) * v1) + (iI 6)).toNatClampNeg (iI (-9))) (((iI 10) * v1) + (iI 5)).toNatClampNeg ((mno (((iI 10) * v1) + (iI 5)).toNatClampNeg) + (iI 1)))) else none)) else none) else none))) else none) else (if ib (((iI 10) * v1) + (iI 5)) 20 = true then (if ib (((iI 10) * v1) + (iI 6)) 20 = true then some ((iI 1), (upd (upd (upd mno (((iI 10) * v1) + (iI 9)).toNatClampNeg ((mno (((iI 10) * v1) + (iI 9)).toNatClampNeg) + (iI 1))) (((iI 10) * v1) + (iI 5)).toNatClampNeg (iI 0)) (((iI 10) * v1) + (iI 6)).toNatClampNeg v2)) else none) else none)) else none) else none)) else none) else none) else none)
def f6_canPay (v1 : Int32) (mno : Nat → Int32) : Option Int32 := (if ib (((iI 10) * v1) + (iI 6)) 20 = true then (if (mno (((iI 10) * v1) + (iI 6)).toNatClampNeg) = (iI (-9)) then some (iI 0) else (if ib (((iI 10) * v1) + (iI 4)) 20 = true then (if (mno (((iI 10) * v1) + (iI 4)).toNatClampNeg) ≤ 0 then some (iI 0) else some (iI 1)) else none)) else none)
def f6_payOn (v1 : Int32) (mno : Nat → Int32) : Option (Int32 × (Nat → Int32)) := (if ib (((iI 10) * v1) + (iI 6)) 20 = true then (if ib (((iI 10) * v1) + (iI 4)) 20 = true then (if ib (((iI 10) * v1) + (iI 4)) 20 = true then (if ib (((iI 10) * v1) + (mno (((iI 10) * v1) + (iI 6)).toNatClampNeg)) 20 = true then (if ib (((iI 10) * v1) + (mno (((iI 10) * v1) + (iI 6)).toNatClampNeg)) 20 = true then (if (iI 9) ≤ ((upd mno (((iI 10) * v1) + (iI 4)).toNatClampNeg ((mno (((iI 10) * v1) + (iI 4)).toNatClampNeg) - (iI 1))) (((iI 10) * v1) + (mno (((iI 10) * v1) + (iI 6)).toNatClampNeg)).toNatClampNeg) then (if ib (((iI 10) * v1) + (mno (((iI 10) * v1) + (iI 6)).toNatClampNeg)) 20 = true then (if ib (((iI 10) * v1) + (iI 6)) 20 = true then (if ib (((iI 10) * v1) + (mno (((iI 10) * v1) + (iI 6)).toNatClampNeg)) 20 = true then some (((upd (upd (upd mno (((iI 10) * v1) + (iI 4)).toNatClampNeg ((mno (((iI 10) * v1) + (iI 4)).toNatClampNeg) - (iI 1))) (((iI 10) * v1) + (mno (((iI 10) * v1) + (iI 6)).toNatClampNeg)).toNatClampNeg (((upd mno (((iI 10) * v1) + (iI 4)).toNatClampNeg ((mno (((iI 10) * v1) + (iI 4)).toNatClampNeg) - (iI 1))) (((iI 10) * v1) + (mno (((iI 10) * v1) + (iI 6)).toNatClampNeg)).toNatClampNeg) + (iI 0))) (((iI 10) * v1) + (iI 6)).toNatClampNeg (iI (-9))) (((iI 10) * v1) + (mno (((iI 10) * v1) + (iI 6)).toNatClampNeg)).toNatClampNeg), (upd (upd (upd mno (((iI 10) * v1) + (iI 4)).toNatClampNeg ((mno (((iI 10) * v1) + (iI 4)).toNatClampNeg) - (iI 1))) (((iI 10) * v1) + (mno (((iI 10) * v1) + (iI 6)).toNatClampNeg)).toNatClampNeg (((upd mno (((iI 10) * v1) + (iI 4)).toNatClampNeg ((mno (((iI 10) * v1) + (iI 4)).toNatClampNeg) - (iI 1))) (((iI 10) * v1) + (mno (((iI 10) * v1) + (iI 6)).toNatClampNeg)).toNatClampNeg) + (iI 0))) (((iI 10) * v1) + (iI 6)).toNatClampNeg (iI (-9)))) else none) else none) else none) else (if ib (((iI 10) * v1) + (mno (((iI 10) * v1) + (iI 6)).toNatClampNeg)) 20 = true then (if ib (((iI 10) * v1) + (iI 6)) 20 = true then (if ib (((iI 10) * v1) + (mno (((iI 10) * v1) + (iI 6)).toNatClampNeg)) 20 = true then some (((upd (upd (upd mno (((iI 10) * v1) + (iI 4)).toNatClampNeg ((mno (((iI 10) * v1) + (iI 4)).toNatClampNeg) - (iI 1))) (((iI 10) * v1) + (mno (((iI 10) * v1) + (iI 6)).toNatClampNeg)).toNatClampNeg (((upd mno (((iI 10) * v1) + (iI 4)).toNatClampNeg ((mno (((iI 10) * v1) + (iI 4)).toNatClampNeg) - (iI 1))) (((iI 10) * v1) + (mno (((iI 10) * v1) + (iI 6)).toNatClampNeg)).toNatClampNeg) + (iI 1))) (((iI 10) * v1) + (iI 6)).toNatClampNeg (iI (-9))) (((iI 10) * v1) + (mno (((iI 10) * v1) + (iI 6)).toNatClampNeg)).toNatClampNeg), (upd (upd (upd mno (((iI 10) * v1) + (iI 4)).toNatClampNeg ((mno (((iI 10) * v1) + (iI 4)).toNatClampNeg) - (iI 1))) (((iI 10) * v1) + (mno (((iI 10) * v1) + (iI 6)).toNatClampNeg)).toNatClampNeg (((upd mno (((iI 10) * v1) + (iI 4)).toNatClampNeg ((mno (((iI 10) * v1) + (iI 4)).toNatClampNeg) - (iI 1))) (((iI 10) * v1) + (mno (((iI 10) * v1) + (iI 6)).toNatClampNeg)).toNatClampNeg) + (iI 1))) (((iI 10) * v1) + (iI 6)).toNatClampNeg (iI (-9)))) else none) else none) else none)) else none) else none) else none) else none) else none)
def f6_runOn (v1 : Int32) (v2 : Int32) (mno : Nat → Int32) : Option (Nat → Int32) := (if ib (((iI 10) * v1) + (iI 5)) 20 = true then (if ((mno (((iI 10) * v1) + (iI 5)).toNatClampNeg) + v2) ≤ (iI 9) then (if ib (((iI 10) * v1) + (iI 5)) 20 = true then (if ib (((iI 10) * v1) + (iI 6)) 20 = true then some (upd (upd mno (((iI 10) * v1) + (iI 5)).toNatClampNeg ((mno (((iI 10) * v1) + (iI 5)).toNatClampNeg) + v2)) (((iI 10) * v1) + (iI 6)).toNatClampNeg (iI (-9))) else none) else none) else (if ib (((iI 10) * v1) + (iI 5)) 20 = true then (if ib (((iI 10) * v1) + (iI 6)) 20 = true then some (upd (upd mno (((iI 10) * v1) + (iI 5)).toNatClampNeg (iI 9)) (((iI 10) * v1) + (iI 6)).toNatClampNeg (iI (-9))) else none) else none)) else none)
def f6_canLead (v1 : Int32) (mno : Nat → Int32) : Option Int32 := (if ib (((iI 10) * v1) + (iI 8)) 20 = true then (if (mno (((iI 10) * v1) + (iI 8)).toNatClampNeg) = (iI 1) then some (iI 1) else (if ib (((iI 10) * v1) + (iI 5)) 20 = true then (if (mno (((iI 10) * v1) + (iI 5)).toNatClampNeg) = 0 then some (iI 1) else some (iI 0)) else none)) else none)
def f6_leadOn (v1 : Int32) (mki : Nat → Int32) (mno : Nat → Int32) : Option (Nat → Int32) := (if ib (((iI 10) * v1) + (iI 6)) 20 = true then (if ib (((iI 10) * v1) + (iI 8)) 20 = true then (if (mno (((iI 10) * v1) + (iI 8)).toNatClampNeg) = 0 then (if (mno (((iI 10) * v1) + (iI 6)).toNatClampNeg) = (iI (-9)) then (if ib (((iI 10) * v1) + (iI 8)) 20 = true then (if ib (((iI 10) * v1) + (iI 8)) 20 = true then some (upd mno (((iI 10) * v1) + (iI 8)).toNatClampNeg ((iI 1) - (mno (((iI 10) * v1) + (iI 8)).toNatClampNeg))) else none) else none) else (if ib (((iI 10) * v1) + (mno (((iI 10) * v1) + (iI 6)).toNatClampNeg)) 20 = true then (if ib (mno (((iI 10) * v1) + (iI 6)).toNatClampNeg) 4 = true then (if (mki (mno (((iI 10) * v1) + (iI 6)).toNatClampNeg).toNatClampNeg) = (iI 3) then (if 0 ≤ ((mno (((iI 10) * v1) + (mno (((iI 10) * v1) + (iI 6)).toNatClampNeg)).toNatClampNeg) - (iI 1)) then (if ib (((iI 10) * v1) + (mno (((iI 10) * v1) + (iI 6)).toNatClampNeg)) 20 = true then (if ib (((iI 10) * v1) + (iI 6)) 20 = true then (if ib (((iI 10) * v1) + (iI 8)) 20 = true then (if ib (((iI 10) * v1) + (iI 8)) 20 = true then some (upd (upd (upd mno (((iI 10) * v1) + (mno (((iI 10) * v1) + (iI 6)).toNatClampNeg)).toNatClampNeg ((mno (((iI 10) * v1) + (mno (((iI 10) * v1) + (iI 6)).toNatClampNeg)).toNatClampNeg) - (iI 1))) (((iI 10) * v1) + (iI 6)).toNatClampNeg (iI (-9))) (((iI 10) * v1) + (iI 8)).toNatClampNeg ((iI 1) - ((upd (upd mno (((iI 10) * v1) + (mno (((iI 10) * v1) + (iI 6)).toNatClampNeg)).toNatClampNeg ((mno (((iI 10) * v1) + (mno (((iI 10) * v1) + (iI 6)).toNatClampNeg)).toNatClampNeg) - (iI 1))) (((iI 10) * v1) + (iI 6)).toNatClampNeg (iI (-9))) (((iI 10) * v1) + (iI 8)).toNatClampNeg))) else none) else none) else none) else none) else (if ib (((iI 10) * v1) + (mno (((iI 10) * v1) + (iI 6)).toNatClampNeg)) 20 = true then (if ib (((iI 10) * v1) + (iI 6)) 20 = true then (if ib (((iI 10) * v1) + (iI 8)) 20 = true then (if ib (((iI 10) * v1) + (iI 8)) 20 = true then some (upd (upd (upd mno (((iI 10) * v1) + (mno (((iI 10) * v1) + (iI 6)).toNatClampNeg)).toNatClampNeg (iI 0)) (((iI 10) * v1) + (iI 6)).toNatClampNeg (iI (-9))) (((iI 10) * v1) + (iI 8)).toNatClampNeg ((iI 1) - ((upd (upd mno (((iI 10) * v1) + (mno (((iI 10) * v1) + (iI 6)).toNatClampNeg)).toNatClampNeg (iI 0)) (((iI 10) * v1) + (iI 6)).toNatClampNeg (iI (-9))) (((iI 10) * v1) + (iI 8)).toNatClampNeg))) else none) else none) else none) else none)) else (if 0 ≤ ((mno (((iI 10) * v1) + (mno (((iI 10) * v1) + (iI 6)).toNatClampNeg)).toNatClampNeg) - (iI 2)) then (if ib (((iI 10) * v1) + (mno (((iI 10) * v1) + (iI 6)).toNatClampNeg)) 20 = true then (if ib (((iI 10) * v1) + (iI 6)) 20 = true then (if ib (((iI 10) * v1) + (iI 8)) 20 = true then (if ib (((iI 10) * v1) + (iI 8)) 20 = true then some (upd (upd (upd mno (((iI 10) * v1) + (mno (((iI 10) * v1) + (iI 6)).toNatClampNeg)).toNatClampNeg ((mno (((iI 10) * v1) + (mno (((iI 10) * v1) + (iI 6)).toNatClampNeg)).toNatClampNeg) - (iI 2))) (((iI 10) * v1) + (iI 6)).toNatClampNeg (iI (-9))) (((iI 10) * v1) + (iI 8)).toNatClampNeg ((iI 1) - ((upd (upd mno (((iI 10) * v1) + (mno (((iI 10) * v1) + (iI 6)).toNatClampNeg)).toNatClampNeg ((mno (((iI 10) * v1) + (mno (((iI 10) * v1) + (iI 6)).toNatClampNeg)).toNatClampNeg) - (iI 2))) (((iI 10) * v1) + (iI 6)).toNatClampNeg (iI (-9))) (((iI 10) * v1) + (iI 8)).toNatClampNeg))) else none) else none) else none) else none) else (if ib (((iI 10) * v1) + (mno (((iI 10) * v1) + (iI 6)).toNatClampNeg)) 20 = true then (if ib (((iI 10) * v1) + (iI 6)) 20 = true then (if ib (((iI 10) * v1) + (iI 8)) 20 = true then (if ib (((iI 10) * v1) + (iI 8)) 20 = true then some (upd (upd (upd mno (((iI 10) * v1) + (mno (((iI 10) * v1) + (iI 6)).toNatClampNeg)).toNatClampNeg (iI 0)) (((iI 10) * v1) + (iI 6)).toNatClampNeg (iI (-9))) (((iI 10) * v1) + (iI 8)).toNatClampNeg ((iI 1) - ((upd (upd mno (((iI 10) * v1) + (mno (((iI 10) * v1) + (iI 6)).toNatClampNeg)).toNatClampNeg (iI 0)) (((iI 10) * v1) + (iI 6)).toNatClampNeg (iI (-9))) (((iI 10) * v1) + (iI 8)).toNatClampNeg))) else none) else none) else none) else none))) else none) else none)) else (if ib (((iI 10) * v1) + (iI 8)) 20 = true then (if ib (((iI 10) * v1) + (iI 8)) 20 = true then some (upd mno (((iI 10) * v1) + (iI 8)).toNatClampNeg ((iI 1) - (mno (((iI 10) * v1) + (iI 8)).toNatClampNeg))) else none) else none)) else none) else none)
def l6_keepAct_2 (k : Int32 → (Nat → Int32) → Option (Int32 × Int32 × (Nat → Int32))) (mnx : Int32) (mno : Nat → Int32) : Nat → Int32 → (Nat → Int32) → Option (Int32 × Int32 × (Nat → Int32))
  | 0, _, _ => none
  | n + 1, v1, mro => (if (iI 10) ≤ v1 then (k v1 mro) else (if ib v1 20 = true then (if ib (((iI 10) * mnx) + v1) 140 = true then (l6_keepAct_2 k mnx mno n (v1 + (iI 1)) (upd mro (((iI 10) * mnx) + v1).toNatClampNeg (mno v1.toNatClampNeg))) else none) else none))
def f6_keepAct (mac : Int32) (mnx : Int32) (mno : Nat → Int32) (mro : Nat → Int32) : Option (Int32 × Int32 × (Nat → Int32)) := (l6_keepAct_2 (fun v1 mro => (if (iI 14) ≤ mac then some ((iI 14), ((mnx + (iI 1)) - (mnx + (iI 1)) / (iI 14) * (iI 14)), mro) else some ((mac + (iI 1)), ((mnx + (iI 1)) - (mnx + (iI 1)) / (iI 14) * (iI 14)), mro))) mnx mno FU (iI 0) mro)
def f6_call (v1 : Int32) (mwo : Int32) (mth : Int32) (mac : Int32) (mnx : Int32) (mki : Nat → Int32) (mof : Nat → Int32) (mpu : Nat → Int32) (mno : Nat → Int32) (mro : Nat → Int32) : Option (Int32 × Int32 × Int32 × (Nat → Int32) × (Nat → Int32)) := ((f6_isWord v1 mwo).bind fun u1 => (if u1 = 0 then some ((iI (-1)), mac, mnx, mno, mro) else (if (mno (iI 8).toNatClampNeg) = (iI 1) then some ((iI (-3)), mac, mnx, mno, mro) else ((f6_keepAct mac mnx mno mro).bind fun u2 => ((f6_callOn (iI 0) v1 mth mki mof mpu mno).bind fun u3 => (if u3.1 = 0 then some ((iI 0), u2.1, u2.2.1, u3.2, u2.2.2) else some ((iI 1), u2.1, u2.2.1, u3.2, u2.2.2)))))))
def f6_pay (mac : Int32) (mnx : Int32) (mno : Nat → Int32) (mro : Nat → Int32) : Option (Int32 × Int32 × Int32 × (Nat → Int32) × (Nat → Int32)) := ((f6_canPay (iI 0) mno).bind fun u1 => (if u1 = 0 then some ((iI (-3)), mac, mnx, mno, mro) else ((f6_keepAct mac mnx mno mro).bind fun u2 => ((f6_payOn (iI 0) mno).bind fun u3 => some (u3.1, u2.1, u2.2.1, u3.2, u2.2.2)))))
def f6_run (v1 : Int32) (mac : Int32) (mnx : Int32) (mno : Nat → Int32) (mro : Nat → Int32) : Option (Int32 × Int32 × Int32 × (Nat → Int32) × (Nat → Int32)) := ((f6_in (v1.toInt64) (Int64.ofNat 1) (9 : Int64)).bind fun u1 => (if u1 = 0 then some ((iI (-2)), mac, mnx, mno, mro) else (if (mno (iI 8).toNatClampNeg) = (iI 1) then some ((iI (-3)), mac, mnx, mno, mro) else ((f6_keepAct mac mnx mno mro).bind fun u2 => ((f6_runOn (iI 0) v1 mno).bind fun u3 => some ((u3 (iI 5).toNatClampNeg), u2.1, u2.2.1, u3, u2.2.2))))))
def f6_lead (mac : Int32) (mnx : Int32) (mki : Nat → Int32) (mno : Nat → Int32) (mro : Nat → Int32) : Option (Int32 × Int32 × Int32 × (Nat → Int32) × (Nat → Int32)) := ((f6_canLead (iI 0) mno).bind fun u1 => (if u1 = 0 then some ((iI (-3)), mac, mnx, mno, mro) else ((f6_keepAct mac mnx mno mro).bind fun u2 => ((f6_leadOn (iI 0) mki mno).bind fun u3 => some ((u3 (iI 8).toNatClampNeg), u2.1, u2.2.1, u3, u2.2.2)))))
def f6_hunger (mac : Int32) (mnx : Int32) (mno : Nat → Int32) (mro : Nat → Int32) : Option (Int32 × Int32 × Int32 × (Nat → Int32) × (Nat → Int32)) := ((f6_keepAct mac mnx mno mro).bind fun u1 => some (((upd mno (iI 7).toNatClampNeg ((iI 1) - (mno (iI 7).toNatClampNeg))) (iI 7).toNatClampNeg), u1.1, u1.2.1, (upd mno (iI 7).toNatClampNeg ((iI 1) - (mno (iI 7).toNatClampNeg))), u1.2.2))
def l6_undo_36 (k : Int32 → (Nat → Int32) → Option (Int32 × Int32 × Int32 × (Nat → Int32))) (mnx : Int32) (mro : Nat → Int32) : Nat → Int32 → (Nat → Int32) → Option (Int32 × Int32 × Int32 × (Nat → Int32))
  | 0, _, _ => none
  | n + 1, v1, mno => (if (iI 10) ≤ v1 then (k v1 mno) else (if ib (((iI 10) * mnx) + v1) 140 = true then (if ib v1 20 = true then (l6_undo_36 k mnx mro n (v1 + (iI 1)) (upd mno v1.toNatClampNeg (mro (((iI 10) * mnx) + v1).toNatClampNeg))) else none) else none))
def f6_undo (mac : Int32) (mnx : Int32) (mno : Nat → Int32) (mro : Nat → Int32) : Option (Int32 × Int32 × Int32 × (Nat → Int32)) := (if mac = 0 then some ((iI (-3)), mac, mnx, mno) else (l6_undo_36 (fun v1 mno => some ((mac - (iI 1)), (mac - (iI 1)), ((mnx + (iI 13)) - (mnx + (iI 13)) / (iI 14) * (iI 14)), mno)) ((mnx + (iI 13)) - (mnx + (iI 13)) / (iI 14) * (iI 14)) mro FU (iI 0) mno))
def f6_comes (v1 : Int32) (v2 : Int32) (mwo : Int32) (mth : Int32) (mki : Nat → Int32) (mof : Nat → Int32) (mpu : Nat → Int32) (mno : Nat → Int32) : Option Int32 := ((f6_isWord v1 mwo).bind fun u1 => (if u1 = 0 then some (iI (-1)) else ((f6_in (v2.toInt64) (Int64.ofNat 0) (9 : Int64)).bind fun u2 => (if u2 = 0 then some (iI (-2)) else ((f6_comesNow v1 v2 mth mki mof mpu mno).bind fun u3 => (if u3 = 0 then some (iI 0) else some (iI 1)))))))
def l6_best_20 (k : Int32 → Int32 → Option Int32) (v1 : Int32) (mwo : Int32) (mth : Int32) (mki : Nat → Int32) (mof : Nat → Int32) (mpu : Nat → Int32) (mno : Nat → Int32) : Nat → Int32 → Int32 → Option Int32
  | 0, _, _ => none
  | n + 1, v2, v3 => (if mwo ≤ v3 then (k v2 v3) else (if v2 = (iI (-9)) then ((f6_comesNow v3 v1 mth mki mof mpu mno).bind fun u7 => (if u7 = 0 then (l6_best_20 k v1 mwo mth mki mof mpu mno n v2 (v3 + (iI 1))) else (l6_best_20 k v1 mwo mth mki mof mpu mno n v3 (v3 + (iI 1))))) else (if ib v3 20 = true then ((f6_power (mno v3.toNatClampNeg) v3 v1 mki mno).bind fun u8 => (if ib v2 20 = true then ((f6_power (mno v2.toNatClampNeg) v2 v1 mki mno).bind fun u9 => (if u8 ≤ u9 then ((f6_comesNow v3 v1 mth mki mof mpu mno).bind fun u10 => (if u10 = 0 then (l6_best_20 k v1 mwo mth mki mof mpu mno n v2 (v3 + (iI 1))) else (l6_best_20 k v1 mwo mth mki mof mpu mno n v2 (v3 + (iI 1))))) else ((f6_comesNow v3 v1 mth mki mof mpu mno).bind fun u11 => (if u11 = 0 then (l6_best_20 k v1 mwo mth mki mof mpu mno n v2 (v3 + (iI 1))) else (l6_best_20 k v1 mwo mth mki mof mpu mno n v3 (v3 + (iI 1))))))) else none)) else none)))
def f6_best (v1 : Int32) (mwo : Int32) (mth : Int32) (mki : Nat → Int32) (mof : Nat → Int32) (mpu : Nat → Int32) (mno : Nat → Int32) : Option Int32 := ((f6_in (v1.toInt64) (Int64.ofNat 0) (9 : Int64)).bind fun u1 => (if u1 = 0 then some (iI (-2)) else (l6_best_20 (fun v2 v3 => some v2) v1 mwo mth mki mof mpu mno FU (iI (-9)) (iI 0))))
def l6_layTrial_2 (k : Int32 → (Nat → Int32) → Option (Nat → Int32)) : Nat → Int32 → (Nat → Int32) → Option (Nat → Int32)
  | 0, _, _ => none
  | n + 1, v1, mno => (if (iI 10) ≤ v1 then (k v1 mno) else (if ib v1 20 = true then (if ib ((iI 10) + v1) 20 = true then (l6_layTrial_2 k n (v1 + (iI 1)) (upd mno ((iI 10) + v1).toNatClampNeg (mno v1.toNatClampNeg))) else none) else none))
def f6_layTrial (mno : Nat → Int32) : Option (Nat → Int32) := (l6_layTrial_2 (fun v1 mno => some mno) FU (iI 0) mno)
def l6_tenTo_4 (k : Int32 → Int32 → Option Int32) (v0 : Int32) : Nat → Int32 → Int32 → Option Int32
  | 0, _, _ => none
  | n + 1, v1, v2 => (if v0 ≤ v2 then (k v1 v2) else (l6_tenTo_4 k v0 n (v1 * (iI 10)) (v2 + (iI 1))))
def f6_tenTo (v0 : Int32) : Option Int32 := (l6_tenTo_4 (fun v1 v2 => some v1) v0 FU (iI 1) (iI 0))
def l6_isRow_6 (k : Int32 → (Nat → Int32) → Option (Int32 × (Nat → Int32))) (v1 : Int32) (v2 : Int32) (mwo : Int32) (mth : Int32) (mki : Nat → Int32) (mof : Nat → Int32) (mpu : Nat → Int32) : Nat → Int32 → (Nat → Int32) → Option (Int32 × (Nat → Int32))
  | 0, _, _ => none
  | n + 1, v3, mno => (if v1 ≤ v3 then (k v3 mno) else ((f6_tenTo ((v1 - (iI 1)) - v3)).bind fun u5 => (if u5 = 0 then none else ((f6_isWord (((v2 / u5) - (v2 / u5) / (iI 10) * (iI 10)) - (iI 1)) mwo).bind fun u6 => (if u6 = 0 then some ((iI 0), mno) else ((f6_callOn (iI 1) (((v2 / u5) - (v2 / u5) / (iI 10) * (iI 10)) - (iI 1)) mth mki mof mpu mno).bind fun u7 => (if v3 = (v1 - (iI 1)) then (if u7.1 = (iI 1) then (l6_isRow_6 k v1 v2 mwo mth mki mof mpu n (v3 + (iI 1)) u7.2) else some ((iI 0), u7.2)) else (if u7.1 = (iI 0) then (l6_isRow_6 k v1 v2 mwo mth mki mof mpu n (v3 + (iI 1)) u7.2) else some ((iI 0), u7.2)))))))))
def f6_isRow (v1 : Int32) (v2 : Int32) (mwo : Int32) (mth : Int32) (mki : Nat → Int32) (mof : Nat → Int32) (mpu : Nat → Int32) (mno : Nat → Int32) : Option (Int32 × (Nat → Int32)) := ((f6_layTrial mno).bind fun u1 => (l6_isRow_6 (fun v3 mno => some ((iI 1), mno)) v1 v2 mwo mth mki mof mpu FU (iI 0) u1))
def l6_fewest_19 (k : Int32 → (Nat → Int32) → Option (Int32 × (Nat → Int32))) (v1 : Int32) (v2 : Int32) (mwo : Int32) (mth : Int32) (mki : Nat → Int32) (mof : Nat → Int32) (mpu : Nat → Int32) : Nat → Int32 → (Nat → Int32) → Option (Int32 × (Nat → Int32))
  | 0, _, _ => none
  | n + 1, v3, mno => ((f6_tenTo v2).bind fun u5 => (if u5 ≤ v3 then (k v3 mno) else ((f6_isRow v2 v3 mwo mth mki mof mpu mno).bind fun u6 => (if u6.1 = 0 then (l6_fewest_19 k v1 v2 mwo mth mki mof mpu n (v3 + (iI 1)) u6.2) else (if v1 = 0 then some (v2, u6.2) else some (v3, u6.2))))))
def l6_fewest_2 (k : Int32 → (Nat → Int32) → Option (Int32 × (Nat → Int32))) (v1 : Int32) (mwo : Int32) (mth : Int32) (mki : Nat → Int32) (mof : Nat → Int32) (mpu : Nat → Int32) : Nat → Int32 → (Nat → Int32) → Option (Int32 × (Nat → Int32))
  | 0, _, _ => none
  | n + 1, v2, mno => (if (iI 5) ≤ v2 then (k v2 mno) else (if (mno (iI 8).toNatClampNeg) = 0 then (l6_fewest_19 (fun v3 mno => (l6_fewest_2 k v1 mwo mth mki mof mpu n (v2 + (iI 1)) mno)) v1 v2 mwo mth mki mof mpu FU (iI 0) mno) else (k v2 mno)))
def f6_fewest (v1 : Int32) (mwo : Int32) (mth : Int32) (mki : Nat → Int32) (mof : Nat → Int32) (mpu : Nat → Int32) (mno : Nat → Int32) : Option (Int32 × (Nat → Int32)) := (l6_fewest_2 (fun v2 mno => some ((iI (-9)), mno)) v1 mwo mth mki mof mpu FU (iI 1) mno)
def l6_good_27 (k : Int32 → Option Int32) (v1 : Int32) (v2 : Int32) (mth : Int32) (mki : Nat → Int32) (mof : Nat → Int32) (mpu : Nat → Int32) (mno : Nat → Int32) : Nat → Int32 → Option Int32
  | 0, _ => none
  | n + 1, v3 => (if ib v1 20 = true then (if (iI 9) < ((mno v1.toNatClampNeg) + v3) then (k v3) else (if ib v1 20 = true then ((f6_comesBy ((mno v1.toNatClampNeg) + v3) v1 v2 (iI 15) mth mki mof mpu mno).bind fun u4 => (if u4 = 0 then (l6_good_27 k v1 v2 mth mki mof mpu mno n (v3 + (iI 1))) else some v3)) else none)) else none)
def f6_good (v1 : Int32) (v2 : Int32) (mwo : Int32) (mth : Int32) (mki : Nat → Int32) (mof : Nat → Int32) (mpu : Nat → Int32) (mno : Nat → Int32) : Option Int32 := ((f6_isWord v1 mwo).bind fun u1 => (if u1 = 0 then some (iI (-1)) else ((f6_in (v2.toInt64) (Int64.ofNat 0) (9 : Int64)).bind fun u2 => (if u2 = 0 then some (iI (-2)) else (l6_good_27 (fun v3 => some (iI (-9))) v1 v2 mth mki mof mpu mno FU (iI 0))))))
def f6_tryThing (v1 : Int32) (mwo : Int32) (mth : Int32) (mki : Nat → Int32) (mof : Nat → Int32) (mpu : Nat → Int32) (mno : Nat → Int32) : Option (Int32 × (Nat → Int32)) := (if (mno (iI 18).toNatClampNeg) = 0 then (if v1 = (iI 0) then some ((iI 1), mno) else (if v1 = (iI 5) then ((f6_canPay (iI 1) mno).bind fun u12 => (if u12 = 0 then if okB u12 = true then (some (u12, mno)) else none else ((f6_payOn (iI 1) mno).bind fun u13 => if okB u12 = true then (some (u12, u13.2)) else none))) else (if v1 = (iI 6) then ((f6_runOn (iI 1) (iI 1) mno).bind fun u11 => some ((iI 1), u11)) else (if v1 = (iI 7) then ((f6_canLead (iI 1) mno).bind fun u9 => (if u9 = 0 then if okB u9 = true then (some (u9, mno)) else none else ((f6_leadOn (iI 1) mki mno).bind fun u10 => if okB u9 = true then (some (u9, u10)) else none))) else (if v1 = (iI 8) then some ((iI 1), (upd mno (iI 17).toNatClampNeg ((iI 1) - (mno (iI 17).toNatClampNeg)))) else (if (iI 5) ≤ v1 then some ((iI 0), mno) else ((f6_isWord (v1 - (iI 1)) mwo).bind fun u7 => (if u7 = 0 then some ((iI 0), mno) else ((f6_callOn (iI 1) (v1 - (iI 1)) mth mki mof mpu mno).bind fun u8 => (if u8.1 = 0 then some ((iI 0), u8.2) else some ((iI 1), u8.2))))))))))) else (if v1 = (iI 0) then some ((iI 1), mno) else (if v1 = (iI 5) then ((f6_canPay (iI 1) mno).bind fun u5 => (if u5 = 0 then if okB u5 = true then (some (u5, mno)) else none else ((f6_payOn (iI 1) mno).bind fun u6 => if okB u5 = true then (some (u5, u6.2)) else none))) else (if v1 = (iI 6) then ((f6_runOn (iI 1) (iI 0) mno).bind fun u4 => some ((iI 0), u4)) else (if v1 = (iI 7) then ((f6_canLead (iI 1) mno).bind fun u2 => (if u2 = 0 then if okB u2 = true then (some (u2, mno)) else none else ((f6_leadOn (iI 1) mki mno).bind fun u3 => if okB u2 = true then (some (u2, u3)) else none))) else (if v1 = (iI 8) then some ((iI 1), (upd mno (iI 17).toNatClampNeg ((iI 1) - (mno (iI 17).toNatClampNeg)))) else (if (iI 5) ≤ v1 then some ((iI 0), mno) else ((f6_isWord (v1 - (iI 1)) mwo).bind fun u1 => (if u1 = 0 then some ((iI 0), mno) else some ((iI 0), mno))))))))))
def l6_judge_37 (k : Int32 → (Nat → Int32) → Option (Int32 × (Nat → Int32))) (v1 : Int32) (v2 : Int32) (mwo : Int32) (mth : Int32) (mki : Nat → Int32) (mof : Nat → Int32) (mpu : Nat → Int32) : Nat → Int32 → (Nat → Int32) → Option (Int32 × (Nat → Int32))
  | 0, _, _ => none
  | n + 1, v3, mno => (if v1 ≤ v3 then (k v3 mno) else ((f6_tenTo ((v1 - (iI 1)) - v3)).bind fun u7 => (if u7 = 0 then none else ((f6_tryThing ((v2 / u7) - (v2 / u7) / (iI 10) * (iI 10)) mwo mth mki mof mpu mno).bind fun u8 => (if u8.1 = 0 then some (v3, u8.2) else (l6_judge_37 k v1 v2 mwo mth mki mof mpu n (v3 + (iI 1)) u8.2))))))
def f6_judge (v1 : Int32) (v2 : Int32) (mwo : Int32) (mth : Int32) (mki : Nat → Int32) (mof : Nat → Int32) (mpu : Nat → Int32) (mno : Nat → Int32) : Option (Int32 × (Nat → Int32)) := ((f6_in (v1.toInt64) (Int64.ofNat 1) (6 : Int64)).bind fun u1 => (if u1 = 0 then some ((iI (-2)), mno) else ((f6_tenTo v1).bind fun u2 => ((f6_in (v2.toInt64) (Int64.ofNat 0) ((u2 - (iI 1)).toInt64)).bind fun u3 => (if u3 = 0 then some ((iI (-2)), mno) else ((f6_layTrial mno).bind fun u4 => (l6_judge_37 (fun v3 mno => some ((iI (-9)), mno)) v1 v2 mwo mth mki mof mpu FU (iI 0) u4)))))))
def f6_see (v1 : Int32) (v2 : Int32) (v3 : Int32) (mwo : Int32) (mse : Int32) (mso : Nat → Int32) (msf : Nat → Int32) (msc : Nat → Int32) : Option (Int32 × Int32 × (Nat → Int32) × (Nat → Int32) × (Nat → Int32)) := ((f6_isWord v1 mwo).bind fun u1 => (if u1 = 0 then some ((iI (-1)), mse, mso, msf, msc) else ((f6_in (v2.toInt64) (Int64.ofNat 0) (9 : Int64)).bind fun u2 => (if u2 = 0 then some ((iI (-2)), mse, mso, msf, msc) else ((f6_in (v3.toInt64) (Int64.ofNat 0) (Int64.ofNat 1)).bind fun u3 => (if u3 = 0 then some ((iI (-2)), mse, mso, msf, msc) else (if mse = (iI 6) then some ((iI (-4)), mse, mso, msf, msc) else (if ib mse 6 = true then (if ib mse 6 = true then (if ib mse 6 = true then some ((mse + (iI 1)), (mse + (iI 1)), (upd mso mse.toNatClampNeg v1), (upd msf mse.toNatClampNeg v2), (upd msc mse.toNatClampNeg v3)) else none) else none) else none))))))))
def f6_unsee (mse : Int32) : Option (Int32 × Int32) := some (mse, (iI 0))
def l6_may_26 (k : Int32 → Int32 → Option Int32) (v1 : Int32) (v3 : Int32) (mth : Int32) (mse : Int32) (mki : Nat → Int32) (mof : Nat → Int32) (mpu : Nat → Int32) (mno : Nat → Int32) (mso : Nat → Int32) (msf : Nat → Int32) (msc : Nat → Int32) : Nat → Int32 → Int32 → Option Int32
  | 0, _, _ => none
  | n + 1, v4, v5 => (if mse ≤ v5 then (k v4 v5) else (if v4 = 0 then (l6_may_26 k v1 v3 mth mse mki mof mpu mno mso msf msc n (iI 0) (v5 + (iI 1))) else (if ib v5 6 = true then (if (mso v5.toNatClampNeg) = v1 then (if ib v5 6 = true then ((f6_comesBy v3 v1 (msf v5.toNatClampNeg) (iI 15) mth mki mof mpu mno).bind fun u4 => (if ib v5 6 = true then (if (msc v5.toNatClampNeg) = (iI 1) then (if u4 = (iI 1) then (l6_may_26 k v1 v3 mth mse mki mof mpu mno mso msf msc n (iI 1) (v5 + (iI 1))) else (l6_may_26 k v1 v3 mth mse mki mof mpu mno mso msf msc n (iI 0) (v5 + (iI 1)))) else (if u4 = (iI 0) then (l6_may_26 k v1 v3 mth mse mki mof mpu mno mso msf msc n (iI 1) (v5 + (iI 1))) else (l6_may_26 k v1 v3 mth mse mki mof mpu mno mso msf msc n (iI 0) (v5 + (iI 1))))) else none)) else none) else (l6_may_26 k v1 v3 mth mse mki mof mpu mno mso msf msc n (iI 1) (v5 + (iI 1)))) else none)))
def l6_may_14 (k : Int32 → Int32 → Option Int32) (v1 : Int32) (mth : Int32) (mse : Int32) (mki : Nat → Int32) (mof : Nat → Int32) (mpu : Nat → Int32) (mno : Nat → Int32) (mso : Nat → Int32) (msf : Nat → Int32) (msc : Nat → Int32) : Nat → Int32 → Int32 → Option Int32
  | 0, _, _ => none
  | n + 1, v2, v3 => (if (iI 10) ≤ v3 then (k v2 v3) else (l6_may_26 (fun v4 v5 => (if v4 = 0 then (l6_may_14 k v1 mth mse mki mof mpu mno mso msf msc n (v2 ||| (iI 0)) (v3 + (iI 1))) else (l6_may_14 k v1 mth mse mki mof mpu mno mso msf msc n (v2 ||| ((iI 1) <<< (v3 &&& 31))) (v3 + (iI 1))))) v1 v3 mth mse mki mof mpu mno mso msf msc FU (iI 1) (iI 0)))
def f6_may (v1 : Int32) (mwo : Int32) (mth : Int32) (mse : Int32) (mki : Nat → Int32) (mof : Nat → Int32) (mpu : Nat → Int32) (mno : Nat → Int32) (mso : Nat → Int32) (msf : Nat → Int32) (msc : Nat → Int32) : Option Int32 := ((f6_isWord v1 mwo).bind fun u1 => (if u1 = 0 then some (iI (-1)) else (l6_may_14 (fun v2 v3 => some v2) v1 mth mse mki mof mpu mno mso msf msc FU (iI 0) (iI 0))))
def l6_factorial_4 (k : Int32 → Int32 → Option Int32) (v0 : Int32) : Nat → Int32 → Int32 → Option Int32
  | 0, _, _ => none
  | n + 1, v1, v2 => (if v0 < v2 then (k v1 v2) else (l6_factorial_4 k v0 n (v1 * v2) (v2 + (iI 1))))
def f6_factorial (v0 : Int32) : Option Int32 := (l6_factorial_4 (fun v1 v2 => some v1) v0 FU (iI 1) (iI 2))
def l6_common_13 (k : Int32 → Int32 → Option Int32) : Nat → Int32 → Int32 → Option Int32
  | 0, _, _ => none
  | n + 1, v2, v3 => (if v3 = 0 then (k v2 v3) else (if v3 = 0 then none else (l6_common_13 k n v3 (v2 - v2 / v3 * v3))))
def f6_common (v0 : Int32) (v1 : Int32) : Option Int32 := (if 0 ≤ v0 then (l6_common_13 (fun v2 v3 => some v2) FU v0 v1) else (l6_common_13 (fun v2 v3 => some v2) FU (-v0) v1))
def l6_reached_16 (k : Int32 → Int32 → Option Int32) (v1 : Int32) (v3 : Int32) (mwo : Int32) (mth : Int32) (mki : Nat → Int32) (mof : Nat → Int32) (mpu : Nat → Int32) (mno : Nat → Int32) : Nat → Int32 → Int32 → Option Int32
  | 0, _, _ => none
  | n + 1, v4, v5 => (if mwo ≤ v5 then (k v4 v5) else (if v4 = 0 then ((f6_has v1 v5).bind fun u5 => (if u5 = 0 then (l6_reached_16 k v1 v3 mwo mth mki mof mpu mno n (iI 0) (v5 + (iI 1))) else ((f6_comesNow v5 v3 mth mki mof mpu mno).bind fun u6 => (if u6 = 0 then (l6_reached_16 k v1 v3 mwo mth mki mof mpu mno n (iI 0) (v5 + (iI 1))) else (l6_reached_16 k v1 v3 mwo mth mki mof mpu mno n (iI 1) (v5 + (iI 1))))))) else (l6_reached_16 k v1 v3 mwo mth mki mof mpu mno n (iI 1) (v5 + (iI 1)))))
def l6_reached_4 (k : Int32 → Int32 → Option Int32) (v1 : Int32) (mwo : Int32) (mth : Int32) (mki : Nat → Int32) (mof : Nat → Int32) (mpu : Nat → Int32) (mno : Nat → Int32) : Nat → Int32 → Int32 → Option Int32
  | 0, _, _ => none
  | n + 1, v2, v3 => (if (iI 10) ≤ v3 then (k v2 v3) else (l6_reached_16 (fun v4 v5 => (if v4 = 0 then (l6_reached_4 k v1 mwo mth mki mof mpu mno n (v2 + (iI 0)) (v3 + (iI 1))) else (l6_reached_4 k v1 mwo mth mki mof mpu mno n (v2 + (iI 1)) (v3 + (iI 1))))) v1 v3 mwo mth mki mof mpu mno FU (iI 0) (iI 0)))
def f6_reached (v1 : Int32) (mwo : Int32) (mth : Int32) (mki : Nat → Int32) (mof : Nat → Int32) (mpu : Nat → Int32) (mno : Nat → Int32) : Option Int32 := (l6_reached_4 (fun v2 v3 => some v2) v1 mwo mth mki mof mpu mno FU (iI 0) (iI 0))
def l6_share_15 (k : Int32 → Int32 → Option Int32) (v1 : Int32) (mwo : Int32) (mth : Int32) (mki : Nat → Int32) (mof : Nat → Int32) (mpu : Nat → Int32) (mno : Nat → Int32) : Nat → Int32 → Int32 → Option Int32
  | 0, _, _ => none
  | n + 1, v3, v4 => (if ((iI 1) <<< (mwo &&& 31)) ≤ v4 then (k v3 v4) else ((f6_has v4 v1).bind fun u9 => (if u9 = 0 then ((f6_ones v4).bind fun u10 => ((f6_factorial u10).bind fun u11 => ((f6_ones v4).bind fun u12 => ((f6_factorial ((mwo - (iI 1)) - u12)).bind fun u13 => ((f6_reached (v4 ||| ((iI 1) <<< (v1 &&& 31))) mwo mth mki mof mpu mno).bind fun u14 => ((f6_reached v4 mwo mth mki mof mpu mno).bind fun u15 => (l6_share_15 k v1 mwo mth mki mof mpu mno n (v3 + ((u11 * u13) * (u14 - u15))) (v4 + (iI 1))))))))) else (l6_share_15 k v1 mwo mth mki mof mpu mno n v3 (v4 + (iI 1))))))
def f6_share (v1 : Int32) (v2 : Int32) (mwo : Int32) (mth : Int32) (mki : Nat → Int32) (mof : Nat → Int32) (mpu : Nat → Int32) (mno : Nat → Int32) : Option Int32 := ((f6_isWord v1 mwo).bind fun u1 => (if u1 = 0 then some (iI (-1)) else (l6_share_15 (fun v3 v4 => ((f6_factorial mwo).bind fun u16 => ((f6_common v3 u16).bind fun u17 => (if v2 = 0 then ((f6_factorial mwo).bind fun u18 => (if u17 = 0 then none else some (u18 / u17))) else (if u17 = 0 then none else some (v3 / u17)))))) v1 mwo mth mki mof mpu mno FU (iI 0) (iI 0))))
def f6_gain (v1 : Int32) (v2 : Int32) (v3 : Int32) (mth : Int32) (mki : Nat → Int32) (mof : Nat → Int32) (mpu : Nat → Int32) (mno : Nat → Int32) : Option Int32 := (if v2 = 0 then some (iI 0) else (if ib v1 20 = true then ((f6_comesBy ((mno v1.toNatClampNeg) - ((iI 2) * v3)) v1 (mno (iI 5).toNatClampNeg) (iI 15) mth mki mof mpu mno).bind fun u1 => (if u1 = 0 then some (iI (-1)) else some ((iI 3) - v3))) else none))
def f6_isRest (v1 : Int32) (v2 : Int32) (v3 : Int32) (v4 : Int32) (mth : Int32) (mki : Nat → Int32) (mof : Nat → Int32) (mpu : Nat → Int32) (mno : Nat → Int32) : Option Int32 := ((f6_gain v1 ((iI 1) - v3) v4 mth mki mof mpu mno).bind fun u1 => ((f6_gain v1 v3 v4 mth mki mof mpu mno).bind fun u2 => (if u2 < u1 then some (iI 0) else ((f6_gain v2 ((iI 1) - v4) v3 mth mki mof mpu mno).bind fun u3 => ((f6_gain v2 v4 v3 mth mki mof mpu mno).bind fun u4 => (if u4 < u3 then some (iI 0) else some (iI 1)))))))
def l6_rests_41 (k : Int32 → Int32 → Int32 → Option Int32) (v1 : Int32) (v2 : Int32) (mth : Int32) (mki : Nat → Int32) (mof : Nat → Int32) (mpu : Nat → Int32) (mno : Nat → Int32) : Nat → Int32 → Int32 → Int32 → Option Int32
  | 0, _, _, _ => none
  | n + 1, v4, v5, v6 => (if (iI 4) ≤ v6 then (k v4 v5 v6) else ((f6_isRest v1 v2 (v6 / (iI 2)) (v6 - v6 / (iI 2) * (iI 2)) mth mki mof mpu mno).bind fun u5 => (if u5 = 0 then (l6_rests_41 k v1 v2 mth mki mof mpu mno n v4 v5 (v6 + (iI 1))) else (if v4 = 0 then (l6_rests_41 k v1 v2 mth mki mof mpu mno n (v4 + (iI 1)) (((iI 10) * (v6 / (iI 2))) + (v6 - v6 / (iI 2) * (iI 2))) (v6 + (iI 1))) else (l6_rests_41 k v1 v2 mth mki mof mpu mno n (v4 + (iI 1)) v5 (v6 + (iI 1)))))))
def f6_rests (v1 : Int32) (v2 : Int32) (v3 : Int32) (mwo : Int32) (mth : Int32) (mki : Nat → Int32) (mof : Nat → Int32) (mpu : Nat → Int32) (mno : Nat → Int32) : Option Int32 := ((f6_isWord v1 mwo).bind fun u1 => (if u1 = 0 then some (iI (-1)) else ((f6_isWord v2 mwo).bind fun u2 => (if u2 = 0 then some (iI (-1)) else ((f6_in (v3.toInt64) (Int64.ofNat 0) (Int64.ofNat 1)).bind fun u3 => (if u3 = 0 then some (iI (-2)) else (l6_rests_41 (fun v4 v5 v6 => (if v3 = 0 then some v4 else some v5)) v1 v2 mth mki mof mpu mno FU (iI 0) (iI (-9)) (iI 0))))))))
def l6_there_51 (k : Int32 → Int32 → Option Int32) (v2 : Int32) (v6 : Int32) (mth : Int32) : Nat → Int32 → Int32 → Option Int32
  | 0, _, _ => none
  | n + 1, v7, v8 => (if mth ≤ v8 then (k v7 v8) else ((f6_has v6 v8).bind fun u6 => (if u6 = 0 then (l6_there_51 k v2 v6 mth n (v7 * ((iI 10) - v2)) (v8 + (iI 1))) else (l6_there_51 k v2 v6 mth n (v7 * v2) (v8 + (iI 1))))))
def l6_there_34 (k : Int32 → Int32 → Int32 → Option Int32) (v1 : Int32) (v2 : Int32) (mth : Int32) (mki : Nat → Int32) (mof : Nat → Int32) (mpu : Nat → Int32) (mno : Nat → Int32) : Nat → Int32 → Int32 → Int32 → Option Int32
  | 0, _, _, _ => none
  | n + 1, v4, v5, v6 => (if ((iI 1) <<< (mth &&& 31)) ≤ v6 then (k v4 v5 v6) else (l6_there_51 (fun v7 v8 => (if ib v1 20 = true then ((f6_comesBy (mno v1.toNatClampNeg) v1 (mno (iI 5).toNatClampNeg) v6 mth mki mof mpu mno).bind fun u7 => (if u7 = 0 then (l6_there_34 k v1 v2 mth mki mof mpu mno n (v4 + (iI 0)) (v5 + v7) (v6 + (iI 1))) else (l6_there_34 k v1 v2 mth mki mof mpu mno n (v4 + v7) (v5 + v7) (v6 + (iI 1))))) else none)) v2 v6 mth FU (iI 1) (iI 0)))
def f6_there (v1 : Int32) (v2 : Int32) (v3 : Int32) (mwo : Int32) (mth : Int32) (mki : Nat → Int32) (mof : Nat → Int32) (mpu : Nat → Int32) (mno : Nat → Int32) : Option Int32 := ((f6_isWord v1 mwo).bind fun u1 => (if u1 = 0 then some (iI (-1)) else ((f6_in (v2.toInt64) (Int64.ofNat 0) (10 : Int64)).bind fun u2 => (if u2 = 0 then some (iI (-2)) else (l6_there_34 (fun v4 v5 v6 => ((f6_common v4 v5).bind fun u8 => (if v3 = 0 then (if u8 = 0 then none else some (v5 / u8)) else (if u8 = 0 then none else some (v4 / u8))))) v1 v2 mth mki mof mpu mno FU (iI 0) (iI 0) (iI 0))))))
def f6_seed (v1 : Int64) (msd : Int64) : Option (Int64 × Int64) := some (msd, v1)
def l6_walks_23 (k : Int32 → Int32 → Int64 → (Nat → Int32) → Option (Int32 × Int64 × (Nat → Int32))) (v1 : Int32) (mwo : Int32) (mth : Int32) (mki : Nat → Int32) (mof : Nat → Int32) (mpu : Nat → Int32) : Nat → Int32 → Int32 → Int64 → (Nat → Int32) → Option (Int32 × Int64 × (Nat → Int32))
  | 0, _, _, _, _ => none
  | n + 1, v2, v3, msd, mno => (if v1 ≤ v3 then (k v2 v3 msd mno) else (if (mno (iI 18).toNatClampNeg) = 0 then ((f6_runOn (iI 1) (((((((msd * (6364136223846793005 : Int64)) + (1442695040888963407 : Int64)).toUInt64 >>> ((iI 33).toInt64.toUInt64 &&& Int64.toUInt64 63)).toInt64) - ((((msd * (6364136223846793005 : Int64)) + (1442695040888963407 : Int64)).toUInt64 >>> ((iI 33).toInt64.toUInt64 &&& Int64.toUInt64 63)).toInt64) / (20 : Int64) * (20 : Int64)).toInt32) - ((((((msd * (6364136223846793005 : Int64)) + (1442695040888963407 : Int64)).toUInt64 >>> ((iI 33).toInt64.toUInt64 &&& Int64.toUInt64 63)).toInt64) - ((((msd * (6364136223846793005 : Int64)) + (1442695040888963407 : Int64)).toUInt64 >>> ((iI 33).toInt64.toUInt64 &&& Int64.toUInt64 63)).toInt64) / (20 : Int64) * (20 : Int64)).toInt32) / (iI 5) * (iI 5)) mno).bind fun u18 => ((f6_isWord (((((((msd * (6364136223846793005 : Int64)) + (1442695040888963407 : Int64)).toUInt64 >>> ((iI 33).toInt64.toUInt64 &&& Int64.toUInt64 63)).toInt64) - ((((msd * (6364136223846793005 : Int64)) + (1442695040888963407 : Int64)).toUInt64 >>> ((iI 33).toInt64.toUInt64 &&& Int64.toUInt64 63)).toInt64) / (20 : Int64) * (20 : Int64)).toInt32) / (iI 5)) mwo).bind fun u19 => (if u19 = 0 then (l6_walks_23 k v1 mwo mth mki mof mpu n (v2 + (iI 0)) (v3 + (iI 1)) ((msd * (6364136223846793005 : Int64)) + (1442695040888963407 : Int64)) u18) else ((f6_callOn (iI 1) (((((((msd * (6364136223846793005 : Int64)) + (1442695040888963407 : Int64)).toUInt64 >>> ((iI 33).toInt64.toUInt64 &&& Int64.toUInt64 63)).toInt64) - ((((msd * (6364136223846793005 : Int64)) + (1442695040888963407 : Int64)).toUInt64 >>> ((iI 33).toInt64.toUInt64 &&& Int64.toUInt64 63)).toInt64) / (20 : Int64) * (20 : Int64)).toInt32) / (iI 5)) mth mki mof mpu u18).bind fun u20 => (if u20.1 = 0 then (l6_walks_23 k v1 mwo mth mki mof mpu n (v2 + (iI 0)) (v3 + (iI 1)) ((msd * (6364136223846793005 : Int64)) + (1442695040888963407 : Int64)) u20.2) else ((f6_canPay (iI 1) u20.2).bind fun u21 => (if u21 = 0 then (l6_walks_23 k v1 mwo mth mki mof mpu n (v2 + (iI 1)) (v3 + (iI 1)) ((msd * (6364136223846793005 : Int64)) + (1442695040888963407 : Int64)) u20.2) else ((f6_payOn (iI 1) u20.2).bind fun u22 => (l6_walks_23 k v1 mwo mth mki mof mpu n (v2 + (iI 1)) (v3 + (iI 1)) ((msd * (6364136223846793005 : Int64)) + (1442695040888963407 : Int64)) u22.2))))))))) else (l6_walks_23 k v1 mwo mth mki mof mpu n v2 (v3 + (iI 1)) ((msd * (6364136223846793005 : Int64)) + (1442695040888963407 : Int64)) mno)))
def f6_walks (v1 : Int32) (mwo : Int32) (mth : Int32) (msd : Int64) (mki : Nat → Int32) (mof : Nat → Int32) (mpu : Nat → Int32) (mno : Nat → Int32) : Option (Int32 × Int64 × (Nat → Int32)) := ((f6_in (v1.toInt64) (Int64.ofNat 1) (30 : Int64)).bind fun u1 => (if u1 = 0 then some ((iI (-2)), msd, mno) else ((f6_layTrial mno).bind fun u2 => (l6_walks_23 (fun v2 v3 msd mno => some (v2, msd, mno)) v1 mwo mth mki mof mpu FU (iI 0) (iI 0) msd u2))))
def l6_keep_21 (k : Int32 → (Nat → Int32) → Option (Int32 × (Nat → Int32) × (Nat → Int32))) (v1 : Int32) (mno : Nat → Int32) : Nat → Int32 → (Nat → Int32) → Option (Int32 × (Nat → Int32) × (Nat → Int32))
  | 0, _, _ => none
  | n + 1, v2, mkt => (if (iI 10) ≤ v2 then (k v2 mkt) else (if ib v2 20 = true then (if ib (((iI 10) * v1) + v2) 20 = true then (l6_keep_21 k v1 mno n (v2 + (iI 1)) (upd mkt (((iI 10) * v1) + v2).toNatClampNeg (mno v2.toNatClampNeg))) else none) else none))
def f6_keep (v1 : Int32) (mno : Nat → Int32) (mik : Nat → Int32) (mkt : Nat → Int32) : Option (Int32 × (Nat → Int32) × (Nat → Int32)) := ((f6_in (v1.toInt64) (Int64.ofNat 0) (Int64.ofNat 1)).bind fun u1 => (if u1 = 0 then some ((iI (-1)), mik, mkt) else (if ib v1 2 = true then (l6_keep_21 (fun v2 mkt => some ((mno (iI 9).toNatClampNeg), (upd mik v1.toNatClampNeg (vp_nar .boolean (iI 1))), mkt)) v1 mno FU (iI 0) mkt) else none)))
def l6_again_26 (k : Int32 → (Nat → Int32) → Option (Int32 × Int32 × (Nat → Int32))) (v1 : Int32) (mkt : Nat → Int32) : Nat → Int32 → (Nat → Int32) → Option (Int32 × Int32 × (Nat → Int32))
  | 0, _, _ => none
  | n + 1, v2, mno => (if (iI 10) ≤ v2 then (k v2 mno) else (if ib (((iI 10) * v1) + v2) 20 = true then (if ib v2 20 = true then (l6_again_26 k v1 mkt n (v2 + (iI 1)) (upd mno v2.toNatClampNeg (mkt (((iI 10) * v1) + v2).toNatClampNeg))) else none) else none))
def f6_again (v1 : Int32) (mac : Int32) (mno : Nat → Int32) (mik : Nat → Int32) (mkt : Nat → Int32) : Option (Int32 × Int32 × (Nat → Int32)) := ((f6_in (v1.toInt64) (Int64.ofNat 0) (Int64.ofNat 1)).bind fun u1 => (if u1 = 0 then some ((iI (-1)), mac, mno) else (if ib v1 2 = true then (if (mik v1.toNatClampNeg) = 0 then some ((iI (-3)), mac, mno) else (l6_again_26 (fun v2 mno => some ((mno (iI 9).toNatClampNeg), (iI 0), mno)) v1 mkt FU (iI 0) mno)) else none)))
def f6_count (v1 : Int32) (mwo : Int32) (mth : Int32) (mln : Int32) (mac : Int32) (mse : Int32) (mno : Nat → Int32) : Option Int32 := (if v1 = (iI 0) then some mln else (if v1 = (iI 1) then some mwo else (if v1 = (iI 2) then some mth else (if v1 = (iI 3) then some (mno (iI 4).toNatClampNeg) else (if v1 = (iI 4) then some (mno (iI 5).toNatClampNeg) else (if v1 = (iI 5) then some (mno (iI 6).toNatClampNeg) else (if v1 = (iI 6) then some (mno (iI 7).toNatClampNeg) else (if v1 = (iI 7) then some (mno (iI 8).toNatClampNeg) else (if v1 = (iI 8) then some (mno (iI 9).toNatClampNeg) else (if v1 = (iI 9) then some mac else (if v1 = (iI 10) then some mse else some (iI (-2)))))))))))))
end
