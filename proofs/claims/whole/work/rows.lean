section
/-- a private method of a class that the tables say can be made, by its rows of tables_1 -/
def lw_okq (q : MethodName × Nat) : Prop := (q.1.cls ≠ "java/lang/invoke/MethodHandle" ∧ q.1.cls ≠ "java/lang/invoke/VarHandle") ∧ Cond.instantiable q.1.cls q.2 ∈ tables_1 ∧ Cond.privateMethod q.1 ∈ tables_1 ∧ Cond.instanceMethod q.1 ∈ tables_1
theorem lw_p0 : lw_okq (⟨"MaynotBeSeen", "refuse", "(I)I"⟩, 10) := ⟨⟨by decide +kernel, by decide +kernel⟩, List.mem_of_getElem? (i := 15) (by decide +kernel), List.mem_of_getElem? (i := 153) (by decide +kernel), List.mem_of_getElem? (i := 154) (by decide +kernel)⟩
theorem lw_p1 : lw_okq (⟨"MaynotBeSeen", "firstCure", "(I)I"⟩, 10) := ⟨⟨by decide +kernel, by decide +kernel⟩, List.mem_of_getElem? (i := 15) (by decide +kernel), List.mem_of_getElem? (i := 336) (by decide +kernel), List.mem_of_getElem? (i := 337) (by decide +kernel)⟩
theorem lw_p2 : lw_okq (⟨"MaynotBeSeen", "twoCure", "()Z"⟩, 10) := ⟨⟨by decide +kernel, by decide +kernel⟩, List.mem_of_getElem? (i := 15) (by decide +kernel), List.mem_of_getElem? (i := 340) (by decide +kernel), List.mem_of_getElem? (i := 341) (by decide +kernel)⟩
theorem lw_p3 : lw_okq (⟨"MaynotBeSeen", "ordersBehind", "(II)I"⟩, 10) := ⟨⟨by decide +kernel, by decide +kernel⟩, List.mem_of_getElem? (i := 15) (by decide +kernel), List.mem_of_getElem? (i := 402) (by decide +kernel), List.mem_of_getElem? (i := 403) (by decide +kernel)⟩
theorem lw_p4 : lw_okq (⟨"MaynotBeSeen", "firstCarried", "()I"⟩, 10) := ⟨⟨by decide +kernel, by decide +kernel⟩, List.mem_of_getElem? (i := 15) (by decide +kernel), List.mem_of_getElem? (i := 406) (by decide +kernel), List.mem_of_getElem? (i := 407) (by decide +kernel)⟩
theorem lw_p5 : lw_okq (⟨"MaynotBeSeen", "firstBadMove", "()I"⟩, 10) := ⟨⟨by decide +kernel, by decide +kernel⟩, List.mem_of_getElem? (i := 15) (by decide +kernel), List.mem_of_getElem? (i := 422) (by decide +kernel), List.mem_of_getElem? (i := 423) (by decide +kernel)⟩
theorem lw_p6 : lw_okq (⟨"MaynotBeSeenModel", "no", "(I)I"⟩, 23) := ⟨⟨by decide +kernel, by decide +kernel⟩, List.mem_of_getElem? (i := 456) (by decide +kernel), List.mem_of_getElem? (i := 536) (by decide +kernel), List.mem_of_getElem? (i := 537) (by decide +kernel)⟩
theorem lw_p7 : lw_okq (⟨"MaynotBeSeenModel", "statement", "(Z)I"⟩, 23) := ⟨⟨by decide +kernel, by decide +kernel⟩, List.mem_of_getElem? (i := 456) (by decide +kernel), List.mem_of_getElem? (i := 544) (by decide +kernel), List.mem_of_getElem? (i := 545) (by decide +kernel)⟩
theorem lw_p8 : lw_okq (⟨"MaynotBeSeenModel", "is", "(I)Z"⟩, 23) := ⟨⟨by decide +kernel, by decide +kernel⟩, List.mem_of_getElem? (i := 456) (by decide +kernel), List.mem_of_getElem? (i := 548) (by decide +kernel), List.mem_of_getElem? (i := 549) (by decide +kernel)⟩
theorem lw_p9 : lw_okq (⟨"MaynotBeSeenModel", "digit", "(I)Z"⟩, 23) := ⟨⟨by decide +kernel, by decide +kernel⟩, List.mem_of_getElem? (i := 456) (by decide +kernel), List.mem_of_getElem? (i := 552) (by decide +kernel), List.mem_of_getElem? (i := 553) (by decide +kernel)⟩
theorem lw_p10 : lw_okq (⟨"MaynotBeSeenModel", "isLine", "(I)Z"⟩, 23) := ⟨⟨by decide +kernel, by decide +kernel⟩, List.mem_of_getElem? (i := 456) (by decide +kernel), List.mem_of_getElem? (i := 556) (by decide +kernel), List.mem_of_getElem? (i := 557) (by decide +kernel)⟩
theorem lw_p11 : lw_okq (⟨"MaynotBeSeenModel", "isOld", "(II)Z"⟩, 23) := ⟨⟨by decide +kernel, by decide +kernel⟩, List.mem_of_getElem? (i := 456) (by decide +kernel), List.mem_of_getElem? (i := 649) (by decide +kernel), List.mem_of_getElem? (i := 650) (by decide +kernel)⟩
theorem lw_p12 : lw_okq (⟨"MaynotBeSeenModel", "isThing", "(I)Z"⟩, 23) := ⟨⟨by decide +kernel, by decide +kernel⟩, List.mem_of_getElem? (i := 456) (by decide +kernel), List.mem_of_getElem? (i := 655) (by decide +kernel), List.mem_of_getElem? (i := 656) (by decide +kernel)⟩
theorem lw_p13 : lw_okq (⟨"MaynotBeSeenModel", "give", "(II)I"⟩, 23) := ⟨⟨by decide +kernel, by decide +kernel⟩, List.mem_of_getElem? (i := 456) (by decide +kernel), List.mem_of_getElem? (i := 659) (by decide +kernel), List.mem_of_getElem? (i := 660) (by decide +kernel)⟩
theorem lw_p14 : lw_okq (⟨"MaynotBeSeenModel", "keep", "([I)V"⟩, 23) := ⟨⟨by decide +kernel, by decide +kernel⟩, List.mem_of_getElem? (i := 456) (by decide +kernel), List.mem_of_getElem? (i := 663) (by decide +kernel), List.mem_of_getElem? (i := 664) (by decide +kernel)⟩
theorem lw_p15 : lw_okq (⟨"MaynotBeSeenModel", "again", "([I)V"⟩, 23) := ⟨⟨by decide +kernel, by decide +kernel⟩, List.mem_of_getElem? (i := 456) (by decide +kernel), List.mem_of_getElem? (i := 667) (by decide +kernel), List.mem_of_getElem? (i := 668) (by decide +kernel)⟩
def lw_privs_1 : List (MethodName × Nat) := [(⟨"MaynotBeSeen", "refuse", "(I)I"⟩, 10), (⟨"MaynotBeSeen", "firstCure", "(I)I"⟩, 10), (⟨"MaynotBeSeen", "twoCure", "()Z"⟩, 10), (⟨"MaynotBeSeen", "ordersBehind", "(II)I"⟩, 10), (⟨"MaynotBeSeen", "firstCarried", "()I"⟩, 10), (⟨"MaynotBeSeen", "firstBadMove", "()I"⟩, 10), (⟨"MaynotBeSeenModel", "no", "(I)I"⟩, 23), (⟨"MaynotBeSeenModel", "statement", "(Z)I"⟩, 23), (⟨"MaynotBeSeenModel", "is", "(I)Z"⟩, 23), (⟨"MaynotBeSeenModel", "digit", "(I)Z"⟩, 23), (⟨"MaynotBeSeenModel", "isLine", "(I)Z"⟩, 23), (⟨"MaynotBeSeenModel", "isOld", "(II)Z"⟩, 23), (⟨"MaynotBeSeenModel", "isThing", "(I)Z"⟩, 23), (⟨"MaynotBeSeenModel", "give", "(II)I"⟩, 23), (⟨"MaynotBeSeenModel", "keep", "([I)V"⟩, 23), (⟨"MaynotBeSeenModel", "again", "([I)V"⟩, 23)]
theorem lw_r1 : ∀ q ∈ lw_privs_1, lw_okq q := List.forall_mem_cons.mpr ⟨lw_p0, List.forall_mem_cons.mpr ⟨lw_p1, List.forall_mem_cons.mpr ⟨lw_p2, List.forall_mem_cons.mpr ⟨lw_p3, List.forall_mem_cons.mpr ⟨lw_p4, List.forall_mem_cons.mpr ⟨lw_p5, List.forall_mem_cons.mpr ⟨lw_p6, List.forall_mem_cons.mpr ⟨lw_p7, List.forall_mem_cons.mpr ⟨lw_p8, List.forall_mem_cons.mpr ⟨lw_p9, List.forall_mem_cons.mpr ⟨lw_p10, List.forall_mem_cons.mpr ⟨lw_p11, List.forall_mem_cons.mpr ⟨lw_p12, List.forall_mem_cons.mpr ⟨lw_p13, List.forall_mem_cons.mpr ⟨lw_p14, List.forall_mem_cons.mpr ⟨lw_p15, fun _ h => absurd h List.not_mem_nil⟩⟩⟩⟩⟩⟩⟩⟩⟩⟩⟩⟩⟩⟩⟩⟩
theorem lw_p16 : lw_okq (⟨"MaynotBeSeenModel", "fromWhere", "(II)I"⟩, 23) := ⟨⟨by decide +kernel, by decide +kernel⟩, List.mem_of_getElem? (i := 456) (by decide +kernel), List.mem_of_getElem? (i := 700) (by decide +kernel), List.mem_of_getElem? (i := 701) (by decide +kernel)⟩
theorem lw_p17 : lw_okq (⟨"MaynotBeSeenModel", "plain", "(II)I"⟩, 23) := ⟨⟨by decide +kernel, by decide +kernel⟩, List.mem_of_getElem? (i := 456) (by decide +kernel), List.mem_of_getElem? (i := 704) (by decide +kernel), List.mem_of_getElem? (i := 705) (by decide +kernel)⟩
theorem lw_p18 : lw_okq (⟨"MaynotBeSeenModel", "beside", "(IZ)I"⟩, 23) := ⟨⟨by decide +kernel, by decide +kernel⟩, List.mem_of_getElem? (i := 456) (by decide +kernel), List.mem_of_getElem? (i := 708) (by decide +kernel), List.mem_of_getElem? (i := 709) (by decide +kernel)⟩
theorem lw_p19 : lw_okq (⟨"MaynotBeSeenModel", "sinsIn", "(I)I"⟩, 23) := ⟨⟨by decide +kernel, by decide +kernel⟩, List.mem_of_getElem? (i := 456) (by decide +kernel), List.mem_of_getElem? (i := 723) (by decide +kernel), List.mem_of_getElem? (i := 724) (by decide +kernel)⟩
theorem lw_p20 : lw_okq (⟨"MaynotBeSeenModel", "look", "(I)V"⟩, 23) := ⟨⟨by decide +kernel, by decide +kernel⟩, List.mem_of_getElem? (i := 456) (by decide +kernel), List.mem_of_getElem? (i := 727) (by decide +kernel), List.mem_of_getElem? (i := 728) (by decide +kernel)⟩
theorem lw_p21 : lw_okq (⟨"MaynotBeSeenModel", "oneMoved", "()I"⟩, 23) := ⟨⟨by decide +kernel, by decide +kernel⟩, List.mem_of_getElem? (i := 456) (by decide +kernel), List.mem_of_getElem? (i := 744) (by decide +kernel), List.mem_of_getElem? (i := 745) (by decide +kernel)⟩
theorem lw_p22 : lw_okq (⟨"MaynotBeSeenModel", "byTwo", "()Z"⟩, 23) := ⟨⟨by decide +kernel, by decide +kernel⟩, List.mem_of_getElem? (i := 456) (by decide +kernel), List.mem_of_getElem? (i := 748) (by decide +kernel), List.mem_of_getElem? (i := 749) (by decide +kernel)⟩
theorem lw_p23 : lw_okq (⟨"MaynotBeSeenModel", "all", "()I"⟩, 23) := ⟨⟨by decide +kernel, by decide +kernel⟩, List.mem_of_getElem? (i := 456) (by decide +kernel), List.mem_of_getElem? (i := 760) (by decide +kernel), List.mem_of_getElem? (i := 761) (by decide +kernel)⟩
theorem lw_p24 : lw_okq (⟨"MaynotBeSeenModel", "waysFor", "(IZ)I"⟩, 23) := ⟨⟨by decide +kernel, by decide +kernel⟩, List.mem_of_getElem? (i := 456) (by decide +kernel), List.mem_of_getElem? (i := 764) (by decide +kernel), List.mem_of_getElem? (i := 765) (by decide +kernel)⟩
theorem lw_p25 : lw_okq (⟨"MaynotBeSeenModel", "mayBe", "(IIZ)Z"⟩, 23) := ⟨⟨by decide +kernel, by decide +kernel⟩, List.mem_of_getElem? (i := 456) (by decide +kernel), List.mem_of_getElem? (i := 772) (by decide +kernel), List.mem_of_getElem? (i := 773) (by decide +kernel)⟩
theorem lw_p26 : lw_okq (⟨"MaynotBeSeenModel", "isClean", "(II)Z"⟩, 23) := ⟨⟨by decide +kernel, by decide +kernel⟩, List.mem_of_getElem? (i := 456) (by decide +kernel), List.mem_of_getElem? (i := 796) (by decide +kernel), List.mem_of_getElem? (i := 797) (by decide +kernel)⟩
def lw_privs_2 : List (MethodName × Nat) := [(⟨"MaynotBeSeenModel", "fromWhere", "(II)I"⟩, 23), (⟨"MaynotBeSeenModel", "plain", "(II)I"⟩, 23), (⟨"MaynotBeSeenModel", "beside", "(IZ)I"⟩, 23), (⟨"MaynotBeSeenModel", "sinsIn", "(I)I"⟩, 23), (⟨"MaynotBeSeenModel", "look", "(I)V"⟩, 23), (⟨"MaynotBeSeenModel", "oneMoved", "()I"⟩, 23), (⟨"MaynotBeSeenModel", "byTwo", "()Z"⟩, 23), (⟨"MaynotBeSeenModel", "all", "()I"⟩, 23), (⟨"MaynotBeSeenModel", "waysFor", "(IZ)I"⟩, 23), (⟨"MaynotBeSeenModel", "mayBe", "(IIZ)Z"⟩, 23), (⟨"MaynotBeSeenModel", "isClean", "(II)Z"⟩, 23)]
theorem lw_r2 : ∀ q ∈ lw_privs_2, lw_okq q := List.forall_mem_cons.mpr ⟨lw_p16, List.forall_mem_cons.mpr ⟨lw_p17, List.forall_mem_cons.mpr ⟨lw_p18, List.forall_mem_cons.mpr ⟨lw_p19, List.forall_mem_cons.mpr ⟨lw_p20, List.forall_mem_cons.mpr ⟨lw_p21, List.forall_mem_cons.mpr ⟨lw_p22, List.forall_mem_cons.mpr ⟨lw_p23, List.forall_mem_cons.mpr ⟨lw_p24, List.forall_mem_cons.mpr ⟨lw_p25, List.forall_mem_cons.mpr ⟨lw_p26, fun _ h => absurd h List.not_mem_nil⟩⟩⟩⟩⟩⟩⟩⟩⟩⟩⟩
def lw_privs : List (MethodName × Nat) := lw_privs_1 ++ (lw_privs_2)
def lw_tbl : List Cond := k2_sels lw_privs ++ tables_1
theorem lw_privs_ok : ∀ q ∈ lw_privs, lw_okq q := by
  show ∀ q ∈ lw_privs_1 ++ (lw_privs_2), lw_okq q
  exact List.forall_mem_append.mpr ⟨lw_r1, lw_r2⟩
def RX0 : String := "MaynotBeSeen$Givings"
def TX0 : u_T := fun k => match k with
  | 0 => ("MaynotBeSeen$Givings", "thingCount", "I", false)
  | 1 => ("MaynotBeSeen$Givings", "allowed", "[I", true)
  | _ => ("MaynotBeSeen$Givings", "within", "[I", true)
def tyX0 : Nat → FieldType := fun k => match k with
  | 0 => .int
  | 1 => .array .int
  | _ => .array .int
theorem nmX0 : ∀ a, a < 3 → ∀ b, b < 3 → a ≠ b → (TX0 a).2.1 ≠ (TX0 b).2.1 := by decide +kernel
theorem tyX0_ok : ∀ k, k < 3 → parseFieldDescriptor (TX0 k).2.2.1 = some (tyX0 k) := by decide +kernel
abbrev cX0_init : ByteArray := prog_2_method_1_code
def yX0_init : MethodName := ⟨RX0, "<init>", "()V"⟩
abbrev cX0_allowUnseen : ByteArray := prog_2_method_2_code
def yX0_allowUnseen : MethodName := ⟨RX0, "allowUnseen", "(LMaynotBeSeen$House;)V"⟩
abbrev cX0_allowApart : ByteArray := prog_2_method_3_code
def yX0_allowApart : MethodName := ⟨RX0, "allowApart", "(LMaynotBeSeen$House;)V"⟩
abbrev cX0_reckon : ByteArray := prog_2_method_4_code
def yX0_reckon : MethodName := ⟨RX0, "reckon", "()V"⟩
abbrev cX0_leastOf : ByteArray := prog_2_method_5_code
def yX0_leastOf : MethodName := ⟨RX0, "leastOf", "(I)I"⟩
abbrev cX0_ofAll : ByteArray := prog_2_method_6_code
def yX0_ofAll : MethodName := ⟨RX0, "ofAll", "()I"⟩
abbrev cX0_othersOf : ByteArray := prog_2_method_7_code
def yX0_othersOf : MethodName := ⟨RX0, "othersOf", "(I)I"⟩
def RX1 : String := "MaynotBeSeen$House"
def TX1 : u_T := fun k => match k with
  | 0 => ("MaynotBeSeen$House", "lineCount", "I", false)
  | 1 => ("MaynotBeSeen$House", "lesser", "[I", true)
  | 2 => ("MaynotBeSeen$House", "greater", "[I", true)
  | 3 => ("MaynotBeSeen$House", "hidden", "I", false)
  | 4 => ("MaynotBeSeen$House", "joined", "[I", true)
  | 5 => ("MaynotBeSeen$House", "open", "[I", true)
  | 6 => ("MaynotBeSeen$House", "thingCount", "I", false)
  | 7 => ("MaynotBeSeen$House", "kinds", "[I", true)
  | 8 => ("MaynotBeSeen$House", "rooms", "[I", true)
  | 9 => ("MaynotBeSeen$House", "others", "[I", true)
  | 10 => ("MaynotBeSeen$House", "hour", "I", false)
  | 11 => ("MaynotBeSeen$House", "setCount", "I", false)
  | _ => ("MaynotBeSeen$House", "sets", "[I", true)
def tyX1 : Nat → FieldType := fun k => match k with
  | 0 => .int
  | 1 => .array .int
  | 2 => .array .int
  | 3 => .int
  | 4 => .array .int
  | 5 => .array .int
  | 6 => .int
  | 7 => .array .int
  | 8 => .array .int
  | 9 => .array .int
  | 10 => .int
  | 11 => .int
  | _ => .array .int
theorem nmX1 : ∀ a, a < 13 → ∀ b, b < 13 → a ≠ b → (TX1 a).2.1 ≠ (TX1 b).2.1 := by decide +kernel
theorem tyX1_ok : ∀ k, k < 13 → parseFieldDescriptor (TX1 k).2.2.1 = some (tyX1 k) := by decide +kernel
abbrev cX1_init : ByteArray := prog_3_method_1_code
def yX1_init : MethodName := ⟨RX1, "<init>", "()V"⟩
abbrev cX1_become : ByteArray := prog_3_method_2_code
def yX1_become : MethodName := ⟨RX1, "become", "(LMaynotBeSeen$House;)V"⟩
abbrev cX1_hasThing : ByteArray := prog_3_method_3_code
def yX1_hasThing : MethodName := ⟨RX1, "hasThing", "(I)Z"⟩
abbrev cX1_hasLine : ByteArray := prog_3_method_4_code
def yX1_hasLine : MethodName := ⟨RX1, "hasLine", "(I)Z"⟩
abbrev cX1_allThings : ByteArray := prog_3_method_5_code
def yX1_allThings : MethodName := ⟨RX1, "allThings", "()I"⟩
abbrev cX1_coupledCount : ByteArray := prog_3_method_6_code
def yX1_coupledCount : MethodName := ⟨RX1, "coupledCount", "()I"⟩
abbrev cX1_hang : ByteArray := prog_3_method_7_code
def yX1_hang : MethodName := ⟨RX1, "hang", "(I)V"⟩
abbrev cX1_couple : ByteArray := prog_3_method_8_code
def yX1_couple : MethodName := ⟨RX1, "couple", "(II)I"⟩
abbrev cX1_leave : ByteArray := prog_3_method_9_code
def yX1_leave : MethodName := ⟨RX1, "leave", "(I)I"⟩
abbrev cX1_addLine : ByteArray := prog_3_method_10_code
def yX1_addLine : MethodName := ⟨RX1, "addLine", "(II)Z"⟩
abbrev cX1_addThing : ByteArray := prog_3_method_11_code
def yX1_addThing : MethodName := ⟨RX1, "addThing", "(II)Z"⟩
abbrev cX1_obey : ByteArray := prog_3_method_12_code
def yX1_obey : MethodName := ⟨RX1, "obey", "(III)Z"⟩
abbrev cX1_toggle : ByteArray := prog_3_method_13_code
def yX1_toggle : MethodName := ⟨RX1, "toggle", "(I)Z"⟩
abbrev cX1_acquaint : ByteArray := prog_3_method_14_code
def yX1_acquaint : MethodName := ⟨RX1, "acquaint", "(II)Z"⟩
abbrev cX1_bring : ByteArray := prog_3_method_15_code
def yX1_bring : MethodName := ⟨RX1, "bring", "(II)Z"⟩
abbrev cX1_strike : ByteArray := prog_3_method_16_code
def yX1_strike : MethodName := ⟨RX1, "strike", "(I)Z"⟩
abbrev cX1_seenFrom : ByteArray := prog_3_method_17_code
def yX1_seenFrom : MethodName := ⟨RX1, "seenFrom", "(II)I"⟩
abbrev cX1_meet : ByteArray := prog_3_method_18_code
def yX1_meet : MethodName := ⟨RX1, "meet", "(III)Z"⟩
abbrev cX1_everMeet : ByteArray := prog_3_method_19_code
def yX1_everMeet : MethodName := ⟨RX1, "everMeet", "(II)Z"⟩
abbrev cX1_sinsAsLesser : ByteArray := prog_3_method_20_code
def yX1_sinsAsLesser : MethodName := ⟨RX1, "sinsAsLesser", "(II)Z"⟩
abbrev cX1_firstSin : ByteArray := prog_3_method_21_code
def yX1_firstSin : MethodName := ⟨RX1, "firstSin", "(I)I"⟩
abbrev cX1_sinCount : ByteArray := prog_3_method_22_code
def yX1_sinCount : MethodName := ⟨RX1, "sinCount", "(I)I"⟩
abbrev cX1_firstSinfulHour : ByteArray := prog_3_method_23_code
def yX1_firstSinfulHour : MethodName := ⟨RX1, "firstSinfulHour", "()I"⟩
def RX2 : String := "MaynotBeSeen$Text"
def TX2 : u_T := fun k => match k with
  | 0 => ("MaynotBeSeen$Text", "letters", "[I", true)
  | _ => ("MaynotBeSeen$Text", "size", "I", false)
def tyX2 : Nat → FieldType := fun k => match k with
  | 0 => .array .int
  | _ => .int
theorem nmX2 : ∀ a, a < 2 → ∀ b, b < 2 → a ≠ b → (TX2 a).2.1 ≠ (TX2 b).2.1 := by decide +kernel
theorem tyX2_ok : ∀ k, k < 2 → parseFieldDescriptor (TX2 k).2.2.1 = some (tyX2 k) := by decide +kernel
abbrev cX2_init : ByteArray := prog_4_method_1_code
def yX2_init : MethodName := ⟨RX2, "<init>", "()V"⟩
abbrev cX2_put : ByteArray := prog_4_method_2_code
def yX2_put : MethodName := ⟨RX2, "put", "(I)I"⟩
abbrev cX2_readInto : ByteArray := prog_4_method_3_code
def yX2_readInto : MethodName := ⟨RX2, "readInto", "(LMaynotBeSeen$House;)I"⟩
abbrev cX2_firstUnfit : ByteArray := prog_4_method_4_code
def yX2_firstUnfit : MethodName := ⟨RX2, "firstUnfit", "()I"⟩
abbrev cX2_fits : ByteArray := prog_4_method_5_code
def yX2_fits : MethodName := ⟨RX2, "fits", "(III)Z"⟩
abbrev cX2_statementLength : ByteArray := prog_4_method_6_code
def yX2_statementLength : MethodName := ⟨RX2, "statementLength", "(I)I"⟩
abbrev cX2_digit : ByteArray := prog_4_method_7_code
def yX2_digit : MethodName := ⟨RX2, "digit", "(I)I"⟩
abbrev cX2_kind : ByteArray := prog_4_method_8_code
def yX2_kind : MethodName := ⟨RX2, "kind", "(I)I"⟩
def RX3 : String := "MaynotBeSeen"
def TX3 : u_T := fun k => match k with
  | 0 => ("MaynotBeSeen", "now", "LMaynotBeSeen$House;", true)
  | 1 => ("MaynotBeSeen", "mind", "LMaynotBeSeen$House;", true)
  | 2 => ("MaynotBeSeen", "kept", "LMaynotBeSeen$House;", true)
  | 3 => ("MaynotBeSeen", "isKept", "Z", false)
  | 4 => ("MaynotBeSeen", "text", "LMaynotBeSeen$Text;", true)
  | 5 => ("MaynotBeSeen", "givings", "LMaynotBeSeen$Givings;", true)
  | 6 => ("MaynotBeSeen", "orders", "[I", true)
  | 7 => ("MaynotBeSeen", "moves", "[I", true)
  | 8 => ("MaynotBeSeen", "moveCount", "I", false)
  | _ => ("MaynotBeSeen", "refusals", "[I", true)
def tyX3 : Nat → FieldType := fun k => match k with
  | 0 => .object "MaynotBeSeen$House"
  | 1 => .object "MaynotBeSeen$House"
  | 2 => .object "MaynotBeSeen$House"
  | 3 => .boolean
  | 4 => .object "MaynotBeSeen$Text"
  | 5 => .object "MaynotBeSeen$Givings"
  | 6 => .array .int
  | 7 => .array .int
  | 8 => .int
  | _ => .array .int
theorem nmX3 : ∀ a, a < 10 → ∀ b, b < 10 → a ≠ b → (TX3 a).2.1 ≠ (TX3 b).2.1 := by decide +kernel
theorem tyX3_ok : ∀ k, k < 10 → parseFieldDescriptor (TX3 k).2.2.1 = some (tyX3 k) := by decide +kernel
abbrev cX3_init : ByteArray := prog_1_method_1_code
def yX3_init : MethodName := ⟨RX3, "<init>", "()V"⟩
abbrev cX3_letter : ByteArray := prog_1_method_2_code
def yX3_letter : MethodName := ⟨RX3, "letter", "(I)I"⟩
abbrev cX3_house : ByteArray := prog_1_method_3_code
def yX3_house : MethodName := ⟨RX3, "house", "()I"⟩
abbrev cX3_thing : ByteArray := prog_1_method_4_code
def yX3_thing : MethodName := ⟨RX3, "thing", "(II)I"⟩
abbrev cX3_line : ByteArray := prog_1_method_5_code
def yX3_line : MethodName := ⟨RX3, "line", "(II)I"⟩
abbrev cX3_curtain : ByteArray := prog_1_method_6_code
def yX3_curtain : MethodName := ⟨RX3, "curtain", "(I)I"⟩
abbrev cX3_move : ByteArray := prog_1_method_7_code
def yX3_move : MethodName := ⟨RX3, "move", "(II)I"⟩
abbrev cX3_pair : ByteArray := prog_1_method_8_code
def yX3_pair : MethodName := ⟨RX3, "pair", "(II)I"⟩
abbrev cX3_hour : ByteArray := prog_1_method_9_code
def yX3_hour : MethodName := ⟨RX3, "hour", "(I)I"⟩
abbrev cX3_seen : ByteArray := prog_1_method_10_code
def yX3_seen : MethodName := ⟨RX3, "seen", "(II)I"⟩
abbrev cX3_from : ByteArray := prog_1_method_11_code
def yX3_from : MethodName := ⟨RX3, "from", "(II)I"⟩
abbrev cX3_sins : ByteArray := prog_1_method_12_code
def yX3_sins : MethodName := ⟨RX3, "sins", "(II)I"⟩
abbrev cX3_day : ByteArray := prog_1_method_13_code
def yX3_day : MethodName := ⟨RX3, "day", "()I"⟩
abbrev cX3_curtains : ByteArray := prog_1_method_14_code
def yX3_curtains : MethodName := ⟨RX3, "curtains", "()I"⟩
abbrev cX3_moved : ByteArray := prog_1_method_15_code
def yX3_moved : MethodName := ⟨RX3, "moved", "(I)I"⟩
abbrev cX3_given : ByteArray := prog_1_method_16_code
def yX3_given : MethodName := ⟨RX3, "given", "(I)I"⟩
abbrev cX3_pairings : ByteArray := prog_1_method_17_code
def yX3_pairings : MethodName := ⟨RX3, "pairings", "(I)I"⟩
abbrev cX3_together : ByteArray := prog_1_method_18_code
def yX3_together : MethodName := ⟨RX3, "together", "(I)I"⟩
abbrev cX3_may : ByteArray := prog_1_method_19_code
def yX3_may : MethodName := ⟨RX3, "may", "(I)I"⟩
abbrev cX3_ways : ByteArray := prog_1_method_20_code
def yX3_ways : MethodName := ⟨RX3, "ways", "()I"⟩
abbrev cX3_feast : ByteArray := prog_1_method_21_code
def yX3_feast : MethodName := ⟨RX3, "feast", "(II)I"⟩
abbrev cX3_clean : ByteArray := prog_1_method_22_code
def yX3_clean : MethodName := ⟨RX3, "clean", "(I)I"⟩
abbrev cX3_row : ByteArray := prog_1_method_23_code
def yX3_row : MethodName := ⟨RX3, "row", "(I)I"⟩
abbrev cX3_judge : ByteArray := prog_1_method_24_code
def yX3_judge : MethodName := ⟨RX3, "judge", "()I"⟩
abbrev cX3_seeds : ByteArray := prog_1_method_25_code
def yX3_seeds : MethodName := ⟨RX3, "seeds", "(II)I"⟩
abbrev cX3_image : ByteArray := prog_1_method_26_code
def yX3_image : MethodName := ⟨RX3, "image", "()I"⟩
abbrev cX3_on : ByteArray := prog_1_method_27_code
def yX3_on : MethodName := ⟨RX3, "on", "()I"⟩
abbrev cX3_count : ByteArray := prog_1_method_28_code
def yX3_count : MethodName := ⟨RX3, "count", "(I)I"⟩
abbrev cX3_refuse : ByteArray := prog_1_method_29_code
def yX3_refuse : MethodName := ⟨RX3, "refuse", "(I)I"⟩
abbrev cX3_outOf : ByteArray := prog_1_method_30_code
def yX3_outOf : MethodName := ⟨RX3, "outOf", "(III)I"⟩
abbrev cX3_isRoom : ByteArray := prog_1_method_31_code
def yX3_isRoom : MethodName := ⟨RX3, "isRoom", "(I)Z"⟩
abbrev cX3_firstCure : ByteArray := prog_1_method_32_code
def yX3_firstCure : MethodName := ⟨RX3, "firstCure", "(I)I"⟩
abbrev cX3_twoCure : ByteArray := prog_1_method_33_code
def yX3_twoCure : MethodName := ⟨RX3, "twoCure", "()Z"⟩
abbrev cX3_ordersBehind : ByteArray := prog_1_method_34_code
def yX3_ordersBehind : MethodName := ⟨RX3, "ordersBehind", "(II)I"⟩
abbrev cX3_firstCarried : ByteArray := prog_1_method_35_code
def yX3_firstCarried : MethodName := ⟨RX3, "firstCarried", "()I"⟩
abbrev cX3_firstBadMove : ByteArray := prog_1_method_36_code
def yX3_firstBadMove : MethodName := ⟨RX3, "firstBadMove", "()I"⟩
abbrev cX3_nextSeed : ByteArray := prog_1_method_37_code
def yX3_nextSeed : MethodName := ⟨RX3, "nextSeed", "(I)I"⟩
abbrev cX3_draw : ByteArray := prog_1_method_38_code
def yX3_draw : MethodName := ⟨RX3, "draw", "(II)I"⟩
def RX4 : String := "MaynotBeSeenModel"
def TX4 : u_T := fun k => match k with
  | 0 => ("MaynotBeSeenModel", "lines", "I", false)
  | 1 => ("MaynotBeSeenModel", "one", "[I", true)
  | 2 => ("MaynotBeSeenModel", "two", "[I", true)
  | 3 => ("MaynotBeSeenModel", "hung", "I", false)
  | 4 => ("MaynotBeSeenModel", "things", "I", false)
  | 5 => ("MaynotBeSeenModel", "kind", "[I", true)
  | 6 => ("MaynotBeSeenModel", "room", "[I", true)
  | 7 => ("MaynotBeSeenModel", "other", "[I", true)
  | 8 => ("MaynotBeSeenModel", "hour", "I", false)
  | 9 => ("MaynotBeSeenModel", "sets", "I", false)
  | 10 => ("MaynotBeSeenModel", "set", "[I", true)
  | 11 => ("MaynotBeSeenModel", "letters", "I", false)
  | 12 => ("MaynotBeSeenModel", "letter", "[I", true)
  | 13 => ("MaynotBeSeenModel", "at", "I", false)
  | 14 => ("MaynotBeSeenModel", "value", "[I", true)
  | 15 => ("MaynotBeSeenModel", "inRow", "I", false)
  | 16 => ("MaynotBeSeenModel", "row", "[I", true)
  | 17 => ("MaynotBeSeenModel", "refusals", "[I", true)
  | 18 => ("MaynotBeSeenModel", "imaged", "Z", false)
  | 19 => ("MaynotBeSeenModel", "image", "[I", true)
  | 20 => ("MaynotBeSeenModel", "ahead", "[I", true)
  | 21 => ("MaynotBeSeenModel", "seen", "[I", true)
  | _ => ("MaynotBeSeenModel", "orders", "[I", true)
def tyX4 : Nat → FieldType := fun k => match k with
  | 0 => .int
  | 1 => .array .int
  | 2 => .array .int
  | 3 => .int
  | 4 => .int
  | 5 => .array .int
  | 6 => .array .int
  | 7 => .array .int
  | 8 => .int
  | 9 => .int
  | 10 => .array .int
  | 11 => .int
  | 12 => .array .int
  | 13 => .int
  | 14 => .array .int
  | 15 => .int
  | 16 => .array .int
  | 17 => .array .int
  | 18 => .boolean
  | 19 => .array .int
  | 20 => .array .int
  | 21 => .array .int
  | _ => .array .int
theorem nmX4 : ∀ a, a < 23 → ∀ b, b < 23 → a ≠ b → (TX4 a).2.1 ≠ (TX4 b).2.1 := by decide +kernel
theorem tyX4_ok : ∀ k, k < 23 → parseFieldDescriptor (TX4 k).2.2.1 = some (tyX4 k) := by decide +kernel
abbrev cX4_init : ByteArray := prog_6_method_1_code
def yX4_init : MethodName := ⟨RX4, "<init>", "()V"⟩
abbrev cX4_no : ByteArray := prog_6_method_2_code
def yX4_no : MethodName := ⟨RX4, "no", "(I)I"⟩
abbrev cX4_within : ByteArray := prog_6_method_3_code
def yX4_within : MethodName := ⟨RX4, "within", "(III)Z"⟩
abbrev cX4_has : ByteArray := prog_6_method_4_code
def yX4_has : MethodName := ⟨RX4, "has", "(II)Z"⟩
abbrev cX4_isThing : ByteArray := prog_6_method_5_code
def yX4_isThing : MethodName := ⟨RX4, "isThing", "(I)Z"⟩
abbrev cX4_isLine : ByteArray := prog_6_method_6_code
def yX4_isLine : MethodName := ⟨RX4, "isLine", "(I)Z"⟩
abbrev cX4_isRoom : ByteArray := prog_6_method_7_code
def yX4_isRoom : MethodName := ⟨RX4, "isRoom", "(I)Z"⟩
abbrev cX4_letter : ByteArray := prog_6_method_8_code
def yX4_letter : MethodName := ⟨RX4, "letter", "(I)I"⟩
abbrev cX4_is : ByteArray := prog_6_method_9_code
def yX4_is : MethodName := ⟨RX4, "is", "(I)Z"⟩
abbrev cX4_digit : ByteArray := prog_6_method_10_code
def yX4_digit : MethodName := ⟨RX4, "digit", "(I)Z"⟩
abbrev cX4_isOld : ByteArray := prog_6_method_11_code
def yX4_isOld : MethodName := ⟨RX4, "isOld", "(II)Z"⟩
abbrev cX4_statement : ByteArray := prog_6_method_12_code
def yX4_statement : MethodName := ⟨RX4, "statement", "(Z)I"⟩
abbrev cX4_house : ByteArray := prog_6_method_13_code
def yX4_house : MethodName := ⟨RX4, "house", "()I"⟩
abbrev cX4_give : ByteArray := prog_6_method_14_code
def yX4_give : MethodName := ⟨RX4, "give", "(II)I"⟩
abbrev cX4_thing : ByteArray := prog_6_method_15_code
def yX4_thing : MethodName := ⟨RX4, "thing", "(II)I"⟩
abbrev cX4_line : ByteArray := prog_6_method_16_code
def yX4_line : MethodName := ⟨RX4, "line", "(II)I"⟩
abbrev cX4_curtain : ByteArray := prog_6_method_17_code
def yX4_curtain : MethodName := ⟨RX4, "curtain", "(I)I"⟩
abbrev cX4_move : ByteArray := prog_6_method_18_code
def yX4_move : MethodName := ⟨RX4, "move", "(II)I"⟩
abbrev cX4_pair : ByteArray := prog_6_method_19_code
def yX4_pair : MethodName := ⟨RX4, "pair", "(II)I"⟩
abbrev cX4_hour : ByteArray := prog_6_method_20_code
def yX4_hour : MethodName := ⟨RX4, "hour", "(I)I"⟩
abbrev cX4_beside : ByteArray := prog_6_method_21_code
def yX4_beside : MethodName := ⟨RX4, "beside", "(IZ)I"⟩
abbrev cX4_plain : ByteArray := prog_6_method_22_code
def yX4_plain : MethodName := ⟨RX4, "plain", "(II)I"⟩
abbrev cX4_fromWhere : ByteArray := prog_6_method_23_code
def yX4_fromWhere : MethodName := ⟨RX4, "fromWhere", "(II)I"⟩
abbrev cX4_look : ByteArray := prog_6_method_24_code
def yX4_look : MethodName := ⟨RX4, "look", "(I)V"⟩
abbrev cX4_sinsIn : ByteArray := prog_6_method_25_code
def yX4_sinsIn : MethodName := ⟨RX4, "sinsIn", "(I)I"⟩
abbrev cX4_seen : ByteArray := prog_6_method_26_code
def yX4_seen : MethodName := ⟨RX4, "seen", "(II)I"⟩
abbrev cX4_from : ByteArray := prog_6_method_27_code
def yX4_from : MethodName := ⟨RX4, "from", "(II)I"⟩
abbrev cX4_sins : ByteArray := prog_6_method_28_code
def yX4_sins : MethodName := ⟨RX4, "sins", "(II)I"⟩
abbrev cX4_day : ByteArray := prog_6_method_29_code
def yX4_day : MethodName := ⟨RX4, "day", "()I"⟩
abbrev cX4_curtains : ByteArray := prog_6_method_30_code
def yX4_curtains : MethodName := ⟨RX4, "curtains", "()I"⟩
abbrev cX4_oneMoved : ByteArray := prog_6_method_31_code
def yX4_oneMoved : MethodName := ⟨RX4, "oneMoved", "()I"⟩
abbrev cX4_byTwo : ByteArray := prog_6_method_32_code
def yX4_byTwo : MethodName := ⟨RX4, "byTwo", "()Z"⟩
abbrev cX4_moved : ByteArray := prog_6_method_33_code
def yX4_moved : MethodName := ⟨RX4, "moved", "(I)I"⟩
abbrev cX4_given : ByteArray := prog_6_method_34_code
def yX4_given : MethodName := ⟨RX4, "given", "(I)I"⟩
abbrev cX4_mayBe : ByteArray := prog_6_method_35_code
def yX4_mayBe : MethodName := ⟨RX4, "mayBe", "(IIZ)Z"⟩
abbrev cX4_waysFor : ByteArray := prog_6_method_36_code
def yX4_waysFor : MethodName := ⟨RX4, "waysFor", "(IZ)I"⟩
abbrev cX4_all : ByteArray := prog_6_method_37_code
def yX4_all : MethodName := ⟨RX4, "all", "()I"⟩
abbrev cX4_pairings : ByteArray := prog_6_method_38_code
def yX4_pairings : MethodName := ⟨RX4, "pairings", "(I)I"⟩
abbrev cX4_together : ByteArray := prog_6_method_39_code
def yX4_together : MethodName := ⟨RX4, "together", "(I)I"⟩
abbrev cX4_may : ByteArray := prog_6_method_40_code
def yX4_may : MethodName := ⟨RX4, "may", "(I)I"⟩
abbrev cX4_ways : ByteArray := prog_6_method_41_code
def yX4_ways : MethodName := ⟨RX4, "ways", "()I"⟩
abbrev cX4_feast : ByteArray := prog_6_method_42_code
def yX4_feast : MethodName := ⟨RX4, "feast", "(II)I"⟩
abbrev cX4_isClean : ByteArray := prog_6_method_43_code
def yX4_isClean : MethodName := ⟨RX4, "isClean", "(II)Z"⟩
abbrev cX4_clean : ByteArray := prog_6_method_44_code
def yX4_clean : MethodName := ⟨RX4, "clean", "(I)I"⟩
abbrev cX4_row : ByteArray := prog_6_method_45_code
def yX4_row : MethodName := ⟨RX4, "row", "(I)I"⟩
abbrev cX4_judge : ByteArray := prog_6_method_46_code
def yX4_judge : MethodName := ⟨RX4, "judge", "()I"⟩
abbrev cX4_seeds : ByteArray := prog_6_method_47_code
def yX4_seeds : MethodName := ⟨RX4, "seeds", "(II)I"⟩
abbrev cX4_keep : ByteArray := prog_6_method_48_code
def yX4_keep : MethodName := ⟨RX4, "keep", "([I)V"⟩
abbrev cX4_again : ByteArray := prog_6_method_49_code
def yX4_again : MethodName := ⟨RX4, "again", "([I)V"⟩
abbrev cX4_image : ByteArray := prog_6_method_50_code
def yX4_image : MethodName := ⟨RX4, "image", "()I"⟩
abbrev cX4_on : ByteArray := prog_6_method_51_code
def yX4_on : MethodName := ⟨RX4, "on", "()I"⟩
abbrev cX4_count : ByteArray := prog_6_method_52_code
def yX4_count : MethodName := ⟨RX4, "count", "(I)I"⟩
def RJ11 : String := "java/lang/Character"
def TJ11 : u_T := fun k => match k with
  | _ => ("", "", "", false)
def tyJ11 : Nat → FieldType := fun k => match k with
  | _ => .int
theorem nmJ11 : ∀ a, a < 0 → ∀ b, b < 0 → a ≠ b → (TJ11 a).2.1 ≠ (TJ11 b).2.1 := by decide +kernel
theorem tyJ11_ok : ∀ k, k < 0 → parseFieldDescriptor (TJ11 k).2.2.1 = some (tyJ11 k) := by decide +kernel
abbrev cJ11_isValidCodePoint_9a6ad : ByteArray := prog_7_method_11_code
def yJ11_isValidCodePoint_9a6ad : MethodName := ⟨RJ11, "isValidCodePoint", "(I)Z"⟩
abbrev cJ11_highSurrogate_5068e : ByteArray := prog_7_method_28_code
def yJ11_highSurrogate_5068e : MethodName := ⟨RJ11, "highSurrogate", "(I)C"⟩
abbrev cJ11_lowSurrogate_5068e : ByteArray := prog_7_method_29_code
def yJ11_lowSurrogate_5068e : MethodName := ⟨RJ11, "lowSurrogate", "(I)C"⟩
def RJ6 : String := "java/lang/Integer"
def TJ6 : u_T := fun k => match k with
  | _ => ("", "", "", false)
def tyJ6 : Nat → FieldType := fun k => match k with
  | _ => .int
theorem nmJ6 : ∀ a, a < 0 → ∀ b, b < 0 → a ≠ b → (TJ6 a).2.1 ≠ (TJ6 b).2.1 := by decide +kernel
theorem tyJ6_ok : ∀ k, k < 0 → parseFieldDescriptor (TJ6 k).2.2.1 = some (tyJ6 k) := by decide +kernel
abbrev cJ6_numberOfTrailingZeros_0f7a4 : ByteArray := prog_8_method_48_code
def yJ6_numberOfTrailingZeros_0f7a4 : MethodName := ⟨RJ6, "numberOfTrailingZeros", "(I)I"⟩
abbrev cJ6_bitCount_0f7a4 : ByteArray := prog_8_method_49_code
def yJ6_bitCount_0f7a4 : MethodName := ⟨RJ6, "bitCount", "(I)I"⟩
def RJ9 : String := "java/lang/Math"
def TJ9 : u_T := fun k => match k with
  | _ => ("", "", "", false)
def tyJ9 : Nat → FieldType := fun k => match k with
  | _ => .int
theorem nmJ9 : ∀ a, a < 0 → ∀ b, b < 0 → a ≠ b → (TJ9 a).2.1 ≠ (TJ9 b).2.1 := by decide +kernel
theorem tyJ9_ok : ∀ k, k < 0 → parseFieldDescriptor (TJ9 k).2.2.1 = some (tyJ9 k) := by decide +kernel
abbrev cJ9_max_7cf53 : ByteArray := prog_9_method_65_code
def yJ9_max_7cf53 : MethodName := ⟨RJ9, "max", "(II)I"⟩
abbrev cJ9_min_7cf53 : ByteArray := prog_9_method_69_code
def yJ9_min_7cf53 : MethodName := ⟨RJ9, "min", "(II)I"⟩
def RJ0 : String := "java/lang/String"
def TJ0 : u_T := fun k => match k with
  | _ => ("", "", "", false)
def tyJ0 : Nat → FieldType := fun k => match k with
  | _ => .int
theorem nmJ0 : ∀ a, a < 0 → ∀ b, b < 0 → a ≠ b → (TJ0 a).2.1 ≠ (TJ0 b).2.1 := by decide +kernel
theorem tyJ0_ok : ∀ k, k < 0 → parseFieldDescriptor (TJ0 k).2.2.1 = some (tyJ0 k) := by decide +kernel
abbrev cJ0_length_8abf5 : ByteArray := prog_10_method_54_code
def yJ0_length_8abf5 : MethodName := ⟨RJ0, "length", "()I"⟩
abbrev cJ0_indexOf_0f7a4 : ByteArray := prog_10_method_79_code
def yJ0_indexOf_0f7a4 : MethodName := ⟨RJ0, "indexOf", "(I)I"⟩
abbrev cJ0_indexOf_7cf53 : ByteArray := prog_10_method_80_code
def yJ0_indexOf_7cf53 : MethodName := ⟨RJ0, "indexOf", "(II)I"⟩
abbrev cJ0_coder_7d493 : ByteArray := prog_10_method_152_code
def yJ0_coder_7d493 : MethodName := ⟨RJ0, "coder", "()B"⟩
abbrev cJ0_isLatin1_aae02 : ByteArray := prog_10_method_154_code
def yJ0_isLatin1_aae02 : MethodName := ⟨RJ0, "isLatin1", "()Z"⟩
abbrev cJ0_checkBoundsBeginEnd_23922 : ByteArray := prog_10_method_158_code
def yJ0_checkBoundsBeginEnd_23922 : MethodName := ⟨RJ0, "checkBoundsBeginEnd", "(III)V"⟩
def RJ1 : String := "java/lang/StringLatin1"
def TJ1 : u_T := fun k => match k with
  | _ => ("", "", "", false)
def tyJ1 : Nat → FieldType := fun k => match k with
  | _ => .int
theorem nmJ1 : ∀ a, a < 0 → ∀ b, b < 0 → a ≠ b → (TJ1 a).2.1 ≠ (TJ1 b).2.1 := by decide +kernel
theorem tyJ1_ok : ∀ k, k < 0 → parseFieldDescriptor (TJ1 k).2.2.1 = some (tyJ1 k) := by decide +kernel
abbrev cJ1_canEncode_9a6ad : ByteArray := prog_11_method_4_code
def yJ1_canEncode_9a6ad : MethodName := ⟨RJ1, "canEncode", "(I)Z"⟩
abbrev cJ1_indexOf_4cfef : ByteArray := prog_11_method_22_code
def yJ1_indexOf_4cfef : MethodName := ⟨RJ1, "indexOf", "([BIII)I"⟩
abbrev cJ1_indexOfChar_4cfef : ByteArray := prog_11_method_23_code
def yJ1_indexOfChar_4cfef : MethodName := ⟨RJ1, "indexOfChar", "([BIII)I"⟩
def RJ2 : String := "java/lang/StringUTF16"
def TJ2 : u_T := fun k => match k with
  | _ => ("", "", "", false)
def tyJ2 : Nat → FieldType := fun k => match k with
  | _ => .int
theorem nmJ2 : ∀ a, a < 0 → ∀ b, b < 0 → a ≠ b → (TJ2 a).2.1 ≠ (TJ2 b).2.1 := by decide +kernel
theorem tyJ2_ok : ∀ k, k < 0 → parseFieldDescriptor (TJ2 k).2.2.1 = some (tyJ2 k) := by decide +kernel
abbrev cJ2_getChar_3b067 : ByteArray := prog_12_method_5_code
def yJ2_getChar_3b067 : MethodName := ⟨RJ2, "getChar", "([BI)C"⟩
abbrev cJ2_length_9d52b : ByteArray := prog_12_method_6_code
def yJ2_length_9d52b : MethodName := ⟨RJ2, "length", "([B)I"⟩
abbrev cJ2_indexOf_4cfef : ByteArray := prog_12_method_40_code
def yJ2_indexOf_4cfef : MethodName := ⟨RJ2, "indexOf", "([BIII)I"⟩
abbrev cJ2_indexOfChar_4cfef : ByteArray := prog_12_method_47_code
def yJ2_indexOfChar_4cfef : MethodName := ⟨RJ2, "indexOfChar", "([BIII)I"⟩
abbrev cJ2_indexOfCharUnsafe_4cfef : ByteArray := prog_12_method_48_code
def yJ2_indexOfCharUnsafe_4cfef : MethodName := ⟨RJ2, "indexOfCharUnsafe", "([BIII)I"⟩
abbrev cJ2_indexOfSupplementary_4cfef : ByteArray := prog_12_method_49_code
def yJ2_indexOfSupplementary_4cfef : MethodName := ⟨RJ2, "indexOfSupplementary", "([BIII)I"⟩
abbrev cJ2_checkBoundsBeginEnd_d044e : ByteArray := prog_12_method_93_code
def yJ2_checkBoundsBeginEnd_d044e : MethodName := ⟨RJ2, "checkBoundsBeginEnd", "(II[B)V"⟩
def RJ10 : String := "java/lang/System"
def TJ10 : u_T := fun k => match k with
  | _ => ("", "", "", false)
def tyJ10 : Nat → FieldType := fun k => match k with
  | _ => .int
theorem nmJ10 : ∀ a, a < 0 → ∀ b, b < 0 → a ≠ b → (TJ10 a).2.1 ≠ (TJ10 b).2.1 := by decide +kernel
theorem tyJ10_ok : ∀ k, k < 0 → parseFieldDescriptor (TJ10 k).2.2.1 = some (tyJ10 k) := by decide +kernel
def RJ3 : String := "jdk/internal/util/Preconditions"
def TJ3 : u_T := fun k => match k with
  | _ => ("", "", "", false)
def tyJ3 : Nat → FieldType := fun k => match k with
  | _ => .int
theorem nmJ3 : ∀ a, a < 0 → ∀ b, b < 0 → a ≠ b → (TJ3 a).2.1 ≠ (TJ3 b).2.1 := by decide +kernel
theorem tyJ3_ok : ∀ k, k < 0 → parseFieldDescriptor (TJ3 k).2.2.1 = some (tyJ3 k) := by decide +kernel
abbrev cJ3_checkFromToIndex_8c36e : ByteArray := prog_14_method_12_code
def yJ3_checkFromToIndex_8c36e : MethodName := ⟨RJ3, "checkFromToIndex", "(IIILjava/util/function/BiFunction;)I"⟩
def RL : String := "MaynotBeSeenLaw"
abbrev cL_law : ByteArray := code
def yL_law : MethodName := ⟨RL, "law", "([I)Z"⟩
abbrev vwCl : List vw_C := [(RX0, TX0, 3), (RX1, TX1, 13), (RX2, TX2, 2), (RX3, TX3, 10), (RX4, TX4, 23)]
end
section
theorem dX0_init_0 : decode cX0_init 0 = .ok (.aload_n 0, 1) := by decide +kernel
theorem dX0_init_1 : decode cX0_init 1 = .ok (.invokespecial 3, 3) := by decide +kernel
theorem dX0_init_4 : decode cX0_init 4 = .ok (.aload_n 0, 1) := by decide +kernel
theorem dX0_init_5 : decode cX0_init 5 = .ok (.iconst 0, 1) := by decide +kernel
theorem dX0_init_6 : decode cX0_init 6 = .ok (.putfield 9, 3) := by decide +kernel
theorem dX0_init_9 : decode cX0_init 9 = .ok (.aload_n 0, 1) := by decide +kernel
theorem dX0_init_10 : decode cX0_init 10 = .ok (.bipush 8, 2) := by decide +kernel
theorem dX0_init_12 : decode cX0_init 12 = .ok (.newarray .int, 2) := by decide +kernel
theorem dX0_init_14 : decode cX0_init 14 = .ok (.putfield 15, 3) := by decide +kernel
theorem dX0_init_17 : decode cX0_init 17 = .ok (.aload_n 0, 1) := by decide +kernel
theorem dX0_init_18 : decode cX0_init 18 = .ok (.sipush 256, 3) := by decide +kernel
theorem dX0_init_21 : decode cX0_init 21 = .ok (.newarray .int, 2) := by decide +kernel
theorem dX0_init_23 : decode cX0_init 23 = .ok (.putfield 19, 3) := by decide +kernel
theorem dX0_init_26 : decode cX0_init 26 = .ok (.return_, 1) := by decide +kernel
theorem dX0_allowUnseen_0 : decode cX0_allowUnseen 0 = .ok (.aload_n 0, 1) := by decide +kernel
theorem dX0_allowUnseen_1 : decode cX0_allowUnseen 1 = .ok (.aload_n 1, 1) := by decide +kernel
theorem dX0_allowUnseen_2 : decode cX0_allowUnseen 2 = .ok (.getfield 22, 3) := by decide +kernel
theorem dX0_allowUnseen_5 : decode cX0_allowUnseen 5 = .ok (.putfield 9, 3) := by decide +kernel
theorem dX0_allowUnseen_8 : decode cX0_allowUnseen 8 = .ok (.iconst 0, 1) := by decide +kernel
theorem dX0_allowUnseen_9 : decode cX0_allowUnseen 9 = .ok (.istore_n 2, 1) := by decide +kernel
theorem dX0_allowUnseen_10 : decode cX0_allowUnseen 10 = .ok (.iload_n 2, 1) := by decide +kernel
theorem dX0_allowUnseen_11 : decode cX0_allowUnseen 11 = .ok (.aload_n 0, 1) := by decide +kernel
theorem dX0_allowUnseen_12 : decode cX0_allowUnseen 12 = .ok (.getfield 9, 3) := by decide +kernel
theorem dX0_allowUnseen_15 : decode cX0_allowUnseen 15 = .ok (.if_icmp .ge 62, 3) := by decide +kernel
theorem dX0_allowUnseen_18 : decode cX0_allowUnseen 18 = .ok (.aload_n 0, 1) := by decide +kernel
theorem dX0_allowUnseen_19 : decode cX0_allowUnseen 19 = .ok (.getfield 15, 3) := by decide +kernel
theorem dX0_allowUnseen_22 : decode cX0_allowUnseen 22 = .ok (.iload_n 2, 1) := by decide +kernel
theorem dX0_allowUnseen_23 : decode cX0_allowUnseen 23 = .ok (.iconst 0, 1) := by decide +kernel
theorem dX0_allowUnseen_24 : decode cX0_allowUnseen 24 = .ok (.iastore, 1) := by decide +kernel
theorem dX0_allowUnseen_25 : decode cX0_allowUnseen 25 = .ok (.iconst 0, 1) := by decide +kernel
theorem dX0_allowUnseen_26 : decode cX0_allowUnseen 26 = .ok (.istore_n 3, 1) := by decide +kernel
theorem dX0_allowUnseen_27 : decode cX0_allowUnseen 27 = .ok (.iload_n 3, 1) := by decide +kernel
theorem dX0_allowUnseen_28 : decode cX0_allowUnseen 28 = .ok (.aload_n 0, 1) := by decide +kernel
theorem dX0_allowUnseen_29 : decode cX0_allowUnseen 29 = .ok (.getfield 9, 3) := by decide +kernel
theorem dX0_allowUnseen_32 : decode cX0_allowUnseen 32 = .ok (.if_icmp .ge 39, 3) := by decide +kernel
theorem dX0_allowUnseen_35 : decode cX0_allowUnseen 35 = .ok (.iload_n 3, 1) := by decide +kernel
theorem dX0_allowUnseen_36 : decode cX0_allowUnseen 36 = .ok (.iload_n 2, 1) := by decide +kernel
theorem dX0_allowUnseen_37 : decode cX0_allowUnseen 37 = .ok (.if_icmp .eq 28, 3) := by decide +kernel
theorem dX0_allowUnseen_40 : decode cX0_allowUnseen 40 = .ok (.aload_n 1, 1) := by decide +kernel
theorem dX0_allowUnseen_41 : decode cX0_allowUnseen 41 = .ok (.iload_n 2, 1) := by decide +kernel
theorem dX0_allowUnseen_42 : decode cX0_allowUnseen 42 = .ok (.iload_n 3, 1) := by decide +kernel
theorem dX0_allowUnseen_43 : decode cX0_allowUnseen 43 = .ok (.aload_n 1, 1) := by decide +kernel
theorem dX0_allowUnseen_44 : decode cX0_allowUnseen 44 = .ok (.getfield 25, 3) := by decide +kernel
theorem dX0_allowUnseen_47 : decode cX0_allowUnseen 47 = .ok (.invokevirtual 28, 3) := by decide +kernel
theorem dX0_allowUnseen_50 : decode cX0_allowUnseen 50 = .ok (.ifCond .ne 15, 3) := by decide +kernel
theorem dX0_allowUnseen_53 : decode cX0_allowUnseen 53 = .ok (.aload_n 0, 1) := by decide +kernel
theorem dX0_allowUnseen_54 : decode cX0_allowUnseen 54 = .ok (.getfield 15, 3) := by decide +kernel
theorem dX0_allowUnseen_57 : decode cX0_allowUnseen 57 = .ok (.iload_n 2, 1) := by decide +kernel
theorem dX0_allowUnseen_58 : decode cX0_allowUnseen 58 = .ok (.dup2, 1) := by decide +kernel
theorem dX0_allowUnseen_59 : decode cX0_allowUnseen 59 = .ok (.iaload, 1) := by decide +kernel
theorem dX0_allowUnseen_60 : decode cX0_allowUnseen 60 = .ok (.iconst 1, 1) := by decide +kernel
theorem dX0_allowUnseen_61 : decode cX0_allowUnseen 61 = .ok (.iload_n 3, 1) := by decide +kernel
theorem dX0_allowUnseen_62 : decode cX0_allowUnseen 62 = .ok (.ishl, 1) := by decide +kernel
theorem dX0_allowUnseen_63 : decode cX0_allowUnseen 63 = .ok (.ior, 1) := by decide +kernel
theorem dX0_allowUnseen_64 : decode cX0_allowUnseen 64 = .ok (.iastore, 1) := by decide +kernel
theorem dX0_allowUnseen_65 : decode cX0_allowUnseen 65 = .ok (.iinc 3 1, 3) := by decide +kernel
theorem dX0_allowUnseen_68 : decode cX0_allowUnseen 68 = .ok (.goto (-41), 3) := by decide +kernel
theorem dX0_allowUnseen_71 : decode cX0_allowUnseen 71 = .ok (.iinc 2 1, 3) := by decide +kernel
theorem dX0_allowUnseen_74 : decode cX0_allowUnseen 74 = .ok (.goto (-64), 3) := by decide +kernel
theorem dX0_allowUnseen_77 : decode cX0_allowUnseen 77 = .ok (.return_, 1) := by decide +kernel
theorem dX0_allowApart_0 : decode cX0_allowApart 0 = .ok (.aload_n 0, 1) := by decide +kernel
theorem dX0_allowApart_1 : decode cX0_allowApart 1 = .ok (.aload_n 1, 1) := by decide +kernel
theorem dX0_allowApart_2 : decode cX0_allowApart 2 = .ok (.getfield 22, 3) := by decide +kernel
theorem dX0_allowApart_5 : decode cX0_allowApart 5 = .ok (.putfield 9, 3) := by decide +kernel
theorem dX0_allowApart_8 : decode cX0_allowApart 8 = .ok (.iconst 0, 1) := by decide +kernel
theorem dX0_allowApart_9 : decode cX0_allowApart 9 = .ok (.istore_n 2, 1) := by decide +kernel
theorem dX0_allowApart_10 : decode cX0_allowApart 10 = .ok (.iload_n 2, 1) := by decide +kernel
theorem dX0_allowApart_11 : decode cX0_allowApart 11 = .ok (.aload_n 0, 1) := by decide +kernel
theorem dX0_allowApart_12 : decode cX0_allowApart 12 = .ok (.getfield 9, 3) := by decide +kernel
theorem dX0_allowApart_15 : decode cX0_allowApart 15 = .ok (.if_icmp .ge 69, 3) := by decide +kernel
theorem dX0_allowApart_18 : decode cX0_allowApart 18 = .ok (.iconst 1, 1) := by decide +kernel
theorem dX0_allowApart_19 : decode cX0_allowApart 19 = .ok (.iload_n 2, 1) := by decide +kernel
theorem dX0_allowApart_20 : decode cX0_allowApart 20 = .ok (.ishl, 1) := by decide +kernel
theorem dX0_allowApart_21 : decode cX0_allowApart 21 = .ok (.istore_n 3, 1) := by decide +kernel
theorem dX0_allowApart_22 : decode cX0_allowApart 22 = .ok (.iconst 0, 1) := by decide +kernel
theorem dX0_allowApart_23 : decode cX0_allowApart 23 = .ok (.istore 4, 2) := by decide +kernel
theorem dX0_allowApart_25 : decode cX0_allowApart 25 = .ok (.iload 4, 2) := by decide +kernel
theorem dX0_allowApart_27 : decode cX0_allowApart 27 = .ok (.aload_n 1, 1) := by decide +kernel
theorem dX0_allowApart_28 : decode cX0_allowApart 28 = .ok (.getfield 32, 3) := by decide +kernel
theorem dX0_allowApart_31 : decode cX0_allowApart 31 = .ok (.if_icmp .ge 33, 3) := by decide +kernel
theorem dX0_allowApart_34 : decode cX0_allowApart 34 = .ok (.aload_n 1, 1) := by decide +kernel
theorem dX0_allowApart_35 : decode cX0_allowApart 35 = .ok (.getfield 35, 3) := by decide +kernel
theorem dX0_allowApart_38 : decode cX0_allowApart 38 = .ok (.iload 4, 2) := by decide +kernel
theorem dX0_allowApart_40 : decode cX0_allowApart 40 = .ok (.iaload, 1) := by decide +kernel
theorem dX0_allowApart_41 : decode cX0_allowApart 41 = .ok (.iload_n 2, 1) := by decide +kernel
theorem dX0_allowApart_42 : decode cX0_allowApart 42 = .ok (.ishr, 1) := by decide +kernel
theorem dX0_allowApart_43 : decode cX0_allowApart 43 = .ok (.iconst 1, 1) := by decide +kernel
theorem dX0_allowApart_44 : decode cX0_allowApart 44 = .ok (.iand, 1) := by decide +kernel
theorem dX0_allowApart_45 : decode cX0_allowApart 45 = .ok (.ifCond .eq 13, 3) := by decide +kernel
theorem dX0_allowApart_48 : decode cX0_allowApart 48 = .ok (.iload_n 3, 1) := by decide +kernel
theorem dX0_allowApart_49 : decode cX0_allowApart 49 = .ok (.aload_n 1, 1) := by decide +kernel
theorem dX0_allowApart_50 : decode cX0_allowApart 50 = .ok (.getfield 35, 3) := by decide +kernel
theorem dX0_allowApart_53 : decode cX0_allowApart 53 = .ok (.iload 4, 2) := by decide +kernel
theorem dX0_allowApart_55 : decode cX0_allowApart 55 = .ok (.iaload, 1) := by decide +kernel
theorem dX0_allowApart_56 : decode cX0_allowApart 56 = .ok (.ior, 1) := by decide +kernel
theorem dX0_allowApart_57 : decode cX0_allowApart 57 = .ok (.istore_n 3, 1) := by decide +kernel
theorem dX0_allowApart_58 : decode cX0_allowApart 58 = .ok (.iinc 4 1, 3) := by decide +kernel
theorem dX0_allowApart_61 : decode cX0_allowApart 61 = .ok (.goto (-36), 3) := by decide +kernel
theorem dX0_allowApart_64 : decode cX0_allowApart 64 = .ok (.aload_n 0, 1) := by decide +kernel
theorem dX0_allowApart_65 : decode cX0_allowApart 65 = .ok (.getfield 15, 3) := by decide +kernel
theorem dX0_allowApart_68 : decode cX0_allowApart 68 = .ok (.iload_n 2, 1) := by decide +kernel
theorem dX0_allowApart_69 : decode cX0_allowApart 69 = .ok (.aload_n 1, 1) := by decide +kernel
theorem dX0_allowApart_70 : decode cX0_allowApart 70 = .ok (.invokevirtual 38, 3) := by decide +kernel
theorem dX0_allowApart_73 : decode cX0_allowApart 73 = .ok (.iload_n 3, 1) := by decide +kernel
theorem dX0_allowApart_74 : decode cX0_allowApart 74 = .ok (.iconst (-1), 1) := by decide +kernel
theorem dX0_allowApart_75 : decode cX0_allowApart 75 = .ok (.ixor, 1) := by decide +kernel
theorem dX0_allowApart_76 : decode cX0_allowApart 76 = .ok (.iand, 1) := by decide +kernel
theorem dX0_allowApart_77 : decode cX0_allowApart 77 = .ok (.iastore, 1) := by decide +kernel
theorem dX0_allowApart_78 : decode cX0_allowApart 78 = .ok (.iinc 2 1, 3) := by decide +kernel
theorem dX0_allowApart_81 : decode cX0_allowApart 81 = .ok (.goto (-71), 3) := by decide +kernel
theorem dX0_allowApart_84 : decode cX0_allowApart 84 = .ok (.return_, 1) := by decide +kernel
theorem dX0_reckon_0 : decode cX0_reckon 0 = .ok (.aload_n 0, 1) := by decide +kernel
theorem dX0_reckon_1 : decode cX0_reckon 1 = .ok (.getfield 19, 3) := by decide +kernel
theorem dX0_reckon_4 : decode cX0_reckon 4 = .ok (.iconst 0, 1) := by decide +kernel
theorem dX0_reckon_5 : decode cX0_reckon 5 = .ok (.iconst 1, 1) := by decide +kernel
theorem dX0_reckon_6 : decode cX0_reckon 6 = .ok (.iastore, 1) := by decide +kernel
theorem dX0_reckon_7 : decode cX0_reckon 7 = .ok (.iconst 1, 1) := by decide +kernel
theorem dX0_reckon_8 : decode cX0_reckon 8 = .ok (.istore_n 1, 1) := by decide +kernel
theorem dX0_reckon_9 : decode cX0_reckon 9 = .ok (.iload_n 1, 1) := by decide +kernel
theorem dX0_reckon_10 : decode cX0_reckon 10 = .ok (.iconst 1, 1) := by decide +kernel
theorem dX0_reckon_11 : decode cX0_reckon 11 = .ok (.aload_n 0, 1) := by decide +kernel
theorem dX0_reckon_12 : decode cX0_reckon 12 = .ok (.getfield 9, 3) := by decide +kernel
theorem dX0_reckon_15 : decode cX0_reckon 15 = .ok (.ishl, 1) := by decide +kernel
theorem dX0_reckon_16 : decode cX0_reckon 16 = .ok (.if_icmp .ge 83, 3) := by decide +kernel
theorem dX0_reckon_19 : decode cX0_reckon 19 = .ok (.iload_n 1, 1) := by decide +kernel
theorem dX0_reckon_20 : decode cX0_reckon 20 = .ok (.invokestatic 42, 3) := by decide +kernel
theorem dX0_reckon_23 : decode cX0_reckon 23 = .ok (.istore_n 2, 1) := by decide +kernel
theorem dX0_reckon_24 : decode cX0_reckon 24 = .ok (.iload_n 1, 1) := by decide +kernel
theorem dX0_reckon_25 : decode cX0_reckon 25 = .ok (.iconst 1, 1) := by decide +kernel
theorem dX0_reckon_26 : decode cX0_reckon 26 = .ok (.iload_n 2, 1) := by decide +kernel
theorem dX0_reckon_27 : decode cX0_reckon 27 = .ok (.ishl, 1) := by decide +kernel
theorem dX0_reckon_28 : decode cX0_reckon 28 = .ok (.ixor, 1) := by decide +kernel
theorem dX0_reckon_29 : decode cX0_reckon 29 = .ok (.istore_n 3, 1) := by decide +kernel
theorem dX0_reckon_30 : decode cX0_reckon 30 = .ok (.iconst 0, 1) := by decide +kernel
theorem dX0_reckon_31 : decode cX0_reckon 31 = .ok (.istore 4, 2) := by decide +kernel
theorem dX0_reckon_33 : decode cX0_reckon 33 = .ok (.iload_n 2, 1) := by decide +kernel
theorem dX0_reckon_34 : decode cX0_reckon 34 = .ok (.iconst 1, 1) := by decide +kernel
theorem dX0_reckon_35 : decode cX0_reckon 35 = .ok (.iadd, 1) := by decide +kernel
theorem dX0_reckon_36 : decode cX0_reckon 36 = .ok (.istore 5, 2) := by decide +kernel
theorem dX0_reckon_38 : decode cX0_reckon 38 = .ok (.iload 5, 2) := by decide +kernel
theorem dX0_reckon_40 : decode cX0_reckon 40 = .ok (.aload_n 0, 1) := by decide +kernel
theorem dX0_reckon_41 : decode cX0_reckon 41 = .ok (.getfield 9, 3) := by decide +kernel
theorem dX0_reckon_44 : decode cX0_reckon 44 = .ok (.if_icmp .ge 41, 3) := by decide +kernel
theorem dX0_reckon_47 : decode cX0_reckon 47 = .ok (.iload_n 3, 1) := by decide +kernel
theorem dX0_reckon_48 : decode cX0_reckon 48 = .ok (.aload_n 0, 1) := by decide +kernel
theorem dX0_reckon_49 : decode cX0_reckon 49 = .ok (.getfield 15, 3) := by decide +kernel
theorem dX0_reckon_52 : decode cX0_reckon 52 = .ok (.iload_n 2, 1) := by decide +kernel
theorem dX0_reckon_53 : decode cX0_reckon 53 = .ok (.iaload, 1) := by decide +kernel
theorem dX0_reckon_54 : decode cX0_reckon 54 = .ok (.iand, 1) := by decide +kernel
theorem dX0_reckon_55 : decode cX0_reckon 55 = .ok (.iconst 1, 1) := by decide +kernel
theorem dX0_reckon_56 : decode cX0_reckon 56 = .ok (.iload 5, 2) := by decide +kernel
theorem dX0_reckon_58 : decode cX0_reckon 58 = .ok (.ishl, 1) := by decide +kernel
theorem dX0_reckon_59 : decode cX0_reckon 59 = .ok (.iand, 1) := by decide +kernel
theorem dX0_reckon_60 : decode cX0_reckon 60 = .ok (.ifCond .eq 19, 3) := by decide +kernel
theorem dX0_reckon_63 : decode cX0_reckon 63 = .ok (.iload 4, 2) := by decide +kernel
theorem dX0_reckon_65 : decode cX0_reckon 65 = .ok (.aload_n 0, 1) := by decide +kernel
theorem dX0_reckon_66 : decode cX0_reckon 66 = .ok (.getfield 19, 3) := by decide +kernel
theorem dX0_reckon_69 : decode cX0_reckon 69 = .ok (.iload_n 3, 1) := by decide +kernel
theorem dX0_reckon_70 : decode cX0_reckon 70 = .ok (.iconst 1, 1) := by decide +kernel
theorem dX0_reckon_71 : decode cX0_reckon 71 = .ok (.iload 5, 2) := by decide +kernel
theorem dX0_reckon_73 : decode cX0_reckon 73 = .ok (.ishl, 1) := by decide +kernel
theorem dX0_reckon_74 : decode cX0_reckon 74 = .ok (.ixor, 1) := by decide +kernel
theorem dX0_reckon_75 : decode cX0_reckon 75 = .ok (.iaload, 1) := by decide +kernel
theorem dX0_reckon_76 : decode cX0_reckon 76 = .ok (.iadd, 1) := by decide +kernel
theorem dX0_reckon_77 : decode cX0_reckon 77 = .ok (.istore 4, 2) := by decide +kernel
theorem dX0_reckon_79 : decode cX0_reckon 79 = .ok (.iinc 5 1, 3) := by decide +kernel
theorem dX0_reckon_82 : decode cX0_reckon 82 = .ok (.goto (-44), 3) := by decide +kernel
theorem dX0_reckon_85 : decode cX0_reckon 85 = .ok (.aload_n 0, 1) := by decide +kernel
theorem dX0_reckon_86 : decode cX0_reckon 86 = .ok (.getfield 19, 3) := by decide +kernel
theorem dX0_reckon_89 : decode cX0_reckon 89 = .ok (.iload_n 1, 1) := by decide +kernel
theorem dX0_reckon_90 : decode cX0_reckon 90 = .ok (.iload 4, 2) := by decide +kernel
theorem dX0_reckon_92 : decode cX0_reckon 92 = .ok (.iastore, 1) := by decide +kernel
theorem dX0_reckon_93 : decode cX0_reckon 93 = .ok (.iinc 1 1, 3) := by decide +kernel
theorem dX0_reckon_96 : decode cX0_reckon 96 = .ok (.goto (-87), 3) := by decide +kernel
theorem dX0_reckon_99 : decode cX0_reckon 99 = .ok (.return_, 1) := by decide +kernel
theorem dX0_leastOf_0 : decode cX0_leastOf 0 = .ok (.iconst 0, 1) := by decide +kernel
theorem dX0_leastOf_1 : decode cX0_leastOf 1 = .ok (.istore_n 1, 1) := by decide +kernel
theorem dX0_leastOf_2 : decode cX0_leastOf 2 = .ok (.iload_n 1, 1) := by decide +kernel
theorem dX0_leastOf_3 : decode cX0_leastOf 3 = .ok (.bipush 8, 2) := by decide +kernel
theorem dX0_leastOf_5 : decode cX0_leastOf 5 = .ok (.if_icmp .ge 19, 3) := by decide +kernel
theorem dX0_leastOf_8 : decode cX0_leastOf 8 = .ok (.iload_n 0, 1) := by decide +kernel
theorem dX0_leastOf_9 : decode cX0_leastOf 9 = .ok (.iload_n 1, 1) := by decide +kernel
theorem dX0_leastOf_10 : decode cX0_leastOf 10 = .ok (.ishr, 1) := by decide +kernel
theorem dX0_leastOf_11 : decode cX0_leastOf 11 = .ok (.iconst 1, 1) := by decide +kernel
theorem dX0_leastOf_12 : decode cX0_leastOf 12 = .ok (.iand, 1) := by decide +kernel
theorem dX0_leastOf_13 : decode cX0_leastOf 13 = .ok (.ifCond .eq 5, 3) := by decide +kernel
theorem dX0_leastOf_16 : decode cX0_leastOf 16 = .ok (.iload_n 1, 1) := by decide +kernel
theorem dX0_leastOf_17 : decode cX0_leastOf 17 = .ok (.ireturn, 1) := by decide +kernel
theorem dX0_leastOf_18 : decode cX0_leastOf 18 = .ok (.iinc 1 1, 3) := by decide +kernel
theorem dX0_leastOf_21 : decode cX0_leastOf 21 = .ok (.goto (-19), 3) := by decide +kernel
theorem dX0_leastOf_24 : decode cX0_leastOf 24 = .ok (.bipush (-9), 2) := by decide +kernel
theorem dX0_leastOf_26 : decode cX0_leastOf 26 = .ok (.ireturn, 1) := by decide +kernel
theorem dX0_ofAll_0 : decode cX0_ofAll 0 = .ok (.aload_n 0, 1) := by decide +kernel
theorem dX0_ofAll_1 : decode cX0_ofAll 1 = .ok (.getfield 19, 3) := by decide +kernel
theorem dX0_ofAll_4 : decode cX0_ofAll 4 = .ok (.iconst 1, 1) := by decide +kernel
theorem dX0_ofAll_5 : decode cX0_ofAll 5 = .ok (.aload_n 0, 1) := by decide +kernel
theorem dX0_ofAll_6 : decode cX0_ofAll 6 = .ok (.getfield 9, 3) := by decide +kernel
theorem dX0_ofAll_9 : decode cX0_ofAll 9 = .ok (.ishl, 1) := by decide +kernel
theorem dX0_ofAll_10 : decode cX0_ofAll 10 = .ok (.iconst 1, 1) := by decide +kernel
theorem dX0_ofAll_11 : decode cX0_ofAll 11 = .ok (.isub, 1) := by decide +kernel
theorem dX0_ofAll_12 : decode cX0_ofAll 12 = .ok (.iaload, 1) := by decide +kernel
theorem dX0_ofAll_13 : decode cX0_ofAll 13 = .ok (.ireturn, 1) := by decide +kernel
theorem dX0_othersOf_0 : decode cX0_othersOf 0 = .ok (.iconst 0, 1) := by decide +kernel
theorem dX0_othersOf_1 : decode cX0_othersOf 1 = .ok (.istore_n 2, 1) := by decide +kernel
theorem dX0_othersOf_2 : decode cX0_othersOf 2 = .ok (.iconst 1, 1) := by decide +kernel
theorem dX0_othersOf_3 : decode cX0_othersOf 3 = .ok (.aload_n 0, 1) := by decide +kernel
theorem dX0_othersOf_4 : decode cX0_othersOf 4 = .ok (.getfield 9, 3) := by decide +kernel
theorem dX0_othersOf_7 : decode cX0_othersOf 7 = .ok (.ishl, 1) := by decide +kernel
theorem dX0_othersOf_8 : decode cX0_othersOf 8 = .ok (.iconst 1, 1) := by decide +kernel
theorem dX0_othersOf_9 : decode cX0_othersOf 9 = .ok (.isub, 1) := by decide +kernel
theorem dX0_othersOf_10 : decode cX0_othersOf 10 = .ok (.iconst 1, 1) := by decide +kernel
theorem dX0_othersOf_11 : decode cX0_othersOf 11 = .ok (.iload_n 1, 1) := by decide +kernel
theorem dX0_othersOf_12 : decode cX0_othersOf 12 = .ok (.ishl, 1) := by decide +kernel
theorem dX0_othersOf_13 : decode cX0_othersOf 13 = .ok (.iconst (-1), 1) := by decide +kernel
theorem dX0_othersOf_14 : decode cX0_othersOf 14 = .ok (.ixor, 1) := by decide +kernel
theorem dX0_othersOf_15 : decode cX0_othersOf 15 = .ok (.iand, 1) := by decide +kernel
theorem dX0_othersOf_16 : decode cX0_othersOf 16 = .ok (.istore_n 3, 1) := by decide +kernel
theorem dX0_othersOf_17 : decode cX0_othersOf 17 = .ok (.iconst 0, 1) := by decide +kernel
theorem dX0_othersOf_18 : decode cX0_othersOf 18 = .ok (.istore 4, 2) := by decide +kernel
theorem dX0_othersOf_20 : decode cX0_othersOf 20 = .ok (.iload 4, 2) := by decide +kernel
theorem dX0_othersOf_22 : decode cX0_othersOf 22 = .ok (.aload_n 0, 1) := by decide +kernel
theorem dX0_othersOf_23 : decode cX0_othersOf 23 = .ok (.getfield 9, 3) := by decide +kernel
theorem dX0_othersOf_26 : decode cX0_othersOf 26 = .ok (.if_icmp .ge 46, 3) := by decide +kernel
theorem dX0_othersOf_29 : decode cX0_othersOf 29 = .ok (.iload_n 3, 1) := by decide +kernel
theorem dX0_othersOf_30 : decode cX0_othersOf 30 = .ok (.aload_n 0, 1) := by decide +kernel
theorem dX0_othersOf_31 : decode cX0_othersOf 31 = .ok (.getfield 15, 3) := by decide +kernel
theorem dX0_othersOf_34 : decode cX0_othersOf 34 = .ok (.iload_n 1, 1) := by decide +kernel
theorem dX0_othersOf_35 : decode cX0_othersOf 35 = .ok (.iaload, 1) := by decide +kernel
theorem dX0_othersOf_36 : decode cX0_othersOf 36 = .ok (.iand, 1) := by decide +kernel
theorem dX0_othersOf_37 : decode cX0_othersOf 37 = .ok (.iconst 1, 1) := by decide +kernel
theorem dX0_othersOf_38 : decode cX0_othersOf 38 = .ok (.iload 4, 2) := by decide +kernel
theorem dX0_othersOf_40 : decode cX0_othersOf 40 = .ok (.ishl, 1) := by decide +kernel
theorem dX0_othersOf_41 : decode cX0_othersOf 41 = .ok (.iand, 1) := by decide +kernel
theorem dX0_othersOf_42 : decode cX0_othersOf 42 = .ok (.ifCond .eq 24, 3) := by decide +kernel
theorem dX0_othersOf_45 : decode cX0_othersOf 45 = .ok (.aload_n 0, 1) := by decide +kernel
theorem dX0_othersOf_46 : decode cX0_othersOf 46 = .ok (.getfield 19, 3) := by decide +kernel
theorem dX0_othersOf_49 : decode cX0_othersOf 49 = .ok (.iload_n 3, 1) := by decide +kernel
theorem dX0_othersOf_50 : decode cX0_othersOf 50 = .ok (.iconst 1, 1) := by decide +kernel
theorem dX0_othersOf_51 : decode cX0_othersOf 51 = .ok (.iload 4, 2) := by decide +kernel
theorem dX0_othersOf_53 : decode cX0_othersOf 53 = .ok (.ishl, 1) := by decide +kernel
theorem dX0_othersOf_54 : decode cX0_othersOf 54 = .ok (.ixor, 1) := by decide +kernel
theorem dX0_othersOf_55 : decode cX0_othersOf 55 = .ok (.iaload, 1) := by decide +kernel
theorem dX0_othersOf_56 : decode cX0_othersOf 56 = .ok (.ifCond .le 10, 3) := by decide +kernel
theorem dX0_othersOf_59 : decode cX0_othersOf 59 = .ok (.iload_n 2, 1) := by decide +kernel
theorem dX0_othersOf_60 : decode cX0_othersOf 60 = .ok (.iconst 1, 1) := by decide +kernel
theorem dX0_othersOf_61 : decode cX0_othersOf 61 = .ok (.iload 4, 2) := by decide +kernel
theorem dX0_othersOf_63 : decode cX0_othersOf 63 = .ok (.ishl, 1) := by decide +kernel
theorem dX0_othersOf_64 : decode cX0_othersOf 64 = .ok (.ior, 1) := by decide +kernel
theorem dX0_othersOf_65 : decode cX0_othersOf 65 = .ok (.istore_n 2, 1) := by decide +kernel
theorem dX0_othersOf_66 : decode cX0_othersOf 66 = .ok (.iinc 4 1, 3) := by decide +kernel
theorem dX0_othersOf_69 : decode cX0_othersOf 69 = .ok (.goto (-49), 3) := by decide +kernel
theorem dX0_othersOf_72 : decode cX0_othersOf 72 = .ok (.iload_n 2, 1) := by decide +kernel
theorem dX0_othersOf_73 : decode cX0_othersOf 73 = .ok (.ireturn, 1) := by decide +kernel
theorem dX1_init_0 : decode cX1_init 0 = .ok (.aload_n 0, 1) := by decide +kernel
theorem dX1_init_1 : decode cX1_init 1 = .ok (.invokespecial 3, 3) := by decide +kernel
theorem dX1_init_4 : decode cX1_init 4 = .ok (.aload_n 0, 1) := by decide +kernel
theorem dX1_init_5 : decode cX1_init 5 = .ok (.iconst 0, 1) := by decide +kernel
theorem dX1_init_6 : decode cX1_init 6 = .ok (.putfield 9, 3) := by decide +kernel
theorem dX1_init_9 : decode cX1_init 9 = .ok (.aload_n 0, 1) := by decide +kernel
theorem dX1_init_10 : decode cX1_init 10 = .ok (.bipush 10, 2) := by decide +kernel
theorem dX1_init_12 : decode cX1_init 12 = .ok (.newarray .int, 2) := by decide +kernel
theorem dX1_init_14 : decode cX1_init 14 = .ok (.putfield 15, 3) := by decide +kernel
theorem dX1_init_17 : decode cX1_init 17 = .ok (.aload_n 0, 1) := by decide +kernel
theorem dX1_init_18 : decode cX1_init 18 = .ok (.bipush 10, 2) := by decide +kernel
theorem dX1_init_20 : decode cX1_init 20 = .ok (.newarray .int, 2) := by decide +kernel
theorem dX1_init_22 : decode cX1_init 22 = .ok (.putfield 19, 3) := by decide +kernel
theorem dX1_init_25 : decode cX1_init 25 = .ok (.aload_n 0, 1) := by decide +kernel
theorem dX1_init_26 : decode cX1_init 26 = .ok (.iconst 0, 1) := by decide +kernel
theorem dX1_init_27 : decode cX1_init 27 = .ok (.putfield 22, 3) := by decide +kernel
theorem dX1_init_30 : decode cX1_init 30 = .ok (.aload_n 0, 1) := by decide +kernel
theorem dX1_init_31 : decode cX1_init 31 = .ok (.bipush 6, 2) := by decide +kernel
theorem dX1_init_33 : decode cX1_init 33 = .ok (.newarray .int, 2) := by decide +kernel
theorem dX1_init_35 : decode cX1_init 35 = .ok (.putfield 25, 3) := by decide +kernel
theorem dX1_init_38 : decode cX1_init 38 = .ok (.aload_n 0, 1) := by decide +kernel
theorem dX1_init_39 : decode cX1_init 39 = .ok (.bipush 6, 2) := by decide +kernel
theorem dX1_init_41 : decode cX1_init 41 = .ok (.newarray .int, 2) := by decide +kernel
theorem dX1_init_43 : decode cX1_init 43 = .ok (.putfield 28, 3) := by decide +kernel
theorem dX1_init_46 : decode cX1_init 46 = .ok (.aload_n 0, 1) := by decide +kernel
theorem dX1_init_47 : decode cX1_init 47 = .ok (.iconst 0, 1) := by decide +kernel
theorem dX1_init_48 : decode cX1_init 48 = .ok (.putfield 31, 3) := by decide +kernel
theorem dX1_init_51 : decode cX1_init 51 = .ok (.aload_n 0, 1) := by decide +kernel
theorem dX1_init_52 : decode cX1_init 52 = .ok (.bipush 8, 2) := by decide +kernel
theorem dX1_init_54 : decode cX1_init 54 = .ok (.newarray .int, 2) := by decide +kernel
theorem dX1_init_56 : decode cX1_init 56 = .ok (.putfield 34, 3) := by decide +kernel
theorem dX1_init_59 : decode cX1_init 59 = .ok (.aload_n 0, 1) := by decide +kernel
theorem dX1_init_60 : decode cX1_init 60 = .ok (.bipush 8, 2) := by decide +kernel
theorem dX1_init_62 : decode cX1_init 62 = .ok (.newarray .int, 2) := by decide +kernel
theorem dX1_init_64 : decode cX1_init 64 = .ok (.putfield 37, 3) := by decide +kernel
theorem dX1_init_67 : decode cX1_init 67 = .ok (.aload_n 0, 1) := by decide +kernel
theorem dX1_init_68 : decode cX1_init 68 = .ok (.bipush 8, 2) := by decide +kernel
theorem dX1_init_70 : decode cX1_init 70 = .ok (.newarray .int, 2) := by decide +kernel
theorem dX1_init_72 : decode cX1_init 72 = .ok (.putfield 40, 3) := by decide +kernel
theorem dX1_init_75 : decode cX1_init 75 = .ok (.aload_n 0, 1) := by decide +kernel
theorem dX1_init_76 : decode cX1_init 76 = .ok (.iconst 0, 1) := by decide +kernel
theorem dX1_init_77 : decode cX1_init 77 = .ok (.putfield 43, 3) := by decide +kernel
theorem dX1_init_80 : decode cX1_init 80 = .ok (.aload_n 0, 1) := by decide +kernel
theorem dX1_init_81 : decode cX1_init 81 = .ok (.iconst 0, 1) := by decide +kernel
theorem dX1_init_82 : decode cX1_init 82 = .ok (.putfield 46, 3) := by decide +kernel
theorem dX1_init_85 : decode cX1_init 85 = .ok (.aload_n 0, 1) := by decide +kernel
theorem dX1_init_86 : decode cX1_init 86 = .ok (.bipush 8, 2) := by decide +kernel
theorem dX1_init_88 : decode cX1_init 88 = .ok (.newarray .int, 2) := by decide +kernel
theorem dX1_init_90 : decode cX1_init 90 = .ok (.putfield 49, 3) := by decide +kernel
theorem dX1_init_93 : decode cX1_init 93 = .ok (.return_, 1) := by decide +kernel
theorem dX1_become_0 : decode cX1_become 0 = .ok (.aload_n 0, 1) := by decide +kernel
theorem dX1_become_1 : decode cX1_become 1 = .ok (.aload_n 1, 1) := by decide +kernel
theorem dX1_become_2 : decode cX1_become 2 = .ok (.getfield 9, 3) := by decide +kernel
theorem dX1_become_5 : decode cX1_become 5 = .ok (.putfield 9, 3) := by decide +kernel
theorem dX1_become_8 : decode cX1_become 8 = .ok (.aload_n 0, 1) := by decide +kernel
theorem dX1_become_9 : decode cX1_become 9 = .ok (.aload_n 1, 1) := by decide +kernel
theorem dX1_become_10 : decode cX1_become 10 = .ok (.getfield 22, 3) := by decide +kernel
theorem dX1_become_13 : decode cX1_become 13 = .ok (.putfield 22, 3) := by decide +kernel
theorem dX1_become_16 : decode cX1_become 16 = .ok (.aload_n 0, 1) := by decide +kernel
theorem dX1_become_17 : decode cX1_become 17 = .ok (.aload_n 1, 1) := by decide +kernel
theorem dX1_become_18 : decode cX1_become 18 = .ok (.getfield 31, 3) := by decide +kernel
theorem dX1_become_21 : decode cX1_become 21 = .ok (.putfield 31, 3) := by decide +kernel
theorem dX1_become_24 : decode cX1_become 24 = .ok (.aload_n 0, 1) := by decide +kernel
theorem dX1_become_25 : decode cX1_become 25 = .ok (.aload_n 1, 1) := by decide +kernel
theorem dX1_become_26 : decode cX1_become 26 = .ok (.getfield 43, 3) := by decide +kernel
theorem dX1_become_29 : decode cX1_become 29 = .ok (.putfield 43, 3) := by decide +kernel
theorem dX1_become_32 : decode cX1_become 32 = .ok (.aload_n 0, 1) := by decide +kernel
theorem dX1_become_33 : decode cX1_become 33 = .ok (.aload_n 1, 1) := by decide +kernel
theorem dX1_become_34 : decode cX1_become 34 = .ok (.getfield 46, 3) := by decide +kernel
theorem dX1_become_37 : decode cX1_become 37 = .ok (.putfield 46, 3) := by decide +kernel
theorem dX1_become_40 : decode cX1_become 40 = .ok (.aload_n 1, 1) := by decide +kernel
theorem dX1_become_41 : decode cX1_become 41 = .ok (.getfield 15, 3) := by decide +kernel
theorem dX1_become_44 : decode cX1_become 44 = .ok (.iconst 0, 1) := by decide +kernel
theorem dX1_become_45 : decode cX1_become 45 = .ok (.aload_n 0, 1) := by decide +kernel
theorem dX1_become_46 : decode cX1_become 46 = .ok (.getfield 15, 3) := by decide +kernel
theorem dX1_become_49 : decode cX1_become 49 = .ok (.iconst 0, 1) := by decide +kernel
theorem dX1_become_50 : decode cX1_become 50 = .ok (.bipush 10, 2) := by decide +kernel
theorem dX1_become_52 : decode cX1_become 52 = .ok (.invokestatic 52, 3) := by decide +kernel
theorem dX1_become_55 : decode cX1_become 55 = .ok (.aload_n 1, 1) := by decide +kernel
theorem dX1_become_56 : decode cX1_become 56 = .ok (.getfield 19, 3) := by decide +kernel
theorem dX1_become_59 : decode cX1_become 59 = .ok (.iconst 0, 1) := by decide +kernel
theorem dX1_become_60 : decode cX1_become 60 = .ok (.aload_n 0, 1) := by decide +kernel
theorem dX1_become_61 : decode cX1_become 61 = .ok (.getfield 19, 3) := by decide +kernel
theorem dX1_become_64 : decode cX1_become 64 = .ok (.iconst 0, 1) := by decide +kernel
theorem dX1_become_65 : decode cX1_become 65 = .ok (.bipush 10, 2) := by decide +kernel
theorem dX1_become_67 : decode cX1_become 67 = .ok (.invokestatic 52, 3) := by decide +kernel
theorem dX1_become_70 : decode cX1_become 70 = .ok (.aload_n 1, 1) := by decide +kernel
theorem dX1_become_71 : decode cX1_become 71 = .ok (.getfield 25, 3) := by decide +kernel
theorem dX1_become_74 : decode cX1_become 74 = .ok (.iconst 0, 1) := by decide +kernel
theorem dX1_become_75 : decode cX1_become 75 = .ok (.aload_n 0, 1) := by decide +kernel
theorem dX1_become_76 : decode cX1_become 76 = .ok (.getfield 25, 3) := by decide +kernel
theorem dX1_become_79 : decode cX1_become 79 = .ok (.iconst 0, 1) := by decide +kernel
theorem dX1_become_80 : decode cX1_become 80 = .ok (.bipush 6, 2) := by decide +kernel
theorem dX1_become_82 : decode cX1_become 82 = .ok (.invokestatic 52, 3) := by decide +kernel
theorem dX1_become_85 : decode cX1_become 85 = .ok (.aload_n 1, 1) := by decide +kernel
theorem dX1_become_86 : decode cX1_become 86 = .ok (.getfield 28, 3) := by decide +kernel
theorem dX1_become_89 : decode cX1_become 89 = .ok (.iconst 0, 1) := by decide +kernel
theorem dX1_become_90 : decode cX1_become 90 = .ok (.aload_n 0, 1) := by decide +kernel
theorem dX1_become_91 : decode cX1_become 91 = .ok (.getfield 28, 3) := by decide +kernel
theorem dX1_become_94 : decode cX1_become 94 = .ok (.iconst 0, 1) := by decide +kernel
theorem dX1_become_95 : decode cX1_become 95 = .ok (.bipush 6, 2) := by decide +kernel
theorem dX1_become_97 : decode cX1_become 97 = .ok (.invokestatic 52, 3) := by decide +kernel
theorem dX1_become_100 : decode cX1_become 100 = .ok (.aload_n 1, 1) := by decide +kernel
theorem dX1_become_101 : decode cX1_become 101 = .ok (.getfield 34, 3) := by decide +kernel
theorem dX1_become_104 : decode cX1_become 104 = .ok (.iconst 0, 1) := by decide +kernel
theorem dX1_become_105 : decode cX1_become 105 = .ok (.aload_n 0, 1) := by decide +kernel
theorem dX1_become_106 : decode cX1_become 106 = .ok (.getfield 34, 3) := by decide +kernel
theorem dX1_become_109 : decode cX1_become 109 = .ok (.iconst 0, 1) := by decide +kernel
theorem dX1_become_110 : decode cX1_become 110 = .ok (.bipush 8, 2) := by decide +kernel
theorem dX1_become_112 : decode cX1_become 112 = .ok (.invokestatic 52, 3) := by decide +kernel
theorem dX1_become_115 : decode cX1_become 115 = .ok (.aload_n 1, 1) := by decide +kernel
theorem dX1_become_116 : decode cX1_become 116 = .ok (.getfield 37, 3) := by decide +kernel
theorem dX1_become_119 : decode cX1_become 119 = .ok (.iconst 0, 1) := by decide +kernel
theorem dX1_become_120 : decode cX1_become 120 = .ok (.aload_n 0, 1) := by decide +kernel
theorem dX1_become_121 : decode cX1_become 121 = .ok (.getfield 37, 3) := by decide +kernel
theorem dX1_become_124 : decode cX1_become 124 = .ok (.iconst 0, 1) := by decide +kernel
theorem dX1_become_125 : decode cX1_become 125 = .ok (.bipush 8, 2) := by decide +kernel
theorem dX1_become_127 : decode cX1_become 127 = .ok (.invokestatic 52, 3) := by decide +kernel
theorem dX1_become_130 : decode cX1_become 130 = .ok (.aload_n 1, 1) := by decide +kernel
theorem dX1_become_131 : decode cX1_become 131 = .ok (.getfield 40, 3) := by decide +kernel
theorem dX1_become_134 : decode cX1_become 134 = .ok (.iconst 0, 1) := by decide +kernel
theorem dX1_become_135 : decode cX1_become 135 = .ok (.aload_n 0, 1) := by decide +kernel
theorem dX1_become_136 : decode cX1_become 136 = .ok (.getfield 40, 3) := by decide +kernel
theorem dX1_become_139 : decode cX1_become 139 = .ok (.iconst 0, 1) := by decide +kernel
theorem dX1_become_140 : decode cX1_become 140 = .ok (.bipush 8, 2) := by decide +kernel
theorem dX1_become_142 : decode cX1_become 142 = .ok (.invokestatic 52, 3) := by decide +kernel
theorem dX1_become_145 : decode cX1_become 145 = .ok (.aload_n 1, 1) := by decide +kernel
theorem dX1_become_146 : decode cX1_become 146 = .ok (.getfield 49, 3) := by decide +kernel
theorem dX1_become_149 : decode cX1_become 149 = .ok (.iconst 0, 1) := by decide +kernel
theorem dX1_become_150 : decode cX1_become 150 = .ok (.aload_n 0, 1) := by decide +kernel
theorem dX1_become_151 : decode cX1_become 151 = .ok (.getfield 49, 3) := by decide +kernel
theorem dX1_become_154 : decode cX1_become 154 = .ok (.iconst 0, 1) := by decide +kernel
theorem dX1_become_155 : decode cX1_become 155 = .ok (.bipush 8, 2) := by decide +kernel
theorem dX1_become_157 : decode cX1_become 157 = .ok (.invokestatic 52, 3) := by decide +kernel
theorem dX1_become_160 : decode cX1_become 160 = .ok (.return_, 1) := by decide +kernel
theorem dX1_hasThing_0 : decode cX1_hasThing 0 = .ok (.iload_n 1, 1) := by decide +kernel
theorem dX1_hasThing_1 : decode cX1_hasThing 1 = .ok (.ifCond .lt 15, 3) := by decide +kernel
theorem dX1_hasThing_4 : decode cX1_hasThing 4 = .ok (.iload_n 1, 1) := by decide +kernel
theorem dX1_hasThing_5 : decode cX1_hasThing 5 = .ok (.aload_n 0, 1) := by decide +kernel
theorem dX1_hasThing_6 : decode cX1_hasThing 6 = .ok (.getfield 31, 3) := by decide +kernel
theorem dX1_hasThing_9 : decode cX1_hasThing 9 = .ok (.if_icmp .ge 7, 3) := by decide +kernel
theorem dX1_hasThing_12 : decode cX1_hasThing 12 = .ok (.iconst 1, 1) := by decide +kernel
theorem dX1_hasThing_13 : decode cX1_hasThing 13 = .ok (.goto 4, 3) := by decide +kernel
theorem dX1_hasThing_16 : decode cX1_hasThing 16 = .ok (.iconst 0, 1) := by decide +kernel
theorem dX1_hasThing_17 : decode cX1_hasThing 17 = .ok (.ireturn, 1) := by decide +kernel
theorem dX1_hasLine_0 : decode cX1_hasLine 0 = .ok (.iload_n 1, 1) := by decide +kernel
theorem dX1_hasLine_1 : decode cX1_hasLine 1 = .ok (.ifCond .lt 15, 3) := by decide +kernel
theorem dX1_hasLine_4 : decode cX1_hasLine 4 = .ok (.iload_n 1, 1) := by decide +kernel
theorem dX1_hasLine_5 : decode cX1_hasLine 5 = .ok (.aload_n 0, 1) := by decide +kernel
theorem dX1_hasLine_6 : decode cX1_hasLine 6 = .ok (.getfield 9, 3) := by decide +kernel
theorem dX1_hasLine_9 : decode cX1_hasLine 9 = .ok (.if_icmp .ge 7, 3) := by decide +kernel
theorem dX1_hasLine_12 : decode cX1_hasLine 12 = .ok (.iconst 1, 1) := by decide +kernel
theorem dX1_hasLine_13 : decode cX1_hasLine 13 = .ok (.goto 4, 3) := by decide +kernel
theorem dX1_hasLine_16 : decode cX1_hasLine 16 = .ok (.iconst 0, 1) := by decide +kernel
theorem dX1_hasLine_17 : decode cX1_hasLine 17 = .ok (.ireturn, 1) := by decide +kernel
theorem dX1_allThings_0 : decode cX1_allThings 0 = .ok (.iconst 1, 1) := by decide +kernel
theorem dX1_allThings_1 : decode cX1_allThings 1 = .ok (.aload_n 0, 1) := by decide +kernel
theorem dX1_allThings_2 : decode cX1_allThings 2 = .ok (.getfield 31, 3) := by decide +kernel
theorem dX1_allThings_5 : decode cX1_allThings 5 = .ok (.ishl, 1) := by decide +kernel
theorem dX1_allThings_6 : decode cX1_allThings 6 = .ok (.iconst 1, 1) := by decide +kernel
theorem dX1_allThings_7 : decode cX1_allThings 7 = .ok (.isub, 1) := by decide +kernel
theorem dX1_allThings_8 : decode cX1_allThings 8 = .ok (.ireturn, 1) := by decide +kernel
theorem dX1_coupledCount_0 : decode cX1_coupledCount 0 = .ok (.iconst 0, 1) := by decide +kernel
theorem dX1_coupledCount_1 : decode cX1_coupledCount 1 = .ok (.istore_n 1, 1) := by decide +kernel
theorem dX1_coupledCount_2 : decode cX1_coupledCount 2 = .ok (.iconst 0, 1) := by decide +kernel
theorem dX1_coupledCount_3 : decode cX1_coupledCount 3 = .ok (.istore_n 2, 1) := by decide +kernel
theorem dX1_coupledCount_4 : decode cX1_coupledCount 4 = .ok (.iload_n 2, 1) := by decide +kernel
theorem dX1_coupledCount_5 : decode cX1_coupledCount 5 = .ok (.aload_n 0, 1) := by decide +kernel
theorem dX1_coupledCount_6 : decode cX1_coupledCount 6 = .ok (.getfield 31, 3) := by decide +kernel
theorem dX1_coupledCount_9 : decode cX1_coupledCount 9 = .ok (.if_icmp .ge 23, 3) := by decide +kernel
theorem dX1_coupledCount_12 : decode cX1_coupledCount 12 = .ok (.aload_n 0, 1) := by decide +kernel
theorem dX1_coupledCount_13 : decode cX1_coupledCount 13 = .ok (.getfield 40, 3) := by decide +kernel
theorem dX1_coupledCount_16 : decode cX1_coupledCount 16 = .ok (.iload_n 2, 1) := by decide +kernel
theorem dX1_coupledCount_17 : decode cX1_coupledCount 17 = .ok (.iaload, 1) := by decide +kernel
theorem dX1_coupledCount_18 : decode cX1_coupledCount 18 = .ok (.bipush (-9), 2) := by decide +kernel
theorem dX1_coupledCount_20 : decode cX1_coupledCount 20 = .ok (.if_icmp .eq 6, 3) := by decide +kernel
theorem dX1_coupledCount_23 : decode cX1_coupledCount 23 = .ok (.iinc 1 1, 3) := by decide +kernel
theorem dX1_coupledCount_26 : decode cX1_coupledCount 26 = .ok (.iinc 2 1, 3) := by decide +kernel
theorem dX1_coupledCount_29 : decode cX1_coupledCount 29 = .ok (.goto (-25), 3) := by decide +kernel
theorem dX1_coupledCount_32 : decode cX1_coupledCount 32 = .ok (.iload_n 1, 1) := by decide +kernel
theorem dX1_coupledCount_33 : decode cX1_coupledCount 33 = .ok (.ireturn, 1) := by decide +kernel
theorem dX1_hang_0 : decode cX1_hang 0 = .ok (.aload_n 0, 1) := by decide +kernel
theorem dX1_hang_1 : decode cX1_hang 1 = .ok (.iload_n 1, 1) := by decide +kernel
theorem dX1_hang_2 : decode cX1_hang 2 = .ok (.putfield 22, 3) := by decide +kernel
theorem dX1_hang_5 : decode cX1_hang 5 = .ok (.iconst 0, 1) := by decide +kernel
theorem dX1_hang_6 : decode cX1_hang 6 = .ok (.istore_n 2, 1) := by decide +kernel
theorem dX1_hang_7 : decode cX1_hang 7 = .ok (.iload_n 2, 1) := by decide +kernel
theorem dX1_hang_8 : decode cX1_hang 8 = .ok (.bipush 6, 2) := by decide +kernel
theorem dX1_hang_10 : decode cX1_hang 10 = .ok (.if_icmp .ge 16, 3) := by decide +kernel
theorem dX1_hang_13 : decode cX1_hang 13 = .ok (.aload_n 0, 1) := by decide +kernel
theorem dX1_hang_14 : decode cX1_hang 14 = .ok (.getfield 28, 3) := by decide +kernel
theorem dX1_hang_17 : decode cX1_hang 17 = .ok (.iload_n 2, 1) := by decide +kernel
theorem dX1_hang_18 : decode cX1_hang 18 = .ok (.iconst 0, 1) := by decide +kernel
theorem dX1_hang_19 : decode cX1_hang 19 = .ok (.iastore, 1) := by decide +kernel
theorem dX1_hang_20 : decode cX1_hang 20 = .ok (.iinc 2 1, 3) := by decide +kernel
theorem dX1_hang_23 : decode cX1_hang 23 = .ok (.goto (-16), 3) := by decide +kernel
theorem dX1_hang_26 : decode cX1_hang 26 = .ok (.iconst 0, 1) := by decide +kernel
theorem dX1_hang_27 : decode cX1_hang 27 = .ok (.istore_n 2, 1) := by decide +kernel
theorem dX1_hang_28 : decode cX1_hang 28 = .ok (.iload_n 2, 1) := by decide +kernel
theorem dX1_hang_29 : decode cX1_hang 29 = .ok (.aload_n 0, 1) := by decide +kernel
theorem dX1_hang_30 : decode cX1_hang 30 = .ok (.getfield 9, 3) := by decide +kernel
theorem dX1_hang_33 : decode cX1_hang 33 = .ok (.if_icmp .ge 61, 3) := by decide +kernel
theorem dX1_hang_36 : decode cX1_hang 36 = .ok (.iload_n 1, 1) := by decide +kernel
theorem dX1_hang_37 : decode cX1_hang 37 = .ok (.iload_n 2, 1) := by decide +kernel
theorem dX1_hang_38 : decode cX1_hang 38 = .ok (.ishr, 1) := by decide +kernel
theorem dX1_hang_39 : decode cX1_hang 39 = .ok (.iconst 1, 1) := by decide +kernel
theorem dX1_hang_40 : decode cX1_hang 40 = .ok (.iand, 1) := by decide +kernel
theorem dX1_hang_41 : decode cX1_hang 41 = .ok (.ifCond .ne 47, 3) := by decide +kernel
theorem dX1_hang_44 : decode cX1_hang 44 = .ok (.aload_n 0, 1) := by decide +kernel
theorem dX1_hang_45 : decode cX1_hang 45 = .ok (.getfield 28, 3) := by decide +kernel
theorem dX1_hang_48 : decode cX1_hang 48 = .ok (.aload_n 0, 1) := by decide +kernel
theorem dX1_hang_49 : decode cX1_hang 49 = .ok (.getfield 15, 3) := by decide +kernel
theorem dX1_hang_52 : decode cX1_hang 52 = .ok (.iload_n 2, 1) := by decide +kernel
theorem dX1_hang_53 : decode cX1_hang 53 = .ok (.iaload, 1) := by decide +kernel
theorem dX1_hang_54 : decode cX1_hang 54 = .ok (.dup2, 1) := by decide +kernel
theorem dX1_hang_55 : decode cX1_hang 55 = .ok (.iaload, 1) := by decide +kernel
theorem dX1_hang_56 : decode cX1_hang 56 = .ok (.iconst 1, 1) := by decide +kernel
theorem dX1_hang_57 : decode cX1_hang 57 = .ok (.aload_n 0, 1) := by decide +kernel
theorem dX1_hang_58 : decode cX1_hang 58 = .ok (.getfield 19, 3) := by decide +kernel
theorem dX1_hang_61 : decode cX1_hang 61 = .ok (.iload_n 2, 1) := by decide +kernel
theorem dX1_hang_62 : decode cX1_hang 62 = .ok (.iaload, 1) := by decide +kernel
theorem dX1_hang_63 : decode cX1_hang 63 = .ok (.ishl, 1) := by decide +kernel
theorem dX1_hang_64 : decode cX1_hang 64 = .ok (.ior, 1) := by decide +kernel
theorem dX1_hang_65 : decode cX1_hang 65 = .ok (.iastore, 1) := by decide +kernel
theorem dX1_hang_66 : decode cX1_hang 66 = .ok (.aload_n 0, 1) := by decide +kernel
theorem dX1_hang_67 : decode cX1_hang 67 = .ok (.getfield 28, 3) := by decide +kernel
theorem dX1_hang_70 : decode cX1_hang 70 = .ok (.aload_n 0, 1) := by decide +kernel
theorem dX1_hang_71 : decode cX1_hang 71 = .ok (.getfield 19, 3) := by decide +kernel
theorem dX1_hang_74 : decode cX1_hang 74 = .ok (.iload_n 2, 1) := by decide +kernel
theorem dX1_hang_75 : decode cX1_hang 75 = .ok (.iaload, 1) := by decide +kernel
theorem dX1_hang_76 : decode cX1_hang 76 = .ok (.dup2, 1) := by decide +kernel
theorem dX1_hang_77 : decode cX1_hang 77 = .ok (.iaload, 1) := by decide +kernel
theorem dX1_hang_78 : decode cX1_hang 78 = .ok (.iconst 1, 1) := by decide +kernel
theorem dX1_hang_79 : decode cX1_hang 79 = .ok (.aload_n 0, 1) := by decide +kernel
theorem dX1_hang_80 : decode cX1_hang 80 = .ok (.getfield 15, 3) := by decide +kernel
theorem dX1_hang_83 : decode cX1_hang 83 = .ok (.iload_n 2, 1) := by decide +kernel
theorem dX1_hang_84 : decode cX1_hang 84 = .ok (.iaload, 1) := by decide +kernel
theorem dX1_hang_85 : decode cX1_hang 85 = .ok (.ishl, 1) := by decide +kernel
theorem dX1_hang_86 : decode cX1_hang 86 = .ok (.ior, 1) := by decide +kernel
theorem dX1_hang_87 : decode cX1_hang 87 = .ok (.iastore, 1) := by decide +kernel
theorem dX1_hang_88 : decode cX1_hang 88 = .ok (.iinc 2 1, 3) := by decide +kernel
theorem dX1_hang_91 : decode cX1_hang 91 = .ok (.goto (-63), 3) := by decide +kernel
theorem dX1_hang_94 : decode cX1_hang 94 = .ok (.return_, 1) := by decide +kernel
theorem dX1_couple_0 : decode cX1_couple 0 = .ok (.aload_n 0, 1) := by decide +kernel
theorem dX1_couple_1 : decode cX1_couple 1 = .ok (.getfield 40, 3) := by decide +kernel
theorem dX1_couple_4 : decode cX1_couple 4 = .ok (.iload_n 1, 1) := by decide +kernel
theorem dX1_couple_5 : decode cX1_couple 5 = .ok (.iaload, 1) := by decide +kernel
theorem dX1_couple_6 : decode cX1_couple 6 = .ok (.iload_n 2, 1) := by decide +kernel
theorem dX1_couple_7 : decode cX1_couple 7 = .ok (.if_icmp .ne 5, 3) := by decide +kernel
theorem dX1_couple_10 : decode cX1_couple 10 = .ok (.iconst 0, 1) := by decide +kernel
theorem dX1_couple_11 : decode cX1_couple 11 = .ok (.ireturn, 1) := by decide +kernel
theorem dX1_couple_12 : decode cX1_couple 12 = .ok (.aload_n 0, 1) := by decide +kernel
theorem dX1_couple_13 : decode cX1_couple 13 = .ok (.iload_n 1, 1) := by decide +kernel
theorem dX1_couple_14 : decode cX1_couple 14 = .ok (.invokevirtual 58, 3) := by decide +kernel
theorem dX1_couple_17 : decode cX1_couple 17 = .ok (.aload_n 0, 1) := by decide +kernel
theorem dX1_couple_18 : decode cX1_couple 18 = .ok (.iload_n 2, 1) := by decide +kernel
theorem dX1_couple_19 : decode cX1_couple 19 = .ok (.invokevirtual 58, 3) := by decide +kernel
theorem dX1_couple_22 : decode cX1_couple 22 = .ok (.iadd, 1) := by decide +kernel
theorem dX1_couple_23 : decode cX1_couple 23 = .ok (.istore_n 3, 1) := by decide +kernel
theorem dX1_couple_24 : decode cX1_couple 24 = .ok (.aload_n 0, 1) := by decide +kernel
theorem dX1_couple_25 : decode cX1_couple 25 = .ok (.getfield 40, 3) := by decide +kernel
theorem dX1_couple_28 : decode cX1_couple 28 = .ok (.iload_n 1, 1) := by decide +kernel
theorem dX1_couple_29 : decode cX1_couple 29 = .ok (.iload_n 2, 1) := by decide +kernel
theorem dX1_couple_30 : decode cX1_couple 30 = .ok (.iastore, 1) := by decide +kernel
theorem dX1_couple_31 : decode cX1_couple 31 = .ok (.aload_n 0, 1) := by decide +kernel
theorem dX1_couple_32 : decode cX1_couple 32 = .ok (.getfield 40, 3) := by decide +kernel
theorem dX1_couple_35 : decode cX1_couple 35 = .ok (.iload_n 2, 1) := by decide +kernel
theorem dX1_couple_36 : decode cX1_couple 36 = .ok (.iload_n 1, 1) := by decide +kernel
theorem dX1_couple_37 : decode cX1_couple 37 = .ok (.iastore, 1) := by decide +kernel
theorem dX1_couple_38 : decode cX1_couple 38 = .ok (.iload_n 3, 1) := by decide +kernel
theorem dX1_couple_39 : decode cX1_couple 39 = .ok (.ireturn, 1) := by decide +kernel
theorem dX1_leave_0 : decode cX1_leave 0 = .ok (.aload_n 0, 1) := by decide +kernel
theorem dX1_leave_1 : decode cX1_leave 1 = .ok (.getfield 40, 3) := by decide +kernel
theorem dX1_leave_4 : decode cX1_leave 4 = .ok (.iload_n 1, 1) := by decide +kernel
theorem dX1_leave_5 : decode cX1_leave 5 = .ok (.iaload, 1) := by decide +kernel
theorem dX1_leave_6 : decode cX1_leave 6 = .ok (.istore_n 2, 1) := by decide +kernel
theorem dX1_leave_7 : decode cX1_leave 7 = .ok (.aload_n 0, 1) := by decide +kernel
theorem dX1_leave_8 : decode cX1_leave 8 = .ok (.iload_n 2, 1) := by decide +kernel
theorem dX1_leave_9 : decode cX1_leave 9 = .ok (.invokevirtual 62, 3) := by decide +kernel
theorem dX1_leave_12 : decode cX1_leave 12 = .ok (.ifCond .ne 5, 3) := by decide +kernel
theorem dX1_leave_15 : decode cX1_leave 15 = .ok (.iconst 0, 1) := by decide +kernel
theorem dX1_leave_16 : decode cX1_leave 16 = .ok (.ireturn, 1) := by decide +kernel
theorem dX1_leave_17 : decode cX1_leave 17 = .ok (.aload_n 0, 1) := by decide +kernel
theorem dX1_leave_18 : decode cX1_leave 18 = .ok (.getfield 40, 3) := by decide +kernel
theorem dX1_leave_21 : decode cX1_leave 21 = .ok (.iload_n 2, 1) := by decide +kernel
theorem dX1_leave_22 : decode cX1_leave 22 = .ok (.bipush (-9), 2) := by decide +kernel
theorem dX1_leave_24 : decode cX1_leave 24 = .ok (.iastore, 1) := by decide +kernel
theorem dX1_leave_25 : decode cX1_leave 25 = .ok (.iconst 1, 1) := by decide +kernel
theorem dX1_leave_26 : decode cX1_leave 26 = .ok (.ireturn, 1) := by decide +kernel
theorem dX1_addLine_0 : decode cX1_addLine 0 = .ok (.iload_n 1, 1) := by decide +kernel
theorem dX1_addLine_1 : decode cX1_addLine 1 = .ok (.invokestatic 66, 3) := by decide +kernel
theorem dX1_addLine_4 : decode cX1_addLine 4 = .ok (.ifCond .eq 24, 3) := by decide +kernel
theorem dX1_addLine_7 : decode cX1_addLine 7 = .ok (.iload_n 2, 1) := by decide +kernel
theorem dX1_addLine_8 : decode cX1_addLine 8 = .ok (.invokestatic 66, 3) := by decide +kernel
theorem dX1_addLine_11 : decode cX1_addLine 11 = .ok (.ifCond .eq 17, 3) := by decide +kernel
theorem dX1_addLine_14 : decode cX1_addLine 14 = .ok (.iload_n 1, 1) := by decide +kernel
theorem dX1_addLine_15 : decode cX1_addLine 15 = .ok (.iload_n 2, 1) := by decide +kernel
theorem dX1_addLine_16 : decode cX1_addLine 16 = .ok (.if_icmp .eq 12, 3) := by decide +kernel
theorem dX1_addLine_19 : decode cX1_addLine 19 = .ok (.aload_n 0, 1) := by decide +kernel
theorem dX1_addLine_20 : decode cX1_addLine 20 = .ok (.getfield 9, 3) := by decide +kernel
theorem dX1_addLine_23 : decode cX1_addLine 23 = .ok (.bipush 10, 2) := by decide +kernel
theorem dX1_addLine_25 : decode cX1_addLine 25 = .ok (.if_icmp .lt 5, 3) := by decide +kernel
theorem dX1_addLine_28 : decode cX1_addLine 28 = .ok (.iconst 0, 1) := by decide +kernel
theorem dX1_addLine_29 : decode cX1_addLine 29 = .ok (.ireturn, 1) := by decide +kernel
theorem dX1_addLine_30 : decode cX1_addLine 30 = .ok (.aload_n 0, 1) := by decide +kernel
theorem dX1_addLine_31 : decode cX1_addLine 31 = .ok (.getfield 25, 3) := by decide +kernel
theorem dX1_addLine_34 : decode cX1_addLine 34 = .ok (.iload_n 1, 1) := by decide +kernel
theorem dX1_addLine_35 : decode cX1_addLine 35 = .ok (.iaload, 1) := by decide +kernel
theorem dX1_addLine_36 : decode cX1_addLine 36 = .ok (.iload_n 2, 1) := by decide +kernel
theorem dX1_addLine_37 : decode cX1_addLine 37 = .ok (.ishr, 1) := by decide +kernel
theorem dX1_addLine_38 : decode cX1_addLine 38 = .ok (.iconst 1, 1) := by decide +kernel
theorem dX1_addLine_39 : decode cX1_addLine 39 = .ok (.iand, 1) := by decide +kernel
theorem dX1_addLine_40 : decode cX1_addLine 40 = .ok (.ifCond .eq 5, 3) := by decide +kernel
theorem dX1_addLine_43 : decode cX1_addLine 43 = .ok (.iconst 0, 1) := by decide +kernel
theorem dX1_addLine_44 : decode cX1_addLine 44 = .ok (.ireturn, 1) := by decide +kernel
theorem dX1_addLine_45 : decode cX1_addLine 45 = .ok (.aload_n 0, 1) := by decide +kernel
theorem dX1_addLine_46 : decode cX1_addLine 46 = .ok (.getfield 15, 3) := by decide +kernel
theorem dX1_addLine_49 : decode cX1_addLine 49 = .ok (.aload_n 0, 1) := by decide +kernel
theorem dX1_addLine_50 : decode cX1_addLine 50 = .ok (.getfield 9, 3) := by decide +kernel
theorem dX1_addLine_53 : decode cX1_addLine 53 = .ok (.iload_n 1, 1) := by decide +kernel
theorem dX1_addLine_54 : decode cX1_addLine 54 = .ok (.iload_n 2, 1) := by decide +kernel
theorem dX1_addLine_55 : decode cX1_addLine 55 = .ok (.invokestatic 69, 3) := by decide +kernel
theorem dX1_addLine_58 : decode cX1_addLine 58 = .ok (.iastore, 1) := by decide +kernel
theorem dX1_addLine_59 : decode cX1_addLine 59 = .ok (.aload_n 0, 1) := by decide +kernel
theorem dX1_addLine_60 : decode cX1_addLine 60 = .ok (.getfield 19, 3) := by decide +kernel
theorem dX1_addLine_63 : decode cX1_addLine 63 = .ok (.aload_n 0, 1) := by decide +kernel
theorem dX1_addLine_64 : decode cX1_addLine 64 = .ok (.getfield 9, 3) := by decide +kernel
theorem dX1_addLine_67 : decode cX1_addLine 67 = .ok (.iload_n 1, 1) := by decide +kernel
theorem dX1_addLine_68 : decode cX1_addLine 68 = .ok (.iload_n 2, 1) := by decide +kernel
theorem dX1_addLine_69 : decode cX1_addLine 69 = .ok (.invokestatic 75, 3) := by decide +kernel
theorem dX1_addLine_72 : decode cX1_addLine 72 = .ok (.iastore, 1) := by decide +kernel
theorem dX1_addLine_73 : decode cX1_addLine 73 = .ok (.aload_n 0, 1) := by decide +kernel
theorem dX1_addLine_74 : decode cX1_addLine 74 = .ok (.dup, 1) := by decide +kernel
theorem dX1_addLine_75 : decode cX1_addLine 75 = .ok (.getfield 9, 3) := by decide +kernel
theorem dX1_addLine_78 : decode cX1_addLine 78 = .ok (.iconst 1, 1) := by decide +kernel
theorem dX1_addLine_79 : decode cX1_addLine 79 = .ok (.iadd, 1) := by decide +kernel
theorem dX1_addLine_80 : decode cX1_addLine 80 = .ok (.putfield 9, 3) := by decide +kernel
theorem dX1_addLine_83 : decode cX1_addLine 83 = .ok (.aload_n 0, 1) := by decide +kernel
theorem dX1_addLine_84 : decode cX1_addLine 84 = .ok (.getfield 25, 3) := by decide +kernel
theorem dX1_addLine_87 : decode cX1_addLine 87 = .ok (.iload_n 1, 1) := by decide +kernel
theorem dX1_addLine_88 : decode cX1_addLine 88 = .ok (.dup2, 1) := by decide +kernel
theorem dX1_addLine_89 : decode cX1_addLine 89 = .ok (.iaload, 1) := by decide +kernel
theorem dX1_addLine_90 : decode cX1_addLine 90 = .ok (.iconst 1, 1) := by decide +kernel
theorem dX1_addLine_91 : decode cX1_addLine 91 = .ok (.iload_n 2, 1) := by decide +kernel
theorem dX1_addLine_92 : decode cX1_addLine 92 = .ok (.ishl, 1) := by decide +kernel
theorem dX1_addLine_93 : decode cX1_addLine 93 = .ok (.ior, 1) := by decide +kernel
theorem dX1_addLine_94 : decode cX1_addLine 94 = .ok (.iastore, 1) := by decide +kernel
theorem dX1_addLine_95 : decode cX1_addLine 95 = .ok (.aload_n 0, 1) := by decide +kernel
theorem dX1_addLine_96 : decode cX1_addLine 96 = .ok (.getfield 25, 3) := by decide +kernel
theorem dX1_addLine_99 : decode cX1_addLine 99 = .ok (.iload_n 2, 1) := by decide +kernel
theorem dX1_addLine_100 : decode cX1_addLine 100 = .ok (.dup2, 1) := by decide +kernel
theorem dX1_addLine_101 : decode cX1_addLine 101 = .ok (.iaload, 1) := by decide +kernel
theorem dX1_addLine_102 : decode cX1_addLine 102 = .ok (.iconst 1, 1) := by decide +kernel
theorem dX1_addLine_103 : decode cX1_addLine 103 = .ok (.iload_n 1, 1) := by decide +kernel
theorem dX1_addLine_104 : decode cX1_addLine 104 = .ok (.ishl, 1) := by decide +kernel
theorem dX1_addLine_105 : decode cX1_addLine 105 = .ok (.ior, 1) := by decide +kernel
theorem dX1_addLine_106 : decode cX1_addLine 106 = .ok (.iastore, 1) := by decide +kernel
theorem dX1_addLine_107 : decode cX1_addLine 107 = .ok (.aload_n 0, 1) := by decide +kernel
theorem dX1_addLine_108 : decode cX1_addLine 108 = .ok (.getfield 28, 3) := by decide +kernel
theorem dX1_addLine_111 : decode cX1_addLine 111 = .ok (.iload_n 1, 1) := by decide +kernel
theorem dX1_addLine_112 : decode cX1_addLine 112 = .ok (.dup2, 1) := by decide +kernel
theorem dX1_addLine_113 : decode cX1_addLine 113 = .ok (.iaload, 1) := by decide +kernel
theorem dX1_addLine_114 : decode cX1_addLine 114 = .ok (.iconst 1, 1) := by decide +kernel
theorem dX1_addLine_115 : decode cX1_addLine 115 = .ok (.iload_n 2, 1) := by decide +kernel
theorem dX1_addLine_116 : decode cX1_addLine 116 = .ok (.ishl, 1) := by decide +kernel
theorem dX1_addLine_117 : decode cX1_addLine 117 = .ok (.ior, 1) := by decide +kernel
theorem dX1_addLine_118 : decode cX1_addLine 118 = .ok (.iastore, 1) := by decide +kernel
theorem dX1_addLine_119 : decode cX1_addLine 119 = .ok (.aload_n 0, 1) := by decide +kernel
theorem dX1_addLine_120 : decode cX1_addLine 120 = .ok (.getfield 28, 3) := by decide +kernel
theorem dX1_addLine_123 : decode cX1_addLine 123 = .ok (.iload_n 2, 1) := by decide +kernel
theorem dX1_addLine_124 : decode cX1_addLine 124 = .ok (.dup2, 1) := by decide +kernel
theorem dX1_addLine_125 : decode cX1_addLine 125 = .ok (.iaload, 1) := by decide +kernel
theorem dX1_addLine_126 : decode cX1_addLine 126 = .ok (.iconst 1, 1) := by decide +kernel
theorem dX1_addLine_127 : decode cX1_addLine 127 = .ok (.iload_n 1, 1) := by decide +kernel
theorem dX1_addLine_128 : decode cX1_addLine 128 = .ok (.ishl, 1) := by decide +kernel
theorem dX1_addLine_129 : decode cX1_addLine 129 = .ok (.ior, 1) := by decide +kernel
theorem dX1_addLine_130 : decode cX1_addLine 130 = .ok (.iastore, 1) := by decide +kernel
theorem dX1_addLine_131 : decode cX1_addLine 131 = .ok (.iconst 1, 1) := by decide +kernel
theorem dX1_addLine_132 : decode cX1_addLine 132 = .ok (.ireturn, 1) := by decide +kernel
theorem dX1_addThing_0 : decode cX1_addThing 0 = .ok (.iload_n 2, 1) := by decide +kernel
theorem dX1_addThing_1 : decode cX1_addThing 1 = .ok (.invokestatic 66, 3) := by decide +kernel
theorem dX1_addThing_4 : decode cX1_addThing 4 = .ok (.ifCond .eq 12, 3) := by decide +kernel
theorem dX1_addThing_7 : decode cX1_addThing 7 = .ok (.aload_n 0, 1) := by decide +kernel
theorem dX1_addThing_8 : decode cX1_addThing 8 = .ok (.getfield 31, 3) := by decide +kernel
theorem dX1_addThing_11 : decode cX1_addThing 11 = .ok (.bipush 8, 2) := by decide +kernel
theorem dX1_addThing_13 : decode cX1_addThing 13 = .ok (.if_icmp .lt 5, 3) := by decide +kernel
theorem dX1_addThing_16 : decode cX1_addThing 16 = .ok (.iconst 0, 1) := by decide +kernel
theorem dX1_addThing_17 : decode cX1_addThing 17 = .ok (.ireturn, 1) := by decide +kernel
theorem dX1_addThing_18 : decode cX1_addThing 18 = .ok (.aload_n 0, 1) := by decide +kernel
theorem dX1_addThing_19 : decode cX1_addThing 19 = .ok (.getfield 34, 3) := by decide +kernel
theorem dX1_addThing_22 : decode cX1_addThing 22 = .ok (.aload_n 0, 1) := by decide +kernel
theorem dX1_addThing_23 : decode cX1_addThing 23 = .ok (.getfield 31, 3) := by decide +kernel
theorem dX1_addThing_26 : decode cX1_addThing 26 = .ok (.iload_n 1, 1) := by decide +kernel
theorem dX1_addThing_27 : decode cX1_addThing 27 = .ok (.iastore, 1) := by decide +kernel
theorem dX1_addThing_28 : decode cX1_addThing 28 = .ok (.aload_n 0, 1) := by decide +kernel
theorem dX1_addThing_29 : decode cX1_addThing 29 = .ok (.getfield 37, 3) := by decide +kernel
theorem dX1_addThing_32 : decode cX1_addThing 32 = .ok (.aload_n 0, 1) := by decide +kernel
theorem dX1_addThing_33 : decode cX1_addThing 33 = .ok (.getfield 31, 3) := by decide +kernel
theorem dX1_addThing_36 : decode cX1_addThing 36 = .ok (.iload_n 2, 1) := by decide +kernel
theorem dX1_addThing_37 : decode cX1_addThing 37 = .ok (.iastore, 1) := by decide +kernel
theorem dX1_addThing_38 : decode cX1_addThing 38 = .ok (.aload_n 0, 1) := by decide +kernel
theorem dX1_addThing_39 : decode cX1_addThing 39 = .ok (.getfield 40, 3) := by decide +kernel
theorem dX1_addThing_42 : decode cX1_addThing 42 = .ok (.aload_n 0, 1) := by decide +kernel
theorem dX1_addThing_43 : decode cX1_addThing 43 = .ok (.getfield 31, 3) := by decide +kernel
theorem dX1_addThing_46 : decode cX1_addThing 46 = .ok (.bipush (-9), 2) := by decide +kernel
theorem dX1_addThing_48 : decode cX1_addThing 48 = .ok (.iastore, 1) := by decide +kernel
theorem dX1_addThing_49 : decode cX1_addThing 49 = .ok (.aload_n 0, 1) := by decide +kernel
theorem dX1_addThing_50 : decode cX1_addThing 50 = .ok (.dup, 1) := by decide +kernel
theorem dX1_addThing_51 : decode cX1_addThing 51 = .ok (.getfield 31, 3) := by decide +kernel
theorem dX1_addThing_54 : decode cX1_addThing 54 = .ok (.iconst 1, 1) := by decide +kernel
theorem dX1_addThing_55 : decode cX1_addThing 55 = .ok (.iadd, 1) := by decide +kernel
theorem dX1_addThing_56 : decode cX1_addThing 56 = .ok (.putfield 31, 3) := by decide +kernel
theorem dX1_addThing_59 : decode cX1_addThing 59 = .ok (.iconst 1, 1) := by decide +kernel
theorem dX1_addThing_60 : decode cX1_addThing 60 = .ok (.ireturn, 1) := by decide +kernel
theorem dX1_obey_0 : decode cX1_obey 0 = .ok (.iload_n 1, 1) := by decide +kernel
theorem dX1_obey_1 : decode cX1_obey 1 = .ok (.lookupswitch 112 #[(99, 64), (108, 51), (109, 99), (111, 86), (116, 73)], 51) := by decide +kernel
theorem dX1_obey_52 : decode cX1_obey 52 = .ok (.aload_n 0, 1) := by decide +kernel
theorem dX1_obey_53 : decode cX1_obey 53 = .ok (.iload_n 2, 1) := by decide +kernel
theorem dX1_obey_54 : decode cX1_obey 54 = .ok (.invokestatic 78, 3) := by decide +kernel
theorem dX1_obey_57 : decode cX1_obey 57 = .ok (.iload_n 3, 1) := by decide +kernel
theorem dX1_obey_58 : decode cX1_obey 58 = .ok (.invokestatic 78, 3) := by decide +kernel
theorem dX1_obey_61 : decode cX1_obey 61 = .ok (.invokevirtual 83, 3) := by decide +kernel
theorem dX1_obey_64 : decode cX1_obey 64 = .ok (.ireturn, 1) := by decide +kernel
theorem dX1_obey_65 : decode cX1_obey 65 = .ok (.aload_n 0, 1) := by decide +kernel
theorem dX1_obey_66 : decode cX1_obey 66 = .ok (.iload_n 2, 1) := by decide +kernel
theorem dX1_obey_67 : decode cX1_obey 67 = .ok (.invokestatic 78, 3) := by decide +kernel
theorem dX1_obey_70 : decode cX1_obey 70 = .ok (.invokevirtual 87, 3) := by decide +kernel
theorem dX1_obey_73 : decode cX1_obey 73 = .ok (.ireturn, 1) := by decide +kernel
theorem dX1_obey_74 : decode cX1_obey 74 = .ok (.aload_n 0, 1) := by decide +kernel
theorem dX1_obey_75 : decode cX1_obey 75 = .ok (.iload_n 2, 1) := by decide +kernel
theorem dX1_obey_76 : decode cX1_obey 76 = .ok (.invokestatic 90, 3) := by decide +kernel
theorem dX1_obey_79 : decode cX1_obey 79 = .ok (.iload_n 3, 1) := by decide +kernel
theorem dX1_obey_80 : decode cX1_obey 80 = .ok (.invokestatic 78, 3) := by decide +kernel
theorem dX1_obey_83 : decode cX1_obey 83 = .ok (.invokevirtual 93, 3) := by decide +kernel
theorem dX1_obey_86 : decode cX1_obey 86 = .ok (.ireturn, 1) := by decide +kernel
theorem dX1_obey_87 : decode cX1_obey 87 = .ok (.aload_n 0, 1) := by decide +kernel
theorem dX1_obey_88 : decode cX1_obey 88 = .ok (.iload_n 2, 1) := by decide +kernel
theorem dX1_obey_89 : decode cX1_obey 89 = .ok (.invokestatic 78, 3) := by decide +kernel
theorem dX1_obey_92 : decode cX1_obey 92 = .ok (.iload_n 3, 1) := by decide +kernel
theorem dX1_obey_93 : decode cX1_obey 93 = .ok (.invokestatic 78, 3) := by decide +kernel
theorem dX1_obey_96 : decode cX1_obey 96 = .ok (.invokevirtual 96, 3) := by decide +kernel
theorem dX1_obey_99 : decode cX1_obey 99 = .ok (.ireturn, 1) := by decide +kernel
theorem dX1_obey_100 : decode cX1_obey 100 = .ok (.aload_n 0, 1) := by decide +kernel
theorem dX1_obey_101 : decode cX1_obey 101 = .ok (.iload_n 2, 1) := by decide +kernel
theorem dX1_obey_102 : decode cX1_obey 102 = .ok (.invokestatic 78, 3) := by decide +kernel
theorem dX1_obey_105 : decode cX1_obey 105 = .ok (.iload_n 3, 1) := by decide +kernel
theorem dX1_obey_106 : decode cX1_obey 106 = .ok (.invokestatic 78, 3) := by decide +kernel
theorem dX1_obey_109 : decode cX1_obey 109 = .ok (.invokevirtual 99, 3) := by decide +kernel
theorem dX1_obey_112 : decode cX1_obey 112 = .ok (.ireturn, 1) := by decide +kernel
theorem dX1_obey_113 : decode cX1_obey 113 = .ok (.aload_n 0, 1) := by decide +kernel
theorem dX1_obey_114 : decode cX1_obey 114 = .ok (.iload_n 2, 1) := by decide +kernel
theorem dX1_obey_115 : decode cX1_obey 115 = .ok (.invokestatic 78, 3) := by decide +kernel
theorem dX1_obey_118 : decode cX1_obey 118 = .ok (.invokevirtual 102, 3) := by decide +kernel
theorem dX1_obey_121 : decode cX1_obey 121 = .ok (.ireturn, 1) := by decide +kernel
theorem dX1_toggle_0 : decode cX1_toggle 0 = .ok (.aload_n 0, 1) := by decide +kernel
theorem dX1_toggle_1 : decode cX1_toggle 1 = .ok (.iload_n 1, 1) := by decide +kernel
theorem dX1_toggle_2 : decode cX1_toggle 2 = .ok (.invokevirtual 105, 3) := by decide +kernel
theorem dX1_toggle_5 : decode cX1_toggle 5 = .ok (.ifCond .ne 5, 3) := by decide +kernel
theorem dX1_toggle_8 : decode cX1_toggle 8 = .ok (.iconst 0, 1) := by decide +kernel
theorem dX1_toggle_9 : decode cX1_toggle 9 = .ok (.ireturn, 1) := by decide +kernel
theorem dX1_toggle_10 : decode cX1_toggle 10 = .ok (.aload_n 0, 1) := by decide +kernel
theorem dX1_toggle_11 : decode cX1_toggle 11 = .ok (.aload_n 0, 1) := by decide +kernel
theorem dX1_toggle_12 : decode cX1_toggle 12 = .ok (.getfield 22, 3) := by decide +kernel
theorem dX1_toggle_15 : decode cX1_toggle 15 = .ok (.iconst 1, 1) := by decide +kernel
theorem dX1_toggle_16 : decode cX1_toggle 16 = .ok (.iload_n 1, 1) := by decide +kernel
theorem dX1_toggle_17 : decode cX1_toggle 17 = .ok (.ishl, 1) := by decide +kernel
theorem dX1_toggle_18 : decode cX1_toggle 18 = .ok (.ixor, 1) := by decide +kernel
theorem dX1_toggle_19 : decode cX1_toggle 19 = .ok (.invokevirtual 108, 3) := by decide +kernel
theorem dX1_toggle_22 : decode cX1_toggle 22 = .ok (.iconst 1, 1) := by decide +kernel
theorem dX1_toggle_23 : decode cX1_toggle 23 = .ok (.ireturn, 1) := by decide +kernel
theorem dX1_acquaint_0 : decode cX1_acquaint 0 = .ok (.aload_n 0, 1) := by decide +kernel
theorem dX1_acquaint_1 : decode cX1_acquaint 1 = .ok (.iload_n 1, 1) := by decide +kernel
theorem dX1_acquaint_2 : decode cX1_acquaint 2 = .ok (.invokevirtual 62, 3) := by decide +kernel
theorem dX1_acquaint_5 : decode cX1_acquaint 5 = .ok (.ifCond .eq 16, 3) := by decide +kernel
theorem dX1_acquaint_8 : decode cX1_acquaint 8 = .ok (.aload_n 0, 1) := by decide +kernel
theorem dX1_acquaint_9 : decode cX1_acquaint 9 = .ok (.iload_n 2, 1) := by decide +kernel
theorem dX1_acquaint_10 : decode cX1_acquaint 10 = .ok (.invokevirtual 62, 3) := by decide +kernel
theorem dX1_acquaint_13 : decode cX1_acquaint 13 = .ok (.ifCond .eq 8, 3) := by decide +kernel
theorem dX1_acquaint_16 : decode cX1_acquaint 16 = .ok (.iload_n 1, 1) := by decide +kernel
theorem dX1_acquaint_17 : decode cX1_acquaint 17 = .ok (.iload_n 2, 1) := by decide +kernel
theorem dX1_acquaint_18 : decode cX1_acquaint 18 = .ok (.if_icmp .ne 5, 3) := by decide +kernel
theorem dX1_acquaint_21 : decode cX1_acquaint 21 = .ok (.iconst 0, 1) := by decide +kernel
theorem dX1_acquaint_22 : decode cX1_acquaint 22 = .ok (.ireturn, 1) := by decide +kernel
theorem dX1_acquaint_23 : decode cX1_acquaint 23 = .ok (.aload_n 0, 1) := by decide +kernel
theorem dX1_acquaint_24 : decode cX1_acquaint 24 = .ok (.iload_n 1, 1) := by decide +kernel
theorem dX1_acquaint_25 : decode cX1_acquaint 25 = .ok (.iload_n 2, 1) := by decide +kernel
theorem dX1_acquaint_26 : decode cX1_acquaint 26 = .ok (.invokevirtual 112, 3) := by decide +kernel
theorem dX1_acquaint_29 : decode cX1_acquaint 29 = .ok (.pop, 1) := by decide +kernel
theorem dX1_acquaint_30 : decode cX1_acquaint 30 = .ok (.iconst 1, 1) := by decide +kernel
theorem dX1_acquaint_31 : decode cX1_acquaint 31 = .ok (.ireturn, 1) := by decide +kernel
theorem dX1_bring_0 : decode cX1_bring 0 = .ok (.aload_n 0, 1) := by decide +kernel
theorem dX1_bring_1 : decode cX1_bring 1 = .ok (.iload_n 1, 1) := by decide +kernel
theorem dX1_bring_2 : decode cX1_bring 2 = .ok (.invokevirtual 62, 3) := by decide +kernel
theorem dX1_bring_5 : decode cX1_bring 5 = .ok (.ifCond .eq 10, 3) := by decide +kernel
theorem dX1_bring_8 : decode cX1_bring 8 = .ok (.iload_n 2, 1) := by decide +kernel
theorem dX1_bring_9 : decode cX1_bring 9 = .ok (.invokestatic 66, 3) := by decide +kernel
theorem dX1_bring_12 : decode cX1_bring 12 = .ok (.ifCond .ne 5, 3) := by decide +kernel
theorem dX1_bring_15 : decode cX1_bring 15 = .ok (.iconst 0, 1) := by decide +kernel
theorem dX1_bring_16 : decode cX1_bring 16 = .ok (.ireturn, 1) := by decide +kernel
theorem dX1_bring_17 : decode cX1_bring 17 = .ok (.aload_n 0, 1) := by decide +kernel
theorem dX1_bring_18 : decode cX1_bring 18 = .ok (.getfield 37, 3) := by decide +kernel
theorem dX1_bring_21 : decode cX1_bring 21 = .ok (.iload_n 1, 1) := by decide +kernel
theorem dX1_bring_22 : decode cX1_bring 22 = .ok (.iload_n 2, 1) := by decide +kernel
theorem dX1_bring_23 : decode cX1_bring 23 = .ok (.iastore, 1) := by decide +kernel
theorem dX1_bring_24 : decode cX1_bring 24 = .ok (.iconst 1, 1) := by decide +kernel
theorem dX1_bring_25 : decode cX1_bring 25 = .ok (.ireturn, 1) := by decide +kernel
theorem dX1_strike_0 : decode cX1_strike 0 = .ok (.iload_n 1, 1) := by decide +kernel
theorem dX1_strike_1 : decode cX1_strike 1 = .ok (.ifCond .lt 9, 3) := by decide +kernel
theorem dX1_strike_4 : decode cX1_strike 4 = .ok (.iload_n 1, 1) := by decide +kernel
theorem dX1_strike_5 : decode cX1_strike 5 = .ok (.bipush 8, 2) := by decide +kernel
theorem dX1_strike_7 : decode cX1_strike 7 = .ok (.if_icmp .lt 5, 3) := by decide +kernel
theorem dX1_strike_10 : decode cX1_strike 10 = .ok (.iconst 0, 1) := by decide +kernel
theorem dX1_strike_11 : decode cX1_strike 11 = .ok (.ireturn, 1) := by decide +kernel
theorem dX1_strike_12 : decode cX1_strike 12 = .ok (.aload_n 0, 1) := by decide +kernel
theorem dX1_strike_13 : decode cX1_strike 13 = .ok (.iload_n 1, 1) := by decide +kernel
theorem dX1_strike_14 : decode cX1_strike 14 = .ok (.putfield 43, 3) := by decide +kernel
theorem dX1_strike_17 : decode cX1_strike 17 = .ok (.iconst 1, 1) := by decide +kernel
theorem dX1_strike_18 : decode cX1_strike 18 = .ok (.ireturn, 1) := by decide +kernel
theorem dX1_seenFrom_0 : decode cX1_seenFrom 0 = .ok (.aload_n 0, 1) := by decide +kernel
theorem dX1_seenFrom_1 : decode cX1_seenFrom 1 = .ok (.getfield 37, 3) := by decide +kernel
theorem dX1_seenFrom_4 : decode cX1_seenFrom 4 = .ok (.iload_n 1, 1) := by decide +kernel
theorem dX1_seenFrom_5 : decode cX1_seenFrom 5 = .ok (.iaload, 1) := by decide +kernel
theorem dX1_seenFrom_6 : decode cX1_seenFrom 6 = .ok (.istore_n 3, 1) := by decide +kernel
theorem dX1_seenFrom_7 : decode cX1_seenFrom 7 = .ok (.iconst 1, 1) := by decide +kernel
theorem dX1_seenFrom_8 : decode cX1_seenFrom 8 = .ok (.iload_n 3, 1) := by decide +kernel
theorem dX1_seenFrom_9 : decode cX1_seenFrom 9 = .ok (.ishl, 1) := by decide +kernel
theorem dX1_seenFrom_10 : decode cX1_seenFrom 10 = .ok (.istore 4, 2) := by decide +kernel
theorem dX1_seenFrom_12 : decode cX1_seenFrom 12 = .ok (.aload_n 0, 1) := by decide +kernel
theorem dX1_seenFrom_13 : decode cX1_seenFrom 13 = .ok (.getfield 34, 3) := by decide +kernel
theorem dX1_seenFrom_16 : decode cX1_seenFrom 16 = .ok (.iload_n 1, 1) := by decide +kernel
theorem dX1_seenFrom_17 : decode cX1_seenFrom 17 = .ok (.iaload, 1) := by decide +kernel
theorem dX1_seenFrom_18 : decode cX1_seenFrom 18 = .ok (.tableswitch 95 1 5 #[34, 41, 85, 65, 85], 34) := by decide +kernel
theorem dX1_seenFrom_52 : decode cX1_seenFrom 52 = .ok (.aload_n 0, 1) := by decide +kernel
theorem dX1_seenFrom_53 : decode cX1_seenFrom 53 = .ok (.getfield 28, 3) := by decide +kernel
theorem dX1_seenFrom_56 : decode cX1_seenFrom 56 = .ok (.iload_n 3, 1) := by decide +kernel
theorem dX1_seenFrom_57 : decode cX1_seenFrom 57 = .ok (.iaload, 1) := by decide +kernel
theorem dX1_seenFrom_58 : decode cX1_seenFrom 58 = .ok (.ireturn, 1) := by decide +kernel
theorem dX1_seenFrom_59 : decode cX1_seenFrom 59 = .ok (.iload_n 2, 1) := by decide +kernel
theorem dX1_seenFrom_60 : decode cX1_seenFrom 60 = .ok (.iconst 4, 1) := by decide +kernel
theorem dX1_seenFrom_61 : decode cX1_seenFrom 61 = .ok (.if_icmp .ne 15, 3) := by decide +kernel
theorem dX1_seenFrom_64 : decode cX1_seenFrom 64 = .ok (.iload 4, 2) := by decide +kernel
theorem dX1_seenFrom_66 : decode cX1_seenFrom 66 = .ok (.aload_n 0, 1) := by decide +kernel
theorem dX1_seenFrom_67 : decode cX1_seenFrom 67 = .ok (.getfield 28, 3) := by decide +kernel
theorem dX1_seenFrom_70 : decode cX1_seenFrom 70 = .ok (.iload_n 3, 1) := by decide +kernel
theorem dX1_seenFrom_71 : decode cX1_seenFrom 71 = .ok (.iaload, 1) := by decide +kernel
theorem dX1_seenFrom_72 : decode cX1_seenFrom 72 = .ok (.ior, 1) := by decide +kernel
theorem dX1_seenFrom_73 : decode cX1_seenFrom 73 = .ok (.goto 9, 3) := by decide +kernel
theorem dX1_seenFrom_76 : decode cX1_seenFrom 76 = .ok (.aload_n 0, 1) := by decide +kernel
theorem dX1_seenFrom_77 : decode cX1_seenFrom 77 = .ok (.getfield 28, 3) := by decide +kernel
theorem dX1_seenFrom_80 : decode cX1_seenFrom 80 = .ok (.iload_n 3, 1) := by decide +kernel
theorem dX1_seenFrom_81 : decode cX1_seenFrom 81 = .ok (.iaload, 1) := by decide +kernel
theorem dX1_seenFrom_82 : decode cX1_seenFrom 82 = .ok (.ireturn, 1) := by decide +kernel
theorem dX1_seenFrom_83 : decode cX1_seenFrom 83 = .ok (.iload_n 2, 1) := by decide +kernel
theorem dX1_seenFrom_84 : decode cX1_seenFrom 84 = .ok (.bipush 6, 2) := by decide +kernel
theorem dX1_seenFrom_86 : decode cX1_seenFrom 86 = .ok (.if_icmp .lt 15, 3) := by decide +kernel
theorem dX1_seenFrom_89 : decode cX1_seenFrom 89 = .ok (.iload 4, 2) := by decide +kernel
theorem dX1_seenFrom_91 : decode cX1_seenFrom 91 = .ok (.aload_n 0, 1) := by decide +kernel
theorem dX1_seenFrom_92 : decode cX1_seenFrom 92 = .ok (.getfield 28, 3) := by decide +kernel
theorem dX1_seenFrom_95 : decode cX1_seenFrom 95 = .ok (.iload_n 3, 1) := by decide +kernel
theorem dX1_seenFrom_96 : decode cX1_seenFrom 96 = .ok (.iaload, 1) := by decide +kernel
theorem dX1_seenFrom_97 : decode cX1_seenFrom 97 = .ok (.ior, 1) := by decide +kernel
theorem dX1_seenFrom_98 : decode cX1_seenFrom 98 = .ok (.goto 4, 3) := by decide +kernel
theorem dX1_seenFrom_101 : decode cX1_seenFrom 101 = .ok (.iconst 0, 1) := by decide +kernel
theorem dX1_seenFrom_102 : decode cX1_seenFrom 102 = .ok (.ireturn, 1) := by decide +kernel
theorem dX1_seenFrom_103 : decode cX1_seenFrom 103 = .ok (.iload 4, 2) := by decide +kernel
theorem dX1_seenFrom_105 : decode cX1_seenFrom 105 = .ok (.aload_n 0, 1) := by decide +kernel
theorem dX1_seenFrom_106 : decode cX1_seenFrom 106 = .ok (.getfield 25, 3) := by decide +kernel
theorem dX1_seenFrom_109 : decode cX1_seenFrom 109 = .ok (.iload_n 3, 1) := by decide +kernel
theorem dX1_seenFrom_110 : decode cX1_seenFrom 110 = .ok (.iaload, 1) := by decide +kernel
theorem dX1_seenFrom_111 : decode cX1_seenFrom 111 = .ok (.ior, 1) := by decide +kernel
theorem dX1_seenFrom_112 : decode cX1_seenFrom 112 = .ok (.ireturn, 1) := by decide +kernel
theorem dX1_seenFrom_113 : decode cX1_seenFrom 113 = .ok (.iload 4, 2) := by decide +kernel
theorem dX1_seenFrom_115 : decode cX1_seenFrom 115 = .ok (.aload_n 0, 1) := by decide +kernel
theorem dX1_seenFrom_116 : decode cX1_seenFrom 116 = .ok (.getfield 28, 3) := by decide +kernel
theorem dX1_seenFrom_119 : decode cX1_seenFrom 119 = .ok (.iload_n 3, 1) := by decide +kernel
theorem dX1_seenFrom_120 : decode cX1_seenFrom 120 = .ok (.iaload, 1) := by decide +kernel
theorem dX1_seenFrom_121 : decode cX1_seenFrom 121 = .ok (.ior, 1) := by decide +kernel
theorem dX1_seenFrom_122 : decode cX1_seenFrom 122 = .ok (.ireturn, 1) := by decide +kernel
theorem dX1_meet_0 : decode cX1_meet 0 = .ok (.aload_n 0, 1) := by decide +kernel
theorem dX1_meet_1 : decode cX1_meet 1 = .ok (.iload_n 1, 1) := by decide +kernel
theorem dX1_meet_2 : decode cX1_meet 2 = .ok (.iload_n 3, 1) := by decide +kernel
theorem dX1_meet_3 : decode cX1_meet 3 = .ok (.invokevirtual 115, 3) := by decide +kernel
theorem dX1_meet_6 : decode cX1_meet 6 = .ok (.aload_n 0, 1) := by decide +kernel
theorem dX1_meet_7 : decode cX1_meet 7 = .ok (.iload_n 2, 1) := by decide +kernel
theorem dX1_meet_8 : decode cX1_meet 8 = .ok (.iload_n 3, 1) := by decide +kernel
theorem dX1_meet_9 : decode cX1_meet 9 = .ok (.invokevirtual 115, 3) := by decide +kernel
theorem dX1_meet_12 : decode cX1_meet 12 = .ok (.iand, 1) := by decide +kernel
theorem dX1_meet_13 : decode cX1_meet 13 = .ok (.ifCond .eq 7, 3) := by decide +kernel
theorem dX1_meet_16 : decode cX1_meet 16 = .ok (.iconst 1, 1) := by decide +kernel
theorem dX1_meet_17 : decode cX1_meet 17 = .ok (.goto 4, 3) := by decide +kernel
theorem dX1_meet_20 : decode cX1_meet 20 = .ok (.iconst 0, 1) := by decide +kernel
theorem dX1_meet_21 : decode cX1_meet 21 = .ok (.ireturn, 1) := by decide +kernel
theorem dX1_everMeet_0 : decode cX1_everMeet 0 = .ok (.iconst 0, 1) := by decide +kernel
theorem dX1_everMeet_1 : decode cX1_everMeet 1 = .ok (.istore_n 3, 1) := by decide +kernel
theorem dX1_everMeet_2 : decode cX1_everMeet 2 = .ok (.iload_n 3, 1) := by decide +kernel
theorem dX1_everMeet_3 : decode cX1_everMeet 3 = .ok (.bipush 8, 2) := by decide +kernel
theorem dX1_everMeet_5 : decode cX1_everMeet 5 = .ok (.if_icmp .ge 21, 3) := by decide +kernel
theorem dX1_everMeet_8 : decode cX1_everMeet 8 = .ok (.aload_n 0, 1) := by decide +kernel
theorem dX1_everMeet_9 : decode cX1_everMeet 9 = .ok (.iload_n 1, 1) := by decide +kernel
theorem dX1_everMeet_10 : decode cX1_everMeet 10 = .ok (.iload_n 2, 1) := by decide +kernel
theorem dX1_everMeet_11 : decode cX1_everMeet 11 = .ok (.iload_n 3, 1) := by decide +kernel
theorem dX1_everMeet_12 : decode cX1_everMeet 12 = .ok (.invokevirtual 118, 3) := by decide +kernel
theorem dX1_everMeet_15 : decode cX1_everMeet 15 = .ok (.ifCond .eq 5, 3) := by decide +kernel
theorem dX1_everMeet_18 : decode cX1_everMeet 18 = .ok (.iconst 1, 1) := by decide +kernel
theorem dX1_everMeet_19 : decode cX1_everMeet 19 = .ok (.ireturn, 1) := by decide +kernel
theorem dX1_everMeet_20 : decode cX1_everMeet 20 = .ok (.iinc 3 1, 3) := by decide +kernel
theorem dX1_everMeet_23 : decode cX1_everMeet 23 = .ok (.goto (-21), 3) := by decide +kernel
theorem dX1_everMeet_26 : decode cX1_everMeet 26 = .ok (.iconst 0, 1) := by decide +kernel
theorem dX1_everMeet_27 : decode cX1_everMeet 27 = .ok (.ireturn, 1) := by decide +kernel
theorem dX1_sinsAsLesser_0 : decode cX1_sinsAsLesser 0 = .ok (.aload_n 0, 1) := by decide +kernel
theorem dX1_sinsAsLesser_1 : decode cX1_sinsAsLesser 1 = .ok (.getfield 40, 3) := by decide +kernel
theorem dX1_sinsAsLesser_4 : decode cX1_sinsAsLesser 4 = .ok (.iload_n 1, 1) := by decide +kernel
theorem dX1_sinsAsLesser_5 : decode cX1_sinsAsLesser 5 = .ok (.iaload, 1) := by decide +kernel
theorem dX1_sinsAsLesser_6 : decode cX1_sinsAsLesser 6 = .ok (.istore_n 3, 1) := by decide +kernel
theorem dX1_sinsAsLesser_7 : decode cX1_sinsAsLesser 7 = .ok (.iload_n 3, 1) := by decide +kernel
theorem dX1_sinsAsLesser_8 : decode cX1_sinsAsLesser 8 = .ok (.iload_n 1, 1) := by decide +kernel
theorem dX1_sinsAsLesser_9 : decode cX1_sinsAsLesser 9 = .ok (.if_icmp .le 25, 3) := by decide +kernel
theorem dX1_sinsAsLesser_12 : decode cX1_sinsAsLesser 12 = .ok (.aload_n 0, 1) := by decide +kernel
theorem dX1_sinsAsLesser_13 : decode cX1_sinsAsLesser 13 = .ok (.iload_n 3, 1) := by decide +kernel
theorem dX1_sinsAsLesser_14 : decode cX1_sinsAsLesser 14 = .ok (.invokevirtual 62, 3) := by decide +kernel
theorem dX1_sinsAsLesser_17 : decode cX1_sinsAsLesser 17 = .ok (.ifCond .eq 17, 3) := by decide +kernel
theorem dX1_sinsAsLesser_20 : decode cX1_sinsAsLesser 20 = .ok (.aload_n 0, 1) := by decide +kernel
theorem dX1_sinsAsLesser_21 : decode cX1_sinsAsLesser 21 = .ok (.iload_n 1, 1) := by decide +kernel
theorem dX1_sinsAsLesser_22 : decode cX1_sinsAsLesser 22 = .ok (.iload_n 3, 1) := by decide +kernel
theorem dX1_sinsAsLesser_23 : decode cX1_sinsAsLesser 23 = .ok (.iload_n 2, 1) := by decide +kernel
theorem dX1_sinsAsLesser_24 : decode cX1_sinsAsLesser 24 = .ok (.invokevirtual 118, 3) := by decide +kernel
theorem dX1_sinsAsLesser_27 : decode cX1_sinsAsLesser 27 = .ok (.ifCond .eq 7, 3) := by decide +kernel
theorem dX1_sinsAsLesser_30 : decode cX1_sinsAsLesser 30 = .ok (.iconst 1, 1) := by decide +kernel
theorem dX1_sinsAsLesser_31 : decode cX1_sinsAsLesser 31 = .ok (.goto 4, 3) := by decide +kernel
theorem dX1_sinsAsLesser_34 : decode cX1_sinsAsLesser 34 = .ok (.iconst 0, 1) := by decide +kernel
theorem dX1_sinsAsLesser_35 : decode cX1_sinsAsLesser 35 = .ok (.ireturn, 1) := by decide +kernel
theorem dX1_firstSin_0 : decode cX1_firstSin 0 = .ok (.iconst 0, 1) := by decide +kernel
theorem dX1_firstSin_1 : decode cX1_firstSin 1 = .ok (.istore_n 2, 1) := by decide +kernel
theorem dX1_firstSin_2 : decode cX1_firstSin 2 = .ok (.iload_n 2, 1) := by decide +kernel
theorem dX1_firstSin_3 : decode cX1_firstSin 3 = .ok (.aload_n 0, 1) := by decide +kernel
theorem dX1_firstSin_4 : decode cX1_firstSin 4 = .ok (.getfield 31, 3) := by decide +kernel
theorem dX1_firstSin_7 : decode cX1_firstSin 7 = .ok (.if_icmp .ge 30, 3) := by decide +kernel
theorem dX1_firstSin_10 : decode cX1_firstSin 10 = .ok (.aload_n 0, 1) := by decide +kernel
theorem dX1_firstSin_11 : decode cX1_firstSin 11 = .ok (.iload_n 2, 1) := by decide +kernel
theorem dX1_firstSin_12 : decode cX1_firstSin 12 = .ok (.iload_n 1, 1) := by decide +kernel
theorem dX1_firstSin_13 : decode cX1_firstSin 13 = .ok (.invokevirtual 122, 3) := by decide +kernel
theorem dX1_firstSin_16 : decode cX1_firstSin 16 = .ok (.ifCond .eq 15, 3) := by decide +kernel
theorem dX1_firstSin_19 : decode cX1_firstSin 19 = .ok (.bipush 10, 2) := by decide +kernel
theorem dX1_firstSin_21 : decode cX1_firstSin 21 = .ok (.iload_n 2, 1) := by decide +kernel
theorem dX1_firstSin_22 : decode cX1_firstSin 22 = .ok (.imul, 1) := by decide +kernel
theorem dX1_firstSin_23 : decode cX1_firstSin 23 = .ok (.aload_n 0, 1) := by decide +kernel
theorem dX1_firstSin_24 : decode cX1_firstSin 24 = .ok (.getfield 40, 3) := by decide +kernel
theorem dX1_firstSin_27 : decode cX1_firstSin 27 = .ok (.iload_n 2, 1) := by decide +kernel
theorem dX1_firstSin_28 : decode cX1_firstSin 28 = .ok (.iaload, 1) := by decide +kernel
theorem dX1_firstSin_29 : decode cX1_firstSin 29 = .ok (.iadd, 1) := by decide +kernel
theorem dX1_firstSin_30 : decode cX1_firstSin 30 = .ok (.ireturn, 1) := by decide +kernel
theorem dX1_firstSin_31 : decode cX1_firstSin 31 = .ok (.iinc 2 1, 3) := by decide +kernel
theorem dX1_firstSin_34 : decode cX1_firstSin 34 = .ok (.goto (-32), 3) := by decide +kernel
theorem dX1_firstSin_37 : decode cX1_firstSin 37 = .ok (.bipush (-9), 2) := by decide +kernel
theorem dX1_firstSin_39 : decode cX1_firstSin 39 = .ok (.ireturn, 1) := by decide +kernel
theorem dX1_sinCount_0 : decode cX1_sinCount 0 = .ok (.iconst 0, 1) := by decide +kernel
theorem dX1_sinCount_1 : decode cX1_sinCount 1 = .ok (.istore_n 2, 1) := by decide +kernel
theorem dX1_sinCount_2 : decode cX1_sinCount 2 = .ok (.iconst 0, 1) := by decide +kernel
theorem dX1_sinCount_3 : decode cX1_sinCount 3 = .ok (.istore_n 3, 1) := by decide +kernel
theorem dX1_sinCount_4 : decode cX1_sinCount 4 = .ok (.iload_n 3, 1) := by decide +kernel
theorem dX1_sinCount_5 : decode cX1_sinCount 5 = .ok (.aload_n 0, 1) := by decide +kernel
theorem dX1_sinCount_6 : decode cX1_sinCount 6 = .ok (.getfield 31, 3) := by decide +kernel
theorem dX1_sinCount_9 : decode cX1_sinCount 9 = .ok (.if_icmp .ge 21, 3) := by decide +kernel
theorem dX1_sinCount_12 : decode cX1_sinCount 12 = .ok (.aload_n 0, 1) := by decide +kernel
theorem dX1_sinCount_13 : decode cX1_sinCount 13 = .ok (.iload_n 3, 1) := by decide +kernel
theorem dX1_sinCount_14 : decode cX1_sinCount 14 = .ok (.iload_n 1, 1) := by decide +kernel
theorem dX1_sinCount_15 : decode cX1_sinCount 15 = .ok (.invokevirtual 122, 3) := by decide +kernel
theorem dX1_sinCount_18 : decode cX1_sinCount 18 = .ok (.ifCond .eq 6, 3) := by decide +kernel
theorem dX1_sinCount_21 : decode cX1_sinCount 21 = .ok (.iinc 2 1, 3) := by decide +kernel
theorem dX1_sinCount_24 : decode cX1_sinCount 24 = .ok (.iinc 3 1, 3) := by decide +kernel
theorem dX1_sinCount_27 : decode cX1_sinCount 27 = .ok (.goto (-23), 3) := by decide +kernel
theorem dX1_sinCount_30 : decode cX1_sinCount 30 = .ok (.iload_n 2, 1) := by decide +kernel
theorem dX1_sinCount_31 : decode cX1_sinCount 31 = .ok (.ireturn, 1) := by decide +kernel
theorem dX1_firstSinfulHour_0 : decode cX1_firstSinfulHour 0 = .ok (.iconst 0, 1) := by decide +kernel
theorem dX1_firstSinfulHour_1 : decode cX1_firstSinfulHour 1 = .ok (.istore_n 1, 1) := by decide +kernel
theorem dX1_firstSinfulHour_2 : decode cX1_firstSinfulHour 2 = .ok (.iload_n 1, 1) := by decide +kernel
theorem dX1_firstSinfulHour_3 : decode cX1_firstSinfulHour 3 = .ok (.bipush 8, 2) := by decide +kernel
theorem dX1_firstSinfulHour_5 : decode cX1_firstSinfulHour 5 = .ok (.if_icmp .ge 21, 3) := by decide +kernel
theorem dX1_firstSinfulHour_8 : decode cX1_firstSinfulHour 8 = .ok (.aload_n 0, 1) := by decide +kernel
theorem dX1_firstSinfulHour_9 : decode cX1_firstSinfulHour 9 = .ok (.iload_n 1, 1) := by decide +kernel
theorem dX1_firstSinfulHour_10 : decode cX1_firstSinfulHour 10 = .ok (.invokevirtual 125, 3) := by decide +kernel
theorem dX1_firstSinfulHour_13 : decode cX1_firstSinfulHour 13 = .ok (.bipush (-9), 2) := by decide +kernel
theorem dX1_firstSinfulHour_15 : decode cX1_firstSinfulHour 15 = .ok (.if_icmp .eq 5, 3) := by decide +kernel
theorem dX1_firstSinfulHour_18 : decode cX1_firstSinfulHour 18 = .ok (.iload_n 1, 1) := by decide +kernel
theorem dX1_firstSinfulHour_19 : decode cX1_firstSinfulHour 19 = .ok (.ireturn, 1) := by decide +kernel
theorem dX1_firstSinfulHour_20 : decode cX1_firstSinfulHour 20 = .ok (.iinc 1 1, 3) := by decide +kernel
theorem dX1_firstSinfulHour_23 : decode cX1_firstSinfulHour 23 = .ok (.goto (-21), 3) := by decide +kernel
theorem dX1_firstSinfulHour_26 : decode cX1_firstSinfulHour 26 = .ok (.bipush (-9), 2) := by decide +kernel
theorem dX1_firstSinfulHour_28 : decode cX1_firstSinfulHour 28 = .ok (.ireturn, 1) := by decide +kernel
theorem dX2_init_0 : decode cX2_init 0 = .ok (.aload_n 0, 1) := by decide +kernel
theorem dX2_init_1 : decode cX2_init 1 = .ok (.invokespecial 3, 3) := by decide +kernel
theorem dX2_init_4 : decode cX2_init 4 = .ok (.aload_n 0, 1) := by decide +kernel
theorem dX2_init_5 : decode cX2_init 5 = .ok (.bipush 80, 2) := by decide +kernel
theorem dX2_init_7 : decode cX2_init 7 = .ok (.newarray .int, 2) := by decide +kernel
theorem dX2_init_9 : decode cX2_init 9 = .ok (.putfield 9, 3) := by decide +kernel
theorem dX2_init_12 : decode cX2_init 12 = .ok (.aload_n 0, 1) := by decide +kernel
theorem dX2_init_13 : decode cX2_init 13 = .ok (.iconst 0, 1) := by decide +kernel
theorem dX2_init_14 : decode cX2_init 14 = .ok (.putfield 15, 3) := by decide +kernel
theorem dX2_init_17 : decode cX2_init 17 = .ok (.return_, 1) := by decide +kernel
theorem dX2_put_0 : decode cX2_put 0 = .ok (.aload_n 0, 1) := by decide +kernel
theorem dX2_put_1 : decode cX2_put 1 = .ok (.getfield 9, 3) := by decide +kernel
theorem dX2_put_4 : decode cX2_put 4 = .ok (.aload_n 0, 1) := by decide +kernel
theorem dX2_put_5 : decode cX2_put 5 = .ok (.getfield 15, 3) := by decide +kernel
theorem dX2_put_8 : decode cX2_put 8 = .ok (.iload_n 1, 1) := by decide +kernel
theorem dX2_put_9 : decode cX2_put 9 = .ok (.iastore, 1) := by decide +kernel
theorem dX2_put_10 : decode cX2_put 10 = .ok (.aload_n 0, 1) := by decide +kernel
theorem dX2_put_11 : decode cX2_put 11 = .ok (.dup, 1) := by decide +kernel
theorem dX2_put_12 : decode cX2_put 12 = .ok (.getfield 15, 3) := by decide +kernel
theorem dX2_put_15 : decode cX2_put 15 = .ok (.iconst 1, 1) := by decide +kernel
theorem dX2_put_16 : decode cX2_put 16 = .ok (.iadd, 1) := by decide +kernel
theorem dX2_put_17 : decode cX2_put 17 = .ok (.putfield 15, 3) := by decide +kernel
theorem dX2_put_20 : decode cX2_put 20 = .ok (.aload_n 0, 1) := by decide +kernel
theorem dX2_put_21 : decode cX2_put 21 = .ok (.getfield 15, 3) := by decide +kernel
theorem dX2_put_24 : decode cX2_put 24 = .ok (.ireturn, 1) := by decide +kernel
theorem dX2_readInto_0 : decode cX2_readInto 0 = .ok (.aload_n 0, 1) := by decide +kernel
theorem dX2_readInto_1 : decode cX2_readInto 1 = .ok (.invokevirtual 19, 3) := by decide +kernel
theorem dX2_readInto_4 : decode cX2_readInto 4 = .ok (.istore_n 2, 1) := by decide +kernel
theorem dX2_readInto_5 : decode cX2_readInto 5 = .ok (.iload_n 2, 1) := by decide +kernel
theorem dX2_readInto_6 : decode cX2_readInto 6 = .ok (.bipush (-9), 2) := by decide +kernel
theorem dX2_readInto_8 : decode cX2_readInto 8 = .ok (.if_icmp .eq 9, 3) := by decide +kernel
theorem dX2_readInto_11 : decode cX2_readInto 11 = .ok (.sipush (-1000), 3) := by decide +kernel
theorem dX2_readInto_14 : decode cX2_readInto 14 = .ok (.iload_n 2, 1) := by decide +kernel
theorem dX2_readInto_15 : decode cX2_readInto 15 = .ok (.isub, 1) := by decide +kernel
theorem dX2_readInto_16 : decode cX2_readInto 16 = .ok (.ireturn, 1) := by decide +kernel
theorem dX2_readInto_17 : decode cX2_readInto 17 = .ok (.iconst 0, 1) := by decide +kernel
theorem dX2_readInto_18 : decode cX2_readInto 18 = .ok (.istore_n 3, 1) := by decide +kernel
theorem dX2_readInto_19 : decode cX2_readInto 19 = .ok (.iconst 0, 1) := by decide +kernel
theorem dX2_readInto_20 : decode cX2_readInto 20 = .ok (.istore 4, 2) := by decide +kernel
theorem dX2_readInto_22 : decode cX2_readInto 22 = .ok (.iconst 0, 1) := by decide +kernel
theorem dX2_readInto_23 : decode cX2_readInto 23 = .ok (.istore 5, 2) := by decide +kernel
theorem dX2_readInto_25 : decode cX2_readInto 25 = .ok (.iload 5, 2) := by decide +kernel
theorem dX2_readInto_27 : decode cX2_readInto 27 = .ok (.aload_n 0, 1) := by decide +kernel
theorem dX2_readInto_28 : decode cX2_readInto 28 = .ok (.getfield 15, 3) := by decide +kernel
theorem dX2_readInto_31 : decode cX2_readInto 31 = .ok (.if_icmp .ge 78, 3) := by decide +kernel
theorem dX2_readInto_34 : decode cX2_readInto 34 = .ok (.aload_n 0, 1) := by decide +kernel
theorem dX2_readInto_35 : decode cX2_readInto 35 = .ok (.getfield 9, 3) := by decide +kernel
theorem dX2_readInto_38 : decode cX2_readInto 38 = .ok (.iload 5, 2) := by decide +kernel
theorem dX2_readInto_40 : decode cX2_readInto 40 = .ok (.iaload, 1) := by decide +kernel
theorem dX2_readInto_41 : decode cX2_readInto 41 = .ok (.bipush 59, 2) := by decide +kernel
theorem dX2_readInto_43 : decode cX2_readInto 43 = .ok (.if_icmp .ne 60, 3) := by decide +kernel
theorem dX2_readInto_46 : decode cX2_readInto 46 = .ok (.iload 5, 2) := by decide +kernel
theorem dX2_readInto_48 : decode cX2_readInto 48 = .ok (.iload 4, 2) := by decide +kernel
theorem dX2_readInto_50 : decode cX2_readInto 50 = .ok (.iconst 2, 1) := by decide +kernel
theorem dX2_readInto_51 : decode cX2_readInto 51 = .ok (.iadd, 1) := by decide +kernel
theorem dX2_readInto_52 : decode cX2_readInto 52 = .ok (.if_icmp .lt 51, 3) := by decide +kernel
theorem dX2_readInto_55 : decode cX2_readInto 55 = .ok (.aload_n 1, 1) := by decide +kernel
theorem dX2_readInto_56 : decode cX2_readInto 56 = .ok (.aload_n 0, 1) := by decide +kernel
theorem dX2_readInto_57 : decode cX2_readInto 57 = .ok (.getfield 9, 3) := by decide +kernel
theorem dX2_readInto_60 : decode cX2_readInto 60 = .ok (.iload 4, 2) := by decide +kernel
theorem dX2_readInto_62 : decode cX2_readInto 62 = .ok (.iaload, 1) := by decide +kernel
theorem dX2_readInto_63 : decode cX2_readInto 63 = .ok (.aload_n 0, 1) := by decide +kernel
theorem dX2_readInto_64 : decode cX2_readInto 64 = .ok (.getfield 9, 3) := by decide +kernel
theorem dX2_readInto_67 : decode cX2_readInto 67 = .ok (.iload 4, 2) := by decide +kernel
theorem dX2_readInto_69 : decode cX2_readInto 69 = .ok (.iconst 1, 1) := by decide +kernel
theorem dX2_readInto_70 : decode cX2_readInto 70 = .ok (.iadd, 1) := by decide +kernel
theorem dX2_readInto_71 : decode cX2_readInto 71 = .ok (.iaload, 1) := by decide +kernel
theorem dX2_readInto_72 : decode cX2_readInto 72 = .ok (.aload_n 0, 1) := by decide +kernel
theorem dX2_readInto_73 : decode cX2_readInto 73 = .ok (.getfield 9, 3) := by decide +kernel
theorem dX2_readInto_76 : decode cX2_readInto 76 = .ok (.iload 4, 2) := by decide +kernel
theorem dX2_readInto_78 : decode cX2_readInto 78 = .ok (.iconst 2, 1) := by decide +kernel
theorem dX2_readInto_79 : decode cX2_readInto 79 = .ok (.iadd, 1) := by decide +kernel
theorem dX2_readInto_80 : decode cX2_readInto 80 = .ok (.iaload, 1) := by decide +kernel
theorem dX2_readInto_81 : decode cX2_readInto 81 = .ok (.invokevirtual 23, 3) := by decide +kernel
theorem dX2_readInto_84 : decode cX2_readInto 84 = .ok (.ifCond .ne 10, 3) := by decide +kernel
theorem dX2_readInto_87 : decode cX2_readInto 87 = .ok (.sipush (-2000), 3) := by decide +kernel
theorem dX2_readInto_90 : decode cX2_readInto 90 = .ok (.iload 4, 2) := by decide +kernel
theorem dX2_readInto_92 : decode cX2_readInto 92 = .ok (.isub, 1) := by decide +kernel
theorem dX2_readInto_93 : decode cX2_readInto 93 = .ok (.ireturn, 1) := by decide +kernel
theorem dX2_readInto_94 : decode cX2_readInto 94 = .ok (.iinc 3 1, 3) := by decide +kernel
theorem dX2_readInto_97 : decode cX2_readInto 97 = .ok (.iload 5, 2) := by decide +kernel
theorem dX2_readInto_99 : decode cX2_readInto 99 = .ok (.iconst 1, 1) := by decide +kernel
theorem dX2_readInto_100 : decode cX2_readInto 100 = .ok (.iadd, 1) := by decide +kernel
theorem dX2_readInto_101 : decode cX2_readInto 101 = .ok (.istore 4, 2) := by decide +kernel
theorem dX2_readInto_103 : decode cX2_readInto 103 = .ok (.iinc 5 1, 3) := by decide +kernel
theorem dX2_readInto_106 : decode cX2_readInto 106 = .ok (.goto (-81), 3) := by decide +kernel
theorem dX2_readInto_109 : decode cX2_readInto 109 = .ok (.iload_n 3, 1) := by decide +kernel
theorem dX2_readInto_110 : decode cX2_readInto 110 = .ok (.ireturn, 1) := by decide +kernel
theorem dX2_firstUnfit_0 : decode cX2_firstUnfit 0 = .ok (.iconst 0, 1) := by decide +kernel
theorem dX2_firstUnfit_1 : decode cX2_firstUnfit 1 = .ok (.istore_n 1, 1) := by decide +kernel
theorem dX2_firstUnfit_2 : decode cX2_firstUnfit 2 = .ok (.iconst 0, 1) := by decide +kernel
theorem dX2_firstUnfit_3 : decode cX2_firstUnfit 3 = .ok (.istore_n 2, 1) := by decide +kernel
theorem dX2_firstUnfit_4 : decode cX2_firstUnfit 4 = .ok (.iload_n 2, 1) := by decide +kernel
theorem dX2_firstUnfit_5 : decode cX2_firstUnfit 5 = .ok (.aload_n 0, 1) := by decide +kernel
theorem dX2_firstUnfit_6 : decode cX2_firstUnfit 6 = .ok (.getfield 15, 3) := by decide +kernel
theorem dX2_firstUnfit_9 : decode cX2_firstUnfit 9 = .ok (.if_icmp .ge 47, 3) := by decide +kernel
theorem dX2_firstUnfit_12 : decode cX2_firstUnfit 12 = .ok (.aload_n 0, 1) := by decide +kernel
theorem dX2_firstUnfit_13 : decode cX2_firstUnfit 13 = .ok (.getfield 9, 3) := by decide +kernel
theorem dX2_firstUnfit_16 : decode cX2_firstUnfit 16 = .ok (.iload_n 1, 1) := by decide +kernel
theorem dX2_firstUnfit_17 : decode cX2_firstUnfit 17 = .ok (.iaload, 1) := by decide +kernel
theorem dX2_firstUnfit_18 : decode cX2_firstUnfit 18 = .ok (.iload_n 2, 1) := by decide +kernel
theorem dX2_firstUnfit_19 : decode cX2_firstUnfit 19 = .ok (.iload_n 1, 1) := by decide +kernel
theorem dX2_firstUnfit_20 : decode cX2_firstUnfit 20 = .ok (.isub, 1) := by decide +kernel
theorem dX2_firstUnfit_21 : decode cX2_firstUnfit 21 = .ok (.aload_n 0, 1) := by decide +kernel
theorem dX2_firstUnfit_22 : decode cX2_firstUnfit 22 = .ok (.getfield 9, 3) := by decide +kernel
theorem dX2_firstUnfit_25 : decode cX2_firstUnfit 25 = .ok (.iload_n 2, 1) := by decide +kernel
theorem dX2_firstUnfit_26 : decode cX2_firstUnfit 26 = .ok (.iaload, 1) := by decide +kernel
theorem dX2_firstUnfit_27 : decode cX2_firstUnfit 27 = .ok (.invokestatic 29, 3) := by decide +kernel
theorem dX2_firstUnfit_30 : decode cX2_firstUnfit 30 = .ok (.ifCond .ne 5, 3) := by decide +kernel
theorem dX2_firstUnfit_33 : decode cX2_firstUnfit 33 = .ok (.iload_n 2, 1) := by decide +kernel
theorem dX2_firstUnfit_34 : decode cX2_firstUnfit 34 = .ok (.ireturn, 1) := by decide +kernel
theorem dX2_firstUnfit_35 : decode cX2_firstUnfit 35 = .ok (.aload_n 0, 1) := by decide +kernel
theorem dX2_firstUnfit_36 : decode cX2_firstUnfit 36 = .ok (.getfield 9, 3) := by decide +kernel
theorem dX2_firstUnfit_39 : decode cX2_firstUnfit 39 = .ok (.iload_n 2, 1) := by decide +kernel
theorem dX2_firstUnfit_40 : decode cX2_firstUnfit 40 = .ok (.iaload, 1) := by decide +kernel
theorem dX2_firstUnfit_41 : decode cX2_firstUnfit 41 = .ok (.bipush 59, 2) := by decide +kernel
theorem dX2_firstUnfit_43 : decode cX2_firstUnfit 43 = .ok (.if_icmp .ne 7, 3) := by decide +kernel
theorem dX2_firstUnfit_46 : decode cX2_firstUnfit 46 = .ok (.iload_n 2, 1) := by decide +kernel
theorem dX2_firstUnfit_47 : decode cX2_firstUnfit 47 = .ok (.iconst 1, 1) := by decide +kernel
theorem dX2_firstUnfit_48 : decode cX2_firstUnfit 48 = .ok (.iadd, 1) := by decide +kernel
theorem dX2_firstUnfit_49 : decode cX2_firstUnfit 49 = .ok (.istore_n 1, 1) := by decide +kernel
theorem dX2_firstUnfit_50 : decode cX2_firstUnfit 50 = .ok (.iinc 2 1, 3) := by decide +kernel
theorem dX2_firstUnfit_53 : decode cX2_firstUnfit 53 = .ok (.goto (-49), 3) := by decide +kernel
theorem dX2_firstUnfit_56 : decode cX2_firstUnfit 56 = .ok (.aload_n 0, 1) := by decide +kernel
theorem dX2_firstUnfit_57 : decode cX2_firstUnfit 57 = .ok (.getfield 15, 3) := by decide +kernel
theorem dX2_firstUnfit_60 : decode cX2_firstUnfit 60 = .ok (.ifCond .le 16, 3) := by decide +kernel
theorem dX2_firstUnfit_63 : decode cX2_firstUnfit 63 = .ok (.iload_n 1, 1) := by decide +kernel
theorem dX2_firstUnfit_64 : decode cX2_firstUnfit 64 = .ok (.aload_n 0, 1) := by decide +kernel
theorem dX2_firstUnfit_65 : decode cX2_firstUnfit 65 = .ok (.getfield 15, 3) := by decide +kernel
theorem dX2_firstUnfit_68 : decode cX2_firstUnfit 68 = .ok (.if_icmp .ne 8, 3) := by decide +kernel
theorem dX2_firstUnfit_71 : decode cX2_firstUnfit 71 = .ok (.bipush (-9), 2) := by decide +kernel
theorem dX2_firstUnfit_73 : decode cX2_firstUnfit 73 = .ok (.goto 7, 3) := by decide +kernel
theorem dX2_firstUnfit_76 : decode cX2_firstUnfit 76 = .ok (.aload_n 0, 1) := by decide +kernel
theorem dX2_firstUnfit_77 : decode cX2_firstUnfit 77 = .ok (.getfield 15, 3) := by decide +kernel
theorem dX2_firstUnfit_80 : decode cX2_firstUnfit 80 = .ok (.ireturn, 1) := by decide +kernel
theorem dX2_fits_0 : decode cX2_fits 0 = .ok (.iload_n 0, 1) := by decide +kernel
theorem dX2_fits_1 : decode cX2_fits 1 = .ok (.invokestatic 32, 3) := by decide +kernel
theorem dX2_fits_4 : decode cX2_fits 4 = .ok (.istore_n 3, 1) := by decide +kernel
theorem dX2_fits_5 : decode cX2_fits 5 = .ok (.iload_n 1, 1) := by decide +kernel
theorem dX2_fits_6 : decode cX2_fits 6 = .ok (.ifCond .ne 13, 3) := by decide +kernel
theorem dX2_fits_9 : decode cX2_fits 9 = .ok (.iload_n 3, 1) := by decide +kernel
theorem dX2_fits_10 : decode cX2_fits 10 = .ok (.ifCond .le 7, 3) := by decide +kernel
theorem dX2_fits_13 : decode cX2_fits 13 = .ok (.iconst 1, 1) := by decide +kernel
theorem dX2_fits_14 : decode cX2_fits 14 = .ok (.goto 4, 3) := by decide +kernel
theorem dX2_fits_17 : decode cX2_fits 17 = .ok (.iconst 0, 1) := by decide +kernel
theorem dX2_fits_18 : decode cX2_fits 18 = .ok (.ireturn, 1) := by decide +kernel
theorem dX2_fits_19 : decode cX2_fits 19 = .ok (.iload_n 1, 1) := by decide +kernel
theorem dX2_fits_20 : decode cX2_fits 20 = .ok (.iload_n 3, 1) := by decide +kernel
theorem dX2_fits_21 : decode cX2_fits 21 = .ok (.iconst 1, 1) := by decide +kernel
theorem dX2_fits_22 : decode cX2_fits 22 = .ok (.isub, 1) := by decide +kernel
theorem dX2_fits_23 : decode cX2_fits 23 = .ok (.if_icmp .ne 15, 3) := by decide +kernel
theorem dX2_fits_26 : decode cX2_fits 26 = .ok (.iload_n 2, 1) := by decide +kernel
theorem dX2_fits_27 : decode cX2_fits 27 = .ok (.bipush 59, 2) := by decide +kernel
theorem dX2_fits_29 : decode cX2_fits 29 = .ok (.if_icmp .ne 7, 3) := by decide +kernel
theorem dX2_fits_32 : decode cX2_fits 32 = .ok (.iconst 1, 1) := by decide +kernel
theorem dX2_fits_33 : decode cX2_fits 33 = .ok (.goto 4, 3) := by decide +kernel
theorem dX2_fits_36 : decode cX2_fits 36 = .ok (.iconst 0, 1) := by decide +kernel
theorem dX2_fits_37 : decode cX2_fits 37 = .ok (.ireturn, 1) := by decide +kernel
theorem dX2_fits_38 : decode cX2_fits 38 = .ok (.iload_n 0, 1) := by decide +kernel
theorem dX2_fits_39 : decode cX2_fits 39 = .ok (.bipush 116, 2) := by decide +kernel
theorem dX2_fits_41 : decode cX2_fits 41 = .ok (.if_icmp .ne 25, 3) := by decide +kernel
theorem dX2_fits_44 : decode cX2_fits 44 = .ok (.iload_n 1, 1) := by decide +kernel
theorem dX2_fits_45 : decode cX2_fits 45 = .ok (.iconst 1, 1) := by decide +kernel
theorem dX2_fits_46 : decode cX2_fits 46 = .ok (.if_icmp .ne 20, 3) := by decide +kernel
theorem dX2_fits_49 : decode cX2_fits 49 = .ok (.iload_n 2, 1) := by decide +kernel
theorem dX2_fits_50 : decode cX2_fits 50 = .ok (.invokestatic 36, 3) := by decide +kernel
theorem dX2_fits_53 : decode cX2_fits 53 = .ok (.bipush (-9), 2) := by decide +kernel
theorem dX2_fits_55 : decode cX2_fits 55 = .ok (.if_icmp .eq 7, 3) := by decide +kernel
theorem dX2_fits_58 : decode cX2_fits 58 = .ok (.iconst 1, 1) := by decide +kernel
theorem dX2_fits_59 : decode cX2_fits 59 = .ok (.goto 21, 3) := by decide +kernel
theorem dX2_fits_62 : decode cX2_fits 62 = .ok (.iconst 0, 1) := by decide +kernel
theorem dX2_fits_63 : decode cX2_fits 63 = .ok (.goto 17, 3) := by decide +kernel
theorem dX2_fits_66 : decode cX2_fits 66 = .ok (.iload_n 2, 1) := by decide +kernel
theorem dX2_fits_67 : decode cX2_fits 67 = .ok (.invokestatic 39, 3) := by decide +kernel
theorem dX2_fits_70 : decode cX2_fits 70 = .ok (.bipush (-9), 2) := by decide +kernel
theorem dX2_fits_72 : decode cX2_fits 72 = .ok (.if_icmp .eq 7, 3) := by decide +kernel
theorem dX2_fits_75 : decode cX2_fits 75 = .ok (.iconst 1, 1) := by decide +kernel
theorem dX2_fits_76 : decode cX2_fits 76 = .ok (.goto 4, 3) := by decide +kernel
theorem dX2_fits_79 : decode cX2_fits 79 = .ok (.iconst 0, 1) := by decide +kernel
theorem dX2_fits_80 : decode cX2_fits 80 = .ok (.ireturn, 1) := by decide +kernel
theorem dX2_statementLength_0 : decode cX2_statementLength 0 = .ok (.iload_n 0, 1) := by decide +kernel
theorem dX2_statementLength_1 : decode cX2_statementLength 1 = .ok (.tableswitch 91 99 116 #[89, 91, 91, 91, 91, 89, 91, 91, 91, 87, 87, 91, 87, 91, 91, 91, 91, 87], 87) := by decide +kernel
theorem dX2_statementLength_88 : decode cX2_statementLength 88 = .ok (.iconst 4, 1) := by decide +kernel
theorem dX2_statementLength_89 : decode cX2_statementLength 89 = .ok (.ireturn, 1) := by decide +kernel
theorem dX2_statementLength_90 : decode cX2_statementLength 90 = .ok (.iconst 3, 1) := by decide +kernel
theorem dX2_statementLength_91 : decode cX2_statementLength 91 = .ok (.ireturn, 1) := by decide +kernel
theorem dX2_statementLength_92 : decode cX2_statementLength 92 = .ok (.iconst 0, 1) := by decide +kernel
theorem dX2_statementLength_93 : decode cX2_statementLength 93 = .ok (.ireturn, 1) := by decide +kernel
theorem dX2_digit_0 : decode cX2_digit 0 = .ok (.iload_n 0, 1) := by decide +kernel
theorem dX2_digit_1 : decode cX2_digit 1 = .ok (.bipush 48, 2) := by decide +kernel
theorem dX2_digit_3 : decode cX2_digit 3 = .ok (.if_icmp .lt 16, 3) := by decide +kernel
theorem dX2_digit_6 : decode cX2_digit 6 = .ok (.iload_n 0, 1) := by decide +kernel
theorem dX2_digit_7 : decode cX2_digit 7 = .ok (.bipush 57, 2) := by decide +kernel
theorem dX2_digit_9 : decode cX2_digit 9 = .ok (.if_icmp .gt 10, 3) := by decide +kernel
theorem dX2_digit_12 : decode cX2_digit 12 = .ok (.iload_n 0, 1) := by decide +kernel
theorem dX2_digit_13 : decode cX2_digit 13 = .ok (.bipush 48, 2) := by decide +kernel
theorem dX2_digit_15 : decode cX2_digit 15 = .ok (.isub, 1) := by decide +kernel
theorem dX2_digit_16 : decode cX2_digit 16 = .ok (.goto 5, 3) := by decide +kernel
theorem dX2_digit_19 : decode cX2_digit 19 = .ok (.bipush (-9), 2) := by decide +kernel
theorem dX2_digit_21 : decode cX2_digit 21 = .ok (.ireturn, 1) := by decide +kernel
theorem dX2_kind_0 : decode cX2_kind 0 = .ok (.iload_n 0, 1) := by decide +kernel
theorem dX2_kind_1 : decode cX2_kind 1 = .ok (.lookupswitch 71 #[(98, 65), (109, 69), (110, 67), (115, 63), (116, 59), (119, 61)], 59) := by decide +kernel
theorem dX2_kind_60 : decode cX2_kind 60 = .ok (.iconst 0, 1) := by decide +kernel
theorem dX2_kind_61 : decode cX2_kind 61 = .ok (.ireturn, 1) := by decide +kernel
theorem dX2_kind_62 : decode cX2_kind 62 = .ok (.iconst 1, 1) := by decide +kernel
theorem dX2_kind_63 : decode cX2_kind 63 = .ok (.ireturn, 1) := by decide +kernel
theorem dX2_kind_64 : decode cX2_kind 64 = .ok (.iconst 2, 1) := by decide +kernel
theorem dX2_kind_65 : decode cX2_kind 65 = .ok (.ireturn, 1) := by decide +kernel
theorem dX2_kind_66 : decode cX2_kind 66 = .ok (.iconst 3, 1) := by decide +kernel
theorem dX2_kind_67 : decode cX2_kind 67 = .ok (.ireturn, 1) := by decide +kernel
theorem dX2_kind_68 : decode cX2_kind 68 = .ok (.iconst 4, 1) := by decide +kernel
theorem dX2_kind_69 : decode cX2_kind 69 = .ok (.ireturn, 1) := by decide +kernel
theorem dX2_kind_70 : decode cX2_kind 70 = .ok (.iconst 5, 1) := by decide +kernel
theorem dX2_kind_71 : decode cX2_kind 71 = .ok (.ireturn, 1) := by decide +kernel
theorem dX2_kind_72 : decode cX2_kind 72 = .ok (.bipush (-9), 2) := by decide +kernel
theorem dX2_kind_74 : decode cX2_kind 74 = .ok (.ireturn, 1) := by decide +kernel
theorem dX3_init_0 : decode cX3_init 0 = .ok (.aload_n 0, 1) := by decide +kernel
theorem dX3_init_1 : decode cX3_init 1 = .ok (.invokespecial 1, 3) := by decide +kernel
theorem dX3_init_4 : decode cX3_init 4 = .ok (.aload_n 0, 1) := by decide +kernel
theorem dX3_init_5 : decode cX3_init 5 = .ok (.new 7, 3) := by decide +kernel
theorem dX3_init_8 : decode cX3_init 8 = .ok (.dup, 1) := by decide +kernel
theorem dX3_init_9 : decode cX3_init 9 = .ok (.invokespecial 9, 3) := by decide +kernel
theorem dX3_init_12 : decode cX3_init 12 = .ok (.putfield 10, 3) := by decide +kernel
theorem dX3_init_15 : decode cX3_init 15 = .ok (.aload_n 0, 1) := by decide +kernel
theorem dX3_init_16 : decode cX3_init 16 = .ok (.new 7, 3) := by decide +kernel
theorem dX3_init_19 : decode cX3_init 19 = .ok (.dup, 1) := by decide +kernel
theorem dX3_init_20 : decode cX3_init 20 = .ok (.invokespecial 9, 3) := by decide +kernel
theorem dX3_init_23 : decode cX3_init 23 = .ok (.putfield 16, 3) := by decide +kernel
theorem dX3_init_26 : decode cX3_init 26 = .ok (.aload_n 0, 1) := by decide +kernel
theorem dX3_init_27 : decode cX3_init 27 = .ok (.new 7, 3) := by decide +kernel
theorem dX3_init_30 : decode cX3_init 30 = .ok (.dup, 1) := by decide +kernel
theorem dX3_init_31 : decode cX3_init 31 = .ok (.invokespecial 9, 3) := by decide +kernel
theorem dX3_init_34 : decode cX3_init 34 = .ok (.putfield 19, 3) := by decide +kernel
theorem dX3_init_37 : decode cX3_init 37 = .ok (.aload_n 0, 1) := by decide +kernel
theorem dX3_init_38 : decode cX3_init 38 = .ok (.iconst 0, 1) := by decide +kernel
theorem dX3_init_39 : decode cX3_init 39 = .ok (.putfield 22, 3) := by decide +kernel
theorem dX3_init_42 : decode cX3_init 42 = .ok (.aload_n 0, 1) := by decide +kernel
theorem dX3_init_43 : decode cX3_init 43 = .ok (.new 26, 3) := by decide +kernel
theorem dX3_init_46 : decode cX3_init 46 = .ok (.dup, 1) := by decide +kernel
theorem dX3_init_47 : decode cX3_init 47 = .ok (.invokespecial 28, 3) := by decide +kernel
theorem dX3_init_50 : decode cX3_init 50 = .ok (.putfield 29, 3) := by decide +kernel
theorem dX3_init_53 : decode cX3_init 53 = .ok (.aload_n 0, 1) := by decide +kernel
theorem dX3_init_54 : decode cX3_init 54 = .ok (.new 33, 3) := by decide +kernel
theorem dX3_init_57 : decode cX3_init 57 = .ok (.dup, 1) := by decide +kernel
theorem dX3_init_58 : decode cX3_init 58 = .ok (.invokespecial 35, 3) := by decide +kernel
theorem dX3_init_61 : decode cX3_init 61 = .ok (.putfield 36, 3) := by decide +kernel
theorem dX3_init_64 : decode cX3_init 64 = .ok (.aload_n 0, 1) := by decide +kernel
theorem dX3_init_65 : decode cX3_init 65 = .ok (.sipush 128, 3) := by decide +kernel
theorem dX3_init_68 : decode cX3_init 68 = .ok (.newarray .int, 2) := by decide +kernel
theorem dX3_init_70 : decode cX3_init 70 = .ok (.putfield 40, 3) := by decide +kernel
theorem dX3_init_73 : decode cX3_init 73 = .ok (.aload_n 0, 1) := by decide +kernel
theorem dX3_init_74 : decode cX3_init 74 = .ok (.bipush 12, 2) := by decide +kernel
theorem dX3_init_76 : decode cX3_init 76 = .ok (.newarray .int, 2) := by decide +kernel
theorem dX3_init_78 : decode cX3_init 78 = .ok (.putfield 44, 3) := by decide +kernel
theorem dX3_init_81 : decode cX3_init 81 = .ok (.aload_n 0, 1) := by decide +kernel
theorem dX3_init_82 : decode cX3_init 82 = .ok (.iconst 0, 1) := by decide +kernel
theorem dX3_init_83 : decode cX3_init 83 = .ok (.putfield 47, 3) := by decide +kernel
theorem dX3_init_86 : decode cX3_init 86 = .ok (.aload_n 0, 1) := by decide +kernel
theorem dX3_init_87 : decode cX3_init 87 = .ok (.bipush 7, 2) := by decide +kernel
theorem dX3_init_89 : decode cX3_init 89 = .ok (.newarray .int, 2) := by decide +kernel
theorem dX3_init_91 : decode cX3_init 91 = .ok (.putfield 51, 3) := by decide +kernel
theorem dX3_init_94 : decode cX3_init 94 = .ok (.return_, 1) := by decide +kernel
theorem dX3_letter_0 : decode cX3_letter 0 = .ok (.iload_n 1, 1) := by decide +kernel
theorem dX3_letter_1 : decode cX3_letter 1 = .ok (.iconst 0, 1) := by decide +kernel
theorem dX3_letter_2 : decode cX3_letter 2 = .ok (.sipush 255, 3) := by decide +kernel
theorem dX3_letter_5 : decode cX3_letter 5 = .ok (.invokestatic 54, 3) := by decide +kernel
theorem dX3_letter_8 : decode cX3_letter 8 = .ok (.istore_n 2, 1) := by decide +kernel
theorem dX3_letter_9 : decode cX3_letter 9 = .ok (.iload_n 2, 1) := by decide +kernel
theorem dX3_letter_10 : decode cX3_letter 10 = .ok (.ifCond .eq 9, 3) := by decide +kernel
theorem dX3_letter_13 : decode cX3_letter 13 = .ok (.aload_n 0, 1) := by decide +kernel
theorem dX3_letter_14 : decode cX3_letter 14 = .ok (.iload_n 2, 1) := by decide +kernel
theorem dX3_letter_15 : decode cX3_letter 15 = .ok (.invokevirtual 58, 3) := by decide +kernel
theorem dX3_letter_18 : decode cX3_letter 18 = .ok (.ireturn, 1) := by decide +kernel
theorem dX3_letter_19 : decode cX3_letter 19 = .ok (.aload_n 0, 1) := by decide +kernel
theorem dX3_letter_20 : decode cX3_letter 20 = .ok (.getfield 29, 3) := by decide +kernel
theorem dX3_letter_23 : decode cX3_letter 23 = .ok (.getfield 62, 3) := by decide +kernel
theorem dX3_letter_26 : decode cX3_letter 26 = .ok (.bipush 80, 2) := by decide +kernel
theorem dX3_letter_28 : decode cX3_letter 28 = .ok (.if_icmp .lt 10, 3) := by decide +kernel
theorem dX3_letter_31 : decode cX3_letter 31 = .ok (.aload_n 0, 1) := by decide +kernel
theorem dX3_letter_32 : decode cX3_letter 32 = .ok (.bipush (-6), 2) := by decide +kernel
theorem dX3_letter_34 : decode cX3_letter 34 = .ok (.invokevirtual 58, 3) := by decide +kernel
theorem dX3_letter_37 : decode cX3_letter 37 = .ok (.ireturn, 1) := by decide +kernel
theorem dX3_letter_38 : decode cX3_letter 38 = .ok (.aload_n 0, 1) := by decide +kernel
theorem dX3_letter_39 : decode cX3_letter 39 = .ok (.getfield 29, 3) := by decide +kernel
theorem dX3_letter_42 : decode cX3_letter 42 = .ok (.iload_n 1, 1) := by decide +kernel
theorem dX3_letter_43 : decode cX3_letter 43 = .ok (.invokevirtual 65, 3) := by decide +kernel
theorem dX3_letter_46 : decode cX3_letter 46 = .ok (.ireturn, 1) := by decide +kernel
theorem dX3_house_0 : decode cX3_house 0 = .ok (.aload_n 0, 1) := by decide +kernel
theorem dX3_house_1 : decode cX3_house 1 = .ok (.getfield 16, 3) := by decide +kernel
theorem dX3_house_4 : decode cX3_house 4 = .ok (.aload_n 0, 1) := by decide +kernel
theorem dX3_house_5 : decode cX3_house 5 = .ok (.getfield 10, 3) := by decide +kernel
theorem dX3_house_8 : decode cX3_house 8 = .ok (.invokevirtual 68, 3) := by decide +kernel
theorem dX3_house_11 : decode cX3_house 11 = .ok (.aload_n 0, 1) := by decide +kernel
theorem dX3_house_12 : decode cX3_house 12 = .ok (.getfield 29, 3) := by decide +kernel
theorem dX3_house_15 : decode cX3_house 15 = .ok (.aload_n 0, 1) := by decide +kernel
theorem dX3_house_16 : decode cX3_house 16 = .ok (.getfield 16, 3) := by decide +kernel
theorem dX3_house_19 : decode cX3_house 19 = .ok (.invokevirtual 72, 3) := by decide +kernel
theorem dX3_house_22 : decode cX3_house 22 = .ok (.istore_n 1, 1) := by decide +kernel
theorem dX3_house_23 : decode cX3_house 23 = .ok (.iload_n 1, 1) := by decide +kernel
theorem dX3_house_24 : decode cX3_house 24 = .ok (.ifCond .le 14, 3) := by decide +kernel
theorem dX3_house_27 : decode cX3_house 27 = .ok (.aload_n 0, 1) := by decide +kernel
theorem dX3_house_28 : decode cX3_house 28 = .ok (.getfield 10, 3) := by decide +kernel
theorem dX3_house_31 : decode cX3_house 31 = .ok (.aload_n 0, 1) := by decide +kernel
theorem dX3_house_32 : decode cX3_house 32 = .ok (.getfield 16, 3) := by decide +kernel
theorem dX3_house_35 : decode cX3_house 35 = .ok (.invokevirtual 68, 3) := by decide +kernel
theorem dX3_house_38 : decode cX3_house 38 = .ok (.aload_n 0, 1) := by decide +kernel
theorem dX3_house_39 : decode cX3_house 39 = .ok (.getfield 29, 3) := by decide +kernel
theorem dX3_house_42 : decode cX3_house 42 = .ok (.iconst 0, 1) := by decide +kernel
theorem dX3_house_43 : decode cX3_house 43 = .ok (.putfield 62, 3) := by decide +kernel
theorem dX3_house_46 : decode cX3_house 46 = .ok (.iload_n 1, 1) := by decide +kernel
theorem dX3_house_47 : decode cX3_house 47 = .ok (.ireturn, 1) := by decide +kernel
theorem dX3_thing_0 : decode cX3_thing 0 = .ok (.aload_n 0, 1) := by decide +kernel
theorem dX3_thing_1 : decode cX3_thing 1 = .ok (.getfield 10, 3) := by decide +kernel
theorem dX3_thing_4 : decode cX3_thing 4 = .ok (.iload_n 1, 1) := by decide +kernel
theorem dX3_thing_5 : decode cX3_thing 5 = .ok (.invokevirtual 76, 3) := by decide +kernel
theorem dX3_thing_8 : decode cX3_thing 8 = .ok (.ifCond .ne 9, 3) := by decide +kernel
theorem dX3_thing_11 : decode cX3_thing 11 = .ok (.aload_n 0, 1) := by decide +kernel
theorem dX3_thing_12 : decode cX3_thing 12 = .ok (.iconst (-1), 1) := by decide +kernel
theorem dX3_thing_13 : decode cX3_thing 13 = .ok (.invokevirtual 58, 3) := by decide +kernel
theorem dX3_thing_16 : decode cX3_thing 16 = .ok (.ireturn, 1) := by decide +kernel
theorem dX3_thing_17 : decode cX3_thing 17 = .ok (.iload_n 2, 1) := by decide +kernel
theorem dX3_thing_18 : decode cX3_thing 18 = .ok (.tableswitch 56 0 2 #[26, 36, 46], 26) := by decide +kernel
theorem dX3_thing_44 : decode cX3_thing 44 = .ok (.aload_n 0, 1) := by decide +kernel
theorem dX3_thing_45 : decode cX3_thing 45 = .ok (.getfield 10, 3) := by decide +kernel
theorem dX3_thing_48 : decode cX3_thing 48 = .ok (.getfield 80, 3) := by decide +kernel
theorem dX3_thing_51 : decode cX3_thing 51 = .ok (.iload_n 1, 1) := by decide +kernel
theorem dX3_thing_52 : decode cX3_thing 52 = .ok (.iaload, 1) := by decide +kernel
theorem dX3_thing_53 : decode cX3_thing 53 = .ok (.ireturn, 1) := by decide +kernel
theorem dX3_thing_54 : decode cX3_thing 54 = .ok (.aload_n 0, 1) := by decide +kernel
theorem dX3_thing_55 : decode cX3_thing 55 = .ok (.getfield 10, 3) := by decide +kernel
theorem dX3_thing_58 : decode cX3_thing 58 = .ok (.getfield 83, 3) := by decide +kernel
theorem dX3_thing_61 : decode cX3_thing 61 = .ok (.iload_n 1, 1) := by decide +kernel
theorem dX3_thing_62 : decode cX3_thing 62 = .ok (.iaload, 1) := by decide +kernel
theorem dX3_thing_63 : decode cX3_thing 63 = .ok (.ireturn, 1) := by decide +kernel
theorem dX3_thing_64 : decode cX3_thing 64 = .ok (.aload_n 0, 1) := by decide +kernel
theorem dX3_thing_65 : decode cX3_thing 65 = .ok (.getfield 10, 3) := by decide +kernel
theorem dX3_thing_68 : decode cX3_thing 68 = .ok (.getfield 86, 3) := by decide +kernel
theorem dX3_thing_71 : decode cX3_thing 71 = .ok (.iload_n 1, 1) := by decide +kernel
theorem dX3_thing_72 : decode cX3_thing 72 = .ok (.iaload, 1) := by decide +kernel
theorem dX3_thing_73 : decode cX3_thing 73 = .ok (.ireturn, 1) := by decide +kernel
theorem dX3_thing_74 : decode cX3_thing 74 = .ok (.aload_n 0, 1) := by decide +kernel
theorem dX3_thing_75 : decode cX3_thing 75 = .ok (.bipush (-2), 2) := by decide +kernel
theorem dX3_thing_77 : decode cX3_thing 77 = .ok (.invokevirtual 58, 3) := by decide +kernel
theorem dX3_thing_80 : decode cX3_thing 80 = .ok (.ireturn, 1) := by decide +kernel
theorem dX3_line_0 : decode cX3_line 0 = .ok (.aload_n 0, 1) := by decide +kernel
theorem dX3_line_1 : decode cX3_line 1 = .ok (.getfield 10, 3) := by decide +kernel
theorem dX3_line_4 : decode cX3_line 4 = .ok (.iload_n 1, 1) := by decide +kernel
theorem dX3_line_5 : decode cX3_line 5 = .ok (.invokevirtual 89, 3) := by decide +kernel
theorem dX3_line_8 : decode cX3_line 8 = .ok (.ifCond .ne 9, 3) := by decide +kernel
theorem dX3_line_11 : decode cX3_line 11 = .ok (.aload_n 0, 1) := by decide +kernel
theorem dX3_line_12 : decode cX3_line 12 = .ok (.iconst (-1), 1) := by decide +kernel
theorem dX3_line_13 : decode cX3_line 13 = .ok (.invokevirtual 58, 3) := by decide +kernel
theorem dX3_line_16 : decode cX3_line 16 = .ok (.ireturn, 1) := by decide +kernel
theorem dX3_line_17 : decode cX3_line 17 = .ok (.iload_n 2, 1) := by decide +kernel
theorem dX3_line_18 : decode cX3_line 18 = .ok (.tableswitch 58 0 2 #[26, 36, 46], 26) := by decide +kernel
theorem dX3_line_44 : decode cX3_line 44 = .ok (.aload_n 0, 1) := by decide +kernel
theorem dX3_line_45 : decode cX3_line 45 = .ok (.getfield 10, 3) := by decide +kernel
theorem dX3_line_48 : decode cX3_line 48 = .ok (.getfield 92, 3) := by decide +kernel
theorem dX3_line_51 : decode cX3_line 51 = .ok (.iload_n 1, 1) := by decide +kernel
theorem dX3_line_52 : decode cX3_line 52 = .ok (.iaload, 1) := by decide +kernel
theorem dX3_line_53 : decode cX3_line 53 = .ok (.ireturn, 1) := by decide +kernel
theorem dX3_line_54 : decode cX3_line 54 = .ok (.aload_n 0, 1) := by decide +kernel
theorem dX3_line_55 : decode cX3_line 55 = .ok (.getfield 10, 3) := by decide +kernel
theorem dX3_line_58 : decode cX3_line 58 = .ok (.getfield 95, 3) := by decide +kernel
theorem dX3_line_61 : decode cX3_line 61 = .ok (.iload_n 1, 1) := by decide +kernel
theorem dX3_line_62 : decode cX3_line 62 = .ok (.iaload, 1) := by decide +kernel
theorem dX3_line_63 : decode cX3_line 63 = .ok (.ireturn, 1) := by decide +kernel
theorem dX3_line_64 : decode cX3_line 64 = .ok (.aload_n 0, 1) := by decide +kernel
theorem dX3_line_65 : decode cX3_line 65 = .ok (.getfield 10, 3) := by decide +kernel
theorem dX3_line_68 : decode cX3_line 68 = .ok (.getfield 98, 3) := by decide +kernel
theorem dX3_line_71 : decode cX3_line 71 = .ok (.iload_n 1, 1) := by decide +kernel
theorem dX3_line_72 : decode cX3_line 72 = .ok (.ishr, 1) := by decide +kernel
theorem dX3_line_73 : decode cX3_line 73 = .ok (.iconst 1, 1) := by decide +kernel
theorem dX3_line_74 : decode cX3_line 74 = .ok (.iand, 1) := by decide +kernel
theorem dX3_line_75 : decode cX3_line 75 = .ok (.ireturn, 1) := by decide +kernel
theorem dX3_line_76 : decode cX3_line 76 = .ok (.aload_n 0, 1) := by decide +kernel
theorem dX3_line_77 : decode cX3_line 77 = .ok (.bipush (-2), 2) := by decide +kernel
theorem dX3_line_79 : decode cX3_line 79 = .ok (.invokevirtual 58, 3) := by decide +kernel
theorem dX3_line_82 : decode cX3_line 82 = .ok (.ireturn, 1) := by decide +kernel
theorem dX3_curtain_0 : decode cX3_curtain 0 = .ok (.aload_n 0, 1) := by decide +kernel
theorem dX3_curtain_1 : decode cX3_curtain 1 = .ok (.getfield 10, 3) := by decide +kernel
theorem dX3_curtain_4 : decode cX3_curtain 4 = .ok (.iload_n 1, 1) := by decide +kernel
theorem dX3_curtain_5 : decode cX3_curtain 5 = .ok (.invokevirtual 89, 3) := by decide +kernel
theorem dX3_curtain_8 : decode cX3_curtain 8 = .ok (.ifCond .ne 9, 3) := by decide +kernel
theorem dX3_curtain_11 : decode cX3_curtain 11 = .ok (.aload_n 0, 1) := by decide +kernel
theorem dX3_curtain_12 : decode cX3_curtain 12 = .ok (.iconst (-1), 1) := by decide +kernel
theorem dX3_curtain_13 : decode cX3_curtain 13 = .ok (.invokevirtual 58, 3) := by decide +kernel
theorem dX3_curtain_16 : decode cX3_curtain 16 = .ok (.ireturn, 1) := by decide +kernel
theorem dX3_curtain_17 : decode cX3_curtain 17 = .ok (.aload_n 0, 1) := by decide +kernel
theorem dX3_curtain_18 : decode cX3_curtain 18 = .ok (.getfield 10, 3) := by decide +kernel
theorem dX3_curtain_21 : decode cX3_curtain 21 = .ok (.aload_n 0, 1) := by decide +kernel
theorem dX3_curtain_22 : decode cX3_curtain 22 = .ok (.getfield 10, 3) := by decide +kernel
theorem dX3_curtain_25 : decode cX3_curtain 25 = .ok (.getfield 98, 3) := by decide +kernel
theorem dX3_curtain_28 : decode cX3_curtain 28 = .ok (.iconst 1, 1) := by decide +kernel
theorem dX3_curtain_29 : decode cX3_curtain 29 = .ok (.iload_n 1, 1) := by decide +kernel
theorem dX3_curtain_30 : decode cX3_curtain 30 = .ok (.ishl, 1) := by decide +kernel
theorem dX3_curtain_31 : decode cX3_curtain 31 = .ok (.ixor, 1) := by decide +kernel
theorem dX3_curtain_32 : decode cX3_curtain 32 = .ok (.invokevirtual 101, 3) := by decide +kernel
theorem dX3_curtain_35 : decode cX3_curtain 35 = .ok (.aload_n 0, 1) := by decide +kernel
theorem dX3_curtain_36 : decode cX3_curtain 36 = .ok (.getfield 10, 3) := by decide +kernel
theorem dX3_curtain_39 : decode cX3_curtain 39 = .ok (.getfield 98, 3) := by decide +kernel
theorem dX3_curtain_42 : decode cX3_curtain 42 = .ok (.iload_n 1, 1) := by decide +kernel
theorem dX3_curtain_43 : decode cX3_curtain 43 = .ok (.ishr, 1) := by decide +kernel
theorem dX3_curtain_44 : decode cX3_curtain 44 = .ok (.iconst 1, 1) := by decide +kernel
theorem dX3_curtain_45 : decode cX3_curtain 45 = .ok (.iand, 1) := by decide +kernel
theorem dX3_curtain_46 : decode cX3_curtain 46 = .ok (.ireturn, 1) := by decide +kernel
theorem dX3_move_0 : decode cX3_move 0 = .ok (.aload_n 0, 1) := by decide +kernel
theorem dX3_move_1 : decode cX3_move 1 = .ok (.getfield 10, 3) := by decide +kernel
theorem dX3_move_4 : decode cX3_move 4 = .ok (.iload_n 1, 1) := by decide +kernel
theorem dX3_move_5 : decode cX3_move 5 = .ok (.invokevirtual 76, 3) := by decide +kernel
theorem dX3_move_8 : decode cX3_move 8 = .ok (.ifCond .eq 10, 3) := by decide +kernel
theorem dX3_move_11 : decode cX3_move 11 = .ok (.iload_n 2, 1) := by decide +kernel
theorem dX3_move_12 : decode cX3_move 12 = .ok (.invokestatic 105, 3) := by decide +kernel
theorem dX3_move_15 : decode cX3_move 15 = .ok (.ifCond .ne 9, 3) := by decide +kernel
theorem dX3_move_18 : decode cX3_move 18 = .ok (.aload_n 0, 1) := by decide +kernel
theorem dX3_move_19 : decode cX3_move 19 = .ok (.iconst (-1), 1) := by decide +kernel
theorem dX3_move_20 : decode cX3_move 20 = .ok (.invokevirtual 58, 3) := by decide +kernel
theorem dX3_move_23 : decode cX3_move 23 = .ok (.ireturn, 1) := by decide +kernel
theorem dX3_move_24 : decode cX3_move 24 = .ok (.aload_n 0, 1) := by decide +kernel
theorem dX3_move_25 : decode cX3_move 25 = .ok (.getfield 10, 3) := by decide +kernel
theorem dX3_move_28 : decode cX3_move 28 = .ok (.getfield 83, 3) := by decide +kernel
theorem dX3_move_31 : decode cX3_move 31 = .ok (.iload_n 1, 1) := by decide +kernel
theorem dX3_move_32 : decode cX3_move 32 = .ok (.iaload, 1) := by decide +kernel
theorem dX3_move_33 : decode cX3_move 33 = .ok (.istore_n 3, 1) := by decide +kernel
theorem dX3_move_34 : decode cX3_move 34 = .ok (.aload_n 0, 1) := by decide +kernel
theorem dX3_move_35 : decode cX3_move 35 = .ok (.getfield 10, 3) := by decide +kernel
theorem dX3_move_38 : decode cX3_move 38 = .ok (.getfield 83, 3) := by decide +kernel
theorem dX3_move_41 : decode cX3_move 41 = .ok (.iload_n 1, 1) := by decide +kernel
theorem dX3_move_42 : decode cX3_move 42 = .ok (.iload_n 2, 1) := by decide +kernel
theorem dX3_move_43 : decode cX3_move 43 = .ok (.iastore, 1) := by decide +kernel
theorem dX3_move_44 : decode cX3_move 44 = .ok (.iload_n 3, 1) := by decide +kernel
theorem dX3_move_45 : decode cX3_move 45 = .ok (.ireturn, 1) := by decide +kernel
theorem dX3_pair_0 : decode cX3_pair 0 = .ok (.aload_n 0, 1) := by decide +kernel
theorem dX3_pair_1 : decode cX3_pair 1 = .ok (.getfield 10, 3) := by decide +kernel
theorem dX3_pair_4 : decode cX3_pair 4 = .ok (.iload_n 1, 1) := by decide +kernel
theorem dX3_pair_5 : decode cX3_pair 5 = .ok (.invokevirtual 76, 3) := by decide +kernel
theorem dX3_pair_8 : decode cX3_pair 8 = .ok (.ifCond .eq 19, 3) := by decide +kernel
theorem dX3_pair_11 : decode cX3_pair 11 = .ok (.aload_n 0, 1) := by decide +kernel
theorem dX3_pair_12 : decode cX3_pair 12 = .ok (.getfield 10, 3) := by decide +kernel
theorem dX3_pair_15 : decode cX3_pair 15 = .ok (.iload_n 2, 1) := by decide +kernel
theorem dX3_pair_16 : decode cX3_pair 16 = .ok (.invokevirtual 76, 3) := by decide +kernel
theorem dX3_pair_19 : decode cX3_pair 19 = .ok (.ifCond .eq 8, 3) := by decide +kernel
theorem dX3_pair_22 : decode cX3_pair 22 = .ok (.iload_n 1, 1) := by decide +kernel
theorem dX3_pair_23 : decode cX3_pair 23 = .ok (.iload_n 2, 1) := by decide +kernel
theorem dX3_pair_24 : decode cX3_pair 24 = .ok (.if_icmp .ne 9, 3) := by decide +kernel
theorem dX3_pair_27 : decode cX3_pair 27 = .ok (.aload_n 0, 1) := by decide +kernel
theorem dX3_pair_28 : decode cX3_pair 28 = .ok (.iconst (-1), 1) := by decide +kernel
theorem dX3_pair_29 : decode cX3_pair 29 = .ok (.invokevirtual 58, 3) := by decide +kernel
theorem dX3_pair_32 : decode cX3_pair 32 = .ok (.ireturn, 1) := by decide +kernel
theorem dX3_pair_33 : decode cX3_pair 33 = .ok (.aload_n 0, 1) := by decide +kernel
theorem dX3_pair_34 : decode cX3_pair 34 = .ok (.getfield 10, 3) := by decide +kernel
theorem dX3_pair_37 : decode cX3_pair 37 = .ok (.iload_n 1, 1) := by decide +kernel
theorem dX3_pair_38 : decode cX3_pair 38 = .ok (.iload_n 2, 1) := by decide +kernel
theorem dX3_pair_39 : decode cX3_pair 39 = .ok (.invokevirtual 108, 3) := by decide +kernel
theorem dX3_pair_42 : decode cX3_pair 42 = .ok (.ireturn, 1) := by decide +kernel
theorem dX3_hour_0 : decode cX3_hour 0 = .ok (.iload_n 1, 1) := by decide +kernel
theorem dX3_hour_1 : decode cX3_hour 1 = .ok (.iconst 0, 1) := by decide +kernel
theorem dX3_hour_2 : decode cX3_hour 2 = .ok (.bipush 7, 2) := by decide +kernel
theorem dX3_hour_4 : decode cX3_hour 4 = .ok (.invokestatic 54, 3) := by decide +kernel
theorem dX3_hour_7 : decode cX3_hour 7 = .ok (.istore_n 2, 1) := by decide +kernel
theorem dX3_hour_8 : decode cX3_hour 8 = .ok (.iload_n 2, 1) := by decide +kernel
theorem dX3_hour_9 : decode cX3_hour 9 = .ok (.ifCond .eq 9, 3) := by decide +kernel
theorem dX3_hour_12 : decode cX3_hour 12 = .ok (.aload_n 0, 1) := by decide +kernel
theorem dX3_hour_13 : decode cX3_hour 13 = .ok (.iload_n 2, 1) := by decide +kernel
theorem dX3_hour_14 : decode cX3_hour 14 = .ok (.invokevirtual 58, 3) := by decide +kernel
theorem dX3_hour_17 : decode cX3_hour 17 = .ok (.ireturn, 1) := by decide +kernel
theorem dX3_hour_18 : decode cX3_hour 18 = .ok (.aload_n 0, 1) := by decide +kernel
theorem dX3_hour_19 : decode cX3_hour 19 = .ok (.getfield 10, 3) := by decide +kernel
theorem dX3_hour_22 : decode cX3_hour 22 = .ok (.getfield 112, 3) := by decide +kernel
theorem dX3_hour_25 : decode cX3_hour 25 = .ok (.istore_n 3, 1) := by decide +kernel
theorem dX3_hour_26 : decode cX3_hour 26 = .ok (.aload_n 0, 1) := by decide +kernel
theorem dX3_hour_27 : decode cX3_hour 27 = .ok (.getfield 10, 3) := by decide +kernel
theorem dX3_hour_30 : decode cX3_hour 30 = .ok (.iload_n 1, 1) := by decide +kernel
theorem dX3_hour_31 : decode cX3_hour 31 = .ok (.putfield 112, 3) := by decide +kernel
theorem dX3_hour_34 : decode cX3_hour 34 = .ok (.iload_n 3, 1) := by decide +kernel
theorem dX3_hour_35 : decode cX3_hour 35 = .ok (.ireturn, 1) := by decide +kernel
theorem dX3_seen_0 : decode cX3_seen 0 = .ok (.iload_n 1, 1) := by decide +kernel
theorem dX3_seen_1 : decode cX3_seen 1 = .ok (.invokestatic 105, 3) := by decide +kernel
theorem dX3_seen_4 : decode cX3_seen 4 = .ok (.ifCond .ne 9, 3) := by decide +kernel
theorem dX3_seen_7 : decode cX3_seen 7 = .ok (.aload_n 0, 1) := by decide +kernel
theorem dX3_seen_8 : decode cX3_seen 8 = .ok (.iconst (-1), 1) := by decide +kernel
theorem dX3_seen_9 : decode cX3_seen 9 = .ok (.invokevirtual 58, 3) := by decide +kernel
theorem dX3_seen_12 : decode cX3_seen 12 = .ok (.ireturn, 1) := by decide +kernel
theorem dX3_seen_13 : decode cX3_seen 13 = .ok (.iload_n 2, 1) := by decide +kernel
theorem dX3_seen_14 : decode cX3_seen 14 = .ok (.iconst 0, 1) := by decide +kernel
theorem dX3_seen_15 : decode cX3_seen 15 = .ok (.bipush 7, 2) := by decide +kernel
theorem dX3_seen_17 : decode cX3_seen 17 = .ok (.invokestatic 54, 3) := by decide +kernel
theorem dX3_seen_20 : decode cX3_seen 20 = .ok (.istore_n 3, 1) := by decide +kernel
theorem dX3_seen_21 : decode cX3_seen 21 = .ok (.iload_n 3, 1) := by decide +kernel
theorem dX3_seen_22 : decode cX3_seen 22 = .ok (.ifCond .eq 9, 3) := by decide +kernel
theorem dX3_seen_25 : decode cX3_seen 25 = .ok (.aload_n 0, 1) := by decide +kernel
theorem dX3_seen_26 : decode cX3_seen 26 = .ok (.iload_n 3, 1) := by decide +kernel
theorem dX3_seen_27 : decode cX3_seen 27 = .ok (.invokevirtual 58, 3) := by decide +kernel
theorem dX3_seen_30 : decode cX3_seen 30 = .ok (.ireturn, 1) := by decide +kernel
theorem dX3_seen_31 : decode cX3_seen 31 = .ok (.iconst 0, 1) := by decide +kernel
theorem dX3_seen_32 : decode cX3_seen 32 = .ok (.istore 4, 2) := by decide +kernel
theorem dX3_seen_34 : decode cX3_seen 34 = .ok (.iconst 0, 1) := by decide +kernel
theorem dX3_seen_35 : decode cX3_seen 35 = .ok (.istore 5, 2) := by decide +kernel
theorem dX3_seen_37 : decode cX3_seen 37 = .ok (.iload 5, 2) := by decide +kernel
theorem dX3_seen_39 : decode cX3_seen 39 = .ok (.aload_n 0, 1) := by decide +kernel
theorem dX3_seen_40 : decode cX3_seen 40 = .ok (.getfield 10, 3) := by decide +kernel
theorem dX3_seen_43 : decode cX3_seen 43 = .ok (.getfield 115, 3) := by decide +kernel
theorem dX3_seen_46 : decode cX3_seen 46 = .ok (.if_icmp .ge 31, 3) := by decide +kernel
theorem dX3_seen_49 : decode cX3_seen 49 = .ok (.iload 4, 2) := by decide +kernel
theorem dX3_seen_51 : decode cX3_seen 51 = .ok (.aload_n 0, 1) := by decide +kernel
theorem dX3_seen_52 : decode cX3_seen 52 = .ok (.getfield 10, 3) := by decide +kernel
theorem dX3_seen_55 : decode cX3_seen 55 = .ok (.iload 5, 2) := by decide +kernel
theorem dX3_seen_57 : decode cX3_seen 57 = .ok (.iload_n 2, 1) := by decide +kernel
theorem dX3_seen_58 : decode cX3_seen 58 = .ok (.invokevirtual 118, 3) := by decide +kernel
theorem dX3_seen_61 : decode cX3_seen 61 = .ok (.iload_n 1, 1) := by decide +kernel
theorem dX3_seen_62 : decode cX3_seen 62 = .ok (.ishr, 1) := by decide +kernel
theorem dX3_seen_63 : decode cX3_seen 63 = .ok (.iconst 1, 1) := by decide +kernel
theorem dX3_seen_64 : decode cX3_seen 64 = .ok (.iand, 1) := by decide +kernel
theorem dX3_seen_65 : decode cX3_seen 65 = .ok (.iload 5, 2) := by decide +kernel
theorem dX3_seen_67 : decode cX3_seen 67 = .ok (.ishl, 1) := by decide +kernel
theorem dX3_seen_68 : decode cX3_seen 68 = .ok (.ior, 1) := by decide +kernel
theorem dX3_seen_69 : decode cX3_seen 69 = .ok (.istore 4, 2) := by decide +kernel
theorem dX3_seen_71 : decode cX3_seen 71 = .ok (.iinc 5 1, 3) := by decide +kernel
theorem dX3_seen_74 : decode cX3_seen 74 = .ok (.goto (-37), 3) := by decide +kernel
theorem dX3_seen_77 : decode cX3_seen 77 = .ok (.iload 4, 2) := by decide +kernel
theorem dX3_seen_79 : decode cX3_seen 79 = .ok (.ireturn, 1) := by decide +kernel
theorem dX3_from_0 : decode cX3_from 0 = .ok (.aload_n 0, 1) := by decide +kernel
theorem dX3_from_1 : decode cX3_from 1 = .ok (.getfield 10, 3) := by decide +kernel
theorem dX3_from_4 : decode cX3_from 4 = .ok (.iload_n 1, 1) := by decide +kernel
theorem dX3_from_5 : decode cX3_from 5 = .ok (.invokevirtual 76, 3) := by decide +kernel
theorem dX3_from_8 : decode cX3_from 8 = .ok (.ifCond .ne 9, 3) := by decide +kernel
theorem dX3_from_11 : decode cX3_from 11 = .ok (.aload_n 0, 1) := by decide +kernel
theorem dX3_from_12 : decode cX3_from 12 = .ok (.iconst (-1), 1) := by decide +kernel
theorem dX3_from_13 : decode cX3_from 13 = .ok (.invokevirtual 58, 3) := by decide +kernel
theorem dX3_from_16 : decode cX3_from 16 = .ok (.ireturn, 1) := by decide +kernel
theorem dX3_from_17 : decode cX3_from 17 = .ok (.iload_n 2, 1) := by decide +kernel
theorem dX3_from_18 : decode cX3_from 18 = .ok (.iconst 0, 1) := by decide +kernel
theorem dX3_from_19 : decode cX3_from 19 = .ok (.bipush 7, 2) := by decide +kernel
theorem dX3_from_21 : decode cX3_from 21 = .ok (.invokestatic 54, 3) := by decide +kernel
theorem dX3_from_24 : decode cX3_from 24 = .ok (.istore_n 3, 1) := by decide +kernel
theorem dX3_from_25 : decode cX3_from 25 = .ok (.iload_n 3, 1) := by decide +kernel
theorem dX3_from_26 : decode cX3_from 26 = .ok (.ifCond .eq 9, 3) := by decide +kernel
theorem dX3_from_29 : decode cX3_from 29 = .ok (.aload_n 0, 1) := by decide +kernel
theorem dX3_from_30 : decode cX3_from 30 = .ok (.iload_n 3, 1) := by decide +kernel
theorem dX3_from_31 : decode cX3_from 31 = .ok (.invokevirtual 58, 3) := by decide +kernel
theorem dX3_from_34 : decode cX3_from 34 = .ok (.ireturn, 1) := by decide +kernel
theorem dX3_from_35 : decode cX3_from 35 = .ok (.aload_n 0, 1) := by decide +kernel
theorem dX3_from_36 : decode cX3_from 36 = .ok (.getfield 10, 3) := by decide +kernel
theorem dX3_from_39 : decode cX3_from 39 = .ok (.iload_n 1, 1) := by decide +kernel
theorem dX3_from_40 : decode cX3_from 40 = .ok (.iload_n 2, 1) := by decide +kernel
theorem dX3_from_41 : decode cX3_from 41 = .ok (.invokevirtual 118, 3) := by decide +kernel
theorem dX3_from_44 : decode cX3_from 44 = .ok (.ireturn, 1) := by decide +kernel
theorem dX3_sins_0 : decode cX3_sins 0 = .ok (.iload_n 1, 1) := by decide +kernel
theorem dX3_sins_1 : decode cX3_sins 1 = .ok (.iconst 0, 1) := by decide +kernel
theorem dX3_sins_2 : decode cX3_sins 2 = .ok (.bipush 7, 2) := by decide +kernel
theorem dX3_sins_4 : decode cX3_sins 4 = .ok (.invokestatic 54, 3) := by decide +kernel
theorem dX3_sins_7 : decode cX3_sins 7 = .ok (.istore_n 3, 1) := by decide +kernel
theorem dX3_sins_8 : decode cX3_sins 8 = .ok (.iload_n 3, 1) := by decide +kernel
theorem dX3_sins_9 : decode cX3_sins 9 = .ok (.ifCond .eq 9, 3) := by decide +kernel
theorem dX3_sins_12 : decode cX3_sins 12 = .ok (.aload_n 0, 1) := by decide +kernel
theorem dX3_sins_13 : decode cX3_sins 13 = .ok (.iload_n 3, 1) := by decide +kernel
theorem dX3_sins_14 : decode cX3_sins 14 = .ok (.invokevirtual 58, 3) := by decide +kernel
theorem dX3_sins_17 : decode cX3_sins 17 = .ok (.ireturn, 1) := by decide +kernel
theorem dX3_sins_18 : decode cX3_sins 18 = .ok (.iload_n 2, 1) := by decide +kernel
theorem dX3_sins_19 : decode cX3_sins 19 = .ok (.lookupswitch 43 #[(0, 25), (1, 34)], 25) := by decide +kernel
theorem dX3_sins_44 : decode cX3_sins 44 = .ok (.aload_n 0, 1) := by decide +kernel
theorem dX3_sins_45 : decode cX3_sins 45 = .ok (.getfield 10, 3) := by decide +kernel
theorem dX3_sins_48 : decode cX3_sins 48 = .ok (.iload_n 1, 1) := by decide +kernel
theorem dX3_sins_49 : decode cX3_sins 49 = .ok (.invokevirtual 121, 3) := by decide +kernel
theorem dX3_sins_52 : decode cX3_sins 52 = .ok (.ireturn, 1) := by decide +kernel
theorem dX3_sins_53 : decode cX3_sins 53 = .ok (.aload_n 0, 1) := by decide +kernel
theorem dX3_sins_54 : decode cX3_sins 54 = .ok (.getfield 10, 3) := by decide +kernel
theorem dX3_sins_57 : decode cX3_sins 57 = .ok (.iload_n 1, 1) := by decide +kernel
theorem dX3_sins_58 : decode cX3_sins 58 = .ok (.invokevirtual 124, 3) := by decide +kernel
theorem dX3_sins_61 : decode cX3_sins 61 = .ok (.ireturn, 1) := by decide +kernel
theorem dX3_sins_62 : decode cX3_sins 62 = .ok (.aload_n 0, 1) := by decide +kernel
theorem dX3_sins_63 : decode cX3_sins 63 = .ok (.bipush (-2), 2) := by decide +kernel
theorem dX3_sins_65 : decode cX3_sins 65 = .ok (.invokevirtual 58, 3) := by decide +kernel
theorem dX3_sins_68 : decode cX3_sins 68 = .ok (.ireturn, 1) := by decide +kernel
theorem dX3_day_0 : decode cX3_day 0 = .ok (.aload_n 0, 1) := by decide +kernel
theorem dX3_day_1 : decode cX3_day 1 = .ok (.getfield 10, 3) := by decide +kernel
theorem dX3_day_4 : decode cX3_day 4 = .ok (.invokevirtual 127, 3) := by decide +kernel
theorem dX3_day_7 : decode cX3_day 7 = .ok (.ireturn, 1) := by decide +kernel
theorem dX3_curtains_0 : decode cX3_curtains 0 = .ok (.aload_n 0, 1) := by decide +kernel
theorem dX3_curtains_1 : decode cX3_curtains 1 = .ok (.getfield 16, 3) := by decide +kernel
theorem dX3_curtains_4 : decode cX3_curtains 4 = .ok (.aload_n 0, 1) := by decide +kernel
theorem dX3_curtains_5 : decode cX3_curtains 5 = .ok (.getfield 10, 3) := by decide +kernel
theorem dX3_curtains_8 : decode cX3_curtains 8 = .ok (.invokevirtual 68, 3) := by decide +kernel
theorem dX3_curtains_11 : decode cX3_curtains 11 = .ok (.bipush (-9), 2) := by decide +kernel
theorem dX3_curtains_13 : decode cX3_curtains 13 = .ok (.istore_n 1, 1) := by decide +kernel
theorem dX3_curtains_14 : decode cX3_curtains 14 = .ok (.bipush 11, 2) := by decide +kernel
theorem dX3_curtains_16 : decode cX3_curtains 16 = .ok (.istore_n 2, 1) := by decide +kernel
theorem dX3_curtains_17 : decode cX3_curtains 17 = .ok (.iconst 0, 1) := by decide +kernel
theorem dX3_curtains_18 : decode cX3_curtains 18 = .ok (.istore_n 3, 1) := by decide +kernel
theorem dX3_curtains_19 : decode cX3_curtains 19 = .ok (.iload_n 3, 1) := by decide +kernel
theorem dX3_curtains_20 : decode cX3_curtains 20 = .ok (.iconst 1, 1) := by decide +kernel
theorem dX3_curtains_21 : decode cX3_curtains 21 = .ok (.aload_n 0, 1) := by decide +kernel
theorem dX3_curtains_22 : decode cX3_curtains 22 = .ok (.getfield 10, 3) := by decide +kernel
theorem dX3_curtains_25 : decode cX3_curtains 25 = .ok (.getfield 131, 3) := by decide +kernel
theorem dX3_curtains_28 : decode cX3_curtains 28 = .ok (.ishl, 1) := by decide +kernel
theorem dX3_curtains_29 : decode cX3_curtains 29 = .ok (.if_icmp .ge 53, 3) := by decide +kernel
theorem dX3_curtains_32 : decode cX3_curtains 32 = .ok (.iload_n 3, 1) := by decide +kernel
theorem dX3_curtains_33 : decode cX3_curtains 33 = .ok (.invokestatic 134, 3) := by decide +kernel
theorem dX3_curtains_36 : decode cX3_curtains 36 = .ok (.istore 4, 2) := by decide +kernel
theorem dX3_curtains_38 : decode cX3_curtains 38 = .ok (.iload 4, 2) := by decide +kernel
theorem dX3_curtains_40 : decode cX3_curtains 40 = .ok (.iload_n 2, 1) := by decide +kernel
theorem dX3_curtains_41 : decode cX3_curtains 41 = .ok (.if_icmp .ge 35, 3) := by decide +kernel
theorem dX3_curtains_44 : decode cX3_curtains 44 = .ok (.aload_n 0, 1) := by decide +kernel
theorem dX3_curtains_45 : decode cX3_curtains 45 = .ok (.getfield 16, 3) := by decide +kernel
theorem dX3_curtains_48 : decode cX3_curtains 48 = .ok (.iload_n 3, 1) := by decide +kernel
theorem dX3_curtains_49 : decode cX3_curtains 49 = .ok (.invokevirtual 101, 3) := by decide +kernel
theorem dX3_curtains_52 : decode cX3_curtains 52 = .ok (.aload_n 0, 1) := by decide +kernel
theorem dX3_curtains_53 : decode cX3_curtains 53 = .ok (.getfield 16, 3) := by decide +kernel
theorem dX3_curtains_56 : decode cX3_curtains 56 = .ok (.aload_n 0, 1) := by decide +kernel
theorem dX3_curtains_57 : decode cX3_curtains 57 = .ok (.getfield 10, 3) := by decide +kernel
theorem dX3_curtains_60 : decode cX3_curtains 60 = .ok (.getfield 112, 3) := by decide +kernel
theorem dX3_curtains_63 : decode cX3_curtains 63 = .ok (.invokevirtual 124, 3) := by decide +kernel
theorem dX3_curtains_66 : decode cX3_curtains 66 = .ok (.bipush (-9), 2) := by decide +kernel
theorem dX3_curtains_68 : decode cX3_curtains 68 = .ok (.if_icmp .ne 8, 3) := by decide +kernel
theorem dX3_curtains_71 : decode cX3_curtains 71 = .ok (.iload_n 3, 1) := by decide +kernel
theorem dX3_curtains_72 : decode cX3_curtains 72 = .ok (.istore_n 1, 1) := by decide +kernel
theorem dX3_curtains_73 : decode cX3_curtains 73 = .ok (.iload 4, 2) := by decide +kernel
theorem dX3_curtains_75 : decode cX3_curtains 75 = .ok (.istore_n 2, 1) := by decide +kernel
theorem dX3_curtains_76 : decode cX3_curtains 76 = .ok (.iinc 3 1, 3) := by decide +kernel
theorem dX3_curtains_79 : decode cX3_curtains 79 = .ok (.goto (-60), 3) := by decide +kernel
theorem dX3_curtains_82 : decode cX3_curtains 82 = .ok (.iload_n 1, 1) := by decide +kernel
theorem dX3_curtains_83 : decode cX3_curtains 83 = .ok (.ireturn, 1) := by decide +kernel
theorem dX3_moved_0 : decode cX3_moved 0 = .ok (.iload_n 1, 1) := by decide +kernel
theorem dX3_moved_1 : decode cX3_moved 1 = .ok (.ifCond .eq 15, 3) := by decide +kernel
theorem dX3_moved_4 : decode cX3_moved 4 = .ok (.iload_n 1, 1) := by decide +kernel
theorem dX3_moved_5 : decode cX3_moved 5 = .ok (.iconst 1, 1) := by decide +kernel
theorem dX3_moved_6 : decode cX3_moved 6 = .ok (.if_icmp .eq 10, 3) := by decide +kernel
theorem dX3_moved_9 : decode cX3_moved 9 = .ok (.aload_n 0, 1) := by decide +kernel
theorem dX3_moved_10 : decode cX3_moved 10 = .ok (.bipush (-2), 2) := by decide +kernel
theorem dX3_moved_12 : decode cX3_moved 12 = .ok (.invokevirtual 58, 3) := by decide +kernel
theorem dX3_moved_15 : decode cX3_moved 15 = .ok (.ireturn, 1) := by decide +kernel
theorem dX3_moved_16 : decode cX3_moved 16 = .ok (.aload_n 0, 1) := by decide +kernel
theorem dX3_moved_17 : decode cX3_moved 17 = .ok (.getfield 10, 3) := by decide +kernel
theorem dX3_moved_20 : decode cX3_moved 20 = .ok (.aload_n 0, 1) := by decide +kernel
theorem dX3_moved_21 : decode cX3_moved 21 = .ok (.getfield 10, 3) := by decide +kernel
theorem dX3_moved_24 : decode cX3_moved 24 = .ok (.getfield 112, 3) := by decide +kernel
theorem dX3_moved_27 : decode cX3_moved 27 = .ok (.invokevirtual 124, 3) := by decide +kernel
theorem dX3_moved_30 : decode cX3_moved 30 = .ok (.bipush (-9), 2) := by decide +kernel
theorem dX3_moved_32 : decode cX3_moved 32 = .ok (.if_icmp .ne 14, 3) := by decide +kernel
theorem dX3_moved_35 : decode cX3_moved 35 = .ok (.iload_n 1, 1) := by decide +kernel
theorem dX3_moved_36 : decode cX3_moved 36 = .ok (.ifCond .ne 7, 3) := by decide +kernel
theorem dX3_moved_39 : decode cX3_moved 39 = .ok (.iconst 0, 1) := by decide +kernel
theorem dX3_moved_40 : decode cX3_moved 40 = .ok (.goto 5, 3) := by decide +kernel
theorem dX3_moved_43 : decode cX3_moved 43 = .ok (.bipush (-9), 2) := by decide +kernel
theorem dX3_moved_45 : decode cX3_moved 45 = .ok (.ireturn, 1) := by decide +kernel
theorem dX3_moved_46 : decode cX3_moved 46 = .ok (.aload_n 0, 1) := by decide +kernel
theorem dX3_moved_47 : decode cX3_moved 47 = .ok (.getfield 16, 3) := by decide +kernel
theorem dX3_moved_50 : decode cX3_moved 50 = .ok (.aload_n 0, 1) := by decide +kernel
theorem dX3_moved_51 : decode cX3_moved 51 = .ok (.getfield 10, 3) := by decide +kernel
theorem dX3_moved_54 : decode cX3_moved 54 = .ok (.invokevirtual 68, 3) := by decide +kernel
theorem dX3_moved_57 : decode cX3_moved 57 = .ok (.aload_n 0, 1) := by decide +kernel
theorem dX3_moved_58 : decode cX3_moved 58 = .ok (.iconst 0, 1) := by decide +kernel
theorem dX3_moved_59 : decode cX3_moved 59 = .ok (.invokevirtual 139, 3) := by decide +kernel
theorem dX3_moved_62 : decode cX3_moved 62 = .ok (.istore_n 2, 1) := by decide +kernel
theorem dX3_moved_63 : decode cX3_moved 63 = .ok (.iload_n 1, 1) := by decide +kernel
theorem dX3_moved_64 : decode cX3_moved 64 = .ok (.iconst 1, 1) := by decide +kernel
theorem dX3_moved_65 : decode cX3_moved 65 = .ok (.if_icmp .ne 5, 3) := by decide +kernel
theorem dX3_moved_68 : decode cX3_moved 68 = .ok (.iload_n 2, 1) := by decide +kernel
theorem dX3_moved_69 : decode cX3_moved 69 = .ok (.ireturn, 1) := by decide +kernel
theorem dX3_moved_70 : decode cX3_moved 70 = .ok (.iload_n 2, 1) := by decide +kernel
theorem dX3_moved_71 : decode cX3_moved 71 = .ok (.bipush (-9), 2) := by decide +kernel
theorem dX3_moved_73 : decode cX3_moved 73 = .ok (.if_icmp .eq 5, 3) := by decide +kernel
theorem dX3_moved_76 : decode cX3_moved 76 = .ok (.iconst 1, 1) := by decide +kernel
theorem dX3_moved_77 : decode cX3_moved 77 = .ok (.ireturn, 1) := by decide +kernel
theorem dX3_moved_78 : decode cX3_moved 78 = .ok (.aload_n 0, 1) := by decide +kernel
theorem dX3_moved_79 : decode cX3_moved 79 = .ok (.invokevirtual 142, 3) := by decide +kernel
theorem dX3_moved_82 : decode cX3_moved 82 = .ok (.ifCond .eq 7, 3) := by decide +kernel
theorem dX3_moved_85 : decode cX3_moved 85 = .ok (.iconst 2, 1) := by decide +kernel
theorem dX3_moved_86 : decode cX3_moved 86 = .ok (.goto 5, 3) := by decide +kernel
theorem dX3_moved_89 : decode cX3_moved 89 = .ok (.bipush (-9), 2) := by decide +kernel
theorem dX3_moved_91 : decode cX3_moved 91 = .ok (.ireturn, 1) := by decide +kernel
theorem dX3_given_0 : decode cX3_given 0 = .ok (.aload_n 0, 1) := by decide +kernel
theorem dX3_given_1 : decode cX3_given 1 = .ok (.getfield 10, 3) := by decide +kernel
theorem dX3_given_4 : decode cX3_given 4 = .ok (.iload_n 1, 1) := by decide +kernel
theorem dX3_given_5 : decode cX3_given 5 = .ok (.invokevirtual 76, 3) := by decide +kernel
theorem dX3_given_8 : decode cX3_given 8 = .ok (.ifCond .ne 9, 3) := by decide +kernel
theorem dX3_given_11 : decode cX3_given 11 = .ok (.aload_n 0, 1) := by decide +kernel
theorem dX3_given_12 : decode cX3_given 12 = .ok (.iconst (-1), 1) := by decide +kernel
theorem dX3_given_13 : decode cX3_given 13 = .ok (.invokevirtual 58, 3) := by decide +kernel
theorem dX3_given_16 : decode cX3_given 16 = .ok (.ireturn, 1) := by decide +kernel
theorem dX3_given_17 : decode cX3_given 17 = .ok (.aload_n 0, 1) := by decide +kernel
theorem dX3_given_18 : decode cX3_given 18 = .ok (.getfield 10, 3) := by decide +kernel
theorem dX3_given_21 : decode cX3_given 21 = .ok (.getfield 86, 3) := by decide +kernel
theorem dX3_given_24 : decode cX3_given 24 = .ok (.iload_n 1, 1) := by decide +kernel
theorem dX3_given_25 : decode cX3_given 25 = .ok (.iaload, 1) := by decide +kernel
theorem dX3_given_26 : decode cX3_given 26 = .ok (.bipush (-9), 2) := by decide +kernel
theorem dX3_given_28 : decode cX3_given 28 = .ok (.if_icmp .eq 10, 3) := by decide +kernel
theorem dX3_given_31 : decode cX3_given 31 = .ok (.aload_n 0, 1) := by decide +kernel
theorem dX3_given_32 : decode cX3_given 32 = .ok (.bipush (-3), 2) := by decide +kernel
theorem dX3_given_34 : decode cX3_given 34 = .ok (.invokevirtual 58, 3) := by decide +kernel
theorem dX3_given_37 : decode cX3_given 37 = .ok (.ireturn, 1) := by decide +kernel
theorem dX3_given_38 : decode cX3_given 38 = .ok (.iconst 0, 1) := by decide +kernel
theorem dX3_given_39 : decode cX3_given 39 = .ok (.istore_n 2, 1) := by decide +kernel
theorem dX3_given_40 : decode cX3_given 40 = .ok (.iconst 0, 1) := by decide +kernel
theorem dX3_given_41 : decode cX3_given 41 = .ok (.istore_n 3, 1) := by decide +kernel
theorem dX3_given_42 : decode cX3_given 42 = .ok (.iload_n 3, 1) := by decide +kernel
theorem dX3_given_43 : decode cX3_given 43 = .ok (.aload_n 0, 1) := by decide +kernel
theorem dX3_given_44 : decode cX3_given 44 = .ok (.getfield 10, 3) := by decide +kernel
theorem dX3_given_47 : decode cX3_given 47 = .ok (.getfield 115, 3) := by decide +kernel
theorem dX3_given_50 : decode cX3_given 50 = .ok (.if_icmp .ge 46, 3) := by decide +kernel
theorem dX3_given_53 : decode cX3_given 53 = .ok (.iload_n 3, 1) := by decide +kernel
theorem dX3_given_54 : decode cX3_given 54 = .ok (.iload_n 1, 1) := by decide +kernel
theorem dX3_given_55 : decode cX3_given 55 = .ok (.if_icmp .eq 35, 3) := by decide +kernel
theorem dX3_given_58 : decode cX3_given 58 = .ok (.aload_n 0, 1) := by decide +kernel
theorem dX3_given_59 : decode cX3_given 59 = .ok (.getfield 10, 3) := by decide +kernel
theorem dX3_given_62 : decode cX3_given 62 = .ok (.getfield 86, 3) := by decide +kernel
theorem dX3_given_65 : decode cX3_given 65 = .ok (.iload_n 3, 1) := by decide +kernel
theorem dX3_given_66 : decode cX3_given 66 = .ok (.iaload, 1) := by decide +kernel
theorem dX3_given_67 : decode cX3_given 67 = .ok (.bipush (-9), 2) := by decide +kernel
theorem dX3_given_69 : decode cX3_given 69 = .ok (.if_icmp .ne 21, 3) := by decide +kernel
theorem dX3_given_72 : decode cX3_given 72 = .ok (.aload_n 0, 1) := by decide +kernel
theorem dX3_given_73 : decode cX3_given 73 = .ok (.getfield 10, 3) := by decide +kernel
theorem dX3_given_76 : decode cX3_given 76 = .ok (.iload_n 1, 1) := by decide +kernel
theorem dX3_given_77 : decode cX3_given 77 = .ok (.iload_n 3, 1) := by decide +kernel
theorem dX3_given_78 : decode cX3_given 78 = .ok (.invokevirtual 146, 3) := by decide +kernel
theorem dX3_given_81 : decode cX3_given 81 = .ok (.ifCond .ne 9, 3) := by decide +kernel
theorem dX3_given_84 : decode cX3_given 84 = .ok (.iload_n 2, 1) := by decide +kernel
theorem dX3_given_85 : decode cX3_given 85 = .ok (.iconst 1, 1) := by decide +kernel
theorem dX3_given_86 : decode cX3_given 86 = .ok (.iload_n 3, 1) := by decide +kernel
theorem dX3_given_87 : decode cX3_given 87 = .ok (.ishl, 1) := by decide +kernel
theorem dX3_given_88 : decode cX3_given 88 = .ok (.ior, 1) := by decide +kernel
theorem dX3_given_89 : decode cX3_given 89 = .ok (.istore_n 2, 1) := by decide +kernel
theorem dX3_given_90 : decode cX3_given 90 = .ok (.iinc 3 1, 3) := by decide +kernel
theorem dX3_given_93 : decode cX3_given 93 = .ok (.goto (-51), 3) := by decide +kernel
theorem dX3_given_96 : decode cX3_given 96 = .ok (.iload_n 2, 1) := by decide +kernel
theorem dX3_given_97 : decode cX3_given 97 = .ok (.ireturn, 1) := by decide +kernel
theorem dX3_pairings_0 : decode cX3_pairings 0 = .ok (.iload_n 1, 1) := by decide +kernel
theorem dX3_pairings_1 : decode cX3_pairings 1 = .ok (.ifCond .eq 15, 3) := by decide +kernel
theorem dX3_pairings_4 : decode cX3_pairings 4 = .ok (.iload_n 1, 1) := by decide +kernel
theorem dX3_pairings_5 : decode cX3_pairings 5 = .ok (.iconst 1, 1) := by decide +kernel
theorem dX3_pairings_6 : decode cX3_pairings 6 = .ok (.if_icmp .eq 10, 3) := by decide +kernel
theorem dX3_pairings_9 : decode cX3_pairings 9 = .ok (.aload_n 0, 1) := by decide +kernel
theorem dX3_pairings_10 : decode cX3_pairings 10 = .ok (.bipush (-2), 2) := by decide +kernel
theorem dX3_pairings_12 : decode cX3_pairings 12 = .ok (.invokevirtual 58, 3) := by decide +kernel
theorem dX3_pairings_15 : decode cX3_pairings 15 = .ok (.ireturn, 1) := by decide +kernel
theorem dX3_pairings_16 : decode cX3_pairings 16 = .ok (.aload_n 0, 1) := by decide +kernel
theorem dX3_pairings_17 : decode cX3_pairings 17 = .ok (.getfield 36, 3) := by decide +kernel
theorem dX3_pairings_20 : decode cX3_pairings 20 = .ok (.aload_n 0, 1) := by decide +kernel
theorem dX3_pairings_21 : decode cX3_pairings 21 = .ok (.getfield 10, 3) := by decide +kernel
theorem dX3_pairings_24 : decode cX3_pairings 24 = .ok (.invokevirtual 150, 3) := by decide +kernel
theorem dX3_pairings_27 : decode cX3_pairings 27 = .ok (.aload_n 0, 1) := by decide +kernel
theorem dX3_pairings_28 : decode cX3_pairings 28 = .ok (.getfield 36, 3) := by decide +kernel
theorem dX3_pairings_31 : decode cX3_pairings 31 = .ok (.invokevirtual 153, 3) := by decide +kernel
theorem dX3_pairings_34 : decode cX3_pairings 34 = .ok (.iload_n 1, 1) := by decide +kernel
theorem dX3_pairings_35 : decode cX3_pairings 35 = .ok (.ifCond .ne 11, 3) := by decide +kernel
theorem dX3_pairings_38 : decode cX3_pairings 38 = .ok (.aload_n 0, 1) := by decide +kernel
theorem dX3_pairings_39 : decode cX3_pairings 39 = .ok (.getfield 36, 3) := by decide +kernel
theorem dX3_pairings_42 : decode cX3_pairings 42 = .ok (.invokevirtual 156, 3) := by decide +kernel
theorem dX3_pairings_45 : decode cX3_pairings 45 = .ok (.ireturn, 1) := by decide +kernel
theorem dX3_pairings_46 : decode cX3_pairings 46 = .ok (.aload_n 0, 1) := by decide +kernel
theorem dX3_pairings_47 : decode cX3_pairings 47 = .ok (.getfield 36, 3) := by decide +kernel
theorem dX3_pairings_50 : decode cX3_pairings 50 = .ok (.iconst 0, 1) := by decide +kernel
theorem dX3_pairings_51 : decode cX3_pairings 51 = .ok (.invokevirtual 159, 3) := by decide +kernel
theorem dX3_pairings_54 : decode cX3_pairings 54 = .ok (.invokestatic 162, 3) := by decide +kernel
theorem dX3_pairings_57 : decode cX3_pairings 57 = .ok (.ireturn, 1) := by decide +kernel
theorem dX3_together_0 : decode cX3_together 0 = .ok (.iload_n 1, 1) := by decide +kernel
theorem dX3_together_1 : decode cX3_together 1 = .ok (.aload_n 0, 1) := by decide +kernel
theorem dX3_together_2 : decode cX3_together 2 = .ok (.getfield 10, 3) := by decide +kernel
theorem dX3_together_5 : decode cX3_together 5 = .ok (.invokevirtual 165, 3) := by decide +kernel
theorem dX3_together_8 : decode cX3_together 8 = .ok (.iconst (-1), 1) := by decide +kernel
theorem dX3_together_9 : decode cX3_together 9 = .ok (.ixor, 1) := by decide +kernel
theorem dX3_together_10 : decode cX3_together 10 = .ok (.iand, 1) := by decide +kernel
theorem dX3_together_11 : decode cX3_together 11 = .ok (.ifCond .eq 9, 3) := by decide +kernel
theorem dX3_together_14 : decode cX3_together 14 = .ok (.aload_n 0, 1) := by decide +kernel
theorem dX3_together_15 : decode cX3_together 15 = .ok (.iconst (-1), 1) := by decide +kernel
theorem dX3_together_16 : decode cX3_together 16 = .ok (.invokevirtual 58, 3) := by decide +kernel
theorem dX3_together_19 : decode cX3_together 19 = .ok (.ireturn, 1) := by decide +kernel
theorem dX3_together_20 : decode cX3_together 20 = .ok (.aload_n 0, 1) := by decide +kernel
theorem dX3_together_21 : decode cX3_together 21 = .ok (.getfield 10, 3) := by decide +kernel
theorem dX3_together_24 : decode cX3_together 24 = .ok (.getfield 168, 3) := by decide +kernel
theorem dX3_together_27 : decode cX3_together 27 = .ok (.bipush 8, 2) := by decide +kernel
theorem dX3_together_29 : decode cX3_together 29 = .ok (.if_icmp .lt 10, 3) := by decide +kernel
theorem dX3_together_32 : decode cX3_together 32 = .ok (.aload_n 0, 1) := by decide +kernel
theorem dX3_together_33 : decode cX3_together 33 = .ok (.bipush (-6), 2) := by decide +kernel
theorem dX3_together_35 : decode cX3_together 35 = .ok (.invokevirtual 58, 3) := by decide +kernel
theorem dX3_together_38 : decode cX3_together 38 = .ok (.ireturn, 1) := by decide +kernel
theorem dX3_together_39 : decode cX3_together 39 = .ok (.aload_n 0, 1) := by decide +kernel
theorem dX3_together_40 : decode cX3_together 40 = .ok (.getfield 10, 3) := by decide +kernel
theorem dX3_together_43 : decode cX3_together 43 = .ok (.getfield 171, 3) := by decide +kernel
theorem dX3_together_46 : decode cX3_together 46 = .ok (.aload_n 0, 1) := by decide +kernel
theorem dX3_together_47 : decode cX3_together 47 = .ok (.getfield 10, 3) := by decide +kernel
theorem dX3_together_50 : decode cX3_together 50 = .ok (.getfield 168, 3) := by decide +kernel
theorem dX3_together_53 : decode cX3_together 53 = .ok (.iload_n 1, 1) := by decide +kernel
theorem dX3_together_54 : decode cX3_together 54 = .ok (.iastore, 1) := by decide +kernel
theorem dX3_together_55 : decode cX3_together 55 = .ok (.aload_n 0, 1) := by decide +kernel
theorem dX3_together_56 : decode cX3_together 56 = .ok (.getfield 10, 3) := by decide +kernel
theorem dX3_together_59 : decode cX3_together 59 = .ok (.dup, 1) := by decide +kernel
theorem dX3_together_60 : decode cX3_together 60 = .ok (.getfield 168, 3) := by decide +kernel
theorem dX3_together_63 : decode cX3_together 63 = .ok (.iconst 1, 1) := by decide +kernel
theorem dX3_together_64 : decode cX3_together 64 = .ok (.iadd, 1) := by decide +kernel
theorem dX3_together_65 : decode cX3_together 65 = .ok (.putfield 168, 3) := by decide +kernel
theorem dX3_together_68 : decode cX3_together 68 = .ok (.aload_n 0, 1) := by decide +kernel
theorem dX3_together_69 : decode cX3_together 69 = .ok (.getfield 10, 3) := by decide +kernel
theorem dX3_together_72 : decode cX3_together 72 = .ok (.getfield 168, 3) := by decide +kernel
theorem dX3_together_75 : decode cX3_together 75 = .ok (.ireturn, 1) := by decide +kernel
theorem dX3_may_0 : decode cX3_may 0 = .ok (.aload_n 0, 1) := by decide +kernel
theorem dX3_may_1 : decode cX3_may 1 = .ok (.getfield 10, 3) := by decide +kernel
theorem dX3_may_4 : decode cX3_may 4 = .ok (.iload_n 1, 1) := by decide +kernel
theorem dX3_may_5 : decode cX3_may 5 = .ok (.invokevirtual 76, 3) := by decide +kernel
theorem dX3_may_8 : decode cX3_may 8 = .ok (.ifCond .ne 9, 3) := by decide +kernel
theorem dX3_may_11 : decode cX3_may 11 = .ok (.aload_n 0, 1) := by decide +kernel
theorem dX3_may_12 : decode cX3_may 12 = .ok (.iconst (-1), 1) := by decide +kernel
theorem dX3_may_13 : decode cX3_may 13 = .ok (.invokevirtual 58, 3) := by decide +kernel
theorem dX3_may_16 : decode cX3_may 16 = .ok (.ireturn, 1) := by decide +kernel
theorem dX3_may_17 : decode cX3_may 17 = .ok (.aload_n 0, 1) := by decide +kernel
theorem dX3_may_18 : decode cX3_may 18 = .ok (.getfield 36, 3) := by decide +kernel
theorem dX3_may_21 : decode cX3_may 21 = .ok (.aload_n 0, 1) := by decide +kernel
theorem dX3_may_22 : decode cX3_may 22 = .ok (.getfield 10, 3) := by decide +kernel
theorem dX3_may_25 : decode cX3_may 25 = .ok (.invokevirtual 174, 3) := by decide +kernel
theorem dX3_may_28 : decode cX3_may 28 = .ok (.aload_n 0, 1) := by decide +kernel
theorem dX3_may_29 : decode cX3_may 29 = .ok (.getfield 36, 3) := by decide +kernel
theorem dX3_may_32 : decode cX3_may 32 = .ok (.invokevirtual 153, 3) := by decide +kernel
theorem dX3_may_35 : decode cX3_may 35 = .ok (.aload_n 0, 1) := by decide +kernel
theorem dX3_may_36 : decode cX3_may 36 = .ok (.getfield 36, 3) := by decide +kernel
theorem dX3_may_39 : decode cX3_may 39 = .ok (.iload_n 1, 1) := by decide +kernel
theorem dX3_may_40 : decode cX3_may 40 = .ok (.invokevirtual 159, 3) := by decide +kernel
theorem dX3_may_43 : decode cX3_may 43 = .ok (.ireturn, 1) := by decide +kernel
theorem dX3_ways_0 : decode cX3_ways 0 = .ok (.aload_n 0, 1) := by decide +kernel
theorem dX3_ways_1 : decode cX3_ways 1 = .ok (.getfield 36, 3) := by decide +kernel
theorem dX3_ways_4 : decode cX3_ways 4 = .ok (.aload_n 0, 1) := by decide +kernel
theorem dX3_ways_5 : decode cX3_ways 5 = .ok (.getfield 10, 3) := by decide +kernel
theorem dX3_ways_8 : decode cX3_ways 8 = .ok (.invokevirtual 174, 3) := by decide +kernel
theorem dX3_ways_11 : decode cX3_ways 11 = .ok (.aload_n 0, 1) := by decide +kernel
theorem dX3_ways_12 : decode cX3_ways 12 = .ok (.getfield 36, 3) := by decide +kernel
theorem dX3_ways_15 : decode cX3_ways 15 = .ok (.invokevirtual 153, 3) := by decide +kernel
theorem dX3_ways_18 : decode cX3_ways 18 = .ok (.aload_n 0, 1) := by decide +kernel
theorem dX3_ways_19 : decode cX3_ways 19 = .ok (.getfield 36, 3) := by decide +kernel
theorem dX3_ways_22 : decode cX3_ways 22 = .ok (.invokevirtual 156, 3) := by decide +kernel
theorem dX3_ways_25 : decode cX3_ways 25 = .ok (.ireturn, 1) := by decide +kernel
theorem dX3_feast_0 : decode cX3_feast 0 = .ok (.iload_n 1, 1) := by decide +kernel
theorem dX3_feast_1 : decode cX3_feast 1 = .ok (.invokestatic 105, 3) := by decide +kernel
theorem dX3_feast_4 : decode cX3_feast 4 = .ok (.ifCond .ne 9, 3) := by decide +kernel
theorem dX3_feast_7 : decode cX3_feast 7 = .ok (.aload_n 0, 1) := by decide +kernel
theorem dX3_feast_8 : decode cX3_feast 8 = .ok (.iconst (-1), 1) := by decide +kernel
theorem dX3_feast_9 : decode cX3_feast 9 = .ok (.invokevirtual 58, 3) := by decide +kernel
theorem dX3_feast_12 : decode cX3_feast 12 = .ok (.ireturn, 1) := by decide +kernel
theorem dX3_feast_13 : decode cX3_feast 13 = .ok (.iload_n 2, 1) := by decide +kernel
theorem dX3_feast_14 : decode cX3_feast 14 = .ok (.ifCond .eq 15, 3) := by decide +kernel
theorem dX3_feast_17 : decode cX3_feast 17 = .ok (.iload_n 2, 1) := by decide +kernel
theorem dX3_feast_18 : decode cX3_feast 18 = .ok (.iconst 1, 1) := by decide +kernel
theorem dX3_feast_19 : decode cX3_feast 19 = .ok (.if_icmp .eq 10, 3) := by decide +kernel
theorem dX3_feast_22 : decode cX3_feast 22 = .ok (.aload_n 0, 1) := by decide +kernel
theorem dX3_feast_23 : decode cX3_feast 23 = .ok (.bipush (-2), 2) := by decide +kernel
theorem dX3_feast_25 : decode cX3_feast 25 = .ok (.invokevirtual 58, 3) := by decide +kernel
theorem dX3_feast_28 : decode cX3_feast 28 = .ok (.ireturn, 1) := by decide +kernel
theorem dX3_feast_29 : decode cX3_feast 29 = .ok (.aload_n 0, 1) := by decide +kernel
theorem dX3_feast_30 : decode cX3_feast 30 = .ok (.getfield 10, 3) := by decide +kernel
theorem dX3_feast_33 : decode cX3_feast 33 = .ok (.getfield 115, 3) := by decide +kernel
theorem dX3_feast_36 : decode cX3_feast 36 = .ok (.bipush 7, 2) := by decide +kernel
theorem dX3_feast_38 : decode cX3_feast 38 = .ok (.if_icmp .le 10, 3) := by decide +kernel
theorem dX3_feast_41 : decode cX3_feast 41 = .ok (.aload_n 0, 1) := by decide +kernel
theorem dX3_feast_42 : decode cX3_feast 42 = .ok (.bipush (-3), 2) := by decide +kernel
theorem dX3_feast_44 : decode cX3_feast 44 = .ok (.invokevirtual 58, 3) := by decide +kernel
theorem dX3_feast_47 : decode cX3_feast 47 = .ok (.ireturn, 1) := by decide +kernel
theorem dX3_feast_48 : decode cX3_feast 48 = .ok (.aload_n 0, 1) := by decide +kernel
theorem dX3_feast_49 : decode cX3_feast 49 = .ok (.getfield 16, 3) := by decide +kernel
theorem dX3_feast_52 : decode cX3_feast 52 = .ok (.aload_n 0, 1) := by decide +kernel
theorem dX3_feast_53 : decode cX3_feast 53 = .ok (.getfield 10, 3) := by decide +kernel
theorem dX3_feast_56 : decode cX3_feast 56 = .ok (.invokevirtual 68, 3) := by decide +kernel
theorem dX3_feast_59 : decode cX3_feast 59 = .ok (.aload_n 0, 1) := by decide +kernel
theorem dX3_feast_60 : decode cX3_feast 60 = .ok (.getfield 10, 3) := by decide +kernel
theorem dX3_feast_63 : decode cX3_feast 63 = .ok (.invokevirtual 165, 3) := by decide +kernel
theorem dX3_feast_66 : decode cX3_feast 66 = .ok (.istore_n 3, 1) := by decide +kernel
theorem dX3_feast_67 : decode cX3_feast 67 = .ok (.iload_n 3, 1) := by decide +kernel
theorem dX3_feast_68 : decode cX3_feast 68 = .ok (.ifCond .lt 21, 3) := by decide +kernel
theorem dX3_feast_71 : decode cX3_feast 71 = .ok (.aload_n 0, 1) := by decide +kernel
theorem dX3_feast_72 : decode cX3_feast 72 = .ok (.getfield 40, 3) := by decide +kernel
theorem dX3_feast_75 : decode cX3_feast 75 = .ok (.iload_n 3, 1) := by decide +kernel
theorem dX3_feast_76 : decode cX3_feast 76 = .ok (.aload_n 0, 1) := by decide +kernel
theorem dX3_feast_77 : decode cX3_feast 77 = .ok (.iload_n 3, 1) := by decide +kernel
theorem dX3_feast_78 : decode cX3_feast 78 = .ok (.iload_n 1, 1) := by decide +kernel
theorem dX3_feast_79 : decode cX3_feast 79 = .ok (.invokevirtual 177, 3) := by decide +kernel
theorem dX3_feast_82 : decode cX3_feast 82 = .ok (.iastore, 1) := by decide +kernel
theorem dX3_feast_83 : decode cX3_feast 83 = .ok (.iinc 3 (-1), 3) := by decide +kernel
theorem dX3_feast_86 : decode cX3_feast 86 = .ok (.goto (-19), 3) := by decide +kernel
theorem dX3_feast_89 : decode cX3_feast 89 = .ok (.iload_n 2, 1) := by decide +kernel
theorem dX3_feast_90 : decode cX3_feast 90 = .ok (.ifCond .ne 12, 3) := by decide +kernel
theorem dX3_feast_93 : decode cX3_feast 93 = .ok (.aload_n 0, 1) := by decide +kernel
theorem dX3_feast_94 : decode cX3_feast 94 = .ok (.getfield 40, 3) := by decide +kernel
theorem dX3_feast_97 : decode cX3_feast 97 = .ok (.iconst 0, 1) := by decide +kernel
theorem dX3_feast_98 : decode cX3_feast 98 = .ok (.iaload, 1) := by decide +kernel
theorem dX3_feast_99 : decode cX3_feast 99 = .ok (.goto 7, 3) := by decide +kernel
theorem dX3_feast_102 : decode cX3_feast 102 = .ok (.aload_n 0, 1) := by decide +kernel
theorem dX3_feast_103 : decode cX3_feast 103 = .ok (.invokevirtual 180, 3) := by decide +kernel
theorem dX3_feast_106 : decode cX3_feast 106 = .ok (.ireturn, 1) := by decide +kernel
theorem dX3_clean_0 : decode cX3_clean 0 = .ok (.aload_n 0, 1) := by decide +kernel
theorem dX3_clean_1 : decode cX3_clean 1 = .ok (.getfield 10, 3) := by decide +kernel
theorem dX3_clean_4 : decode cX3_clean 4 = .ok (.iload_n 1, 1) := by decide +kernel
theorem dX3_clean_5 : decode cX3_clean 5 = .ok (.invokevirtual 76, 3) := by decide +kernel
theorem dX3_clean_8 : decode cX3_clean 8 = .ok (.ifCond .ne 9, 3) := by decide +kernel
theorem dX3_clean_11 : decode cX3_clean 11 = .ok (.aload_n 0, 1) := by decide +kernel
theorem dX3_clean_12 : decode cX3_clean 12 = .ok (.iconst (-1), 1) := by decide +kernel
theorem dX3_clean_13 : decode cX3_clean 13 = .ok (.invokevirtual 58, 3) := by decide +kernel
theorem dX3_clean_16 : decode cX3_clean 16 = .ok (.ireturn, 1) := by decide +kernel
theorem dX3_clean_17 : decode cX3_clean 17 = .ok (.aload_n 0, 1) := by decide +kernel
theorem dX3_clean_18 : decode cX3_clean 18 = .ok (.getfield 16, 3) := by decide +kernel
theorem dX3_clean_21 : decode cX3_clean 21 = .ok (.aload_n 0, 1) := by decide +kernel
theorem dX3_clean_22 : decode cX3_clean 22 = .ok (.getfield 10, 3) := by decide +kernel
theorem dX3_clean_25 : decode cX3_clean 25 = .ok (.invokevirtual 68, 3) := by decide +kernel
theorem dX3_clean_28 : decode cX3_clean 28 = .ok (.iconst 0, 1) := by decide +kernel
theorem dX3_clean_29 : decode cX3_clean 29 = .ok (.istore_n 2, 1) := by decide +kernel
theorem dX3_clean_30 : decode cX3_clean 30 = .ok (.iconst 0, 1) := by decide +kernel
theorem dX3_clean_31 : decode cX3_clean 31 = .ok (.istore_n 3, 1) := by decide +kernel
theorem dX3_clean_32 : decode cX3_clean 32 = .ok (.iload_n 3, 1) := by decide +kernel
theorem dX3_clean_33 : decode cX3_clean 33 = .ok (.bipush 6, 2) := by decide +kernel
theorem dX3_clean_35 : decode cX3_clean 35 = .ok (.if_icmp .ge 37, 3) := by decide +kernel
theorem dX3_clean_38 : decode cX3_clean 38 = .ok (.aload_n 0, 1) := by decide +kernel
theorem dX3_clean_39 : decode cX3_clean 39 = .ok (.getfield 16, 3) := by decide +kernel
theorem dX3_clean_42 : decode cX3_clean 42 = .ok (.getfield 83, 3) := by decide +kernel
theorem dX3_clean_45 : decode cX3_clean 45 = .ok (.iload_n 1, 1) := by decide +kernel
theorem dX3_clean_46 : decode cX3_clean 46 = .ok (.iload_n 3, 1) := by decide +kernel
theorem dX3_clean_47 : decode cX3_clean 47 = .ok (.iastore, 1) := by decide +kernel
theorem dX3_clean_48 : decode cX3_clean 48 = .ok (.aload_n 0, 1) := by decide +kernel
theorem dX3_clean_49 : decode cX3_clean 49 = .ok (.getfield 16, 3) := by decide +kernel
theorem dX3_clean_52 : decode cX3_clean 52 = .ok (.invokevirtual 127, 3) := by decide +kernel
theorem dX3_clean_55 : decode cX3_clean 55 = .ok (.bipush (-9), 2) := by decide +kernel
theorem dX3_clean_57 : decode cX3_clean 57 = .ok (.if_icmp .ne 9, 3) := by decide +kernel
theorem dX3_clean_60 : decode cX3_clean 60 = .ok (.iload_n 2, 1) := by decide +kernel
theorem dX3_clean_61 : decode cX3_clean 61 = .ok (.iconst 1, 1) := by decide +kernel
theorem dX3_clean_62 : decode cX3_clean 62 = .ok (.iload_n 3, 1) := by decide +kernel
theorem dX3_clean_63 : decode cX3_clean 63 = .ok (.ishl, 1) := by decide +kernel
theorem dX3_clean_64 : decode cX3_clean 64 = .ok (.ior, 1) := by decide +kernel
theorem dX3_clean_65 : decode cX3_clean 65 = .ok (.istore_n 2, 1) := by decide +kernel
theorem dX3_clean_66 : decode cX3_clean 66 = .ok (.iinc 3 1, 3) := by decide +kernel
theorem dX3_clean_69 : decode cX3_clean 69 = .ok (.goto (-37), 3) := by decide +kernel
theorem dX3_clean_72 : decode cX3_clean 72 = .ok (.iload_n 2, 1) := by decide +kernel
theorem dX3_clean_73 : decode cX3_clean 73 = .ok (.ireturn, 1) := by decide +kernel
theorem dX3_row_0 : decode cX3_row 0 = .ok (.iload_n 1, 1) := by decide +kernel
theorem dX3_row_1 : decode cX3_row 1 = .ok (.iconst 0, 1) := by decide +kernel
theorem dX3_row_2 : decode cX3_row 2 = .ok (.bipush 99, 2) := by decide +kernel
theorem dX3_row_4 : decode cX3_row 4 = .ok (.invokestatic 54, 3) := by decide +kernel
theorem dX3_row_7 : decode cX3_row 7 = .ok (.istore_n 2, 1) := by decide +kernel
theorem dX3_row_8 : decode cX3_row 8 = .ok (.iload_n 2, 1) := by decide +kernel
theorem dX3_row_9 : decode cX3_row 9 = .ok (.ifCond .eq 9, 3) := by decide +kernel
theorem dX3_row_12 : decode cX3_row 12 = .ok (.aload_n 0, 1) := by decide +kernel
theorem dX3_row_13 : decode cX3_row 13 = .ok (.iload_n 2, 1) := by decide +kernel
theorem dX3_row_14 : decode cX3_row 14 = .ok (.invokevirtual 58, 3) := by decide +kernel
theorem dX3_row_17 : decode cX3_row 17 = .ok (.ireturn, 1) := by decide +kernel
theorem dX3_row_18 : decode cX3_row 18 = .ok (.aload_n 0, 1) := by decide +kernel
theorem dX3_row_19 : decode cX3_row 19 = .ok (.getfield 47, 3) := by decide +kernel
theorem dX3_row_22 : decode cX3_row 22 = .ok (.bipush 12, 2) := by decide +kernel
theorem dX3_row_24 : decode cX3_row 24 = .ok (.if_icmp .lt 10, 3) := by decide +kernel
theorem dX3_row_27 : decode cX3_row 27 = .ok (.aload_n 0, 1) := by decide +kernel
theorem dX3_row_28 : decode cX3_row 28 = .ok (.bipush (-6), 2) := by decide +kernel
theorem dX3_row_30 : decode cX3_row 30 = .ok (.invokevirtual 58, 3) := by decide +kernel
theorem dX3_row_33 : decode cX3_row 33 = .ok (.ireturn, 1) := by decide +kernel
theorem dX3_row_34 : decode cX3_row 34 = .ok (.aload_n 0, 1) := by decide +kernel
theorem dX3_row_35 : decode cX3_row 35 = .ok (.getfield 44, 3) := by decide +kernel
theorem dX3_row_38 : decode cX3_row 38 = .ok (.aload_n 0, 1) := by decide +kernel
theorem dX3_row_39 : decode cX3_row 39 = .ok (.getfield 47, 3) := by decide +kernel
theorem dX3_row_42 : decode cX3_row 42 = .ok (.iload_n 1, 1) := by decide +kernel
theorem dX3_row_43 : decode cX3_row 43 = .ok (.iastore, 1) := by decide +kernel
theorem dX3_row_44 : decode cX3_row 44 = .ok (.aload_n 0, 1) := by decide +kernel
theorem dX3_row_45 : decode cX3_row 45 = .ok (.dup, 1) := by decide +kernel
theorem dX3_row_46 : decode cX3_row 46 = .ok (.getfield 47, 3) := by decide +kernel
theorem dX3_row_49 : decode cX3_row 49 = .ok (.iconst 1, 1) := by decide +kernel
theorem dX3_row_50 : decode cX3_row 50 = .ok (.iadd, 1) := by decide +kernel
theorem dX3_row_51 : decode cX3_row 51 = .ok (.putfield 47, 3) := by decide +kernel
theorem dX3_row_54 : decode cX3_row 54 = .ok (.aload_n 0, 1) := by decide +kernel
theorem dX3_row_55 : decode cX3_row 55 = .ok (.getfield 47, 3) := by decide +kernel
theorem dX3_row_58 : decode cX3_row 58 = .ok (.ireturn, 1) := by decide +kernel
theorem dX3_judge_0 : decode cX3_judge 0 = .ok (.aload_n 0, 1) := by decide +kernel
theorem dX3_judge_1 : decode cX3_judge 1 = .ok (.invokevirtual 183, 3) := by decide +kernel
theorem dX3_judge_4 : decode cX3_judge 4 = .ok (.istore_n 1, 1) := by decide +kernel
theorem dX3_judge_5 : decode cX3_judge 5 = .ok (.aload_n 0, 1) := by decide +kernel
theorem dX3_judge_6 : decode cX3_judge 6 = .ok (.iconst 0, 1) := by decide +kernel
theorem dX3_judge_7 : decode cX3_judge 7 = .ok (.putfield 47, 3) := by decide +kernel
theorem dX3_judge_10 : decode cX3_judge 10 = .ok (.iload_n 1, 1) := by decide +kernel
theorem dX3_judge_11 : decode cX3_judge 11 = .ok (.ireturn, 1) := by decide +kernel
theorem dX3_seeds_0 : decode cX3_seeds 0 = .ok (.iload_n 1, 1) := by decide +kernel
theorem dX3_seeds_1 : decode cX3_seeds 1 = .ok (.iconst 1, 1) := by decide +kernel
theorem dX3_seeds_2 : decode cX3_seeds 2 = .ok (.bipush 30, 2) := by decide +kernel
theorem dX3_seeds_4 : decode cX3_seeds 4 = .ok (.invokestatic 54, 3) := by decide +kernel
theorem dX3_seeds_7 : decode cX3_seeds 7 = .ok (.istore_n 3, 1) := by decide +kernel
theorem dX3_seeds_8 : decode cX3_seeds 8 = .ok (.iload_n 3, 1) := by decide +kernel
theorem dX3_seeds_9 : decode cX3_seeds 9 = .ok (.ifCond .eq 9, 3) := by decide +kernel
theorem dX3_seeds_12 : decode cX3_seeds 12 = .ok (.aload_n 0, 1) := by decide +kernel
theorem dX3_seeds_13 : decode cX3_seeds 13 = .ok (.iload_n 3, 1) := by decide +kernel
theorem dX3_seeds_14 : decode cX3_seeds 14 = .ok (.invokevirtual 58, 3) := by decide +kernel
theorem dX3_seeds_17 : decode cX3_seeds 17 = .ok (.ireturn, 1) := by decide +kernel
theorem dX3_seeds_18 : decode cX3_seeds 18 = .ok (.aload_n 0, 1) := by decide +kernel
theorem dX3_seeds_19 : decode cX3_seeds 19 = .ok (.getfield 10, 3) := by decide +kernel
theorem dX3_seeds_22 : decode cX3_seeds 22 = .ok (.getfield 115, 3) := by decide +kernel
theorem dX3_seeds_25 : decode cX3_seeds 25 = .ok (.ifCond .ne 10, 3) := by decide +kernel
theorem dX3_seeds_28 : decode cX3_seeds 28 = .ok (.aload_n 0, 1) := by decide +kernel
theorem dX3_seeds_29 : decode cX3_seeds 29 = .ok (.bipush (-3), 2) := by decide +kernel
theorem dX3_seeds_31 : decode cX3_seeds 31 = .ok (.invokevirtual 58, 3) := by decide +kernel
theorem dX3_seeds_34 : decode cX3_seeds 34 = .ok (.ireturn, 1) := by decide +kernel
theorem dX3_seeds_35 : decode cX3_seeds 35 = .ok (.aload_n 0, 1) := by decide +kernel
theorem dX3_seeds_36 : decode cX3_seeds 36 = .ok (.getfield 16, 3) := by decide +kernel
theorem dX3_seeds_39 : decode cX3_seeds 39 = .ok (.aload_n 0, 1) := by decide +kernel
theorem dX3_seeds_40 : decode cX3_seeds 40 = .ok (.getfield 10, 3) := by decide +kernel
theorem dX3_seeds_43 : decode cX3_seeds 43 = .ok (.invokevirtual 68, 3) := by decide +kernel
theorem dX3_seeds_46 : decode cX3_seeds 46 = .ok (.iconst 0, 1) := by decide +kernel
theorem dX3_seeds_47 : decode cX3_seeds 47 = .ok (.istore 4, 2) := by decide +kernel
theorem dX3_seeds_49 : decode cX3_seeds 49 = .ok (.iload_n 2, 1) := by decide +kernel
theorem dX3_seeds_50 : decode cX3_seeds 50 = .ok (.istore 5, 2) := by decide +kernel
theorem dX3_seeds_52 : decode cX3_seeds 52 = .ok (.iconst 0, 1) := by decide +kernel
theorem dX3_seeds_53 : decode cX3_seeds 53 = .ok (.istore 6, 2) := by decide +kernel
theorem dX3_seeds_55 : decode cX3_seeds 55 = .ok (.iload 6, 2) := by decide +kernel
theorem dX3_seeds_57 : decode cX3_seeds 57 = .ok (.iload_n 1, 1) := by decide +kernel
theorem dX3_seeds_58 : decode cX3_seeds 58 = .ok (.if_icmp .ge 76, 3) := by decide +kernel
theorem dX3_seeds_61 : decode cX3_seeds 61 = .ok (.iload 5, 2) := by decide +kernel
theorem dX3_seeds_63 : decode cX3_seeds 63 = .ok (.invokestatic 186, 3) := by decide +kernel
theorem dX3_seeds_66 : decode cX3_seeds 66 = .ok (.istore 5, 2) := by decide +kernel
theorem dX3_seeds_68 : decode cX3_seeds 68 = .ok (.iload 5, 2) := by decide +kernel
theorem dX3_seeds_70 : decode cX3_seeds 70 = .ok (.aload_n 0, 1) := by decide +kernel
theorem dX3_seeds_71 : decode cX3_seeds 71 = .ok (.getfield 10, 3) := by decide +kernel
theorem dX3_seeds_74 : decode cX3_seeds 74 = .ok (.getfield 115, 3) := by decide +kernel
theorem dX3_seeds_77 : decode cX3_seeds 77 = .ok (.invokestatic 189, 3) := by decide +kernel
theorem dX3_seeds_80 : decode cX3_seeds 80 = .ok (.istore 7, 2) := by decide +kernel
theorem dX3_seeds_82 : decode cX3_seeds 82 = .ok (.iload 5, 2) := by decide +kernel
theorem dX3_seeds_84 : decode cX3_seeds 84 = .ok (.invokestatic 186, 3) := by decide +kernel
theorem dX3_seeds_87 : decode cX3_seeds 87 = .ok (.istore 5, 2) := by decide +kernel
theorem dX3_seeds_89 : decode cX3_seeds 89 = .ok (.aload_n 0, 1) := by decide +kernel
theorem dX3_seeds_90 : decode cX3_seeds 90 = .ok (.getfield 16, 3) := by decide +kernel
theorem dX3_seeds_93 : decode cX3_seeds 93 = .ok (.getfield 83, 3) := by decide +kernel
theorem dX3_seeds_96 : decode cX3_seeds 96 = .ok (.iload 7, 2) := by decide +kernel
theorem dX3_seeds_98 : decode cX3_seeds 98 = .ok (.iload 5, 2) := by decide +kernel
theorem dX3_seeds_100 : decode cX3_seeds 100 = .ok (.bipush 6, 2) := by decide +kernel
theorem dX3_seeds_102 : decode cX3_seeds 102 = .ok (.invokestatic 189, 3) := by decide +kernel
theorem dX3_seeds_105 : decode cX3_seeds 105 = .ok (.iastore, 1) := by decide +kernel
theorem dX3_seeds_106 : decode cX3_seeds 106 = .ok (.aload_n 0, 1) := by decide +kernel
theorem dX3_seeds_107 : decode cX3_seeds 107 = .ok (.getfield 16, 3) := by decide +kernel
theorem dX3_seeds_110 : decode cX3_seeds 110 = .ok (.aload_n 0, 1) := by decide +kernel
theorem dX3_seeds_111 : decode cX3_seeds 111 = .ok (.getfield 10, 3) := by decide +kernel
theorem dX3_seeds_114 : decode cX3_seeds 114 = .ok (.getfield 112, 3) := by decide +kernel
theorem dX3_seeds_117 : decode cX3_seeds 117 = .ok (.invokevirtual 124, 3) := by decide +kernel
theorem dX3_seeds_120 : decode cX3_seeds 120 = .ok (.bipush (-9), 2) := by decide +kernel
theorem dX3_seeds_122 : decode cX3_seeds 122 = .ok (.if_icmp .eq 6, 3) := by decide +kernel
theorem dX3_seeds_125 : decode cX3_seeds 125 = .ok (.iinc 4 1, 3) := by decide +kernel
theorem dX3_seeds_128 : decode cX3_seeds 128 = .ok (.iinc 6 1, 3) := by decide +kernel
theorem dX3_seeds_131 : decode cX3_seeds 131 = .ok (.goto (-76), 3) := by decide +kernel
theorem dX3_seeds_134 : decode cX3_seeds 134 = .ok (.iload 4, 2) := by decide +kernel
theorem dX3_seeds_136 : decode cX3_seeds 136 = .ok (.ireturn, 1) := by decide +kernel
theorem dX3_image_0 : decode cX3_image 0 = .ok (.aload_n 0, 1) := by decide +kernel
theorem dX3_image_1 : decode cX3_image 1 = .ok (.getfield 19, 3) := by decide +kernel
theorem dX3_image_4 : decode cX3_image 4 = .ok (.aload_n 0, 1) := by decide +kernel
theorem dX3_image_5 : decode cX3_image 5 = .ok (.getfield 10, 3) := by decide +kernel
theorem dX3_image_8 : decode cX3_image 8 = .ok (.invokevirtual 68, 3) := by decide +kernel
theorem dX3_image_11 : decode cX3_image 11 = .ok (.aload_n 0, 1) := by decide +kernel
theorem dX3_image_12 : decode cX3_image 12 = .ok (.iconst 1, 1) := by decide +kernel
theorem dX3_image_13 : decode cX3_image 13 = .ok (.putfield 22, 3) := by decide +kernel
theorem dX3_image_16 : decode cX3_image 16 = .ok (.aload_n 0, 1) := by decide +kernel
theorem dX3_image_17 : decode cX3_image 17 = .ok (.getfield 10, 3) := by decide +kernel
theorem dX3_image_20 : decode cX3_image 20 = .ok (.getfield 115, 3) := by decide +kernel
theorem dX3_image_23 : decode cX3_image 23 = .ok (.ireturn, 1) := by decide +kernel
theorem dX3_on_0 : decode cX3_on 0 = .ok (.aload_n 0, 1) := by decide +kernel
theorem dX3_on_1 : decode cX3_on 1 = .ok (.getfield 22, 3) := by decide +kernel
theorem dX3_on_4 : decode cX3_on 4 = .ok (.ifCond .ne 10, 3) := by decide +kernel
theorem dX3_on_7 : decode cX3_on 7 = .ok (.aload_n 0, 1) := by decide +kernel
theorem dX3_on_8 : decode cX3_on 8 = .ok (.bipush (-3), 2) := by decide +kernel
theorem dX3_on_10 : decode cX3_on 10 = .ok (.invokevirtual 58, 3) := by decide +kernel
theorem dX3_on_13 : decode cX3_on 13 = .ok (.ireturn, 1) := by decide +kernel
theorem dX3_on_14 : decode cX3_on 14 = .ok (.aload_n 0, 1) := by decide +kernel
theorem dX3_on_15 : decode cX3_on 15 = .ok (.getfield 10, 3) := by decide +kernel
theorem dX3_on_18 : decode cX3_on 18 = .ok (.aload_n 0, 1) := by decide +kernel
theorem dX3_on_19 : decode cX3_on 19 = .ok (.getfield 19, 3) := by decide +kernel
theorem dX3_on_22 : decode cX3_on 22 = .ok (.invokevirtual 68, 3) := by decide +kernel
theorem dX3_on_25 : decode cX3_on 25 = .ok (.aload_n 0, 1) := by decide +kernel
theorem dX3_on_26 : decode cX3_on 26 = .ok (.getfield 10, 3) := by decide +kernel
theorem dX3_on_29 : decode cX3_on 29 = .ok (.getfield 115, 3) := by decide +kernel
theorem dX3_on_32 : decode cX3_on 32 = .ok (.ireturn, 1) := by decide +kernel
theorem dX3_count_0 : decode cX3_count 0 = .ok (.iload_n 1, 1) := by decide +kernel
theorem dX3_count_1 : decode cX3_count 1 = .ok (.tableswitch 111 0 7 #[47, 55, 63, 71, 82, 90, 98, 103], 47) := by decide +kernel
theorem dX3_count_48 : decode cX3_count 48 = .ok (.aload_n 0, 1) := by decide +kernel
theorem dX3_count_49 : decode cX3_count 49 = .ok (.getfield 10, 3) := by decide +kernel
theorem dX3_count_52 : decode cX3_count 52 = .ok (.getfield 115, 3) := by decide +kernel
theorem dX3_count_55 : decode cX3_count 55 = .ok (.ireturn, 1) := by decide +kernel
theorem dX3_count_56 : decode cX3_count 56 = .ok (.aload_n 0, 1) := by decide +kernel
theorem dX3_count_57 : decode cX3_count 57 = .ok (.getfield 10, 3) := by decide +kernel
theorem dX3_count_60 : decode cX3_count 60 = .ok (.getfield 131, 3) := by decide +kernel
theorem dX3_count_63 : decode cX3_count 63 = .ok (.ireturn, 1) := by decide +kernel
theorem dX3_count_64 : decode cX3_count 64 = .ok (.aload_n 0, 1) := by decide +kernel
theorem dX3_count_65 : decode cX3_count 65 = .ok (.getfield 10, 3) := by decide +kernel
theorem dX3_count_68 : decode cX3_count 68 = .ok (.getfield 112, 3) := by decide +kernel
theorem dX3_count_71 : decode cX3_count 71 = .ok (.ireturn, 1) := by decide +kernel
theorem dX3_count_72 : decode cX3_count 72 = .ok (.aload_n 0, 1) := by decide +kernel
theorem dX3_count_73 : decode cX3_count 73 = .ok (.getfield 10, 3) := by decide +kernel
theorem dX3_count_76 : decode cX3_count 76 = .ok (.getfield 98, 3) := by decide +kernel
theorem dX3_count_79 : decode cX3_count 79 = .ok (.invokestatic 134, 3) := by decide +kernel
theorem dX3_count_82 : decode cX3_count 82 = .ok (.ireturn, 1) := by decide +kernel
theorem dX3_count_83 : decode cX3_count 83 = .ok (.aload_n 0, 1) := by decide +kernel
theorem dX3_count_84 : decode cX3_count 84 = .ok (.getfield 10, 3) := by decide +kernel
theorem dX3_count_87 : decode cX3_count 87 = .ok (.invokevirtual 192, 3) := by decide +kernel
theorem dX3_count_90 : decode cX3_count 90 = .ok (.ireturn, 1) := by decide +kernel
theorem dX3_count_91 : decode cX3_count 91 = .ok (.aload_n 0, 1) := by decide +kernel
theorem dX3_count_92 : decode cX3_count 92 = .ok (.getfield 10, 3) := by decide +kernel
theorem dX3_count_95 : decode cX3_count 95 = .ok (.getfield 168, 3) := by decide +kernel
theorem dX3_count_98 : decode cX3_count 98 = .ok (.ireturn, 1) := by decide +kernel
theorem dX3_count_99 : decode cX3_count 99 = .ok (.aload_n 0, 1) := by decide +kernel
theorem dX3_count_100 : decode cX3_count 100 = .ok (.getfield 47, 3) := by decide +kernel
theorem dX3_count_103 : decode cX3_count 103 = .ok (.ireturn, 1) := by decide +kernel
theorem dX3_count_104 : decode cX3_count 104 = .ok (.aload_n 0, 1) := by decide +kernel
theorem dX3_count_105 : decode cX3_count 105 = .ok (.getfield 29, 3) := by decide +kernel
theorem dX3_count_108 : decode cX3_count 108 = .ok (.getfield 62, 3) := by decide +kernel
theorem dX3_count_111 : decode cX3_count 111 = .ok (.ireturn, 1) := by decide +kernel
theorem dX3_count_112 : decode cX3_count 112 = .ok (.iload_n 1, 1) := by decide +kernel
theorem dX3_count_113 : decode cX3_count 113 = .ok (.bipush 11, 2) := by decide +kernel
theorem dX3_count_115 : decode cX3_count 115 = .ok (.if_icmp .lt 21, 3) := by decide +kernel
theorem dX3_count_118 : decode cX3_count 118 = .ok (.iload_n 1, 1) := by decide +kernel
theorem dX3_count_119 : decode cX3_count 119 = .ok (.bipush 16, 2) := by decide +kernel
theorem dX3_count_121 : decode cX3_count 121 = .ok (.if_icmp .gt 15, 3) := by decide +kernel
theorem dX3_count_124 : decode cX3_count 124 = .ok (.aload_n 0, 1) := by decide +kernel
theorem dX3_count_125 : decode cX3_count 125 = .ok (.getfield 51, 3) := by decide +kernel
theorem dX3_count_128 : decode cX3_count 128 = .ok (.iload_n 1, 1) := by decide +kernel
theorem dX3_count_129 : decode cX3_count 129 = .ok (.bipush 10, 2) := by decide +kernel
theorem dX3_count_131 : decode cX3_count 131 = .ok (.isub, 1) := by decide +kernel
theorem dX3_count_132 : decode cX3_count 132 = .ok (.iaload, 1) := by decide +kernel
theorem dX3_count_133 : decode cX3_count 133 = .ok (.goto 5, 3) := by decide +kernel
theorem dX3_count_136 : decode cX3_count 136 = .ok (.bipush (-9), 2) := by decide +kernel
theorem dX3_count_138 : decode cX3_count 138 = .ok (.ireturn, 1) := by decide +kernel
theorem dX3_refuse_0 : decode cX3_refuse 0 = .ok (.aload_n 0, 1) := by decide +kernel
theorem dX3_refuse_1 : decode cX3_refuse 1 = .ok (.getfield 51, 3) := by decide +kernel
theorem dX3_refuse_4 : decode cX3_refuse 4 = .ok (.iload_n 1, 1) := by decide +kernel
theorem dX3_refuse_5 : decode cX3_refuse 5 = .ok (.ineg, 1) := by decide +kernel
theorem dX3_refuse_6 : decode cX3_refuse 6 = .ok (.dup2, 1) := by decide +kernel
theorem dX3_refuse_7 : decode cX3_refuse 7 = .ok (.iaload, 1) := by decide +kernel
theorem dX3_refuse_8 : decode cX3_refuse 8 = .ok (.iconst 1, 1) := by decide +kernel
theorem dX3_refuse_9 : decode cX3_refuse 9 = .ok (.iadd, 1) := by decide +kernel
theorem dX3_refuse_10 : decode cX3_refuse 10 = .ok (.iastore, 1) := by decide +kernel
theorem dX3_refuse_11 : decode cX3_refuse 11 = .ok (.iload_n 1, 1) := by decide +kernel
theorem dX3_refuse_12 : decode cX3_refuse 12 = .ok (.ireturn, 1) := by decide +kernel
theorem dX3_outOf_0 : decode cX3_outOf 0 = .ok (.iload_n 0, 1) := by decide +kernel
theorem dX3_outOf_1 : decode cX3_outOf 1 = .ok (.iload_n 1, 1) := by decide +kernel
theorem dX3_outOf_2 : decode cX3_outOf 2 = .ok (.if_icmp .ge 6, 3) := by decide +kernel
theorem dX3_outOf_5 : decode cX3_outOf 5 = .ok (.bipush (-4), 2) := by decide +kernel
theorem dX3_outOf_7 : decode cX3_outOf 7 = .ok (.ireturn, 1) := by decide +kernel
theorem dX3_outOf_8 : decode cX3_outOf 8 = .ok (.iload_n 0, 1) := by decide +kernel
theorem dX3_outOf_9 : decode cX3_outOf 9 = .ok (.iload_n 2, 1) := by decide +kernel
theorem dX3_outOf_10 : decode cX3_outOf 10 = .ok (.if_icmp .le 8, 3) := by decide +kernel
theorem dX3_outOf_13 : decode cX3_outOf 13 = .ok (.bipush (-6), 2) := by decide +kernel
theorem dX3_outOf_15 : decode cX3_outOf 15 = .ok (.goto 4, 3) := by decide +kernel
theorem dX3_outOf_18 : decode cX3_outOf 18 = .ok (.iconst 0, 1) := by decide +kernel
theorem dX3_outOf_19 : decode cX3_outOf 19 = .ok (.ireturn, 1) := by decide +kernel
theorem dX3_isRoom_0 : decode cX3_isRoom 0 = .ok (.iload_n 0, 1) := by decide +kernel
theorem dX3_isRoom_1 : decode cX3_isRoom 1 = .ok (.ifCond .lt 13, 3) := by decide +kernel
theorem dX3_isRoom_4 : decode cX3_isRoom 4 = .ok (.iload_n 0, 1) := by decide +kernel
theorem dX3_isRoom_5 : decode cX3_isRoom 5 = .ok (.bipush 6, 2) := by decide +kernel
theorem dX3_isRoom_7 : decode cX3_isRoom 7 = .ok (.if_icmp .ge 7, 3) := by decide +kernel
theorem dX3_isRoom_10 : decode cX3_isRoom 10 = .ok (.iconst 1, 1) := by decide +kernel
theorem dX3_isRoom_11 : decode cX3_isRoom 11 = .ok (.goto 4, 3) := by decide +kernel
theorem dX3_isRoom_14 : decode cX3_isRoom 14 = .ok (.iconst 0, 1) := by decide +kernel
theorem dX3_isRoom_15 : decode cX3_isRoom 15 = .ok (.ireturn, 1) := by decide +kernel
theorem dX3_firstCure_0 : decode cX3_firstCure 0 = .ok (.iload_n 1, 1) := by decide +kernel
theorem dX3_firstCure_1 : decode cX3_firstCure 1 = .ok (.istore_n 2, 1) := by decide +kernel
theorem dX3_firstCure_2 : decode cX3_firstCure 2 = .ok (.iload_n 2, 1) := by decide +kernel
theorem dX3_firstCure_3 : decode cX3_firstCure 3 = .ok (.aload_n 0, 1) := by decide +kernel
theorem dX3_firstCure_4 : decode cX3_firstCure 4 = .ok (.getfield 16, 3) := by decide +kernel
theorem dX3_firstCure_7 : decode cX3_firstCure 7 = .ok (.getfield 115, 3) := by decide +kernel
theorem dX3_firstCure_10 : decode cX3_firstCure 10 = .ok (.if_icmp .ge 101, 3) := by decide +kernel
theorem dX3_firstCure_13 : decode cX3_firstCure 13 = .ok (.aload_n 0, 1) := by decide +kernel
theorem dX3_firstCure_14 : decode cX3_firstCure 14 = .ok (.getfield 16, 3) := by decide +kernel
theorem dX3_firstCure_17 : decode cX3_firstCure 17 = .ok (.getfield 83, 3) := by decide +kernel
theorem dX3_firstCure_20 : decode cX3_firstCure 20 = .ok (.iload_n 2, 1) := by decide +kernel
theorem dX3_firstCure_21 : decode cX3_firstCure 21 = .ok (.iaload, 1) := by decide +kernel
theorem dX3_firstCure_22 : decode cX3_firstCure 22 = .ok (.istore_n 3, 1) := by decide +kernel
theorem dX3_firstCure_23 : decode cX3_firstCure 23 = .ok (.iconst 0, 1) := by decide +kernel
theorem dX3_firstCure_24 : decode cX3_firstCure 24 = .ok (.istore 4, 2) := by decide +kernel
theorem dX3_firstCure_26 : decode cX3_firstCure 26 = .ok (.iload 4, 2) := by decide +kernel
theorem dX3_firstCure_28 : decode cX3_firstCure 28 = .ok (.bipush 6, 2) := by decide +kernel
theorem dX3_firstCure_30 : decode cX3_firstCure 30 = .ok (.if_icmp .ge 75, 3) := by decide +kernel
theorem dX3_firstCure_33 : decode cX3_firstCure 33 = .ok (.aload_n 0, 1) := by decide +kernel
theorem dX3_firstCure_34 : decode cX3_firstCure 34 = .ok (.getfield 16, 3) := by decide +kernel
theorem dX3_firstCure_37 : decode cX3_firstCure 37 = .ok (.getfield 83, 3) := by decide +kernel
theorem dX3_firstCure_40 : decode cX3_firstCure 40 = .ok (.iload_n 2, 1) := by decide +kernel
theorem dX3_firstCure_41 : decode cX3_firstCure 41 = .ok (.iload 4, 2) := by decide +kernel
theorem dX3_firstCure_43 : decode cX3_firstCure 43 = .ok (.iastore, 1) := by decide +kernel
theorem dX3_firstCure_44 : decode cX3_firstCure 44 = .ok (.iload 4, 2) := by decide +kernel
theorem dX3_firstCure_46 : decode cX3_firstCure 46 = .ok (.iload_n 3, 1) := by decide +kernel
theorem dX3_firstCure_47 : decode cX3_firstCure 47 = .ok (.if_icmp .eq 26, 3) := by decide +kernel
theorem dX3_firstCure_50 : decode cX3_firstCure 50 = .ok (.aload_n 0, 1) := by decide +kernel
theorem dX3_firstCure_51 : decode cX3_firstCure 51 = .ok (.getfield 16, 3) := by decide +kernel
theorem dX3_firstCure_54 : decode cX3_firstCure 54 = .ok (.aload_n 0, 1) := by decide +kernel
theorem dX3_firstCure_55 : decode cX3_firstCure 55 = .ok (.getfield 10, 3) := by decide +kernel
theorem dX3_firstCure_58 : decode cX3_firstCure 58 = .ok (.getfield 112, 3) := by decide +kernel
theorem dX3_firstCure_61 : decode cX3_firstCure 61 = .ok (.invokevirtual 124, 3) := by decide +kernel
theorem dX3_firstCure_64 : decode cX3_firstCure 64 = .ok (.bipush (-9), 2) := by decide +kernel
theorem dX3_firstCure_66 : decode cX3_firstCure 66 = .ok (.if_icmp .ne 7, 3) := by decide +kernel
theorem dX3_firstCure_69 : decode cX3_firstCure 69 = .ok (.iconst 1, 1) := by decide +kernel
theorem dX3_firstCure_70 : decode cX3_firstCure 70 = .ok (.goto 4, 3) := by decide +kernel
theorem dX3_firstCure_73 : decode cX3_firstCure 73 = .ok (.iconst 0, 1) := by decide +kernel
theorem dX3_firstCure_74 : decode cX3_firstCure 74 = .ok (.istore 5, 2) := by decide +kernel
theorem dX3_firstCure_76 : decode cX3_firstCure 76 = .ok (.aload_n 0, 1) := by decide +kernel
theorem dX3_firstCure_77 : decode cX3_firstCure 77 = .ok (.getfield 16, 3) := by decide +kernel
theorem dX3_firstCure_80 : decode cX3_firstCure 80 = .ok (.getfield 83, 3) := by decide +kernel
theorem dX3_firstCure_83 : decode cX3_firstCure 83 = .ok (.iload_n 2, 1) := by decide +kernel
theorem dX3_firstCure_84 : decode cX3_firstCure 84 = .ok (.iload_n 3, 1) := by decide +kernel
theorem dX3_firstCure_85 : decode cX3_firstCure 85 = .ok (.iastore, 1) := by decide +kernel
theorem dX3_firstCure_86 : decode cX3_firstCure 86 = .ok (.iload 5, 2) := by decide +kernel
theorem dX3_firstCure_88 : decode cX3_firstCure 88 = .ok (.ifCond .eq 11, 3) := by decide +kernel
theorem dX3_firstCure_91 : decode cX3_firstCure 91 = .ok (.bipush 10, 2) := by decide +kernel
theorem dX3_firstCure_93 : decode cX3_firstCure 93 = .ok (.iload_n 2, 1) := by decide +kernel
theorem dX3_firstCure_94 : decode cX3_firstCure 94 = .ok (.imul, 1) := by decide +kernel
theorem dX3_firstCure_95 : decode cX3_firstCure 95 = .ok (.iload 4, 2) := by decide +kernel
theorem dX3_firstCure_97 : decode cX3_firstCure 97 = .ok (.iadd, 1) := by decide +kernel
theorem dX3_firstCure_98 : decode cX3_firstCure 98 = .ok (.ireturn, 1) := by decide +kernel
theorem dX3_firstCure_99 : decode cX3_firstCure 99 = .ok (.iinc 4 1, 3) := by decide +kernel
theorem dX3_firstCure_102 : decode cX3_firstCure 102 = .ok (.goto (-76), 3) := by decide +kernel
theorem dX3_firstCure_105 : decode cX3_firstCure 105 = .ok (.iinc 2 1, 3) := by decide +kernel
theorem dX3_firstCure_108 : decode cX3_firstCure 108 = .ok (.goto (-106), 3) := by decide +kernel
theorem dX3_firstCure_111 : decode cX3_firstCure 111 = .ok (.bipush (-9), 2) := by decide +kernel
theorem dX3_firstCure_113 : decode cX3_firstCure 113 = .ok (.ireturn, 1) := by decide +kernel
theorem dX3_twoCure_0 : decode cX3_twoCure 0 = .ok (.iconst 0, 1) := by decide +kernel
theorem dX3_twoCure_1 : decode cX3_twoCure 1 = .ok (.istore_n 1, 1) := by decide +kernel
theorem dX3_twoCure_2 : decode cX3_twoCure 2 = .ok (.iload_n 1, 1) := by decide +kernel
theorem dX3_twoCure_3 : decode cX3_twoCure 3 = .ok (.aload_n 0, 1) := by decide +kernel
theorem dX3_twoCure_4 : decode cX3_twoCure 4 = .ok (.getfield 16, 3) := by decide +kernel
theorem dX3_twoCure_7 : decode cX3_twoCure 7 = .ok (.getfield 115, 3) := by decide +kernel
theorem dX3_twoCure_10 : decode cX3_twoCure 10 = .ok (.if_icmp .ge 84, 3) := by decide +kernel
theorem dX3_twoCure_13 : decode cX3_twoCure 13 = .ok (.aload_n 0, 1) := by decide +kernel
theorem dX3_twoCure_14 : decode cX3_twoCure 14 = .ok (.getfield 16, 3) := by decide +kernel
theorem dX3_twoCure_17 : decode cX3_twoCure 17 = .ok (.getfield 83, 3) := by decide +kernel
theorem dX3_twoCure_20 : decode cX3_twoCure 20 = .ok (.iload_n 1, 1) := by decide +kernel
theorem dX3_twoCure_21 : decode cX3_twoCure 21 = .ok (.iaload, 1) := by decide +kernel
theorem dX3_twoCure_22 : decode cX3_twoCure 22 = .ok (.istore_n 2, 1) := by decide +kernel
theorem dX3_twoCure_23 : decode cX3_twoCure 23 = .ok (.iconst 0, 1) := by decide +kernel
theorem dX3_twoCure_24 : decode cX3_twoCure 24 = .ok (.istore_n 3, 1) := by decide +kernel
theorem dX3_twoCure_25 : decode cX3_twoCure 25 = .ok (.iload_n 3, 1) := by decide +kernel
theorem dX3_twoCure_26 : decode cX3_twoCure 26 = .ok (.bipush 6, 2) := by decide +kernel
theorem dX3_twoCure_28 : decode cX3_twoCure 28 = .ok (.if_icmp .ge 60, 3) := by decide +kernel
theorem dX3_twoCure_31 : decode cX3_twoCure 31 = .ok (.aload_n 0, 1) := by decide +kernel
theorem dX3_twoCure_32 : decode cX3_twoCure 32 = .ok (.getfield 16, 3) := by decide +kernel
theorem dX3_twoCure_35 : decode cX3_twoCure 35 = .ok (.getfield 83, 3) := by decide +kernel
theorem dX3_twoCure_38 : decode cX3_twoCure 38 = .ok (.iload_n 1, 1) := by decide +kernel
theorem dX3_twoCure_39 : decode cX3_twoCure 39 = .ok (.iload_n 3, 1) := by decide +kernel
theorem dX3_twoCure_40 : decode cX3_twoCure 40 = .ok (.iastore, 1) := by decide +kernel
theorem dX3_twoCure_41 : decode cX3_twoCure 41 = .ok (.iload_n 3, 1) := by decide +kernel
theorem dX3_twoCure_42 : decode cX3_twoCure 42 = .ok (.iload_n 2, 1) := by decide +kernel
theorem dX3_twoCure_43 : decode cX3_twoCure 43 = .ok (.if_icmp .eq 19, 3) := by decide +kernel
theorem dX3_twoCure_46 : decode cX3_twoCure 46 = .ok (.aload_n 0, 1) := by decide +kernel
theorem dX3_twoCure_47 : decode cX3_twoCure 47 = .ok (.iload_n 1, 1) := by decide +kernel
theorem dX3_twoCure_48 : decode cX3_twoCure 48 = .ok (.iconst 1, 1) := by decide +kernel
theorem dX3_twoCure_49 : decode cX3_twoCure 49 = .ok (.iadd, 1) := by decide +kernel
theorem dX3_twoCure_50 : decode cX3_twoCure 50 = .ok (.invokevirtual 139, 3) := by decide +kernel
theorem dX3_twoCure_53 : decode cX3_twoCure 53 = .ok (.bipush (-9), 2) := by decide +kernel
theorem dX3_twoCure_55 : decode cX3_twoCure 55 = .ok (.if_icmp .eq 7, 3) := by decide +kernel
theorem dX3_twoCure_58 : decode cX3_twoCure 58 = .ok (.iconst 1, 1) := by decide +kernel
theorem dX3_twoCure_59 : decode cX3_twoCure 59 = .ok (.goto 4, 3) := by decide +kernel
theorem dX3_twoCure_62 : decode cX3_twoCure 62 = .ok (.iconst 0, 1) := by decide +kernel
theorem dX3_twoCure_63 : decode cX3_twoCure 63 = .ok (.istore 4, 2) := by decide +kernel
theorem dX3_twoCure_65 : decode cX3_twoCure 65 = .ok (.aload_n 0, 1) := by decide +kernel
theorem dX3_twoCure_66 : decode cX3_twoCure 66 = .ok (.getfield 16, 3) := by decide +kernel
theorem dX3_twoCure_69 : decode cX3_twoCure 69 = .ok (.getfield 83, 3) := by decide +kernel
theorem dX3_twoCure_72 : decode cX3_twoCure 72 = .ok (.iload_n 1, 1) := by decide +kernel
theorem dX3_twoCure_73 : decode cX3_twoCure 73 = .ok (.iload_n 2, 1) := by decide +kernel
theorem dX3_twoCure_74 : decode cX3_twoCure 74 = .ok (.iastore, 1) := by decide +kernel
theorem dX3_twoCure_75 : decode cX3_twoCure 75 = .ok (.iload 4, 2) := by decide +kernel
theorem dX3_twoCure_77 : decode cX3_twoCure 77 = .ok (.ifCond .eq 5, 3) := by decide +kernel
theorem dX3_twoCure_80 : decode cX3_twoCure 80 = .ok (.iconst 1, 1) := by decide +kernel
theorem dX3_twoCure_81 : decode cX3_twoCure 81 = .ok (.ireturn, 1) := by decide +kernel
theorem dX3_twoCure_82 : decode cX3_twoCure 82 = .ok (.iinc 3 1, 3) := by decide +kernel
theorem dX3_twoCure_85 : decode cX3_twoCure 85 = .ok (.goto (-60), 3) := by decide +kernel
theorem dX3_twoCure_88 : decode cX3_twoCure 88 = .ok (.iinc 1 1, 3) := by decide +kernel
theorem dX3_twoCure_91 : decode cX3_twoCure 91 = .ok (.goto (-89), 3) := by decide +kernel
theorem dX3_twoCure_94 : decode cX3_twoCure 94 = .ok (.iconst 0, 1) := by decide +kernel
theorem dX3_twoCure_95 : decode cX3_twoCure 95 = .ok (.ireturn, 1) := by decide +kernel
theorem dX3_ordersBehind_0 : decode cX3_ordersBehind 0 = .ok (.iconst 0, 1) := by decide +kernel
theorem dX3_ordersBehind_1 : decode cX3_ordersBehind 1 = .ok (.istore_n 3, 1) := by decide +kernel
theorem dX3_ordersBehind_2 : decode cX3_ordersBehind 2 = .ok (.iload_n 3, 1) := by decide +kernel
theorem dX3_ordersBehind_3 : decode cX3_ordersBehind 3 = .ok (.aload_n 0, 1) := by decide +kernel
theorem dX3_ordersBehind_4 : decode cX3_ordersBehind 4 = .ok (.getfield 10, 3) := by decide +kernel
theorem dX3_ordersBehind_7 : decode cX3_ordersBehind 7 = .ok (.getfield 115, 3) := by decide +kernel
theorem dX3_ordersBehind_10 : decode cX3_ordersBehind 10 = .ok (.if_icmp .ge 39, 3) := by decide +kernel
theorem dX3_ordersBehind_13 : decode cX3_ordersBehind 13 = .ok (.aload_n 0, 1) := by decide +kernel
theorem dX3_ordersBehind_14 : decode cX3_ordersBehind 14 = .ok (.getfield 16, 3) := by decide +kernel
theorem dX3_ordersBehind_17 : decode cX3_ordersBehind 17 = .ok (.getfield 83, 3) := by decide +kernel
theorem dX3_ordersBehind_20 : decode cX3_ordersBehind 20 = .ok (.iload_n 3, 1) := by decide +kernel
theorem dX3_ordersBehind_21 : decode cX3_ordersBehind 21 = .ok (.iload_n 1, 1) := by decide +kernel
theorem dX3_ordersBehind_22 : decode cX3_ordersBehind 22 = .ok (.iload_n 3, 1) := by decide +kernel
theorem dX3_ordersBehind_23 : decode cX3_ordersBehind 23 = .ok (.ishr, 1) := by decide +kernel
theorem dX3_ordersBehind_24 : decode cX3_ordersBehind 24 = .ok (.iconst 1, 1) := by decide +kernel
theorem dX3_ordersBehind_25 : decode cX3_ordersBehind 25 = .ok (.iand, 1) := by decide +kernel
theorem dX3_ordersBehind_26 : decode cX3_ordersBehind 26 = .ok (.ifCond .eq 7, 3) := by decide +kernel
theorem dX3_ordersBehind_29 : decode cX3_ordersBehind 29 = .ok (.iload_n 2, 1) := by decide +kernel
theorem dX3_ordersBehind_30 : decode cX3_ordersBehind 30 = .ok (.goto 12, 3) := by decide +kernel
theorem dX3_ordersBehind_33 : decode cX3_ordersBehind 33 = .ok (.aload_n 0, 1) := by decide +kernel
theorem dX3_ordersBehind_34 : decode cX3_ordersBehind 34 = .ok (.getfield 10, 3) := by decide +kernel
theorem dX3_ordersBehind_37 : decode cX3_ordersBehind 37 = .ok (.getfield 83, 3) := by decide +kernel
theorem dX3_ordersBehind_40 : decode cX3_ordersBehind 40 = .ok (.iload_n 3, 1) := by decide +kernel
theorem dX3_ordersBehind_41 : decode cX3_ordersBehind 41 = .ok (.iaload, 1) := by decide +kernel
theorem dX3_ordersBehind_42 : decode cX3_ordersBehind 42 = .ok (.iastore, 1) := by decide +kernel
theorem dX3_ordersBehind_43 : decode cX3_ordersBehind 43 = .ok (.iinc 3 1, 3) := by decide +kernel
theorem dX3_ordersBehind_46 : decode cX3_ordersBehind 46 = .ok (.goto (-44), 3) := by decide +kernel
theorem dX3_ordersBehind_49 : decode cX3_ordersBehind 49 = .ok (.aload_n 0, 1) := by decide +kernel
theorem dX3_ordersBehind_50 : decode cX3_ordersBehind 50 = .ok (.getfield 16, 3) := by decide +kernel
theorem dX3_ordersBehind_53 : decode cX3_ordersBehind 53 = .ok (.aload_n 0, 1) := by decide +kernel
theorem dX3_ordersBehind_54 : decode cX3_ordersBehind 54 = .ok (.getfield 10, 3) := by decide +kernel
theorem dX3_ordersBehind_57 : decode cX3_ordersBehind 57 = .ok (.getfield 112, 3) := by decide +kernel
theorem dX3_ordersBehind_60 : decode cX3_ordersBehind 60 = .ok (.invokevirtual 124, 3) := by decide +kernel
theorem dX3_ordersBehind_63 : decode cX3_ordersBehind 63 = .ok (.bipush (-9), 2) := by decide +kernel
theorem dX3_ordersBehind_65 : decode cX3_ordersBehind 65 = .ok (.if_icmp .eq 5, 3) := by decide +kernel
theorem dX3_ordersBehind_68 : decode cX3_ordersBehind 68 = .ok (.iconst 0, 1) := by decide +kernel
theorem dX3_ordersBehind_69 : decode cX3_ordersBehind 69 = .ok (.ireturn, 1) := by decide +kernel
theorem dX3_ordersBehind_70 : decode cX3_ordersBehind 70 = .ok (.iload_n 1, 1) := by decide +kernel
theorem dX3_ordersBehind_71 : decode cX3_ordersBehind 71 = .ok (.aload_n 0, 1) := by decide +kernel
theorem dX3_ordersBehind_72 : decode cX3_ordersBehind 72 = .ok (.getfield 10, 3) := by decide +kernel
theorem dX3_ordersBehind_75 : decode cX3_ordersBehind 75 = .ok (.invokevirtual 165, 3) := by decide +kernel
theorem dX3_ordersBehind_78 : decode cX3_ordersBehind 78 = .ok (.if_icmp .ne 5, 3) := by decide +kernel
theorem dX3_ordersBehind_81 : decode cX3_ordersBehind 81 = .ok (.iconst 1, 1) := by decide +kernel
theorem dX3_ordersBehind_82 : decode cX3_ordersBehind 82 = .ok (.ireturn, 1) := by decide +kernel
theorem dX3_ordersBehind_83 : decode cX3_ordersBehind 83 = .ok (.iconst 0, 1) := by decide +kernel
theorem dX3_ordersBehind_84 : decode cX3_ordersBehind 84 = .ok (.istore_n 3, 1) := by decide +kernel
theorem dX3_ordersBehind_85 : decode cX3_ordersBehind 85 = .ok (.iconst 0, 1) := by decide +kernel
theorem dX3_ordersBehind_86 : decode cX3_ordersBehind 86 = .ok (.istore 4, 2) := by decide +kernel
theorem dX3_ordersBehind_88 : decode cX3_ordersBehind 88 = .ok (.iload 4, 2) := by decide +kernel
theorem dX3_ordersBehind_90 : decode cX3_ordersBehind 90 = .ok (.aload_n 0, 1) := by decide +kernel
theorem dX3_ordersBehind_91 : decode cX3_ordersBehind 91 = .ok (.getfield 10, 3) := by decide +kernel
theorem dX3_ordersBehind_94 : decode cX3_ordersBehind 94 = .ok (.getfield 115, 3) := by decide +kernel
theorem dX3_ordersBehind_97 : decode cX3_ordersBehind 97 = .ok (.if_icmp .ge 32, 3) := by decide +kernel
theorem dX3_ordersBehind_100 : decode cX3_ordersBehind 100 = .ok (.iload_n 1, 1) := by decide +kernel
theorem dX3_ordersBehind_101 : decode cX3_ordersBehind 101 = .ok (.iload 4, 2) := by decide +kernel
theorem dX3_ordersBehind_103 : decode cX3_ordersBehind 103 = .ok (.ishr, 1) := by decide +kernel
theorem dX3_ordersBehind_104 : decode cX3_ordersBehind 104 = .ok (.iconst 1, 1) := by decide +kernel
theorem dX3_ordersBehind_105 : decode cX3_ordersBehind 105 = .ok (.iand, 1) := by decide +kernel
theorem dX3_ordersBehind_106 : decode cX3_ordersBehind 106 = .ok (.ifCond .ne 17, 3) := by decide +kernel
theorem dX3_ordersBehind_109 : decode cX3_ordersBehind 109 = .ok (.iload_n 3, 1) := by decide +kernel
theorem dX3_ordersBehind_110 : decode cX3_ordersBehind 110 = .ok (.aload_n 0, 1) := by decide +kernel
theorem dX3_ordersBehind_111 : decode cX3_ordersBehind 111 = .ok (.getfield 40, 3) := by decide +kernel
theorem dX3_ordersBehind_114 : decode cX3_ordersBehind 114 = .ok (.iload_n 1, 1) := by decide +kernel
theorem dX3_ordersBehind_115 : decode cX3_ordersBehind 115 = .ok (.iconst 1, 1) := by decide +kernel
theorem dX3_ordersBehind_116 : decode cX3_ordersBehind 116 = .ok (.iload 4, 2) := by decide +kernel
theorem dX3_ordersBehind_118 : decode cX3_ordersBehind 118 = .ok (.ishl, 1) := by decide +kernel
theorem dX3_ordersBehind_119 : decode cX3_ordersBehind 119 = .ok (.ior, 1) := by decide +kernel
theorem dX3_ordersBehind_120 : decode cX3_ordersBehind 120 = .ok (.iaload, 1) := by decide +kernel
theorem dX3_ordersBehind_121 : decode cX3_ordersBehind 121 = .ok (.iadd, 1) := by decide +kernel
theorem dX3_ordersBehind_122 : decode cX3_ordersBehind 122 = .ok (.istore_n 3, 1) := by decide +kernel
theorem dX3_ordersBehind_123 : decode cX3_ordersBehind 123 = .ok (.iinc 4 1, 3) := by decide +kernel
theorem dX3_ordersBehind_126 : decode cX3_ordersBehind 126 = .ok (.goto (-38), 3) := by decide +kernel
theorem dX3_ordersBehind_129 : decode cX3_ordersBehind 129 = .ok (.iload_n 3, 1) := by decide +kernel
theorem dX3_ordersBehind_130 : decode cX3_ordersBehind 130 = .ok (.ireturn, 1) := by decide +kernel
theorem dX3_firstCarried_0 : decode cX3_firstCarried 0 = .ok (.aload_n 0, 1) := by decide +kernel
theorem dX3_firstCarried_1 : decode cX3_firstCarried 1 = .ok (.getfield 40, 3) := by decide +kernel
theorem dX3_firstCarried_4 : decode cX3_firstCarried 4 = .ok (.iconst 0, 1) := by decide +kernel
theorem dX3_firstCarried_5 : decode cX3_firstCarried 5 = .ok (.iaload, 1) := by decide +kernel
theorem dX3_firstCarried_6 : decode cX3_firstCarried 6 = .ok (.ifCond .le 35, 3) := by decide +kernel
theorem dX3_firstCarried_9 : decode cX3_firstCarried 9 = .ok (.iconst 0, 1) := by decide +kernel
theorem dX3_firstCarried_10 : decode cX3_firstCarried 10 = .ok (.istore_n 1, 1) := by decide +kernel
theorem dX3_firstCarried_11 : decode cX3_firstCarried 11 = .ok (.iload_n 1, 1) := by decide +kernel
theorem dX3_firstCarried_12 : decode cX3_firstCarried 12 = .ok (.aload_n 0, 1) := by decide +kernel
theorem dX3_firstCarried_13 : decode cX3_firstCarried 13 = .ok (.getfield 10, 3) := by decide +kernel
theorem dX3_firstCarried_16 : decode cX3_firstCarried 16 = .ok (.getfield 115, 3) := by decide +kernel
theorem dX3_firstCarried_19 : decode cX3_firstCarried 19 = .ok (.if_icmp .ge 22, 3) := by decide +kernel
theorem dX3_firstCarried_22 : decode cX3_firstCarried 22 = .ok (.aload_n 0, 1) := by decide +kernel
theorem dX3_firstCarried_23 : decode cX3_firstCarried 23 = .ok (.getfield 40, 3) := by decide +kernel
theorem dX3_firstCarried_26 : decode cX3_firstCarried 26 = .ok (.iconst 1, 1) := by decide +kernel
theorem dX3_firstCarried_27 : decode cX3_firstCarried 27 = .ok (.iload_n 1, 1) := by decide +kernel
theorem dX3_firstCarried_28 : decode cX3_firstCarried 28 = .ok (.ishl, 1) := by decide +kernel
theorem dX3_firstCarried_29 : decode cX3_firstCarried 29 = .ok (.iaload, 1) := by decide +kernel
theorem dX3_firstCarried_30 : decode cX3_firstCarried 30 = .ok (.ifCond .le 5, 3) := by decide +kernel
theorem dX3_firstCarried_33 : decode cX3_firstCarried 33 = .ok (.iload_n 1, 1) := by decide +kernel
theorem dX3_firstCarried_34 : decode cX3_firstCarried 34 = .ok (.ireturn, 1) := by decide +kernel
theorem dX3_firstCarried_35 : decode cX3_firstCarried 35 = .ok (.iinc 1 1, 3) := by decide +kernel
theorem dX3_firstCarried_38 : decode cX3_firstCarried 38 = .ok (.goto (-27), 3) := by decide +kernel
theorem dX3_firstCarried_41 : decode cX3_firstCarried 41 = .ok (.bipush (-9), 2) := by decide +kernel
theorem dX3_firstCarried_43 : decode cX3_firstCarried 43 = .ok (.ireturn, 1) := by decide +kernel
theorem dX3_firstBadMove_0 : decode cX3_firstBadMove 0 = .ok (.aload_n 0, 1) := by decide +kernel
theorem dX3_firstBadMove_1 : decode cX3_firstBadMove 1 = .ok (.getfield 16, 3) := by decide +kernel
theorem dX3_firstBadMove_4 : decode cX3_firstBadMove 4 = .ok (.aload_n 0, 1) := by decide +kernel
theorem dX3_firstBadMove_5 : decode cX3_firstBadMove 5 = .ok (.getfield 10, 3) := by decide +kernel
theorem dX3_firstBadMove_8 : decode cX3_firstBadMove 8 = .ok (.invokevirtual 68, 3) := by decide +kernel
theorem dX3_firstBadMove_11 : decode cX3_firstBadMove 11 = .ok (.iconst 0, 1) := by decide +kernel
theorem dX3_firstBadMove_12 : decode cX3_firstBadMove 12 = .ok (.istore_n 1, 1) := by decide +kernel
theorem dX3_firstBadMove_13 : decode cX3_firstBadMove 13 = .ok (.iload_n 1, 1) := by decide +kernel
theorem dX3_firstBadMove_14 : decode cX3_firstBadMove 14 = .ok (.aload_n 0, 1) := by decide +kernel
theorem dX3_firstBadMove_15 : decode cX3_firstBadMove 15 = .ok (.getfield 47, 3) := by decide +kernel
theorem dX3_firstBadMove_18 : decode cX3_firstBadMove 18 = .ok (.if_icmp .ge 79, 3) := by decide +kernel
theorem dX3_firstBadMove_21 : decode cX3_firstBadMove 21 = .ok (.aload_n 0, 1) := by decide +kernel
theorem dX3_firstBadMove_22 : decode cX3_firstBadMove 22 = .ok (.getfield 44, 3) := by decide +kernel
theorem dX3_firstBadMove_25 : decode cX3_firstBadMove 25 = .ok (.iload_n 1, 1) := by decide +kernel
theorem dX3_firstBadMove_26 : decode cX3_firstBadMove 26 = .ok (.iaload, 1) := by decide +kernel
theorem dX3_firstBadMove_27 : decode cX3_firstBadMove 27 = .ok (.bipush 10, 2) := by decide +kernel
theorem dX3_firstBadMove_29 : decode cX3_firstBadMove 29 = .ok (.idiv, 1) := by decide +kernel
theorem dX3_firstBadMove_30 : decode cX3_firstBadMove 30 = .ok (.istore_n 2, 1) := by decide +kernel
theorem dX3_firstBadMove_31 : decode cX3_firstBadMove 31 = .ok (.aload_n 0, 1) := by decide +kernel
theorem dX3_firstBadMove_32 : decode cX3_firstBadMove 32 = .ok (.getfield 44, 3) := by decide +kernel
theorem dX3_firstBadMove_35 : decode cX3_firstBadMove 35 = .ok (.iload_n 1, 1) := by decide +kernel
theorem dX3_firstBadMove_36 : decode cX3_firstBadMove 36 = .ok (.iaload, 1) := by decide +kernel
theorem dX3_firstBadMove_37 : decode cX3_firstBadMove 37 = .ok (.bipush 10, 2) := by decide +kernel
theorem dX3_firstBadMove_39 : decode cX3_firstBadMove 39 = .ok (.irem, 1) := by decide +kernel
theorem dX3_firstBadMove_40 : decode cX3_firstBadMove 40 = .ok (.istore_n 3, 1) := by decide +kernel
theorem dX3_firstBadMove_41 : decode cX3_firstBadMove 41 = .ok (.aload_n 0, 1) := by decide +kernel
theorem dX3_firstBadMove_42 : decode cX3_firstBadMove 42 = .ok (.getfield 16, 3) := by decide +kernel
theorem dX3_firstBadMove_45 : decode cX3_firstBadMove 45 = .ok (.iload_n 2, 1) := by decide +kernel
theorem dX3_firstBadMove_46 : decode cX3_firstBadMove 46 = .ok (.invokevirtual 76, 3) := by decide +kernel
theorem dX3_firstBadMove_49 : decode cX3_firstBadMove 49 = .ok (.ifCond .eq 10, 3) := by decide +kernel
theorem dX3_firstBadMove_52 : decode cX3_firstBadMove 52 = .ok (.iload_n 3, 1) := by decide +kernel
theorem dX3_firstBadMove_53 : decode cX3_firstBadMove 53 = .ok (.invokestatic 105, 3) := by decide +kernel
theorem dX3_firstBadMove_56 : decode cX3_firstBadMove 56 = .ok (.ifCond .ne 5, 3) := by decide +kernel
theorem dX3_firstBadMove_59 : decode cX3_firstBadMove 59 = .ok (.iload_n 1, 1) := by decide +kernel
theorem dX3_firstBadMove_60 : decode cX3_firstBadMove 60 = .ok (.ireturn, 1) := by decide +kernel
theorem dX3_firstBadMove_61 : decode cX3_firstBadMove 61 = .ok (.aload_n 0, 1) := by decide +kernel
theorem dX3_firstBadMove_62 : decode cX3_firstBadMove 62 = .ok (.getfield 16, 3) := by decide +kernel
theorem dX3_firstBadMove_65 : decode cX3_firstBadMove 65 = .ok (.getfield 83, 3) := by decide +kernel
theorem dX3_firstBadMove_68 : decode cX3_firstBadMove 68 = .ok (.iload_n 2, 1) := by decide +kernel
theorem dX3_firstBadMove_69 : decode cX3_firstBadMove 69 = .ok (.iload_n 3, 1) := by decide +kernel
theorem dX3_firstBadMove_70 : decode cX3_firstBadMove 70 = .ok (.iastore, 1) := by decide +kernel
theorem dX3_firstBadMove_71 : decode cX3_firstBadMove 71 = .ok (.aload_n 0, 1) := by decide +kernel
theorem dX3_firstBadMove_72 : decode cX3_firstBadMove 72 = .ok (.getfield 16, 3) := by decide +kernel
theorem dX3_firstBadMove_75 : decode cX3_firstBadMove 75 = .ok (.iload_n 1, 1) := by decide +kernel
theorem dX3_firstBadMove_76 : decode cX3_firstBadMove 76 = .ok (.bipush 7, 2) := by decide +kernel
theorem dX3_firstBadMove_78 : decode cX3_firstBadMove 78 = .ok (.invokestatic 195, 3) := by decide +kernel
theorem dX3_firstBadMove_81 : decode cX3_firstBadMove 81 = .ok (.invokevirtual 124, 3) := by decide +kernel
theorem dX3_firstBadMove_84 : decode cX3_firstBadMove 84 = .ok (.bipush (-9), 2) := by decide +kernel
theorem dX3_firstBadMove_86 : decode cX3_firstBadMove 86 = .ok (.if_icmp .eq 5, 3) := by decide +kernel
theorem dX3_firstBadMove_89 : decode cX3_firstBadMove 89 = .ok (.iload_n 1, 1) := by decide +kernel
theorem dX3_firstBadMove_90 : decode cX3_firstBadMove 90 = .ok (.ireturn, 1) := by decide +kernel
theorem dX3_firstBadMove_91 : decode cX3_firstBadMove 91 = .ok (.iinc 1 1, 3) := by decide +kernel
theorem dX3_firstBadMove_94 : decode cX3_firstBadMove 94 = .ok (.goto (-81), 3) := by decide +kernel
theorem dX3_firstBadMove_97 : decode cX3_firstBadMove 97 = .ok (.bipush (-9), 2) := by decide +kernel
theorem dX3_firstBadMove_99 : decode cX3_firstBadMove 99 = .ok (.ireturn, 1) := by decide +kernel
theorem dX3_nextSeed_0 : decode cX3_nextSeed 0 = .ok (.iload_n 0, 1) := by decide +kernel
theorem dX3_nextSeed_1 : decode cX3_nextSeed 1 = .ok (.ldc 200, 2) := by decide +kernel
theorem dX3_nextSeed_3 : decode cX3_nextSeed 3 = .ok (.imul, 1) := by decide +kernel
theorem dX3_nextSeed_4 : decode cX3_nextSeed 4 = .ok (.ldc 201, 2) := by decide +kernel
theorem dX3_nextSeed_6 : decode cX3_nextSeed 6 = .ok (.iadd, 1) := by decide +kernel
theorem dX3_nextSeed_7 : decode cX3_nextSeed 7 = .ok (.ireturn, 1) := by decide +kernel
theorem dX3_draw_0 : decode cX3_draw 0 = .ok (.iload_n 1, 1) := by decide +kernel
theorem dX3_draw_1 : decode cX3_draw 1 = .ok (.ifCond .le 16, 3) := by decide +kernel
theorem dX3_draw_4 : decode cX3_draw 4 = .ok (.iload_n 0, 1) := by decide +kernel
theorem dX3_draw_5 : decode cX3_draw 5 = .ok (.ldc 202, 2) := by decide +kernel
theorem dX3_draw_7 : decode cX3_draw 7 = .ok (.iand, 1) := by decide +kernel
theorem dX3_draw_8 : decode cX3_draw 8 = .ok (.sipush 256, 3) := by decide +kernel
theorem dX3_draw_11 : decode cX3_draw 11 = .ok (.idiv, 1) := by decide +kernel
theorem dX3_draw_12 : decode cX3_draw 12 = .ok (.iload_n 1, 1) := by decide +kernel
theorem dX3_draw_13 : decode cX3_draw 13 = .ok (.irem, 1) := by decide +kernel
theorem dX3_draw_14 : decode cX3_draw 14 = .ok (.goto 4, 3) := by decide +kernel
theorem dX3_draw_17 : decode cX3_draw 17 = .ok (.iconst 0, 1) := by decide +kernel
theorem dX3_draw_18 : decode cX3_draw 18 = .ok (.ireturn, 1) := by decide +kernel
theorem dX4_init_0 : decode cX4_init 0 = .ok (.aload_n 0, 1) := by decide +kernel
theorem dX4_init_1 : decode cX4_init 1 = .ok (.invokespecial 1, 3) := by decide +kernel
theorem dX4_init_4 : decode cX4_init 4 = .ok (.aload_n 0, 1) := by decide +kernel
theorem dX4_init_5 : decode cX4_init 5 = .ok (.bipush 10, 2) := by decide +kernel
theorem dX4_init_7 : decode cX4_init 7 = .ok (.newarray .int, 2) := by decide +kernel
theorem dX4_init_9 : decode cX4_init 9 = .ok (.putfield 7, 3) := by decide +kernel
theorem dX4_init_12 : decode cX4_init 12 = .ok (.aload_n 0, 1) := by decide +kernel
theorem dX4_init_13 : decode cX4_init 13 = .ok (.bipush 10, 2) := by decide +kernel
theorem dX4_init_15 : decode cX4_init 15 = .ok (.newarray .int, 2) := by decide +kernel
theorem dX4_init_17 : decode cX4_init 17 = .ok (.putfield 13, 3) := by decide +kernel
theorem dX4_init_20 : decode cX4_init 20 = .ok (.aload_n 0, 1) := by decide +kernel
theorem dX4_init_21 : decode cX4_init 21 = .ok (.bipush 8, 2) := by decide +kernel
theorem dX4_init_23 : decode cX4_init 23 = .ok (.newarray .int, 2) := by decide +kernel
theorem dX4_init_25 : decode cX4_init 25 = .ok (.putfield 16, 3) := by decide +kernel
theorem dX4_init_28 : decode cX4_init 28 = .ok (.aload_n 0, 1) := by decide +kernel
theorem dX4_init_29 : decode cX4_init 29 = .ok (.bipush 8, 2) := by decide +kernel
theorem dX4_init_31 : decode cX4_init 31 = .ok (.newarray .int, 2) := by decide +kernel
theorem dX4_init_33 : decode cX4_init 33 = .ok (.putfield 19, 3) := by decide +kernel
theorem dX4_init_36 : decode cX4_init 36 = .ok (.aload_n 0, 1) := by decide +kernel
theorem dX4_init_37 : decode cX4_init 37 = .ok (.bipush 8, 2) := by decide +kernel
theorem dX4_init_39 : decode cX4_init 39 = .ok (.newarray .int, 2) := by decide +kernel
theorem dX4_init_41 : decode cX4_init 41 = .ok (.putfield 22, 3) := by decide +kernel
theorem dX4_init_44 : decode cX4_init 44 = .ok (.aload_n 0, 1) := by decide +kernel
theorem dX4_init_45 : decode cX4_init 45 = .ok (.bipush 8, 2) := by decide +kernel
theorem dX4_init_47 : decode cX4_init 47 = .ok (.newarray .int, 2) := by decide +kernel
theorem dX4_init_49 : decode cX4_init 49 = .ok (.putfield 25, 3) := by decide +kernel
theorem dX4_init_52 : decode cX4_init 52 = .ok (.aload_n 0, 1) := by decide +kernel
theorem dX4_init_53 : decode cX4_init 53 = .ok (.bipush 80, 2) := by decide +kernel
theorem dX4_init_55 : decode cX4_init 55 = .ok (.newarray .int, 2) := by decide +kernel
theorem dX4_init_57 : decode cX4_init 57 = .ok (.putfield 28, 3) := by decide +kernel
theorem dX4_init_60 : decode cX4_init 60 = .ok (.aload_n 0, 1) := by decide +kernel
theorem dX4_init_61 : decode cX4_init 61 = .ok (.iconst 2, 1) := by decide +kernel
theorem dX4_init_62 : decode cX4_init 62 = .ok (.newarray .int, 2) := by decide +kernel
theorem dX4_init_64 : decode cX4_init 64 = .ok (.putfield 31, 3) := by decide +kernel
theorem dX4_init_67 : decode cX4_init 67 = .ok (.aload_n 0, 1) := by decide +kernel
theorem dX4_init_68 : decode cX4_init 68 = .ok (.bipush 12, 2) := by decide +kernel
theorem dX4_init_70 : decode cX4_init 70 = .ok (.newarray .int, 2) := by decide +kernel
theorem dX4_init_72 : decode cX4_init 72 = .ok (.putfield 34, 3) := by decide +kernel
theorem dX4_init_75 : decode cX4_init 75 = .ok (.aload_n 0, 1) := by decide +kernel
theorem dX4_init_76 : decode cX4_init 76 = .ok (.bipush 7, 2) := by decide +kernel
theorem dX4_init_78 : decode cX4_init 78 = .ok (.newarray .int, 2) := by decide +kernel
theorem dX4_init_80 : decode cX4_init 80 = .ok (.putfield 37, 3) := by decide +kernel
theorem dX4_init_83 : decode cX4_init 83 = .ok (.aload_n 0, 1) := by decide +kernel
theorem dX4_init_84 : decode cX4_init 84 = .ok (.bipush 57, 2) := by decide +kernel
theorem dX4_init_86 : decode cX4_init 86 = .ok (.newarray .int, 2) := by decide +kernel
theorem dX4_init_88 : decode cX4_init 88 = .ok (.putfield 40, 3) := by decide +kernel
theorem dX4_init_91 : decode cX4_init 91 = .ok (.aload_n 0, 1) := by decide +kernel
theorem dX4_init_92 : decode cX4_init 92 = .ok (.bipush 57, 2) := by decide +kernel
theorem dX4_init_94 : decode cX4_init 94 = .ok (.newarray .int, 2) := by decide +kernel
theorem dX4_init_96 : decode cX4_init 96 = .ok (.putfield 43, 3) := by decide +kernel
theorem dX4_init_99 : decode cX4_init 99 = .ok (.aload_n 0, 1) := by decide +kernel
theorem dX4_init_100 : decode cX4_init 100 = .ok (.bipush 8, 2) := by decide +kernel
theorem dX4_init_102 : decode cX4_init 102 = .ok (.newarray .int, 2) := by decide +kernel
theorem dX4_init_104 : decode cX4_init 104 = .ok (.putfield 46, 3) := by decide +kernel
theorem dX4_init_107 : decode cX4_init 107 = .ok (.aload_n 0, 1) := by decide +kernel
theorem dX4_init_108 : decode cX4_init 108 = .ok (.sipush 256, 3) := by decide +kernel
theorem dX4_init_111 : decode cX4_init 111 = .ok (.newarray .int, 2) := by decide +kernel
theorem dX4_init_113 : decode cX4_init 113 = .ok (.putfield 49, 3) := by decide +kernel
theorem dX4_init_116 : decode cX4_init 116 = .ok (.return_, 1) := by decide +kernel
theorem dX4_no_0 : decode cX4_no 0 = .ok (.aload_n 0, 1) := by decide +kernel
theorem dX4_no_1 : decode cX4_no 1 = .ok (.getfield 37, 3) := by decide +kernel
theorem dX4_no_4 : decode cX4_no 4 = .ok (.iload_n 1, 1) := by decide +kernel
theorem dX4_no_5 : decode cX4_no 5 = .ok (.ineg, 1) := by decide +kernel
theorem dX4_no_6 : decode cX4_no 6 = .ok (.dup2, 1) := by decide +kernel
theorem dX4_no_7 : decode cX4_no 7 = .ok (.iaload, 1) := by decide +kernel
theorem dX4_no_8 : decode cX4_no 8 = .ok (.iconst 1, 1) := by decide +kernel
theorem dX4_no_9 : decode cX4_no 9 = .ok (.iadd, 1) := by decide +kernel
theorem dX4_no_10 : decode cX4_no 10 = .ok (.iastore, 1) := by decide +kernel
theorem dX4_no_11 : decode cX4_no 11 = .ok (.iload_n 1, 1) := by decide +kernel
theorem dX4_no_12 : decode cX4_no 12 = .ok (.ireturn, 1) := by decide +kernel
theorem dX4_within_0 : decode cX4_within 0 = .ok (.iload_n 0, 1) := by decide +kernel
theorem dX4_within_1 : decode cX4_within 1 = .ok (.iload_n 1, 1) := by decide +kernel
theorem dX4_within_2 : decode cX4_within 2 = .ok (.if_icmp .lt 12, 3) := by decide +kernel
theorem dX4_within_5 : decode cX4_within 5 = .ok (.iload_n 0, 1) := by decide +kernel
theorem dX4_within_6 : decode cX4_within 6 = .ok (.iload_n 2, 1) := by decide +kernel
theorem dX4_within_7 : decode cX4_within 7 = .ok (.if_icmp .gt 7, 3) := by decide +kernel
theorem dX4_within_10 : decode cX4_within 10 = .ok (.iconst 1, 1) := by decide +kernel
theorem dX4_within_11 : decode cX4_within 11 = .ok (.goto 4, 3) := by decide +kernel
theorem dX4_within_14 : decode cX4_within 14 = .ok (.iconst 0, 1) := by decide +kernel
theorem dX4_within_15 : decode cX4_within 15 = .ok (.ireturn, 1) := by decide +kernel
theorem dX4_has_0 : decode cX4_has 0 = .ok (.iload_n 0, 1) := by decide +kernel
theorem dX4_has_1 : decode cX4_has 1 = .ok (.iload_n 1, 1) := by decide +kernel
theorem dX4_has_2 : decode cX4_has 2 = .ok (.ishr, 1) := by decide +kernel
theorem dX4_has_3 : decode cX4_has 3 = .ok (.iconst 1, 1) := by decide +kernel
theorem dX4_has_4 : decode cX4_has 4 = .ok (.iand, 1) := by decide +kernel
theorem dX4_has_5 : decode cX4_has 5 = .ok (.iconst 1, 1) := by decide +kernel
theorem dX4_has_6 : decode cX4_has 6 = .ok (.if_icmp .ne 7, 3) := by decide +kernel
theorem dX4_has_9 : decode cX4_has 9 = .ok (.iconst 1, 1) := by decide +kernel
theorem dX4_has_10 : decode cX4_has 10 = .ok (.goto 4, 3) := by decide +kernel
theorem dX4_has_13 : decode cX4_has 13 = .ok (.iconst 0, 1) := by decide +kernel
theorem dX4_has_14 : decode cX4_has 14 = .ok (.ireturn, 1) := by decide +kernel
theorem dX4_isThing_0 : decode cX4_isThing 0 = .ok (.iload_n 1, 1) := by decide +kernel
theorem dX4_isThing_1 : decode cX4_isThing 1 = .ok (.iconst 0, 1) := by decide +kernel
theorem dX4_isThing_2 : decode cX4_isThing 2 = .ok (.aload_n 0, 1) := by decide +kernel
theorem dX4_isThing_3 : decode cX4_isThing 3 = .ok (.getfield 52, 3) := by decide +kernel
theorem dX4_isThing_6 : decode cX4_isThing 6 = .ok (.iconst 1, 1) := by decide +kernel
theorem dX4_isThing_7 : decode cX4_isThing 7 = .ok (.isub, 1) := by decide +kernel
theorem dX4_isThing_8 : decode cX4_isThing 8 = .ok (.invokestatic 56, 3) := by decide +kernel
theorem dX4_isThing_11 : decode cX4_isThing 11 = .ok (.ireturn, 1) := by decide +kernel
theorem dX4_isLine_0 : decode cX4_isLine 0 = .ok (.iload_n 1, 1) := by decide +kernel
theorem dX4_isLine_1 : decode cX4_isLine 1 = .ok (.iconst 0, 1) := by decide +kernel
theorem dX4_isLine_2 : decode cX4_isLine 2 = .ok (.aload_n 0, 1) := by decide +kernel
theorem dX4_isLine_3 : decode cX4_isLine 3 = .ok (.getfield 60, 3) := by decide +kernel
theorem dX4_isLine_6 : decode cX4_isLine 6 = .ok (.iconst 1, 1) := by decide +kernel
theorem dX4_isLine_7 : decode cX4_isLine 7 = .ok (.isub, 1) := by decide +kernel
theorem dX4_isLine_8 : decode cX4_isLine 8 = .ok (.invokestatic 56, 3) := by decide +kernel
theorem dX4_isLine_11 : decode cX4_isLine 11 = .ok (.ireturn, 1) := by decide +kernel
theorem dX4_isRoom_0 : decode cX4_isRoom 0 = .ok (.iload_n 0, 1) := by decide +kernel
theorem dX4_isRoom_1 : decode cX4_isRoom 1 = .ok (.iconst 0, 1) := by decide +kernel
theorem dX4_isRoom_2 : decode cX4_isRoom 2 = .ok (.iconst 5, 1) := by decide +kernel
theorem dX4_isRoom_3 : decode cX4_isRoom 3 = .ok (.invokestatic 56, 3) := by decide +kernel
theorem dX4_isRoom_6 : decode cX4_isRoom 6 = .ok (.ireturn, 1) := by decide +kernel
theorem dX4_letter_0 : decode cX4_letter 0 = .ok (.iload_n 1, 1) := by decide +kernel
theorem dX4_letter_1 : decode cX4_letter 1 = .ok (.ifCond .ge 10, 3) := by decide +kernel
theorem dX4_letter_4 : decode cX4_letter 4 = .ok (.aload_n 0, 1) := by decide +kernel
theorem dX4_letter_5 : decode cX4_letter 5 = .ok (.bipush (-4), 2) := by decide +kernel
theorem dX4_letter_7 : decode cX4_letter 7 = .ok (.invokevirtual 63, 3) := by decide +kernel
theorem dX4_letter_10 : decode cX4_letter 10 = .ok (.ireturn, 1) := by decide +kernel
theorem dX4_letter_11 : decode cX4_letter 11 = .ok (.iload_n 1, 1) := by decide +kernel
theorem dX4_letter_12 : decode cX4_letter 12 = .ok (.sipush 255, 3) := by decide +kernel
theorem dX4_letter_15 : decode cX4_letter 15 = .ok (.if_icmp .gt 12, 3) := by decide +kernel
theorem dX4_letter_18 : decode cX4_letter 18 = .ok (.aload_n 0, 1) := by decide +kernel
theorem dX4_letter_19 : decode cX4_letter 19 = .ok (.getfield 67, 3) := by decide +kernel
theorem dX4_letter_22 : decode cX4_letter 22 = .ok (.bipush 80, 2) := by decide +kernel
theorem dX4_letter_24 : decode cX4_letter 24 = .ok (.if_icmp .ne 10, 3) := by decide +kernel
theorem dX4_letter_27 : decode cX4_letter 27 = .ok (.aload_n 0, 1) := by decide +kernel
theorem dX4_letter_28 : decode cX4_letter 28 = .ok (.bipush (-6), 2) := by decide +kernel
theorem dX4_letter_30 : decode cX4_letter 30 = .ok (.invokevirtual 63, 3) := by decide +kernel
theorem dX4_letter_33 : decode cX4_letter 33 = .ok (.ireturn, 1) := by decide +kernel
theorem dX4_letter_34 : decode cX4_letter 34 = .ok (.aload_n 0, 1) := by decide +kernel
theorem dX4_letter_35 : decode cX4_letter 35 = .ok (.getfield 28, 3) := by decide +kernel
theorem dX4_letter_38 : decode cX4_letter 38 = .ok (.aload_n 0, 1) := by decide +kernel
theorem dX4_letter_39 : decode cX4_letter 39 = .ok (.dup, 1) := by decide +kernel
theorem dX4_letter_40 : decode cX4_letter 40 = .ok (.getfield 67, 3) := by decide +kernel
theorem dX4_letter_43 : decode cX4_letter 43 = .ok (.dup_x1, 1) := by decide +kernel
theorem dX4_letter_44 : decode cX4_letter 44 = .ok (.iconst 1, 1) := by decide +kernel
theorem dX4_letter_45 : decode cX4_letter 45 = .ok (.iadd, 1) := by decide +kernel
theorem dX4_letter_46 : decode cX4_letter 46 = .ok (.putfield 67, 3) := by decide +kernel
theorem dX4_letter_49 : decode cX4_letter 49 = .ok (.iload_n 1, 1) := by decide +kernel
theorem dX4_letter_50 : decode cX4_letter 50 = .ok (.iastore, 1) := by decide +kernel
theorem dX4_letter_51 : decode cX4_letter 51 = .ok (.aload_n 0, 1) := by decide +kernel
theorem dX4_letter_52 : decode cX4_letter 52 = .ok (.getfield 67, 3) := by decide +kernel
theorem dX4_letter_55 : decode cX4_letter 55 = .ok (.ireturn, 1) := by decide +kernel
theorem dX4_is_0 : decode cX4_is 0 = .ok (.aload_n 0, 1) := by decide +kernel
theorem dX4_is_1 : decode cX4_is 1 = .ok (.getfield 70, 3) := by decide +kernel
theorem dX4_is_4 : decode cX4_is 4 = .ok (.aload_n 0, 1) := by decide +kernel
theorem dX4_is_5 : decode cX4_is 5 = .ok (.getfield 67, 3) := by decide +kernel
theorem dX4_is_8 : decode cX4_is 8 = .ok (.if_icmp .eq 16, 3) := by decide +kernel
theorem dX4_is_11 : decode cX4_is 11 = .ok (.aload_n 0, 1) := by decide +kernel
theorem dX4_is_12 : decode cX4_is 12 = .ok (.getfield 28, 3) := by decide +kernel
theorem dX4_is_15 : decode cX4_is 15 = .ok (.aload_n 0, 1) := by decide +kernel
theorem dX4_is_16 : decode cX4_is 16 = .ok (.getfield 70, 3) := by decide +kernel
theorem dX4_is_19 : decode cX4_is 19 = .ok (.iaload, 1) := by decide +kernel
theorem dX4_is_20 : decode cX4_is 20 = .ok (.iload_n 1, 1) := by decide +kernel
theorem dX4_is_21 : decode cX4_is 21 = .ok (.if_icmp .eq 5, 3) := by decide +kernel
theorem dX4_is_24 : decode cX4_is 24 = .ok (.iconst 0, 1) := by decide +kernel
theorem dX4_is_25 : decode cX4_is 25 = .ok (.ireturn, 1) := by decide +kernel
theorem dX4_is_26 : decode cX4_is 26 = .ok (.aload_n 0, 1) := by decide +kernel
theorem dX4_is_27 : decode cX4_is 27 = .ok (.dup, 1) := by decide +kernel
theorem dX4_is_28 : decode cX4_is 28 = .ok (.getfield 70, 3) := by decide +kernel
theorem dX4_is_31 : decode cX4_is 31 = .ok (.iconst 1, 1) := by decide +kernel
theorem dX4_is_32 : decode cX4_is 32 = .ok (.iadd, 1) := by decide +kernel
theorem dX4_is_33 : decode cX4_is 33 = .ok (.putfield 70, 3) := by decide +kernel
theorem dX4_is_36 : decode cX4_is 36 = .ok (.iconst 1, 1) := by decide +kernel
theorem dX4_is_37 : decode cX4_is 37 = .ok (.ireturn, 1) := by decide +kernel
theorem dX4_digit_0 : decode cX4_digit 0 = .ok (.aload_n 0, 1) := by decide +kernel
theorem dX4_digit_1 : decode cX4_digit 1 = .ok (.getfield 70, 3) := by decide +kernel
theorem dX4_digit_4 : decode cX4_digit 4 = .ok (.aload_n 0, 1) := by decide +kernel
theorem dX4_digit_5 : decode cX4_digit 5 = .ok (.getfield 67, 3) := by decide +kernel
theorem dX4_digit_8 : decode cX4_digit 8 = .ok (.if_icmp .eq 31, 3) := by decide +kernel
theorem dX4_digit_11 : decode cX4_digit 11 = .ok (.aload_n 0, 1) := by decide +kernel
theorem dX4_digit_12 : decode cX4_digit 12 = .ok (.getfield 28, 3) := by decide +kernel
theorem dX4_digit_15 : decode cX4_digit 15 = .ok (.aload_n 0, 1) := by decide +kernel
theorem dX4_digit_16 : decode cX4_digit 16 = .ok (.getfield 70, 3) := by decide +kernel
theorem dX4_digit_19 : decode cX4_digit 19 = .ok (.iaload, 1) := by decide +kernel
theorem dX4_digit_20 : decode cX4_digit 20 = .ok (.bipush 48, 2) := by decide +kernel
theorem dX4_digit_22 : decode cX4_digit 22 = .ok (.if_icmp .lt 17, 3) := by decide +kernel
theorem dX4_digit_25 : decode cX4_digit 25 = .ok (.aload_n 0, 1) := by decide +kernel
theorem dX4_digit_26 : decode cX4_digit 26 = .ok (.getfield 28, 3) := by decide +kernel
theorem dX4_digit_29 : decode cX4_digit 29 = .ok (.aload_n 0, 1) := by decide +kernel
theorem dX4_digit_30 : decode cX4_digit 30 = .ok (.getfield 70, 3) := by decide +kernel
theorem dX4_digit_33 : decode cX4_digit 33 = .ok (.iaload, 1) := by decide +kernel
theorem dX4_digit_34 : decode cX4_digit 34 = .ok (.bipush 57, 2) := by decide +kernel
theorem dX4_digit_36 : decode cX4_digit 36 = .ok (.if_icmp .le 5, 3) := by decide +kernel
theorem dX4_digit_39 : decode cX4_digit 39 = .ok (.iconst 0, 1) := by decide +kernel
theorem dX4_digit_40 : decode cX4_digit 40 = .ok (.ireturn, 1) := by decide +kernel
theorem dX4_digit_41 : decode cX4_digit 41 = .ok (.aload_n 0, 1) := by decide +kernel
theorem dX4_digit_42 : decode cX4_digit 42 = .ok (.getfield 31, 3) := by decide +kernel
theorem dX4_digit_45 : decode cX4_digit 45 = .ok (.iload_n 1, 1) := by decide +kernel
theorem dX4_digit_46 : decode cX4_digit 46 = .ok (.aload_n 0, 1) := by decide +kernel
theorem dX4_digit_47 : decode cX4_digit 47 = .ok (.getfield 28, 3) := by decide +kernel
theorem dX4_digit_50 : decode cX4_digit 50 = .ok (.aload_n 0, 1) := by decide +kernel
theorem dX4_digit_51 : decode cX4_digit 51 = .ok (.dup, 1) := by decide +kernel
theorem dX4_digit_52 : decode cX4_digit 52 = .ok (.getfield 70, 3) := by decide +kernel
theorem dX4_digit_55 : decode cX4_digit 55 = .ok (.dup_x1, 1) := by decide +kernel
theorem dX4_digit_56 : decode cX4_digit 56 = .ok (.iconst 1, 1) := by decide +kernel
theorem dX4_digit_57 : decode cX4_digit 57 = .ok (.iadd, 1) := by decide +kernel
theorem dX4_digit_58 : decode cX4_digit 58 = .ok (.putfield 70, 3) := by decide +kernel
theorem dX4_digit_61 : decode cX4_digit 61 = .ok (.iaload, 1) := by decide +kernel
theorem dX4_digit_62 : decode cX4_digit 62 = .ok (.bipush 48, 2) := by decide +kernel
theorem dX4_digit_64 : decode cX4_digit 64 = .ok (.isub, 1) := by decide +kernel
theorem dX4_digit_65 : decode cX4_digit 65 = .ok (.iastore, 1) := by decide +kernel
theorem dX4_digit_66 : decode cX4_digit 66 = .ok (.iconst 1, 1) := by decide +kernel
theorem dX4_digit_67 : decode cX4_digit 67 = .ok (.ireturn, 1) := by decide +kernel
theorem dX4_isOld_0 : decode cX4_isOld 0 = .ok (.iconst 0, 1) := by decide +kernel
theorem dX4_isOld_1 : decode cX4_isOld 1 = .ok (.istore_n 3, 1) := by decide +kernel
theorem dX4_isOld_2 : decode cX4_isOld 2 = .ok (.iload_n 3, 1) := by decide +kernel
theorem dX4_isOld_3 : decode cX4_isOld 3 = .ok (.aload_n 0, 1) := by decide +kernel
theorem dX4_isOld_4 : decode cX4_isOld 4 = .ok (.getfield 60, 3) := by decide +kernel
theorem dX4_isOld_7 : decode cX4_isOld 7 = .ok (.if_icmp .ge 39, 3) := by decide +kernel
theorem dX4_isOld_10 : decode cX4_isOld 10 = .ok (.aload_n 0, 1) := by decide +kernel
theorem dX4_isOld_11 : decode cX4_isOld 11 = .ok (.getfield 7, 3) := by decide +kernel
theorem dX4_isOld_14 : decode cX4_isOld 14 = .ok (.iload_n 3, 1) := by decide +kernel
theorem dX4_isOld_15 : decode cX4_isOld 15 = .ok (.iaload, 1) := by decide +kernel
theorem dX4_isOld_16 : decode cX4_isOld 16 = .ok (.iload_n 1, 1) := by decide +kernel
theorem dX4_isOld_17 : decode cX4_isOld 17 = .ok (.iload_n 2, 1) := by decide +kernel
theorem dX4_isOld_18 : decode cX4_isOld 18 = .ok (.invokestatic 73, 3) := by decide +kernel
theorem dX4_isOld_21 : decode cX4_isOld 21 = .ok (.if_icmp .ne 19, 3) := by decide +kernel
theorem dX4_isOld_24 : decode cX4_isOld 24 = .ok (.aload_n 0, 1) := by decide +kernel
theorem dX4_isOld_25 : decode cX4_isOld 25 = .ok (.getfield 13, 3) := by decide +kernel
theorem dX4_isOld_28 : decode cX4_isOld 28 = .ok (.iload_n 3, 1) := by decide +kernel
theorem dX4_isOld_29 : decode cX4_isOld 29 = .ok (.iaload, 1) := by decide +kernel
theorem dX4_isOld_30 : decode cX4_isOld 30 = .ok (.iload_n 1, 1) := by decide +kernel
theorem dX4_isOld_31 : decode cX4_isOld 31 = .ok (.iload_n 2, 1) := by decide +kernel
theorem dX4_isOld_32 : decode cX4_isOld 32 = .ok (.invokestatic 79, 3) := by decide +kernel
theorem dX4_isOld_35 : decode cX4_isOld 35 = .ok (.if_icmp .ne 5, 3) := by decide +kernel
theorem dX4_isOld_38 : decode cX4_isOld 38 = .ok (.iconst 1, 1) := by decide +kernel
theorem dX4_isOld_39 : decode cX4_isOld 39 = .ok (.ireturn, 1) := by decide +kernel
theorem dX4_isOld_40 : decode cX4_isOld 40 = .ok (.iinc 3 1, 3) := by decide +kernel
theorem dX4_isOld_43 : decode cX4_isOld 43 = .ok (.goto (-41), 3) := by decide +kernel
theorem dX4_isOld_46 : decode cX4_isOld 46 = .ok (.iconst 0, 1) := by decide +kernel
theorem dX4_isOld_47 : decode cX4_isOld 47 = .ok (.ireturn, 1) := by decide +kernel
theorem dX4_statement_0 : decode cX4_statement 0 = .ok (.aload_n 0, 1) := by decide +kernel
theorem dX4_statement_1 : decode cX4_statement 1 = .ok (.bipush 99, 2) := by decide +kernel
theorem dX4_statement_3 : decode cX4_statement 3 = .ok (.invokevirtual 82, 3) := by decide +kernel
theorem dX4_statement_6 : decode cX4_statement 6 = .ok (.ifCond .eq 53, 3) := by decide +kernel
theorem dX4_statement_9 : decode cX4_statement 9 = .ok (.aload_n 0, 1) := by decide +kernel
theorem dX4_statement_10 : decode cX4_statement 10 = .ok (.iconst 0, 1) := by decide +kernel
theorem dX4_statement_11 : decode cX4_statement 11 = .ok (.invokevirtual 86, 3) := by decide +kernel
theorem dX4_statement_14 : decode cX4_statement 14 = .ok (.ifCond .ne 5, 3) := by decide +kernel
theorem dX4_statement_17 : decode cX4_statement 17 = .ok (.iconst (-1), 1) := by decide +kernel
theorem dX4_statement_18 : decode cX4_statement 18 = .ok (.ireturn, 1) := by decide +kernel
theorem dX4_statement_19 : decode cX4_statement 19 = .ok (.iload_n 1, 1) := by decide +kernel
theorem dX4_statement_20 : decode cX4_statement 20 = .ok (.ifCond .ne 5, 3) := by decide +kernel
theorem dX4_statement_23 : decode cX4_statement 23 = .ok (.iconst 1, 1) := by decide +kernel
theorem dX4_statement_24 : decode cX4_statement 24 = .ok (.ireturn, 1) := by decide +kernel
theorem dX4_statement_25 : decode cX4_statement 25 = .ok (.aload_n 0, 1) := by decide +kernel
theorem dX4_statement_26 : decode cX4_statement 26 = .ok (.aload_n 0, 1) := by decide +kernel
theorem dX4_statement_27 : decode cX4_statement 27 = .ok (.getfield 31, 3) := by decide +kernel
theorem dX4_statement_30 : decode cX4_statement 30 = .ok (.iconst 0, 1) := by decide +kernel
theorem dX4_statement_31 : decode cX4_statement 31 = .ok (.iaload, 1) := by decide +kernel
theorem dX4_statement_32 : decode cX4_statement 32 = .ok (.invokevirtual 89, 3) := by decide +kernel
theorem dX4_statement_35 : decode cX4_statement 35 = .ok (.ifCond .ne 5, 3) := by decide +kernel
theorem dX4_statement_38 : decode cX4_statement 38 = .ok (.iconst 0, 1) := by decide +kernel
theorem dX4_statement_39 : decode cX4_statement 39 = .ok (.ireturn, 1) := by decide +kernel
theorem dX4_statement_40 : decode cX4_statement 40 = .ok (.aload_n 0, 1) := by decide +kernel
theorem dX4_statement_41 : decode cX4_statement 41 = .ok (.dup, 1) := by decide +kernel
theorem dX4_statement_42 : decode cX4_statement 42 = .ok (.getfield 92, 3) := by decide +kernel
theorem dX4_statement_45 : decode cX4_statement 45 = .ok (.iconst 1, 1) := by decide +kernel
theorem dX4_statement_46 : decode cX4_statement 46 = .ok (.aload_n 0, 1) := by decide +kernel
theorem dX4_statement_47 : decode cX4_statement 47 = .ok (.getfield 31, 3) := by decide +kernel
theorem dX4_statement_50 : decode cX4_statement 50 = .ok (.iconst 0, 1) := by decide +kernel
theorem dX4_statement_51 : decode cX4_statement 51 = .ok (.iaload, 1) := by decide +kernel
theorem dX4_statement_52 : decode cX4_statement 52 = .ok (.ishl, 1) := by decide +kernel
theorem dX4_statement_53 : decode cX4_statement 53 = .ok (.ixor, 1) := by decide +kernel
theorem dX4_statement_54 : decode cX4_statement 54 = .ok (.putfield 92, 3) := by decide +kernel
theorem dX4_statement_57 : decode cX4_statement 57 = .ok (.iconst 1, 1) := by decide +kernel
theorem dX4_statement_58 : decode cX4_statement 58 = .ok (.ireturn, 1) := by decide +kernel
theorem dX4_statement_59 : decode cX4_statement 59 = .ok (.aload_n 0, 1) := by decide +kernel
theorem dX4_statement_60 : decode cX4_statement 60 = .ok (.bipush 104, 2) := by decide +kernel
theorem dX4_statement_62 : decode cX4_statement 62 = .ok (.invokevirtual 82, 3) := by decide +kernel
theorem dX4_statement_65 : decode cX4_statement 65 = .ok (.ifCond .eq 44, 3) := by decide +kernel
theorem dX4_statement_68 : decode cX4_statement 68 = .ok (.aload_n 0, 1) := by decide +kernel
theorem dX4_statement_69 : decode cX4_statement 69 = .ok (.iconst 0, 1) := by decide +kernel
theorem dX4_statement_70 : decode cX4_statement 70 = .ok (.invokevirtual 86, 3) := by decide +kernel
theorem dX4_statement_73 : decode cX4_statement 73 = .ok (.ifCond .ne 5, 3) := by decide +kernel
theorem dX4_statement_76 : decode cX4_statement 76 = .ok (.iconst (-1), 1) := by decide +kernel
theorem dX4_statement_77 : decode cX4_statement 77 = .ok (.ireturn, 1) := by decide +kernel
theorem dX4_statement_78 : decode cX4_statement 78 = .ok (.iload_n 1, 1) := by decide +kernel
theorem dX4_statement_79 : decode cX4_statement 79 = .ok (.ifCond .ne 5, 3) := by decide +kernel
theorem dX4_statement_82 : decode cX4_statement 82 = .ok (.iconst 1, 1) := by decide +kernel
theorem dX4_statement_83 : decode cX4_statement 83 = .ok (.ireturn, 1) := by decide +kernel
theorem dX4_statement_84 : decode cX4_statement 84 = .ok (.aload_n 0, 1) := by decide +kernel
theorem dX4_statement_85 : decode cX4_statement 85 = .ok (.getfield 31, 3) := by decide +kernel
theorem dX4_statement_88 : decode cX4_statement 88 = .ok (.iconst 0, 1) := by decide +kernel
theorem dX4_statement_89 : decode cX4_statement 89 = .ok (.iaload, 1) := by decide +kernel
theorem dX4_statement_90 : decode cX4_statement 90 = .ok (.bipush 7, 2) := by decide +kernel
theorem dX4_statement_92 : decode cX4_statement 92 = .ok (.if_icmp .le 5, 3) := by decide +kernel
theorem dX4_statement_95 : decode cX4_statement 95 = .ok (.iconst 0, 1) := by decide +kernel
theorem dX4_statement_96 : decode cX4_statement 96 = .ok (.ireturn, 1) := by decide +kernel
theorem dX4_statement_97 : decode cX4_statement 97 = .ok (.aload_n 0, 1) := by decide +kernel
theorem dX4_statement_98 : decode cX4_statement 98 = .ok (.aload_n 0, 1) := by decide +kernel
theorem dX4_statement_99 : decode cX4_statement 99 = .ok (.getfield 31, 3) := by decide +kernel
theorem dX4_statement_102 : decode cX4_statement 102 = .ok (.iconst 0, 1) := by decide +kernel
theorem dX4_statement_103 : decode cX4_statement 103 = .ok (.iaload, 1) := by decide +kernel
theorem dX4_statement_104 : decode cX4_statement 104 = .ok (.putfield 95, 3) := by decide +kernel
theorem dX4_statement_107 : decode cX4_statement 107 = .ok (.iconst 1, 1) := by decide +kernel
theorem dX4_statement_108 : decode cX4_statement 108 = .ok (.ireturn, 1) := by decide +kernel
theorem dX4_statement_109 : decode cX4_statement 109 = .ok (.aload_n 0, 1) := by decide +kernel
theorem dX4_statement_110 : decode cX4_statement 110 = .ok (.bipush 116, 2) := by decide +kernel
theorem dX4_statement_112 : decode cX4_statement 112 = .ok (.invokevirtual 82, 3) := by decide +kernel
theorem dX4_statement_115 : decode cX4_statement 115 = .ok (.ifCond .eq 143, 3) := by decide +kernel
theorem dX4_statement_118 : decode cX4_statement 118 = .ok (.aload_n 0, 1) := by decide +kernel
theorem dX4_statement_119 : decode cX4_statement 119 = .ok (.getfield 70, 3) := by decide +kernel
theorem dX4_statement_122 : decode cX4_statement 122 = .ok (.aload_n 0, 1) := by decide +kernel
theorem dX4_statement_123 : decode cX4_statement 123 = .ok (.getfield 67, 3) := by decide +kernel
theorem dX4_statement_126 : decode cX4_statement 126 = .ok (.if_icmp .ge 32, 3) := by decide +kernel
theorem dX4_statement_129 : decode cX4_statement 129 = .ok (.aload_n 0, 1) := by decide +kernel
theorem dX4_statement_130 : decode cX4_statement 130 = .ok (.getfield 28, 3) := by decide +kernel
theorem dX4_statement_133 : decode cX4_statement 133 = .ok (.aload_n 0, 1) := by decide +kernel
theorem dX4_statement_134 : decode cX4_statement 134 = .ok (.getfield 70, 3) := by decide +kernel
theorem dX4_statement_137 : decode cX4_statement 137 = .ok (.iaload, 1) := by decide +kernel
theorem dX4_statement_138 : decode cX4_statement 138 = .ok (.ifCond .le 20, 3) := by decide +kernel
theorem dX4_statement_141 : decode cX4_statement 141 = .ok (.ldc 98, 2) := by decide +kernel
theorem dX4_statement_143 : decode cX4_statement 143 = .ok (.aload_n 0, 1) := by decide +kernel
theorem dX4_statement_144 : decode cX4_statement 144 = .ok (.getfield 28, 3) := by decide +kernel
theorem dX4_statement_147 : decode cX4_statement 147 = .ok (.aload_n 0, 1) := by decide +kernel
theorem dX4_statement_148 : decode cX4_statement 148 = .ok (.getfield 70, 3) := by decide +kernel
theorem dX4_statement_151 : decode cX4_statement 151 = .ok (.iaload, 1) := by decide +kernel
theorem dX4_statement_152 : decode cX4_statement 152 = .ok (.invokevirtual 100, 3) := by decide +kernel
theorem dX4_statement_155 : decode cX4_statement 155 = .ok (.goto 4, 3) := by decide +kernel
theorem dX4_statement_158 : decode cX4_statement 158 = .ok (.iconst (-1), 1) := by decide +kernel
theorem dX4_statement_159 : decode cX4_statement 159 = .ok (.istore_n 2, 1) := by decide +kernel
theorem dX4_statement_160 : decode cX4_statement 160 = .ok (.iload_n 2, 1) := by decide +kernel
theorem dX4_statement_161 : decode cX4_statement 161 = .ok (.ifCond .ge 5, 3) := by decide +kernel
theorem dX4_statement_164 : decode cX4_statement 164 = .ok (.iconst (-1), 1) := by decide +kernel
theorem dX4_statement_165 : decode cX4_statement 165 = .ok (.ireturn, 1) := by decide +kernel
theorem dX4_statement_166 : decode cX4_statement 166 = .ok (.aload_n 0, 1) := by decide +kernel
theorem dX4_statement_167 : decode cX4_statement 167 = .ok (.dup, 1) := by decide +kernel
theorem dX4_statement_168 : decode cX4_statement 168 = .ok (.getfield 70, 3) := by decide +kernel
theorem dX4_statement_171 : decode cX4_statement 171 = .ok (.iconst 1, 1) := by decide +kernel
theorem dX4_statement_172 : decode cX4_statement 172 = .ok (.iadd, 1) := by decide +kernel
theorem dX4_statement_173 : decode cX4_statement 173 = .ok (.putfield 70, 3) := by decide +kernel
theorem dX4_statement_176 : decode cX4_statement 176 = .ok (.aload_n 0, 1) := by decide +kernel
theorem dX4_statement_177 : decode cX4_statement 177 = .ok (.iconst 0, 1) := by decide +kernel
theorem dX4_statement_178 : decode cX4_statement 178 = .ok (.invokevirtual 86, 3) := by decide +kernel
theorem dX4_statement_181 : decode cX4_statement 181 = .ok (.ifCond .ne 5, 3) := by decide +kernel
theorem dX4_statement_184 : decode cX4_statement 184 = .ok (.iconst (-1), 1) := by decide +kernel
theorem dX4_statement_185 : decode cX4_statement 185 = .ok (.ireturn, 1) := by decide +kernel
theorem dX4_statement_186 : decode cX4_statement 186 = .ok (.iload_n 1, 1) := by decide +kernel
theorem dX4_statement_187 : decode cX4_statement 187 = .ok (.ifCond .ne 5, 3) := by decide +kernel
theorem dX4_statement_190 : decode cX4_statement 190 = .ok (.iconst 1, 1) := by decide +kernel
theorem dX4_statement_191 : decode cX4_statement 191 = .ok (.ireturn, 1) := by decide +kernel
theorem dX4_statement_192 : decode cX4_statement 192 = .ok (.aload_n 0, 1) := by decide +kernel
theorem dX4_statement_193 : decode cX4_statement 193 = .ok (.getfield 31, 3) := by decide +kernel
theorem dX4_statement_196 : decode cX4_statement 196 = .ok (.iconst 0, 1) := by decide +kernel
theorem dX4_statement_197 : decode cX4_statement 197 = .ok (.iaload, 1) := by decide +kernel
theorem dX4_statement_198 : decode cX4_statement 198 = .ok (.iconst 5, 1) := by decide +kernel
theorem dX4_statement_199 : decode cX4_statement 199 = .ok (.if_icmp .gt 12, 3) := by decide +kernel
theorem dX4_statement_202 : decode cX4_statement 202 = .ok (.aload_n 0, 1) := by decide +kernel
theorem dX4_statement_203 : decode cX4_statement 203 = .ok (.getfield 52, 3) := by decide +kernel
theorem dX4_statement_206 : decode cX4_statement 206 = .ok (.bipush 8, 2) := by decide +kernel
theorem dX4_statement_208 : decode cX4_statement 208 = .ok (.if_icmp .ne 5, 3) := by decide +kernel
theorem dX4_statement_211 : decode cX4_statement 211 = .ok (.iconst 0, 1) := by decide +kernel
theorem dX4_statement_212 : decode cX4_statement 212 = .ok (.ireturn, 1) := by decide +kernel
theorem dX4_statement_213 : decode cX4_statement 213 = .ok (.aload_n 0, 1) := by decide +kernel
theorem dX4_statement_214 : decode cX4_statement 214 = .ok (.getfield 16, 3) := by decide +kernel
theorem dX4_statement_217 : decode cX4_statement 217 = .ok (.aload_n 0, 1) := by decide +kernel
theorem dX4_statement_218 : decode cX4_statement 218 = .ok (.getfield 52, 3) := by decide +kernel
theorem dX4_statement_221 : decode cX4_statement 221 = .ok (.iload_n 2, 1) := by decide +kernel
theorem dX4_statement_222 : decode cX4_statement 222 = .ok (.iastore, 1) := by decide +kernel
theorem dX4_statement_223 : decode cX4_statement 223 = .ok (.aload_n 0, 1) := by decide +kernel
theorem dX4_statement_224 : decode cX4_statement 224 = .ok (.getfield 19, 3) := by decide +kernel
theorem dX4_statement_227 : decode cX4_statement 227 = .ok (.aload_n 0, 1) := by decide +kernel
theorem dX4_statement_228 : decode cX4_statement 228 = .ok (.getfield 52, 3) := by decide +kernel
theorem dX4_statement_231 : decode cX4_statement 231 = .ok (.aload_n 0, 1) := by decide +kernel
theorem dX4_statement_232 : decode cX4_statement 232 = .ok (.getfield 31, 3) := by decide +kernel
theorem dX4_statement_235 : decode cX4_statement 235 = .ok (.iconst 0, 1) := by decide +kernel
theorem dX4_statement_236 : decode cX4_statement 236 = .ok (.iaload, 1) := by decide +kernel
theorem dX4_statement_237 : decode cX4_statement 237 = .ok (.iastore, 1) := by decide +kernel
theorem dX4_statement_238 : decode cX4_statement 238 = .ok (.aload_n 0, 1) := by decide +kernel
theorem dX4_statement_239 : decode cX4_statement 239 = .ok (.getfield 22, 3) := by decide +kernel
theorem dX4_statement_242 : decode cX4_statement 242 = .ok (.aload_n 0, 1) := by decide +kernel
theorem dX4_statement_243 : decode cX4_statement 243 = .ok (.dup, 1) := by decide +kernel
theorem dX4_statement_244 : decode cX4_statement 244 = .ok (.getfield 52, 3) := by decide +kernel
theorem dX4_statement_247 : decode cX4_statement 247 = .ok (.dup_x1, 1) := by decide +kernel
theorem dX4_statement_248 : decode cX4_statement 248 = .ok (.iconst 1, 1) := by decide +kernel
theorem dX4_statement_249 : decode cX4_statement 249 = .ok (.iadd, 1) := by decide +kernel
theorem dX4_statement_250 : decode cX4_statement 250 = .ok (.putfield 52, 3) := by decide +kernel
theorem dX4_statement_253 : decode cX4_statement 253 = .ok (.bipush (-9), 2) := by decide +kernel
theorem dX4_statement_255 : decode cX4_statement 255 = .ok (.iastore, 1) := by decide +kernel
theorem dX4_statement_256 : decode cX4_statement 256 = .ok (.iconst 1, 1) := by decide +kernel
theorem dX4_statement_257 : decode cX4_statement 257 = .ok (.ireturn, 1) := by decide +kernel
theorem dX4_statement_258 : decode cX4_statement 258 = .ok (.aload_n 0, 1) := by decide +kernel
theorem dX4_statement_259 : decode cX4_statement 259 = .ok (.bipush 108, 2) := by decide +kernel
theorem dX4_statement_261 : decode cX4_statement 261 = .ok (.invokevirtual 82, 3) := by decide +kernel
theorem dX4_statement_264 : decode cX4_statement 264 = .ok (.istore_n 2, 1) := by decide +kernel
theorem dX4_statement_265 : decode cX4_statement 265 = .ok (.iload_n 2, 1) := by decide +kernel
theorem dX4_statement_266 : decode cX4_statement 266 = .ok (.ifCond .ne 16, 3) := by decide +kernel
theorem dX4_statement_269 : decode cX4_statement 269 = .ok (.aload_n 0, 1) := by decide +kernel
theorem dX4_statement_270 : decode cX4_statement 270 = .ok (.bipush 111, 2) := by decide +kernel
theorem dX4_statement_272 : decode cX4_statement 272 = .ok (.invokevirtual 82, 3) := by decide +kernel
theorem dX4_statement_275 : decode cX4_statement 275 = .ok (.ifCond .eq 7, 3) := by decide +kernel
theorem dX4_statement_278 : decode cX4_statement 278 = .ok (.iconst 1, 1) := by decide +kernel
theorem dX4_statement_279 : decode cX4_statement 279 = .ok (.goto 4, 3) := by decide +kernel
theorem dX4_statement_282 : decode cX4_statement 282 = .ok (.iconst 0, 1) := by decide +kernel
theorem dX4_statement_283 : decode cX4_statement 283 = .ok (.istore_n 3, 1) := by decide +kernel
theorem dX4_statement_284 : decode cX4_statement 284 = .ok (.iload_n 2, 1) := by decide +kernel
theorem dX4_statement_285 : decode cX4_statement 285 = .ok (.ifCond .ne 18, 3) := by decide +kernel
theorem dX4_statement_288 : decode cX4_statement 288 = .ok (.iload_n 3, 1) := by decide +kernel
theorem dX4_statement_289 : decode cX4_statement 289 = .ok (.ifCond .ne 14, 3) := by decide +kernel
theorem dX4_statement_292 : decode cX4_statement 292 = .ok (.aload_n 0, 1) := by decide +kernel
theorem dX4_statement_293 : decode cX4_statement 293 = .ok (.bipush 109, 2) := by decide +kernel
theorem dX4_statement_295 : decode cX4_statement 295 = .ok (.invokevirtual 82, 3) := by decide +kernel
theorem dX4_statement_298 : decode cX4_statement 298 = .ok (.ifCond .ne 5, 3) := by decide +kernel
theorem dX4_statement_301 : decode cX4_statement 301 = .ok (.iconst (-1), 1) := by decide +kernel
theorem dX4_statement_302 : decode cX4_statement 302 = .ok (.ireturn, 1) := by decide +kernel
theorem dX4_statement_303 : decode cX4_statement 303 = .ok (.aload_n 0, 1) := by decide +kernel
theorem dX4_statement_304 : decode cX4_statement 304 = .ok (.iconst 0, 1) := by decide +kernel
theorem dX4_statement_305 : decode cX4_statement 305 = .ok (.invokevirtual 86, 3) := by decide +kernel
theorem dX4_statement_308 : decode cX4_statement 308 = .ok (.ifCond .eq 11, 3) := by decide +kernel
theorem dX4_statement_311 : decode cX4_statement 311 = .ok (.aload_n 0, 1) := by decide +kernel
theorem dX4_statement_312 : decode cX4_statement 312 = .ok (.iconst 1, 1) := by decide +kernel
theorem dX4_statement_313 : decode cX4_statement 313 = .ok (.invokevirtual 86, 3) := by decide +kernel
theorem dX4_statement_316 : decode cX4_statement 316 = .ok (.ifCond .ne 5, 3) := by decide +kernel
theorem dX4_statement_319 : decode cX4_statement 319 = .ok (.iconst (-1), 1) := by decide +kernel
theorem dX4_statement_320 : decode cX4_statement 320 = .ok (.ireturn, 1) := by decide +kernel
theorem dX4_statement_321 : decode cX4_statement 321 = .ok (.iload_n 1, 1) := by decide +kernel
theorem dX4_statement_322 : decode cX4_statement 322 = .ok (.ifCond .ne 5, 3) := by decide +kernel
theorem dX4_statement_325 : decode cX4_statement 325 = .ok (.iconst 1, 1) := by decide +kernel
theorem dX4_statement_326 : decode cX4_statement 326 = .ok (.ireturn, 1) := by decide +kernel
theorem dX4_statement_327 : decode cX4_statement 327 = .ok (.aload_n 0, 1) := by decide +kernel
theorem dX4_statement_328 : decode cX4_statement 328 = .ok (.getfield 31, 3) := by decide +kernel
theorem dX4_statement_331 : decode cX4_statement 331 = .ok (.iconst 0, 1) := by decide +kernel
theorem dX4_statement_332 : decode cX4_statement 332 = .ok (.iaload, 1) := by decide +kernel
theorem dX4_statement_333 : decode cX4_statement 333 = .ok (.istore 4, 2) := by decide +kernel
theorem dX4_statement_335 : decode cX4_statement 335 = .ok (.aload_n 0, 1) := by decide +kernel
theorem dX4_statement_336 : decode cX4_statement 336 = .ok (.getfield 31, 3) := by decide +kernel
theorem dX4_statement_339 : decode cX4_statement 339 = .ok (.iconst 1, 1) := by decide +kernel
theorem dX4_statement_340 : decode cX4_statement 340 = .ok (.iaload, 1) := by decide +kernel
theorem dX4_statement_341 : decode cX4_statement 341 = .ok (.istore 5, 2) := by decide +kernel
theorem dX4_statement_343 : decode cX4_statement 343 = .ok (.iload_n 2, 1) := by decide +kernel
theorem dX4_statement_344 : decode cX4_statement 344 = .ok (.ifCond .eq 89, 3) := by decide +kernel
theorem dX4_statement_347 : decode cX4_statement 347 = .ok (.iload 4, 2) := by decide +kernel
theorem dX4_statement_349 : decode cX4_statement 349 = .ok (.invokestatic 105, 3) := by decide +kernel
theorem dX4_statement_352 : decode cX4_statement 352 = .ok (.ifCond .eq 38, 3) := by decide +kernel
theorem dX4_statement_355 : decode cX4_statement 355 = .ok (.iload 5, 2) := by decide +kernel
theorem dX4_statement_357 : decode cX4_statement 357 = .ok (.invokestatic 105, 3) := by decide +kernel
theorem dX4_statement_360 : decode cX4_statement 360 = .ok (.ifCond .eq 30, 3) := by decide +kernel
end
section
theorem dX4_statement_363 : decode cX4_statement 363 = .ok (.iload 4, 2) := by decide +kernel
theorem dX4_statement_365 : decode cX4_statement 365 = .ok (.iload 5, 2) := by decide +kernel
theorem dX4_statement_367 : decode cX4_statement 367 = .ok (.if_icmp .eq 23, 3) := by decide +kernel
theorem dX4_statement_370 : decode cX4_statement 370 = .ok (.aload_n 0, 1) := by decide +kernel
theorem dX4_statement_371 : decode cX4_statement 371 = .ok (.iload 4, 2) := by decide +kernel
theorem dX4_statement_373 : decode cX4_statement 373 = .ok (.iload 5, 2) := by decide +kernel
theorem dX4_statement_375 : decode cX4_statement 375 = .ok (.invokevirtual 108, 3) := by decide +kernel
theorem dX4_statement_378 : decode cX4_statement 378 = .ok (.ifCond .ne 12, 3) := by decide +kernel
theorem dX4_statement_381 : decode cX4_statement 381 = .ok (.aload_n 0, 1) := by decide +kernel
theorem dX4_statement_382 : decode cX4_statement 382 = .ok (.getfield 60, 3) := by decide +kernel
theorem dX4_statement_385 : decode cX4_statement 385 = .ok (.bipush 10, 2) := by decide +kernel
theorem dX4_statement_387 : decode cX4_statement 387 = .ok (.if_icmp .ne 5, 3) := by decide +kernel
theorem dX4_statement_390 : decode cX4_statement 390 = .ok (.iconst 0, 1) := by decide +kernel
theorem dX4_statement_391 : decode cX4_statement 391 = .ok (.ireturn, 1) := by decide +kernel
theorem dX4_statement_392 : decode cX4_statement 392 = .ok (.aload_n 0, 1) := by decide +kernel
theorem dX4_statement_393 : decode cX4_statement 393 = .ok (.getfield 7, 3) := by decide +kernel
theorem dX4_statement_396 : decode cX4_statement 396 = .ok (.aload_n 0, 1) := by decide +kernel
theorem dX4_statement_397 : decode cX4_statement 397 = .ok (.getfield 60, 3) := by decide +kernel
theorem dX4_statement_400 : decode cX4_statement 400 = .ok (.iload 4, 2) := by decide +kernel
theorem dX4_statement_402 : decode cX4_statement 402 = .ok (.iload 5, 2) := by decide +kernel
theorem dX4_statement_404 : decode cX4_statement 404 = .ok (.invokestatic 73, 3) := by decide +kernel
theorem dX4_statement_407 : decode cX4_statement 407 = .ok (.iastore, 1) := by decide +kernel
theorem dX4_statement_408 : decode cX4_statement 408 = .ok (.aload_n 0, 1) := by decide +kernel
theorem dX4_statement_409 : decode cX4_statement 409 = .ok (.getfield 13, 3) := by decide +kernel
theorem dX4_statement_412 : decode cX4_statement 412 = .ok (.aload_n 0, 1) := by decide +kernel
theorem dX4_statement_413 : decode cX4_statement 413 = .ok (.dup, 1) := by decide +kernel
theorem dX4_statement_414 : decode cX4_statement 414 = .ok (.getfield 60, 3) := by decide +kernel
theorem dX4_statement_417 : decode cX4_statement 417 = .ok (.dup_x1, 1) := by decide +kernel
theorem dX4_statement_418 : decode cX4_statement 418 = .ok (.iconst 1, 1) := by decide +kernel
theorem dX4_statement_419 : decode cX4_statement 419 = .ok (.iadd, 1) := by decide +kernel
theorem dX4_statement_420 : decode cX4_statement 420 = .ok (.putfield 60, 3) := by decide +kernel
theorem dX4_statement_423 : decode cX4_statement 423 = .ok (.iload 4, 2) := by decide +kernel
theorem dX4_statement_425 : decode cX4_statement 425 = .ok (.iload 5, 2) := by decide +kernel
theorem dX4_statement_427 : decode cX4_statement 427 = .ok (.invokestatic 79, 3) := by decide +kernel
theorem dX4_statement_430 : decode cX4_statement 430 = .ok (.iastore, 1) := by decide +kernel
theorem dX4_statement_431 : decode cX4_statement 431 = .ok (.iconst 1, 1) := by decide +kernel
theorem dX4_statement_432 : decode cX4_statement 432 = .ok (.ireturn, 1) := by decide +kernel
theorem dX4_statement_433 : decode cX4_statement 433 = .ok (.aload_n 0, 1) := by decide +kernel
theorem dX4_statement_434 : decode cX4_statement 434 = .ok (.iload 4, 2) := by decide +kernel
theorem dX4_statement_436 : decode cX4_statement 436 = .ok (.invokevirtual 112, 3) := by decide +kernel
theorem dX4_statement_439 : decode cX4_statement 439 = .ok (.ifCond .ne 5, 3) := by decide +kernel
theorem dX4_statement_442 : decode cX4_statement 442 = .ok (.iconst 0, 1) := by decide +kernel
theorem dX4_statement_443 : decode cX4_statement 443 = .ok (.ireturn, 1) := by decide +kernel
theorem dX4_statement_444 : decode cX4_statement 444 = .ok (.iload_n 3, 1) := by decide +kernel
theorem dX4_statement_445 : decode cX4_statement 445 = .ok (.ifCond .eq 32, 3) := by decide +kernel
theorem dX4_statement_448 : decode cX4_statement 448 = .ok (.aload_n 0, 1) := by decide +kernel
theorem dX4_statement_449 : decode cX4_statement 449 = .ok (.iload 5, 2) := by decide +kernel
theorem dX4_statement_451 : decode cX4_statement 451 = .ok (.invokevirtual 112, 3) := by decide +kernel
theorem dX4_statement_454 : decode cX4_statement 454 = .ok (.ifCond .eq 10, 3) := by decide +kernel
theorem dX4_statement_457 : decode cX4_statement 457 = .ok (.iload 4, 2) := by decide +kernel
theorem dX4_statement_459 : decode cX4_statement 459 = .ok (.iload 5, 2) := by decide +kernel
theorem dX4_statement_461 : decode cX4_statement 461 = .ok (.if_icmp .ne 5, 3) := by decide +kernel
theorem dX4_statement_464 : decode cX4_statement 464 = .ok (.iconst 0, 1) := by decide +kernel
theorem dX4_statement_465 : decode cX4_statement 465 = .ok (.ireturn, 1) := by decide +kernel
theorem dX4_statement_466 : decode cX4_statement 466 = .ok (.aload_n 0, 1) := by decide +kernel
theorem dX4_statement_467 : decode cX4_statement 467 = .ok (.iload 4, 2) := by decide +kernel
theorem dX4_statement_469 : decode cX4_statement 469 = .ok (.iload 5, 2) := by decide +kernel
theorem dX4_statement_471 : decode cX4_statement 471 = .ok (.invokevirtual 115, 3) := by decide +kernel
theorem dX4_statement_474 : decode cX4_statement 474 = .ok (.pop, 1) := by decide +kernel
theorem dX4_statement_475 : decode cX4_statement 475 = .ok (.iconst 1, 1) := by decide +kernel
theorem dX4_statement_476 : decode cX4_statement 476 = .ok (.ireturn, 1) := by decide +kernel
theorem dX4_statement_477 : decode cX4_statement 477 = .ok (.iload 5, 2) := by decide +kernel
theorem dX4_statement_479 : decode cX4_statement 479 = .ok (.invokestatic 105, 3) := by decide +kernel
theorem dX4_statement_482 : decode cX4_statement 482 = .ok (.ifCond .ne 5, 3) := by decide +kernel
theorem dX4_statement_485 : decode cX4_statement 485 = .ok (.iconst 0, 1) := by decide +kernel
theorem dX4_statement_486 : decode cX4_statement 486 = .ok (.ireturn, 1) := by decide +kernel
theorem dX4_statement_487 : decode cX4_statement 487 = .ok (.aload_n 0, 1) := by decide +kernel
theorem dX4_statement_488 : decode cX4_statement 488 = .ok (.getfield 19, 3) := by decide +kernel
theorem dX4_statement_491 : decode cX4_statement 491 = .ok (.iload 4, 2) := by decide +kernel
theorem dX4_statement_493 : decode cX4_statement 493 = .ok (.iload 5, 2) := by decide +kernel
theorem dX4_statement_495 : decode cX4_statement 495 = .ok (.iastore, 1) := by decide +kernel
theorem dX4_statement_496 : decode cX4_statement 496 = .ok (.iconst 1, 1) := by decide +kernel
theorem dX4_statement_497 : decode cX4_statement 497 = .ok (.ireturn, 1) := by decide +kernel
theorem dX4_house_0 : decode cX4_house 0 = .ok (.aload_n 0, 1) := by decide +kernel
theorem dX4_house_1 : decode cX4_house 1 = .ok (.iconst 0, 1) := by decide +kernel
theorem dX4_house_2 : decode cX4_house 2 = .ok (.putfield 70, 3) := by decide +kernel
theorem dX4_house_5 : decode cX4_house 5 = .ok (.iconst 1, 1) := by decide +kernel
theorem dX4_house_6 : decode cX4_house 6 = .ok (.istore_n 1, 1) := by decide +kernel
theorem dX4_house_7 : decode cX4_house 7 = .ok (.iload_n 1, 1) := by decide +kernel
theorem dX4_house_8 : decode cX4_house 8 = .ok (.ifCond .eq 45, 3) := by decide +kernel
theorem dX4_house_11 : decode cX4_house 11 = .ok (.aload_n 0, 1) := by decide +kernel
theorem dX4_house_12 : decode cX4_house 12 = .ok (.iconst 0, 1) := by decide +kernel
theorem dX4_house_13 : decode cX4_house 13 = .ok (.invokevirtual 118, 3) := by decide +kernel
theorem dX4_house_16 : decode cX4_house 16 = .ok (.iconst 1, 1) := by decide +kernel
theorem dX4_house_17 : decode cX4_house 17 = .ok (.if_icmp .ne 16, 3) := by decide +kernel
theorem dX4_house_20 : decode cX4_house 20 = .ok (.aload_n 0, 1) := by decide +kernel
theorem dX4_house_21 : decode cX4_house 21 = .ok (.bipush 59, 2) := by decide +kernel
theorem dX4_house_23 : decode cX4_house 23 = .ok (.invokevirtual 82, 3) := by decide +kernel
theorem dX4_house_26 : decode cX4_house 26 = .ok (.ifCond .eq 7, 3) := by decide +kernel
theorem dX4_house_29 : decode cX4_house 29 = .ok (.iconst 1, 1) := by decide +kernel
theorem dX4_house_30 : decode cX4_house 30 = .ok (.goto 4, 3) := by decide +kernel
theorem dX4_house_33 : decode cX4_house 33 = .ok (.iconst 0, 1) := by decide +kernel
theorem dX4_house_34 : decode cX4_house 34 = .ok (.istore_n 1, 1) := by decide +kernel
theorem dX4_house_35 : decode cX4_house 35 = .ok (.iload_n 1, 1) := by decide +kernel
theorem dX4_house_36 : decode cX4_house 36 = .ok (.ifCond .eq (-29), 3) := by decide +kernel
theorem dX4_house_39 : decode cX4_house 39 = .ok (.aload_n 0, 1) := by decide +kernel
theorem dX4_house_40 : decode cX4_house 40 = .ok (.getfield 70, 3) := by decide +kernel
theorem dX4_house_43 : decode cX4_house 43 = .ok (.aload_n 0, 1) := by decide +kernel
theorem dX4_house_44 : decode cX4_house 44 = .ok (.getfield 67, 3) := by decide +kernel
theorem dX4_house_47 : decode cX4_house 47 = .ok (.if_icmp .ne (-40), 3) := by decide +kernel
theorem dX4_house_50 : decode cX4_house 50 = .ok (.goto 3, 3) := by decide +kernel
theorem dX4_house_53 : decode cX4_house 53 = .ok (.iload_n 1, 1) := by decide +kernel
theorem dX4_house_54 : decode cX4_house 54 = .ok (.ifCond .ne 17, 3) := by decide +kernel
theorem dX4_house_57 : decode cX4_house 57 = .ok (.aload_n 0, 1) := by decide +kernel
theorem dX4_house_58 : decode cX4_house 58 = .ok (.iconst 0, 1) := by decide +kernel
theorem dX4_house_59 : decode cX4_house 59 = .ok (.putfield 67, 3) := by decide +kernel
theorem dX4_house_62 : decode cX4_house 62 = .ok (.sipush (-1000), 3) := by decide +kernel
theorem dX4_house_65 : decode cX4_house 65 = .ok (.aload_n 0, 1) := by decide +kernel
theorem dX4_house_66 : decode cX4_house 66 = .ok (.getfield 70, 3) := by decide +kernel
theorem dX4_house_69 : decode cX4_house 69 = .ok (.isub, 1) := by decide +kernel
theorem dX4_house_70 : decode cX4_house 70 = .ok (.ireturn, 1) := by decide +kernel
theorem dX4_house_71 : decode cX4_house 71 = .ok (.aload_n 0, 1) := by decide +kernel
theorem dX4_house_72 : decode cX4_house 72 = .ok (.aload_n 0, 1) := by decide +kernel
theorem dX4_house_73 : decode cX4_house 73 = .ok (.getfield 43, 3) := by decide +kernel
theorem dX4_house_76 : decode cX4_house 76 = .ok (.invokevirtual 122, 3) := by decide +kernel
theorem dX4_house_79 : decode cX4_house 79 = .ok (.aload_n 0, 1) := by decide +kernel
theorem dX4_house_80 : decode cX4_house 80 = .ok (.iconst 0, 1) := by decide +kernel
theorem dX4_house_81 : decode cX4_house 81 = .ok (.putfield 70, 3) := by decide +kernel
theorem dX4_house_84 : decode cX4_house 84 = .ok (.iconst 0, 1) := by decide +kernel
theorem dX4_house_85 : decode cX4_house 85 = .ok (.istore_n 2, 1) := by decide +kernel
theorem dX4_house_86 : decode cX4_house 86 = .ok (.aload_n 0, 1) := by decide +kernel
theorem dX4_house_87 : decode cX4_house 87 = .ok (.getfield 70, 3) := by decide +kernel
theorem dX4_house_90 : decode cX4_house 90 = .ok (.aload_n 0, 1) := by decide +kernel
theorem dX4_house_91 : decode cX4_house 91 = .ok (.getfield 67, 3) := by decide +kernel
theorem dX4_house_94 : decode cX4_house 94 = .ok (.if_icmp .ge 48, 3) := by decide +kernel
theorem dX4_house_97 : decode cX4_house 97 = .ok (.aload_n 0, 1) := by decide +kernel
theorem dX4_house_98 : decode cX4_house 98 = .ok (.getfield 70, 3) := by decide +kernel
theorem dX4_house_101 : decode cX4_house 101 = .ok (.istore_n 3, 1) := by decide +kernel
theorem dX4_house_102 : decode cX4_house 102 = .ok (.aload_n 0, 1) := by decide +kernel
theorem dX4_house_103 : decode cX4_house 103 = .ok (.iconst 1, 1) := by decide +kernel
theorem dX4_house_104 : decode cX4_house 104 = .ok (.invokevirtual 118, 3) := by decide +kernel
theorem dX4_house_107 : decode cX4_house 107 = .ok (.ifCond .ne 22, 3) := by decide +kernel
theorem dX4_house_110 : decode cX4_house 110 = .ok (.aload_n 0, 1) := by decide +kernel
theorem dX4_house_111 : decode cX4_house 111 = .ok (.aload_n 0, 1) := by decide +kernel
theorem dX4_house_112 : decode cX4_house 112 = .ok (.getfield 43, 3) := by decide +kernel
theorem dX4_house_115 : decode cX4_house 115 = .ok (.invokevirtual 126, 3) := by decide +kernel
theorem dX4_house_118 : decode cX4_house 118 = .ok (.aload_n 0, 1) := by decide +kernel
theorem dX4_house_119 : decode cX4_house 119 = .ok (.iconst 0, 1) := by decide +kernel
theorem dX4_house_120 : decode cX4_house 120 = .ok (.putfield 67, 3) := by decide +kernel
theorem dX4_house_123 : decode cX4_house 123 = .ok (.sipush (-2000), 3) := by decide +kernel
theorem dX4_house_126 : decode cX4_house 126 = .ok (.iload_n 3, 1) := by decide +kernel
theorem dX4_house_127 : decode cX4_house 127 = .ok (.isub, 1) := by decide +kernel
theorem dX4_house_128 : decode cX4_house 128 = .ok (.ireturn, 1) := by decide +kernel
theorem dX4_house_129 : decode cX4_house 129 = .ok (.aload_n 0, 1) := by decide +kernel
theorem dX4_house_130 : decode cX4_house 130 = .ok (.bipush 59, 2) := by decide +kernel
theorem dX4_house_132 : decode cX4_house 132 = .ok (.invokevirtual 82, 3) := by decide +kernel
theorem dX4_house_135 : decode cX4_house 135 = .ok (.pop, 1) := by decide +kernel
theorem dX4_house_136 : decode cX4_house 136 = .ok (.iinc 2 1, 3) := by decide +kernel
theorem dX4_house_139 : decode cX4_house 139 = .ok (.goto (-53), 3) := by decide +kernel
theorem dX4_house_142 : decode cX4_house 142 = .ok (.aload_n 0, 1) := by decide +kernel
theorem dX4_house_143 : decode cX4_house 143 = .ok (.iconst 0, 1) := by decide +kernel
theorem dX4_house_144 : decode cX4_house 144 = .ok (.putfield 67, 3) := by decide +kernel
theorem dX4_house_147 : decode cX4_house 147 = .ok (.iload_n 2, 1) := by decide +kernel
theorem dX4_house_148 : decode cX4_house 148 = .ok (.ireturn, 1) := by decide +kernel
theorem dX4_give_0 : decode cX4_give 0 = .ok (.aload_n 0, 1) := by decide +kernel
theorem dX4_give_1 : decode cX4_give 1 = .ok (.getfield 22, 3) := by decide +kernel
theorem dX4_give_4 : decode cX4_give 4 = .ok (.iload_n 1, 1) := by decide +kernel
theorem dX4_give_5 : decode cX4_give 5 = .ok (.iaload, 1) := by decide +kernel
theorem dX4_give_6 : decode cX4_give 6 = .ok (.iload_n 2, 1) := by decide +kernel
theorem dX4_give_7 : decode cX4_give 7 = .ok (.if_icmp .ne 5, 3) := by decide +kernel
theorem dX4_give_10 : decode cX4_give 10 = .ok (.iconst 0, 1) := by decide +kernel
theorem dX4_give_11 : decode cX4_give 11 = .ok (.ireturn, 1) := by decide +kernel
theorem dX4_give_12 : decode cX4_give 12 = .ok (.iconst 0, 1) := by decide +kernel
theorem dX4_give_13 : decode cX4_give 13 = .ok (.istore_n 3, 1) := by decide +kernel
theorem dX4_give_14 : decode cX4_give 14 = .ok (.iconst 0, 1) := by decide +kernel
theorem dX4_give_15 : decode cX4_give 15 = .ok (.istore 4, 2) := by decide +kernel
theorem dX4_give_17 : decode cX4_give 17 = .ok (.iload 4, 2) := by decide +kernel
theorem dX4_give_19 : decode cX4_give 19 = .ok (.aload_n 0, 1) := by decide +kernel
theorem dX4_give_20 : decode cX4_give 20 = .ok (.getfield 52, 3) := by decide +kernel
theorem dX4_give_23 : decode cX4_give 23 = .ok (.if_icmp .ge 58, 3) := by decide +kernel
theorem dX4_give_26 : decode cX4_give 26 = .ok (.iload 4, 2) := by decide +kernel
theorem dX4_give_28 : decode cX4_give 28 = .ok (.iload_n 1, 1) := by decide +kernel
theorem dX4_give_29 : decode cX4_give 29 = .ok (.if_icmp .eq 46, 3) := by decide +kernel
theorem dX4_give_32 : decode cX4_give 32 = .ok (.iload 4, 2) := by decide +kernel
theorem dX4_give_34 : decode cX4_give 34 = .ok (.iload_n 2, 1) := by decide +kernel
theorem dX4_give_35 : decode cX4_give 35 = .ok (.if_icmp .eq 40, 3) := by decide +kernel
theorem dX4_give_38 : decode cX4_give 38 = .ok (.aload_n 0, 1) := by decide +kernel
theorem dX4_give_39 : decode cX4_give 39 = .ok (.getfield 22, 3) := by decide +kernel
theorem dX4_give_42 : decode cX4_give 42 = .ok (.iload 4, 2) := by decide +kernel
theorem dX4_give_44 : decode cX4_give 44 = .ok (.iaload, 1) := by decide +kernel
theorem dX4_give_45 : decode cX4_give 45 = .ok (.iload_n 1, 1) := by decide +kernel
theorem dX4_give_46 : decode cX4_give 46 = .ok (.if_icmp .eq 17, 3) := by decide +kernel
theorem dX4_give_49 : decode cX4_give 49 = .ok (.aload_n 0, 1) := by decide +kernel
theorem dX4_give_50 : decode cX4_give 50 = .ok (.getfield 22, 3) := by decide +kernel
theorem dX4_give_53 : decode cX4_give 53 = .ok (.iload 4, 2) := by decide +kernel
theorem dX4_give_55 : decode cX4_give 55 = .ok (.iaload, 1) := by decide +kernel
theorem dX4_give_56 : decode cX4_give 56 = .ok (.iload_n 2, 1) := by decide +kernel
theorem dX4_give_57 : decode cX4_give 57 = .ok (.if_icmp .eq 6, 3) := by decide +kernel
theorem dX4_give_60 : decode cX4_give 60 = .ok (.goto 15, 3) := by decide +kernel
theorem dX4_give_63 : decode cX4_give 63 = .ok (.aload_n 0, 1) := by decide +kernel
theorem dX4_give_64 : decode cX4_give 64 = .ok (.getfield 22, 3) := by decide +kernel
theorem dX4_give_67 : decode cX4_give 67 = .ok (.iload 4, 2) := by decide +kernel
theorem dX4_give_69 : decode cX4_give 69 = .ok (.bipush (-9), 2) := by decide +kernel
theorem dX4_give_71 : decode cX4_give 71 = .ok (.iastore, 1) := by decide +kernel
theorem dX4_give_72 : decode cX4_give 72 = .ok (.iinc 3 1, 3) := by decide +kernel
theorem dX4_give_75 : decode cX4_give 75 = .ok (.iinc 4 1, 3) := by decide +kernel
theorem dX4_give_78 : decode cX4_give 78 = .ok (.goto (-61), 3) := by decide +kernel
theorem dX4_give_81 : decode cX4_give 81 = .ok (.aload_n 0, 1) := by decide +kernel
theorem dX4_give_82 : decode cX4_give 82 = .ok (.getfield 22, 3) := by decide +kernel
theorem dX4_give_85 : decode cX4_give 85 = .ok (.iload_n 1, 1) := by decide +kernel
theorem dX4_give_86 : decode cX4_give 86 = .ok (.iload_n 2, 1) := by decide +kernel
theorem dX4_give_87 : decode cX4_give 87 = .ok (.iastore, 1) := by decide +kernel
theorem dX4_give_88 : decode cX4_give 88 = .ok (.aload_n 0, 1) := by decide +kernel
theorem dX4_give_89 : decode cX4_give 89 = .ok (.getfield 22, 3) := by decide +kernel
theorem dX4_give_92 : decode cX4_give 92 = .ok (.iload_n 2, 1) := by decide +kernel
theorem dX4_give_93 : decode cX4_give 93 = .ok (.iload_n 1, 1) := by decide +kernel
theorem dX4_give_94 : decode cX4_give 94 = .ok (.iastore, 1) := by decide +kernel
theorem dX4_give_95 : decode cX4_give 95 = .ok (.iload_n 3, 1) := by decide +kernel
theorem dX4_give_96 : decode cX4_give 96 = .ok (.ireturn, 1) := by decide +kernel
theorem dX4_thing_0 : decode cX4_thing 0 = .ok (.aload_n 0, 1) := by decide +kernel
theorem dX4_thing_1 : decode cX4_thing 1 = .ok (.iload_n 1, 1) := by decide +kernel
theorem dX4_thing_2 : decode cX4_thing 2 = .ok (.invokevirtual 112, 3) := by decide +kernel
theorem dX4_thing_5 : decode cX4_thing 5 = .ok (.ifCond .ne 9, 3) := by decide +kernel
theorem dX4_thing_8 : decode cX4_thing 8 = .ok (.aload_n 0, 1) := by decide +kernel
theorem dX4_thing_9 : decode cX4_thing 9 = .ok (.iconst (-1), 1) := by decide +kernel
theorem dX4_thing_10 : decode cX4_thing 10 = .ok (.invokevirtual 63, 3) := by decide +kernel
theorem dX4_thing_13 : decode cX4_thing 13 = .ok (.ireturn, 1) := by decide +kernel
theorem dX4_thing_14 : decode cX4_thing 14 = .ok (.iload_n 2, 1) := by decide +kernel
theorem dX4_thing_15 : decode cX4_thing 15 = .ok (.iconst 0, 1) := by decide +kernel
theorem dX4_thing_16 : decode cX4_thing 16 = .ok (.iconst 2, 1) := by decide +kernel
theorem dX4_thing_17 : decode cX4_thing 17 = .ok (.invokestatic 56, 3) := by decide +kernel
theorem dX4_thing_20 : decode cX4_thing 20 = .ok (.ifCond .ne 10, 3) := by decide +kernel
theorem dX4_thing_23 : decode cX4_thing 23 = .ok (.aload_n 0, 1) := by decide +kernel
theorem dX4_thing_24 : decode cX4_thing 24 = .ok (.bipush (-2), 2) := by decide +kernel
theorem dX4_thing_26 : decode cX4_thing 26 = .ok (.invokevirtual 63, 3) := by decide +kernel
theorem dX4_thing_29 : decode cX4_thing 29 = .ok (.ireturn, 1) := by decide +kernel
theorem dX4_thing_30 : decode cX4_thing 30 = .ok (.iload_n 2, 1) := by decide +kernel
theorem dX4_thing_31 : decode cX4_thing 31 = .ok (.ifCond .ne 12, 3) := by decide +kernel
theorem dX4_thing_34 : decode cX4_thing 34 = .ok (.aload_n 0, 1) := by decide +kernel
theorem dX4_thing_35 : decode cX4_thing 35 = .ok (.getfield 16, 3) := by decide +kernel
theorem dX4_thing_38 : decode cX4_thing 38 = .ok (.iload_n 1, 1) := by decide +kernel
theorem dX4_thing_39 : decode cX4_thing 39 = .ok (.iaload, 1) := by decide +kernel
theorem dX4_thing_40 : decode cX4_thing 40 = .ok (.goto 23, 3) := by decide +kernel
theorem dX4_thing_43 : decode cX4_thing 43 = .ok (.iload_n 2, 1) := by decide +kernel
theorem dX4_thing_44 : decode cX4_thing 44 = .ok (.iconst 1, 1) := by decide +kernel
theorem dX4_thing_45 : decode cX4_thing 45 = .ok (.if_icmp .ne 12, 3) := by decide +kernel
theorem dX4_thing_48 : decode cX4_thing 48 = .ok (.aload_n 0, 1) := by decide +kernel
theorem dX4_thing_49 : decode cX4_thing 49 = .ok (.getfield 19, 3) := by decide +kernel
theorem dX4_thing_52 : decode cX4_thing 52 = .ok (.iload_n 1, 1) := by decide +kernel
theorem dX4_thing_53 : decode cX4_thing 53 = .ok (.iaload, 1) := by decide +kernel
theorem dX4_thing_54 : decode cX4_thing 54 = .ok (.goto 9, 3) := by decide +kernel
theorem dX4_thing_57 : decode cX4_thing 57 = .ok (.aload_n 0, 1) := by decide +kernel
theorem dX4_thing_58 : decode cX4_thing 58 = .ok (.getfield 22, 3) := by decide +kernel
theorem dX4_thing_61 : decode cX4_thing 61 = .ok (.iload_n 1, 1) := by decide +kernel
theorem dX4_thing_62 : decode cX4_thing 62 = .ok (.iaload, 1) := by decide +kernel
theorem dX4_thing_63 : decode cX4_thing 63 = .ok (.ireturn, 1) := by decide +kernel
theorem dX4_line_0 : decode cX4_line 0 = .ok (.aload_n 0, 1) := by decide +kernel
theorem dX4_line_1 : decode cX4_line 1 = .ok (.iload_n 1, 1) := by decide +kernel
theorem dX4_line_2 : decode cX4_line 2 = .ok (.invokevirtual 89, 3) := by decide +kernel
theorem dX4_line_5 : decode cX4_line 5 = .ok (.ifCond .ne 9, 3) := by decide +kernel
theorem dX4_line_8 : decode cX4_line 8 = .ok (.aload_n 0, 1) := by decide +kernel
theorem dX4_line_9 : decode cX4_line 9 = .ok (.iconst (-1), 1) := by decide +kernel
theorem dX4_line_10 : decode cX4_line 10 = .ok (.invokevirtual 63, 3) := by decide +kernel
theorem dX4_line_13 : decode cX4_line 13 = .ok (.ireturn, 1) := by decide +kernel
theorem dX4_line_14 : decode cX4_line 14 = .ok (.iload_n 2, 1) := by decide +kernel
theorem dX4_line_15 : decode cX4_line 15 = .ok (.iconst 0, 1) := by decide +kernel
theorem dX4_line_16 : decode cX4_line 16 = .ok (.iconst 2, 1) := by decide +kernel
theorem dX4_line_17 : decode cX4_line 17 = .ok (.invokestatic 56, 3) := by decide +kernel
theorem dX4_line_20 : decode cX4_line 20 = .ok (.ifCond .ne 10, 3) := by decide +kernel
theorem dX4_line_23 : decode cX4_line 23 = .ok (.aload_n 0, 1) := by decide +kernel
theorem dX4_line_24 : decode cX4_line 24 = .ok (.bipush (-2), 2) := by decide +kernel
theorem dX4_line_26 : decode cX4_line 26 = .ok (.invokevirtual 63, 3) := by decide +kernel
theorem dX4_line_29 : decode cX4_line 29 = .ok (.ireturn, 1) := by decide +kernel
theorem dX4_line_30 : decode cX4_line 30 = .ok (.iload_n 2, 1) := by decide +kernel
theorem dX4_line_31 : decode cX4_line 31 = .ok (.ifCond .ne 12, 3) := by decide +kernel
theorem dX4_line_34 : decode cX4_line 34 = .ok (.aload_n 0, 1) := by decide +kernel
theorem dX4_line_35 : decode cX4_line 35 = .ok (.getfield 7, 3) := by decide +kernel
theorem dX4_line_38 : decode cX4_line 38 = .ok (.iload_n 1, 1) := by decide +kernel
theorem dX4_line_39 : decode cX4_line 39 = .ok (.iaload, 1) := by decide +kernel
theorem dX4_line_40 : decode cX4_line 40 = .ok (.goto 25, 3) := by decide +kernel
theorem dX4_line_43 : decode cX4_line 43 = .ok (.iload_n 2, 1) := by decide +kernel
theorem dX4_line_44 : decode cX4_line 44 = .ok (.iconst 1, 1) := by decide +kernel
theorem dX4_line_45 : decode cX4_line 45 = .ok (.if_icmp .ne 12, 3) := by decide +kernel
theorem dX4_line_48 : decode cX4_line 48 = .ok (.aload_n 0, 1) := by decide +kernel
theorem dX4_line_49 : decode cX4_line 49 = .ok (.getfield 13, 3) := by decide +kernel
theorem dX4_line_52 : decode cX4_line 52 = .ok (.iload_n 1, 1) := by decide +kernel
theorem dX4_line_53 : decode cX4_line 53 = .ok (.iaload, 1) := by decide +kernel
theorem dX4_line_54 : decode cX4_line 54 = .ok (.goto 11, 3) := by decide +kernel
theorem dX4_line_57 : decode cX4_line 57 = .ok (.aload_n 0, 1) := by decide +kernel
theorem dX4_line_58 : decode cX4_line 58 = .ok (.getfield 92, 3) := by decide +kernel
theorem dX4_line_61 : decode cX4_line 61 = .ok (.iload_n 1, 1) := by decide +kernel
theorem dX4_line_62 : decode cX4_line 62 = .ok (.ishr, 1) := by decide +kernel
theorem dX4_line_63 : decode cX4_line 63 = .ok (.iconst 1, 1) := by decide +kernel
theorem dX4_line_64 : decode cX4_line 64 = .ok (.iand, 1) := by decide +kernel
theorem dX4_line_65 : decode cX4_line 65 = .ok (.ireturn, 1) := by decide +kernel
theorem dX4_curtain_0 : decode cX4_curtain 0 = .ok (.aload_n 0, 1) := by decide +kernel
theorem dX4_curtain_1 : decode cX4_curtain 1 = .ok (.iload_n 1, 1) := by decide +kernel
theorem dX4_curtain_2 : decode cX4_curtain 2 = .ok (.invokevirtual 89, 3) := by decide +kernel
theorem dX4_curtain_5 : decode cX4_curtain 5 = .ok (.ifCond .ne 9, 3) := by decide +kernel
theorem dX4_curtain_8 : decode cX4_curtain 8 = .ok (.aload_n 0, 1) := by decide +kernel
theorem dX4_curtain_9 : decode cX4_curtain 9 = .ok (.iconst (-1), 1) := by decide +kernel
theorem dX4_curtain_10 : decode cX4_curtain 10 = .ok (.invokevirtual 63, 3) := by decide +kernel
theorem dX4_curtain_13 : decode cX4_curtain 13 = .ok (.ireturn, 1) := by decide +kernel
theorem dX4_curtain_14 : decode cX4_curtain 14 = .ok (.aload_n 0, 1) := by decide +kernel
theorem dX4_curtain_15 : decode cX4_curtain 15 = .ok (.dup, 1) := by decide +kernel
theorem dX4_curtain_16 : decode cX4_curtain 16 = .ok (.getfield 92, 3) := by decide +kernel
theorem dX4_curtain_19 : decode cX4_curtain 19 = .ok (.iconst 1, 1) := by decide +kernel
theorem dX4_curtain_20 : decode cX4_curtain 20 = .ok (.iload_n 1, 1) := by decide +kernel
theorem dX4_curtain_21 : decode cX4_curtain 21 = .ok (.ishl, 1) := by decide +kernel
theorem dX4_curtain_22 : decode cX4_curtain 22 = .ok (.ixor, 1) := by decide +kernel
theorem dX4_curtain_23 : decode cX4_curtain 23 = .ok (.putfield 92, 3) := by decide +kernel
theorem dX4_curtain_26 : decode cX4_curtain 26 = .ok (.aload_n 0, 1) := by decide +kernel
theorem dX4_curtain_27 : decode cX4_curtain 27 = .ok (.getfield 92, 3) := by decide +kernel
theorem dX4_curtain_30 : decode cX4_curtain 30 = .ok (.iload_n 1, 1) := by decide +kernel
theorem dX4_curtain_31 : decode cX4_curtain 31 = .ok (.ishr, 1) := by decide +kernel
theorem dX4_curtain_32 : decode cX4_curtain 32 = .ok (.iconst 1, 1) := by decide +kernel
theorem dX4_curtain_33 : decode cX4_curtain 33 = .ok (.iand, 1) := by decide +kernel
theorem dX4_curtain_34 : decode cX4_curtain 34 = .ok (.ireturn, 1) := by decide +kernel
theorem dX4_move_0 : decode cX4_move 0 = .ok (.aload_n 0, 1) := by decide +kernel
theorem dX4_move_1 : decode cX4_move 1 = .ok (.iload_n 1, 1) := by decide +kernel
theorem dX4_move_2 : decode cX4_move 2 = .ok (.invokevirtual 112, 3) := by decide +kernel
theorem dX4_move_5 : decode cX4_move 5 = .ok (.ifCond .eq 10, 3) := by decide +kernel
theorem dX4_move_8 : decode cX4_move 8 = .ok (.iload_n 2, 1) := by decide +kernel
theorem dX4_move_9 : decode cX4_move 9 = .ok (.invokestatic 105, 3) := by decide +kernel
theorem dX4_move_12 : decode cX4_move 12 = .ok (.ifCond .ne 9, 3) := by decide +kernel
theorem dX4_move_15 : decode cX4_move 15 = .ok (.aload_n 0, 1) := by decide +kernel
theorem dX4_move_16 : decode cX4_move 16 = .ok (.iconst (-1), 1) := by decide +kernel
theorem dX4_move_17 : decode cX4_move 17 = .ok (.invokevirtual 63, 3) := by decide +kernel
theorem dX4_move_20 : decode cX4_move 20 = .ok (.ireturn, 1) := by decide +kernel
theorem dX4_move_21 : decode cX4_move 21 = .ok (.aload_n 0, 1) := by decide +kernel
theorem dX4_move_22 : decode cX4_move 22 = .ok (.getfield 19, 3) := by decide +kernel
theorem dX4_move_25 : decode cX4_move 25 = .ok (.iload_n 1, 1) := by decide +kernel
theorem dX4_move_26 : decode cX4_move 26 = .ok (.iaload, 1) := by decide +kernel
theorem dX4_move_27 : decode cX4_move 27 = .ok (.istore_n 3, 1) := by decide +kernel
theorem dX4_move_28 : decode cX4_move 28 = .ok (.aload_n 0, 1) := by decide +kernel
theorem dX4_move_29 : decode cX4_move 29 = .ok (.getfield 19, 3) := by decide +kernel
theorem dX4_move_32 : decode cX4_move 32 = .ok (.iload_n 1, 1) := by decide +kernel
theorem dX4_move_33 : decode cX4_move 33 = .ok (.iload_n 2, 1) := by decide +kernel
theorem dX4_move_34 : decode cX4_move 34 = .ok (.iastore, 1) := by decide +kernel
theorem dX4_move_35 : decode cX4_move 35 = .ok (.iload_n 3, 1) := by decide +kernel
theorem dX4_move_36 : decode cX4_move 36 = .ok (.ireturn, 1) := by decide +kernel
theorem dX4_pair_0 : decode cX4_pair 0 = .ok (.aload_n 0, 1) := by decide +kernel
theorem dX4_pair_1 : decode cX4_pair 1 = .ok (.iload_n 1, 1) := by decide +kernel
theorem dX4_pair_2 : decode cX4_pair 2 = .ok (.invokevirtual 112, 3) := by decide +kernel
theorem dX4_pair_5 : decode cX4_pair 5 = .ok (.ifCond .eq 25, 3) := by decide +kernel
theorem dX4_pair_8 : decode cX4_pair 8 = .ok (.aload_n 0, 1) := by decide +kernel
theorem dX4_pair_9 : decode cX4_pair 9 = .ok (.iload_n 2, 1) := by decide +kernel
theorem dX4_pair_10 : decode cX4_pair 10 = .ok (.invokevirtual 112, 3) := by decide +kernel
theorem dX4_pair_13 : decode cX4_pair 13 = .ok (.ifCond .eq 17, 3) := by decide +kernel
theorem dX4_pair_16 : decode cX4_pair 16 = .ok (.iload_n 1, 1) := by decide +kernel
theorem dX4_pair_17 : decode cX4_pair 17 = .ok (.iload_n 2, 1) := by decide +kernel
theorem dX4_pair_18 : decode cX4_pair 18 = .ok (.if_icmp .eq 12, 3) := by decide +kernel
theorem dX4_pair_21 : decode cX4_pair 21 = .ok (.aload_n 0, 1) := by decide +kernel
theorem dX4_pair_22 : decode cX4_pair 22 = .ok (.iload_n 1, 1) := by decide +kernel
theorem dX4_pair_23 : decode cX4_pair 23 = .ok (.iload_n 2, 1) := by decide +kernel
theorem dX4_pair_24 : decode cX4_pair 24 = .ok (.invokevirtual 115, 3) := by decide +kernel
theorem dX4_pair_27 : decode cX4_pair 27 = .ok (.goto 8, 3) := by decide +kernel
theorem dX4_pair_30 : decode cX4_pair 30 = .ok (.aload_n 0, 1) := by decide +kernel
theorem dX4_pair_31 : decode cX4_pair 31 = .ok (.iconst (-1), 1) := by decide +kernel
theorem dX4_pair_32 : decode cX4_pair 32 = .ok (.invokevirtual 63, 3) := by decide +kernel
theorem dX4_pair_35 : decode cX4_pair 35 = .ok (.ireturn, 1) := by decide +kernel
theorem dX4_hour_0 : decode cX4_hour 0 = .ok (.iload_n 1, 1) := by decide +kernel
theorem dX4_hour_1 : decode cX4_hour 1 = .ok (.ifCond .ge 10, 3) := by decide +kernel
theorem dX4_hour_4 : decode cX4_hour 4 = .ok (.aload_n 0, 1) := by decide +kernel
theorem dX4_hour_5 : decode cX4_hour 5 = .ok (.bipush (-4), 2) := by decide +kernel
theorem dX4_hour_7 : decode cX4_hour 7 = .ok (.invokevirtual 63, 3) := by decide +kernel
theorem dX4_hour_10 : decode cX4_hour 10 = .ok (.ireturn, 1) := by decide +kernel
theorem dX4_hour_11 : decode cX4_hour 11 = .ok (.iload_n 1, 1) := by decide +kernel
theorem dX4_hour_12 : decode cX4_hour 12 = .ok (.bipush 7, 2) := by decide +kernel
theorem dX4_hour_14 : decode cX4_hour 14 = .ok (.if_icmp .le 10, 3) := by decide +kernel
theorem dX4_hour_17 : decode cX4_hour 17 = .ok (.aload_n 0, 1) := by decide +kernel
theorem dX4_hour_18 : decode cX4_hour 18 = .ok (.bipush (-6), 2) := by decide +kernel
theorem dX4_hour_20 : decode cX4_hour 20 = .ok (.invokevirtual 63, 3) := by decide +kernel
theorem dX4_hour_23 : decode cX4_hour 23 = .ok (.ireturn, 1) := by decide +kernel
theorem dX4_hour_24 : decode cX4_hour 24 = .ok (.aload_n 0, 1) := by decide +kernel
theorem dX4_hour_25 : decode cX4_hour 25 = .ok (.getfield 95, 3) := by decide +kernel
theorem dX4_hour_28 : decode cX4_hour 28 = .ok (.istore_n 2, 1) := by decide +kernel
theorem dX4_hour_29 : decode cX4_hour 29 = .ok (.aload_n 0, 1) := by decide +kernel
theorem dX4_hour_30 : decode cX4_hour 30 = .ok (.iload_n 1, 1) := by decide +kernel
theorem dX4_hour_31 : decode cX4_hour 31 = .ok (.putfield 95, 3) := by decide +kernel
theorem dX4_hour_34 : decode cX4_hour 34 = .ok (.iload_n 2, 1) := by decide +kernel
theorem dX4_hour_35 : decode cX4_hour 35 = .ok (.ireturn, 1) := by decide +kernel
theorem dX4_beside_0 : decode cX4_beside 0 = .ok (.iconst 0, 1) := by decide +kernel
theorem dX4_beside_1 : decode cX4_beside 1 = .ok (.istore_n 3, 1) := by decide +kernel
theorem dX4_beside_2 : decode cX4_beside 2 = .ok (.iconst 0, 1) := by decide +kernel
theorem dX4_beside_3 : decode cX4_beside 3 = .ok (.istore 4, 2) := by decide +kernel
theorem dX4_beside_5 : decode cX4_beside 5 = .ok (.iload 4, 2) := by decide +kernel
theorem dX4_beside_7 : decode cX4_beside 7 = .ok (.aload_n 0, 1) := by decide +kernel
theorem dX4_beside_8 : decode cX4_beside 8 = .ok (.getfield 60, 3) := by decide +kernel
theorem dX4_beside_11 : decode cX4_beside 11 = .ok (.if_icmp .ge 74, 3) := by decide +kernel
theorem dX4_beside_14 : decode cX4_beside 14 = .ok (.iload_n 2, 1) := by decide +kernel
theorem dX4_beside_15 : decode cX4_beside 15 = .ok (.ifCond .ne 18, 3) := by decide +kernel
theorem dX4_beside_18 : decode cX4_beside 18 = .ok (.aload_n 0, 1) := by decide +kernel
theorem dX4_beside_19 : decode cX4_beside 19 = .ok (.getfield 92, 3) := by decide +kernel
theorem dX4_beside_22 : decode cX4_beside 22 = .ok (.iload 4, 2) := by decide +kernel
theorem dX4_beside_24 : decode cX4_beside 24 = .ok (.invokestatic 129, 3) := by decide +kernel
theorem dX4_beside_27 : decode cX4_beside 27 = .ok (.ifCond .eq 6, 3) := by decide +kernel
theorem dX4_beside_30 : decode cX4_beside 30 = .ok (.goto 49, 3) := by decide +kernel
theorem dX4_beside_33 : decode cX4_beside 33 = .ok (.aload_n 0, 1) := by decide +kernel
theorem dX4_beside_34 : decode cX4_beside 34 = .ok (.getfield 7, 3) := by decide +kernel
theorem dX4_beside_37 : decode cX4_beside 37 = .ok (.iload 4, 2) := by decide +kernel
theorem dX4_beside_39 : decode cX4_beside 39 = .ok (.iaload, 1) := by decide +kernel
theorem dX4_beside_40 : decode cX4_beside 40 = .ok (.iload_n 1, 1) := by decide +kernel
theorem dX4_beside_41 : decode cX4_beside 41 = .ok (.if_icmp .ne 15, 3) := by decide +kernel
theorem dX4_beside_44 : decode cX4_beside 44 = .ok (.iload_n 3, 1) := by decide +kernel
theorem dX4_beside_45 : decode cX4_beside 45 = .ok (.iconst 1, 1) := by decide +kernel
theorem dX4_beside_46 : decode cX4_beside 46 = .ok (.aload_n 0, 1) := by decide +kernel
theorem dX4_beside_47 : decode cX4_beside 47 = .ok (.getfield 13, 3) := by decide +kernel
theorem dX4_beside_50 : decode cX4_beside 50 = .ok (.iload 4, 2) := by decide +kernel
theorem dX4_beside_52 : decode cX4_beside 52 = .ok (.iaload, 1) := by decide +kernel
theorem dX4_beside_53 : decode cX4_beside 53 = .ok (.ishl, 1) := by decide +kernel
theorem dX4_beside_54 : decode cX4_beside 54 = .ok (.ior, 1) := by decide +kernel
theorem dX4_beside_55 : decode cX4_beside 55 = .ok (.istore_n 3, 1) := by decide +kernel
theorem dX4_beside_56 : decode cX4_beside 56 = .ok (.aload_n 0, 1) := by decide +kernel
theorem dX4_beside_57 : decode cX4_beside 57 = .ok (.getfield 13, 3) := by decide +kernel
theorem dX4_beside_60 : decode cX4_beside 60 = .ok (.iload 4, 2) := by decide +kernel
theorem dX4_beside_62 : decode cX4_beside 62 = .ok (.iaload, 1) := by decide +kernel
theorem dX4_beside_63 : decode cX4_beside 63 = .ok (.iload_n 1, 1) := by decide +kernel
theorem dX4_beside_64 : decode cX4_beside 64 = .ok (.if_icmp .ne 15, 3) := by decide +kernel
theorem dX4_beside_67 : decode cX4_beside 67 = .ok (.iload_n 3, 1) := by decide +kernel
theorem dX4_beside_68 : decode cX4_beside 68 = .ok (.iconst 1, 1) := by decide +kernel
theorem dX4_beside_69 : decode cX4_beside 69 = .ok (.aload_n 0, 1) := by decide +kernel
theorem dX4_beside_70 : decode cX4_beside 70 = .ok (.getfield 7, 3) := by decide +kernel
theorem dX4_beside_73 : decode cX4_beside 73 = .ok (.iload 4, 2) := by decide +kernel
theorem dX4_beside_75 : decode cX4_beside 75 = .ok (.iaload, 1) := by decide +kernel
theorem dX4_beside_76 : decode cX4_beside 76 = .ok (.ishl, 1) := by decide +kernel
theorem dX4_beside_77 : decode cX4_beside 77 = .ok (.ior, 1) := by decide +kernel
theorem dX4_beside_78 : decode cX4_beside 78 = .ok (.istore_n 3, 1) := by decide +kernel
theorem dX4_beside_79 : decode cX4_beside 79 = .ok (.iinc 4 1, 3) := by decide +kernel
theorem dX4_beside_82 : decode cX4_beside 82 = .ok (.goto (-77), 3) := by decide +kernel
theorem dX4_beside_85 : decode cX4_beside 85 = .ok (.iload_n 3, 1) := by decide +kernel
theorem dX4_beside_86 : decode cX4_beside 86 = .ok (.ireturn, 1) := by decide +kernel
theorem dX4_plain_0 : decode cX4_plain 0 = .ok (.aload_n 0, 1) := by decide +kernel
theorem dX4_plain_1 : decode cX4_plain 1 = .ok (.getfield 19, 3) := by decide +kernel
theorem dX4_plain_4 : decode cX4_plain 4 = .ok (.iload_n 1, 1) := by decide +kernel
theorem dX4_plain_5 : decode cX4_plain 5 = .ok (.iaload, 1) := by decide +kernel
theorem dX4_plain_6 : decode cX4_plain 6 = .ok (.istore_n 3, 1) := by decide +kernel
theorem dX4_plain_7 : decode cX4_plain 7 = .ok (.aload_n 0, 1) := by decide +kernel
theorem dX4_plain_8 : decode cX4_plain 8 = .ok (.getfield 16, 3) := by decide +kernel
theorem dX4_plain_11 : decode cX4_plain 11 = .ok (.iload_n 1, 1) := by decide +kernel
theorem dX4_plain_12 : decode cX4_plain 12 = .ok (.iaload, 1) := by decide +kernel
theorem dX4_plain_13 : decode cX4_plain 13 = .ok (.tableswitch 93 1 5 #[35, 42, 62, 73, 62], 35) := by decide +kernel
theorem dX4_plain_48 : decode cX4_plain 48 = .ok (.aload_n 0, 1) := by decide +kernel
theorem dX4_plain_49 : decode cX4_plain 49 = .ok (.iload_n 3, 1) := by decide +kernel
theorem dX4_plain_50 : decode cX4_plain 50 = .ok (.iconst 0, 1) := by decide +kernel
theorem dX4_plain_51 : decode cX4_plain 51 = .ok (.invokevirtual 132, 3) := by decide +kernel
theorem dX4_plain_54 : decode cX4_plain 54 = .ok (.ireturn, 1) := by decide +kernel
theorem dX4_plain_55 : decode cX4_plain 55 = .ok (.aload_n 0, 1) := by decide +kernel
theorem dX4_plain_56 : decode cX4_plain 56 = .ok (.iload_n 3, 1) := by decide +kernel
theorem dX4_plain_57 : decode cX4_plain 57 = .ok (.iconst 0, 1) := by decide +kernel
theorem dX4_plain_58 : decode cX4_plain 58 = .ok (.invokevirtual 132, 3) := by decide +kernel
theorem dX4_plain_61 : decode cX4_plain 61 = .ok (.iload_n 2, 1) := by decide +kernel
theorem dX4_plain_62 : decode cX4_plain 62 = .ok (.iconst 4, 1) := by decide +kernel
theorem dX4_plain_63 : decode cX4_plain 63 = .ok (.if_icmp .ne 9, 3) := by decide +kernel
theorem dX4_plain_66 : decode cX4_plain 66 = .ok (.iconst 1, 1) := by decide +kernel
theorem dX4_plain_67 : decode cX4_plain 67 = .ok (.iload_n 3, 1) := by decide +kernel
theorem dX4_plain_68 : decode cX4_plain 68 = .ok (.ishl, 1) := by decide +kernel
theorem dX4_plain_69 : decode cX4_plain 69 = .ok (.goto 4, 3) := by decide +kernel
theorem dX4_plain_72 : decode cX4_plain 72 = .ok (.iconst 0, 1) := by decide +kernel
theorem dX4_plain_73 : decode cX4_plain 73 = .ok (.ior, 1) := by decide +kernel
theorem dX4_plain_74 : decode cX4_plain 74 = .ok (.ireturn, 1) := by decide +kernel
theorem dX4_plain_75 : decode cX4_plain 75 = .ok (.aload_n 0, 1) := by decide +kernel
theorem dX4_plain_76 : decode cX4_plain 76 = .ok (.iload_n 3, 1) := by decide +kernel
theorem dX4_plain_77 : decode cX4_plain 77 = .ok (.iconst 1, 1) := by decide +kernel
theorem dX4_plain_78 : decode cX4_plain 78 = .ok (.invokevirtual 132, 3) := by decide +kernel
theorem dX4_plain_81 : decode cX4_plain 81 = .ok (.iconst 1, 1) := by decide +kernel
theorem dX4_plain_82 : decode cX4_plain 82 = .ok (.iload_n 3, 1) := by decide +kernel
theorem dX4_plain_83 : decode cX4_plain 83 = .ok (.ishl, 1) := by decide +kernel
theorem dX4_plain_84 : decode cX4_plain 84 = .ok (.ior, 1) := by decide +kernel
theorem dX4_plain_85 : decode cX4_plain 85 = .ok (.ireturn, 1) := by decide +kernel
theorem dX4_plain_86 : decode cX4_plain 86 = .ok (.iload_n 2, 1) := by decide +kernel
theorem dX4_plain_87 : decode cX4_plain 87 = .ok (.iconst 5, 1) := by decide +kernel
theorem dX4_plain_88 : decode cX4_plain 88 = .ok (.if_icmp .le 16, 3) := by decide +kernel
theorem dX4_plain_91 : decode cX4_plain 91 = .ok (.aload_n 0, 1) := by decide +kernel
theorem dX4_plain_92 : decode cX4_plain 92 = .ok (.iload_n 3, 1) := by decide +kernel
theorem dX4_plain_93 : decode cX4_plain 93 = .ok (.iconst 0, 1) := by decide +kernel
theorem dX4_plain_94 : decode cX4_plain 94 = .ok (.invokevirtual 132, 3) := by decide +kernel
theorem dX4_plain_97 : decode cX4_plain 97 = .ok (.iconst 1, 1) := by decide +kernel
theorem dX4_plain_98 : decode cX4_plain 98 = .ok (.iload_n 3, 1) := by decide +kernel
theorem dX4_plain_99 : decode cX4_plain 99 = .ok (.ishl, 1) := by decide +kernel
theorem dX4_plain_100 : decode cX4_plain 100 = .ok (.ior, 1) := by decide +kernel
theorem dX4_plain_101 : decode cX4_plain 101 = .ok (.goto 4, 3) := by decide +kernel
theorem dX4_plain_104 : decode cX4_plain 104 = .ok (.iconst 0, 1) := by decide +kernel
theorem dX4_plain_105 : decode cX4_plain 105 = .ok (.ireturn, 1) := by decide +kernel
theorem dX4_plain_106 : decode cX4_plain 106 = .ok (.aload_n 0, 1) := by decide +kernel
theorem dX4_plain_107 : decode cX4_plain 107 = .ok (.iload_n 3, 1) := by decide +kernel
theorem dX4_plain_108 : decode cX4_plain 108 = .ok (.iconst 0, 1) := by decide +kernel
theorem dX4_plain_109 : decode cX4_plain 109 = .ok (.invokevirtual 132, 3) := by decide +kernel
theorem dX4_plain_112 : decode cX4_plain 112 = .ok (.iconst 1, 1) := by decide +kernel
theorem dX4_plain_113 : decode cX4_plain 113 = .ok (.iload_n 3, 1) := by decide +kernel
theorem dX4_plain_114 : decode cX4_plain 114 = .ok (.ishl, 1) := by decide +kernel
theorem dX4_plain_115 : decode cX4_plain 115 = .ok (.ior, 1) := by decide +kernel
theorem dX4_plain_116 : decode cX4_plain 116 = .ok (.ireturn, 1) := by decide +kernel
theorem dX4_fromWhere_0 : decode cX4_fromWhere 0 = .ok (.aload_n 0, 1) := by decide +kernel
theorem dX4_fromWhere_1 : decode cX4_fromWhere 1 = .ok (.iload_n 1, 1) := by decide +kernel
theorem dX4_fromWhere_2 : decode cX4_fromWhere 2 = .ok (.iload_n 2, 1) := by decide +kernel
theorem dX4_fromWhere_3 : decode cX4_fromWhere 3 = .ok (.invokevirtual 136, 3) := by decide +kernel
theorem dX4_fromWhere_6 : decode cX4_fromWhere 6 = .ok (.istore_n 3, 1) := by decide +kernel
theorem dX4_fromWhere_7 : decode cX4_fromWhere 7 = .ok (.aload_n 0, 1) := by decide +kernel
theorem dX4_fromWhere_8 : decode cX4_fromWhere 8 = .ok (.getfield 16, 3) := by decide +kernel
theorem dX4_fromWhere_11 : decode cX4_fromWhere 11 = .ok (.iload_n 1, 1) := by decide +kernel
theorem dX4_fromWhere_12 : decode cX4_fromWhere 12 = .ok (.iaload, 1) := by decide +kernel
theorem dX4_fromWhere_13 : decode cX4_fromWhere 13 = .ok (.iconst 5, 1) := by decide +kernel
theorem dX4_fromWhere_14 : decode cX4_fromWhere 14 = .ok (.if_icmp .ne 58, 3) := by decide +kernel
theorem dX4_fromWhere_17 : decode cX4_fromWhere 17 = .ok (.iconst 0, 1) := by decide +kernel
theorem dX4_fromWhere_18 : decode cX4_fromWhere 18 = .ok (.istore 4, 2) := by decide +kernel
theorem dX4_fromWhere_20 : decode cX4_fromWhere 20 = .ok (.iload 4, 2) := by decide +kernel
theorem dX4_fromWhere_22 : decode cX4_fromWhere 22 = .ok (.aload_n 0, 1) := by decide +kernel
theorem dX4_fromWhere_23 : decode cX4_fromWhere 23 = .ok (.getfield 52, 3) := by decide +kernel
theorem dX4_fromWhere_26 : decode cX4_fromWhere 26 = .ok (.if_icmp .ge 46, 3) := by decide +kernel
theorem dX4_fromWhere_29 : decode cX4_fromWhere 29 = .ok (.aload_n 0, 1) := by decide +kernel
theorem dX4_fromWhere_30 : decode cX4_fromWhere 30 = .ok (.getfield 16, 3) := by decide +kernel
theorem dX4_fromWhere_33 : decode cX4_fromWhere 33 = .ok (.iload 4, 2) := by decide +kernel
theorem dX4_fromWhere_35 : decode cX4_fromWhere 35 = .ok (.iaload, 1) := by decide +kernel
theorem dX4_fromWhere_36 : decode cX4_fromWhere 36 = .ok (.iconst 5, 1) := by decide +kernel
theorem dX4_fromWhere_37 : decode cX4_fromWhere 37 = .ok (.if_icmp .eq 29, 3) := by decide +kernel
theorem dX4_fromWhere_40 : decode cX4_fromWhere 40 = .ok (.aload_n 0, 1) := by decide +kernel
theorem dX4_fromWhere_41 : decode cX4_fromWhere 41 = .ok (.getfield 19, 3) := by decide +kernel
theorem dX4_fromWhere_44 : decode cX4_fromWhere 44 = .ok (.iload 4, 2) := by decide +kernel
theorem dX4_fromWhere_46 : decode cX4_fromWhere 46 = .ok (.iaload, 1) := by decide +kernel
theorem dX4_fromWhere_47 : decode cX4_fromWhere 47 = .ok (.aload_n 0, 1) := by decide +kernel
theorem dX4_fromWhere_48 : decode cX4_fromWhere 48 = .ok (.getfield 19, 3) := by decide +kernel
theorem dX4_fromWhere_51 : decode cX4_fromWhere 51 = .ok (.iload_n 1, 1) := by decide +kernel
theorem dX4_fromWhere_52 : decode cX4_fromWhere 52 = .ok (.iaload, 1) := by decide +kernel
theorem dX4_fromWhere_53 : decode cX4_fromWhere 53 = .ok (.if_icmp .ne 13, 3) := by decide +kernel
theorem dX4_fromWhere_56 : decode cX4_fromWhere 56 = .ok (.iload_n 3, 1) := by decide +kernel
theorem dX4_fromWhere_57 : decode cX4_fromWhere 57 = .ok (.aload_n 0, 1) := by decide +kernel
theorem dX4_fromWhere_58 : decode cX4_fromWhere 58 = .ok (.iload 4, 2) := by decide +kernel
theorem dX4_fromWhere_60 : decode cX4_fromWhere 60 = .ok (.iload_n 2, 1) := by decide +kernel
theorem dX4_fromWhere_61 : decode cX4_fromWhere 61 = .ok (.invokevirtual 136, 3) := by decide +kernel
theorem dX4_fromWhere_64 : decode cX4_fromWhere 64 = .ok (.ior, 1) := by decide +kernel
theorem dX4_fromWhere_65 : decode cX4_fromWhere 65 = .ok (.istore_n 3, 1) := by decide +kernel
theorem dX4_fromWhere_66 : decode cX4_fromWhere 66 = .ok (.iinc 4 1, 3) := by decide +kernel
theorem dX4_fromWhere_69 : decode cX4_fromWhere 69 = .ok (.goto (-49), 3) := by decide +kernel
theorem dX4_fromWhere_72 : decode cX4_fromWhere 72 = .ok (.iload_n 3, 1) := by decide +kernel
theorem dX4_fromWhere_73 : decode cX4_fromWhere 73 = .ok (.ireturn, 1) := by decide +kernel
theorem dX4_look_0 : decode cX4_look 0 = .ok (.iconst 0, 1) := by decide +kernel
theorem dX4_look_1 : decode cX4_look 1 = .ok (.istore_n 2, 1) := by decide +kernel
theorem dX4_look_2 : decode cX4_look 2 = .ok (.iload_n 2, 1) := by decide +kernel
theorem dX4_look_3 : decode cX4_look 3 = .ok (.aload_n 0, 1) := by decide +kernel
theorem dX4_look_4 : decode cX4_look 4 = .ok (.getfield 52, 3) := by decide +kernel
theorem dX4_look_7 : decode cX4_look 7 = .ok (.if_icmp .ge 21, 3) := by decide +kernel
theorem dX4_look_10 : decode cX4_look 10 = .ok (.aload_n 0, 1) := by decide +kernel
theorem dX4_look_11 : decode cX4_look 11 = .ok (.getfield 46, 3) := by decide +kernel
theorem dX4_look_14 : decode cX4_look 14 = .ok (.iload_n 2, 1) := by decide +kernel
theorem dX4_look_15 : decode cX4_look 15 = .ok (.aload_n 0, 1) := by decide +kernel
theorem dX4_look_16 : decode cX4_look 16 = .ok (.iload_n 2, 1) := by decide +kernel
theorem dX4_look_17 : decode cX4_look 17 = .ok (.iload_n 1, 1) := by decide +kernel
theorem dX4_look_18 : decode cX4_look 18 = .ok (.invokevirtual 139, 3) := by decide +kernel
theorem dX4_look_21 : decode cX4_look 21 = .ok (.iastore, 1) := by decide +kernel
theorem dX4_look_22 : decode cX4_look 22 = .ok (.iinc 2 1, 3) := by decide +kernel
theorem dX4_look_25 : decode cX4_look 25 = .ok (.goto (-23), 3) := by decide +kernel
theorem dX4_look_28 : decode cX4_look 28 = .ok (.return_, 1) := by decide +kernel
theorem dX4_sinsIn_0 : decode cX4_sinsIn 0 = .ok (.aload_n 0, 1) := by decide +kernel
theorem dX4_sinsIn_1 : decode cX4_sinsIn 1 = .ok (.iload_n 1, 1) := by decide +kernel
theorem dX4_sinsIn_2 : decode cX4_sinsIn 2 = .ok (.invokevirtual 142, 3) := by decide +kernel
theorem dX4_sinsIn_5 : decode cX4_sinsIn 5 = .ok (.iconst 0, 1) := by decide +kernel
theorem dX4_sinsIn_6 : decode cX4_sinsIn 6 = .ok (.istore_n 2, 1) := by decide +kernel
theorem dX4_sinsIn_7 : decode cX4_sinsIn 7 = .ok (.iconst 0, 1) := by decide +kernel
theorem dX4_sinsIn_8 : decode cX4_sinsIn 8 = .ok (.istore_n 3, 1) := by decide +kernel
theorem dX4_sinsIn_9 : decode cX4_sinsIn 9 = .ok (.aload_n 0, 1) := by decide +kernel
theorem dX4_sinsIn_10 : decode cX4_sinsIn 10 = .ok (.getfield 52, 3) := by decide +kernel
theorem dX4_sinsIn_13 : decode cX4_sinsIn 13 = .ok (.iconst 1, 1) := by decide +kernel
theorem dX4_sinsIn_14 : decode cX4_sinsIn 14 = .ok (.isub, 1) := by decide +kernel
theorem dX4_sinsIn_15 : decode cX4_sinsIn 15 = .ok (.istore 4, 2) := by decide +kernel
theorem dX4_sinsIn_17 : decode cX4_sinsIn 17 = .ok (.iload 4, 2) := by decide +kernel
theorem dX4_sinsIn_19 : decode cX4_sinsIn 19 = .ok (.ifCond .lt 58, 3) := by decide +kernel
theorem dX4_sinsIn_22 : decode cX4_sinsIn 22 = .ok (.aload_n 0, 1) := by decide +kernel
theorem dX4_sinsIn_23 : decode cX4_sinsIn 23 = .ok (.getfield 22, 3) := by decide +kernel
theorem dX4_sinsIn_26 : decode cX4_sinsIn 26 = .ok (.iload 4, 2) := by decide +kernel
theorem dX4_sinsIn_28 : decode cX4_sinsIn 28 = .ok (.iaload, 1) := by decide +kernel
theorem dX4_sinsIn_29 : decode cX4_sinsIn 29 = .ok (.istore 5, 2) := by decide +kernel
theorem dX4_sinsIn_31 : decode cX4_sinsIn 31 = .ok (.iload 5, 2) := by decide +kernel
theorem dX4_sinsIn_33 : decode cX4_sinsIn 33 = .ok (.iload 4, 2) := by decide +kernel
theorem dX4_sinsIn_35 : decode cX4_sinsIn 35 = .ok (.if_icmp .lt 36, 3) := by decide +kernel
theorem dX4_sinsIn_38 : decode cX4_sinsIn 38 = .ok (.aload_n 0, 1) := by decide +kernel
theorem dX4_sinsIn_39 : decode cX4_sinsIn 39 = .ok (.getfield 46, 3) := by decide +kernel
theorem dX4_sinsIn_42 : decode cX4_sinsIn 42 = .ok (.iload 4, 2) := by decide +kernel
theorem dX4_sinsIn_44 : decode cX4_sinsIn 44 = .ok (.iaload, 1) := by decide +kernel
theorem dX4_sinsIn_45 : decode cX4_sinsIn 45 = .ok (.aload_n 0, 1) := by decide +kernel
theorem dX4_sinsIn_46 : decode cX4_sinsIn 46 = .ok (.getfield 46, 3) := by decide +kernel
theorem dX4_sinsIn_49 : decode cX4_sinsIn 49 = .ok (.iload 5, 2) := by decide +kernel
theorem dX4_sinsIn_51 : decode cX4_sinsIn 51 = .ok (.iaload, 1) := by decide +kernel
theorem dX4_sinsIn_52 : decode cX4_sinsIn 52 = .ok (.iand, 1) := by decide +kernel
theorem dX4_sinsIn_53 : decode cX4_sinsIn 53 = .ok (.ifCond .ne 6, 3) := by decide +kernel
theorem dX4_sinsIn_56 : decode cX4_sinsIn 56 = .ok (.goto 15, 3) := by decide +kernel
theorem dX4_sinsIn_59 : decode cX4_sinsIn 59 = .ok (.iinc 2 1, 3) := by decide +kernel
theorem dX4_sinsIn_62 : decode cX4_sinsIn 62 = .ok (.bipush 10, 2) := by decide +kernel
theorem dX4_sinsIn_64 : decode cX4_sinsIn 64 = .ok (.iload 4, 2) := by decide +kernel
theorem dX4_sinsIn_66 : decode cX4_sinsIn 66 = .ok (.imul, 1) := by decide +kernel
theorem dX4_sinsIn_67 : decode cX4_sinsIn 67 = .ok (.iload 5, 2) := by decide +kernel
theorem dX4_sinsIn_69 : decode cX4_sinsIn 69 = .ok (.iadd, 1) := by decide +kernel
theorem dX4_sinsIn_70 : decode cX4_sinsIn 70 = .ok (.istore_n 3, 1) := by decide +kernel
theorem dX4_sinsIn_71 : decode cX4_sinsIn 71 = .ok (.iinc 4 (-1), 3) := by decide +kernel
theorem dX4_sinsIn_74 : decode cX4_sinsIn 74 = .ok (.goto (-57), 3) := by decide +kernel
theorem dX4_sinsIn_77 : decode cX4_sinsIn 77 = .ok (.bipush 100, 2) := by decide +kernel
theorem dX4_sinsIn_79 : decode cX4_sinsIn 79 = .ok (.iload_n 2, 1) := by decide +kernel
theorem dX4_sinsIn_80 : decode cX4_sinsIn 80 = .ok (.imul, 1) := by decide +kernel
theorem dX4_sinsIn_81 : decode cX4_sinsIn 81 = .ok (.iload_n 3, 1) := by decide +kernel
theorem dX4_sinsIn_82 : decode cX4_sinsIn 82 = .ok (.iadd, 1) := by decide +kernel
theorem dX4_sinsIn_83 : decode cX4_sinsIn 83 = .ok (.ireturn, 1) := by decide +kernel
theorem dX4_seen_0 : decode cX4_seen 0 = .ok (.iload_n 1, 1) := by decide +kernel
theorem dX4_seen_1 : decode cX4_seen 1 = .ok (.invokestatic 105, 3) := by decide +kernel
theorem dX4_seen_4 : decode cX4_seen 4 = .ok (.ifCond .ne 9, 3) := by decide +kernel
theorem dX4_seen_7 : decode cX4_seen 7 = .ok (.aload_n 0, 1) := by decide +kernel
theorem dX4_seen_8 : decode cX4_seen 8 = .ok (.iconst (-1), 1) := by decide +kernel
theorem dX4_seen_9 : decode cX4_seen 9 = .ok (.invokevirtual 63, 3) := by decide +kernel
theorem dX4_seen_12 : decode cX4_seen 12 = .ok (.ireturn, 1) := by decide +kernel
theorem dX4_seen_13 : decode cX4_seen 13 = .ok (.iload_n 2, 1) := by decide +kernel
theorem dX4_seen_14 : decode cX4_seen 14 = .ok (.ifCond .ge 10, 3) := by decide +kernel
theorem dX4_seen_17 : decode cX4_seen 17 = .ok (.aload_n 0, 1) := by decide +kernel
theorem dX4_seen_18 : decode cX4_seen 18 = .ok (.bipush (-4), 2) := by decide +kernel
theorem dX4_seen_20 : decode cX4_seen 20 = .ok (.invokevirtual 63, 3) := by decide +kernel
theorem dX4_seen_23 : decode cX4_seen 23 = .ok (.ireturn, 1) := by decide +kernel
theorem dX4_seen_24 : decode cX4_seen 24 = .ok (.iload_n 2, 1) := by decide +kernel
theorem dX4_seen_25 : decode cX4_seen 25 = .ok (.bipush 7, 2) := by decide +kernel
theorem dX4_seen_27 : decode cX4_seen 27 = .ok (.if_icmp .le 10, 3) := by decide +kernel
theorem dX4_seen_30 : decode cX4_seen 30 = .ok (.aload_n 0, 1) := by decide +kernel
theorem dX4_seen_31 : decode cX4_seen 31 = .ok (.bipush (-6), 2) := by decide +kernel
theorem dX4_seen_33 : decode cX4_seen 33 = .ok (.invokevirtual 63, 3) := by decide +kernel
theorem dX4_seen_36 : decode cX4_seen 36 = .ok (.ireturn, 1) := by decide +kernel
theorem dX4_seen_37 : decode cX4_seen 37 = .ok (.iconst 0, 1) := by decide +kernel
theorem dX4_seen_38 : decode cX4_seen 38 = .ok (.istore_n 3, 1) := by decide +kernel
theorem dX4_seen_39 : decode cX4_seen 39 = .ok (.iconst 0, 1) := by decide +kernel
theorem dX4_seen_40 : decode cX4_seen 40 = .ok (.istore 4, 2) := by decide +kernel
theorem dX4_seen_42 : decode cX4_seen 42 = .ok (.iload 4, 2) := by decide +kernel
theorem dX4_seen_44 : decode cX4_seen 44 = .ok (.aload_n 0, 1) := by decide +kernel
theorem dX4_seen_45 : decode cX4_seen 45 = .ok (.getfield 52, 3) := by decide +kernel
theorem dX4_seen_48 : decode cX4_seen 48 = .ok (.if_icmp .ge 30, 3) := by decide +kernel
theorem dX4_seen_51 : decode cX4_seen 51 = .ok (.aload_n 0, 1) := by decide +kernel
theorem dX4_seen_52 : decode cX4_seen 52 = .ok (.iload 4, 2) := by decide +kernel
theorem dX4_seen_54 : decode cX4_seen 54 = .ok (.iload_n 2, 1) := by decide +kernel
theorem dX4_seen_55 : decode cX4_seen 55 = .ok (.invokevirtual 139, 3) := by decide +kernel
theorem dX4_seen_58 : decode cX4_seen 58 = .ok (.iload_n 1, 1) := by decide +kernel
theorem dX4_seen_59 : decode cX4_seen 59 = .ok (.invokestatic 129, 3) := by decide +kernel
theorem dX4_seen_62 : decode cX4_seen 62 = .ok (.ifCond .eq 10, 3) := by decide +kernel
theorem dX4_seen_65 : decode cX4_seen 65 = .ok (.iload_n 3, 1) := by decide +kernel
theorem dX4_seen_66 : decode cX4_seen 66 = .ok (.iconst 1, 1) := by decide +kernel
theorem dX4_seen_67 : decode cX4_seen 67 = .ok (.iload 4, 2) := by decide +kernel
theorem dX4_seen_69 : decode cX4_seen 69 = .ok (.ishl, 1) := by decide +kernel
theorem dX4_seen_70 : decode cX4_seen 70 = .ok (.ior, 1) := by decide +kernel
theorem dX4_seen_71 : decode cX4_seen 71 = .ok (.istore_n 3, 1) := by decide +kernel
theorem dX4_seen_72 : decode cX4_seen 72 = .ok (.iinc 4 1, 3) := by decide +kernel
theorem dX4_seen_75 : decode cX4_seen 75 = .ok (.goto (-33), 3) := by decide +kernel
theorem dX4_seen_78 : decode cX4_seen 78 = .ok (.iload_n 3, 1) := by decide +kernel
theorem dX4_seen_79 : decode cX4_seen 79 = .ok (.ireturn, 1) := by decide +kernel
theorem dX4_from_0 : decode cX4_from 0 = .ok (.aload_n 0, 1) := by decide +kernel
theorem dX4_from_1 : decode cX4_from 1 = .ok (.iload_n 1, 1) := by decide +kernel
theorem dX4_from_2 : decode cX4_from 2 = .ok (.invokevirtual 112, 3) := by decide +kernel
theorem dX4_from_5 : decode cX4_from 5 = .ok (.ifCond .ne 9, 3) := by decide +kernel
theorem dX4_from_8 : decode cX4_from 8 = .ok (.aload_n 0, 1) := by decide +kernel
theorem dX4_from_9 : decode cX4_from 9 = .ok (.iconst (-1), 1) := by decide +kernel
theorem dX4_from_10 : decode cX4_from 10 = .ok (.invokevirtual 63, 3) := by decide +kernel
theorem dX4_from_13 : decode cX4_from 13 = .ok (.ireturn, 1) := by decide +kernel
theorem dX4_from_14 : decode cX4_from 14 = .ok (.iload_n 2, 1) := by decide +kernel
theorem dX4_from_15 : decode cX4_from 15 = .ok (.ifCond .ge 10, 3) := by decide +kernel
theorem dX4_from_18 : decode cX4_from 18 = .ok (.aload_n 0, 1) := by decide +kernel
theorem dX4_from_19 : decode cX4_from 19 = .ok (.bipush (-4), 2) := by decide +kernel
theorem dX4_from_21 : decode cX4_from 21 = .ok (.invokevirtual 63, 3) := by decide +kernel
theorem dX4_from_24 : decode cX4_from 24 = .ok (.ireturn, 1) := by decide +kernel
theorem dX4_from_25 : decode cX4_from 25 = .ok (.iload_n 2, 1) := by decide +kernel
theorem dX4_from_26 : decode cX4_from 26 = .ok (.bipush 7, 2) := by decide +kernel
theorem dX4_from_28 : decode cX4_from 28 = .ok (.if_icmp .le 12, 3) := by decide +kernel
theorem dX4_from_31 : decode cX4_from 31 = .ok (.aload_n 0, 1) := by decide +kernel
theorem dX4_from_32 : decode cX4_from 32 = .ok (.bipush (-6), 2) := by decide +kernel
theorem dX4_from_34 : decode cX4_from 34 = .ok (.invokevirtual 63, 3) := by decide +kernel
theorem dX4_from_37 : decode cX4_from 37 = .ok (.goto 9, 3) := by decide +kernel
theorem dX4_from_40 : decode cX4_from 40 = .ok (.aload_n 0, 1) := by decide +kernel
theorem dX4_from_41 : decode cX4_from 41 = .ok (.iload_n 1, 1) := by decide +kernel
theorem dX4_from_42 : decode cX4_from 42 = .ok (.iload_n 2, 1) := by decide +kernel
theorem dX4_from_43 : decode cX4_from 43 = .ok (.invokevirtual 139, 3) := by decide +kernel
theorem dX4_from_46 : decode cX4_from 46 = .ok (.ireturn, 1) := by decide +kernel
theorem dX4_sins_0 : decode cX4_sins 0 = .ok (.iload_n 1, 1) := by decide +kernel
theorem dX4_sins_1 : decode cX4_sins 1 = .ok (.ifCond .ge 10, 3) := by decide +kernel
theorem dX4_sins_4 : decode cX4_sins 4 = .ok (.aload_n 0, 1) := by decide +kernel
theorem dX4_sins_5 : decode cX4_sins 5 = .ok (.bipush (-4), 2) := by decide +kernel
theorem dX4_sins_7 : decode cX4_sins 7 = .ok (.invokevirtual 63, 3) := by decide +kernel
theorem dX4_sins_10 : decode cX4_sins 10 = .ok (.ireturn, 1) := by decide +kernel
theorem dX4_sins_11 : decode cX4_sins 11 = .ok (.iload_n 1, 1) := by decide +kernel
theorem dX4_sins_12 : decode cX4_sins 12 = .ok (.bipush 7, 2) := by decide +kernel
theorem dX4_sins_14 : decode cX4_sins 14 = .ok (.if_icmp .le 10, 3) := by decide +kernel
theorem dX4_sins_17 : decode cX4_sins 17 = .ok (.aload_n 0, 1) := by decide +kernel
theorem dX4_sins_18 : decode cX4_sins 18 = .ok (.bipush (-6), 2) := by decide +kernel
theorem dX4_sins_20 : decode cX4_sins 20 = .ok (.invokevirtual 63, 3) := by decide +kernel
theorem dX4_sins_23 : decode cX4_sins 23 = .ok (.ireturn, 1) := by decide +kernel
theorem dX4_sins_24 : decode cX4_sins 24 = .ok (.iload_n 2, 1) := by decide +kernel
theorem dX4_sins_25 : decode cX4_sins 25 = .ok (.iconst 0, 1) := by decide +kernel
theorem dX4_sins_26 : decode cX4_sins 26 = .ok (.iconst 1, 1) := by decide +kernel
theorem dX4_sins_27 : decode cX4_sins 27 = .ok (.invokestatic 56, 3) := by decide +kernel
theorem dX4_sins_30 : decode cX4_sins 30 = .ok (.ifCond .ne 10, 3) := by decide +kernel
theorem dX4_sins_33 : decode cX4_sins 33 = .ok (.aload_n 0, 1) := by decide +kernel
theorem dX4_sins_34 : decode cX4_sins 34 = .ok (.bipush (-2), 2) := by decide +kernel
theorem dX4_sins_36 : decode cX4_sins 36 = .ok (.invokevirtual 63, 3) := by decide +kernel
theorem dX4_sins_39 : decode cX4_sins 39 = .ok (.ireturn, 1) := by decide +kernel
theorem dX4_sins_40 : decode cX4_sins 40 = .ok (.aload_n 0, 1) := by decide +kernel
theorem dX4_sins_41 : decode cX4_sins 41 = .ok (.iload_n 1, 1) := by decide +kernel
theorem dX4_sins_42 : decode cX4_sins 42 = .ok (.invokevirtual 146, 3) := by decide +kernel
theorem dX4_sins_45 : decode cX4_sins 45 = .ok (.istore_n 3, 1) := by decide +kernel
theorem dX4_sins_46 : decode cX4_sins 46 = .ok (.iload_n 2, 1) := by decide +kernel
theorem dX4_sins_47 : decode cX4_sins 47 = .ok (.ifCond .ne 10, 3) := by decide +kernel
theorem dX4_sins_50 : decode cX4_sins 50 = .ok (.iload_n 3, 1) := by decide +kernel
theorem dX4_sins_51 : decode cX4_sins 51 = .ok (.bipush 100, 2) := by decide +kernel
theorem dX4_sins_53 : decode cX4_sins 53 = .ok (.idiv, 1) := by decide +kernel
theorem dX4_sins_54 : decode cX4_sins 54 = .ok (.goto 16, 3) := by decide +kernel
theorem dX4_sins_57 : decode cX4_sins 57 = .ok (.iload_n 3, 1) := by decide +kernel
theorem dX4_sins_58 : decode cX4_sins 58 = .ok (.ifCond .ne 8, 3) := by decide +kernel
theorem dX4_sins_61 : decode cX4_sins 61 = .ok (.bipush (-9), 2) := by decide +kernel
theorem dX4_sins_63 : decode cX4_sins 63 = .ok (.goto 7, 3) := by decide +kernel
theorem dX4_sins_66 : decode cX4_sins 66 = .ok (.iload_n 3, 1) := by decide +kernel
theorem dX4_sins_67 : decode cX4_sins 67 = .ok (.bipush 100, 2) := by decide +kernel
theorem dX4_sins_69 : decode cX4_sins 69 = .ok (.irem, 1) := by decide +kernel
theorem dX4_sins_70 : decode cX4_sins 70 = .ok (.ireturn, 1) := by decide +kernel
theorem dX4_day_0 : decode cX4_day 0 = .ok (.iconst 0, 1) := by decide +kernel
theorem dX4_day_1 : decode cX4_day 1 = .ok (.istore_n 1, 1) := by decide +kernel
theorem dX4_day_2 : decode cX4_day 2 = .ok (.iload_n 1, 1) := by decide +kernel
theorem dX4_day_3 : decode cX4_day 3 = .ok (.bipush 8, 2) := by decide +kernel
theorem dX4_day_5 : decode cX4_day 5 = .ok (.if_icmp .ge 19, 3) := by decide +kernel
theorem dX4_day_8 : decode cX4_day 8 = .ok (.aload_n 0, 1) := by decide +kernel
theorem dX4_day_9 : decode cX4_day 9 = .ok (.iload_n 1, 1) := by decide +kernel
theorem dX4_day_10 : decode cX4_day 10 = .ok (.invokevirtual 146, 3) := by decide +kernel
theorem dX4_day_13 : decode cX4_day 13 = .ok (.ifCond .le 5, 3) := by decide +kernel
theorem dX4_day_16 : decode cX4_day 16 = .ok (.iload_n 1, 1) := by decide +kernel
theorem dX4_day_17 : decode cX4_day 17 = .ok (.ireturn, 1) := by decide +kernel
theorem dX4_day_18 : decode cX4_day 18 = .ok (.iinc 1 1, 3) := by decide +kernel
theorem dX4_day_21 : decode cX4_day 21 = .ok (.goto (-19), 3) := by decide +kernel
theorem dX4_day_24 : decode cX4_day 24 = .ok (.bipush (-9), 2) := by decide +kernel
theorem dX4_day_26 : decode cX4_day 26 = .ok (.ireturn, 1) := by decide +kernel
theorem dX4_curtains_0 : decode cX4_curtains 0 = .ok (.aload_n 0, 1) := by decide +kernel
theorem dX4_curtains_1 : decode cX4_curtains 1 = .ok (.getfield 92, 3) := by decide +kernel
theorem dX4_curtains_4 : decode cX4_curtains 4 = .ok (.istore_n 1, 1) := by decide +kernel
theorem dX4_curtains_5 : decode cX4_curtains 5 = .ok (.bipush (-9), 2) := by decide +kernel
theorem dX4_curtains_7 : decode cX4_curtains 7 = .ok (.istore_n 2, 1) := by decide +kernel
theorem dX4_curtains_8 : decode cX4_curtains 8 = .ok (.iconst 0, 1) := by decide +kernel
theorem dX4_curtains_9 : decode cX4_curtains 9 = .ok (.istore_n 3, 1) := by decide +kernel
theorem dX4_curtains_10 : decode cX4_curtains 10 = .ok (.iload_n 3, 1) := by decide +kernel
theorem dX4_curtains_11 : decode cX4_curtains 11 = .ok (.iconst 1, 1) := by decide +kernel
theorem dX4_curtains_12 : decode cX4_curtains 12 = .ok (.aload_n 0, 1) := by decide +kernel
theorem dX4_curtains_13 : decode cX4_curtains 13 = .ok (.getfield 60, 3) := by decide +kernel
theorem dX4_curtains_16 : decode cX4_curtains 16 = .ok (.ishl, 1) := by decide +kernel
theorem dX4_curtains_17 : decode cX4_curtains 17 = .ok (.if_icmp .ge 45, 3) := by decide +kernel
theorem dX4_curtains_20 : decode cX4_curtains 20 = .ok (.iload_n 2, 1) := by decide +kernel
theorem dX4_curtains_21 : decode cX4_curtains 21 = .ok (.ifCond .lt 17, 3) := by decide +kernel
theorem dX4_curtains_24 : decode cX4_curtains 24 = .ok (.iload_n 3, 1) := by decide +kernel
theorem dX4_curtains_25 : decode cX4_curtains 25 = .ok (.invokestatic 149, 3) := by decide +kernel
theorem dX4_curtains_28 : decode cX4_curtains 28 = .ok (.iload_n 2, 1) := by decide +kernel
theorem dX4_curtains_29 : decode cX4_curtains 29 = .ok (.invokestatic 149, 3) := by decide +kernel
theorem dX4_curtains_32 : decode cX4_curtains 32 = .ok (.if_icmp .lt 6, 3) := by decide +kernel
theorem dX4_curtains_35 : decode cX4_curtains 35 = .ok (.goto 21, 3) := by decide +kernel
theorem dX4_curtains_38 : decode cX4_curtains 38 = .ok (.aload_n 0, 1) := by decide +kernel
theorem dX4_curtains_39 : decode cX4_curtains 39 = .ok (.iload_n 3, 1) := by decide +kernel
theorem dX4_curtains_40 : decode cX4_curtains 40 = .ok (.putfield 92, 3) := by decide +kernel
theorem dX4_curtains_43 : decode cX4_curtains 43 = .ok (.aload_n 0, 1) := by decide +kernel
theorem dX4_curtains_44 : decode cX4_curtains 44 = .ok (.aload_n 0, 1) := by decide +kernel
theorem dX4_curtains_45 : decode cX4_curtains 45 = .ok (.getfield 95, 3) := by decide +kernel
theorem dX4_curtains_48 : decode cX4_curtains 48 = .ok (.invokevirtual 146, 3) := by decide +kernel
theorem dX4_curtains_51 : decode cX4_curtains 51 = .ok (.ifCond .ne 5, 3) := by decide +kernel
theorem dX4_curtains_54 : decode cX4_curtains 54 = .ok (.iload_n 3, 1) := by decide +kernel
theorem dX4_curtains_55 : decode cX4_curtains 55 = .ok (.istore_n 2, 1) := by decide +kernel
theorem dX4_curtains_56 : decode cX4_curtains 56 = .ok (.iinc 3 1, 3) := by decide +kernel
theorem dX4_curtains_59 : decode cX4_curtains 59 = .ok (.goto (-49), 3) := by decide +kernel
theorem dX4_curtains_62 : decode cX4_curtains 62 = .ok (.aload_n 0, 1) := by decide +kernel
theorem dX4_curtains_63 : decode cX4_curtains 63 = .ok (.iload_n 1, 1) := by decide +kernel
theorem dX4_curtains_64 : decode cX4_curtains 64 = .ok (.putfield 92, 3) := by decide +kernel
theorem dX4_curtains_67 : decode cX4_curtains 67 = .ok (.iload_n 2, 1) := by decide +kernel
theorem dX4_curtains_68 : decode cX4_curtains 68 = .ok (.ireturn, 1) := by decide +kernel
theorem dX4_oneMoved_0 : decode cX4_oneMoved 0 = .ok (.iconst 0, 1) := by decide +kernel
theorem dX4_oneMoved_1 : decode cX4_oneMoved 1 = .ok (.istore_n 1, 1) := by decide +kernel
theorem dX4_oneMoved_2 : decode cX4_oneMoved 2 = .ok (.iload_n 1, 1) := by decide +kernel
theorem dX4_oneMoved_3 : decode cX4_oneMoved 3 = .ok (.aload_n 0, 1) := by decide +kernel
theorem dX4_oneMoved_4 : decode cX4_oneMoved 4 = .ok (.getfield 52, 3) := by decide +kernel
theorem dX4_oneMoved_7 : decode cX4_oneMoved 7 = .ok (.if_icmp .ge 84, 3) := by decide +kernel
theorem dX4_oneMoved_10 : decode cX4_oneMoved 10 = .ok (.aload_n 0, 1) := by decide +kernel
theorem dX4_oneMoved_11 : decode cX4_oneMoved 11 = .ok (.getfield 19, 3) := by decide +kernel
theorem dX4_oneMoved_14 : decode cX4_oneMoved 14 = .ok (.iload_n 1, 1) := by decide +kernel
theorem dX4_oneMoved_15 : decode cX4_oneMoved 15 = .ok (.iaload, 1) := by decide +kernel
theorem dX4_oneMoved_16 : decode cX4_oneMoved 16 = .ok (.istore_n 2, 1) := by decide +kernel
theorem dX4_oneMoved_17 : decode cX4_oneMoved 17 = .ok (.bipush (-9), 2) := by decide +kernel
theorem dX4_oneMoved_19 : decode cX4_oneMoved 19 = .ok (.istore_n 3, 1) := by decide +kernel
theorem dX4_oneMoved_20 : decode cX4_oneMoved 20 = .ok (.iconst 5, 1) := by decide +kernel
theorem dX4_oneMoved_21 : decode cX4_oneMoved 21 = .ok (.istore 4, 2) := by decide +kernel
theorem dX4_oneMoved_23 : decode cX4_oneMoved 23 = .ok (.iload 4, 2) := by decide +kernel
theorem dX4_oneMoved_25 : decode cX4_oneMoved 25 = .ok (.ifCond .lt 40, 3) := by decide +kernel
theorem dX4_oneMoved_28 : decode cX4_oneMoved 28 = .ok (.iload 4, 2) := by decide +kernel
theorem dX4_oneMoved_30 : decode cX4_oneMoved 30 = .ok (.iload_n 2, 1) := by decide +kernel
theorem dX4_oneMoved_31 : decode cX4_oneMoved 31 = .ok (.if_icmp .ne 6, 3) := by decide +kernel
theorem dX4_oneMoved_34 : decode cX4_oneMoved 34 = .ok (.goto 25, 3) := by decide +kernel
theorem dX4_oneMoved_37 : decode cX4_oneMoved 37 = .ok (.aload_n 0, 1) := by decide +kernel
theorem dX4_oneMoved_38 : decode cX4_oneMoved 38 = .ok (.getfield 19, 3) := by decide +kernel
theorem dX4_oneMoved_41 : decode cX4_oneMoved 41 = .ok (.iload_n 1, 1) := by decide +kernel
theorem dX4_oneMoved_42 : decode cX4_oneMoved 42 = .ok (.iload 4, 2) := by decide +kernel
theorem dX4_oneMoved_44 : decode cX4_oneMoved 44 = .ok (.iastore, 1) := by decide +kernel
theorem dX4_oneMoved_45 : decode cX4_oneMoved 45 = .ok (.aload_n 0, 1) := by decide +kernel
theorem dX4_oneMoved_46 : decode cX4_oneMoved 46 = .ok (.aload_n 0, 1) := by decide +kernel
theorem dX4_oneMoved_47 : decode cX4_oneMoved 47 = .ok (.getfield 95, 3) := by decide +kernel
theorem dX4_oneMoved_50 : decode cX4_oneMoved 50 = .ok (.invokevirtual 146, 3) := by decide +kernel
theorem dX4_oneMoved_53 : decode cX4_oneMoved 53 = .ok (.ifCond .ne 6, 3) := by decide +kernel
theorem dX4_oneMoved_56 : decode cX4_oneMoved 56 = .ok (.iload 4, 2) := by decide +kernel
theorem dX4_oneMoved_58 : decode cX4_oneMoved 58 = .ok (.istore_n 3, 1) := by decide +kernel
theorem dX4_oneMoved_59 : decode cX4_oneMoved 59 = .ok (.iinc 4 (-1), 3) := by decide +kernel
theorem dX4_oneMoved_62 : decode cX4_oneMoved 62 = .ok (.goto (-39), 3) := by decide +kernel
theorem dX4_oneMoved_65 : decode cX4_oneMoved 65 = .ok (.aload_n 0, 1) := by decide +kernel
theorem dX4_oneMoved_66 : decode cX4_oneMoved 66 = .ok (.getfield 19, 3) := by decide +kernel
theorem dX4_oneMoved_69 : decode cX4_oneMoved 69 = .ok (.iload_n 1, 1) := by decide +kernel
theorem dX4_oneMoved_70 : decode cX4_oneMoved 70 = .ok (.iload_n 2, 1) := by decide +kernel
theorem dX4_oneMoved_71 : decode cX4_oneMoved 71 = .ok (.iastore, 1) := by decide +kernel
theorem dX4_oneMoved_72 : decode cX4_oneMoved 72 = .ok (.iload_n 3, 1) := by decide +kernel
theorem dX4_oneMoved_73 : decode cX4_oneMoved 73 = .ok (.bipush (-9), 2) := by decide +kernel
theorem dX4_oneMoved_75 : decode cX4_oneMoved 75 = .ok (.if_icmp .eq 10, 3) := by decide +kernel
theorem dX4_oneMoved_78 : decode cX4_oneMoved 78 = .ok (.bipush 10, 2) := by decide +kernel
theorem dX4_oneMoved_80 : decode cX4_oneMoved 80 = .ok (.iload_n 1, 1) := by decide +kernel
theorem dX4_oneMoved_81 : decode cX4_oneMoved 81 = .ok (.imul, 1) := by decide +kernel
theorem dX4_oneMoved_82 : decode cX4_oneMoved 82 = .ok (.iload_n 3, 1) := by decide +kernel
theorem dX4_oneMoved_83 : decode cX4_oneMoved 83 = .ok (.iadd, 1) := by decide +kernel
theorem dX4_oneMoved_84 : decode cX4_oneMoved 84 = .ok (.ireturn, 1) := by decide +kernel
theorem dX4_oneMoved_85 : decode cX4_oneMoved 85 = .ok (.iinc 1 1, 3) := by decide +kernel
theorem dX4_oneMoved_88 : decode cX4_oneMoved 88 = .ok (.goto (-86), 3) := by decide +kernel
theorem dX4_oneMoved_91 : decode cX4_oneMoved 91 = .ok (.bipush (-9), 2) := by decide +kernel
theorem dX4_oneMoved_93 : decode cX4_oneMoved 93 = .ok (.ireturn, 1) := by decide +kernel
theorem dX4_byTwo_0 : decode cX4_byTwo 0 = .ok (.iconst 0, 1) := by decide +kernel
theorem dX4_byTwo_1 : decode cX4_byTwo 1 = .ok (.istore_n 1, 1) := by decide +kernel
theorem dX4_byTwo_2 : decode cX4_byTwo 2 = .ok (.iload_n 1, 1) := by decide +kernel
theorem dX4_byTwo_3 : decode cX4_byTwo 3 = .ok (.aload_n 0, 1) := by decide +kernel
theorem dX4_byTwo_4 : decode cX4_byTwo 4 = .ok (.getfield 52, 3) := by decide +kernel
theorem dX4_byTwo_7 : decode cX4_byTwo 7 = .ok (.if_icmp .ge 166, 3) := by decide +kernel
theorem dX4_byTwo_10 : decode cX4_byTwo 10 = .ok (.aload_n 0, 1) := by decide +kernel
theorem dX4_byTwo_11 : decode cX4_byTwo 11 = .ok (.getfield 19, 3) := by decide +kernel
theorem dX4_byTwo_14 : decode cX4_byTwo 14 = .ok (.iload_n 1, 1) := by decide +kernel
theorem dX4_byTwo_15 : decode cX4_byTwo 15 = .ok (.iaload, 1) := by decide +kernel
theorem dX4_byTwo_16 : decode cX4_byTwo 16 = .ok (.istore_n 2, 1) := by decide +kernel
theorem dX4_byTwo_17 : decode cX4_byTwo 17 = .ok (.iconst 0, 1) := by decide +kernel
theorem dX4_byTwo_18 : decode cX4_byTwo 18 = .ok (.istore_n 3, 1) := by decide +kernel
theorem dX4_byTwo_19 : decode cX4_byTwo 19 = .ok (.iconst 0, 1) := by decide +kernel
theorem dX4_byTwo_20 : decode cX4_byTwo 20 = .ok (.istore 4, 2) := by decide +kernel
theorem dX4_byTwo_22 : decode cX4_byTwo 22 = .ok (.iload 4, 2) := by decide +kernel
theorem dX4_byTwo_24 : decode cX4_byTwo 24 = .ok (.bipush 6, 2) := by decide +kernel
theorem dX4_byTwo_26 : decode cX4_byTwo 26 = .ok (.if_icmp .ge 128, 3) := by decide +kernel
theorem dX4_byTwo_29 : decode cX4_byTwo 29 = .ok (.iload_n 3, 1) := by decide +kernel
theorem dX4_byTwo_30 : decode cX4_byTwo 30 = .ok (.ifCond .ne 124, 3) := by decide +kernel
theorem dX4_byTwo_33 : decode cX4_byTwo 33 = .ok (.iload 4, 2) := by decide +kernel
theorem dX4_byTwo_35 : decode cX4_byTwo 35 = .ok (.iload_n 2, 1) := by decide +kernel
theorem dX4_byTwo_36 : decode cX4_byTwo 36 = .ok (.if_icmp .ne 6, 3) := by decide +kernel
theorem dX4_byTwo_39 : decode cX4_byTwo 39 = .ok (.goto 109, 3) := by decide +kernel
theorem dX4_byTwo_42 : decode cX4_byTwo 42 = .ok (.aload_n 0, 1) := by decide +kernel
theorem dX4_byTwo_43 : decode cX4_byTwo 43 = .ok (.getfield 19, 3) := by decide +kernel
theorem dX4_byTwo_46 : decode cX4_byTwo 46 = .ok (.iload_n 1, 1) := by decide +kernel
theorem dX4_byTwo_47 : decode cX4_byTwo 47 = .ok (.iload 4, 2) := by decide +kernel
theorem dX4_byTwo_49 : decode cX4_byTwo 49 = .ok (.iastore, 1) := by decide +kernel
theorem dX4_byTwo_50 : decode cX4_byTwo 50 = .ok (.iload_n 1, 1) := by decide +kernel
theorem dX4_byTwo_51 : decode cX4_byTwo 51 = .ok (.iconst 1, 1) := by decide +kernel
theorem dX4_byTwo_52 : decode cX4_byTwo 52 = .ok (.iadd, 1) := by decide +kernel
theorem dX4_byTwo_53 : decode cX4_byTwo 53 = .ok (.istore 5, 2) := by decide +kernel
theorem dX4_byTwo_55 : decode cX4_byTwo 55 = .ok (.iload 5, 2) := by decide +kernel
theorem dX4_byTwo_57 : decode cX4_byTwo 57 = .ok (.aload_n 0, 1) := by decide +kernel
theorem dX4_byTwo_58 : decode cX4_byTwo 58 = .ok (.getfield 52, 3) := by decide +kernel
theorem dX4_byTwo_61 : decode cX4_byTwo 61 = .ok (.if_icmp .ge 87, 3) := by decide +kernel
theorem dX4_byTwo_64 : decode cX4_byTwo 64 = .ok (.iload_n 3, 1) := by decide +kernel
theorem dX4_byTwo_65 : decode cX4_byTwo 65 = .ok (.ifCond .ne 83, 3) := by decide +kernel
theorem dX4_byTwo_68 : decode cX4_byTwo 68 = .ok (.aload_n 0, 1) := by decide +kernel
theorem dX4_byTwo_69 : decode cX4_byTwo 69 = .ok (.getfield 19, 3) := by decide +kernel
theorem dX4_byTwo_72 : decode cX4_byTwo 72 = .ok (.iload 5, 2) := by decide +kernel
theorem dX4_byTwo_74 : decode cX4_byTwo 74 = .ok (.iaload, 1) := by decide +kernel
theorem dX4_byTwo_75 : decode cX4_byTwo 75 = .ok (.istore 6, 2) := by decide +kernel
theorem dX4_byTwo_77 : decode cX4_byTwo 77 = .ok (.iconst 0, 1) := by decide +kernel
theorem dX4_byTwo_78 : decode cX4_byTwo 78 = .ok (.istore 7, 2) := by decide +kernel
theorem dX4_byTwo_80 : decode cX4_byTwo 80 = .ok (.iload 7, 2) := by decide +kernel
theorem dX4_byTwo_82 : decode cX4_byTwo 82 = .ok (.bipush 6, 2) := by decide +kernel
theorem dX4_byTwo_84 : decode cX4_byTwo 84 = .ok (.if_icmp .ge 49, 3) := by decide +kernel
theorem dX4_byTwo_87 : decode cX4_byTwo 87 = .ok (.iload_n 3, 1) := by decide +kernel
theorem dX4_byTwo_88 : decode cX4_byTwo 88 = .ok (.ifCond .ne 45, 3) := by decide +kernel
theorem dX4_byTwo_91 : decode cX4_byTwo 91 = .ok (.iload 7, 2) := by decide +kernel
theorem dX4_byTwo_93 : decode cX4_byTwo 93 = .ok (.iload 6, 2) := by decide +kernel
theorem dX4_byTwo_95 : decode cX4_byTwo 95 = .ok (.if_icmp .ne 6, 3) := by decide +kernel
theorem dX4_byTwo_98 : decode cX4_byTwo 98 = .ok (.goto 29, 3) := by decide +kernel
theorem dX4_byTwo_101 : decode cX4_byTwo 101 = .ok (.aload_n 0, 1) := by decide +kernel
theorem dX4_byTwo_102 : decode cX4_byTwo 102 = .ok (.getfield 19, 3) := by decide +kernel
theorem dX4_byTwo_105 : decode cX4_byTwo 105 = .ok (.iload 5, 2) := by decide +kernel
theorem dX4_byTwo_107 : decode cX4_byTwo 107 = .ok (.iload 7, 2) := by decide +kernel
theorem dX4_byTwo_109 : decode cX4_byTwo 109 = .ok (.iastore, 1) := by decide +kernel
theorem dX4_byTwo_110 : decode cX4_byTwo 110 = .ok (.aload_n 0, 1) := by decide +kernel
theorem dX4_byTwo_111 : decode cX4_byTwo 111 = .ok (.aload_n 0, 1) := by decide +kernel
theorem dX4_byTwo_112 : decode cX4_byTwo 112 = .ok (.getfield 95, 3) := by decide +kernel
theorem dX4_byTwo_115 : decode cX4_byTwo 115 = .ok (.invokevirtual 146, 3) := by decide +kernel
theorem dX4_byTwo_118 : decode cX4_byTwo 118 = .ok (.ifCond .ne 7, 3) := by decide +kernel
theorem dX4_byTwo_121 : decode cX4_byTwo 121 = .ok (.iconst 1, 1) := by decide +kernel
theorem dX4_byTwo_122 : decode cX4_byTwo 122 = .ok (.goto 4, 3) := by decide +kernel
theorem dX4_byTwo_125 : decode cX4_byTwo 125 = .ok (.iconst 0, 1) := by decide +kernel
theorem dX4_byTwo_126 : decode cX4_byTwo 126 = .ok (.istore_n 3, 1) := by decide +kernel
theorem dX4_byTwo_127 : decode cX4_byTwo 127 = .ok (.iinc 7 1, 3) := by decide +kernel
theorem dX4_byTwo_130 : decode cX4_byTwo 130 = .ok (.goto (-50), 3) := by decide +kernel
theorem dX4_byTwo_133 : decode cX4_byTwo 133 = .ok (.aload_n 0, 1) := by decide +kernel
theorem dX4_byTwo_134 : decode cX4_byTwo 134 = .ok (.getfield 19, 3) := by decide +kernel
theorem dX4_byTwo_137 : decode cX4_byTwo 137 = .ok (.iload 5, 2) := by decide +kernel
theorem dX4_byTwo_139 : decode cX4_byTwo 139 = .ok (.iload 6, 2) := by decide +kernel
theorem dX4_byTwo_141 : decode cX4_byTwo 141 = .ok (.iastore, 1) := by decide +kernel
theorem dX4_byTwo_142 : decode cX4_byTwo 142 = .ok (.iinc 5 1, 3) := by decide +kernel
theorem dX4_byTwo_145 : decode cX4_byTwo 145 = .ok (.goto (-90), 3) := by decide +kernel
theorem dX4_byTwo_148 : decode cX4_byTwo 148 = .ok (.iinc 4 1, 3) := by decide +kernel
theorem dX4_byTwo_151 : decode cX4_byTwo 151 = .ok (.goto (-129), 3) := by decide +kernel
theorem dX4_byTwo_154 : decode cX4_byTwo 154 = .ok (.aload_n 0, 1) := by decide +kernel
theorem dX4_byTwo_155 : decode cX4_byTwo 155 = .ok (.getfield 19, 3) := by decide +kernel
theorem dX4_byTwo_158 : decode cX4_byTwo 158 = .ok (.iload_n 1, 1) := by decide +kernel
theorem dX4_byTwo_159 : decode cX4_byTwo 159 = .ok (.iload_n 2, 1) := by decide +kernel
theorem dX4_byTwo_160 : decode cX4_byTwo 160 = .ok (.iastore, 1) := by decide +kernel
theorem dX4_byTwo_161 : decode cX4_byTwo 161 = .ok (.iload_n 3, 1) := by decide +kernel
theorem dX4_byTwo_162 : decode cX4_byTwo 162 = .ok (.ifCond .eq 5, 3) := by decide +kernel
theorem dX4_byTwo_165 : decode cX4_byTwo 165 = .ok (.iconst 1, 1) := by decide +kernel
theorem dX4_byTwo_166 : decode cX4_byTwo 166 = .ok (.ireturn, 1) := by decide +kernel
theorem dX4_byTwo_167 : decode cX4_byTwo 167 = .ok (.iinc 1 1, 3) := by decide +kernel
theorem dX4_byTwo_170 : decode cX4_byTwo 170 = .ok (.goto (-168), 3) := by decide +kernel
theorem dX4_byTwo_173 : decode cX4_byTwo 173 = .ok (.iconst 0, 1) := by decide +kernel
theorem dX4_byTwo_174 : decode cX4_byTwo 174 = .ok (.ireturn, 1) := by decide +kernel
theorem dX4_moved_0 : decode cX4_moved 0 = .ok (.iload_n 1, 1) := by decide +kernel
theorem dX4_moved_1 : decode cX4_moved 1 = .ok (.iconst 0, 1) := by decide +kernel
theorem dX4_moved_2 : decode cX4_moved 2 = .ok (.iconst 1, 1) := by decide +kernel
theorem dX4_moved_3 : decode cX4_moved 3 = .ok (.invokestatic 56, 3) := by decide +kernel
theorem dX4_moved_6 : decode cX4_moved 6 = .ok (.ifCond .ne 10, 3) := by decide +kernel
theorem dX4_moved_9 : decode cX4_moved 9 = .ok (.aload_n 0, 1) := by decide +kernel
theorem dX4_moved_10 : decode cX4_moved 10 = .ok (.bipush (-2), 2) := by decide +kernel
theorem dX4_moved_12 : decode cX4_moved 12 = .ok (.invokevirtual 63, 3) := by decide +kernel
theorem dX4_moved_15 : decode cX4_moved 15 = .ok (.ireturn, 1) := by decide +kernel
theorem dX4_moved_16 : decode cX4_moved 16 = .ok (.aload_n 0, 1) := by decide +kernel
theorem dX4_moved_17 : decode cX4_moved 17 = .ok (.aload_n 0, 1) := by decide +kernel
theorem dX4_moved_18 : decode cX4_moved 18 = .ok (.getfield 95, 3) := by decide +kernel
theorem dX4_moved_21 : decode cX4_moved 21 = .ok (.invokevirtual 146, 3) := by decide +kernel
theorem dX4_moved_24 : decode cX4_moved 24 = .ok (.ifCond .ne 7, 3) := by decide +kernel
theorem dX4_moved_27 : decode cX4_moved 27 = .ok (.iconst 1, 1) := by decide +kernel
theorem dX4_moved_28 : decode cX4_moved 28 = .ok (.goto 4, 3) := by decide +kernel
theorem dX4_moved_31 : decode cX4_moved 31 = .ok (.iconst 0, 1) := by decide +kernel
theorem dX4_moved_32 : decode cX4_moved 32 = .ok (.istore_n 2, 1) := by decide +kernel
theorem dX4_moved_33 : decode cX4_moved 33 = .ok (.iload_n 2, 1) := by decide +kernel
theorem dX4_moved_34 : decode cX4_moved 34 = .ok (.ifCond .eq 8, 3) := by decide +kernel
theorem dX4_moved_37 : decode cX4_moved 37 = .ok (.bipush (-9), 2) := by decide +kernel
theorem dX4_moved_39 : decode cX4_moved 39 = .ok (.goto 7, 3) := by decide +kernel
theorem dX4_moved_42 : decode cX4_moved 42 = .ok (.aload_n 0, 1) := by decide +kernel
theorem dX4_moved_43 : decode cX4_moved 43 = .ok (.invokevirtual 154, 3) := by decide +kernel
theorem dX4_moved_46 : decode cX4_moved 46 = .ok (.istore_n 3, 1) := by decide +kernel
theorem dX4_moved_47 : decode cX4_moved 47 = .ok (.iload_n 1, 1) := by decide +kernel
theorem dX4_moved_48 : decode cX4_moved 48 = .ok (.iconst 1, 1) := by decide +kernel
theorem dX4_moved_49 : decode cX4_moved 49 = .ok (.if_icmp .ne 5, 3) := by decide +kernel
theorem dX4_moved_52 : decode cX4_moved 52 = .ok (.iload_n 3, 1) := by decide +kernel
theorem dX4_moved_53 : decode cX4_moved 53 = .ok (.ireturn, 1) := by decide +kernel
theorem dX4_moved_54 : decode cX4_moved 54 = .ok (.iload_n 2, 1) := by decide +kernel
theorem dX4_moved_55 : decode cX4_moved 55 = .ok (.ifCond .eq 7, 3) := by decide +kernel
theorem dX4_moved_58 : decode cX4_moved 58 = .ok (.iconst 0, 1) := by decide +kernel
theorem dX4_moved_59 : decode cX4_moved 59 = .ok (.goto 26, 3) := by decide +kernel
theorem dX4_moved_62 : decode cX4_moved 62 = .ok (.iload_n 3, 1) := by decide +kernel
theorem dX4_moved_63 : decode cX4_moved 63 = .ok (.bipush (-9), 2) := by decide +kernel
theorem dX4_moved_65 : decode cX4_moved 65 = .ok (.if_icmp .eq 7, 3) := by decide +kernel
theorem dX4_moved_68 : decode cX4_moved 68 = .ok (.iconst 1, 1) := by decide +kernel
theorem dX4_moved_69 : decode cX4_moved 69 = .ok (.goto 16, 3) := by decide +kernel
theorem dX4_moved_72 : decode cX4_moved 72 = .ok (.aload_n 0, 1) := by decide +kernel
theorem dX4_moved_73 : decode cX4_moved 73 = .ok (.invokevirtual 158, 3) := by decide +kernel
theorem dX4_moved_76 : decode cX4_moved 76 = .ok (.ifCond .eq 7, 3) := by decide +kernel
theorem dX4_moved_79 : decode cX4_moved 79 = .ok (.iconst 2, 1) := by decide +kernel
theorem dX4_moved_80 : decode cX4_moved 80 = .ok (.goto 5, 3) := by decide +kernel
theorem dX4_moved_83 : decode cX4_moved 83 = .ok (.bipush (-9), 2) := by decide +kernel
theorem dX4_moved_85 : decode cX4_moved 85 = .ok (.ireturn, 1) := by decide +kernel
theorem dX4_given_0 : decode cX4_given 0 = .ok (.aload_n 0, 1) := by decide +kernel
theorem dX4_given_1 : decode cX4_given 1 = .ok (.iload_n 1, 1) := by decide +kernel
theorem dX4_given_2 : decode cX4_given 2 = .ok (.invokevirtual 112, 3) := by decide +kernel
theorem dX4_given_5 : decode cX4_given 5 = .ok (.ifCond .ne 9, 3) := by decide +kernel
theorem dX4_given_8 : decode cX4_given 8 = .ok (.aload_n 0, 1) := by decide +kernel
theorem dX4_given_9 : decode cX4_given 9 = .ok (.iconst (-1), 1) := by decide +kernel
theorem dX4_given_10 : decode cX4_given 10 = .ok (.invokevirtual 63, 3) := by decide +kernel
theorem dX4_given_13 : decode cX4_given 13 = .ok (.ireturn, 1) := by decide +kernel
theorem dX4_given_14 : decode cX4_given 14 = .ok (.aload_n 0, 1) := by decide +kernel
theorem dX4_given_15 : decode cX4_given 15 = .ok (.getfield 22, 3) := by decide +kernel
theorem dX4_given_18 : decode cX4_given 18 = .ok (.iload_n 1, 1) := by decide +kernel
theorem dX4_given_19 : decode cX4_given 19 = .ok (.iaload, 1) := by decide +kernel
theorem dX4_given_20 : decode cX4_given 20 = .ok (.bipush (-9), 2) := by decide +kernel
theorem dX4_given_22 : decode cX4_given 22 = .ok (.if_icmp .eq 10, 3) := by decide +kernel
theorem dX4_given_25 : decode cX4_given 25 = .ok (.aload_n 0, 1) := by decide +kernel
theorem dX4_given_26 : decode cX4_given 26 = .ok (.bipush (-3), 2) := by decide +kernel
theorem dX4_given_28 : decode cX4_given 28 = .ok (.invokevirtual 63, 3) := by decide +kernel
theorem dX4_given_31 : decode cX4_given 31 = .ok (.ireturn, 1) := by decide +kernel
theorem dX4_given_32 : decode cX4_given 32 = .ok (.iconst 0, 1) := by decide +kernel
theorem dX4_given_33 : decode cX4_given 33 = .ok (.istore_n 2, 1) := by decide +kernel
theorem dX4_given_34 : decode cX4_given 34 = .ok (.iconst 0, 1) := by decide +kernel
theorem dX4_given_35 : decode cX4_given 35 = .ok (.istore_n 3, 1) := by decide +kernel
theorem dX4_given_36 : decode cX4_given 36 = .ok (.iload_n 3, 1) := by decide +kernel
theorem dX4_given_37 : decode cX4_given 37 = .ok (.aload_n 0, 1) := by decide +kernel
theorem dX4_given_38 : decode cX4_given 38 = .ok (.getfield 52, 3) := by decide +kernel
theorem dX4_given_41 : decode cX4_given 41 = .ok (.if_icmp .ge 31, 3) := by decide +kernel
theorem dX4_given_44 : decode cX4_given 44 = .ok (.iload_n 3, 1) := by decide +kernel
theorem dX4_given_45 : decode cX4_given 45 = .ok (.iload_n 1, 1) := by decide +kernel
theorem dX4_given_46 : decode cX4_given 46 = .ok (.if_icmp .eq 20, 3) := by decide +kernel
theorem dX4_given_49 : decode cX4_given 49 = .ok (.aload_n 0, 1) := by decide +kernel
theorem dX4_given_50 : decode cX4_given 50 = .ok (.getfield 22, 3) := by decide +kernel
theorem dX4_given_53 : decode cX4_given 53 = .ok (.iload_n 3, 1) := by decide +kernel
theorem dX4_given_54 : decode cX4_given 54 = .ok (.iaload, 1) := by decide +kernel
theorem dX4_given_55 : decode cX4_given 55 = .ok (.bipush (-9), 2) := by decide +kernel
theorem dX4_given_57 : decode cX4_given 57 = .ok (.if_icmp .ne 9, 3) := by decide +kernel
theorem dX4_given_60 : decode cX4_given 60 = .ok (.iload_n 2, 1) := by decide +kernel
theorem dX4_given_61 : decode cX4_given 61 = .ok (.iconst 1, 1) := by decide +kernel
theorem dX4_given_62 : decode cX4_given 62 = .ok (.iload_n 3, 1) := by decide +kernel
theorem dX4_given_63 : decode cX4_given 63 = .ok (.ishl, 1) := by decide +kernel
theorem dX4_given_64 : decode cX4_given 64 = .ok (.ior, 1) := by decide +kernel
theorem dX4_given_65 : decode cX4_given 65 = .ok (.istore_n 2, 1) := by decide +kernel
theorem dX4_given_66 : decode cX4_given 66 = .ok (.iinc 3 1, 3) := by decide +kernel
theorem dX4_given_69 : decode cX4_given 69 = .ok (.goto (-33), 3) := by decide +kernel
theorem dX4_given_72 : decode cX4_given 72 = .ok (.iconst 0, 1) := by decide +kernel
theorem dX4_given_73 : decode cX4_given 73 = .ok (.istore_n 3, 1) := by decide +kernel
theorem dX4_given_74 : decode cX4_given 74 = .ok (.iload_n 3, 1) := by decide +kernel
theorem dX4_given_75 : decode cX4_given 75 = .ok (.bipush 8, 2) := by decide +kernel
theorem dX4_given_77 : decode cX4_given 77 = .ok (.if_icmp .ge 58, 3) := by decide +kernel
theorem dX4_given_80 : decode cX4_given 80 = .ok (.aload_n 0, 1) := by decide +kernel
theorem dX4_given_81 : decode cX4_given 81 = .ok (.iload_n 3, 1) := by decide +kernel
theorem dX4_given_82 : decode cX4_given 82 = .ok (.invokevirtual 142, 3) := by decide +kernel
theorem dX4_given_85 : decode cX4_given 85 = .ok (.iconst 0, 1) := by decide +kernel
theorem dX4_given_86 : decode cX4_given 86 = .ok (.istore 4, 2) := by decide +kernel
theorem dX4_given_88 : decode cX4_given 88 = .ok (.iload 4, 2) := by decide +kernel
theorem dX4_given_90 : decode cX4_given 90 = .ok (.aload_n 0, 1) := by decide +kernel
theorem dX4_given_91 : decode cX4_given 91 = .ok (.getfield 52, 3) := by decide +kernel
theorem dX4_given_94 : decode cX4_given 94 = .ok (.if_icmp .ge 35, 3) := by decide +kernel
theorem dX4_given_97 : decode cX4_given 97 = .ok (.aload_n 0, 1) := by decide +kernel
theorem dX4_given_98 : decode cX4_given 98 = .ok (.getfield 46, 3) := by decide +kernel
theorem dX4_given_101 : decode cX4_given 101 = .ok (.iload 4, 2) := by decide +kernel
theorem dX4_given_103 : decode cX4_given 103 = .ok (.iaload, 1) := by decide +kernel
theorem dX4_given_104 : decode cX4_given 104 = .ok (.aload_n 0, 1) := by decide +kernel
theorem dX4_given_105 : decode cX4_given 105 = .ok (.getfield 46, 3) := by decide +kernel
theorem dX4_given_108 : decode cX4_given 108 = .ok (.iload_n 1, 1) := by decide +kernel
theorem dX4_given_109 : decode cX4_given 109 = .ok (.iaload, 1) := by decide +kernel
theorem dX4_given_110 : decode cX4_given 110 = .ok (.iand, 1) := by decide +kernel
theorem dX4_given_111 : decode cX4_given 111 = .ok (.ifCond .eq 12, 3) := by decide +kernel
theorem dX4_given_114 : decode cX4_given 114 = .ok (.iload_n 2, 1) := by decide +kernel
theorem dX4_given_115 : decode cX4_given 115 = .ok (.iconst 1, 1) := by decide +kernel
theorem dX4_given_116 : decode cX4_given 116 = .ok (.iload 4, 2) := by decide +kernel
theorem dX4_given_118 : decode cX4_given 118 = .ok (.ishl, 1) := by decide +kernel
theorem dX4_given_119 : decode cX4_given 119 = .ok (.iconst (-1), 1) := by decide +kernel
theorem dX4_given_120 : decode cX4_given 120 = .ok (.ixor, 1) := by decide +kernel
theorem dX4_given_121 : decode cX4_given 121 = .ok (.iand, 1) := by decide +kernel
theorem dX4_given_122 : decode cX4_given 122 = .ok (.istore_n 2, 1) := by decide +kernel
theorem dX4_given_123 : decode cX4_given 123 = .ok (.iinc 4 1, 3) := by decide +kernel
theorem dX4_given_126 : decode cX4_given 126 = .ok (.goto (-38), 3) := by decide +kernel
theorem dX4_given_129 : decode cX4_given 129 = .ok (.iinc 3 1, 3) := by decide +kernel
theorem dX4_given_132 : decode cX4_given 132 = .ok (.goto (-58), 3) := by decide +kernel
theorem dX4_given_135 : decode cX4_given 135 = .ok (.iload_n 2, 1) := by decide +kernel
theorem dX4_given_136 : decode cX4_given 136 = .ok (.ireturn, 1) := by decide +kernel
theorem dX4_mayBe_0 : decode cX4_mayBe 0 = .ok (.iload_n 3, 1) := by decide +kernel
theorem dX4_mayBe_1 : decode cX4_mayBe 1 = .ok (.ifCond .eq 25, 3) := by decide +kernel
theorem dX4_mayBe_4 : decode cX4_mayBe 4 = .ok (.aload_n 0, 1) := by decide +kernel
theorem dX4_mayBe_5 : decode cX4_mayBe 5 = .ok (.getfield 46, 3) := by decide +kernel
theorem dX4_mayBe_8 : decode cX4_mayBe 8 = .ok (.iload_n 1, 1) := by decide +kernel
theorem dX4_mayBe_9 : decode cX4_mayBe 9 = .ok (.iaload, 1) := by decide +kernel
theorem dX4_mayBe_10 : decode cX4_mayBe 10 = .ok (.aload_n 0, 1) := by decide +kernel
theorem dX4_mayBe_11 : decode cX4_mayBe 11 = .ok (.getfield 46, 3) := by decide +kernel
theorem dX4_mayBe_14 : decode cX4_mayBe 14 = .ok (.iload_n 2, 1) := by decide +kernel
theorem dX4_mayBe_15 : decode cX4_mayBe 15 = .ok (.iaload, 1) := by decide +kernel
theorem dX4_mayBe_16 : decode cX4_mayBe 16 = .ok (.iand, 1) := by decide +kernel
theorem dX4_mayBe_17 : decode cX4_mayBe 17 = .ok (.ifCond .ne 7, 3) := by decide +kernel
theorem dX4_mayBe_20 : decode cX4_mayBe 20 = .ok (.iconst 1, 1) := by decide +kernel
theorem dX4_mayBe_21 : decode cX4_mayBe 21 = .ok (.goto 4, 3) := by decide +kernel
theorem dX4_mayBe_24 : decode cX4_mayBe 24 = .ok (.iconst 0, 1) := by decide +kernel
theorem dX4_mayBe_25 : decode cX4_mayBe 25 = .ok (.ireturn, 1) := by decide +kernel
theorem dX4_mayBe_26 : decode cX4_mayBe 26 = .ok (.iconst 0, 1) := by decide +kernel
theorem dX4_mayBe_27 : decode cX4_mayBe 27 = .ok (.istore 4, 2) := by decide +kernel
theorem dX4_mayBe_29 : decode cX4_mayBe 29 = .ok (.iload 4, 2) := by decide +kernel
theorem dX4_mayBe_31 : decode cX4_mayBe 31 = .ok (.aload_n 0, 1) := by decide +kernel
theorem dX4_mayBe_32 : decode cX4_mayBe 32 = .ok (.getfield 162, 3) := by decide +kernel
theorem dX4_mayBe_35 : decode cX4_mayBe 35 = .ok (.if_icmp .ge 39, 3) := by decide +kernel
theorem dX4_mayBe_38 : decode cX4_mayBe 38 = .ok (.aload_n 0, 1) := by decide +kernel
theorem dX4_mayBe_39 : decode cX4_mayBe 39 = .ok (.getfield 25, 3) := by decide +kernel
theorem dX4_mayBe_42 : decode cX4_mayBe 42 = .ok (.iload 4, 2) := by decide +kernel
theorem dX4_mayBe_44 : decode cX4_mayBe 44 = .ok (.iaload, 1) := by decide +kernel
theorem dX4_mayBe_45 : decode cX4_mayBe 45 = .ok (.iload_n 1, 1) := by decide +kernel
theorem dX4_mayBe_46 : decode cX4_mayBe 46 = .ok (.invokestatic 129, 3) := by decide +kernel
theorem dX4_mayBe_49 : decode cX4_mayBe 49 = .ok (.ifCond .eq 19, 3) := by decide +kernel
theorem dX4_mayBe_52 : decode cX4_mayBe 52 = .ok (.aload_n 0, 1) := by decide +kernel
theorem dX4_mayBe_53 : decode cX4_mayBe 53 = .ok (.getfield 25, 3) := by decide +kernel
theorem dX4_mayBe_56 : decode cX4_mayBe 56 = .ok (.iload 4, 2) := by decide +kernel
theorem dX4_mayBe_58 : decode cX4_mayBe 58 = .ok (.iaload, 1) := by decide +kernel
theorem dX4_mayBe_59 : decode cX4_mayBe 59 = .ok (.iload_n 2, 1) := by decide +kernel
theorem dX4_mayBe_60 : decode cX4_mayBe 60 = .ok (.invokestatic 129, 3) := by decide +kernel
theorem dX4_mayBe_63 : decode cX4_mayBe 63 = .ok (.ifCond .eq 5, 3) := by decide +kernel
theorem dX4_mayBe_66 : decode cX4_mayBe 66 = .ok (.iconst 0, 1) := by decide +kernel
theorem dX4_mayBe_67 : decode cX4_mayBe 67 = .ok (.ireturn, 1) := by decide +kernel
theorem dX4_mayBe_68 : decode cX4_mayBe 68 = .ok (.iinc 4 1, 3) := by decide +kernel
theorem dX4_mayBe_71 : decode cX4_mayBe 71 = .ok (.goto (-42), 3) := by decide +kernel
theorem dX4_mayBe_74 : decode cX4_mayBe 74 = .ok (.iconst 1, 1) := by decide +kernel
theorem dX4_mayBe_75 : decode cX4_mayBe 75 = .ok (.ireturn, 1) := by decide +kernel
theorem dX4_waysFor_0 : decode cX4_waysFor 0 = .ok (.iload_n 1, 1) := by decide +kernel
theorem dX4_waysFor_1 : decode cX4_waysFor 1 = .ok (.ifCond .ne 5, 3) := by decide +kernel
theorem dX4_waysFor_4 : decode cX4_waysFor 4 = .ok (.iconst 1, 1) := by decide +kernel
theorem dX4_waysFor_5 : decode cX4_waysFor 5 = .ok (.ireturn, 1) := by decide +kernel
theorem dX4_waysFor_6 : decode cX4_waysFor 6 = .ok (.iload_n 1, 1) := by decide +kernel
theorem dX4_waysFor_7 : decode cX4_waysFor 7 = .ok (.invokestatic 165, 3) := by decide +kernel
theorem dX4_waysFor_10 : decode cX4_waysFor 10 = .ok (.istore_n 3, 1) := by decide +kernel
theorem dX4_waysFor_11 : decode cX4_waysFor 11 = .ok (.iconst 0, 1) := by decide +kernel
theorem dX4_waysFor_12 : decode cX4_waysFor 12 = .ok (.istore 4, 2) := by decide +kernel
theorem dX4_waysFor_14 : decode cX4_waysFor 14 = .ok (.iload_n 3, 1) := by decide +kernel
theorem dX4_waysFor_15 : decode cX4_waysFor 15 = .ok (.iconst 1, 1) := by decide +kernel
theorem dX4_waysFor_16 : decode cX4_waysFor 16 = .ok (.iadd, 1) := by decide +kernel
theorem dX4_waysFor_17 : decode cX4_waysFor 17 = .ok (.istore 5, 2) := by decide +kernel
theorem dX4_waysFor_19 : decode cX4_waysFor 19 = .ok (.iload 5, 2) := by decide +kernel
theorem dX4_waysFor_21 : decode cX4_waysFor 21 = .ok (.aload_n 0, 1) := by decide +kernel
theorem dX4_waysFor_22 : decode cX4_waysFor 22 = .ok (.getfield 52, 3) := by decide +kernel
theorem dX4_waysFor_25 : decode cX4_waysFor 25 = .ok (.if_icmp .ge 51, 3) := by decide +kernel
theorem dX4_waysFor_28 : decode cX4_waysFor 28 = .ok (.iload_n 1, 1) := by decide +kernel
theorem dX4_waysFor_29 : decode cX4_waysFor 29 = .ok (.iload 5, 2) := by decide +kernel
theorem dX4_waysFor_31 : decode cX4_waysFor 31 = .ok (.invokestatic 129, 3) := by decide +kernel
theorem dX4_waysFor_34 : decode cX4_waysFor 34 = .ok (.ifCond .eq 36, 3) := by decide +kernel
theorem dX4_waysFor_37 : decode cX4_waysFor 37 = .ok (.aload_n 0, 1) := by decide +kernel
theorem dX4_waysFor_38 : decode cX4_waysFor 38 = .ok (.iload_n 3, 1) := by decide +kernel
theorem dX4_waysFor_39 : decode cX4_waysFor 39 = .ok (.iload 5, 2) := by decide +kernel
theorem dX4_waysFor_41 : decode cX4_waysFor 41 = .ok (.iload_n 2, 1) := by decide +kernel
theorem dX4_waysFor_42 : decode cX4_waysFor 42 = .ok (.invokevirtual 168, 3) := by decide +kernel
theorem dX4_waysFor_45 : decode cX4_waysFor 45 = .ok (.ifCond .eq 25, 3) := by decide +kernel
theorem dX4_waysFor_48 : decode cX4_waysFor 48 = .ok (.iload 4, 2) := by decide +kernel
theorem dX4_waysFor_50 : decode cX4_waysFor 50 = .ok (.aload_n 0, 1) := by decide +kernel
theorem dX4_waysFor_51 : decode cX4_waysFor 51 = .ok (.iload_n 1, 1) := by decide +kernel
theorem dX4_waysFor_52 : decode cX4_waysFor 52 = .ok (.iconst 1, 1) := by decide +kernel
theorem dX4_waysFor_53 : decode cX4_waysFor 53 = .ok (.iload_n 3, 1) := by decide +kernel
theorem dX4_waysFor_54 : decode cX4_waysFor 54 = .ok (.ishl, 1) := by decide +kernel
theorem dX4_waysFor_55 : decode cX4_waysFor 55 = .ok (.iconst 1, 1) := by decide +kernel
theorem dX4_waysFor_56 : decode cX4_waysFor 56 = .ok (.iload 5, 2) := by decide +kernel
theorem dX4_waysFor_58 : decode cX4_waysFor 58 = .ok (.ishl, 1) := by decide +kernel
theorem dX4_waysFor_59 : decode cX4_waysFor 59 = .ok (.ior, 1) := by decide +kernel
theorem dX4_waysFor_60 : decode cX4_waysFor 60 = .ok (.iconst (-1), 1) := by decide +kernel
theorem dX4_waysFor_61 : decode cX4_waysFor 61 = .ok (.ixor, 1) := by decide +kernel
theorem dX4_waysFor_62 : decode cX4_waysFor 62 = .ok (.iand, 1) := by decide +kernel
theorem dX4_waysFor_63 : decode cX4_waysFor 63 = .ok (.iload_n 2, 1) := by decide +kernel
theorem dX4_waysFor_64 : decode cX4_waysFor 64 = .ok (.invokevirtual 172, 3) := by decide +kernel
theorem dX4_waysFor_67 : decode cX4_waysFor 67 = .ok (.iadd, 1) := by decide +kernel
theorem dX4_waysFor_68 : decode cX4_waysFor 68 = .ok (.istore 4, 2) := by decide +kernel
theorem dX4_waysFor_70 : decode cX4_waysFor 70 = .ok (.iinc 5 1, 3) := by decide +kernel
theorem dX4_waysFor_73 : decode cX4_waysFor 73 = .ok (.goto (-54), 3) := by decide +kernel
theorem dX4_waysFor_76 : decode cX4_waysFor 76 = .ok (.iload 4, 2) := by decide +kernel
theorem dX4_waysFor_78 : decode cX4_waysFor 78 = .ok (.ireturn, 1) := by decide +kernel
theorem dX4_all_0 : decode cX4_all 0 = .ok (.iconst 1, 1) := by decide +kernel
theorem dX4_all_1 : decode cX4_all 1 = .ok (.aload_n 0, 1) := by decide +kernel
theorem dX4_all_2 : decode cX4_all 2 = .ok (.getfield 52, 3) := by decide +kernel
theorem dX4_all_5 : decode cX4_all 5 = .ok (.ishl, 1) := by decide +kernel
theorem dX4_all_6 : decode cX4_all 6 = .ok (.iconst 1, 1) := by decide +kernel
theorem dX4_all_7 : decode cX4_all 7 = .ok (.isub, 1) := by decide +kernel
theorem dX4_all_8 : decode cX4_all 8 = .ok (.ireturn, 1) := by decide +kernel
theorem dX4_pairings_0 : decode cX4_pairings 0 = .ok (.iload_n 1, 1) := by decide +kernel
theorem dX4_pairings_1 : decode cX4_pairings 1 = .ok (.iconst 0, 1) := by decide +kernel
theorem dX4_pairings_2 : decode cX4_pairings 2 = .ok (.iconst 1, 1) := by decide +kernel
theorem dX4_pairings_3 : decode cX4_pairings 3 = .ok (.invokestatic 56, 3) := by decide +kernel
theorem dX4_pairings_6 : decode cX4_pairings 6 = .ok (.ifCond .ne 10, 3) := by decide +kernel
theorem dX4_pairings_9 : decode cX4_pairings 9 = .ok (.aload_n 0, 1) := by decide +kernel
theorem dX4_pairings_10 : decode cX4_pairings 10 = .ok (.bipush (-2), 2) := by decide +kernel
theorem dX4_pairings_12 : decode cX4_pairings 12 = .ok (.invokevirtual 63, 3) := by decide +kernel
theorem dX4_pairings_15 : decode cX4_pairings 15 = .ok (.ireturn, 1) := by decide +kernel
theorem dX4_pairings_16 : decode cX4_pairings 16 = .ok (.aload_n 0, 1) := by decide +kernel
theorem dX4_pairings_17 : decode cX4_pairings 17 = .ok (.aload_n 0, 1) := by decide +kernel
theorem dX4_pairings_18 : decode cX4_pairings 18 = .ok (.getfield 95, 3) := by decide +kernel
theorem dX4_pairings_21 : decode cX4_pairings 21 = .ok (.invokevirtual 142, 3) := by decide +kernel
theorem dX4_pairings_24 : decode cX4_pairings 24 = .ok (.iload_n 1, 1) := by decide +kernel
theorem dX4_pairings_25 : decode cX4_pairings 25 = .ok (.ifCond .ne 13, 3) := by decide +kernel
theorem dX4_pairings_28 : decode cX4_pairings 28 = .ok (.aload_n 0, 1) := by decide +kernel
theorem dX4_pairings_29 : decode cX4_pairings 29 = .ok (.aload_n 0, 1) := by decide +kernel
theorem dX4_pairings_30 : decode cX4_pairings 30 = .ok (.invokevirtual 175, 3) := by decide +kernel
theorem dX4_pairings_33 : decode cX4_pairings 33 = .ok (.iconst 1, 1) := by decide +kernel
theorem dX4_pairings_34 : decode cX4_pairings 34 = .ok (.invokevirtual 172, 3) := by decide +kernel
theorem dX4_pairings_37 : decode cX4_pairings 37 = .ok (.ireturn, 1) := by decide +kernel
theorem dX4_pairings_38 : decode cX4_pairings 38 = .ok (.iconst 1, 1) := by decide +kernel
theorem dX4_pairings_39 : decode cX4_pairings 39 = .ok (.istore_n 2, 1) := by decide +kernel
theorem dX4_pairings_40 : decode cX4_pairings 40 = .ok (.iload_n 2, 1) := by decide +kernel
theorem dX4_pairings_41 : decode cX4_pairings 41 = .ok (.aload_n 0, 1) := by decide +kernel
theorem dX4_pairings_42 : decode cX4_pairings 42 = .ok (.getfield 52, 3) := by decide +kernel
theorem dX4_pairings_45 : decode cX4_pairings 45 = .ok (.if_icmp .ge 41, 3) := by decide +kernel
theorem dX4_pairings_48 : decode cX4_pairings 48 = .ok (.aload_n 0, 1) := by decide +kernel
theorem dX4_pairings_49 : decode cX4_pairings 49 = .ok (.iconst 0, 1) := by decide +kernel
theorem dX4_pairings_50 : decode cX4_pairings 50 = .ok (.iload_n 2, 1) := by decide +kernel
theorem dX4_pairings_51 : decode cX4_pairings 51 = .ok (.iconst 1, 1) := by decide +kernel
theorem dX4_pairings_52 : decode cX4_pairings 52 = .ok (.invokevirtual 168, 3) := by decide +kernel
theorem dX4_pairings_55 : decode cX4_pairings 55 = .ok (.ifCond .eq 25, 3) := by decide +kernel
theorem dX4_pairings_58 : decode cX4_pairings 58 = .ok (.aload_n 0, 1) := by decide +kernel
theorem dX4_pairings_59 : decode cX4_pairings 59 = .ok (.aload_n 0, 1) := by decide +kernel
theorem dX4_pairings_60 : decode cX4_pairings 60 = .ok (.invokevirtual 175, 3) := by decide +kernel
theorem dX4_pairings_63 : decode cX4_pairings 63 = .ok (.iconst 1, 1) := by decide +kernel
theorem dX4_pairings_64 : decode cX4_pairings 64 = .ok (.iconst 1, 1) := by decide +kernel
theorem dX4_pairings_65 : decode cX4_pairings 65 = .ok (.iload_n 2, 1) := by decide +kernel
theorem dX4_pairings_66 : decode cX4_pairings 66 = .ok (.ishl, 1) := by decide +kernel
theorem dX4_pairings_67 : decode cX4_pairings 67 = .ok (.ior, 1) := by decide +kernel
theorem dX4_pairings_68 : decode cX4_pairings 68 = .ok (.iconst (-1), 1) := by decide +kernel
theorem dX4_pairings_69 : decode cX4_pairings 69 = .ok (.ixor, 1) := by decide +kernel
theorem dX4_pairings_70 : decode cX4_pairings 70 = .ok (.iand, 1) := by decide +kernel
theorem dX4_pairings_71 : decode cX4_pairings 71 = .ok (.iconst 1, 1) := by decide +kernel
theorem dX4_pairings_72 : decode cX4_pairings 72 = .ok (.invokevirtual 172, 3) := by decide +kernel
theorem dX4_pairings_75 : decode cX4_pairings 75 = .ok (.ifCond .le 5, 3) := by decide +kernel
theorem dX4_pairings_78 : decode cX4_pairings 78 = .ok (.iload_n 2, 1) := by decide +kernel
theorem dX4_pairings_79 : decode cX4_pairings 79 = .ok (.ireturn, 1) := by decide +kernel
theorem dX4_pairings_80 : decode cX4_pairings 80 = .ok (.iinc 2 1, 3) := by decide +kernel
theorem dX4_pairings_83 : decode cX4_pairings 83 = .ok (.goto (-43), 3) := by decide +kernel
theorem dX4_pairings_86 : decode cX4_pairings 86 = .ok (.bipush (-9), 2) := by decide +kernel
theorem dX4_pairings_88 : decode cX4_pairings 88 = .ok (.ireturn, 1) := by decide +kernel
theorem dX4_together_0 : decode cX4_together 0 = .ok (.iload_n 1, 1) := by decide +kernel
theorem dX4_together_1 : decode cX4_together 1 = .ok (.iconst 0, 1) := by decide +kernel
theorem dX4_together_2 : decode cX4_together 2 = .ok (.aload_n 0, 1) := by decide +kernel
theorem dX4_together_3 : decode cX4_together 3 = .ok (.invokevirtual 175, 3) := by decide +kernel
theorem dX4_together_6 : decode cX4_together 6 = .ok (.invokestatic 56, 3) := by decide +kernel
theorem dX4_together_9 : decode cX4_together 9 = .ok (.ifCond .ne 9, 3) := by decide +kernel
theorem dX4_together_12 : decode cX4_together 12 = .ok (.aload_n 0, 1) := by decide +kernel
theorem dX4_together_13 : decode cX4_together 13 = .ok (.iconst (-1), 1) := by decide +kernel
theorem dX4_together_14 : decode cX4_together 14 = .ok (.invokevirtual 63, 3) := by decide +kernel
theorem dX4_together_17 : decode cX4_together 17 = .ok (.ireturn, 1) := by decide +kernel
theorem dX4_together_18 : decode cX4_together 18 = .ok (.aload_n 0, 1) := by decide +kernel
theorem dX4_together_19 : decode cX4_together 19 = .ok (.getfield 162, 3) := by decide +kernel
theorem dX4_together_22 : decode cX4_together 22 = .ok (.bipush 8, 2) := by decide +kernel
theorem dX4_together_24 : decode cX4_together 24 = .ok (.if_icmp .ne 10, 3) := by decide +kernel
theorem dX4_together_27 : decode cX4_together 27 = .ok (.aload_n 0, 1) := by decide +kernel
theorem dX4_together_28 : decode cX4_together 28 = .ok (.bipush (-6), 2) := by decide +kernel
theorem dX4_together_30 : decode cX4_together 30 = .ok (.invokevirtual 63, 3) := by decide +kernel
theorem dX4_together_33 : decode cX4_together 33 = .ok (.ireturn, 1) := by decide +kernel
theorem dX4_together_34 : decode cX4_together 34 = .ok (.aload_n 0, 1) := by decide +kernel
theorem dX4_together_35 : decode cX4_together 35 = .ok (.getfield 25, 3) := by decide +kernel
theorem dX4_together_38 : decode cX4_together 38 = .ok (.aload_n 0, 1) := by decide +kernel
theorem dX4_together_39 : decode cX4_together 39 = .ok (.dup, 1) := by decide +kernel
theorem dX4_together_40 : decode cX4_together 40 = .ok (.getfield 162, 3) := by decide +kernel
theorem dX4_together_43 : decode cX4_together 43 = .ok (.dup_x1, 1) := by decide +kernel
theorem dX4_together_44 : decode cX4_together 44 = .ok (.iconst 1, 1) := by decide +kernel
theorem dX4_together_45 : decode cX4_together 45 = .ok (.iadd, 1) := by decide +kernel
theorem dX4_together_46 : decode cX4_together 46 = .ok (.putfield 162, 3) := by decide +kernel
theorem dX4_together_49 : decode cX4_together 49 = .ok (.iload_n 1, 1) := by decide +kernel
theorem dX4_together_50 : decode cX4_together 50 = .ok (.iastore, 1) := by decide +kernel
theorem dX4_together_51 : decode cX4_together 51 = .ok (.aload_n 0, 1) := by decide +kernel
theorem dX4_together_52 : decode cX4_together 52 = .ok (.getfield 162, 3) := by decide +kernel
theorem dX4_together_55 : decode cX4_together 55 = .ok (.ireturn, 1) := by decide +kernel
theorem dX4_may_0 : decode cX4_may 0 = .ok (.aload_n 0, 1) := by decide +kernel
theorem dX4_may_1 : decode cX4_may 1 = .ok (.iload_n 1, 1) := by decide +kernel
theorem dX4_may_2 : decode cX4_may 2 = .ok (.invokevirtual 112, 3) := by decide +kernel
theorem dX4_may_5 : decode cX4_may 5 = .ok (.ifCond .ne 9, 3) := by decide +kernel
theorem dX4_may_8 : decode cX4_may 8 = .ok (.aload_n 0, 1) := by decide +kernel
theorem dX4_may_9 : decode cX4_may 9 = .ok (.iconst (-1), 1) := by decide +kernel
theorem dX4_may_10 : decode cX4_may 10 = .ok (.invokevirtual 63, 3) := by decide +kernel
theorem dX4_may_13 : decode cX4_may 13 = .ok (.ireturn, 1) := by decide +kernel
theorem dX4_may_14 : decode cX4_may 14 = .ok (.iconst 0, 1) := by decide +kernel
theorem dX4_may_15 : decode cX4_may 15 = .ok (.istore_n 2, 1) := by decide +kernel
theorem dX4_may_16 : decode cX4_may 16 = .ok (.iconst 0, 1) := by decide +kernel
theorem dX4_may_17 : decode cX4_may 17 = .ok (.istore_n 3, 1) := by decide +kernel
theorem dX4_may_18 : decode cX4_may 18 = .ok (.iload_n 3, 1) := by decide +kernel
theorem dX4_may_19 : decode cX4_may 19 = .ok (.aload_n 0, 1) := by decide +kernel
theorem dX4_may_20 : decode cX4_may 20 = .ok (.getfield 52, 3) := by decide +kernel
theorem dX4_may_23 : decode cX4_may 23 = .ok (.if_icmp .ge 52, 3) := by decide +kernel
theorem dX4_may_26 : decode cX4_may 26 = .ok (.iload_n 3, 1) := by decide +kernel
theorem dX4_may_27 : decode cX4_may 27 = .ok (.iload_n 1, 1) := by decide +kernel
theorem dX4_may_28 : decode cX4_may 28 = .ok (.if_icmp .eq 41, 3) := by decide +kernel
theorem dX4_may_31 : decode cX4_may 31 = .ok (.aload_n 0, 1) := by decide +kernel
theorem dX4_may_32 : decode cX4_may 32 = .ok (.iload_n 1, 1) := by decide +kernel
theorem dX4_may_33 : decode cX4_may 33 = .ok (.iload_n 3, 1) := by decide +kernel
theorem dX4_may_34 : decode cX4_may 34 = .ok (.iconst 0, 1) := by decide +kernel
theorem dX4_may_35 : decode cX4_may 35 = .ok (.invokevirtual 168, 3) := by decide +kernel
theorem dX4_may_38 : decode cX4_may 38 = .ok (.ifCond .eq 31, 3) := by decide +kernel
theorem dX4_may_41 : decode cX4_may 41 = .ok (.aload_n 0, 1) := by decide +kernel
theorem dX4_may_42 : decode cX4_may 42 = .ok (.aload_n 0, 1) := by decide +kernel
theorem dX4_may_43 : decode cX4_may 43 = .ok (.invokevirtual 175, 3) := by decide +kernel
theorem dX4_may_46 : decode cX4_may 46 = .ok (.iconst 1, 1) := by decide +kernel
theorem dX4_may_47 : decode cX4_may 47 = .ok (.iload_n 1, 1) := by decide +kernel
theorem dX4_may_48 : decode cX4_may 48 = .ok (.ishl, 1) := by decide +kernel
theorem dX4_may_49 : decode cX4_may 49 = .ok (.iconst 1, 1) := by decide +kernel
theorem dX4_may_50 : decode cX4_may 50 = .ok (.iload_n 3, 1) := by decide +kernel
theorem dX4_may_51 : decode cX4_may 51 = .ok (.ishl, 1) := by decide +kernel
theorem dX4_may_52 : decode cX4_may 52 = .ok (.ior, 1) := by decide +kernel
theorem dX4_may_53 : decode cX4_may 53 = .ok (.iconst (-1), 1) := by decide +kernel
theorem dX4_may_54 : decode cX4_may 54 = .ok (.ixor, 1) := by decide +kernel
theorem dX4_may_55 : decode cX4_may 55 = .ok (.iand, 1) := by decide +kernel
theorem dX4_may_56 : decode cX4_may 56 = .ok (.iconst 0, 1) := by decide +kernel
theorem dX4_may_57 : decode cX4_may 57 = .ok (.invokevirtual 172, 3) := by decide +kernel
theorem dX4_may_60 : decode cX4_may 60 = .ok (.ifCond .le 9, 3) := by decide +kernel
theorem dX4_may_63 : decode cX4_may 63 = .ok (.iload_n 2, 1) := by decide +kernel
theorem dX4_may_64 : decode cX4_may 64 = .ok (.iconst 1, 1) := by decide +kernel
theorem dX4_may_65 : decode cX4_may 65 = .ok (.iload_n 3, 1) := by decide +kernel
theorem dX4_may_66 : decode cX4_may 66 = .ok (.ishl, 1) := by decide +kernel
theorem dX4_may_67 : decode cX4_may 67 = .ok (.ior, 1) := by decide +kernel
theorem dX4_may_68 : decode cX4_may 68 = .ok (.istore_n 2, 1) := by decide +kernel
theorem dX4_may_69 : decode cX4_may 69 = .ok (.iinc 3 1, 3) := by decide +kernel
theorem dX4_may_72 : decode cX4_may 72 = .ok (.goto (-54), 3) := by decide +kernel
theorem dX4_may_75 : decode cX4_may 75 = .ok (.iload_n 2, 1) := by decide +kernel
theorem dX4_may_76 : decode cX4_may 76 = .ok (.ireturn, 1) := by decide +kernel
theorem dX4_ways_0 : decode cX4_ways 0 = .ok (.aload_n 0, 1) := by decide +kernel
theorem dX4_ways_1 : decode cX4_ways 1 = .ok (.aload_n 0, 1) := by decide +kernel
theorem dX4_ways_2 : decode cX4_ways 2 = .ok (.invokevirtual 175, 3) := by decide +kernel
theorem dX4_ways_5 : decode cX4_ways 5 = .ok (.iconst 0, 1) := by decide +kernel
theorem dX4_ways_6 : decode cX4_ways 6 = .ok (.invokevirtual 172, 3) := by decide +kernel
theorem dX4_ways_9 : decode cX4_ways 9 = .ok (.ireturn, 1) := by decide +kernel
theorem dX4_feast_0 : decode cX4_feast 0 = .ok (.iload_n 1, 1) := by decide +kernel
theorem dX4_feast_1 : decode cX4_feast 1 = .ok (.invokestatic 105, 3) := by decide +kernel
theorem dX4_feast_4 : decode cX4_feast 4 = .ok (.ifCond .ne 9, 3) := by decide +kernel
theorem dX4_feast_7 : decode cX4_feast 7 = .ok (.aload_n 0, 1) := by decide +kernel
theorem dX4_feast_8 : decode cX4_feast 8 = .ok (.iconst (-1), 1) := by decide +kernel
theorem dX4_feast_9 : decode cX4_feast 9 = .ok (.invokevirtual 63, 3) := by decide +kernel
theorem dX4_feast_12 : decode cX4_feast 12 = .ok (.ireturn, 1) := by decide +kernel
theorem dX4_feast_13 : decode cX4_feast 13 = .ok (.iload_n 2, 1) := by decide +kernel
theorem dX4_feast_14 : decode cX4_feast 14 = .ok (.iconst 0, 1) := by decide +kernel
theorem dX4_feast_15 : decode cX4_feast 15 = .ok (.iconst 1, 1) := by decide +kernel
theorem dX4_feast_16 : decode cX4_feast 16 = .ok (.invokestatic 56, 3) := by decide +kernel
theorem dX4_feast_19 : decode cX4_feast 19 = .ok (.ifCond .ne 10, 3) := by decide +kernel
theorem dX4_feast_22 : decode cX4_feast 22 = .ok (.aload_n 0, 1) := by decide +kernel
theorem dX4_feast_23 : decode cX4_feast 23 = .ok (.bipush (-2), 2) := by decide +kernel
theorem dX4_feast_25 : decode cX4_feast 25 = .ok (.invokevirtual 63, 3) := by decide +kernel
theorem dX4_feast_28 : decode cX4_feast 28 = .ok (.ireturn, 1) := by decide +kernel
theorem dX4_feast_29 : decode cX4_feast 29 = .ok (.aload_n 0, 1) := by decide +kernel
theorem dX4_feast_30 : decode cX4_feast 30 = .ok (.getfield 52, 3) := by decide +kernel
theorem dX4_feast_33 : decode cX4_feast 33 = .ok (.bipush 8, 2) := by decide +kernel
theorem dX4_feast_35 : decode cX4_feast 35 = .ok (.if_icmp .ne 10, 3) := by decide +kernel
theorem dX4_feast_38 : decode cX4_feast 38 = .ok (.aload_n 0, 1) := by decide +kernel
theorem dX4_feast_39 : decode cX4_feast 39 = .ok (.bipush (-3), 2) := by decide +kernel
theorem dX4_feast_41 : decode cX4_feast 41 = .ok (.invokevirtual 63, 3) := by decide +kernel
theorem dX4_feast_44 : decode cX4_feast 44 = .ok (.ireturn, 1) := by decide +kernel
theorem dX4_feast_45 : decode cX4_feast 45 = .ok (.aload_n 0, 1) := by decide +kernel
theorem dX4_feast_46 : decode cX4_feast 46 = .ok (.aload_n 0, 1) := by decide +kernel
theorem dX4_feast_47 : decode cX4_feast 47 = .ok (.getfield 43, 3) := by decide +kernel
theorem dX4_feast_50 : decode cX4_feast 50 = .ok (.invokevirtual 122, 3) := by decide +kernel
theorem dX4_feast_53 : decode cX4_feast 53 = .ok (.aload_n 0, 1) := by decide +kernel
theorem dX4_feast_54 : decode cX4_feast 54 = .ok (.invokevirtual 175, 3) := by decide +kernel
theorem dX4_feast_57 : decode cX4_feast 57 = .ok (.istore_n 3, 1) := by decide +kernel
theorem dX4_feast_58 : decode cX4_feast 58 = .ok (.iload_n 3, 1) := by decide +kernel
theorem dX4_feast_59 : decode cX4_feast 59 = .ok (.ifCond .lt 138, 3) := by decide +kernel
theorem dX4_feast_62 : decode cX4_feast 62 = .ok (.iconst 0, 1) := by decide +kernel
theorem dX4_feast_63 : decode cX4_feast 63 = .ok (.istore 4, 2) := by decide +kernel
theorem dX4_feast_65 : decode cX4_feast 65 = .ok (.iload 4, 2) := by decide +kernel
theorem dX4_feast_67 : decode cX4_feast 67 = .ok (.aload_n 0, 1) := by decide +kernel
theorem dX4_feast_68 : decode cX4_feast 68 = .ok (.getfield 52, 3) := by decide +kernel
theorem dX4_feast_71 : decode cX4_feast 71 = .ok (.if_icmp .ge 39, 3) := by decide +kernel
theorem dX4_feast_74 : decode cX4_feast 74 = .ok (.aload_n 0, 1) := by decide +kernel
theorem dX4_feast_75 : decode cX4_feast 75 = .ok (.getfield 19, 3) := by decide +kernel
theorem dX4_feast_78 : decode cX4_feast 78 = .ok (.iload 4, 2) := by decide +kernel
theorem dX4_feast_80 : decode cX4_feast 80 = .ok (.iload_n 3, 1) := by decide +kernel
theorem dX4_feast_81 : decode cX4_feast 81 = .ok (.iload 4, 2) := by decide +kernel
theorem dX4_feast_83 : decode cX4_feast 83 = .ok (.invokestatic 129, 3) := by decide +kernel
theorem dX4_feast_86 : decode cX4_feast 86 = .ok (.ifCond .eq 7, 3) := by decide +kernel
theorem dX4_feast_89 : decode cX4_feast 89 = .ok (.iload_n 1, 1) := by decide +kernel
theorem dX4_feast_90 : decode cX4_feast 90 = .ok (.goto 13, 3) := by decide +kernel
theorem dX4_feast_93 : decode cX4_feast 93 = .ok (.aload_n 0, 1) := by decide +kernel
theorem dX4_feast_94 : decode cX4_feast 94 = .ok (.getfield 43, 3) := by decide +kernel
theorem dX4_feast_97 : decode cX4_feast 97 = .ok (.bipush 28, 2) := by decide +kernel
theorem dX4_feast_99 : decode cX4_feast 99 = .ok (.iload 4, 2) := by decide +kernel
theorem dX4_feast_101 : decode cX4_feast 101 = .ok (.iadd, 1) := by decide +kernel
theorem dX4_feast_102 : decode cX4_feast 102 = .ok (.iaload, 1) := by decide +kernel
theorem dX4_feast_103 : decode cX4_feast 103 = .ok (.iastore, 1) := by decide +kernel
theorem dX4_feast_104 : decode cX4_feast 104 = .ok (.iinc 4 1, 3) := by decide +kernel
theorem dX4_feast_107 : decode cX4_feast 107 = .ok (.goto (-42), 3) := by decide +kernel
theorem dX4_feast_110 : decode cX4_feast 110 = .ok (.iload_n 3, 1) := by decide +kernel
theorem dX4_feast_111 : decode cX4_feast 111 = .ok (.aload_n 0, 1) := by decide +kernel
theorem dX4_feast_112 : decode cX4_feast 112 = .ok (.invokevirtual 175, 3) := by decide +kernel
theorem dX4_feast_115 : decode cX4_feast 115 = .ok (.if_icmp .ne 7, 3) := by decide +kernel
theorem dX4_feast_118 : decode cX4_feast 118 = .ok (.iconst 1, 1) := by decide +kernel
theorem dX4_feast_119 : decode cX4_feast 119 = .ok (.goto 4, 3) := by decide +kernel
theorem dX4_feast_122 : decode cX4_feast 122 = .ok (.iconst 0, 1) := by decide +kernel
theorem dX4_feast_123 : decode cX4_feast 123 = .ok (.istore 4, 2) := by decide +kernel
theorem dX4_feast_125 : decode cX4_feast 125 = .ok (.iconst 0, 1) := by decide +kernel
theorem dX4_feast_126 : decode cX4_feast 126 = .ok (.istore 5, 2) := by decide +kernel
theorem dX4_feast_128 : decode cX4_feast 128 = .ok (.iload 5, 2) := by decide +kernel
theorem dX4_feast_130 : decode cX4_feast 130 = .ok (.aload_n 0, 1) := by decide +kernel
theorem dX4_feast_131 : decode cX4_feast 131 = .ok (.getfield 52, 3) := by decide +kernel
theorem dX4_feast_134 : decode cX4_feast 134 = .ok (.if_icmp .ge 34, 3) := by decide +kernel
theorem dX4_feast_137 : decode cX4_feast 137 = .ok (.iload_n 3, 1) := by decide +kernel
theorem dX4_feast_138 : decode cX4_feast 138 = .ok (.iload 5, 2) := by decide +kernel
theorem dX4_feast_140 : decode cX4_feast 140 = .ok (.invokestatic 129, 3) := by decide +kernel
theorem dX4_feast_143 : decode cX4_feast 143 = .ok (.ifCond .ne 19, 3) := by decide +kernel
theorem dX4_feast_146 : decode cX4_feast 146 = .ok (.iload 4, 2) := by decide +kernel
theorem dX4_feast_148 : decode cX4_feast 148 = .ok (.aload_n 0, 1) := by decide +kernel
theorem dX4_feast_149 : decode cX4_feast 149 = .ok (.getfield 49, 3) := by decide +kernel
theorem dX4_feast_152 : decode cX4_feast 152 = .ok (.iload_n 3, 1) := by decide +kernel
theorem dX4_feast_153 : decode cX4_feast 153 = .ok (.iconst 1, 1) := by decide +kernel
theorem dX4_feast_154 : decode cX4_feast 154 = .ok (.iload 5, 2) := by decide +kernel
theorem dX4_feast_156 : decode cX4_feast 156 = .ok (.ishl, 1) := by decide +kernel
theorem dX4_feast_157 : decode cX4_feast 157 = .ok (.ior, 1) := by decide +kernel
theorem dX4_feast_158 : decode cX4_feast 158 = .ok (.iaload, 1) := by decide +kernel
theorem dX4_feast_159 : decode cX4_feast 159 = .ok (.iadd, 1) := by decide +kernel
theorem dX4_feast_160 : decode cX4_feast 160 = .ok (.istore 4, 2) := by decide +kernel
theorem dX4_feast_162 : decode cX4_feast 162 = .ok (.iinc 5 1, 3) := by decide +kernel
theorem dX4_feast_165 : decode cX4_feast 165 = .ok (.goto (-37), 3) := by decide +kernel
theorem dX4_feast_168 : decode cX4_feast 168 = .ok (.aload_n 0, 1) := by decide +kernel
theorem dX4_feast_169 : decode cX4_feast 169 = .ok (.getfield 49, 3) := by decide +kernel
theorem dX4_feast_172 : decode cX4_feast 172 = .ok (.iload_n 3, 1) := by decide +kernel
theorem dX4_feast_173 : decode cX4_feast 173 = .ok (.aload_n 0, 1) := by decide +kernel
theorem dX4_feast_174 : decode cX4_feast 174 = .ok (.aload_n 0, 1) := by decide +kernel
theorem dX4_feast_175 : decode cX4_feast 175 = .ok (.getfield 95, 3) := by decide +kernel
theorem dX4_feast_178 : decode cX4_feast 178 = .ok (.invokevirtual 146, 3) := by decide +kernel
theorem dX4_feast_181 : decode cX4_feast 181 = .ok (.ifCond .le 7, 3) := by decide +kernel
theorem dX4_feast_184 : decode cX4_feast 184 = .ok (.iconst 0, 1) := by decide +kernel
theorem dX4_feast_185 : decode cX4_feast 185 = .ok (.goto 5, 3) := by decide +kernel
theorem dX4_feast_188 : decode cX4_feast 188 = .ok (.iload 4, 2) := by decide +kernel
theorem dX4_feast_190 : decode cX4_feast 190 = .ok (.iastore, 1) := by decide +kernel
theorem dX4_feast_191 : decode cX4_feast 191 = .ok (.iinc 3 (-1), 3) := by decide +kernel
theorem dX4_feast_194 : decode cX4_feast 194 = .ok (.goto (-136), 3) := by decide +kernel
theorem dX4_feast_197 : decode cX4_feast 197 = .ok (.aload_n 0, 1) := by decide +kernel
theorem dX4_feast_198 : decode cX4_feast 198 = .ok (.aload_n 0, 1) := by decide +kernel
theorem dX4_feast_199 : decode cX4_feast 199 = .ok (.getfield 43, 3) := by decide +kernel
theorem dX4_feast_202 : decode cX4_feast 202 = .ok (.invokevirtual 126, 3) := by decide +kernel
theorem dX4_feast_205 : decode cX4_feast 205 = .ok (.iload_n 2, 1) := by decide +kernel
theorem dX4_feast_206 : decode cX4_feast 206 = .ok (.ifCond .ne 10, 3) := by decide +kernel
theorem dX4_feast_209 : decode cX4_feast 209 = .ok (.aload_n 0, 1) := by decide +kernel
theorem dX4_feast_210 : decode cX4_feast 210 = .ok (.getfield 49, 3) := by decide +kernel
theorem dX4_feast_213 : decode cX4_feast 213 = .ok (.iconst 0, 1) := by decide +kernel
theorem dX4_feast_214 : decode cX4_feast 214 = .ok (.iaload, 1) := by decide +kernel
theorem dX4_feast_215 : decode cX4_feast 215 = .ok (.ireturn, 1) := by decide +kernel
theorem dX4_feast_216 : decode cX4_feast 216 = .ok (.iconst 0, 1) := by decide +kernel
theorem dX4_feast_217 : decode cX4_feast 217 = .ok (.istore_n 3, 1) := by decide +kernel
theorem dX4_feast_218 : decode cX4_feast 218 = .ok (.iload_n 3, 1) := by decide +kernel
theorem dX4_feast_219 : decode cX4_feast 219 = .ok (.aload_n 0, 1) := by decide +kernel
theorem dX4_feast_220 : decode cX4_feast 220 = .ok (.getfield 52, 3) := by decide +kernel
theorem dX4_feast_223 : decode cX4_feast 223 = .ok (.if_icmp .ge 31, 3) := by decide +kernel
theorem dX4_feast_226 : decode cX4_feast 226 = .ok (.aload_n 0, 1) := by decide +kernel
theorem dX4_feast_227 : decode cX4_feast 227 = .ok (.getfield 49, 3) := by decide +kernel
theorem dX4_feast_230 : decode cX4_feast 230 = .ok (.iconst 0, 1) := by decide +kernel
theorem dX4_feast_231 : decode cX4_feast 231 = .ok (.iaload, 1) := by decide +kernel
theorem dX4_feast_232 : decode cX4_feast 232 = .ok (.ifCond .le 22, 3) := by decide +kernel
theorem dX4_feast_235 : decode cX4_feast 235 = .ok (.aload_n 0, 1) := by decide +kernel
theorem dX4_feast_236 : decode cX4_feast 236 = .ok (.getfield 49, 3) := by decide +kernel
theorem dX4_feast_239 : decode cX4_feast 239 = .ok (.iconst 1, 1) := by decide +kernel
theorem dX4_feast_240 : decode cX4_feast 240 = .ok (.iload_n 3, 1) := by decide +kernel
theorem dX4_feast_241 : decode cX4_feast 241 = .ok (.ishl, 1) := by decide +kernel
theorem dX4_feast_242 : decode cX4_feast 242 = .ok (.iaload, 1) := by decide +kernel
theorem dX4_feast_243 : decode cX4_feast 243 = .ok (.ifCond .le 5, 3) := by decide +kernel
theorem dX4_feast_246 : decode cX4_feast 246 = .ok (.iload_n 3, 1) := by decide +kernel
theorem dX4_feast_247 : decode cX4_feast 247 = .ok (.ireturn, 1) := by decide +kernel
theorem dX4_feast_248 : decode cX4_feast 248 = .ok (.iinc 3 1, 3) := by decide +kernel
theorem dX4_feast_251 : decode cX4_feast 251 = .ok (.goto (-33), 3) := by decide +kernel
theorem dX4_feast_254 : decode cX4_feast 254 = .ok (.bipush (-9), 2) := by decide +kernel
theorem dX4_feast_256 : decode cX4_feast 256 = .ok (.ireturn, 1) := by decide +kernel
theorem dX4_isClean_0 : decode cX4_isClean 0 = .ok (.iload_n 1, 1) := by decide +kernel
theorem dX4_isClean_1 : decode cX4_isClean 1 = .ok (.istore_n 3, 1) := by decide +kernel
theorem dX4_isClean_2 : decode cX4_isClean 2 = .ok (.iload_n 3, 1) := by decide +kernel
theorem dX4_isClean_3 : decode cX4_isClean 3 = .ok (.iload_n 2, 1) := by decide +kernel
theorem dX4_isClean_4 : decode cX4_isClean 4 = .ok (.if_icmp .gt 19, 3) := by decide +kernel
theorem dX4_isClean_7 : decode cX4_isClean 7 = .ok (.aload_n 0, 1) := by decide +kernel
theorem dX4_isClean_8 : decode cX4_isClean 8 = .ok (.iload_n 3, 1) := by decide +kernel
theorem dX4_isClean_9 : decode cX4_isClean 9 = .ok (.invokevirtual 146, 3) := by decide +kernel
theorem dX4_isClean_12 : decode cX4_isClean 12 = .ok (.ifCond .le 5, 3) := by decide +kernel
theorem dX4_isClean_15 : decode cX4_isClean 15 = .ok (.iconst 0, 1) := by decide +kernel
theorem dX4_isClean_16 : decode cX4_isClean 16 = .ok (.ireturn, 1) := by decide +kernel
theorem dX4_isClean_17 : decode cX4_isClean 17 = .ok (.iinc 3 1, 3) := by decide +kernel
theorem dX4_isClean_20 : decode cX4_isClean 20 = .ok (.goto (-18), 3) := by decide +kernel
theorem dX4_isClean_23 : decode cX4_isClean 23 = .ok (.iconst 1, 1) := by decide +kernel
theorem dX4_isClean_24 : decode cX4_isClean 24 = .ok (.ireturn, 1) := by decide +kernel
theorem dX4_clean_0 : decode cX4_clean 0 = .ok (.aload_n 0, 1) := by decide +kernel
theorem dX4_clean_1 : decode cX4_clean 1 = .ok (.iload_n 1, 1) := by decide +kernel
theorem dX4_clean_2 : decode cX4_clean 2 = .ok (.invokevirtual 112, 3) := by decide +kernel
theorem dX4_clean_5 : decode cX4_clean 5 = .ok (.ifCond .ne 9, 3) := by decide +kernel
theorem dX4_clean_8 : decode cX4_clean 8 = .ok (.aload_n 0, 1) := by decide +kernel
theorem dX4_clean_9 : decode cX4_clean 9 = .ok (.iconst (-1), 1) := by decide +kernel
theorem dX4_clean_10 : decode cX4_clean 10 = .ok (.invokevirtual 63, 3) := by decide +kernel
theorem dX4_clean_13 : decode cX4_clean 13 = .ok (.ireturn, 1) := by decide +kernel
theorem dX4_clean_14 : decode cX4_clean 14 = .ok (.aload_n 0, 1) := by decide +kernel
theorem dX4_clean_15 : decode cX4_clean 15 = .ok (.getfield 19, 3) := by decide +kernel
theorem dX4_clean_18 : decode cX4_clean 18 = .ok (.iload_n 1, 1) := by decide +kernel
theorem dX4_clean_19 : decode cX4_clean 19 = .ok (.iaload, 1) := by decide +kernel
theorem dX4_clean_20 : decode cX4_clean 20 = .ok (.istore_n 2, 1) := by decide +kernel
theorem dX4_clean_21 : decode cX4_clean 21 = .ok (.iconst 0, 1) := by decide +kernel
theorem dX4_clean_22 : decode cX4_clean 22 = .ok (.istore_n 3, 1) := by decide +kernel
theorem dX4_clean_23 : decode cX4_clean 23 = .ok (.iconst 0, 1) := by decide +kernel
theorem dX4_clean_24 : decode cX4_clean 24 = .ok (.istore 4, 2) := by decide +kernel
theorem dX4_clean_26 : decode cX4_clean 26 = .ok (.iload 4, 2) := by decide +kernel
theorem dX4_clean_28 : decode cX4_clean 28 = .ok (.bipush 6, 2) := by decide +kernel
theorem dX4_clean_30 : decode cX4_clean 30 = .ok (.if_icmp .ge 34, 3) := by decide +kernel
theorem dX4_clean_33 : decode cX4_clean 33 = .ok (.aload_n 0, 1) := by decide +kernel
theorem dX4_clean_34 : decode cX4_clean 34 = .ok (.getfield 19, 3) := by decide +kernel
theorem dX4_clean_37 : decode cX4_clean 37 = .ok (.iload_n 1, 1) := by decide +kernel
theorem dX4_clean_38 : decode cX4_clean 38 = .ok (.iload 4, 2) := by decide +kernel
theorem dX4_clean_40 : decode cX4_clean 40 = .ok (.iastore, 1) := by decide +kernel
theorem dX4_clean_41 : decode cX4_clean 41 = .ok (.aload_n 0, 1) := by decide +kernel
theorem dX4_clean_42 : decode cX4_clean 42 = .ok (.iconst 0, 1) := by decide +kernel
theorem dX4_clean_43 : decode cX4_clean 43 = .ok (.bipush 7, 2) := by decide +kernel
theorem dX4_clean_45 : decode cX4_clean 45 = .ok (.invokevirtual 178, 3) := by decide +kernel
theorem dX4_clean_48 : decode cX4_clean 48 = .ok (.ifCond .eq 10, 3) := by decide +kernel
theorem dX4_clean_51 : decode cX4_clean 51 = .ok (.iload_n 3, 1) := by decide +kernel
theorem dX4_clean_52 : decode cX4_clean 52 = .ok (.iconst 1, 1) := by decide +kernel
theorem dX4_clean_53 : decode cX4_clean 53 = .ok (.iload 4, 2) := by decide +kernel
theorem dX4_clean_55 : decode cX4_clean 55 = .ok (.ishl, 1) := by decide +kernel
theorem dX4_clean_56 : decode cX4_clean 56 = .ok (.ior, 1) := by decide +kernel
theorem dX4_clean_57 : decode cX4_clean 57 = .ok (.istore_n 3, 1) := by decide +kernel
theorem dX4_clean_58 : decode cX4_clean 58 = .ok (.iinc 4 1, 3) := by decide +kernel
theorem dX4_clean_61 : decode cX4_clean 61 = .ok (.goto (-35), 3) := by decide +kernel
theorem dX4_clean_64 : decode cX4_clean 64 = .ok (.aload_n 0, 1) := by decide +kernel
theorem dX4_clean_65 : decode cX4_clean 65 = .ok (.getfield 19, 3) := by decide +kernel
theorem dX4_clean_68 : decode cX4_clean 68 = .ok (.iload_n 1, 1) := by decide +kernel
theorem dX4_clean_69 : decode cX4_clean 69 = .ok (.iload_n 2, 1) := by decide +kernel
theorem dX4_clean_70 : decode cX4_clean 70 = .ok (.iastore, 1) := by decide +kernel
theorem dX4_clean_71 : decode cX4_clean 71 = .ok (.iload_n 3, 1) := by decide +kernel
theorem dX4_clean_72 : decode cX4_clean 72 = .ok (.ireturn, 1) := by decide +kernel
theorem dX4_row_0 : decode cX4_row 0 = .ok (.iload_n 1, 1) := by decide +kernel
theorem dX4_row_1 : decode cX4_row 1 = .ok (.ifCond .ge 10, 3) := by decide +kernel
theorem dX4_row_4 : decode cX4_row 4 = .ok (.aload_n 0, 1) := by decide +kernel
theorem dX4_row_5 : decode cX4_row 5 = .ok (.bipush (-4), 2) := by decide +kernel
theorem dX4_row_7 : decode cX4_row 7 = .ok (.invokevirtual 63, 3) := by decide +kernel
theorem dX4_row_10 : decode cX4_row 10 = .ok (.ireturn, 1) := by decide +kernel
theorem dX4_row_11 : decode cX4_row 11 = .ok (.iload_n 1, 1) := by decide +kernel
theorem dX4_row_12 : decode cX4_row 12 = .ok (.bipush 99, 2) := by decide +kernel
theorem dX4_row_14 : decode cX4_row 14 = .ok (.if_icmp .gt 12, 3) := by decide +kernel
theorem dX4_row_17 : decode cX4_row 17 = .ok (.aload_n 0, 1) := by decide +kernel
theorem dX4_row_18 : decode cX4_row 18 = .ok (.getfield 181, 3) := by decide +kernel
theorem dX4_row_21 : decode cX4_row 21 = .ok (.bipush 12, 2) := by decide +kernel
theorem dX4_row_23 : decode cX4_row 23 = .ok (.if_icmp .ne 10, 3) := by decide +kernel
theorem dX4_row_26 : decode cX4_row 26 = .ok (.aload_n 0, 1) := by decide +kernel
theorem dX4_row_27 : decode cX4_row 27 = .ok (.bipush (-6), 2) := by decide +kernel
theorem dX4_row_29 : decode cX4_row 29 = .ok (.invokevirtual 63, 3) := by decide +kernel
theorem dX4_row_32 : decode cX4_row 32 = .ok (.ireturn, 1) := by decide +kernel
theorem dX4_row_33 : decode cX4_row 33 = .ok (.aload_n 0, 1) := by decide +kernel
theorem dX4_row_34 : decode cX4_row 34 = .ok (.getfield 34, 3) := by decide +kernel
theorem dX4_row_37 : decode cX4_row 37 = .ok (.aload_n 0, 1) := by decide +kernel
theorem dX4_row_38 : decode cX4_row 38 = .ok (.dup, 1) := by decide +kernel
theorem dX4_row_39 : decode cX4_row 39 = .ok (.getfield 181, 3) := by decide +kernel
theorem dX4_row_42 : decode cX4_row 42 = .ok (.dup_x1, 1) := by decide +kernel
theorem dX4_row_43 : decode cX4_row 43 = .ok (.iconst 1, 1) := by decide +kernel
theorem dX4_row_44 : decode cX4_row 44 = .ok (.iadd, 1) := by decide +kernel
theorem dX4_row_45 : decode cX4_row 45 = .ok (.putfield 181, 3) := by decide +kernel
theorem dX4_row_48 : decode cX4_row 48 = .ok (.iload_n 1, 1) := by decide +kernel
theorem dX4_row_49 : decode cX4_row 49 = .ok (.iastore, 1) := by decide +kernel
theorem dX4_row_50 : decode cX4_row 50 = .ok (.aload_n 0, 1) := by decide +kernel
theorem dX4_row_51 : decode cX4_row 51 = .ok (.getfield 181, 3) := by decide +kernel
theorem dX4_row_54 : decode cX4_row 54 = .ok (.ireturn, 1) := by decide +kernel
theorem dX4_judge_0 : decode cX4_judge 0 = .ok (.aload_n 0, 1) := by decide +kernel
theorem dX4_judge_1 : decode cX4_judge 1 = .ok (.getfield 181, 3) := by decide +kernel
theorem dX4_judge_4 : decode cX4_judge 4 = .ok (.istore_n 1, 1) := by decide +kernel
theorem dX4_judge_5 : decode cX4_judge 5 = .ok (.aload_n 0, 1) := by decide +kernel
theorem dX4_judge_6 : decode cX4_judge 6 = .ok (.iconst 0, 1) := by decide +kernel
theorem dX4_judge_7 : decode cX4_judge 7 = .ok (.putfield 181, 3) := by decide +kernel
theorem dX4_judge_10 : decode cX4_judge 10 = .ok (.aload_n 0, 1) := by decide +kernel
theorem dX4_judge_11 : decode cX4_judge 11 = .ok (.aload_n 0, 1) := by decide +kernel
theorem dX4_judge_12 : decode cX4_judge 12 = .ok (.getfield 43, 3) := by decide +kernel
theorem dX4_judge_15 : decode cX4_judge 15 = .ok (.invokevirtual 122, 3) := by decide +kernel
theorem dX4_judge_18 : decode cX4_judge 18 = .ok (.bipush (-9), 2) := by decide +kernel
theorem dX4_judge_20 : decode cX4_judge 20 = .ok (.istore_n 2, 1) := by decide +kernel
theorem dX4_judge_21 : decode cX4_judge 21 = .ok (.iconst 0, 1) := by decide +kernel
theorem dX4_judge_22 : decode cX4_judge 22 = .ok (.istore_n 3, 1) := by decide +kernel
theorem dX4_judge_23 : decode cX4_judge 23 = .ok (.iload_n 3, 1) := by decide +kernel
theorem dX4_judge_24 : decode cX4_judge 24 = .ok (.iload_n 1, 1) := by decide +kernel
theorem dX4_judge_25 : decode cX4_judge 25 = .ok (.if_icmp .ge 83, 3) := by decide +kernel
theorem dX4_judge_28 : decode cX4_judge 28 = .ok (.iload_n 2, 1) := by decide +kernel
theorem dX4_judge_29 : decode cX4_judge 29 = .ok (.bipush (-9), 2) := by decide +kernel
theorem dX4_judge_31 : decode cX4_judge 31 = .ok (.if_icmp .ne 77, 3) := by decide +kernel
theorem dX4_judge_34 : decode cX4_judge 34 = .ok (.aload_n 0, 1) := by decide +kernel
theorem dX4_judge_35 : decode cX4_judge 35 = .ok (.getfield 34, 3) := by decide +kernel
theorem dX4_judge_38 : decode cX4_judge 38 = .ok (.iload_n 3, 1) := by decide +kernel
theorem dX4_judge_39 : decode cX4_judge 39 = .ok (.iaload, 1) := by decide +kernel
theorem dX4_judge_40 : decode cX4_judge 40 = .ok (.bipush 10, 2) := by decide +kernel
theorem dX4_judge_42 : decode cX4_judge 42 = .ok (.idiv, 1) := by decide +kernel
theorem dX4_judge_43 : decode cX4_judge 43 = .ok (.istore 4, 2) := by decide +kernel
theorem dX4_judge_45 : decode cX4_judge 45 = .ok (.aload_n 0, 1) := by decide +kernel
theorem dX4_judge_46 : decode cX4_judge 46 = .ok (.getfield 34, 3) := by decide +kernel
theorem dX4_judge_49 : decode cX4_judge 49 = .ok (.iload_n 3, 1) := by decide +kernel
theorem dX4_judge_50 : decode cX4_judge 50 = .ok (.iaload, 1) := by decide +kernel
theorem dX4_judge_51 : decode cX4_judge 51 = .ok (.bipush 10, 2) := by decide +kernel
theorem dX4_judge_53 : decode cX4_judge 53 = .ok (.irem, 1) := by decide +kernel
theorem dX4_judge_54 : decode cX4_judge 54 = .ok (.istore 5, 2) := by decide +kernel
theorem dX4_judge_56 : decode cX4_judge 56 = .ok (.aload_n 0, 1) := by decide +kernel
theorem dX4_judge_57 : decode cX4_judge 57 = .ok (.iload 4, 2) := by decide +kernel
theorem dX4_judge_59 : decode cX4_judge 59 = .ok (.invokevirtual 112, 3) := by decide +kernel
theorem dX4_judge_62 : decode cX4_judge 62 = .ok (.ifCond .eq 11, 3) := by decide +kernel
theorem dX4_judge_65 : decode cX4_judge 65 = .ok (.iload 5, 2) := by decide +kernel
theorem dX4_judge_67 : decode cX4_judge 67 = .ok (.invokestatic 105, 3) := by decide +kernel
theorem dX4_judge_70 : decode cX4_judge 70 = .ok (.ifCond .ne 8, 3) := by decide +kernel
theorem dX4_judge_73 : decode cX4_judge 73 = .ok (.iload_n 3, 1) := by decide +kernel
theorem dX4_judge_74 : decode cX4_judge 74 = .ok (.istore_n 2, 1) := by decide +kernel
theorem dX4_judge_75 : decode cX4_judge 75 = .ok (.goto 27, 3) := by decide +kernel
theorem dX4_judge_78 : decode cX4_judge 78 = .ok (.aload_n 0, 1) := by decide +kernel
theorem dX4_judge_79 : decode cX4_judge 79 = .ok (.getfield 19, 3) := by decide +kernel
theorem dX4_judge_82 : decode cX4_judge 82 = .ok (.iload 4, 2) := by decide +kernel
theorem dX4_judge_84 : decode cX4_judge 84 = .ok (.iload 5, 2) := by decide +kernel
theorem dX4_judge_86 : decode cX4_judge 86 = .ok (.iastore, 1) := by decide +kernel
theorem dX4_judge_87 : decode cX4_judge 87 = .ok (.aload_n 0, 1) := by decide +kernel
theorem dX4_judge_88 : decode cX4_judge 88 = .ok (.bipush 7, 2) := by decide +kernel
theorem dX4_judge_90 : decode cX4_judge 90 = .ok (.iload_n 3, 1) := by decide +kernel
theorem dX4_judge_91 : decode cX4_judge 91 = .ok (.invokestatic 73, 3) := by decide +kernel
theorem dX4_judge_94 : decode cX4_judge 94 = .ok (.invokevirtual 146, 3) := by decide +kernel
theorem dX4_judge_97 : decode cX4_judge 97 = .ok (.ifCond .le 5, 3) := by decide +kernel
theorem dX4_judge_100 : decode cX4_judge 100 = .ok (.iload_n 3, 1) := by decide +kernel
theorem dX4_judge_101 : decode cX4_judge 101 = .ok (.istore_n 2, 1) := by decide +kernel
theorem dX4_judge_102 : decode cX4_judge 102 = .ok (.iinc 3 1, 3) := by decide +kernel
theorem dX4_judge_105 : decode cX4_judge 105 = .ok (.goto (-82), 3) := by decide +kernel
theorem dX4_judge_108 : decode cX4_judge 108 = .ok (.aload_n 0, 1) := by decide +kernel
theorem dX4_judge_109 : decode cX4_judge 109 = .ok (.aload_n 0, 1) := by decide +kernel
theorem dX4_judge_110 : decode cX4_judge 110 = .ok (.getfield 43, 3) := by decide +kernel
theorem dX4_judge_113 : decode cX4_judge 113 = .ok (.invokevirtual 126, 3) := by decide +kernel
theorem dX4_judge_116 : decode cX4_judge 116 = .ok (.iload_n 2, 1) := by decide +kernel
theorem dX4_judge_117 : decode cX4_judge 117 = .ok (.ireturn, 1) := by decide +kernel
theorem dX4_seeds_0 : decode cX4_seeds 0 = .ok (.iload_n 1, 1) := by decide +kernel
theorem dX4_seeds_1 : decode cX4_seeds 1 = .ok (.iconst 1, 1) := by decide +kernel
theorem dX4_seeds_2 : decode cX4_seeds 2 = .ok (.if_icmp .ge 10, 3) := by decide +kernel
theorem dX4_seeds_5 : decode cX4_seeds 5 = .ok (.aload_n 0, 1) := by decide +kernel
theorem dX4_seeds_6 : decode cX4_seeds 6 = .ok (.bipush (-4), 2) := by decide +kernel
theorem dX4_seeds_8 : decode cX4_seeds 8 = .ok (.invokevirtual 63, 3) := by decide +kernel
theorem dX4_seeds_11 : decode cX4_seeds 11 = .ok (.ireturn, 1) := by decide +kernel
theorem dX4_seeds_12 : decode cX4_seeds 12 = .ok (.iload_n 1, 1) := by decide +kernel
theorem dX4_seeds_13 : decode cX4_seeds 13 = .ok (.bipush 30, 2) := by decide +kernel
theorem dX4_seeds_15 : decode cX4_seeds 15 = .ok (.if_icmp .le 10, 3) := by decide +kernel
theorem dX4_seeds_18 : decode cX4_seeds 18 = .ok (.aload_n 0, 1) := by decide +kernel
theorem dX4_seeds_19 : decode cX4_seeds 19 = .ok (.bipush (-6), 2) := by decide +kernel
theorem dX4_seeds_21 : decode cX4_seeds 21 = .ok (.invokevirtual 63, 3) := by decide +kernel
theorem dX4_seeds_24 : decode cX4_seeds 24 = .ok (.ireturn, 1) := by decide +kernel
theorem dX4_seeds_25 : decode cX4_seeds 25 = .ok (.aload_n 0, 1) := by decide +kernel
theorem dX4_seeds_26 : decode cX4_seeds 26 = .ok (.getfield 52, 3) := by decide +kernel
theorem dX4_seeds_29 : decode cX4_seeds 29 = .ok (.ifCond .ne 10, 3) := by decide +kernel
theorem dX4_seeds_32 : decode cX4_seeds 32 = .ok (.aload_n 0, 1) := by decide +kernel
theorem dX4_seeds_33 : decode cX4_seeds 33 = .ok (.bipush (-3), 2) := by decide +kernel
theorem dX4_seeds_35 : decode cX4_seeds 35 = .ok (.invokevirtual 63, 3) := by decide +kernel
theorem dX4_seeds_38 : decode cX4_seeds 38 = .ok (.ireturn, 1) := by decide +kernel
theorem dX4_seeds_39 : decode cX4_seeds 39 = .ok (.aload_n 0, 1) := by decide +kernel
theorem dX4_seeds_40 : decode cX4_seeds 40 = .ok (.aload_n 0, 1) := by decide +kernel
theorem dX4_seeds_41 : decode cX4_seeds 41 = .ok (.getfield 43, 3) := by decide +kernel
theorem dX4_seeds_44 : decode cX4_seeds 44 = .ok (.invokevirtual 122, 3) := by decide +kernel
theorem dX4_seeds_47 : decode cX4_seeds 47 = .ok (.iload_n 2, 1) := by decide +kernel
theorem dX4_seeds_48 : decode cX4_seeds 48 = .ok (.istore_n 3, 1) := by decide +kernel
theorem dX4_seeds_49 : decode cX4_seeds 49 = .ok (.iconst 0, 1) := by decide +kernel
theorem dX4_seeds_50 : decode cX4_seeds 50 = .ok (.istore 4, 2) := by decide +kernel
theorem dX4_seeds_52 : decode cX4_seeds 52 = .ok (.iconst 0, 1) := by decide +kernel
theorem dX4_seeds_53 : decode cX4_seeds 53 = .ok (.istore 5, 2) := by decide +kernel
theorem dX4_seeds_55 : decode cX4_seeds 55 = .ok (.iload 5, 2) := by decide +kernel
theorem dX4_seeds_57 : decode cX4_seeds 57 = .ok (.iload_n 1, 1) := by decide +kernel
theorem dX4_seeds_58 : decode cX4_seeds 58 = .ok (.if_icmp .ge 72, 3) := by decide +kernel
theorem dX4_seeds_61 : decode cX4_seeds 61 = .ok (.iload_n 3, 1) := by decide +kernel
theorem dX4_seeds_62 : decode cX4_seeds 62 = .ok (.ldc 184, 2) := by decide +kernel
theorem dX4_seeds_64 : decode cX4_seeds 64 = .ok (.imul, 1) := by decide +kernel
theorem dX4_seeds_65 : decode cX4_seeds 65 = .ok (.ldc 185, 2) := by decide +kernel
theorem dX4_seeds_67 : decode cX4_seeds 67 = .ok (.iadd, 1) := by decide +kernel
theorem dX4_seeds_68 : decode cX4_seeds 68 = .ok (.istore_n 3, 1) := by decide +kernel
theorem dX4_seeds_69 : decode cX4_seeds 69 = .ok (.iload_n 3, 1) := by decide +kernel
theorem dX4_seeds_70 : decode cX4_seeds 70 = .ok (.ldc 186, 2) := by decide +kernel
theorem dX4_seeds_72 : decode cX4_seeds 72 = .ok (.iand, 1) := by decide +kernel
theorem dX4_seeds_73 : decode cX4_seeds 73 = .ok (.sipush 256, 3) := by decide +kernel
theorem dX4_seeds_76 : decode cX4_seeds 76 = .ok (.idiv, 1) := by decide +kernel
theorem dX4_seeds_77 : decode cX4_seeds 77 = .ok (.aload_n 0, 1) := by decide +kernel
theorem dX4_seeds_78 : decode cX4_seeds 78 = .ok (.getfield 52, 3) := by decide +kernel
theorem dX4_seeds_81 : decode cX4_seeds 81 = .ok (.irem, 1) := by decide +kernel
theorem dX4_seeds_82 : decode cX4_seeds 82 = .ok (.istore 6, 2) := by decide +kernel
theorem dX4_seeds_84 : decode cX4_seeds 84 = .ok (.iload_n 3, 1) := by decide +kernel
theorem dX4_seeds_85 : decode cX4_seeds 85 = .ok (.ldc 184, 2) := by decide +kernel
theorem dX4_seeds_87 : decode cX4_seeds 87 = .ok (.imul, 1) := by decide +kernel
theorem dX4_seeds_88 : decode cX4_seeds 88 = .ok (.ldc 185, 2) := by decide +kernel
theorem dX4_seeds_90 : decode cX4_seeds 90 = .ok (.iadd, 1) := by decide +kernel
theorem dX4_seeds_91 : decode cX4_seeds 91 = .ok (.istore_n 3, 1) := by decide +kernel
theorem dX4_seeds_92 : decode cX4_seeds 92 = .ok (.aload_n 0, 1) := by decide +kernel
theorem dX4_seeds_93 : decode cX4_seeds 93 = .ok (.getfield 19, 3) := by decide +kernel
theorem dX4_seeds_96 : decode cX4_seeds 96 = .ok (.iload 6, 2) := by decide +kernel
theorem dX4_seeds_98 : decode cX4_seeds 98 = .ok (.iload_n 3, 1) := by decide +kernel
theorem dX4_seeds_99 : decode cX4_seeds 99 = .ok (.ldc 186, 2) := by decide +kernel
theorem dX4_seeds_101 : decode cX4_seeds 101 = .ok (.iand, 1) := by decide +kernel
theorem dX4_seeds_102 : decode cX4_seeds 102 = .ok (.sipush 256, 3) := by decide +kernel
theorem dX4_seeds_105 : decode cX4_seeds 105 = .ok (.idiv, 1) := by decide +kernel
theorem dX4_seeds_106 : decode cX4_seeds 106 = .ok (.bipush 6, 2) := by decide +kernel
theorem dX4_seeds_108 : decode cX4_seeds 108 = .ok (.irem, 1) := by decide +kernel
theorem dX4_seeds_109 : decode cX4_seeds 109 = .ok (.iastore, 1) := by decide +kernel
theorem dX4_seeds_110 : decode cX4_seeds 110 = .ok (.aload_n 0, 1) := by decide +kernel
theorem dX4_seeds_111 : decode cX4_seeds 111 = .ok (.aload_n 0, 1) := by decide +kernel
theorem dX4_seeds_112 : decode cX4_seeds 112 = .ok (.getfield 95, 3) := by decide +kernel
theorem dX4_seeds_115 : decode cX4_seeds 115 = .ok (.invokevirtual 146, 3) := by decide +kernel
theorem dX4_seeds_118 : decode cX4_seeds 118 = .ok (.ifCond .le 6, 3) := by decide +kernel
theorem dX4_seeds_121 : decode cX4_seeds 121 = .ok (.iinc 4 1, 3) := by decide +kernel
theorem dX4_seeds_124 : decode cX4_seeds 124 = .ok (.iinc 5 1, 3) := by decide +kernel
theorem dX4_seeds_127 : decode cX4_seeds 127 = .ok (.goto (-72), 3) := by decide +kernel
theorem dX4_seeds_130 : decode cX4_seeds 130 = .ok (.aload_n 0, 1) := by decide +kernel
theorem dX4_seeds_131 : decode cX4_seeds 131 = .ok (.aload_n 0, 1) := by decide +kernel
theorem dX4_seeds_132 : decode cX4_seeds 132 = .ok (.getfield 43, 3) := by decide +kernel
theorem dX4_seeds_135 : decode cX4_seeds 135 = .ok (.invokevirtual 126, 3) := by decide +kernel
theorem dX4_seeds_138 : decode cX4_seeds 138 = .ok (.iload 4, 2) := by decide +kernel
theorem dX4_seeds_140 : decode cX4_seeds 140 = .ok (.ireturn, 1) := by decide +kernel
theorem dX4_keep_0 : decode cX4_keep 0 = .ok (.iconst 0, 1) := by decide +kernel
theorem dX4_keep_1 : decode cX4_keep 1 = .ok (.istore_n 2, 1) := by decide +kernel
theorem dX4_keep_2 : decode cX4_keep 2 = .ok (.iload_n 2, 1) := by decide +kernel
theorem dX4_keep_3 : decode cX4_keep 3 = .ok (.bipush 10, 2) := by decide +kernel
theorem dX4_keep_5 : decode cX4_keep 5 = .ok (.if_icmp .ge 30, 3) := by decide +kernel
theorem dX4_keep_8 : decode cX4_keep 8 = .ok (.aload_n 1, 1) := by decide +kernel
theorem dX4_keep_9 : decode cX4_keep 9 = .ok (.iload_n 2, 1) := by decide +kernel
theorem dX4_keep_10 : decode cX4_keep 10 = .ok (.aload_n 0, 1) := by decide +kernel
theorem dX4_keep_11 : decode cX4_keep 11 = .ok (.getfield 7, 3) := by decide +kernel
theorem dX4_keep_14 : decode cX4_keep 14 = .ok (.iload_n 2, 1) := by decide +kernel
theorem dX4_keep_15 : decode cX4_keep 15 = .ok (.iaload, 1) := by decide +kernel
theorem dX4_keep_16 : decode cX4_keep 16 = .ok (.iastore, 1) := by decide +kernel
theorem dX4_keep_17 : decode cX4_keep 17 = .ok (.aload_n 1, 1) := by decide +kernel
theorem dX4_keep_18 : decode cX4_keep 18 = .ok (.bipush 10, 2) := by decide +kernel
theorem dX4_keep_20 : decode cX4_keep 20 = .ok (.iload_n 2, 1) := by decide +kernel
theorem dX4_keep_21 : decode cX4_keep 21 = .ok (.iadd, 1) := by decide +kernel
theorem dX4_keep_22 : decode cX4_keep 22 = .ok (.aload_n 0, 1) := by decide +kernel
theorem dX4_keep_23 : decode cX4_keep 23 = .ok (.getfield 13, 3) := by decide +kernel
theorem dX4_keep_26 : decode cX4_keep 26 = .ok (.iload_n 2, 1) := by decide +kernel
theorem dX4_keep_27 : decode cX4_keep 27 = .ok (.iaload, 1) := by decide +kernel
theorem dX4_keep_28 : decode cX4_keep 28 = .ok (.iastore, 1) := by decide +kernel
theorem dX4_keep_29 : decode cX4_keep 29 = .ok (.iinc 2 1, 3) := by decide +kernel
theorem dX4_keep_32 : decode cX4_keep 32 = .ok (.goto (-30), 3) := by decide +kernel
theorem dX4_keep_35 : decode cX4_keep 35 = .ok (.iconst 0, 1) := by decide +kernel
theorem dX4_keep_36 : decode cX4_keep 36 = .ok (.istore_n 2, 1) := by decide +kernel
theorem dX4_keep_37 : decode cX4_keep 37 = .ok (.iload_n 2, 1) := by decide +kernel
theorem dX4_keep_38 : decode cX4_keep 38 = .ok (.bipush 8, 2) := by decide +kernel
theorem dX4_keep_40 : decode cX4_keep 40 = .ok (.if_icmp .ge 57, 3) := by decide +kernel
theorem dX4_keep_43 : decode cX4_keep 43 = .ok (.aload_n 1, 1) := by decide +kernel
theorem dX4_keep_44 : decode cX4_keep 44 = .ok (.bipush 20, 2) := by decide +kernel
theorem dX4_keep_46 : decode cX4_keep 46 = .ok (.iload_n 2, 1) := by decide +kernel
theorem dX4_keep_47 : decode cX4_keep 47 = .ok (.iadd, 1) := by decide +kernel
theorem dX4_keep_48 : decode cX4_keep 48 = .ok (.aload_n 0, 1) := by decide +kernel
theorem dX4_keep_49 : decode cX4_keep 49 = .ok (.getfield 16, 3) := by decide +kernel
theorem dX4_keep_52 : decode cX4_keep 52 = .ok (.iload_n 2, 1) := by decide +kernel
theorem dX4_keep_53 : decode cX4_keep 53 = .ok (.iaload, 1) := by decide +kernel
theorem dX4_keep_54 : decode cX4_keep 54 = .ok (.iastore, 1) := by decide +kernel
theorem dX4_keep_55 : decode cX4_keep 55 = .ok (.aload_n 1, 1) := by decide +kernel
theorem dX4_keep_56 : decode cX4_keep 56 = .ok (.bipush 28, 2) := by decide +kernel
theorem dX4_keep_58 : decode cX4_keep 58 = .ok (.iload_n 2, 1) := by decide +kernel
theorem dX4_keep_59 : decode cX4_keep 59 = .ok (.iadd, 1) := by decide +kernel
theorem dX4_keep_60 : decode cX4_keep 60 = .ok (.aload_n 0, 1) := by decide +kernel
theorem dX4_keep_61 : decode cX4_keep 61 = .ok (.getfield 19, 3) := by decide +kernel
theorem dX4_keep_64 : decode cX4_keep 64 = .ok (.iload_n 2, 1) := by decide +kernel
theorem dX4_keep_65 : decode cX4_keep 65 = .ok (.iaload, 1) := by decide +kernel
theorem dX4_keep_66 : decode cX4_keep 66 = .ok (.iastore, 1) := by decide +kernel
theorem dX4_keep_67 : decode cX4_keep 67 = .ok (.aload_n 1, 1) := by decide +kernel
theorem dX4_keep_68 : decode cX4_keep 68 = .ok (.bipush 36, 2) := by decide +kernel
theorem dX4_keep_70 : decode cX4_keep 70 = .ok (.iload_n 2, 1) := by decide +kernel
theorem dX4_keep_71 : decode cX4_keep 71 = .ok (.iadd, 1) := by decide +kernel
theorem dX4_keep_72 : decode cX4_keep 72 = .ok (.aload_n 0, 1) := by decide +kernel
theorem dX4_keep_73 : decode cX4_keep 73 = .ok (.getfield 22, 3) := by decide +kernel
theorem dX4_keep_76 : decode cX4_keep 76 = .ok (.iload_n 2, 1) := by decide +kernel
theorem dX4_keep_77 : decode cX4_keep 77 = .ok (.iaload, 1) := by decide +kernel
theorem dX4_keep_78 : decode cX4_keep 78 = .ok (.iastore, 1) := by decide +kernel
theorem dX4_keep_79 : decode cX4_keep 79 = .ok (.aload_n 1, 1) := by decide +kernel
theorem dX4_keep_80 : decode cX4_keep 80 = .ok (.bipush 44, 2) := by decide +kernel
theorem dX4_keep_82 : decode cX4_keep 82 = .ok (.iload_n 2, 1) := by decide +kernel
theorem dX4_keep_83 : decode cX4_keep 83 = .ok (.iadd, 1) := by decide +kernel
theorem dX4_keep_84 : decode cX4_keep 84 = .ok (.aload_n 0, 1) := by decide +kernel
theorem dX4_keep_85 : decode cX4_keep 85 = .ok (.getfield 25, 3) := by decide +kernel
theorem dX4_keep_88 : decode cX4_keep 88 = .ok (.iload_n 2, 1) := by decide +kernel
theorem dX4_keep_89 : decode cX4_keep 89 = .ok (.iaload, 1) := by decide +kernel
theorem dX4_keep_90 : decode cX4_keep 90 = .ok (.iastore, 1) := by decide +kernel
theorem dX4_keep_91 : decode cX4_keep 91 = .ok (.iinc 2 1, 3) := by decide +kernel
theorem dX4_keep_94 : decode cX4_keep 94 = .ok (.goto (-57), 3) := by decide +kernel
theorem dX4_keep_97 : decode cX4_keep 97 = .ok (.aload_n 1, 1) := by decide +kernel
theorem dX4_keep_98 : decode cX4_keep 98 = .ok (.bipush 52, 2) := by decide +kernel
theorem dX4_keep_100 : decode cX4_keep 100 = .ok (.aload_n 0, 1) := by decide +kernel
theorem dX4_keep_101 : decode cX4_keep 101 = .ok (.getfield 60, 3) := by decide +kernel
theorem dX4_keep_104 : decode cX4_keep 104 = .ok (.iastore, 1) := by decide +kernel
theorem dX4_keep_105 : decode cX4_keep 105 = .ok (.aload_n 1, 1) := by decide +kernel
theorem dX4_keep_106 : decode cX4_keep 106 = .ok (.bipush 53, 2) := by decide +kernel
theorem dX4_keep_108 : decode cX4_keep 108 = .ok (.aload_n 0, 1) := by decide +kernel
theorem dX4_keep_109 : decode cX4_keep 109 = .ok (.getfield 92, 3) := by decide +kernel
theorem dX4_keep_112 : decode cX4_keep 112 = .ok (.iastore, 1) := by decide +kernel
theorem dX4_keep_113 : decode cX4_keep 113 = .ok (.aload_n 1, 1) := by decide +kernel
theorem dX4_keep_114 : decode cX4_keep 114 = .ok (.bipush 54, 2) := by decide +kernel
theorem dX4_keep_116 : decode cX4_keep 116 = .ok (.aload_n 0, 1) := by decide +kernel
theorem dX4_keep_117 : decode cX4_keep 117 = .ok (.getfield 52, 3) := by decide +kernel
theorem dX4_keep_120 : decode cX4_keep 120 = .ok (.iastore, 1) := by decide +kernel
theorem dX4_keep_121 : decode cX4_keep 121 = .ok (.aload_n 1, 1) := by decide +kernel
theorem dX4_keep_122 : decode cX4_keep 122 = .ok (.bipush 55, 2) := by decide +kernel
theorem dX4_keep_124 : decode cX4_keep 124 = .ok (.aload_n 0, 1) := by decide +kernel
theorem dX4_keep_125 : decode cX4_keep 125 = .ok (.getfield 95, 3) := by decide +kernel
theorem dX4_keep_128 : decode cX4_keep 128 = .ok (.iastore, 1) := by decide +kernel
theorem dX4_keep_129 : decode cX4_keep 129 = .ok (.aload_n 1, 1) := by decide +kernel
theorem dX4_keep_130 : decode cX4_keep 130 = .ok (.bipush 56, 2) := by decide +kernel
theorem dX4_keep_132 : decode cX4_keep 132 = .ok (.aload_n 0, 1) := by decide +kernel
theorem dX4_keep_133 : decode cX4_keep 133 = .ok (.getfield 162, 3) := by decide +kernel
theorem dX4_keep_136 : decode cX4_keep 136 = .ok (.iastore, 1) := by decide +kernel
theorem dX4_keep_137 : decode cX4_keep 137 = .ok (.return_, 1) := by decide +kernel
theorem dX4_again_0 : decode cX4_again 0 = .ok (.iconst 0, 1) := by decide +kernel
theorem dX4_again_1 : decode cX4_again 1 = .ok (.istore_n 2, 1) := by decide +kernel
theorem dX4_again_2 : decode cX4_again 2 = .ok (.iload_n 2, 1) := by decide +kernel
theorem dX4_again_3 : decode cX4_again 3 = .ok (.bipush 10, 2) := by decide +kernel
theorem dX4_again_5 : decode cX4_again 5 = .ok (.if_icmp .ge 30, 3) := by decide +kernel
theorem dX4_again_8 : decode cX4_again 8 = .ok (.aload_n 0, 1) := by decide +kernel
theorem dX4_again_9 : decode cX4_again 9 = .ok (.getfield 7, 3) := by decide +kernel
theorem dX4_again_12 : decode cX4_again 12 = .ok (.iload_n 2, 1) := by decide +kernel
theorem dX4_again_13 : decode cX4_again 13 = .ok (.aload_n 1, 1) := by decide +kernel
theorem dX4_again_14 : decode cX4_again 14 = .ok (.iload_n 2, 1) := by decide +kernel
theorem dX4_again_15 : decode cX4_again 15 = .ok (.iaload, 1) := by decide +kernel
theorem dX4_again_16 : decode cX4_again 16 = .ok (.iastore, 1) := by decide +kernel
theorem dX4_again_17 : decode cX4_again 17 = .ok (.aload_n 0, 1) := by decide +kernel
theorem dX4_again_18 : decode cX4_again 18 = .ok (.getfield 13, 3) := by decide +kernel
theorem dX4_again_21 : decode cX4_again 21 = .ok (.iload_n 2, 1) := by decide +kernel
theorem dX4_again_22 : decode cX4_again 22 = .ok (.aload_n 1, 1) := by decide +kernel
theorem dX4_again_23 : decode cX4_again 23 = .ok (.bipush 10, 2) := by decide +kernel
theorem dX4_again_25 : decode cX4_again 25 = .ok (.iload_n 2, 1) := by decide +kernel
theorem dX4_again_26 : decode cX4_again 26 = .ok (.iadd, 1) := by decide +kernel
theorem dX4_again_27 : decode cX4_again 27 = .ok (.iaload, 1) := by decide +kernel
theorem dX4_again_28 : decode cX4_again 28 = .ok (.iastore, 1) := by decide +kernel
theorem dX4_again_29 : decode cX4_again 29 = .ok (.iinc 2 1, 3) := by decide +kernel
theorem dX4_again_32 : decode cX4_again 32 = .ok (.goto (-30), 3) := by decide +kernel
theorem dX4_again_35 : decode cX4_again 35 = .ok (.iconst 0, 1) := by decide +kernel
theorem dX4_again_36 : decode cX4_again 36 = .ok (.istore_n 2, 1) := by decide +kernel
theorem dX4_again_37 : decode cX4_again 37 = .ok (.iload_n 2, 1) := by decide +kernel
theorem dX4_again_38 : decode cX4_again 38 = .ok (.bipush 8, 2) := by decide +kernel
theorem dX4_again_40 : decode cX4_again 40 = .ok (.if_icmp .ge 57, 3) := by decide +kernel
theorem dX4_again_43 : decode cX4_again 43 = .ok (.aload_n 0, 1) := by decide +kernel
theorem dX4_again_44 : decode cX4_again 44 = .ok (.getfield 16, 3) := by decide +kernel
theorem dX4_again_47 : decode cX4_again 47 = .ok (.iload_n 2, 1) := by decide +kernel
theorem dX4_again_48 : decode cX4_again 48 = .ok (.aload_n 1, 1) := by decide +kernel
theorem dX4_again_49 : decode cX4_again 49 = .ok (.bipush 20, 2) := by decide +kernel
theorem dX4_again_51 : decode cX4_again 51 = .ok (.iload_n 2, 1) := by decide +kernel
theorem dX4_again_52 : decode cX4_again 52 = .ok (.iadd, 1) := by decide +kernel
theorem dX4_again_53 : decode cX4_again 53 = .ok (.iaload, 1) := by decide +kernel
theorem dX4_again_54 : decode cX4_again 54 = .ok (.iastore, 1) := by decide +kernel
theorem dX4_again_55 : decode cX4_again 55 = .ok (.aload_n 0, 1) := by decide +kernel
theorem dX4_again_56 : decode cX4_again 56 = .ok (.getfield 19, 3) := by decide +kernel
theorem dX4_again_59 : decode cX4_again 59 = .ok (.iload_n 2, 1) := by decide +kernel
theorem dX4_again_60 : decode cX4_again 60 = .ok (.aload_n 1, 1) := by decide +kernel
theorem dX4_again_61 : decode cX4_again 61 = .ok (.bipush 28, 2) := by decide +kernel
theorem dX4_again_63 : decode cX4_again 63 = .ok (.iload_n 2, 1) := by decide +kernel
theorem dX4_again_64 : decode cX4_again 64 = .ok (.iadd, 1) := by decide +kernel
theorem dX4_again_65 : decode cX4_again 65 = .ok (.iaload, 1) := by decide +kernel
theorem dX4_again_66 : decode cX4_again 66 = .ok (.iastore, 1) := by decide +kernel
theorem dX4_again_67 : decode cX4_again 67 = .ok (.aload_n 0, 1) := by decide +kernel
theorem dX4_again_68 : decode cX4_again 68 = .ok (.getfield 22, 3) := by decide +kernel
theorem dX4_again_71 : decode cX4_again 71 = .ok (.iload_n 2, 1) := by decide +kernel
theorem dX4_again_72 : decode cX4_again 72 = .ok (.aload_n 1, 1) := by decide +kernel
theorem dX4_again_73 : decode cX4_again 73 = .ok (.bipush 36, 2) := by decide +kernel
theorem dX4_again_75 : decode cX4_again 75 = .ok (.iload_n 2, 1) := by decide +kernel
theorem dX4_again_76 : decode cX4_again 76 = .ok (.iadd, 1) := by decide +kernel
theorem dX4_again_77 : decode cX4_again 77 = .ok (.iaload, 1) := by decide +kernel
theorem dX4_again_78 : decode cX4_again 78 = .ok (.iastore, 1) := by decide +kernel
theorem dX4_again_79 : decode cX4_again 79 = .ok (.aload_n 0, 1) := by decide +kernel
theorem dX4_again_80 : decode cX4_again 80 = .ok (.getfield 25, 3) := by decide +kernel
theorem dX4_again_83 : decode cX4_again 83 = .ok (.iload_n 2, 1) := by decide +kernel
theorem dX4_again_84 : decode cX4_again 84 = .ok (.aload_n 1, 1) := by decide +kernel
theorem dX4_again_85 : decode cX4_again 85 = .ok (.bipush 44, 2) := by decide +kernel
theorem dX4_again_87 : decode cX4_again 87 = .ok (.iload_n 2, 1) := by decide +kernel
theorem dX4_again_88 : decode cX4_again 88 = .ok (.iadd, 1) := by decide +kernel
theorem dX4_again_89 : decode cX4_again 89 = .ok (.iaload, 1) := by decide +kernel
theorem dX4_again_90 : decode cX4_again 90 = .ok (.iastore, 1) := by decide +kernel
theorem dX4_again_91 : decode cX4_again 91 = .ok (.iinc 2 1, 3) := by decide +kernel
theorem dX4_again_94 : decode cX4_again 94 = .ok (.goto (-57), 3) := by decide +kernel
theorem dX4_again_97 : decode cX4_again 97 = .ok (.aload_n 0, 1) := by decide +kernel
theorem dX4_again_98 : decode cX4_again 98 = .ok (.aload_n 1, 1) := by decide +kernel
theorem dX4_again_99 : decode cX4_again 99 = .ok (.bipush 52, 2) := by decide +kernel
theorem dX4_again_101 : decode cX4_again 101 = .ok (.iaload, 1) := by decide +kernel
theorem dX4_again_102 : decode cX4_again 102 = .ok (.putfield 60, 3) := by decide +kernel
theorem dX4_again_105 : decode cX4_again 105 = .ok (.aload_n 0, 1) := by decide +kernel
theorem dX4_again_106 : decode cX4_again 106 = .ok (.aload_n 1, 1) := by decide +kernel
theorem dX4_again_107 : decode cX4_again 107 = .ok (.bipush 53, 2) := by decide +kernel
theorem dX4_again_109 : decode cX4_again 109 = .ok (.iaload, 1) := by decide +kernel
theorem dX4_again_110 : decode cX4_again 110 = .ok (.putfield 92, 3) := by decide +kernel
theorem dX4_again_113 : decode cX4_again 113 = .ok (.aload_n 0, 1) := by decide +kernel
theorem dX4_again_114 : decode cX4_again 114 = .ok (.aload_n 1, 1) := by decide +kernel
theorem dX4_again_115 : decode cX4_again 115 = .ok (.bipush 54, 2) := by decide +kernel
theorem dX4_again_117 : decode cX4_again 117 = .ok (.iaload, 1) := by decide +kernel
theorem dX4_again_118 : decode cX4_again 118 = .ok (.putfield 52, 3) := by decide +kernel
theorem dX4_again_121 : decode cX4_again 121 = .ok (.aload_n 0, 1) := by decide +kernel
theorem dX4_again_122 : decode cX4_again 122 = .ok (.aload_n 1, 1) := by decide +kernel
theorem dX4_again_123 : decode cX4_again 123 = .ok (.bipush 55, 2) := by decide +kernel
theorem dX4_again_125 : decode cX4_again 125 = .ok (.iaload, 1) := by decide +kernel
theorem dX4_again_126 : decode cX4_again 126 = .ok (.putfield 95, 3) := by decide +kernel
theorem dX4_again_129 : decode cX4_again 129 = .ok (.aload_n 0, 1) := by decide +kernel
theorem dX4_again_130 : decode cX4_again 130 = .ok (.aload_n 1, 1) := by decide +kernel
theorem dX4_again_131 : decode cX4_again 131 = .ok (.bipush 56, 2) := by decide +kernel
theorem dX4_again_133 : decode cX4_again 133 = .ok (.iaload, 1) := by decide +kernel
theorem dX4_again_134 : decode cX4_again 134 = .ok (.putfield 162, 3) := by decide +kernel
theorem dX4_again_137 : decode cX4_again 137 = .ok (.return_, 1) := by decide +kernel
theorem dX4_image_0 : decode cX4_image 0 = .ok (.aload_n 0, 1) := by decide +kernel
theorem dX4_image_1 : decode cX4_image 1 = .ok (.iconst 1, 1) := by decide +kernel
theorem dX4_image_2 : decode cX4_image 2 = .ok (.putfield 187, 3) := by decide +kernel
theorem dX4_image_5 : decode cX4_image 5 = .ok (.aload_n 0, 1) := by decide +kernel
theorem dX4_image_6 : decode cX4_image 6 = .ok (.aload_n 0, 1) := by decide +kernel
theorem dX4_image_7 : decode cX4_image 7 = .ok (.getfield 40, 3) := by decide +kernel
theorem dX4_image_10 : decode cX4_image 10 = .ok (.invokevirtual 122, 3) := by decide +kernel
theorem dX4_image_13 : decode cX4_image 13 = .ok (.aload_n 0, 1) := by decide +kernel
theorem dX4_image_14 : decode cX4_image 14 = .ok (.getfield 52, 3) := by decide +kernel
theorem dX4_image_17 : decode cX4_image 17 = .ok (.ireturn, 1) := by decide +kernel
theorem dX4_on_0 : decode cX4_on 0 = .ok (.aload_n 0, 1) := by decide +kernel
theorem dX4_on_1 : decode cX4_on 1 = .ok (.getfield 187, 3) := by decide +kernel
theorem dX4_on_4 : decode cX4_on 4 = .ok (.ifCond .ne 10, 3) := by decide +kernel
theorem dX4_on_7 : decode cX4_on 7 = .ok (.aload_n 0, 1) := by decide +kernel
theorem dX4_on_8 : decode cX4_on 8 = .ok (.bipush (-3), 2) := by decide +kernel
theorem dX4_on_10 : decode cX4_on 10 = .ok (.invokevirtual 63, 3) := by decide +kernel
theorem dX4_on_13 : decode cX4_on 13 = .ok (.ireturn, 1) := by decide +kernel
theorem dX4_on_14 : decode cX4_on 14 = .ok (.aload_n 0, 1) := by decide +kernel
theorem dX4_on_15 : decode cX4_on 15 = .ok (.aload_n 0, 1) := by decide +kernel
theorem dX4_on_16 : decode cX4_on 16 = .ok (.getfield 40, 3) := by decide +kernel
theorem dX4_on_19 : decode cX4_on 19 = .ok (.invokevirtual 126, 3) := by decide +kernel
theorem dX4_on_22 : decode cX4_on 22 = .ok (.aload_n 0, 1) := by decide +kernel
theorem dX4_on_23 : decode cX4_on 23 = .ok (.getfield 52, 3) := by decide +kernel
theorem dX4_on_26 : decode cX4_on 26 = .ok (.ireturn, 1) := by decide +kernel
theorem dX4_count_0 : decode cX4_count 0 = .ok (.iconst 0, 1) := by decide +kernel
theorem dX4_count_1 : decode cX4_count 1 = .ok (.istore_n 2, 1) := by decide +kernel
theorem dX4_count_2 : decode cX4_count 2 = .ok (.iload_n 1, 1) := by decide +kernel
theorem dX4_count_3 : decode cX4_count 3 = .ok (.tableswitch 115 0 7 #[45, 50, 55, 60, 68, 100, 105, 110], 45) := by decide +kernel
theorem dX4_count_48 : decode cX4_count 48 = .ok (.aload_n 0, 1) := by decide +kernel
theorem dX4_count_49 : decode cX4_count 49 = .ok (.getfield 52, 3) := by decide +kernel
theorem dX4_count_52 : decode cX4_count 52 = .ok (.ireturn, 1) := by decide +kernel
theorem dX4_count_53 : decode cX4_count 53 = .ok (.aload_n 0, 1) := by decide +kernel
theorem dX4_count_54 : decode cX4_count 54 = .ok (.getfield 60, 3) := by decide +kernel
theorem dX4_count_57 : decode cX4_count 57 = .ok (.ireturn, 1) := by decide +kernel
theorem dX4_count_58 : decode cX4_count 58 = .ok (.aload_n 0, 1) := by decide +kernel
theorem dX4_count_59 : decode cX4_count 59 = .ok (.getfield 95, 3) := by decide +kernel
theorem dX4_count_62 : decode cX4_count 62 = .ok (.ireturn, 1) := by decide +kernel
theorem dX4_count_63 : decode cX4_count 63 = .ok (.aload_n 0, 1) := by decide +kernel
theorem dX4_count_64 : decode cX4_count 64 = .ok (.getfield 92, 3) := by decide +kernel
theorem dX4_count_67 : decode cX4_count 67 = .ok (.invokestatic 149, 3) := by decide +kernel
theorem dX4_count_70 : decode cX4_count 70 = .ok (.ireturn, 1) := by decide +kernel
theorem dX4_count_71 : decode cX4_count 71 = .ok (.iconst 0, 1) := by decide +kernel
theorem dX4_count_72 : decode cX4_count 72 = .ok (.istore_n 3, 1) := by decide +kernel
theorem dX4_count_73 : decode cX4_count 73 = .ok (.iload_n 3, 1) := by decide +kernel
theorem dX4_count_74 : decode cX4_count 74 = .ok (.aload_n 0, 1) := by decide +kernel
theorem dX4_count_75 : decode cX4_count 75 = .ok (.getfield 52, 3) := by decide +kernel
theorem dX4_count_78 : decode cX4_count 78 = .ok (.if_icmp .ge 23, 3) := by decide +kernel
theorem dX4_count_81 : decode cX4_count 81 = .ok (.aload_n 0, 1) := by decide +kernel
theorem dX4_count_82 : decode cX4_count 82 = .ok (.getfield 22, 3) := by decide +kernel
theorem dX4_count_85 : decode cX4_count 85 = .ok (.iload_n 3, 1) := by decide +kernel
theorem dX4_count_86 : decode cX4_count 86 = .ok (.iaload, 1) := by decide +kernel
theorem dX4_count_87 : decode cX4_count 87 = .ok (.bipush (-9), 2) := by decide +kernel
theorem dX4_count_89 : decode cX4_count 89 = .ok (.if_icmp .eq 6, 3) := by decide +kernel
theorem dX4_count_92 : decode cX4_count 92 = .ok (.iinc 2 1, 3) := by decide +kernel
theorem dX4_count_95 : decode cX4_count 95 = .ok (.iinc 3 1, 3) := by decide +kernel
theorem dX4_count_98 : decode cX4_count 98 = .ok (.goto (-25), 3) := by decide +kernel
theorem dX4_count_101 : decode cX4_count 101 = .ok (.iload_n 2, 1) := by decide +kernel
theorem dX4_count_102 : decode cX4_count 102 = .ok (.ireturn, 1) := by decide +kernel
theorem dX4_count_103 : decode cX4_count 103 = .ok (.aload_n 0, 1) := by decide +kernel
theorem dX4_count_104 : decode cX4_count 104 = .ok (.getfield 162, 3) := by decide +kernel
theorem dX4_count_107 : decode cX4_count 107 = .ok (.ireturn, 1) := by decide +kernel
theorem dX4_count_108 : decode cX4_count 108 = .ok (.aload_n 0, 1) := by decide +kernel
theorem dX4_count_109 : decode cX4_count 109 = .ok (.getfield 181, 3) := by decide +kernel
theorem dX4_count_112 : decode cX4_count 112 = .ok (.ireturn, 1) := by decide +kernel
theorem dX4_count_113 : decode cX4_count 113 = .ok (.aload_n 0, 1) := by decide +kernel
theorem dX4_count_114 : decode cX4_count 114 = .ok (.getfield 67, 3) := by decide +kernel
theorem dX4_count_117 : decode cX4_count 117 = .ok (.ireturn, 1) := by decide +kernel
theorem dX4_count_118 : decode cX4_count 118 = .ok (.iload_n 1, 1) := by decide +kernel
theorem dX4_count_119 : decode cX4_count 119 = .ok (.bipush 11, 2) := by decide +kernel
theorem dX4_count_121 : decode cX4_count 121 = .ok (.bipush 16, 2) := by decide +kernel
theorem dX4_count_123 : decode cX4_count 123 = .ok (.invokestatic 56, 3) := by decide +kernel
theorem dX4_count_126 : decode cX4_count 126 = .ok (.ifCond .eq 15, 3) := by decide +kernel
theorem dX4_count_129 : decode cX4_count 129 = .ok (.aload_n 0, 1) := by decide +kernel
theorem dX4_count_130 : decode cX4_count 130 = .ok (.getfield 37, 3) := by decide +kernel
theorem dX4_count_133 : decode cX4_count 133 = .ok (.iload_n 1, 1) := by decide +kernel
theorem dX4_count_134 : decode cX4_count 134 = .ok (.bipush 10, 2) := by decide +kernel
theorem dX4_count_136 : decode cX4_count 136 = .ok (.isub, 1) := by decide +kernel
theorem dX4_count_137 : decode cX4_count 137 = .ok (.iaload, 1) := by decide +kernel
theorem dX4_count_138 : decode cX4_count 138 = .ok (.goto 5, 3) := by decide +kernel
theorem dX4_count_141 : decode cX4_count 141 = .ok (.bipush (-9), 2) := by decide +kernel
theorem dX4_count_143 : decode cX4_count 143 = .ok (.ireturn, 1) := by decide +kernel
theorem dJ11_isValidCodePoint_9a6ad_0 : decode cJ11_isValidCodePoint_9a6ad 0 = .ok (.iload_n 0, 1) := by decide +kernel
theorem dJ11_isValidCodePoint_9a6ad_1 : decode cJ11_isValidCodePoint_9a6ad 1 = .ok (.bipush 16, 2) := by decide +kernel
theorem dJ11_isValidCodePoint_9a6ad_3 : decode cJ11_isValidCodePoint_9a6ad 3 = .ok (.iushr, 1) := by decide +kernel
theorem dJ11_isValidCodePoint_9a6ad_4 : decode cJ11_isValidCodePoint_9a6ad 4 = .ok (.istore_n 1, 1) := by decide +kernel
theorem dJ11_isValidCodePoint_9a6ad_5 : decode cJ11_isValidCodePoint_9a6ad 5 = .ok (.iload_n 1, 1) := by decide +kernel
theorem dJ11_isValidCodePoint_9a6ad_6 : decode cJ11_isValidCodePoint_9a6ad 6 = .ok (.bipush 17, 2) := by decide +kernel
theorem dJ11_isValidCodePoint_9a6ad_8 : decode cJ11_isValidCodePoint_9a6ad 8 = .ok (.if_icmp .ge 7, 3) := by decide +kernel
theorem dJ11_isValidCodePoint_9a6ad_11 : decode cJ11_isValidCodePoint_9a6ad 11 = .ok (.iconst 1, 1) := by decide +kernel
theorem dJ11_isValidCodePoint_9a6ad_12 : decode cJ11_isValidCodePoint_9a6ad 12 = .ok (.goto 4, 3) := by decide +kernel
theorem dJ11_isValidCodePoint_9a6ad_15 : decode cJ11_isValidCodePoint_9a6ad 15 = .ok (.iconst 0, 1) := by decide +kernel
theorem dJ11_isValidCodePoint_9a6ad_16 : decode cJ11_isValidCodePoint_9a6ad 16 = .ok (.ireturn, 1) := by decide +kernel
theorem dJ11_highSurrogate_5068e_0 : decode cJ11_highSurrogate_5068e 0 = .ok (.iload_n 0, 1) := by decide +kernel
theorem dJ11_highSurrogate_5068e_1 : decode cJ11_highSurrogate_5068e 1 = .ok (.bipush 10, 2) := by decide +kernel
theorem dJ11_highSurrogate_5068e_3 : decode cJ11_highSurrogate_5068e 3 = .ok (.iushr, 1) := by decide +kernel
theorem dJ11_highSurrogate_5068e_4 : decode cJ11_highSurrogate_5068e 4 = .ok (.ldc 110, 2) := by decide +kernel
theorem dJ11_highSurrogate_5068e_6 : decode cJ11_highSurrogate_5068e 6 = .ok (.iadd, 1) := by decide +kernel
theorem dJ11_highSurrogate_5068e_7 : decode cJ11_highSurrogate_5068e 7 = .ok (.i2c, 1) := by decide +kernel
theorem dJ11_highSurrogate_5068e_8 : decode cJ11_highSurrogate_5068e 8 = .ok (.ireturn, 1) := by decide +kernel
theorem dJ11_lowSurrogate_5068e_0 : decode cJ11_lowSurrogate_5068e 0 = .ok (.iload_n 0, 1) := by decide +kernel
theorem dJ11_lowSurrogate_5068e_1 : decode cJ11_lowSurrogate_5068e 1 = .ok (.sipush 1023, 3) := by decide +kernel
theorem dJ11_lowSurrogate_5068e_4 : decode cJ11_lowSurrogate_5068e 4 = .ok (.iand, 1) := by decide +kernel
theorem dJ11_lowSurrogate_5068e_5 : decode cJ11_lowSurrogate_5068e 5 = .ok (.ldc 76, 2) := by decide +kernel
theorem dJ11_lowSurrogate_5068e_7 : decode cJ11_lowSurrogate_5068e 7 = .ok (.iadd, 1) := by decide +kernel
theorem dJ11_lowSurrogate_5068e_8 : decode cJ11_lowSurrogate_5068e 8 = .ok (.i2c, 1) := by decide +kernel
theorem dJ11_lowSurrogate_5068e_9 : decode cJ11_lowSurrogate_5068e 9 = .ok (.ireturn, 1) := by decide +kernel
theorem dJ6_numberOfTrailingZeros_0f7a4_0 : decode cJ6_numberOfTrailingZeros_0f7a4 0 = .ok (.iload_n 0, 1) := by decide +kernel
theorem dJ6_numberOfTrailingZeros_0f7a4_1 : decode cJ6_numberOfTrailingZeros_0f7a4 1 = .ok (.iconst (-1), 1) := by decide +kernel
theorem dJ6_numberOfTrailingZeros_0f7a4_2 : decode cJ6_numberOfTrailingZeros_0f7a4 2 = .ok (.ixor, 1) := by decide +kernel
theorem dJ6_numberOfTrailingZeros_0f7a4_3 : decode cJ6_numberOfTrailingZeros_0f7a4 3 = .ok (.iload_n 0, 1) := by decide +kernel
theorem dJ6_numberOfTrailingZeros_0f7a4_4 : decode cJ6_numberOfTrailingZeros_0f7a4 4 = .ok (.iconst 1, 1) := by decide +kernel
theorem dJ6_numberOfTrailingZeros_0f7a4_5 : decode cJ6_numberOfTrailingZeros_0f7a4 5 = .ok (.isub, 1) := by decide +kernel
theorem dJ6_numberOfTrailingZeros_0f7a4_6 : decode cJ6_numberOfTrailingZeros_0f7a4 6 = .ok (.iand, 1) := by decide +kernel
theorem dJ6_numberOfTrailingZeros_0f7a4_7 : decode cJ6_numberOfTrailingZeros_0f7a4 7 = .ok (.istore_n 0, 1) := by decide +kernel
theorem dJ6_numberOfTrailingZeros_0f7a4_8 : decode cJ6_numberOfTrailingZeros_0f7a4 8 = .ok (.iload_n 0, 1) := by decide +kernel
theorem dJ6_numberOfTrailingZeros_0f7a4_9 : decode cJ6_numberOfTrailingZeros_0f7a4 9 = .ok (.ifCond .gt 8, 3) := by decide +kernel
theorem dJ6_numberOfTrailingZeros_0f7a4_12 : decode cJ6_numberOfTrailingZeros_0f7a4 12 = .ok (.iload_n 0, 1) := by decide +kernel
theorem dJ6_numberOfTrailingZeros_0f7a4_13 : decode cJ6_numberOfTrailingZeros_0f7a4 13 = .ok (.bipush 32, 2) := by decide +kernel
theorem dJ6_numberOfTrailingZeros_0f7a4_15 : decode cJ6_numberOfTrailingZeros_0f7a4 15 = .ok (.iand, 1) := by decide +kernel
theorem dJ6_numberOfTrailingZeros_0f7a4_16 : decode cJ6_numberOfTrailingZeros_0f7a4 16 = .ok (.ireturn, 1) := by decide +kernel
theorem dJ6_numberOfTrailingZeros_0f7a4_17 : decode cJ6_numberOfTrailingZeros_0f7a4 17 = .ok (.iconst 1, 1) := by decide +kernel
theorem dJ6_numberOfTrailingZeros_0f7a4_18 : decode cJ6_numberOfTrailingZeros_0f7a4 18 = .ok (.istore_n 1, 1) := by decide +kernel
theorem dJ6_numberOfTrailingZeros_0f7a4_19 : decode cJ6_numberOfTrailingZeros_0f7a4 19 = .ok (.iload_n 0, 1) := by decide +kernel
theorem dJ6_numberOfTrailingZeros_0f7a4_20 : decode cJ6_numberOfTrailingZeros_0f7a4 20 = .ok (.ldc_w 264, 3) := by decide +kernel
theorem dJ6_numberOfTrailingZeros_0f7a4_23 : decode cJ6_numberOfTrailingZeros_0f7a4 23 = .ok (.if_icmp .le 11, 3) := by decide +kernel
theorem dJ6_numberOfTrailingZeros_0f7a4_26 : decode cJ6_numberOfTrailingZeros_0f7a4 26 = .ok (.iinc 1 16, 3) := by decide +kernel
theorem dJ6_numberOfTrailingZeros_0f7a4_29 : decode cJ6_numberOfTrailingZeros_0f7a4 29 = .ok (.iload_n 0, 1) := by decide +kernel
theorem dJ6_numberOfTrailingZeros_0f7a4_30 : decode cJ6_numberOfTrailingZeros_0f7a4 30 = .ok (.bipush 16, 2) := by decide +kernel
theorem dJ6_numberOfTrailingZeros_0f7a4_32 : decode cJ6_numberOfTrailingZeros_0f7a4 32 = .ok (.iushr, 1) := by decide +kernel
theorem dJ6_numberOfTrailingZeros_0f7a4_33 : decode cJ6_numberOfTrailingZeros_0f7a4 33 = .ok (.istore_n 0, 1) := by decide +kernel
theorem dJ6_numberOfTrailingZeros_0f7a4_34 : decode cJ6_numberOfTrailingZeros_0f7a4 34 = .ok (.iload_n 0, 1) := by decide +kernel
theorem dJ6_numberOfTrailingZeros_0f7a4_35 : decode cJ6_numberOfTrailingZeros_0f7a4 35 = .ok (.sipush 256, 3) := by decide +kernel
theorem dJ6_numberOfTrailingZeros_0f7a4_38 : decode cJ6_numberOfTrailingZeros_0f7a4 38 = .ok (.if_icmp .le 11, 3) := by decide +kernel
theorem dJ6_numberOfTrailingZeros_0f7a4_41 : decode cJ6_numberOfTrailingZeros_0f7a4 41 = .ok (.iinc 1 8, 3) := by decide +kernel
theorem dJ6_numberOfTrailingZeros_0f7a4_44 : decode cJ6_numberOfTrailingZeros_0f7a4 44 = .ok (.iload_n 0, 1) := by decide +kernel
theorem dJ6_numberOfTrailingZeros_0f7a4_45 : decode cJ6_numberOfTrailingZeros_0f7a4 45 = .ok (.bipush 8, 2) := by decide +kernel
theorem dJ6_numberOfTrailingZeros_0f7a4_47 : decode cJ6_numberOfTrailingZeros_0f7a4 47 = .ok (.iushr, 1) := by decide +kernel
theorem dJ6_numberOfTrailingZeros_0f7a4_48 : decode cJ6_numberOfTrailingZeros_0f7a4 48 = .ok (.istore_n 0, 1) := by decide +kernel
theorem dJ6_numberOfTrailingZeros_0f7a4_49 : decode cJ6_numberOfTrailingZeros_0f7a4 49 = .ok (.iload_n 0, 1) := by decide +kernel
theorem dJ6_numberOfTrailingZeros_0f7a4_50 : decode cJ6_numberOfTrailingZeros_0f7a4 50 = .ok (.bipush 16, 2) := by decide +kernel
theorem dJ6_numberOfTrailingZeros_0f7a4_52 : decode cJ6_numberOfTrailingZeros_0f7a4 52 = .ok (.if_icmp .le 10, 3) := by decide +kernel
theorem dJ6_numberOfTrailingZeros_0f7a4_55 : decode cJ6_numberOfTrailingZeros_0f7a4 55 = .ok (.iinc 1 4, 3) := by decide +kernel
theorem dJ6_numberOfTrailingZeros_0f7a4_58 : decode cJ6_numberOfTrailingZeros_0f7a4 58 = .ok (.iload_n 0, 1) := by decide +kernel
theorem dJ6_numberOfTrailingZeros_0f7a4_59 : decode cJ6_numberOfTrailingZeros_0f7a4 59 = .ok (.iconst 4, 1) := by decide +kernel
theorem dJ6_numberOfTrailingZeros_0f7a4_60 : decode cJ6_numberOfTrailingZeros_0f7a4 60 = .ok (.iushr, 1) := by decide +kernel
theorem dJ6_numberOfTrailingZeros_0f7a4_61 : decode cJ6_numberOfTrailingZeros_0f7a4 61 = .ok (.istore_n 0, 1) := by decide +kernel
theorem dJ6_numberOfTrailingZeros_0f7a4_62 : decode cJ6_numberOfTrailingZeros_0f7a4 62 = .ok (.iload_n 0, 1) := by decide +kernel
theorem dJ6_numberOfTrailingZeros_0f7a4_63 : decode cJ6_numberOfTrailingZeros_0f7a4 63 = .ok (.iconst 4, 1) := by decide +kernel
theorem dJ6_numberOfTrailingZeros_0f7a4_64 : decode cJ6_numberOfTrailingZeros_0f7a4 64 = .ok (.if_icmp .le 10, 3) := by decide +kernel
theorem dJ6_numberOfTrailingZeros_0f7a4_67 : decode cJ6_numberOfTrailingZeros_0f7a4 67 = .ok (.iinc 1 2, 3) := by decide +kernel
theorem dJ6_numberOfTrailingZeros_0f7a4_70 : decode cJ6_numberOfTrailingZeros_0f7a4 70 = .ok (.iload_n 0, 1) := by decide +kernel
theorem dJ6_numberOfTrailingZeros_0f7a4_71 : decode cJ6_numberOfTrailingZeros_0f7a4 71 = .ok (.iconst 2, 1) := by decide +kernel
theorem dJ6_numberOfTrailingZeros_0f7a4_72 : decode cJ6_numberOfTrailingZeros_0f7a4 72 = .ok (.iushr, 1) := by decide +kernel
theorem dJ6_numberOfTrailingZeros_0f7a4_73 : decode cJ6_numberOfTrailingZeros_0f7a4 73 = .ok (.istore_n 0, 1) := by decide +kernel
theorem dJ6_numberOfTrailingZeros_0f7a4_74 : decode cJ6_numberOfTrailingZeros_0f7a4 74 = .ok (.iload_n 1, 1) := by decide +kernel
theorem dJ6_numberOfTrailingZeros_0f7a4_75 : decode cJ6_numberOfTrailingZeros_0f7a4 75 = .ok (.iload_n 0, 1) := by decide +kernel
theorem dJ6_numberOfTrailingZeros_0f7a4_76 : decode cJ6_numberOfTrailingZeros_0f7a4 76 = .ok (.iconst 1, 1) := by decide +kernel
theorem dJ6_numberOfTrailingZeros_0f7a4_77 : decode cJ6_numberOfTrailingZeros_0f7a4 77 = .ok (.iushr, 1) := by decide +kernel
theorem dJ6_numberOfTrailingZeros_0f7a4_78 : decode cJ6_numberOfTrailingZeros_0f7a4 78 = .ok (.iadd, 1) := by decide +kernel
theorem dJ6_numberOfTrailingZeros_0f7a4_79 : decode cJ6_numberOfTrailingZeros_0f7a4 79 = .ok (.ireturn, 1) := by decide +kernel
theorem dJ6_bitCount_0f7a4_0 : decode cJ6_bitCount_0f7a4 0 = .ok (.iload_n 0, 1) := by decide +kernel
theorem dJ6_bitCount_0f7a4_1 : decode cJ6_bitCount_0f7a4 1 = .ok (.iload_n 0, 1) := by decide +kernel
theorem dJ6_bitCount_0f7a4_2 : decode cJ6_bitCount_0f7a4 2 = .ok (.iconst 1, 1) := by decide +kernel
theorem dJ6_bitCount_0f7a4_3 : decode cJ6_bitCount_0f7a4 3 = .ok (.iushr, 1) := by decide +kernel
theorem dJ6_bitCount_0f7a4_4 : decode cJ6_bitCount_0f7a4 4 = .ok (.ldc_w 265, 3) := by decide +kernel
theorem dJ6_bitCount_0f7a4_7 : decode cJ6_bitCount_0f7a4 7 = .ok (.iand, 1) := by decide +kernel
theorem dJ6_bitCount_0f7a4_8 : decode cJ6_bitCount_0f7a4 8 = .ok (.isub, 1) := by decide +kernel
theorem dJ6_bitCount_0f7a4_9 : decode cJ6_bitCount_0f7a4 9 = .ok (.istore_n 0, 1) := by decide +kernel
theorem dJ6_bitCount_0f7a4_10 : decode cJ6_bitCount_0f7a4 10 = .ok (.iload_n 0, 1) := by decide +kernel
theorem dJ6_bitCount_0f7a4_11 : decode cJ6_bitCount_0f7a4 11 = .ok (.ldc_w 266, 3) := by decide +kernel
theorem dJ6_bitCount_0f7a4_14 : decode cJ6_bitCount_0f7a4 14 = .ok (.iand, 1) := by decide +kernel
theorem dJ6_bitCount_0f7a4_15 : decode cJ6_bitCount_0f7a4 15 = .ok (.iload_n 0, 1) := by decide +kernel
theorem dJ6_bitCount_0f7a4_16 : decode cJ6_bitCount_0f7a4 16 = .ok (.iconst 2, 1) := by decide +kernel
theorem dJ6_bitCount_0f7a4_17 : decode cJ6_bitCount_0f7a4 17 = .ok (.iushr, 1) := by decide +kernel
theorem dJ6_bitCount_0f7a4_18 : decode cJ6_bitCount_0f7a4 18 = .ok (.ldc_w 266, 3) := by decide +kernel
theorem dJ6_bitCount_0f7a4_21 : decode cJ6_bitCount_0f7a4 21 = .ok (.iand, 1) := by decide +kernel
theorem dJ6_bitCount_0f7a4_22 : decode cJ6_bitCount_0f7a4 22 = .ok (.iadd, 1) := by decide +kernel
theorem dJ6_bitCount_0f7a4_23 : decode cJ6_bitCount_0f7a4 23 = .ok (.istore_n 0, 1) := by decide +kernel
theorem dJ6_bitCount_0f7a4_24 : decode cJ6_bitCount_0f7a4 24 = .ok (.iload_n 0, 1) := by decide +kernel
theorem dJ6_bitCount_0f7a4_25 : decode cJ6_bitCount_0f7a4 25 = .ok (.iload_n 0, 1) := by decide +kernel
theorem dJ6_bitCount_0f7a4_26 : decode cJ6_bitCount_0f7a4 26 = .ok (.iconst 4, 1) := by decide +kernel
theorem dJ6_bitCount_0f7a4_27 : decode cJ6_bitCount_0f7a4 27 = .ok (.iushr, 1) := by decide +kernel
theorem dJ6_bitCount_0f7a4_28 : decode cJ6_bitCount_0f7a4 28 = .ok (.iadd, 1) := by decide +kernel
theorem dJ6_bitCount_0f7a4_29 : decode cJ6_bitCount_0f7a4 29 = .ok (.ldc_w 267, 3) := by decide +kernel
theorem dJ6_bitCount_0f7a4_32 : decode cJ6_bitCount_0f7a4 32 = .ok (.iand, 1) := by decide +kernel
theorem dJ6_bitCount_0f7a4_33 : decode cJ6_bitCount_0f7a4 33 = .ok (.istore_n 0, 1) := by decide +kernel
theorem dJ6_bitCount_0f7a4_34 : decode cJ6_bitCount_0f7a4 34 = .ok (.iload_n 0, 1) := by decide +kernel
theorem dJ6_bitCount_0f7a4_35 : decode cJ6_bitCount_0f7a4 35 = .ok (.iload_n 0, 1) := by decide +kernel
theorem dJ6_bitCount_0f7a4_36 : decode cJ6_bitCount_0f7a4 36 = .ok (.bipush 8, 2) := by decide +kernel
theorem dJ6_bitCount_0f7a4_38 : decode cJ6_bitCount_0f7a4 38 = .ok (.iushr, 1) := by decide +kernel
theorem dJ6_bitCount_0f7a4_39 : decode cJ6_bitCount_0f7a4 39 = .ok (.iadd, 1) := by decide +kernel
theorem dJ6_bitCount_0f7a4_40 : decode cJ6_bitCount_0f7a4 40 = .ok (.istore_n 0, 1) := by decide +kernel
theorem dJ6_bitCount_0f7a4_41 : decode cJ6_bitCount_0f7a4 41 = .ok (.iload_n 0, 1) := by decide +kernel
theorem dJ6_bitCount_0f7a4_42 : decode cJ6_bitCount_0f7a4 42 = .ok (.iload_n 0, 1) := by decide +kernel
theorem dJ6_bitCount_0f7a4_43 : decode cJ6_bitCount_0f7a4 43 = .ok (.bipush 16, 2) := by decide +kernel
theorem dJ6_bitCount_0f7a4_45 : decode cJ6_bitCount_0f7a4 45 = .ok (.iushr, 1) := by decide +kernel
theorem dJ6_bitCount_0f7a4_46 : decode cJ6_bitCount_0f7a4 46 = .ok (.iadd, 1) := by decide +kernel
theorem dJ6_bitCount_0f7a4_47 : decode cJ6_bitCount_0f7a4 47 = .ok (.istore_n 0, 1) := by decide +kernel
theorem dJ6_bitCount_0f7a4_48 : decode cJ6_bitCount_0f7a4 48 = .ok (.iload_n 0, 1) := by decide +kernel
theorem dJ6_bitCount_0f7a4_49 : decode cJ6_bitCount_0f7a4 49 = .ok (.bipush 63, 2) := by decide +kernel
theorem dJ6_bitCount_0f7a4_51 : decode cJ6_bitCount_0f7a4 51 = .ok (.iand, 1) := by decide +kernel
theorem dJ6_bitCount_0f7a4_52 : decode cJ6_bitCount_0f7a4 52 = .ok (.ireturn, 1) := by decide +kernel
theorem dJ9_max_7cf53_0 : decode cJ9_max_7cf53 0 = .ok (.iload_n 0, 1) := by decide +kernel
theorem dJ9_max_7cf53_1 : decode cJ9_max_7cf53 1 = .ok (.iload_n 1, 1) := by decide +kernel
theorem dJ9_max_7cf53_2 : decode cJ9_max_7cf53 2 = .ok (.if_icmp .lt 7, 3) := by decide +kernel
theorem dJ9_max_7cf53_5 : decode cJ9_max_7cf53 5 = .ok (.iload_n 0, 1) := by decide +kernel
theorem dJ9_max_7cf53_6 : decode cJ9_max_7cf53 6 = .ok (.goto 4, 3) := by decide +kernel
theorem dJ9_max_7cf53_9 : decode cJ9_max_7cf53 9 = .ok (.iload_n 1, 1) := by decide +kernel
theorem dJ9_max_7cf53_10 : decode cJ9_max_7cf53 10 = .ok (.ireturn, 1) := by decide +kernel
theorem dJ9_min_7cf53_0 : decode cJ9_min_7cf53 0 = .ok (.iload_n 0, 1) := by decide +kernel
theorem dJ9_min_7cf53_1 : decode cJ9_min_7cf53 1 = .ok (.iload_n 1, 1) := by decide +kernel
theorem dJ9_min_7cf53_2 : decode cJ9_min_7cf53 2 = .ok (.if_icmp .gt 7, 3) := by decide +kernel
theorem dJ9_min_7cf53_5 : decode cJ9_min_7cf53 5 = .ok (.iload_n 0, 1) := by decide +kernel
theorem dJ9_min_7cf53_6 : decode cJ9_min_7cf53 6 = .ok (.goto 4, 3) := by decide +kernel
theorem dJ9_min_7cf53_9 : decode cJ9_min_7cf53 9 = .ok (.iload_n 1, 1) := by decide +kernel
theorem dJ9_min_7cf53_10 : decode cJ9_min_7cf53 10 = .ok (.ireturn, 1) := by decide +kernel
theorem dJ0_length_8abf5_0 : decode cJ0_length_8abf5 0 = .ok (.aload_n 0, 1) := by decide +kernel
theorem dJ0_length_8abf5_1 : decode cJ0_length_8abf5 1 = .ok (.getfield 9, 3) := by decide +kernel
theorem dJ0_length_8abf5_4 : decode cJ0_length_8abf5 4 = .ok (.arraylength, 1) := by decide +kernel
theorem dJ0_length_8abf5_5 : decode cJ0_length_8abf5 5 = .ok (.aload_n 0, 1) := by decide +kernel
theorem dJ0_length_8abf5_6 : decode cJ0_length_8abf5 6 = .ok (.invokevirtual 335, 3) := by decide +kernel
theorem dJ0_length_8abf5_9 : decode cJ0_length_8abf5 9 = .ok (.ishr, 1) := by decide +kernel
theorem dJ0_length_8abf5_10 : decode cJ0_length_8abf5 10 = .ok (.ireturn, 1) := by decide +kernel
theorem dJ0_indexOf_0f7a4_0 : decode cJ0_indexOf_0f7a4 0 = .ok (.aload_n 0, 1) := by decide +kernel
theorem dJ0_indexOf_0f7a4_1 : decode cJ0_indexOf_0f7a4 1 = .ok (.iload_n 1, 1) := by decide +kernel
theorem dJ0_indexOf_0f7a4_2 : decode cJ0_indexOf_0f7a4 2 = .ok (.iconst 0, 1) := by decide +kernel
theorem dJ0_indexOf_0f7a4_3 : decode cJ0_indexOf_0f7a4 3 = .ok (.invokevirtual 633, 3) := by decide +kernel
theorem dJ0_indexOf_0f7a4_6 : decode cJ0_indexOf_0f7a4 6 = .ok (.ireturn, 1) := by decide +kernel
theorem dJ0_indexOf_7cf53_0 : decode cJ0_indexOf_7cf53 0 = .ok (.aload_n 0, 1) := by decide +kernel
theorem dJ0_indexOf_7cf53_1 : decode cJ0_indexOf_7cf53 1 = .ok (.invokevirtual 492, 3) := by decide +kernel
theorem dJ0_indexOf_7cf53_4 : decode cJ0_indexOf_7cf53 4 = .ok (.ifCond .eq 19, 3) := by decide +kernel
theorem dJ0_indexOf_7cf53_7 : decode cJ0_indexOf_7cf53 7 = .ok (.aload_n 0, 1) := by decide +kernel
theorem dJ0_indexOf_7cf53_8 : decode cJ0_indexOf_7cf53 8 = .ok (.getfield 9, 3) := by decide +kernel
theorem dJ0_indexOf_7cf53_11 : decode cJ0_indexOf_7cf53 11 = .ok (.iload_n 1, 1) := by decide +kernel
theorem dJ0_indexOf_7cf53_12 : decode cJ0_indexOf_7cf53 12 = .ok (.iload_n 2, 1) := by decide +kernel
theorem dJ0_indexOf_7cf53_13 : decode cJ0_indexOf_7cf53 13 = .ok (.aload_n 0, 1) := by decide +kernel
theorem dJ0_indexOf_7cf53_14 : decode cJ0_indexOf_7cf53 14 = .ok (.invokevirtual 505, 3) := by decide +kernel
theorem dJ0_indexOf_7cf53_17 : decode cJ0_indexOf_7cf53 17 = .ok (.invokestatic 637, 3) := by decide +kernel
theorem dJ0_indexOf_7cf53_20 : decode cJ0_indexOf_7cf53 20 = .ok (.goto 16, 3) := by decide +kernel
theorem dJ0_indexOf_7cf53_23 : decode cJ0_indexOf_7cf53 23 = .ok (.aload_n 0, 1) := by decide +kernel
theorem dJ0_indexOf_7cf53_24 : decode cJ0_indexOf_7cf53 24 = .ok (.getfield 9, 3) := by decide +kernel
theorem dJ0_indexOf_7cf53_27 : decode cJ0_indexOf_7cf53 27 = .ok (.iload_n 1, 1) := by decide +kernel
theorem dJ0_indexOf_7cf53_28 : decode cJ0_indexOf_7cf53 28 = .ok (.iload_n 2, 1) := by decide +kernel
theorem dJ0_indexOf_7cf53_29 : decode cJ0_indexOf_7cf53 29 = .ok (.aload_n 0, 1) := by decide +kernel
theorem dJ0_indexOf_7cf53_30 : decode cJ0_indexOf_7cf53 30 = .ok (.invokevirtual 505, 3) := by decide +kernel
theorem dJ0_indexOf_7cf53_33 : decode cJ0_indexOf_7cf53 33 = .ok (.invokestatic 640, 3) := by decide +kernel
theorem dJ0_indexOf_7cf53_36 : decode cJ0_indexOf_7cf53 36 = .ok (.ireturn, 1) := by decide +kernel
theorem dJ0_coder_7d493_0 : decode cJ0_coder_7d493 0 = .ok (.getstatic 38, 3) := by decide +kernel
theorem dJ0_coder_7d493_3 : decode cJ0_coder_7d493 3 = .ok (.ifCond .eq 10, 3) := by decide +kernel
theorem dJ0_coder_7d493_6 : decode cJ0_coder_7d493 6 = .ok (.aload_n 0, 1) := by decide +kernel
theorem dJ0_coder_7d493_7 : decode cJ0_coder_7d493 7 = .ok (.getfield 15, 3) := by decide +kernel
theorem dJ0_coder_7d493_10 : decode cJ0_coder_7d493 10 = .ok (.goto 4, 3) := by decide +kernel
theorem dJ0_coder_7d493_13 : decode cJ0_coder_7d493 13 = .ok (.iconst 1, 1) := by decide +kernel
theorem dJ0_coder_7d493_14 : decode cJ0_coder_7d493 14 = .ok (.ireturn, 1) := by decide +kernel
theorem dJ0_isLatin1_aae02_0 : decode cJ0_isLatin1_aae02 0 = .ok (.getstatic 38, 3) := by decide +kernel
theorem dJ0_isLatin1_aae02_3 : decode cJ0_isLatin1_aae02 3 = .ok (.ifCond .eq 14, 3) := by decide +kernel
theorem dJ0_isLatin1_aae02_6 : decode cJ0_isLatin1_aae02 6 = .ok (.aload_n 0, 1) := by decide +kernel
theorem dJ0_isLatin1_aae02_7 : decode cJ0_isLatin1_aae02 7 = .ok (.getfield 15, 3) := by decide +kernel
theorem dJ0_isLatin1_aae02_10 : decode cJ0_isLatin1_aae02 10 = .ok (.ifCond .ne 7, 3) := by decide +kernel
theorem dJ0_isLatin1_aae02_13 : decode cJ0_isLatin1_aae02 13 = .ok (.iconst 1, 1) := by decide +kernel
theorem dJ0_isLatin1_aae02_14 : decode cJ0_isLatin1_aae02 14 = .ok (.goto 4, 3) := by decide +kernel
theorem dJ0_isLatin1_aae02_17 : decode cJ0_isLatin1_aae02 17 = .ok (.iconst 0, 1) := by decide +kernel
theorem dJ0_isLatin1_aae02_18 : decode cJ0_isLatin1_aae02 18 = .ok (.ireturn, 1) := by decide +kernel
theorem dJ0_checkBoundsBeginEnd_23922_0 : decode cJ0_checkBoundsBeginEnd_23922 0 = .ok (.iload_n 0, 1) := by decide +kernel
theorem dJ0_checkBoundsBeginEnd_23922_1 : decode cJ0_checkBoundsBeginEnd_23922 1 = .ok (.iload_n 1, 1) := by decide +kernel
theorem dJ0_checkBoundsBeginEnd_23922_2 : decode cJ0_checkBoundsBeginEnd_23922 2 = .ok (.iload_n 2, 1) := by decide +kernel
theorem dJ0_checkBoundsBeginEnd_23922_3 : decode cJ0_checkBoundsBeginEnd_23922 3 = .ok (.getstatic 1053, 3) := by decide +kernel
theorem dJ0_checkBoundsBeginEnd_23922_6 : decode cJ0_checkBoundsBeginEnd_23922 6 = .ok (.invokestatic 1062, 3) := by decide +kernel
theorem dJ0_checkBoundsBeginEnd_23922_9 : decode cJ0_checkBoundsBeginEnd_23922 9 = .ok (.pop, 1) := by decide +kernel
theorem dJ0_checkBoundsBeginEnd_23922_10 : decode cJ0_checkBoundsBeginEnd_23922 10 = .ok (.return_, 1) := by decide +kernel
theorem dJ1_canEncode_9a6ad_0 : decode cJ1_canEncode_9a6ad 0 = .ok (.iload_n 0, 1) := by decide +kernel
theorem dJ1_canEncode_9a6ad_1 : decode cJ1_canEncode_9a6ad 1 = .ok (.ifCond .lt 14, 3) := by decide +kernel
theorem dJ1_canEncode_9a6ad_4 : decode cJ1_canEncode_9a6ad 4 = .ok (.iload_n 0, 1) := by decide +kernel
theorem dJ1_canEncode_9a6ad_5 : decode cJ1_canEncode_9a6ad 5 = .ok (.sipush 255, 3) := by decide +kernel
theorem dJ1_canEncode_9a6ad_8 : decode cJ1_canEncode_9a6ad 8 = .ok (.if_icmp .gt 7, 3) := by decide +kernel
theorem dJ1_canEncode_9a6ad_11 : decode cJ1_canEncode_9a6ad 11 = .ok (.iconst 1, 1) := by decide +kernel
theorem dJ1_canEncode_9a6ad_12 : decode cJ1_canEncode_9a6ad 12 = .ok (.goto 4, 3) := by decide +kernel
theorem dJ1_canEncode_9a6ad_15 : decode cJ1_canEncode_9a6ad 15 = .ok (.iconst 0, 1) := by decide +kernel
theorem dJ1_canEncode_9a6ad_16 : decode cJ1_canEncode_9a6ad 16 = .ok (.ireturn, 1) := by decide +kernel
theorem dJ1_indexOf_4cfef_0 : decode cJ1_indexOf_4cfef 0 = .ok (.iload_n 1, 1) := by decide +kernel
theorem dJ1_indexOf_4cfef_1 : decode cJ1_indexOf_4cfef 1 = .ok (.invokestatic 88, 3) := by decide +kernel
theorem dJ1_indexOf_4cfef_4 : decode cJ1_indexOf_4cfef 4 = .ok (.ifCond .ne 5, 3) := by decide +kernel
theorem dJ1_indexOf_4cfef_7 : decode cJ1_indexOf_4cfef 7 = .ok (.iconst (-1), 1) := by decide +kernel
theorem dJ1_indexOf_4cfef_8 : decode cJ1_indexOf_4cfef 8 = .ok (.ireturn, 1) := by decide +kernel
theorem dJ1_indexOf_4cfef_9 : decode cJ1_indexOf_4cfef 9 = .ok (.iload_n 2, 1) := by decide +kernel
theorem dJ1_indexOf_4cfef_10 : decode cJ1_indexOf_4cfef 10 = .ok (.iconst 0, 1) := by decide +kernel
theorem dJ1_indexOf_4cfef_11 : decode cJ1_indexOf_4cfef 11 = .ok (.invokestatic 92, 3) := by decide +kernel
theorem dJ1_indexOf_4cfef_14 : decode cJ1_indexOf_4cfef 14 = .ok (.istore_n 2, 1) := by decide +kernel
theorem dJ1_indexOf_4cfef_15 : decode cJ1_indexOf_4cfef 15 = .ok (.iload_n 3, 1) := by decide +kernel
theorem dJ1_indexOf_4cfef_16 : decode cJ1_indexOf_4cfef 16 = .ok (.aload_n 0, 1) := by decide +kernel
theorem dJ1_indexOf_4cfef_17 : decode cJ1_indexOf_4cfef 17 = .ok (.arraylength, 1) := by decide +kernel
theorem dJ1_indexOf_4cfef_18 : decode cJ1_indexOf_4cfef 18 = .ok (.invokestatic 38, 3) := by decide +kernel
theorem dJ1_indexOf_4cfef_21 : decode cJ1_indexOf_4cfef 21 = .ok (.istore_n 3, 1) := by decide +kernel
theorem dJ1_indexOf_4cfef_22 : decode cJ1_indexOf_4cfef 22 = .ok (.iload_n 2, 1) := by decide +kernel
theorem dJ1_indexOf_4cfef_23 : decode cJ1_indexOf_4cfef 23 = .ok (.iload_n 3, 1) := by decide +kernel
theorem dJ1_indexOf_4cfef_24 : decode cJ1_indexOf_4cfef 24 = .ok (.if_icmp .lt 5, 3) := by decide +kernel
theorem dJ1_indexOf_4cfef_27 : decode cJ1_indexOf_4cfef 27 = .ok (.iconst (-1), 1) := by decide +kernel
theorem dJ1_indexOf_4cfef_28 : decode cJ1_indexOf_4cfef 28 = .ok (.ireturn, 1) := by decide +kernel
theorem dJ1_indexOf_4cfef_29 : decode cJ1_indexOf_4cfef 29 = .ok (.aload_n 0, 1) := by decide +kernel
theorem dJ1_indexOf_4cfef_30 : decode cJ1_indexOf_4cfef 30 = .ok (.iload_n 1, 1) := by decide +kernel
theorem dJ1_indexOf_4cfef_31 : decode cJ1_indexOf_4cfef 31 = .ok (.iload_n 2, 1) := by decide +kernel
theorem dJ1_indexOf_4cfef_32 : decode cJ1_indexOf_4cfef 32 = .ok (.iload_n 3, 1) := by decide +kernel
theorem dJ1_indexOf_4cfef_33 : decode cJ1_indexOf_4cfef 33 = .ok (.invokestatic 95, 3) := by decide +kernel
theorem dJ1_indexOf_4cfef_36 : decode cJ1_indexOf_4cfef 36 = .ok (.ireturn, 1) := by decide +kernel
theorem dJ1_indexOfChar_4cfef_0 : decode cJ1_indexOfChar_4cfef 0 = .ok (.iload_n 1, 1) := by decide +kernel
theorem dJ1_indexOfChar_4cfef_1 : decode cJ1_indexOfChar_4cfef 1 = .ok (.i2b, 1) := by decide +kernel
theorem dJ1_indexOfChar_4cfef_2 : decode cJ1_indexOfChar_4cfef 2 = .ok (.istore 4, 2) := by decide +kernel
theorem dJ1_indexOfChar_4cfef_4 : decode cJ1_indexOfChar_4cfef 4 = .ok (.iload_n 2, 1) := by decide +kernel
theorem dJ1_indexOfChar_4cfef_5 : decode cJ1_indexOfChar_4cfef 5 = .ok (.istore 5, 2) := by decide +kernel
theorem dJ1_indexOfChar_4cfef_7 : decode cJ1_indexOfChar_4cfef 7 = .ok (.iload 5, 2) := by decide +kernel
theorem dJ1_indexOfChar_4cfef_9 : decode cJ1_indexOfChar_4cfef 9 = .ok (.iload_n 3, 1) := by decide +kernel
theorem dJ1_indexOfChar_4cfef_10 : decode cJ1_indexOfChar_4cfef 10 = .ok (.if_icmp .ge 21, 3) := by decide +kernel
theorem dJ1_indexOfChar_4cfef_13 : decode cJ1_indexOfChar_4cfef 13 = .ok (.aload_n 0, 1) := by decide +kernel
theorem dJ1_indexOfChar_4cfef_14 : decode cJ1_indexOfChar_4cfef 14 = .ok (.iload 5, 2) := by decide +kernel
theorem dJ1_indexOfChar_4cfef_16 : decode cJ1_indexOfChar_4cfef 16 = .ok (.baload, 1) := by decide +kernel
theorem dJ1_indexOfChar_4cfef_17 : decode cJ1_indexOfChar_4cfef 17 = .ok (.iload 4, 2) := by decide +kernel
theorem dJ1_indexOfChar_4cfef_19 : decode cJ1_indexOfChar_4cfef 19 = .ok (.if_icmp .ne 6, 3) := by decide +kernel
theorem dJ1_indexOfChar_4cfef_22 : decode cJ1_indexOfChar_4cfef 22 = .ok (.iload 5, 2) := by decide +kernel
theorem dJ1_indexOfChar_4cfef_24 : decode cJ1_indexOfChar_4cfef 24 = .ok (.ireturn, 1) := by decide +kernel
theorem dJ1_indexOfChar_4cfef_25 : decode cJ1_indexOfChar_4cfef 25 = .ok (.iinc 5 1, 3) := by decide +kernel
theorem dJ1_indexOfChar_4cfef_28 : decode cJ1_indexOfChar_4cfef 28 = .ok (.goto (-21), 3) := by decide +kernel
theorem dJ1_indexOfChar_4cfef_31 : decode cJ1_indexOfChar_4cfef 31 = .ok (.iconst (-1), 1) := by decide +kernel
theorem dJ1_indexOfChar_4cfef_32 : decode cJ1_indexOfChar_4cfef 32 = .ok (.ireturn, 1) := by decide +kernel
theorem dJ2_getChar_3b067_0 : decode cJ2_getChar_3b067 0 = .ok (.getstatic 44, 3) := by decide +kernel
theorem dJ2_getChar_3b067_3 : decode cJ2_getChar_3b067 3 = .ok (.ifCond .ne 25, 3) := by decide +kernel
theorem dJ2_getChar_3b067_6 : decode cJ2_getChar_3b067 6 = .ok (.iload_n 1, 1) := by decide +kernel
theorem dJ2_getChar_3b067_7 : decode cJ2_getChar_3b067 7 = .ok (.ifCond .lt 11, 3) := by decide +kernel
theorem dJ2_getChar_3b067_10 : decode cJ2_getChar_3b067 10 = .ok (.iload_n 1, 1) := by decide +kernel
theorem dJ2_getChar_3b067_11 : decode cJ2_getChar_3b067 11 = .ok (.aload_n 0, 1) := by decide +kernel
theorem dJ2_getChar_3b067_12 : decode cJ2_getChar_3b067 12 = .ok (.invokestatic 48, 3) := by decide +kernel
theorem dJ2_getChar_3b067_15 : decode cJ2_getChar_3b067 15 = .ok (.if_icmp .lt 13, 3) := by decide +kernel
theorem dJ2_getChar_3b067_18 : decode cJ2_getChar_3b067 18 = .ok (.new 52, 3) := by decide +kernel
theorem dJ2_getChar_3b067_21 : decode cJ2_getChar_3b067 21 = .ok (.dup, 1) := by decide +kernel
theorem dJ2_getChar_3b067_22 : decode cJ2_getChar_3b067 22 = .ok (.ldc 54, 2) := by decide +kernel
theorem dJ2_getChar_3b067_24 : decode cJ2_getChar_3b067 24 = .ok (.invokespecial 56, 3) := by decide +kernel
theorem dJ2_getChar_3b067_27 : decode cJ2_getChar_3b067 27 = .ok (.athrow, 1) := by decide +kernel
theorem dJ2_getChar_3b067_28 : decode cJ2_getChar_3b067 28 = .ok (.iload_n 1, 1) := by decide +kernel
theorem dJ2_getChar_3b067_29 : decode cJ2_getChar_3b067 29 = .ok (.iconst 1, 1) := by decide +kernel
theorem dJ2_getChar_3b067_30 : decode cJ2_getChar_3b067 30 = .ok (.ishl, 1) := by decide +kernel
theorem dJ2_getChar_3b067_31 : decode cJ2_getChar_3b067 31 = .ok (.istore_n 1, 1) := by decide +kernel
theorem dJ2_getChar_3b067_32 : decode cJ2_getChar_3b067 32 = .ok (.aload_n 0, 1) := by decide +kernel
theorem dJ2_getChar_3b067_33 : decode cJ2_getChar_3b067 33 = .ok (.iload_n 1, 1) := by decide +kernel
theorem dJ2_getChar_3b067_34 : decode cJ2_getChar_3b067 34 = .ok (.iinc 1 1, 3) := by decide +kernel
theorem dJ2_getChar_3b067_37 : decode cJ2_getChar_3b067 37 = .ok (.baload, 1) := by decide +kernel
theorem dJ2_getChar_3b067_38 : decode cJ2_getChar_3b067 38 = .ok (.sipush 255, 3) := by decide +kernel
theorem dJ2_getChar_3b067_41 : decode cJ2_getChar_3b067 41 = .ok (.iand, 1) := by decide +kernel
theorem dJ2_getChar_3b067_42 : decode cJ2_getChar_3b067 42 = .ok (.getstatic 59, 3) := by decide +kernel
theorem dJ2_getChar_3b067_45 : decode cJ2_getChar_3b067 45 = .ok (.ishl, 1) := by decide +kernel
theorem dJ2_getChar_3b067_46 : decode cJ2_getChar_3b067 46 = .ok (.aload_n 0, 1) := by decide +kernel
theorem dJ2_getChar_3b067_47 : decode cJ2_getChar_3b067 47 = .ok (.iload_n 1, 1) := by decide +kernel
theorem dJ2_getChar_3b067_48 : decode cJ2_getChar_3b067 48 = .ok (.baload, 1) := by decide +kernel
theorem dJ2_getChar_3b067_49 : decode cJ2_getChar_3b067 49 = .ok (.sipush 255, 3) := by decide +kernel
theorem dJ2_getChar_3b067_52 : decode cJ2_getChar_3b067 52 = .ok (.iand, 1) := by decide +kernel
theorem dJ2_getChar_3b067_53 : decode cJ2_getChar_3b067 53 = .ok (.getstatic 63, 3) := by decide +kernel
theorem dJ2_getChar_3b067_56 : decode cJ2_getChar_3b067 56 = .ok (.ishl, 1) := by decide +kernel
theorem dJ2_getChar_3b067_57 : decode cJ2_getChar_3b067 57 = .ok (.ior, 1) := by decide +kernel
theorem dJ2_getChar_3b067_58 : decode cJ2_getChar_3b067 58 = .ok (.i2c, 1) := by decide +kernel
theorem dJ2_getChar_3b067_59 : decode cJ2_getChar_3b067 59 = .ok (.ireturn, 1) := by decide +kernel
theorem dJ2_length_9d52b_0 : decode cJ2_length_9d52b 0 = .ok (.aload_n 0, 1) := by decide +kernel
theorem dJ2_length_9d52b_1 : decode cJ2_length_9d52b 1 = .ok (.arraylength, 1) := by decide +kernel
theorem dJ2_length_9d52b_2 : decode cJ2_length_9d52b 2 = .ok (.iconst 1, 1) := by decide +kernel
theorem dJ2_length_9d52b_3 : decode cJ2_length_9d52b 3 = .ok (.ishr, 1) := by decide +kernel
theorem dJ2_length_9d52b_4 : decode cJ2_length_9d52b 4 = .ok (.ireturn, 1) := by decide +kernel
theorem dJ2_indexOf_4cfef_0 : decode cJ2_indexOf_4cfef 0 = .ok (.iload_n 2, 1) := by decide +kernel
theorem dJ2_indexOf_4cfef_1 : decode cJ2_indexOf_4cfef 1 = .ok (.iconst 0, 1) := by decide +kernel
theorem dJ2_indexOf_4cfef_2 : decode cJ2_indexOf_4cfef 2 = .ok (.invokestatic 224, 3) := by decide +kernel
theorem dJ2_indexOf_4cfef_5 : decode cJ2_indexOf_4cfef 5 = .ok (.istore_n 2, 1) := by decide +kernel
theorem dJ2_indexOf_4cfef_6 : decode cJ2_indexOf_4cfef 6 = .ok (.iload_n 3, 1) := by decide +kernel
theorem dJ2_indexOf_4cfef_7 : decode cJ2_indexOf_4cfef 7 = .ok (.aload_n 0, 1) := by decide +kernel
theorem dJ2_indexOf_4cfef_8 : decode cJ2_indexOf_4cfef 8 = .ok (.arraylength, 1) := by decide +kernel
theorem dJ2_indexOf_4cfef_9 : decode cJ2_indexOf_4cfef 9 = .ok (.iconst 1, 1) := by decide +kernel
theorem dJ2_indexOf_4cfef_10 : decode cJ2_indexOf_4cfef 10 = .ok (.ishr, 1) := by decide +kernel
theorem dJ2_indexOf_4cfef_11 : decode cJ2_indexOf_4cfef 11 = .ok (.invokestatic 183, 3) := by decide +kernel
theorem dJ2_indexOf_4cfef_14 : decode cJ2_indexOf_4cfef 14 = .ok (.istore_n 3, 1) := by decide +kernel
theorem dJ2_indexOf_4cfef_15 : decode cJ2_indexOf_4cfef 15 = .ok (.iload_n 2, 1) := by decide +kernel
theorem dJ2_indexOf_4cfef_16 : decode cJ2_indexOf_4cfef 16 = .ok (.iload_n 3, 1) := by decide +kernel
theorem dJ2_indexOf_4cfef_17 : decode cJ2_indexOf_4cfef 17 = .ok (.if_icmp .lt 5, 3) := by decide +kernel
theorem dJ2_indexOf_4cfef_20 : decode cJ2_indexOf_4cfef 20 = .ok (.iconst (-1), 1) := by decide +kernel
theorem dJ2_indexOf_4cfef_21 : decode cJ2_indexOf_4cfef 21 = .ok (.ireturn, 1) := by decide +kernel
theorem dJ2_indexOf_4cfef_22 : decode cJ2_indexOf_4cfef 22 = .ok (.iload_n 1, 1) := by decide +kernel
theorem dJ2_indexOf_4cfef_23 : decode cJ2_indexOf_4cfef 23 = .ok (.ldc 227, 2) := by decide +kernel
theorem dJ2_indexOf_4cfef_25 : decode cJ2_indexOf_4cfef 25 = .ok (.if_icmp .ge 11, 3) := by decide +kernel
theorem dJ2_indexOf_4cfef_28 : decode cJ2_indexOf_4cfef 28 = .ok (.aload_n 0, 1) := by decide +kernel
theorem dJ2_indexOf_4cfef_29 : decode cJ2_indexOf_4cfef 29 = .ok (.iload_n 1, 1) := by decide +kernel
theorem dJ2_indexOf_4cfef_30 : decode cJ2_indexOf_4cfef 30 = .ok (.iload_n 2, 1) := by decide +kernel
theorem dJ2_indexOf_4cfef_31 : decode cJ2_indexOf_4cfef 31 = .ok (.iload_n 3, 1) := by decide +kernel
theorem dJ2_indexOf_4cfef_32 : decode cJ2_indexOf_4cfef 32 = .ok (.invokestatic 228, 3) := by decide +kernel
theorem dJ2_indexOf_4cfef_35 : decode cJ2_indexOf_4cfef 35 = .ok (.ireturn, 1) := by decide +kernel
theorem dJ2_indexOf_4cfef_36 : decode cJ2_indexOf_4cfef 36 = .ok (.aload_n 0, 1) := by decide +kernel
theorem dJ2_indexOf_4cfef_37 : decode cJ2_indexOf_4cfef 37 = .ok (.iload_n 1, 1) := by decide +kernel
theorem dJ2_indexOf_4cfef_38 : decode cJ2_indexOf_4cfef 38 = .ok (.iload_n 2, 1) := by decide +kernel
theorem dJ2_indexOf_4cfef_39 : decode cJ2_indexOf_4cfef 39 = .ok (.iload_n 3, 1) := by decide +kernel
theorem dJ2_indexOf_4cfef_40 : decode cJ2_indexOf_4cfef 40 = .ok (.invokestatic 232, 3) := by decide +kernel
theorem dJ2_indexOf_4cfef_43 : decode cJ2_indexOf_4cfef 43 = .ok (.ireturn, 1) := by decide +kernel
theorem dJ2_indexOfChar_4cfef_0 : decode cJ2_indexOfChar_4cfef 0 = .ok (.iload_n 2, 1) := by decide +kernel
theorem dJ2_indexOfChar_4cfef_1 : decode cJ2_indexOfChar_4cfef 1 = .ok (.iload_n 3, 1) := by decide +kernel
theorem dJ2_indexOfChar_4cfef_2 : decode cJ2_indexOfChar_4cfef 2 = .ok (.aload_n 0, 1) := by decide +kernel
theorem dJ2_indexOfChar_4cfef_3 : decode cJ2_indexOfChar_4cfef 3 = .ok (.invokestatic 96, 3) := by decide +kernel
theorem dJ2_indexOfChar_4cfef_6 : decode cJ2_indexOfChar_4cfef 6 = .ok (.aload_n 0, 1) := by decide +kernel
theorem dJ2_indexOfChar_4cfef_7 : decode cJ2_indexOfChar_4cfef 7 = .ok (.iload_n 1, 1) := by decide +kernel
theorem dJ2_indexOfChar_4cfef_8 : decode cJ2_indexOfChar_4cfef 8 = .ok (.iload_n 2, 1) := by decide +kernel
theorem dJ2_indexOfChar_4cfef_9 : decode cJ2_indexOfChar_4cfef 9 = .ok (.iload_n 3, 1) := by decide +kernel
theorem dJ2_indexOfChar_4cfef_10 : decode cJ2_indexOfChar_4cfef 10 = .ok (.invokestatic 244, 3) := by decide +kernel
theorem dJ2_indexOfChar_4cfef_13 : decode cJ2_indexOfChar_4cfef 13 = .ok (.ireturn, 1) := by decide +kernel
theorem dJ2_indexOfCharUnsafe_4cfef_0 : decode cJ2_indexOfCharUnsafe_4cfef 0 = .ok (.iload_n 2, 1) := by decide +kernel
theorem dJ2_indexOfCharUnsafe_4cfef_1 : decode cJ2_indexOfCharUnsafe_4cfef 1 = .ok (.istore 4, 2) := by decide +kernel
theorem dJ2_indexOfCharUnsafe_4cfef_3 : decode cJ2_indexOfCharUnsafe_4cfef 3 = .ok (.iload 4, 2) := by decide +kernel
theorem dJ2_indexOfCharUnsafe_4cfef_5 : decode cJ2_indexOfCharUnsafe_4cfef 5 = .ok (.iload_n 3, 1) := by decide +kernel
theorem dJ2_indexOfCharUnsafe_4cfef_6 : decode cJ2_indexOfCharUnsafe_4cfef 6 = .ok (.if_icmp .ge 22, 3) := by decide +kernel
theorem dJ2_indexOfCharUnsafe_4cfef_9 : decode cJ2_indexOfCharUnsafe_4cfef 9 = .ok (.aload_n 0, 1) := by decide +kernel
theorem dJ2_indexOfCharUnsafe_4cfef_10 : decode cJ2_indexOfCharUnsafe_4cfef 10 = .ok (.iload 4, 2) := by decide +kernel
theorem dJ2_indexOfCharUnsafe_4cfef_12 : decode cJ2_indexOfCharUnsafe_4cfef 12 = .ok (.invokestatic 71, 3) := by decide +kernel
theorem dJ2_indexOfCharUnsafe_4cfef_15 : decode cJ2_indexOfCharUnsafe_4cfef 15 = .ok (.iload_n 1, 1) := by decide +kernel
theorem dJ2_indexOfCharUnsafe_4cfef_16 : decode cJ2_indexOfCharUnsafe_4cfef 16 = .ok (.if_icmp .ne 6, 3) := by decide +kernel
theorem dJ2_indexOfCharUnsafe_4cfef_19 : decode cJ2_indexOfCharUnsafe_4cfef 19 = .ok (.iload 4, 2) := by decide +kernel
theorem dJ2_indexOfCharUnsafe_4cfef_21 : decode cJ2_indexOfCharUnsafe_4cfef 21 = .ok (.ireturn, 1) := by decide +kernel
theorem dJ2_indexOfCharUnsafe_4cfef_22 : decode cJ2_indexOfCharUnsafe_4cfef 22 = .ok (.iinc 4 1, 3) := by decide +kernel
theorem dJ2_indexOfCharUnsafe_4cfef_25 : decode cJ2_indexOfCharUnsafe_4cfef 25 = .ok (.goto (-22), 3) := by decide +kernel
theorem dJ2_indexOfCharUnsafe_4cfef_28 : decode cJ2_indexOfCharUnsafe_4cfef 28 = .ok (.iconst (-1), 1) := by decide +kernel
theorem dJ2_indexOfCharUnsafe_4cfef_29 : decode cJ2_indexOfCharUnsafe_4cfef 29 = .ok (.ireturn, 1) := by decide +kernel
theorem dJ2_indexOfSupplementary_4cfef_0 : decode cJ2_indexOfSupplementary_4cfef 0 = .ok (.iload_n 1, 1) := by decide +kernel
theorem dJ2_indexOfSupplementary_4cfef_1 : decode cJ2_indexOfSupplementary_4cfef 1 = .ok (.invokestatic 164, 3) := by decide +kernel
theorem dJ2_indexOfSupplementary_4cfef_4 : decode cJ2_indexOfSupplementary_4cfef 4 = .ok (.ifCond .eq 65, 3) := by decide +kernel
theorem dJ2_indexOfSupplementary_4cfef_7 : decode cJ2_indexOfSupplementary_4cfef 7 = .ok (.iload_n 1, 1) := by decide +kernel
theorem dJ2_indexOfSupplementary_4cfef_8 : decode cJ2_indexOfSupplementary_4cfef 8 = .ok (.invokestatic 157, 3) := by decide +kernel
theorem dJ2_indexOfSupplementary_4cfef_11 : decode cJ2_indexOfSupplementary_4cfef 11 = .ok (.istore 4, 2) := by decide +kernel
theorem dJ2_indexOfSupplementary_4cfef_13 : decode cJ2_indexOfSupplementary_4cfef 13 = .ok (.iload_n 1, 1) := by decide +kernel
theorem dJ2_indexOfSupplementary_4cfef_14 : decode cJ2_indexOfSupplementary_4cfef 14 = .ok (.invokestatic 161, 3) := by decide +kernel
theorem dJ2_indexOfSupplementary_4cfef_17 : decode cJ2_indexOfSupplementary_4cfef 17 = .ok (.istore 5, 2) := by decide +kernel
theorem dJ2_indexOfSupplementary_4cfef_19 : decode cJ2_indexOfSupplementary_4cfef 19 = .ok (.iload_n 2, 1) := by decide +kernel
theorem dJ2_indexOfSupplementary_4cfef_20 : decode cJ2_indexOfSupplementary_4cfef 20 = .ok (.iload_n 3, 1) := by decide +kernel
theorem dJ2_indexOfSupplementary_4cfef_21 : decode cJ2_indexOfSupplementary_4cfef 21 = .ok (.aload_n 0, 1) := by decide +kernel
theorem dJ2_indexOfSupplementary_4cfef_22 : decode cJ2_indexOfSupplementary_4cfef 22 = .ok (.invokestatic 96, 3) := by decide +kernel
theorem dJ2_indexOfSupplementary_4cfef_25 : decode cJ2_indexOfSupplementary_4cfef 25 = .ok (.iload_n 2, 1) := by decide +kernel
theorem dJ2_indexOfSupplementary_4cfef_26 : decode cJ2_indexOfSupplementary_4cfef 26 = .ok (.istore 6, 2) := by decide +kernel
theorem dJ2_indexOfSupplementary_4cfef_28 : decode cJ2_indexOfSupplementary_4cfef 28 = .ok (.iload 6, 2) := by decide +kernel
theorem dJ2_indexOfSupplementary_4cfef_30 : decode cJ2_indexOfSupplementary_4cfef 30 = .ok (.iload_n 3, 1) := by decide +kernel
theorem dJ2_indexOfSupplementary_4cfef_31 : decode cJ2_indexOfSupplementary_4cfef 31 = .ok (.iconst 1, 1) := by decide +kernel
theorem dJ2_indexOfSupplementary_4cfef_32 : decode cJ2_indexOfSupplementary_4cfef 32 = .ok (.isub, 1) := by decide +kernel
theorem dJ2_indexOfSupplementary_4cfef_33 : decode cJ2_indexOfSupplementary_4cfef 33 = .ok (.if_icmp .ge 36, 3) := by decide +kernel
theorem dJ2_indexOfSupplementary_4cfef_36 : decode cJ2_indexOfSupplementary_4cfef 36 = .ok (.aload_n 0, 1) := by decide +kernel
theorem dJ2_indexOfSupplementary_4cfef_37 : decode cJ2_indexOfSupplementary_4cfef 37 = .ok (.iload 6, 2) := by decide +kernel
theorem dJ2_indexOfSupplementary_4cfef_39 : decode cJ2_indexOfSupplementary_4cfef 39 = .ok (.invokestatic 71, 3) := by decide +kernel
theorem dJ2_indexOfSupplementary_4cfef_42 : decode cJ2_indexOfSupplementary_4cfef 42 = .ok (.iload 4, 2) := by decide +kernel
theorem dJ2_indexOfSupplementary_4cfef_44 : decode cJ2_indexOfSupplementary_4cfef 44 = .ok (.if_icmp .ne 19, 3) := by decide +kernel
theorem dJ2_indexOfSupplementary_4cfef_47 : decode cJ2_indexOfSupplementary_4cfef 47 = .ok (.aload_n 0, 1) := by decide +kernel
theorem dJ2_indexOfSupplementary_4cfef_48 : decode cJ2_indexOfSupplementary_4cfef 48 = .ok (.iload 6, 2) := by decide +kernel
theorem dJ2_indexOfSupplementary_4cfef_50 : decode cJ2_indexOfSupplementary_4cfef 50 = .ok (.iconst 1, 1) := by decide +kernel
theorem dJ2_indexOfSupplementary_4cfef_51 : decode cJ2_indexOfSupplementary_4cfef 51 = .ok (.iadd, 1) := by decide +kernel
theorem dJ2_indexOfSupplementary_4cfef_52 : decode cJ2_indexOfSupplementary_4cfef 52 = .ok (.invokestatic 71, 3) := by decide +kernel
theorem dJ2_indexOfSupplementary_4cfef_55 : decode cJ2_indexOfSupplementary_4cfef 55 = .ok (.iload 5, 2) := by decide +kernel
theorem dJ2_indexOfSupplementary_4cfef_57 : decode cJ2_indexOfSupplementary_4cfef 57 = .ok (.if_icmp .ne 6, 3) := by decide +kernel
theorem dJ2_indexOfSupplementary_4cfef_60 : decode cJ2_indexOfSupplementary_4cfef 60 = .ok (.iload 6, 2) := by decide +kernel
theorem dJ2_indexOfSupplementary_4cfef_62 : decode cJ2_indexOfSupplementary_4cfef 62 = .ok (.ireturn, 1) := by decide +kernel
theorem dJ2_indexOfSupplementary_4cfef_63 : decode cJ2_indexOfSupplementary_4cfef 63 = .ok (.iinc 6 1, 3) := by decide +kernel
theorem dJ2_indexOfSupplementary_4cfef_66 : decode cJ2_indexOfSupplementary_4cfef 66 = .ok (.goto (-38), 3) := by decide +kernel
theorem dJ2_indexOfSupplementary_4cfef_69 : decode cJ2_indexOfSupplementary_4cfef 69 = .ok (.iconst (-1), 1) := by decide +kernel
theorem dJ2_indexOfSupplementary_4cfef_70 : decode cJ2_indexOfSupplementary_4cfef 70 = .ok (.ireturn, 1) := by decide +kernel
theorem dJ2_checkBoundsBeginEnd_d044e_0 : decode cJ2_checkBoundsBeginEnd_d044e 0 = .ok (.iload_n 0, 1) := by decide +kernel
theorem dJ2_checkBoundsBeginEnd_d044e_1 : decode cJ2_checkBoundsBeginEnd_d044e 1 = .ok (.iload_n 1, 1) := by decide +kernel
theorem dJ2_checkBoundsBeginEnd_d044e_2 : decode cJ2_checkBoundsBeginEnd_d044e 2 = .ok (.aload_n 2, 1) := by decide +kernel
theorem dJ2_checkBoundsBeginEnd_d044e_3 : decode cJ2_checkBoundsBeginEnd_d044e 3 = .ok (.invokestatic 48, 3) := by decide +kernel
theorem dJ2_checkBoundsBeginEnd_d044e_6 : decode cJ2_checkBoundsBeginEnd_d044e 6 = .ok (.invokestatic 241, 3) := by decide +kernel
theorem dJ2_checkBoundsBeginEnd_d044e_9 : decode cJ2_checkBoundsBeginEnd_d044e 9 = .ok (.return_, 1) := by decide +kernel
theorem dJ3_checkFromToIndex_8c36e_0 : decode cJ3_checkFromToIndex_8c36e 0 = .ok (.iload_n 0, 1) := by decide +kernel
theorem dJ3_checkFromToIndex_8c36e_1 : decode cJ3_checkFromToIndex_8c36e 1 = .ok (.ifCond .lt 13, 3) := by decide +kernel
theorem dJ3_checkFromToIndex_8c36e_4 : decode cJ3_checkFromToIndex_8c36e 4 = .ok (.iload_n 0, 1) := by decide +kernel
theorem dJ3_checkFromToIndex_8c36e_5 : decode cJ3_checkFromToIndex_8c36e 5 = .ok (.iload_n 1, 1) := by decide +kernel
theorem dJ3_checkFromToIndex_8c36e_6 : decode cJ3_checkFromToIndex_8c36e 6 = .ok (.if_icmp .gt 8, 3) := by decide +kernel
theorem dJ3_checkFromToIndex_8c36e_9 : decode cJ3_checkFromToIndex_8c36e 9 = .ok (.iload_n 1, 1) := by decide +kernel
theorem dJ3_checkFromToIndex_8c36e_10 : decode cJ3_checkFromToIndex_8c36e 10 = .ok (.iload_n 2, 1) := by decide +kernel
theorem dJ3_checkFromToIndex_8c36e_11 : decode cJ3_checkFromToIndex_8c36e 11 = .ok (.if_icmp .le 11, 3) := by decide +kernel
theorem dJ3_checkFromToIndex_8c36e_14 : decode cJ3_checkFromToIndex_8c36e 14 = .ok (.aload_n 3, 1) := by decide +kernel
theorem dJ3_checkFromToIndex_8c36e_15 : decode cJ3_checkFromToIndex_8c36e 15 = .ok (.iload_n 0, 1) := by decide +kernel
theorem dJ3_checkFromToIndex_8c36e_16 : decode cJ3_checkFromToIndex_8c36e 16 = .ok (.iload_n 1, 1) := by decide +kernel
theorem dJ3_checkFromToIndex_8c36e_17 : decode cJ3_checkFromToIndex_8c36e 17 = .ok (.iload_n 2, 1) := by decide +kernel
theorem dJ3_checkFromToIndex_8c36e_18 : decode cJ3_checkFromToIndex_8c36e 18 = .ok (.invokestatic 99, 3) := by decide +kernel
theorem dJ3_checkFromToIndex_8c36e_21 : decode cJ3_checkFromToIndex_8c36e 21 = .ok (.athrow, 1) := by decide +kernel
theorem dJ3_checkFromToIndex_8c36e_22 : decode cJ3_checkFromToIndex_8c36e 22 = .ok (.iload_n 0, 1) := by decide +kernel
theorem dJ3_checkFromToIndex_8c36e_23 : decode cJ3_checkFromToIndex_8c36e 23 = .ok (.ireturn, 1) := by decide +kernel
theorem dL_law_0 : decode cL_law 0 = .ok (.new 7, 3) := by decide +kernel
theorem dL_law_3 : decode cL_law 3 = .ok (.dup, 1) := by decide +kernel
theorem dL_law_4 : decode cL_law 4 = .ok (.invokespecial 9, 3) := by decide +kernel
theorem dL_law_7 : decode cL_law 7 = .ok (.astore_n 1, 1) := by decide +kernel
theorem dL_law_8 : decode cL_law 8 = .ok (.new 10, 3) := by decide +kernel
theorem dL_law_11 : decode cL_law 11 = .ok (.dup, 1) := by decide +kernel
theorem dL_law_12 : decode cL_law 12 = .ok (.invokespecial 12, 3) := by decide +kernel
theorem dL_law_15 : decode cL_law 15 = .ok (.astore_n 2, 1) := by decide +kernel
theorem dL_law_16 : decode cL_law 16 = .ok (.iconst 0, 1) := by decide +kernel
theorem dL_law_17 : decode cL_law 17 = .ok (.istore_n 3, 1) := by decide +kernel
theorem dL_law_18 : decode cL_law 18 = .ok (.iload_n 3, 1) := by decide +kernel
theorem dL_law_19 : decode cL_law 19 = .ok (.aload_n 0, 1) := by decide +kernel
theorem dL_law_20 : decode cL_law 20 = .ok (.arraylength, 1) := by decide +kernel
theorem dL_law_21 : decode cL_law 21 = .ok (.iconst 3, 1) := by decide +kernel
theorem dL_law_22 : decode cL_law 22 = .ok (.isub, 1) := by decide +kernel
theorem dL_law_23 : decode cL_law 23 = .ok (.if_icmp .gt 780, 3) := by decide +kernel
theorem dL_law_26 : decode cL_law 26 = .ok (.aload_n 0, 1) := by decide +kernel
theorem dL_law_27 : decode cL_law 27 = .ok (.iload_n 3, 1) := by decide +kernel
theorem dL_law_28 : decode cL_law 28 = .ok (.iaload, 1) := by decide +kernel
theorem dL_law_29 : decode cL_law 29 = .ok (.bipush 31, 2) := by decide +kernel
theorem dL_law_31 : decode cL_law 31 = .ok (.iand, 1) := by decide +kernel
theorem dL_law_32 : decode cL_law 32 = .ok (.tableswitch 765 0 26 #[124, 147, 160, 193, 226, 249, 282, 315, 338, 371, 404, 437, 450, 463, 486, 509, 532, 555, 578, 591, 624, 647, 670, 683, 716, 729, 742], 124) := by decide +kernel
theorem dL_law_156 : decode cL_law 156 = .ok (.aload_n 1, 1) := by decide +kernel
theorem dL_law_157 : decode cL_law 157 = .ok (.aload_n 0, 1) := by decide +kernel
theorem dL_law_158 : decode cL_law 158 = .ok (.iload_n 3, 1) := by decide +kernel
theorem dL_law_159 : decode cL_law 159 = .ok (.iconst 1, 1) := by decide +kernel
theorem dL_law_160 : decode cL_law 160 = .ok (.iadd, 1) := by decide +kernel
theorem dL_law_161 : decode cL_law 161 = .ok (.iaload, 1) := by decide +kernel
theorem dL_law_162 : decode cL_law 162 = .ok (.invokevirtual 13, 3) := by decide +kernel
theorem dL_law_165 : decode cL_law 165 = .ok (.aload_n 2, 1) := by decide +kernel
theorem dL_law_166 : decode cL_law 166 = .ok (.aload_n 0, 1) := by decide +kernel
theorem dL_law_167 : decode cL_law 167 = .ok (.iload_n 3, 1) := by decide +kernel
theorem dL_law_168 : decode cL_law 168 = .ok (.iconst 1, 1) := by decide +kernel
theorem dL_law_169 : decode cL_law 169 = .ok (.iadd, 1) := by decide +kernel
theorem dL_law_170 : decode cL_law 170 = .ok (.iaload, 1) := by decide +kernel
theorem dL_law_171 : decode cL_law 171 = .ok (.invokevirtual 17, 3) := by decide +kernel
theorem dL_law_174 : decode cL_law 174 = .ok (.if_icmp .eq 623, 3) := by decide +kernel
theorem dL_law_177 : decode cL_law 177 = .ok (.iconst 0, 1) := by decide +kernel
theorem dL_law_178 : decode cL_law 178 = .ok (.ireturn, 1) := by decide +kernel
theorem dL_law_179 : decode cL_law 179 = .ok (.aload_n 1, 1) := by decide +kernel
theorem dL_law_180 : decode cL_law 180 = .ok (.invokevirtual 18, 3) := by decide +kernel
theorem dL_law_183 : decode cL_law 183 = .ok (.aload_n 2, 1) := by decide +kernel
theorem dL_law_184 : decode cL_law 184 = .ok (.invokevirtual 22, 3) := by decide +kernel
theorem dL_law_187 : decode cL_law 187 = .ok (.if_icmp .eq 610, 3) := by decide +kernel
theorem dL_law_190 : decode cL_law 190 = .ok (.iconst 0, 1) := by decide +kernel
theorem dL_law_191 : decode cL_law 191 = .ok (.ireturn, 1) := by decide +kernel
theorem dL_law_192 : decode cL_law 192 = .ok (.aload_n 1, 1) := by decide +kernel
theorem dL_law_193 : decode cL_law 193 = .ok (.aload_n 0, 1) := by decide +kernel
theorem dL_law_194 : decode cL_law 194 = .ok (.iload_n 3, 1) := by decide +kernel
theorem dL_law_195 : decode cL_law 195 = .ok (.iconst 1, 1) := by decide +kernel
theorem dL_law_196 : decode cL_law 196 = .ok (.iadd, 1) := by decide +kernel
theorem dL_law_197 : decode cL_law 197 = .ok (.iaload, 1) := by decide +kernel
theorem dL_law_198 : decode cL_law 198 = .ok (.aload_n 0, 1) := by decide +kernel
theorem dL_law_199 : decode cL_law 199 = .ok (.iload_n 3, 1) := by decide +kernel
theorem dL_law_200 : decode cL_law 200 = .ok (.iconst 2, 1) := by decide +kernel
theorem dL_law_201 : decode cL_law 201 = .ok (.iadd, 1) := by decide +kernel
theorem dL_law_202 : decode cL_law 202 = .ok (.iaload, 1) := by decide +kernel
theorem dL_law_203 : decode cL_law 203 = .ok (.invokevirtual 23, 3) := by decide +kernel
theorem dL_law_206 : decode cL_law 206 = .ok (.aload_n 2, 1) := by decide +kernel
theorem dL_law_207 : decode cL_law 207 = .ok (.aload_n 0, 1) := by decide +kernel
theorem dL_law_208 : decode cL_law 208 = .ok (.iload_n 3, 1) := by decide +kernel
theorem dL_law_209 : decode cL_law 209 = .ok (.iconst 1, 1) := by decide +kernel
theorem dL_law_210 : decode cL_law 210 = .ok (.iadd, 1) := by decide +kernel
theorem dL_law_211 : decode cL_law 211 = .ok (.iaload, 1) := by decide +kernel
theorem dL_law_212 : decode cL_law 212 = .ok (.aload_n 0, 1) := by decide +kernel
theorem dL_law_213 : decode cL_law 213 = .ok (.iload_n 3, 1) := by decide +kernel
theorem dL_law_214 : decode cL_law 214 = .ok (.iconst 2, 1) := by decide +kernel
theorem dL_law_215 : decode cL_law 215 = .ok (.iadd, 1) := by decide +kernel
theorem dL_law_216 : decode cL_law 216 = .ok (.iaload, 1) := by decide +kernel
theorem dL_law_217 : decode cL_law 217 = .ok (.invokevirtual 27, 3) := by decide +kernel
theorem dL_law_220 : decode cL_law 220 = .ok (.if_icmp .eq 577, 3) := by decide +kernel
theorem dL_law_223 : decode cL_law 223 = .ok (.iconst 0, 1) := by decide +kernel
theorem dL_law_224 : decode cL_law 224 = .ok (.ireturn, 1) := by decide +kernel
theorem dL_law_225 : decode cL_law 225 = .ok (.aload_n 1, 1) := by decide +kernel
theorem dL_law_226 : decode cL_law 226 = .ok (.aload_n 0, 1) := by decide +kernel
theorem dL_law_227 : decode cL_law 227 = .ok (.iload_n 3, 1) := by decide +kernel
theorem dL_law_228 : decode cL_law 228 = .ok (.iconst 1, 1) := by decide +kernel
theorem dL_law_229 : decode cL_law 229 = .ok (.iadd, 1) := by decide +kernel
theorem dL_law_230 : decode cL_law 230 = .ok (.iaload, 1) := by decide +kernel
theorem dL_law_231 : decode cL_law 231 = .ok (.aload_n 0, 1) := by decide +kernel
theorem dL_law_232 : decode cL_law 232 = .ok (.iload_n 3, 1) := by decide +kernel
theorem dL_law_233 : decode cL_law 233 = .ok (.iconst 2, 1) := by decide +kernel
theorem dL_law_234 : decode cL_law 234 = .ok (.iadd, 1) := by decide +kernel
theorem dL_law_235 : decode cL_law 235 = .ok (.iaload, 1) := by decide +kernel
theorem dL_law_236 : decode cL_law 236 = .ok (.invokevirtual 28, 3) := by decide +kernel
theorem dL_law_239 : decode cL_law 239 = .ok (.aload_n 2, 1) := by decide +kernel
theorem dL_law_240 : decode cL_law 240 = .ok (.aload_n 0, 1) := by decide +kernel
theorem dL_law_241 : decode cL_law 241 = .ok (.iload_n 3, 1) := by decide +kernel
theorem dL_law_242 : decode cL_law 242 = .ok (.iconst 1, 1) := by decide +kernel
theorem dL_law_243 : decode cL_law 243 = .ok (.iadd, 1) := by decide +kernel
theorem dL_law_244 : decode cL_law 244 = .ok (.iaload, 1) := by decide +kernel
theorem dL_law_245 : decode cL_law 245 = .ok (.aload_n 0, 1) := by decide +kernel
theorem dL_law_246 : decode cL_law 246 = .ok (.iload_n 3, 1) := by decide +kernel
theorem dL_law_247 : decode cL_law 247 = .ok (.iconst 2, 1) := by decide +kernel
theorem dL_law_248 : decode cL_law 248 = .ok (.iadd, 1) := by decide +kernel
theorem dL_law_249 : decode cL_law 249 = .ok (.iaload, 1) := by decide +kernel
theorem dL_law_250 : decode cL_law 250 = .ok (.invokevirtual 31, 3) := by decide +kernel
theorem dL_law_253 : decode cL_law 253 = .ok (.if_icmp .eq 544, 3) := by decide +kernel
theorem dL_law_256 : decode cL_law 256 = .ok (.iconst 0, 1) := by decide +kernel
theorem dL_law_257 : decode cL_law 257 = .ok (.ireturn, 1) := by decide +kernel
theorem dL_law_258 : decode cL_law 258 = .ok (.aload_n 1, 1) := by decide +kernel
theorem dL_law_259 : decode cL_law 259 = .ok (.aload_n 0, 1) := by decide +kernel
theorem dL_law_260 : decode cL_law 260 = .ok (.iload_n 3, 1) := by decide +kernel
theorem dL_law_261 : decode cL_law 261 = .ok (.iconst 1, 1) := by decide +kernel
theorem dL_law_262 : decode cL_law 262 = .ok (.iadd, 1) := by decide +kernel
theorem dL_law_263 : decode cL_law 263 = .ok (.iaload, 1) := by decide +kernel
theorem dL_law_264 : decode cL_law 264 = .ok (.invokevirtual 32, 3) := by decide +kernel
theorem dL_law_267 : decode cL_law 267 = .ok (.aload_n 2, 1) := by decide +kernel
theorem dL_law_268 : decode cL_law 268 = .ok (.aload_n 0, 1) := by decide +kernel
theorem dL_law_269 : decode cL_law 269 = .ok (.iload_n 3, 1) := by decide +kernel
theorem dL_law_270 : decode cL_law 270 = .ok (.iconst 1, 1) := by decide +kernel
theorem dL_law_271 : decode cL_law 271 = .ok (.iadd, 1) := by decide +kernel
theorem dL_law_272 : decode cL_law 272 = .ok (.iaload, 1) := by decide +kernel
theorem dL_law_273 : decode cL_law 273 = .ok (.invokevirtual 35, 3) := by decide +kernel
theorem dL_law_276 : decode cL_law 276 = .ok (.if_icmp .eq 521, 3) := by decide +kernel
theorem dL_law_279 : decode cL_law 279 = .ok (.iconst 0, 1) := by decide +kernel
theorem dL_law_280 : decode cL_law 280 = .ok (.ireturn, 1) := by decide +kernel
theorem dL_law_281 : decode cL_law 281 = .ok (.aload_n 1, 1) := by decide +kernel
theorem dL_law_282 : decode cL_law 282 = .ok (.aload_n 0, 1) := by decide +kernel
theorem dL_law_283 : decode cL_law 283 = .ok (.iload_n 3, 1) := by decide +kernel
theorem dL_law_284 : decode cL_law 284 = .ok (.iconst 1, 1) := by decide +kernel
theorem dL_law_285 : decode cL_law 285 = .ok (.iadd, 1) := by decide +kernel
theorem dL_law_286 : decode cL_law 286 = .ok (.iaload, 1) := by decide +kernel
theorem dL_law_287 : decode cL_law 287 = .ok (.aload_n 0, 1) := by decide +kernel
theorem dL_law_288 : decode cL_law 288 = .ok (.iload_n 3, 1) := by decide +kernel
theorem dL_law_289 : decode cL_law 289 = .ok (.iconst 2, 1) := by decide +kernel
theorem dL_law_290 : decode cL_law 290 = .ok (.iadd, 1) := by decide +kernel
theorem dL_law_291 : decode cL_law 291 = .ok (.iaload, 1) := by decide +kernel
theorem dL_law_292 : decode cL_law 292 = .ok (.invokevirtual 36, 3) := by decide +kernel
theorem dL_law_295 : decode cL_law 295 = .ok (.aload_n 2, 1) := by decide +kernel
theorem dL_law_296 : decode cL_law 296 = .ok (.aload_n 0, 1) := by decide +kernel
theorem dL_law_297 : decode cL_law 297 = .ok (.iload_n 3, 1) := by decide +kernel
theorem dL_law_298 : decode cL_law 298 = .ok (.iconst 1, 1) := by decide +kernel
theorem dL_law_299 : decode cL_law 299 = .ok (.iadd, 1) := by decide +kernel
theorem dL_law_300 : decode cL_law 300 = .ok (.iaload, 1) := by decide +kernel
theorem dL_law_301 : decode cL_law 301 = .ok (.aload_n 0, 1) := by decide +kernel
theorem dL_law_302 : decode cL_law 302 = .ok (.iload_n 3, 1) := by decide +kernel
theorem dL_law_303 : decode cL_law 303 = .ok (.iconst 2, 1) := by decide +kernel
theorem dL_law_304 : decode cL_law 304 = .ok (.iadd, 1) := by decide +kernel
theorem dL_law_305 : decode cL_law 305 = .ok (.iaload, 1) := by decide +kernel
theorem dL_law_306 : decode cL_law 306 = .ok (.invokevirtual 39, 3) := by decide +kernel
theorem dL_law_309 : decode cL_law 309 = .ok (.if_icmp .eq 488, 3) := by decide +kernel
theorem dL_law_312 : decode cL_law 312 = .ok (.iconst 0, 1) := by decide +kernel
theorem dL_law_313 : decode cL_law 313 = .ok (.ireturn, 1) := by decide +kernel
theorem dL_law_314 : decode cL_law 314 = .ok (.aload_n 1, 1) := by decide +kernel
theorem dL_law_315 : decode cL_law 315 = .ok (.aload_n 0, 1) := by decide +kernel
theorem dL_law_316 : decode cL_law 316 = .ok (.iload_n 3, 1) := by decide +kernel
theorem dL_law_317 : decode cL_law 317 = .ok (.iconst 1, 1) := by decide +kernel
theorem dL_law_318 : decode cL_law 318 = .ok (.iadd, 1) := by decide +kernel
theorem dL_law_319 : decode cL_law 319 = .ok (.iaload, 1) := by decide +kernel
theorem dL_law_320 : decode cL_law 320 = .ok (.aload_n 0, 1) := by decide +kernel
theorem dL_law_321 : decode cL_law 321 = .ok (.iload_n 3, 1) := by decide +kernel
theorem dL_law_322 : decode cL_law 322 = .ok (.iconst 2, 1) := by decide +kernel
theorem dL_law_323 : decode cL_law 323 = .ok (.iadd, 1) := by decide +kernel
theorem dL_law_324 : decode cL_law 324 = .ok (.iaload, 1) := by decide +kernel
theorem dL_law_325 : decode cL_law 325 = .ok (.invokevirtual 40, 3) := by decide +kernel
theorem dL_law_328 : decode cL_law 328 = .ok (.aload_n 2, 1) := by decide +kernel
theorem dL_law_329 : decode cL_law 329 = .ok (.aload_n 0, 1) := by decide +kernel
theorem dL_law_330 : decode cL_law 330 = .ok (.iload_n 3, 1) := by decide +kernel
theorem dL_law_331 : decode cL_law 331 = .ok (.iconst 1, 1) := by decide +kernel
theorem dL_law_332 : decode cL_law 332 = .ok (.iadd, 1) := by decide +kernel
theorem dL_law_333 : decode cL_law 333 = .ok (.iaload, 1) := by decide +kernel
theorem dL_law_334 : decode cL_law 334 = .ok (.aload_n 0, 1) := by decide +kernel
theorem dL_law_335 : decode cL_law 335 = .ok (.iload_n 3, 1) := by decide +kernel
theorem dL_law_336 : decode cL_law 336 = .ok (.iconst 2, 1) := by decide +kernel
theorem dL_law_337 : decode cL_law 337 = .ok (.iadd, 1) := by decide +kernel
theorem dL_law_338 : decode cL_law 338 = .ok (.iaload, 1) := by decide +kernel
theorem dL_law_339 : decode cL_law 339 = .ok (.invokevirtual 43, 3) := by decide +kernel
theorem dL_law_342 : decode cL_law 342 = .ok (.if_icmp .eq 455, 3) := by decide +kernel
theorem dL_law_345 : decode cL_law 345 = .ok (.iconst 0, 1) := by decide +kernel
theorem dL_law_346 : decode cL_law 346 = .ok (.ireturn, 1) := by decide +kernel
theorem dL_law_347 : decode cL_law 347 = .ok (.aload_n 1, 1) := by decide +kernel
theorem dL_law_348 : decode cL_law 348 = .ok (.aload_n 0, 1) := by decide +kernel
theorem dL_law_349 : decode cL_law 349 = .ok (.iload_n 3, 1) := by decide +kernel
theorem dL_law_350 : decode cL_law 350 = .ok (.iconst 1, 1) := by decide +kernel
theorem dL_law_351 : decode cL_law 351 = .ok (.iadd, 1) := by decide +kernel
theorem dL_law_352 : decode cL_law 352 = .ok (.iaload, 1) := by decide +kernel
theorem dL_law_353 : decode cL_law 353 = .ok (.invokevirtual 44, 3) := by decide +kernel
theorem dL_law_356 : decode cL_law 356 = .ok (.aload_n 2, 1) := by decide +kernel
theorem dL_law_357 : decode cL_law 357 = .ok (.aload_n 0, 1) := by decide +kernel
theorem dL_law_358 : decode cL_law 358 = .ok (.iload_n 3, 1) := by decide +kernel
theorem dL_law_359 : decode cL_law 359 = .ok (.iconst 1, 1) := by decide +kernel
theorem dL_law_360 : decode cL_law 360 = .ok (.iadd, 1) := by decide +kernel
theorem dL_law_361 : decode cL_law 361 = .ok (.iaload, 1) := by decide +kernel
theorem dL_law_362 : decode cL_law 362 = .ok (.invokevirtual 47, 3) := by decide +kernel
theorem dL_law_365 : decode cL_law 365 = .ok (.if_icmp .eq 432, 3) := by decide +kernel
theorem dL_law_368 : decode cL_law 368 = .ok (.iconst 0, 1) := by decide +kernel
theorem dL_law_369 : decode cL_law 369 = .ok (.ireturn, 1) := by decide +kernel
theorem dL_law_370 : decode cL_law 370 = .ok (.aload_n 1, 1) := by decide +kernel
theorem dL_law_371 : decode cL_law 371 = .ok (.aload_n 0, 1) := by decide +kernel
theorem dL_law_372 : decode cL_law 372 = .ok (.iload_n 3, 1) := by decide +kernel
theorem dL_law_373 : decode cL_law 373 = .ok (.iconst 1, 1) := by decide +kernel
theorem dL_law_374 : decode cL_law 374 = .ok (.iadd, 1) := by decide +kernel
theorem dL_law_375 : decode cL_law 375 = .ok (.iaload, 1) := by decide +kernel
theorem dL_law_376 : decode cL_law 376 = .ok (.aload_n 0, 1) := by decide +kernel
theorem dL_law_377 : decode cL_law 377 = .ok (.iload_n 3, 1) := by decide +kernel
theorem dL_law_378 : decode cL_law 378 = .ok (.iconst 2, 1) := by decide +kernel
theorem dL_law_379 : decode cL_law 379 = .ok (.iadd, 1) := by decide +kernel
theorem dL_law_380 : decode cL_law 380 = .ok (.iaload, 1) := by decide +kernel
theorem dL_law_381 : decode cL_law 381 = .ok (.invokevirtual 48, 3) := by decide +kernel
theorem dL_law_384 : decode cL_law 384 = .ok (.aload_n 2, 1) := by decide +kernel
theorem dL_law_385 : decode cL_law 385 = .ok (.aload_n 0, 1) := by decide +kernel
theorem dL_law_386 : decode cL_law 386 = .ok (.iload_n 3, 1) := by decide +kernel
theorem dL_law_387 : decode cL_law 387 = .ok (.iconst 1, 1) := by decide +kernel
theorem dL_law_388 : decode cL_law 388 = .ok (.iadd, 1) := by decide +kernel
theorem dL_law_389 : decode cL_law 389 = .ok (.iaload, 1) := by decide +kernel
theorem dL_law_390 : decode cL_law 390 = .ok (.aload_n 0, 1) := by decide +kernel
theorem dL_law_391 : decode cL_law 391 = .ok (.iload_n 3, 1) := by decide +kernel
theorem dL_law_392 : decode cL_law 392 = .ok (.iconst 2, 1) := by decide +kernel
theorem dL_law_393 : decode cL_law 393 = .ok (.iadd, 1) := by decide +kernel
theorem dL_law_394 : decode cL_law 394 = .ok (.iaload, 1) := by decide +kernel
theorem dL_law_395 : decode cL_law 395 = .ok (.invokevirtual 51, 3) := by decide +kernel
theorem dL_law_398 : decode cL_law 398 = .ok (.if_icmp .eq 399, 3) := by decide +kernel
theorem dL_law_401 : decode cL_law 401 = .ok (.iconst 0, 1) := by decide +kernel
theorem dL_law_402 : decode cL_law 402 = .ok (.ireturn, 1) := by decide +kernel
theorem dL_law_403 : decode cL_law 403 = .ok (.aload_n 1, 1) := by decide +kernel
theorem dL_law_404 : decode cL_law 404 = .ok (.aload_n 0, 1) := by decide +kernel
theorem dL_law_405 : decode cL_law 405 = .ok (.iload_n 3, 1) := by decide +kernel
theorem dL_law_406 : decode cL_law 406 = .ok (.iconst 1, 1) := by decide +kernel
theorem dL_law_407 : decode cL_law 407 = .ok (.iadd, 1) := by decide +kernel
theorem dL_law_408 : decode cL_law 408 = .ok (.iaload, 1) := by decide +kernel
theorem dL_law_409 : decode cL_law 409 = .ok (.aload_n 0, 1) := by decide +kernel
theorem dL_law_410 : decode cL_law 410 = .ok (.iload_n 3, 1) := by decide +kernel
theorem dL_law_411 : decode cL_law 411 = .ok (.iconst 2, 1) := by decide +kernel
theorem dL_law_412 : decode cL_law 412 = .ok (.iadd, 1) := by decide +kernel
theorem dL_law_413 : decode cL_law 413 = .ok (.iaload, 1) := by decide +kernel
theorem dL_law_414 : decode cL_law 414 = .ok (.invokevirtual 52, 3) := by decide +kernel
theorem dL_law_417 : decode cL_law 417 = .ok (.aload_n 2, 1) := by decide +kernel
theorem dL_law_418 : decode cL_law 418 = .ok (.aload_n 0, 1) := by decide +kernel
theorem dL_law_419 : decode cL_law 419 = .ok (.iload_n 3, 1) := by decide +kernel
theorem dL_law_420 : decode cL_law 420 = .ok (.iconst 1, 1) := by decide +kernel
theorem dL_law_421 : decode cL_law 421 = .ok (.iadd, 1) := by decide +kernel
theorem dL_law_422 : decode cL_law 422 = .ok (.iaload, 1) := by decide +kernel
theorem dL_law_423 : decode cL_law 423 = .ok (.aload_n 0, 1) := by decide +kernel
theorem dL_law_424 : decode cL_law 424 = .ok (.iload_n 3, 1) := by decide +kernel
theorem dL_law_425 : decode cL_law 425 = .ok (.iconst 2, 1) := by decide +kernel
theorem dL_law_426 : decode cL_law 426 = .ok (.iadd, 1) := by decide +kernel
theorem dL_law_427 : decode cL_law 427 = .ok (.iaload, 1) := by decide +kernel
theorem dL_law_428 : decode cL_law 428 = .ok (.invokevirtual 55, 3) := by decide +kernel
theorem dL_law_431 : decode cL_law 431 = .ok (.if_icmp .eq 366, 3) := by decide +kernel
theorem dL_law_434 : decode cL_law 434 = .ok (.iconst 0, 1) := by decide +kernel
theorem dL_law_435 : decode cL_law 435 = .ok (.ireturn, 1) := by decide +kernel
theorem dL_law_436 : decode cL_law 436 = .ok (.aload_n 1, 1) := by decide +kernel
theorem dL_law_437 : decode cL_law 437 = .ok (.aload_n 0, 1) := by decide +kernel
theorem dL_law_438 : decode cL_law 438 = .ok (.iload_n 3, 1) := by decide +kernel
theorem dL_law_439 : decode cL_law 439 = .ok (.iconst 1, 1) := by decide +kernel
theorem dL_law_440 : decode cL_law 440 = .ok (.iadd, 1) := by decide +kernel
theorem dL_law_441 : decode cL_law 441 = .ok (.iaload, 1) := by decide +kernel
theorem dL_law_442 : decode cL_law 442 = .ok (.aload_n 0, 1) := by decide +kernel
theorem dL_law_443 : decode cL_law 443 = .ok (.iload_n 3, 1) := by decide +kernel
theorem dL_law_444 : decode cL_law 444 = .ok (.iconst 2, 1) := by decide +kernel
theorem dL_law_445 : decode cL_law 445 = .ok (.iadd, 1) := by decide +kernel
theorem dL_law_446 : decode cL_law 446 = .ok (.iaload, 1) := by decide +kernel
theorem dL_law_447 : decode cL_law 447 = .ok (.invokevirtual 56, 3) := by decide +kernel
theorem dL_law_450 : decode cL_law 450 = .ok (.aload_n 2, 1) := by decide +kernel
theorem dL_law_451 : decode cL_law 451 = .ok (.aload_n 0, 1) := by decide +kernel
theorem dL_law_452 : decode cL_law 452 = .ok (.iload_n 3, 1) := by decide +kernel
theorem dL_law_453 : decode cL_law 453 = .ok (.iconst 1, 1) := by decide +kernel
theorem dL_law_454 : decode cL_law 454 = .ok (.iadd, 1) := by decide +kernel
theorem dL_law_455 : decode cL_law 455 = .ok (.iaload, 1) := by decide +kernel
theorem dL_law_456 : decode cL_law 456 = .ok (.aload_n 0, 1) := by decide +kernel
theorem dL_law_457 : decode cL_law 457 = .ok (.iload_n 3, 1) := by decide +kernel
theorem dL_law_458 : decode cL_law 458 = .ok (.iconst 2, 1) := by decide +kernel
theorem dL_law_459 : decode cL_law 459 = .ok (.iadd, 1) := by decide +kernel
theorem dL_law_460 : decode cL_law 460 = .ok (.iaload, 1) := by decide +kernel
theorem dL_law_461 : decode cL_law 461 = .ok (.invokevirtual 59, 3) := by decide +kernel
theorem dL_law_464 : decode cL_law 464 = .ok (.if_icmp .eq 333, 3) := by decide +kernel
theorem dL_law_467 : decode cL_law 467 = .ok (.iconst 0, 1) := by decide +kernel
theorem dL_law_468 : decode cL_law 468 = .ok (.ireturn, 1) := by decide +kernel
theorem dL_law_469 : decode cL_law 469 = .ok (.aload_n 1, 1) := by decide +kernel
theorem dL_law_470 : decode cL_law 470 = .ok (.invokevirtual 60, 3) := by decide +kernel
theorem dL_law_473 : decode cL_law 473 = .ok (.aload_n 2, 1) := by decide +kernel
theorem dL_law_474 : decode cL_law 474 = .ok (.invokevirtual 63, 3) := by decide +kernel
theorem dL_law_477 : decode cL_law 477 = .ok (.if_icmp .eq 320, 3) := by decide +kernel
theorem dL_law_480 : decode cL_law 480 = .ok (.iconst 0, 1) := by decide +kernel
theorem dL_law_481 : decode cL_law 481 = .ok (.ireturn, 1) := by decide +kernel
theorem dL_law_482 : decode cL_law 482 = .ok (.aload_n 1, 1) := by decide +kernel
theorem dL_law_483 : decode cL_law 483 = .ok (.invokevirtual 64, 3) := by decide +kernel
theorem dL_law_486 : decode cL_law 486 = .ok (.aload_n 2, 1) := by decide +kernel
theorem dL_law_487 : decode cL_law 487 = .ok (.invokevirtual 67, 3) := by decide +kernel
theorem dL_law_490 : decode cL_law 490 = .ok (.if_icmp .eq 307, 3) := by decide +kernel
theorem dL_law_493 : decode cL_law 493 = .ok (.iconst 0, 1) := by decide +kernel
theorem dL_law_494 : decode cL_law 494 = .ok (.ireturn, 1) := by decide +kernel
theorem dL_law_495 : decode cL_law 495 = .ok (.aload_n 1, 1) := by decide +kernel
theorem dL_law_496 : decode cL_law 496 = .ok (.aload_n 0, 1) := by decide +kernel
theorem dL_law_497 : decode cL_law 497 = .ok (.iload_n 3, 1) := by decide +kernel
theorem dL_law_498 : decode cL_law 498 = .ok (.iconst 1, 1) := by decide +kernel
theorem dL_law_499 : decode cL_law 499 = .ok (.iadd, 1) := by decide +kernel
theorem dL_law_500 : decode cL_law 500 = .ok (.iaload, 1) := by decide +kernel
theorem dL_law_501 : decode cL_law 501 = .ok (.invokevirtual 68, 3) := by decide +kernel
theorem dL_law_504 : decode cL_law 504 = .ok (.aload_n 2, 1) := by decide +kernel
theorem dL_law_505 : decode cL_law 505 = .ok (.aload_n 0, 1) := by decide +kernel
theorem dL_law_506 : decode cL_law 506 = .ok (.iload_n 3, 1) := by decide +kernel
theorem dL_law_507 : decode cL_law 507 = .ok (.iconst 1, 1) := by decide +kernel
theorem dL_law_508 : decode cL_law 508 = .ok (.iadd, 1) := by decide +kernel
theorem dL_law_509 : decode cL_law 509 = .ok (.iaload, 1) := by decide +kernel
theorem dL_law_510 : decode cL_law 510 = .ok (.invokevirtual 71, 3) := by decide +kernel
theorem dL_law_513 : decode cL_law 513 = .ok (.if_icmp .eq 284, 3) := by decide +kernel
theorem dL_law_516 : decode cL_law 516 = .ok (.iconst 0, 1) := by decide +kernel
theorem dL_law_517 : decode cL_law 517 = .ok (.ireturn, 1) := by decide +kernel
theorem dL_law_518 : decode cL_law 518 = .ok (.aload_n 1, 1) := by decide +kernel
theorem dL_law_519 : decode cL_law 519 = .ok (.aload_n 0, 1) := by decide +kernel
theorem dL_law_520 : decode cL_law 520 = .ok (.iload_n 3, 1) := by decide +kernel
theorem dL_law_521 : decode cL_law 521 = .ok (.iconst 1, 1) := by decide +kernel
theorem dL_law_522 : decode cL_law 522 = .ok (.iadd, 1) := by decide +kernel
theorem dL_law_523 : decode cL_law 523 = .ok (.iaload, 1) := by decide +kernel
theorem dL_law_524 : decode cL_law 524 = .ok (.invokevirtual 72, 3) := by decide +kernel
theorem dL_law_527 : decode cL_law 527 = .ok (.aload_n 2, 1) := by decide +kernel
theorem dL_law_528 : decode cL_law 528 = .ok (.aload_n 0, 1) := by decide +kernel
theorem dL_law_529 : decode cL_law 529 = .ok (.iload_n 3, 1) := by decide +kernel
theorem dL_law_530 : decode cL_law 530 = .ok (.iconst 1, 1) := by decide +kernel
theorem dL_law_531 : decode cL_law 531 = .ok (.iadd, 1) := by decide +kernel
theorem dL_law_532 : decode cL_law 532 = .ok (.iaload, 1) := by decide +kernel
theorem dL_law_533 : decode cL_law 533 = .ok (.invokevirtual 75, 3) := by decide +kernel
theorem dL_law_536 : decode cL_law 536 = .ok (.if_icmp .eq 261, 3) := by decide +kernel
theorem dL_law_539 : decode cL_law 539 = .ok (.iconst 0, 1) := by decide +kernel
theorem dL_law_540 : decode cL_law 540 = .ok (.ireturn, 1) := by decide +kernel
theorem dL_law_541 : decode cL_law 541 = .ok (.aload_n 1, 1) := by decide +kernel
theorem dL_law_542 : decode cL_law 542 = .ok (.aload_n 0, 1) := by decide +kernel
theorem dL_law_543 : decode cL_law 543 = .ok (.iload_n 3, 1) := by decide +kernel
theorem dL_law_544 : decode cL_law 544 = .ok (.iconst 1, 1) := by decide +kernel
theorem dL_law_545 : decode cL_law 545 = .ok (.iadd, 1) := by decide +kernel
theorem dL_law_546 : decode cL_law 546 = .ok (.iaload, 1) := by decide +kernel
theorem dL_law_547 : decode cL_law 547 = .ok (.invokevirtual 76, 3) := by decide +kernel
theorem dL_law_550 : decode cL_law 550 = .ok (.aload_n 2, 1) := by decide +kernel
theorem dL_law_551 : decode cL_law 551 = .ok (.aload_n 0, 1) := by decide +kernel
theorem dL_law_552 : decode cL_law 552 = .ok (.iload_n 3, 1) := by decide +kernel
theorem dL_law_553 : decode cL_law 553 = .ok (.iconst 1, 1) := by decide +kernel
theorem dL_law_554 : decode cL_law 554 = .ok (.iadd, 1) := by decide +kernel
theorem dL_law_555 : decode cL_law 555 = .ok (.iaload, 1) := by decide +kernel
theorem dL_law_556 : decode cL_law 556 = .ok (.invokevirtual 79, 3) := by decide +kernel
theorem dL_law_559 : decode cL_law 559 = .ok (.if_icmp .eq 238, 3) := by decide +kernel
theorem dL_law_562 : decode cL_law 562 = .ok (.iconst 0, 1) := by decide +kernel
theorem dL_law_563 : decode cL_law 563 = .ok (.ireturn, 1) := by decide +kernel
theorem dL_law_564 : decode cL_law 564 = .ok (.aload_n 1, 1) := by decide +kernel
theorem dL_law_565 : decode cL_law 565 = .ok (.aload_n 0, 1) := by decide +kernel
theorem dL_law_566 : decode cL_law 566 = .ok (.iload_n 3, 1) := by decide +kernel
theorem dL_law_567 : decode cL_law 567 = .ok (.iconst 1, 1) := by decide +kernel
theorem dL_law_568 : decode cL_law 568 = .ok (.iadd, 1) := by decide +kernel
theorem dL_law_569 : decode cL_law 569 = .ok (.iaload, 1) := by decide +kernel
theorem dL_law_570 : decode cL_law 570 = .ok (.invokevirtual 80, 3) := by decide +kernel
theorem dL_law_573 : decode cL_law 573 = .ok (.aload_n 2, 1) := by decide +kernel
theorem dL_law_574 : decode cL_law 574 = .ok (.aload_n 0, 1) := by decide +kernel
theorem dL_law_575 : decode cL_law 575 = .ok (.iload_n 3, 1) := by decide +kernel
theorem dL_law_576 : decode cL_law 576 = .ok (.iconst 1, 1) := by decide +kernel
theorem dL_law_577 : decode cL_law 577 = .ok (.iadd, 1) := by decide +kernel
theorem dL_law_578 : decode cL_law 578 = .ok (.iaload, 1) := by decide +kernel
theorem dL_law_579 : decode cL_law 579 = .ok (.invokevirtual 83, 3) := by decide +kernel
theorem dL_law_582 : decode cL_law 582 = .ok (.if_icmp .eq 215, 3) := by decide +kernel
theorem dL_law_585 : decode cL_law 585 = .ok (.iconst 0, 1) := by decide +kernel
theorem dL_law_586 : decode cL_law 586 = .ok (.ireturn, 1) := by decide +kernel
theorem dL_law_587 : decode cL_law 587 = .ok (.aload_n 1, 1) := by decide +kernel
theorem dL_law_588 : decode cL_law 588 = .ok (.aload_n 0, 1) := by decide +kernel
theorem dL_law_589 : decode cL_law 589 = .ok (.iload_n 3, 1) := by decide +kernel
theorem dL_law_590 : decode cL_law 590 = .ok (.iconst 1, 1) := by decide +kernel
theorem dL_law_591 : decode cL_law 591 = .ok (.iadd, 1) := by decide +kernel
theorem dL_law_592 : decode cL_law 592 = .ok (.iaload, 1) := by decide +kernel
theorem dL_law_593 : decode cL_law 593 = .ok (.invokevirtual 84, 3) := by decide +kernel
theorem dL_law_596 : decode cL_law 596 = .ok (.aload_n 2, 1) := by decide +kernel
theorem dL_law_597 : decode cL_law 597 = .ok (.aload_n 0, 1) := by decide +kernel
theorem dL_law_598 : decode cL_law 598 = .ok (.iload_n 3, 1) := by decide +kernel
theorem dL_law_599 : decode cL_law 599 = .ok (.iconst 1, 1) := by decide +kernel
theorem dL_law_600 : decode cL_law 600 = .ok (.iadd, 1) := by decide +kernel
theorem dL_law_601 : decode cL_law 601 = .ok (.iaload, 1) := by decide +kernel
theorem dL_law_602 : decode cL_law 602 = .ok (.invokevirtual 87, 3) := by decide +kernel
theorem dL_law_605 : decode cL_law 605 = .ok (.if_icmp .eq 192, 3) := by decide +kernel
theorem dL_law_608 : decode cL_law 608 = .ok (.iconst 0, 1) := by decide +kernel
theorem dL_law_609 : decode cL_law 609 = .ok (.ireturn, 1) := by decide +kernel
theorem dL_law_610 : decode cL_law 610 = .ok (.aload_n 1, 1) := by decide +kernel
theorem dL_law_611 : decode cL_law 611 = .ok (.invokevirtual 88, 3) := by decide +kernel
theorem dL_law_614 : decode cL_law 614 = .ok (.aload_n 2, 1) := by decide +kernel
theorem dL_law_615 : decode cL_law 615 = .ok (.invokevirtual 91, 3) := by decide +kernel
theorem dL_law_618 : decode cL_law 618 = .ok (.if_icmp .eq 179, 3) := by decide +kernel
theorem dL_law_621 : decode cL_law 621 = .ok (.iconst 0, 1) := by decide +kernel
theorem dL_law_622 : decode cL_law 622 = .ok (.ireturn, 1) := by decide +kernel
theorem dL_law_623 : decode cL_law 623 = .ok (.aload_n 1, 1) := by decide +kernel
theorem dL_law_624 : decode cL_law 624 = .ok (.aload_n 0, 1) := by decide +kernel
theorem dL_law_625 : decode cL_law 625 = .ok (.iload_n 3, 1) := by decide +kernel
theorem dL_law_626 : decode cL_law 626 = .ok (.iconst 1, 1) := by decide +kernel
theorem dL_law_627 : decode cL_law 627 = .ok (.iadd, 1) := by decide +kernel
theorem dL_law_628 : decode cL_law 628 = .ok (.iaload, 1) := by decide +kernel
theorem dL_law_629 : decode cL_law 629 = .ok (.aload_n 0, 1) := by decide +kernel
theorem dL_law_630 : decode cL_law 630 = .ok (.iload_n 3, 1) := by decide +kernel
theorem dL_law_631 : decode cL_law 631 = .ok (.iconst 2, 1) := by decide +kernel
theorem dL_law_632 : decode cL_law 632 = .ok (.iadd, 1) := by decide +kernel
theorem dL_law_633 : decode cL_law 633 = .ok (.iaload, 1) := by decide +kernel
theorem dL_law_634 : decode cL_law 634 = .ok (.invokevirtual 92, 3) := by decide +kernel
theorem dL_law_637 : decode cL_law 637 = .ok (.aload_n 2, 1) := by decide +kernel
theorem dL_law_638 : decode cL_law 638 = .ok (.aload_n 0, 1) := by decide +kernel
theorem dL_law_639 : decode cL_law 639 = .ok (.iload_n 3, 1) := by decide +kernel
theorem dL_law_640 : decode cL_law 640 = .ok (.iconst 1, 1) := by decide +kernel
theorem dL_law_641 : decode cL_law 641 = .ok (.iadd, 1) := by decide +kernel
theorem dL_law_642 : decode cL_law 642 = .ok (.iaload, 1) := by decide +kernel
theorem dL_law_643 : decode cL_law 643 = .ok (.aload_n 0, 1) := by decide +kernel
theorem dL_law_644 : decode cL_law 644 = .ok (.iload_n 3, 1) := by decide +kernel
theorem dL_law_645 : decode cL_law 645 = .ok (.iconst 2, 1) := by decide +kernel
theorem dL_law_646 : decode cL_law 646 = .ok (.iadd, 1) := by decide +kernel
theorem dL_law_647 : decode cL_law 647 = .ok (.iaload, 1) := by decide +kernel
theorem dL_law_648 : decode cL_law 648 = .ok (.invokevirtual 95, 3) := by decide +kernel
theorem dL_law_651 : decode cL_law 651 = .ok (.if_icmp .eq 146, 3) := by decide +kernel
theorem dL_law_654 : decode cL_law 654 = .ok (.iconst 0, 1) := by decide +kernel
theorem dL_law_655 : decode cL_law 655 = .ok (.ireturn, 1) := by decide +kernel
theorem dL_law_656 : decode cL_law 656 = .ok (.aload_n 1, 1) := by decide +kernel
theorem dL_law_657 : decode cL_law 657 = .ok (.aload_n 0, 1) := by decide +kernel
theorem dL_law_658 : decode cL_law 658 = .ok (.iload_n 3, 1) := by decide +kernel
theorem dL_law_659 : decode cL_law 659 = .ok (.iconst 1, 1) := by decide +kernel
theorem dL_law_660 : decode cL_law 660 = .ok (.iadd, 1) := by decide +kernel
theorem dL_law_661 : decode cL_law 661 = .ok (.iaload, 1) := by decide +kernel
theorem dL_law_662 : decode cL_law 662 = .ok (.invokevirtual 96, 3) := by decide +kernel
theorem dL_law_665 : decode cL_law 665 = .ok (.aload_n 2, 1) := by decide +kernel
theorem dL_law_666 : decode cL_law 666 = .ok (.aload_n 0, 1) := by decide +kernel
theorem dL_law_667 : decode cL_law 667 = .ok (.iload_n 3, 1) := by decide +kernel
theorem dL_law_668 : decode cL_law 668 = .ok (.iconst 1, 1) := by decide +kernel
theorem dL_law_669 : decode cL_law 669 = .ok (.iadd, 1) := by decide +kernel
theorem dL_law_670 : decode cL_law 670 = .ok (.iaload, 1) := by decide +kernel
theorem dL_law_671 : decode cL_law 671 = .ok (.invokevirtual 99, 3) := by decide +kernel
theorem dL_law_674 : decode cL_law 674 = .ok (.if_icmp .eq 123, 3) := by decide +kernel
theorem dL_law_677 : decode cL_law 677 = .ok (.iconst 0, 1) := by decide +kernel
theorem dL_law_678 : decode cL_law 678 = .ok (.ireturn, 1) := by decide +kernel
theorem dL_law_679 : decode cL_law 679 = .ok (.aload_n 1, 1) := by decide +kernel
theorem dL_law_680 : decode cL_law 680 = .ok (.aload_n 0, 1) := by decide +kernel
theorem dL_law_681 : decode cL_law 681 = .ok (.iload_n 3, 1) := by decide +kernel
theorem dL_law_682 : decode cL_law 682 = .ok (.iconst 1, 1) := by decide +kernel
theorem dL_law_683 : decode cL_law 683 = .ok (.iadd, 1) := by decide +kernel
theorem dL_law_684 : decode cL_law 684 = .ok (.iaload, 1) := by decide +kernel
theorem dL_law_685 : decode cL_law 685 = .ok (.invokevirtual 100, 3) := by decide +kernel
theorem dL_law_688 : decode cL_law 688 = .ok (.aload_n 2, 1) := by decide +kernel
theorem dL_law_689 : decode cL_law 689 = .ok (.aload_n 0, 1) := by decide +kernel
theorem dL_law_690 : decode cL_law 690 = .ok (.iload_n 3, 1) := by decide +kernel
theorem dL_law_691 : decode cL_law 691 = .ok (.iconst 1, 1) := by decide +kernel
theorem dL_law_692 : decode cL_law 692 = .ok (.iadd, 1) := by decide +kernel
theorem dL_law_693 : decode cL_law 693 = .ok (.iaload, 1) := by decide +kernel
theorem dL_law_694 : decode cL_law 694 = .ok (.invokevirtual 103, 3) := by decide +kernel
theorem dL_law_697 : decode cL_law 697 = .ok (.if_icmp .eq 100, 3) := by decide +kernel
theorem dL_law_700 : decode cL_law 700 = .ok (.iconst 0, 1) := by decide +kernel
theorem dL_law_701 : decode cL_law 701 = .ok (.ireturn, 1) := by decide +kernel
theorem dL_law_702 : decode cL_law 702 = .ok (.aload_n 1, 1) := by decide +kernel
theorem dL_law_703 : decode cL_law 703 = .ok (.invokevirtual 104, 3) := by decide +kernel
theorem dL_law_706 : decode cL_law 706 = .ok (.aload_n 2, 1) := by decide +kernel
theorem dL_law_707 : decode cL_law 707 = .ok (.invokevirtual 107, 3) := by decide +kernel
theorem dL_law_710 : decode cL_law 710 = .ok (.if_icmp .eq 87, 3) := by decide +kernel
theorem dL_law_713 : decode cL_law 713 = .ok (.iconst 0, 1) := by decide +kernel
theorem dL_law_714 : decode cL_law 714 = .ok (.ireturn, 1) := by decide +kernel
theorem dL_law_715 : decode cL_law 715 = .ok (.aload_n 1, 1) := by decide +kernel
theorem dL_law_716 : decode cL_law 716 = .ok (.aload_n 0, 1) := by decide +kernel
theorem dL_law_717 : decode cL_law 717 = .ok (.iload_n 3, 1) := by decide +kernel
theorem dL_law_718 : decode cL_law 718 = .ok (.iconst 1, 1) := by decide +kernel
theorem dL_law_719 : decode cL_law 719 = .ok (.iadd, 1) := by decide +kernel
theorem dL_law_720 : decode cL_law 720 = .ok (.iaload, 1) := by decide +kernel
theorem dL_law_721 : decode cL_law 721 = .ok (.aload_n 0, 1) := by decide +kernel
theorem dL_law_722 : decode cL_law 722 = .ok (.iload_n 3, 1) := by decide +kernel
theorem dL_law_723 : decode cL_law 723 = .ok (.iconst 2, 1) := by decide +kernel
theorem dL_law_724 : decode cL_law 724 = .ok (.iadd, 1) := by decide +kernel
theorem dL_law_725 : decode cL_law 725 = .ok (.iaload, 1) := by decide +kernel
theorem dL_law_726 : decode cL_law 726 = .ok (.invokevirtual 108, 3) := by decide +kernel
theorem dL_law_729 : decode cL_law 729 = .ok (.aload_n 2, 1) := by decide +kernel
theorem dL_law_730 : decode cL_law 730 = .ok (.aload_n 0, 1) := by decide +kernel
theorem dL_law_731 : decode cL_law 731 = .ok (.iload_n 3, 1) := by decide +kernel
theorem dL_law_732 : decode cL_law 732 = .ok (.iconst 1, 1) := by decide +kernel
theorem dL_law_733 : decode cL_law 733 = .ok (.iadd, 1) := by decide +kernel
theorem dL_law_734 : decode cL_law 734 = .ok (.iaload, 1) := by decide +kernel
theorem dL_law_735 : decode cL_law 735 = .ok (.aload_n 0, 1) := by decide +kernel
theorem dL_law_736 : decode cL_law 736 = .ok (.iload_n 3, 1) := by decide +kernel
theorem dL_law_737 : decode cL_law 737 = .ok (.iconst 2, 1) := by decide +kernel
theorem dL_law_738 : decode cL_law 738 = .ok (.iadd, 1) := by decide +kernel
theorem dL_law_739 : decode cL_law 739 = .ok (.iaload, 1) := by decide +kernel
theorem dL_law_740 : decode cL_law 740 = .ok (.invokevirtual 111, 3) := by decide +kernel
theorem dL_law_743 : decode cL_law 743 = .ok (.if_icmp .eq 54, 3) := by decide +kernel
theorem dL_law_746 : decode cL_law 746 = .ok (.iconst 0, 1) := by decide +kernel
theorem dL_law_747 : decode cL_law 747 = .ok (.ireturn, 1) := by decide +kernel
theorem dL_law_748 : decode cL_law 748 = .ok (.aload_n 1, 1) := by decide +kernel
theorem dL_law_749 : decode cL_law 749 = .ok (.invokevirtual 112, 3) := by decide +kernel
theorem dL_law_752 : decode cL_law 752 = .ok (.aload_n 2, 1) := by decide +kernel
theorem dL_law_753 : decode cL_law 753 = .ok (.invokevirtual 115, 3) := by decide +kernel
theorem dL_law_756 : decode cL_law 756 = .ok (.if_icmp .eq 41, 3) := by decide +kernel
theorem dL_law_759 : decode cL_law 759 = .ok (.iconst 0, 1) := by decide +kernel
theorem dL_law_760 : decode cL_law 760 = .ok (.ireturn, 1) := by decide +kernel
theorem dL_law_761 : decode cL_law 761 = .ok (.aload_n 1, 1) := by decide +kernel
theorem dL_law_762 : decode cL_law 762 = .ok (.invokevirtual 116, 3) := by decide +kernel
theorem dL_law_765 : decode cL_law 765 = .ok (.aload_n 2, 1) := by decide +kernel
theorem dL_law_766 : decode cL_law 766 = .ok (.invokevirtual 119, 3) := by decide +kernel
theorem dL_law_769 : decode cL_law 769 = .ok (.if_icmp .eq 28, 3) := by decide +kernel
theorem dL_law_772 : decode cL_law 772 = .ok (.iconst 0, 1) := by decide +kernel
theorem dL_law_773 : decode cL_law 773 = .ok (.ireturn, 1) := by decide +kernel
theorem dL_law_774 : decode cL_law 774 = .ok (.aload_n 1, 1) := by decide +kernel
theorem dL_law_775 : decode cL_law 775 = .ok (.aload_n 0, 1) := by decide +kernel
theorem dL_law_776 : decode cL_law 776 = .ok (.iload_n 3, 1) := by decide +kernel
theorem dL_law_777 : decode cL_law 777 = .ok (.iconst 1, 1) := by decide +kernel
theorem dL_law_778 : decode cL_law 778 = .ok (.iadd, 1) := by decide +kernel
theorem dL_law_779 : decode cL_law 779 = .ok (.iaload, 1) := by decide +kernel
theorem dL_law_780 : decode cL_law 780 = .ok (.invokevirtual 120, 3) := by decide +kernel
theorem dL_law_783 : decode cL_law 783 = .ok (.aload_n 2, 1) := by decide +kernel
theorem dL_law_784 : decode cL_law 784 = .ok (.aload_n 0, 1) := by decide +kernel
theorem dL_law_785 : decode cL_law 785 = .ok (.iload_n 3, 1) := by decide +kernel
theorem dL_law_786 : decode cL_law 786 = .ok (.iconst 1, 1) := by decide +kernel
theorem dL_law_787 : decode cL_law 787 = .ok (.iadd, 1) := by decide +kernel
theorem dL_law_788 : decode cL_law 788 = .ok (.iaload, 1) := by decide +kernel
theorem dL_law_789 : decode cL_law 789 = .ok (.invokevirtual 123, 3) := by decide +kernel
theorem dL_law_792 : decode cL_law 792 = .ok (.if_icmp .eq 5, 3) := by decide +kernel
theorem dL_law_795 : decode cL_law 795 = .ok (.iconst 0, 1) := by decide +kernel
theorem dL_law_796 : decode cL_law 796 = .ok (.ireturn, 1) := by decide +kernel
theorem dL_law_797 : decode cL_law 797 = .ok (.iinc 3 3, 3) := by decide +kernel
theorem dL_law_800 : decode cL_law 800 = .ok (.goto (-782), 3) := by decide +kernel
theorem dL_law_803 : decode cL_law 803 = .ok (.iconst 1, 1) := by decide +kernel
theorem dL_law_804 : decode cL_law 804 = .ok (.ireturn, 1) := by decide +kernel
end
section
/-! The walk's own layer: a world is a list of segments (each a list of cells); G says 'the machine, at pc, with these locals and this stack over this world, comes to Q', whatever the heap around it is. -/
abbrev Sg : Type := List va_W
def sg_ads (ss : Sg) : List (List Nat) := ss.map (fun w => w.map Prod.fst)
def PS (D : va_G) (ss : Sg) (H : Heap) : Prop := va_P D vwCl ss.flatten H
def DS (A : Nat → Prop) (as : List (List Nat)) : Prop := as.flatten.Pairwise (fun a b => a ≠ b) ∧ ∀ a ∈ as.flatten, A a
def SA (as : List (List Nat)) (sz : Nat) : Nat → Prop := fun q => q ∈ as.flatten ∨ sz ≤ q
def bI (b : Bool) : Int32 := cond b 1 0
abbrev ix (x : Int32) : Nat := x.toNatClampNeg
theorem sg_ads_flat (ss : Sg) : (sg_ads ss).flatten = ss.flatten.map Prod.fst := by
  simp [sg_ads, List.map_flatten]
theorem sg_va {A : Nat → Prop} {ss : Sg} (h : DS A (sg_ads ss)) : va_D A ss.flatten := by
  unfold DS at h
  rw [sg_ads_flat] at h
  refine ⟨fun i j p q hp hq he => ?_, fun k q hk => h.2 _ (List.mem_map.mpr ⟨q, List.mem_of_getElem? hk, rfl⟩)⟩
  have hp' : (ss.flatten.map Prod.fst)[i]? = some p.1 := by rw [List.getElem?_map, hp]; rfl
  have hq' : (ss.flatten.map Prod.fst)[j]? = some q.1 := by rw [List.getElem?_map, hq]; rfl
  obtain ⟨hi, ei⟩ := List.getElem?_eq_some_iff.mp hp'
  obtain ⟨hj, ej⟩ := List.getElem?_eq_some_iff.mp hq'
  have hpw := List.pairwise_iff_getElem.mp h.1
  rcases Nat.lt_trichotomy i j with hlt | heq | hlt
  · exact absurd (by rw [ei, ej, he]) (hpw i j hi hj hlt)
  · exact heq
  · exact absurd (by rw [ei, ej, he]) (hpw j i hj hi hlt)
/-- the flat place of a cell, and what setting it does -/
theorem sg_at : ∀ (ss : Sg) (i j : Nat) (w : va_W) (q : Nat × va_E), ss[i]? = some w → w[j]? = some q → ∃ k : Nat, ss.flatten[k]? = some q ∧ ∀ x : Nat × va_E, (ss.set i (w.set j x)).flatten = ss.flatten.set k x
  | [], i, j, w, q, h, _ => by simp at h
  | v :: ss, 0, j, w, q, h, hj => by
    have hv : v = w := by simpa using h
    subst hv
    have hlt : j < v.length := (List.getElem?_eq_some_iff.mp hj).1
    refine ⟨j, ?_, fun x => ?_⟩
    · rw [List.flatten_cons, List.getElem?_append_left hlt]; exact hj
    · rw [List.set_cons_zero, List.flatten_cons, List.flatten_cons, List.set_append_left _ _ hlt]
  | v :: ss, i + 1, j, w, q, h, hj => by
    have h' : ss[i]? = some w := by simpa using h
    obtain ⟨k, hk, hs⟩ := sg_at ss i j w q h' hj
    refine ⟨v.length + k, ?_, fun x => ?_⟩
    · rw [List.flatten_cons, List.getElem?_append_right (by omega)]
      rw [show v.length + k - v.length = k by omega]; exact hk
    · rw [List.set_cons_succ, List.flatten_cons, List.flatten_cons, hs, List.set_append_right _ _ (by omega)]
      rw [show v.length + k - v.length = k by omega]
theorem sg_ads_set {ss : Sg} {i j a : Nat} {w : va_W} {e0 e : va_E} (h : ss[i]? = some w) (hj : w[j]? = some (a, e0)) : sg_ads (ss.set i (w.set j (a, e))) = sg_ads ss := by
  unfold sg_ads
  rw [List.map_set, List.map_set]
  have h1 : (w.map Prod.fst).set j (a, e).1 = w.map Prod.fst := by
    apply List.ext_getElem?
    intro k
    rw [List.getElem?_set, List.getElem?_map]
    by_cases hk : j = k
    · subst hk
      have hlt : j < w.length := (List.getElem?_eq_some_iff.mp hj).1
      rw [if_pos rfl, if_pos (by simpa using hlt), hj]
      rfl
    · rw [if_neg hk]
  rw [h1]
  apply List.ext_getElem?
  intro k
  rw [List.getElem?_set]
  by_cases hk : i = k
  · subst hk
    have hlt : i < ss.length := (List.getElem?_eq_some_iff.mp h).1
    rw [if_pos rfl, if_pos (by simpa using hlt), List.getElem?_map, h]
    rfl
  · rw [if_neg hk]
/-- several segments put in the place of others -/
def sg_put : Sg → List Nat → Sg → Sg
  | ss, i :: is, c :: cs => sg_put (ss.set i c) is cs
  | ss, _, _ => ss
theorem sg_put_mem : ∀ (is : List Nat) (ss cs : Sg) (w : va_W), w ∈ sg_put ss is cs → w ∈ cs ∨ ∃ i : Nat, (is.length = cs.length → i ∉ is) ∧ ss[i]? = some w
  | [], ss, cs, w, h => by
    have h' : w ∈ ss := by cases cs <;> exact h
    obtain ⟨i, hi⟩ := List.getElem?_of_mem h'
    exact Or.inr ⟨i, fun _ => List.not_mem_nil, hi⟩
  | i :: is, ss, [], w, h => by
    obtain ⟨k, hk⟩ := List.getElem?_of_mem (show w ∈ ss from h)
    exact Or.inr ⟨k, fun h => by simp at h, hk⟩
  | i :: is, ss, c :: cs, w, h => by
    rcases sg_put_mem is (ss.set i c) cs w h with h1 | ⟨k, hk, hw⟩
    · exact Or.inl (List.mem_cons_of_mem _ h1)
    · rw [List.getElem?_set] at hw
      by_cases e : i = k
      · rw [if_pos e] at hw
        by_cases hlt : i < ss.length
        · rw [if_pos hlt] at hw
          have : c = w := by simpa using hw
          exact Or.inl (by rw [this]; exact List.mem_cons_self)
        · rw [if_neg hlt] at hw; cases hw
      · rw [if_neg e] at hw
        refine Or.inr ⟨k, fun hl hm => ?_, hw⟩
        rcases List.mem_cons.mp hm with h2 | h2
        · exact e h2.symm
        · exact hk (by simpa using hl) h2
theorem sg_put_ads : ∀ (is : List Nat) (ss cs cs' : Sg), is.map (fun i => ss[i]?) = cs.map some → sg_ads cs' = sg_ads cs → sg_ads (sg_put ss is cs') = sg_ads ss := by
  intro is ss cs cs' h1 h2
  have key : ∀ (is : List Nat) (as : List (List Nat)) (t : Sg), (∀ (k i : Nat) (c : va_W), is[k]? = some i → t[k]? = some c → as[i]? = some (c.map Prod.fst)) → ∀ u : Sg, sg_ads u = as → sg_ads (sg_put u is t) = as := by
    intro is
    induction is with
    | nil => intro as t _ u hu; cases t <;> exact hu
    | cons i is ih =>
      intro as t ht u hu
      cases t with
      | nil => exact hu
      | cons c t =>
        refine ih as t (fun k i' c' hk hc => ht (k + 1) i' c' (by simpa using hk) (by simpa using hc)) (u.set i c) ?_
        have h0 := ht 0 i c (by simp) (by simp)
        rw [← hu] at h0 ⊢
        unfold sg_ads at h0 ⊢
        rw [List.map_set]
        apply List.ext_getElem?
        intro k
        rw [List.getElem?_set]
        by_cases hk : i = k
        · subst hk
          have hlt := (List.getElem?_eq_some_iff.mp h0).1
          rw [if_pos rfl, if_pos hlt, h0]
        · rw [if_neg hk]
  refine key is (sg_ads ss) cs' (fun k i c hk hc => ?_) ss rfl
  have h3 : (is.map (fun i => ss[i]?))[k]? = some (ss[i]?) := by rw [List.getElem?_map, hk]; rfl
  rw [h1, List.getElem?_map] at h3
  cases hck : cs[k]? with
  | none => rw [hck] at h3; cases h3
  | some c0 =>
    rw [hck] at h3
    have h4 : ss[i]? = some c0 := by simpa using h3.symm
    have h5 : (sg_ads cs')[k]? = some (c.map Prod.fst) := by unfold sg_ads; rw [List.getElem?_map, hc]; rfl
    rw [h2] at h5
    unfold sg_ads at h5 ⊢
    rw [List.getElem?_map, hck] at h5
    rw [List.getElem?_map, h4]
    exact h5
/-- behind a call: the caller's other segments stay, the callee's are as it left them -/
theorem sg_join {A : Nat → Prop} {D : va_G} {ss cs cs' : Sg} {H H1 : Heap} (hP : PS D ss H) (hD : DS A (sg_ads ss)) (is : List Nat) (hC : is.map (fun i => ss[i]?) = cs.map some) (hl : cs'.length = cs.length)
    (hk : ∀ q : Nat, q < H.size → ¬ SA (sg_ads cs) H.size q → H1[q]? = H[q]?) (hP1 : PS D cs' H1) : PS D (sg_put ss is cs') H1 := by
  have hlen : is.length = cs'.length := by
    have := congrArg List.length hC
    simp only [List.length_map] at this
    omega
  intro k q hq
  obtain ⟨w, hw, hqw⟩ := List.mem_flatten.mp (List.mem_of_getElem? hq)
  rcases sg_put_mem is ss cs' w hw with h1 | ⟨i, hi, hwi⟩
  · obtain ⟨k', hk'⟩ := List.getElem?_of_mem (List.mem_flatten.mpr ⟨w, h1, hqw⟩)
    exact hP1 k' q hk'
  · have hi := hi hlen
    obtain ⟨k', hk'⟩ := List.getElem?_of_mem (List.mem_flatten.mpr ⟨w, List.mem_of_getElem? hwi, hqw⟩)
    have hat := hP k' q hk'
    refine hat.kept (hk q.1 hat.lt ?_)
    rintro (hm | hm)
    · rw [sg_ads_flat] at hm
      obtain ⟨q2, hq2, he2⟩ := List.mem_map.mp hm
      obtain ⟨w2, hw2, hq2w⟩ := List.mem_flatten.mp hq2
      have hw2' : some w2 ∈ is.map (fun i => ss[i]?) := by rw [hC]; exact List.mem_map.mpr ⟨w2, hw2, rfl⟩
      obtain ⟨i2, hi2, hwi2⟩ := List.mem_map.mp hw2'
      have hne : i ≠ i2 := fun e => hi (e ▸ hi2)
      have hpw := hD.1
      rw [List.pairwise_flatten] at hpw
      have hpw2 := List.pairwise_iff_getElem.mp hpw.2
      have ha : (sg_ads ss)[i]? = some (w.map Prod.fst) := by unfold sg_ads; rw [List.getElem?_map, hwi]; rfl
      have hb : (sg_ads ss)[i2]? = some (w2.map Prod.fst) := by unfold sg_ads; rw [List.getElem?_map, hwi2]; rfl
      obtain ⟨la, ea⟩ := List.getElem?_eq_some_iff.mp ha
      obtain ⟨lb, eb⟩ := List.getElem?_eq_some_iff.mp hb
      have mq : q.1 ∈ w.map Prod.fst := List.mem_map.mpr ⟨q, hqw, rfl⟩
      have mq2 : q2.1 ∈ w2.map Prod.fst := List.mem_map.mpr ⟨q2, hq2w, rfl⟩
      rcases Nat.lt_or_ge i i2 with hlt | hge
      · exact hpw2 i i2 la lb hlt q.1 (ea ▸ mq) q2.1 (eb ▸ mq2) he2.symm
      · exact hpw2 i2 i lb la (by omega) q2.1 (eb ▸ mq2) q.1 (ea ▸ mq) he2
    · exact absurd hat.lt (by omega)
theorem sg_part {A : Nat → Prop} {ss cs : Sg} (hD : DS A (sg_ads ss)) (is : List Nat) (hC : is.map (fun i => ss[i]?) = cs.map some) : ∀ a ∈ (sg_ads cs).flatten, A a := by
  intro a ha
  rw [sg_ads_flat] at ha
  obtain ⟨q2, hq2, he2⟩ := List.mem_map.mp ha
  obtain ⟨w2, hw2, hq2w⟩ := List.mem_flatten.mp hq2
  have hw2' : some w2 ∈ is.map (fun i => ss[i]?) := by rw [hC]; exact List.mem_map.mpr ⟨w2, hw2, rfl⟩
  obtain ⟨i2, -, hwi2⟩ := List.mem_map.mp hw2'
  refine hD.2 a ?_
  rw [sg_ads_flat]
  exact List.mem_map.mpr ⟨q2, List.mem_flatten.mpr ⟨w2, List.mem_of_getElem? hwi2, hq2w⟩, he2⟩
theorem sg_sub {D : va_G} {ss cs : Sg} {H : Heap} (hP : PS D ss H) (is : List Nat) (hC : is.map (fun i => ss[i]?) = cs.map some) : PS D cs H := by
  intro k q hq
  obtain ⟨w2, hw2, hq2w⟩ := List.mem_flatten.mp (List.mem_of_getElem? hq)
  have hw2' : some w2 ∈ is.map (fun i => ss[i]?) := by rw [hC]; exact List.mem_map.mpr ⟨w2, hw2, rfl⟩
  obtain ⟨i2, -, hwi2⟩ := List.mem_map.mp hw2'
  obtain ⟨k', hk'⟩ := List.getElem?_of_mem (List.mem_flatten.mpr ⟨w2, List.mem_of_getElem? hwi2, hq2w⟩)
  exact hP k' q hk'
def sg_nd : List Nat → Bool
  | [] => true
  | i :: is => (!is.contains i) && sg_nd is
theorem sg_nd_pw : ∀ (is : List Nat), sg_nd is = true → is.Pairwise (fun a b => a ≠ b)
  | [], _ => List.Pairwise.nil
  | i :: is, h => by
    simp only [sg_nd, Bool.and_eq_true, Bool.not_eq_true', List.contains_eq_mem, decide_eq_false_iff_not] at h
    exact List.Pairwise.cons (fun b hb e => h.1 (e ▸ hb)) (sg_nd_pw is h.2)
theorem sg_sub_ds {A : Nat → Prop} {ss cs : Sg} (hD : DS A (sg_ads ss)) (is : List Nat) (hn : sg_nd is = true) (hC : is.map (fun i => ss[i]?) = cs.map some) : DS (fun _ => True) (sg_ads cs) := by
  refine ⟨?_, fun _ _ => trivial⟩
  have hpw := hD.1
  rw [List.pairwise_flatten] at hpw ⊢
  have hget : ∀ (k : Nat) (b : List Nat), (sg_ads cs)[k]? = some b → ∃ i : Nat, is[k]? = some i ∧ (sg_ads ss)[i]? = some b := by
    intro k b hk
    unfold sg_ads at hk
    rw [List.getElem?_map] at hk
    cases hck : cs[k]? with
    | none => rw [hck] at hk; cases hk
    | some c0 =>
      rw [hck] at hk
      have h3 : (cs.map some)[k]? = some (some c0) := by rw [List.getElem?_map, hck]; rfl
      rw [← hC, List.getElem?_map] at h3
      cases hik : is[k]? with
      | none => rw [hik] at h3; cases h3
      | some i =>
        rw [hik] at h3
        have h4 : ss[i]? = some c0 := by simpa using h3
        refine ⟨i, rfl, ?_⟩
        unfold sg_ads
        rw [List.getElem?_map, h4]
        exact hk
  refine ⟨fun b hb => ?_, ?_⟩
  · obtain ⟨k, hk⟩ := List.getElem?_of_mem hb
    obtain ⟨i, -, hi⟩ := hget k b hk
    exact hpw.1 b (List.mem_of_getElem? hi)
  · rw [List.pairwise_iff_getElem]
    intro x y hx hy hxy
    obtain ⟨i, hi, ei⟩ := hget x _ (List.getElem?_eq_getElem hx)
    obtain ⟨j, hj, ej⟩ := hget y _ (List.getElem?_eq_getElem hy)
    obtain ⟨lx, fx⟩ := List.getElem?_eq_some_iff.mp hi
    obtain ⟨ly, fy⟩ := List.getElem?_eq_some_iff.mp hj
    have hne : i ≠ j := by rw [← fx, ← fy]; exact List.pairwise_iff_getElem.mp (sg_nd_pw is hn) x y lx ly hxy
    obtain ⟨li, gi⟩ := List.getElem?_eq_some_iff.mp ei
    obtain ⟨lj, gj⟩ := List.getElem?_eq_some_iff.mp ej
    have hpw2 := List.pairwise_iff_getElem.mp hpw.2
    rw [← gi, ← gj]
    rcases Nat.lt_or_ge i j with hlt | hge
    · exact hpw2 i j li lj hlt
    · exact fun a ha b hb e => hpw2 j i lj li (by omega) b hb a ha e.symm
end
section
theorem vp_cell_congr {cy : ClassId} {n : Nat} {f g : Nat → Int32} (h : ∀ k, k < n → f k = g k) : vp_cell cy (n, .inl f) = vp_cell cy (n, .inl g) := by
  show arrV cy n (fun j => .int (f j)) = arrV cy n (fun j => .int (g j))
  unfold arrV
  have e : (Array.ofFn (n := n) fun j => Value.int (f j.val)) = Array.ofFn (n := n) fun j => Value.int (g j.val) := congrArg _ (funext fun j => by rw [h j.val j.isLt])
  rw [e]
/-! G: the judgement of a walk over segments, and a row for each instruction -/
def TW : List Cond := lw_tbl.filter goodWord
theorem tw_in {w : Cond} (h : w ∈ lw_tbl) (hg : goodWord w = true) : w ∈ TW := List.mem_filter.mpr ⟨h, hg⟩
theorem tw_good {w : Cond} (h : w ∈ TW) : (w.onTables && w.keeps) = true ∨ ∃ ty, w = .arrayClass ty := good_of_word (List.mem_filter.mp h).2
abbrev nwA : Cond := .methodLinkNest RX3 9 yX1_init RX3
abbrev nwB : Cond := .methodLinkNest RX3 28 yX2_init RX3
abbrev nwC : Cond := .methodLinkNest RX3 35 yX0_init RX3
abbrev nwD : Cond := .methodLinkNest RX1 66 yX3_isRoom RX3
def NW (U : State) : Prop := va_Nw nwA U ∧ va_Nw nwB U ∧ va_Nw nwC U ∧ va_Nw nwD U
def KN (D : va_G) (cy : ClassId) (U : State) : Prop := va_K D vwCl [(cy, .int)] U ∧ NW U
theorem KN.warm {D : va_G} {cy : ClassId} {s U : State} (h : KN D cy s) (hW : s.WarmedH U.vm) : KN D cy U :=
  ⟨va_K.moved hW.alike h.1, va_Nw.warmM hW h.2.1, va_Nw.warmM hW h.2.2.1, va_Nw.warmM hW h.2.2.2.1, va_Nw.warmM hW h.2.2.2.2⟩
theorem KN.same {D : va_G} {cy : ClassId} {s U : State} (h : KN D cy s) (e : s.vm = U.vm) : KN D cy U :=
  ⟨va_K.moved (by rw [e]; exact Vm.Alike.refl U.vm) h.1, va_Nw.same rfl e h.2.1, va_Nw.same rfl e h.2.2.1, va_Nw.same rfl e h.2.2.2.1, va_Nw.same rfl e h.2.2.2.2⟩
def Cx (p : Program) (s : State) (m : MethodId) (args : Array Value) (meth : Method) (c : Code) (cc : ByteArray) (own : String) (nL : Nat) (ret : Option FieldType) (D : va_G) (cy : ClassId) (A : Nat → Prop) : Prop :=
  p.tables.exec = Jvm.exec ∧ c.code = cc ∧ c.maxLocals = nL ∧ s.vm.findClass own = some m.cls ∧ (∀ w ∈ TW, w.before args s = true) ∧ meth.sig.returnType = ret ∧ meth.locks = false ∧ KN D cy s ∧ (∀ q : Nat, s.heap.size ≤ q → A q)
def G (p : Program) (l : Launch) (e : Env) (R : Room) (s : State) (m : MethodId) (args : Array Value) (below : List Frame) (meth : Method) (c : Code) (nL : Nat) (D : va_G) (A : Nat → Prop) (cells slots : Nat) (Q : State → Prop) (ss : Sg) (pc : Nat) (lv : List (Nat × Value)) (st : List Value) : Prop :=
  ∀ (H : Heap) (locs : List Loc) (ls : Array Slot), PS D ss H → DS A (sg_ads ss) → va_S A s.heap H locs → lv_has ls nL lv → W p l e R s m args below meth c H locs cells slots Q (F0 m pc ls st)
/-- a field's link: instruction's index idx in a method of class own names field k of class ci -/
def FL (own : String) (idx ci k : Nat) : Prop := ∃ (C : String) (T : u_T) (N : Nat), vwCl[ci]? = some (C, T, N) ∧ (∀ w ∈ u_ws C T N, w ∈ TW) ∧ k < N ∧ (T k).1 = C ∧ Cond.fieldLink own idx C (T k).2.1 (T k).2.2.1 ∈ TW
def FP (own : String) (idx ci k : Nat) (ty : FieldType) : Prop := ∃ (C : String) (T : u_T) (N : Nat) (ty0 : Nat → FieldType), vwCl[ci]? = some (C, T, N) ∧ (∀ w ∈ u_ws C T N, w ∈ TW) ∧ k < N ∧ (T k).1 = C ∧ Cond.fieldLink own idx C (T k).2.1 (T k).2.2.1 ∈ TW ∧ (∀ j, j < N → parseFieldDescriptor (T j).2.2.1 = some (ty0 j)) ∧ (∀ a, a < N → ∀ b, b < N → a ≠ b → (T a).2.1 ≠ (T b).2.1) ∧ (T k).2.2.2 = false ∧ parseFieldDescriptor (T k).2.2.1 = some ty
/-- a call's link -/
def VL (own : String) (idx : Nat) (y : MethodName) (bytes : ByteArray) (maxL : Nat) (ret : Option FieldType) (n : Nat) : Prop := Cond.methodLink own idx y ∈ TW ∧ Cond.instanceMethod y ∈ TW ∧ Cond.selects y.cls y y ∈ TW ∧ Cond.initialized y.cls ∈ TW ∧ Cond.code y bytes maxL ret ∈ TW ∧ y.cls ≠ "java/lang/invoke/MethodHandle" ∧ y.cls ≠ "java/lang/invoke/VarHandle" ∧ (parseMethodDescriptor y.desc).map (fun d => d.parameters.length) = some n
def SL (own : String) (idx : Nat) (y : MethodName) (bytes : ByteArray) (maxL : Nat) (ret : Option FieldType) (n : Nat) : Prop := Cond.methodLink own idx y ∈ TW ∧ Cond.static y ∈ TW ∧ Cond.initialized y.cls ∈ TW ∧ Cond.code y bytes maxL ret ∈ TW ∧ y.cls ≠ "java/lang/invoke/MethodHandle" ∧ y.cls ≠ "java/lang/invoke/VarHandle" ∧ (parseMethodDescriptor y.desc).map (fun d => d.parameters.length) = some n
abbrev wdY (y : MethodName) (bytes : ByteArray) (maxL : Nat) (ret : Option FieldType) : List Cond := .code y bytes maxL ret :: TW
/-- contracts: a method that answers an int (a boolean), and one that answers nothing; the world cs becomes cs', at the same addresses -/
def preY (D : va_G) (cy : ClassId) (av : List Value) (cs : Sg) (sz : Nat) : Array Value → State → Prop := va_Pc av (fun U => U.heap.size = sz ∧ PS D cs U.heap ∧ KN D cy U ∧ DS (fun _ => True) (sg_ads cs))
def CtI (l : Launch) (y : MethodName) (bytes : ByteArray) (maxL : Nat) (rt : FieldType) (fr lo : Nat) (D : va_G) (cy : ClassId) (av : List Value) (cs cs' : Sg) (r : Int32) : Prop :=
  ∀ sz : Nat, Met l y (wdY y bytes maxL (some rt)) { frames := fr, cells := 0, slots := 0, locals := lo } (preY D cy av cs sz) (va_Qi (fun (x : Int32) (_ : Unit) => x = r) (fun _ t => PS D cs' t.heap) (SA (sg_ads cs) sz)) 0 0 (SA (sg_ads cs) sz)
def CtV (l : Launch) (y : MethodName) (bytes : ByteArray) (maxL : Nat) (fr lo : Nat) (D : va_G) (cy : ClassId) (av : List Value) (cs cs' : Sg) : Prop :=
  ∀ sz : Nat, Met l y (wdY y bytes maxL none) { frames := fr, cells := 0, slots := 0, locals := lo } (preY D cy av cs sz) (va_Qv (fun (_ : Unit) => True) (fun _ t => PS D cs' t.heap) (SA (sg_ads cs) sz)) 0 0 (SA (sg_ads cs) sz)
def QI (below : List Frame) (args : Array Value) (s : State) (D : va_G) (A : Nat → Prop) (cs' : Sg) (r : Int32) : State → Prop := MQ below (va_Qi (fun (x : Int32) (_ : Unit) => x = r) (fun _ t => PS D cs' t.heap) A) args s 0 0 A
def QV (below : List Frame) (args : Array Value) (s : State) (D : va_G) (A : Nat → Prop) (cs' : Sg) : State → Prop := MQ below (va_Qv (fun (_ : Unit) => True) (fun _ t => PS D cs' t.heap) A) args s 0 0 A
theorem preY_blind {D : va_G} {cy : ClassId} {av : List Value} {cs : Sg} {sz : Nat} : FrameBlind (preY D cy av cs sz) := by
  intro a U g mk ⟨h1, h2, h3, h4, h5⟩
  exact ⟨h1, h2, h3, h4.same rfl, h5⟩
theorem SA_ds {as : List (List Nat)} {sz : Nat} (h : DS (fun _ => True) as) : DS (SA as sz) as := ⟨h.1, fun _ ha => Or.inl ha⟩
theorem ctI_of {l : Launch} {y : MethodName} {bytes : ByteArray} {maxL : Nat} {rt : FieldType} {fr lo : Nat} {D : va_G} {cy : ClassId} {av : List Value} {cs cs' : Sg} {r : Int32} (hy : plainName y.cls = true) (hn : (lg_sl av).length ≤ maxL)
    (body : ∀ (p : Program) (e : Env) (s : State) (m : MethodId) (args : Array Value) (below : List Frame) (meth : Method) (c : Code) (A : Nat → Prop), Cx p s m args meth c bytes y.cls maxL (some rt) D cy A →
      G p l e { frames := fr, cells := 0, slots := 0, locals := lo } s m args below meth c maxL D A 0 0 (QI below args s D A cs' r) cs 0 (lv_args 0 av) []) : CtI l y bytes maxL rt fr lo D cy av cs cs' r := by
  intro sz
  refine Met.ofW (cc := bytes) (maxL := maxL) (ret := some rt) hy rfl ?_
  intro p e s m args below meth c s₁ B hml hv
  obtain ⟨rfl, hsz, hP, hK, hD0⟩ := hv
  subst hsz
  have hts := atoms_spec (ws := wdY y bytes maxL (some rt)) B.pre
  have X : Cx p s m av.toArray meth c bytes y.cls maxL (some rt) D cy (SA (sg_ads cs) s.heap.size) :=
    ⟨B.exec, B.bytes, hml, findClass_of_methodNamed B.named, fun w hw => hts w (List.mem_cons_of_mem _ hw), B.returns, B.notSynchronized, hK, fun q h => Or.inr h⟩
  have hl := lv_entry av (n := maxL) hn
  rw [lg_entry_eq]
  exact body p e s m av.toArray below meth c _ X s.heap [] _ hP (SA_ds hD0) va_S.rf hl
theorem ctV_of {l : Launch} {y : MethodName} {bytes : ByteArray} {maxL : Nat} {fr lo : Nat} {D : va_G} {cy : ClassId} {av : List Value} {cs cs' : Sg} (hy : plainName y.cls = true) (hn : (lg_sl av).length ≤ maxL)
    (body : ∀ (p : Program) (e : Env) (s : State) (m : MethodId) (args : Array Value) (below : List Frame) (meth : Method) (c : Code) (A : Nat → Prop), Cx p s m args meth c bytes y.cls maxL none D cy A →
      G p l e { frames := fr, cells := 0, slots := 0, locals := lo } s m args below meth c maxL D A 0 0 (QV below args s D A cs') cs 0 (lv_args 0 av) []) : CtV l y bytes maxL fr lo D cy av cs cs' := by
  intro sz
  refine Met.ofW (cc := bytes) (maxL := maxL) (ret := none) hy rfl ?_
  intro p e s m args below meth c s₁ B hml hv
  obtain ⟨rfl, hsz, hP, hK, hD0⟩ := hv
  subst hsz
  have hts := atoms_spec (ws := wdY y bytes maxL none) B.pre
  have X : Cx p s m av.toArray meth c bytes y.cls maxL none D cy (SA (sg_ads cs) s.heap.size) :=
    ⟨B.exec, B.bytes, hml, findClass_of_methodNamed B.named, fun w hw => hts w (List.mem_cons_of_mem _ hw), B.returns, B.notSynchronized, hK, fun q h => Or.inr h⟩
  have hl := lv_entry av (n := maxL) hn
  rw [lg_entry_eq]
  exact body p e s m av.toArray below meth c _ X s.heap [] _ hP (SA_ds hD0) va_S.rf hl
section GR
variable {p : Program} {l : Launch} {e : Env} {R : Room} {s : State} {m : MethodId} {args : Array Value} {below : List Frame} {meth : Method} {c : Code} {cc : ByteArray} {own : String} {nL : Nat} {ret : Option FieldType} {D : va_G} {cy : ClassId} {A : Nat → Prop} {cells slots : Nat} {Q : State → Prop} {ss ss' : Sg} {pc : Nat} {lv lv' : List (Nat × Value)} {st rest : List Value}

theorem g_iconst (X : Cx p s m args meth c cc own nL ret D cy A) {n : Int} {v : Int32} (hd : decode cc pc = .ok (.iconst n, 1)) (hv : Int32.ofInt n = v) (kk : G p l e R s m args below meth c nL D A cells slots Q ss (pc + 1) lv (.int v :: st)) : G p l e R s m args below meth c nL D A cells slots Q ss (pc) lv (st) := fun H locs ls hP hD hS hl => lv_iconst X.1 X.2.1 hd hv (kk H locs ls hP hD hS hl)
theorem g_bipush (X : Cx p s m args meth c cc own nL ret D cy A) {n : Int} {v : Int32} (hd : decode cc pc = .ok (.bipush n, 2)) (hv : (Int8.ofInt n).toInt32 = v) (kk : G p l e R s m args below meth c nL D A cells slots Q ss (pc + 2) lv (.int v :: st)) : G p l e R s m args below meth c nL D A cells slots Q ss (pc) lv (st) := fun H locs ls hP hD hS hl => lv_bipush X.1 X.2.1 hd hv (kk H locs ls hP hD hS hl)
theorem g_sipush (X : Cx p s m args meth c cc own nL ret D cy A) {n : Int} {v : Int32} (hd : decode cc pc = .ok (.sipush n, 3)) (hv : (Int16.ofInt n).toInt32 = v) (kk : G p l e R s m args below meth c nL D A cells slots Q ss (pc + 3) lv (.int v :: st)) : G p l e R s m args below meth c nL D A cells slots Q ss (pc) lv (st) := fun H locs ls hP hD hS hl => lv_sipush X.1 X.2.1 hd hv (kk H locs ls hP hD hS hl)
theorem g_ldc (X : Cx p s m args meth c cc own nL ret D cy A) {i : Nat} {v : Int32} (hd : decode cc pc = .ok (.ldc i, 2)) (hc : Jvm.Cond.constant own i v ∈ TW) (kk : G p l e R s m args below meth c nL D A cells slots Q ss (pc + 2) lv (.int v :: st)) : G p l e R s m args below meth c nL D A cells slots Q ss (pc) lv (st) := fun H locs ls hP hD hS hl => lv_ldc X.1 X.2.1 X.2.2.2.1 (X.2.2.2.2.1 _ hc) hd (kk H locs ls hP hD hS hl)
theorem g_iload_n (X : Cx p s m args meth c cc own nL ret D cy A) {k : Fin 4} {x : Int32} (hd : decode cc pc = .ok (.iload_n k, 1)) (q : Nat) (hq : lv[q]? = some ((k : Nat), .int x)) (kk : G p l e R s m args below meth c nL D A cells slots Q ss (pc + 1) lv (.int x :: st)) : G p l e R s m args below meth c nL D A cells slots Q ss (pc) lv (st) := fun H locs ls hP hD hS hl => lv_iload_n X.1 X.2.1 hd rfl (lv_at hl q hq) (kk H locs ls hP hD hS hl)
theorem g_iload (X : Cx p s m args meth c cc own nL ret D cy A) {i : Nat} {x : Int32} (hd : decode cc pc = .ok (.iload i, 2)) (q : Nat) (hq : lv[q]? = some (i, .int x)) (kk : G p l e R s m args below meth c nL D A cells slots Q ss (pc + 2) lv (.int x :: st)) : G p l e R s m args below meth c nL D A cells slots Q ss (pc) lv (st) := fun H locs ls hP hD hS hl => lv_iload X.1 X.2.1 hd (lv_at hl q hq) (kk H locs ls hP hD hS hl)
theorem g_istore_n (X : Cx p s m args meth c cc own nL ret D cy A) {k : Fin 4} {i : Nat} {x : Int32} (hd : decode cc pc = .ok (.istore_n k, 1)) (hk : (k : Nat) = i) (hn : Nat.blt i nL = true) (hl : (i, Value.int x) :: lv.filter (fun q => !(q.1 == i) && !(q.1 + 1 == i && q.2.category == 2)) = lv') (kk : G p l e R s m args below meth c nL D A cells slots Q ss (pc + 1) lv' (st)) : G p l e R s m args below meth c nL D A cells slots Q ss (pc) lv (.int x :: st) := fun H locs ls hP hD hS hls => lv_istore_n X.1 X.2.1 hd hk hls (Nat.le_of_ble_eq_true hn) hl (fun ls hl => (kk H locs ls hP hD hS hl))
theorem g_istore (X : Cx p s m args meth c cc own nL ret D cy A) {i : Nat} {x : Int32} (hd : decode cc pc = .ok (.istore i, 2)) (hn : Nat.blt i nL = true) (hl : (i, Value.int x) :: lv.filter (fun q => !(q.1 == i) && !(q.1 + 1 == i && q.2.category == 2)) = lv') (kk : G p l e R s m args below meth c nL D A cells slots Q ss (pc + 2) lv' (st)) : G p l e R s m args below meth c nL D A cells slots Q ss (pc) lv (.int x :: st) := fun H locs ls hP hD hS hls => lv_istore X.1 X.2.1 hd hls (Nat.le_of_ble_eq_true hn) hl (fun ls hl => (kk H locs ls hP hD hS hl))
theorem g_aload_n (X : Cx p s m args meth c cc own nL ret D cy A) {k : Fin 4} {x : Nat} (hd : decode cc pc = .ok (.aload_n k, 1)) (q : Nat) (hq : lv[q]? = some ((k : Nat), .ref x)) (kk : G p l e R s m args below meth c nL D A cells slots Q ss (pc + 1) lv (.ref x :: st)) : G p l e R s m args below meth c nL D A cells slots Q ss (pc) lv (st) := fun H locs ls hP hD hS hl => lv_aload_n X.1 X.2.1 hd rfl (lv_at hl q hq) (kk H locs ls hP hD hS hl)
theorem g_aload (X : Cx p s m args meth c cc own nL ret D cy A) {i : Nat} {x : Nat} (hd : decode cc pc = .ok (.aload i, 2)) (q : Nat) (hq : lv[q]? = some (i, .ref x)) (kk : G p l e R s m args below meth c nL D A cells slots Q ss (pc + 2) lv (.ref x :: st)) : G p l e R s m args below meth c nL D A cells slots Q ss (pc) lv (st) := fun H locs ls hP hD hS hl => lv_aload X.1 X.2.1 hd (lv_at hl q hq) (kk H locs ls hP hD hS hl)
theorem g_astore_n (X : Cx p s m args meth c cc own nL ret D cy A) {k : Fin 4} {i : Nat} {x : Nat} (hd : decode cc pc = .ok (.astore_n k, 1)) (hk : (k : Nat) = i) (hn : Nat.blt i nL = true) (hl : (i, Value.ref x) :: lv.filter (fun q => !(q.1 == i) && !(q.1 + 1 == i && q.2.category == 2)) = lv') (kk : G p l e R s m args below meth c nL D A cells slots Q ss (pc + 1) lv' (st)) : G p l e R s m args below meth c nL D A cells slots Q ss (pc) lv (.ref x :: st) := fun H locs ls hP hD hS hls => lv_astore_n X.1 X.2.1 hd hk hls (Nat.le_of_ble_eq_true hn) hl (fun ls hl => (kk H locs ls hP hD hS hl))
theorem g_astore (X : Cx p s m args meth c cc own nL ret D cy A) {i : Nat} {x : Nat} (hd : decode cc pc = .ok (.astore i, 2)) (hn : Nat.blt i nL = true) (hl : (i, Value.ref x) :: lv.filter (fun q => !(q.1 == i) && !(q.1 + 1 == i && q.2.category == 2)) = lv') (kk : G p l e R s m args below meth c nL D A cells slots Q ss (pc + 2) lv' (st)) : G p l e R s m args below meth c nL D A cells slots Q ss (pc) lv (.ref x :: st) := fun H locs ls hP hD hS hls => lv_astore X.1 X.2.1 hd hls (Nat.le_of_ble_eq_true hn) hl (fun ls hl => (kk H locs ls hP hD hS hl))
theorem g_iinc (X : Cx p s m args meth c cc own nL ret D cy A) {i : Nat} {n : Int} {x v : Int32} (hd : decode cc pc = .ok (.iinc i n, 3)) (q : Nat) (hq : lv[q]? = some (i, .int x)) (hv : x + Int32.ofInt n = v) (hn : Nat.blt i nL = true) (hl : (i, Value.int v) :: lv.filter (fun q => !(q.1 == i) && !(q.1 + 1 == i && q.2.category == 2)) = lv') (kk : G p l e R s m args below meth c nL D A cells slots Q ss (pc + 3) lv' (st)) : G p l e R s m args below meth c nL D A cells slots Q ss (pc) lv (st) := fun H locs ls hP hD hS hls => lv_iinc X.1 X.2.1 hd hls hq hv (Nat.le_of_ble_eq_true hn) hl (fun ls hl => (kk H locs ls hP hD hS hl))
theorem g_iadd (X : Cx p s m args meth c cc own nL ret D cy A) {x y v : Int32} (hd : decode cc pc = .ok (.iadd, 1)) (hv : x + y = v) (kk : G p l e R s m args below meth c nL D A cells slots Q ss (pc + 1) lv (.int v :: st)) : G p l e R s m args below meth c nL D A cells slots Q ss (pc) lv (.int y :: .int x :: st) := fun H locs ls hP hD hS hl => lv_iadd X.1 X.2.1 hd (by rw [hv]; exact (kk H locs ls hP hD hS hl))
theorem g_isub (X : Cx p s m args meth c cc own nL ret D cy A) {x y v : Int32} (hd : decode cc pc = .ok (.isub, 1)) (hv : x - y = v) (kk : G p l e R s m args below meth c nL D A cells slots Q ss (pc + 1) lv (.int v :: st)) : G p l e R s m args below meth c nL D A cells slots Q ss (pc) lv (.int y :: .int x :: st) := fun H locs ls hP hD hS hl => lv_isub X.1 X.2.1 hd (by rw [hv]; exact (kk H locs ls hP hD hS hl))
theorem g_imul (X : Cx p s m args meth c cc own nL ret D cy A) {x y v : Int32} (hd : decode cc pc = .ok (.imul, 1)) (hv : x * y = v) (kk : G p l e R s m args below meth c nL D A cells slots Q ss (pc + 1) lv (.int v :: st)) : G p l e R s m args below meth c nL D A cells slots Q ss (pc) lv (.int y :: .int x :: st) := fun H locs ls hP hD hS hl => lv_imul X.1 X.2.1 hd (by rw [hv]; exact (kk H locs ls hP hD hS hl))
theorem g_iand (X : Cx p s m args meth c cc own nL ret D cy A) {x y v : Int32} (hd : decode cc pc = .ok (.iand, 1)) (hv : x &&& y = v) (kk : G p l e R s m args below meth c nL D A cells slots Q ss (pc + 1) lv (.int v :: st)) : G p l e R s m args below meth c nL D A cells slots Q ss (pc) lv (.int y :: .int x :: st) := fun H locs ls hP hD hS hl => lv_iand X.1 X.2.1 hd (by rw [hv]; exact (kk H locs ls hP hD hS hl))
theorem g_ior (X : Cx p s m args meth c cc own nL ret D cy A) {x y v : Int32} (hd : decode cc pc = .ok (.ior, 1)) (hv : x ||| y = v) (kk : G p l e R s m args below meth c nL D A cells slots Q ss (pc + 1) lv (.int v :: st)) : G p l e R s m args below meth c nL D A cells slots Q ss (pc) lv (.int y :: .int x :: st) := fun H locs ls hP hD hS hl => lv_ior X.1 X.2.1 hd (by rw [hv]; exact (kk H locs ls hP hD hS hl))
theorem g_ixor (X : Cx p s m args meth c cc own nL ret D cy A) {x y v : Int32} (hd : decode cc pc = .ok (.ixor, 1)) (hv : x ^^^ y = v) (kk : G p l e R s m args below meth c nL D A cells slots Q ss (pc + 1) lv (.int v :: st)) : G p l e R s m args below meth c nL D A cells slots Q ss (pc) lv (.int y :: .int x :: st) := fun H locs ls hP hD hS hl => lv_ixor X.1 X.2.1 hd (by rw [hv]; exact (kk H locs ls hP hD hS hl))
theorem g_ishl (X : Cx p s m args meth c cc own nL ret D cy A) {x y v : Int32} (hd : decode cc pc = .ok (.ishl, 1)) (hv : x <<< (y &&& 31) = v) (kk : G p l e R s m args below meth c nL D A cells slots Q ss (pc + 1) lv (.int v :: st)) : G p l e R s m args below meth c nL D A cells slots Q ss (pc) lv (.int y :: .int x :: st) := fun H locs ls hP hD hS hl => lv_ishl X.1 X.2.1 hd (by rw [hv]; exact (kk H locs ls hP hD hS hl))
theorem g_ishr (X : Cx p s m args meth c cc own nL ret D cy A) {x y v : Int32} (hd : decode cc pc = .ok (.ishr, 1)) (hv : x >>> (y &&& 31) = v) (kk : G p l e R s m args below meth c nL D A cells slots Q ss (pc + 1) lv (.int v :: st)) : G p l e R s m args below meth c nL D A cells slots Q ss (pc) lv (.int y :: .int x :: st) := fun H locs ls hP hD hS hl => lv_ishr X.1 X.2.1 hd (by rw [hv]; exact (kk H locs ls hP hD hS hl))
theorem g_idiv (X : Cx p s m args meth c cc own nL ret D cy A) {x y v : Int32} (hd : decode cc pc = .ok (.idiv, 1)) (hne : ¬ y = 0) (hv : x / y = v) (kk : G p l e R s m args below meth c nL D A cells slots Q ss (pc + 1) lv (.int v :: st)) : G p l e R s m args below meth c nL D A cells slots Q ss (pc) lv (.int y :: .int x :: st) := fun H locs ls hP hD hS hl => lv_idiv X.1 X.2.1 hd hne (by rw [hv]; exact (kk H locs ls hP hD hS hl))
theorem g_irem (X : Cx p s m args meth c cc own nL ret D cy A) {x y v : Int32} (hd : decode cc pc = .ok (.irem, 1)) (hne : ¬ y = 0) (hv : x - x / y * y = v) (kk : G p l e R s m args below meth c nL D A cells slots Q ss (pc + 1) lv (.int v :: st)) : G p l e R s m args below meth c nL D A cells slots Q ss (pc) lv (.int y :: .int x :: st) := fun H locs ls hP hD hS hl => lv_irem X.1 X.2.1 hd hne (by rw [hv]; exact (kk H locs ls hP hD hS hl))
theorem g_ineg (X : Cx p s m args meth c cc own nL ret D cy A) {x v : Int32} (hd : decode cc pc = .ok (.ineg, 1)) (hv : -x = v) (kk : G p l e R s m args below meth c nL D A cells slots Q ss (pc + 1) lv (.int v :: st)) : G p l e R s m args below meth c nL D A cells slots Q ss (pc) lv (.int x :: st) := fun H locs ls hP hD hS hl => lv_ineg X.1 X.2.1 hd (by rw [hv]; exact (kk H locs ls hP hD hS hl))
theorem g_iushr (X : Cx p s m args meth c cc own nL ret D cy A) {x y v : Int32} (hd : decode cc pc = .ok (.iushr, 1)) (hv : (x.toUInt32 >>> (y.toUInt32 &&& Int32.toUInt32 31)).toInt32 = v) (kk : G p l e R s m args below meth c nL D A cells slots Q ss (pc + 1) lv (.int v :: st)) : G p l e R s m args below meth c nL D A cells slots Q ss (pc) lv (.int y :: .int x :: st) := fun H locs ls hP hD hS hl => lv_iushr X.1 X.2.1 hd hv (kk H locs ls hP hD hS hl)
theorem g_dup (X : Cx p s m args meth c cc own nL ret D cy A) {va : Value} (hd : decode cc pc = .ok (.dup, 1)) (h1 : va.category = 1) (kk : G p l e R s m args below meth c nL D A cells slots Q ss (pc + 1) lv (va :: va :: st)) : G p l e R s m args below meth c nL D A cells slots Q ss (pc) lv (va :: st) := fun H locs ls hP hD hS hl => lv_dup X.1 X.2.1 hd h1 (kk H locs ls hP hD hS hl)
theorem g_pop (X : Cx p s m args meth c cc own nL ret D cy A) {va : Value} (hd : decode cc pc = .ok (.pop, 1)) (h1 : va.category = 1) (kk : G p l e R s m args below meth c nL D A cells slots Q ss (pc + 1) lv (st)) : G p l e R s m args below meth c nL D A cells slots Q ss (pc) lv (va :: st) := fun H locs ls hP hD hS hl => lv_pop X.1 X.2.1 hd h1 (kk H locs ls hP hD hS hl)
theorem g_dup_x1 (X : Cx p s m args meth c cc own nL ret D cy A) {va vb : Value} (hd : decode cc pc = .ok (.dup_x1, 1)) (h1 : va.category = 1) (h2 : vb.category = 1) (kk : G p l e R s m args below meth c nL D A cells slots Q ss (pc + 1) lv (va :: vb :: va :: st)) : G p l e R s m args below meth c nL D A cells slots Q ss (pc) lv (va :: vb :: st) := fun H locs ls hP hD hS hl => lv_dup_x1 X.1 X.2.1 hd h1 h2 (kk H locs ls hP hD hS hl)
theorem g_dup2 (X : Cx p s m args meth c cc own nL ret D cy A) {va vb : Value} (hd : decode cc pc = .ok (.dup2, 1)) (h1 : va.category = 1) (h2 : vb.category = 1) (kk : G p l e R s m args below meth c nL D A cells slots Q ss (pc + 1) lv (va :: vb :: va :: vb :: st)) : G p l e R s m args below meth c nL D A cells slots Q ss (pc) lv (va :: vb :: st) := fun H locs ls hP hD hS hl => lv_dup2_11 X.1 X.2.1 hd h1 h2 (kk H locs ls hP hD hS hl)
theorem g_if_eq (X : Cx p s m args meth c cc own nL ret D cy A) {x : Int32} {off : Int} {tgt : Nat} (hd : decode cc pc = .ok (.ifCond .eq off, 3)) (ht : (pc : Int) + off = (tgt : Int)) (k1 : x = 0 → G p l e R s m args below meth c nL D A cells slots Q ss (tgt) lv (st)) (k2 : x ≠ 0 → G p l e R s m args below meth c nL D A cells slots Q ss (pc + 3) lv (st)) : G p l e R s m args below meth c nL D A cells slots Q ss (pc) lv (.int x :: st) := fun H locs ls hP hD hS hl => lv_if_eq X.1 X.2.1 hd ht (fun h => k1 h H locs ls hP hD hS hl) (fun h => k2 h H locs ls hP hD hS hl)
theorem g_icmp_eq (X : Cx p s m args meth c cc own nL ret D cy A) {x y : Int32} {off : Int} {tgt : Nat} (hd : decode cc pc = .ok (.if_icmp .eq off, 3)) (ht : (pc : Int) + off = (tgt : Int)) (k1 : x = y → G p l e R s m args below meth c nL D A cells slots Q ss (tgt) lv (st)) (k2 : x ≠ y → G p l e R s m args below meth c nL D A cells slots Q ss (pc + 3) lv (st)) : G p l e R s m args below meth c nL D A cells slots Q ss (pc) lv (.int y :: .int x :: st) := fun H locs ls hP hD hS hl => lv_icmp_eq X.1 X.2.1 hd ht (fun h => k1 h H locs ls hP hD hS hl) (fun h => k2 h H locs ls hP hD hS hl)
theorem g_if_ne (X : Cx p s m args meth c cc own nL ret D cy A) {x : Int32} {off : Int} {tgt : Nat} (hd : decode cc pc = .ok (.ifCond .ne off, 3)) (ht : (pc : Int) + off = (tgt : Int)) (k1 : x ≠ 0 → G p l e R s m args below meth c nL D A cells slots Q ss (tgt) lv (st)) (k2 : x = 0 → G p l e R s m args below meth c nL D A cells slots Q ss (pc + 3) lv (st)) : G p l e R s m args below meth c nL D A cells slots Q ss (pc) lv (.int x :: st) := fun H locs ls hP hD hS hl => lv_if_ne X.1 X.2.1 hd ht (fun h => k1 h H locs ls hP hD hS hl) (fun h => k2 h H locs ls hP hD hS hl)
theorem g_icmp_ne (X : Cx p s m args meth c cc own nL ret D cy A) {x y : Int32} {off : Int} {tgt : Nat} (hd : decode cc pc = .ok (.if_icmp .ne off, 3)) (ht : (pc : Int) + off = (tgt : Int)) (k1 : x ≠ y → G p l e R s m args below meth c nL D A cells slots Q ss (tgt) lv (st)) (k2 : x = y → G p l e R s m args below meth c nL D A cells slots Q ss (pc + 3) lv (st)) : G p l e R s m args below meth c nL D A cells slots Q ss (pc) lv (.int y :: .int x :: st) := fun H locs ls hP hD hS hl => lv_icmp_ne X.1 X.2.1 hd ht (fun h => k1 h H locs ls hP hD hS hl) (fun h => k2 h H locs ls hP hD hS hl)
theorem g_if_lt (X : Cx p s m args meth c cc own nL ret D cy A) {x : Int32} {off : Int} {tgt : Nat} (hd : decode cc pc = .ok (.ifCond .lt off, 3)) (ht : (pc : Int) + off = (tgt : Int)) (k1 : x < 0 → G p l e R s m args below meth c nL D A cells slots Q ss (tgt) lv (st)) (k2 : 0 ≤ x → G p l e R s m args below meth c nL D A cells slots Q ss (pc + 3) lv (st)) : G p l e R s m args below meth c nL D A cells slots Q ss (pc) lv (.int x :: st) := fun H locs ls hP hD hS hl => lv_if_lt X.1 X.2.1 hd ht (fun h => k1 h H locs ls hP hD hS hl) (fun h => k2 (Int32.not_lt.mp h) H locs ls hP hD hS hl)
theorem g_icmp_lt (X : Cx p s m args meth c cc own nL ret D cy A) {x y : Int32} {off : Int} {tgt : Nat} (hd : decode cc pc = .ok (.if_icmp .lt off, 3)) (ht : (pc : Int) + off = (tgt : Int)) (k1 : x < y → G p l e R s m args below meth c nL D A cells slots Q ss (tgt) lv (st)) (k2 : y ≤ x → G p l e R s m args below meth c nL D A cells slots Q ss (pc + 3) lv (st)) : G p l e R s m args below meth c nL D A cells slots Q ss (pc) lv (.int y :: .int x :: st) := fun H locs ls hP hD hS hl => lv_icmp_lt X.1 X.2.1 hd ht (fun h => k1 h H locs ls hP hD hS hl) (fun h => k2 (Int32.not_lt.mp h) H locs ls hP hD hS hl)
theorem g_if_ge (X : Cx p s m args meth c cc own nL ret D cy A) {x : Int32} {off : Int} {tgt : Nat} (hd : decode cc pc = .ok (.ifCond .ge off, 3)) (ht : (pc : Int) + off = (tgt : Int)) (k1 : 0 ≤ x → G p l e R s m args below meth c nL D A cells slots Q ss (tgt) lv (st)) (k2 : x < 0 → G p l e R s m args below meth c nL D A cells slots Q ss (pc + 3) lv (st)) : G p l e R s m args below meth c nL D A cells slots Q ss (pc) lv (.int x :: st) := fun H locs ls hP hD hS hl => lv_if_ge X.1 X.2.1 hd ht (fun h => k1 h H locs ls hP hD hS hl) (fun h => k2 (Int32.not_le.mp h) H locs ls hP hD hS hl)
theorem g_icmp_ge (X : Cx p s m args meth c cc own nL ret D cy A) {x y : Int32} {off : Int} {tgt : Nat} (hd : decode cc pc = .ok (.if_icmp .ge off, 3)) (ht : (pc : Int) + off = (tgt : Int)) (k1 : y ≤ x → G p l e R s m args below meth c nL D A cells slots Q ss (tgt) lv (st)) (k2 : x < y → G p l e R s m args below meth c nL D A cells slots Q ss (pc + 3) lv (st)) : G p l e R s m args below meth c nL D A cells slots Q ss (pc) lv (.int y :: .int x :: st) := fun H locs ls hP hD hS hl => lv_icmp_ge X.1 X.2.1 hd ht (fun h => k1 h H locs ls hP hD hS hl) (fun h => k2 (Int32.not_le.mp h) H locs ls hP hD hS hl)
theorem g_if_gt (X : Cx p s m args meth c cc own nL ret D cy A) {x : Int32} {off : Int} {tgt : Nat} (hd : decode cc pc = .ok (.ifCond .gt off, 3)) (ht : (pc : Int) + off = (tgt : Int)) (k1 : 0 < x → G p l e R s m args below meth c nL D A cells slots Q ss (tgt) lv (st)) (k2 : x ≤ 0 → G p l e R s m args below meth c nL D A cells slots Q ss (pc + 3) lv (st)) : G p l e R s m args below meth c nL D A cells slots Q ss (pc) lv (.int x :: st) := fun H locs ls hP hD hS hl => lv_if_gt X.1 X.2.1 hd ht (fun h => k1 h H locs ls hP hD hS hl) (fun h => k2 (Int32.not_lt.mp h) H locs ls hP hD hS hl)
theorem g_icmp_gt (X : Cx p s m args meth c cc own nL ret D cy A) {x y : Int32} {off : Int} {tgt : Nat} (hd : decode cc pc = .ok (.if_icmp .gt off, 3)) (ht : (pc : Int) + off = (tgt : Int)) (k1 : y < x → G p l e R s m args below meth c nL D A cells slots Q ss (tgt) lv (st)) (k2 : x ≤ y → G p l e R s m args below meth c nL D A cells slots Q ss (pc + 3) lv (st)) : G p l e R s m args below meth c nL D A cells slots Q ss (pc) lv (.int y :: .int x :: st) := fun H locs ls hP hD hS hl => lv_icmp_gt X.1 X.2.1 hd ht (fun h => k1 h H locs ls hP hD hS hl) (fun h => k2 (Int32.not_lt.mp h) H locs ls hP hD hS hl)
theorem g_if_le (X : Cx p s m args meth c cc own nL ret D cy A) {x : Int32} {off : Int} {tgt : Nat} (hd : decode cc pc = .ok (.ifCond .le off, 3)) (ht : (pc : Int) + off = (tgt : Int)) (k1 : x ≤ 0 → G p l e R s m args below meth c nL D A cells slots Q ss (tgt) lv (st)) (k2 : 0 < x → G p l e R s m args below meth c nL D A cells slots Q ss (pc + 3) lv (st)) : G p l e R s m args below meth c nL D A cells slots Q ss (pc) lv (.int x :: st) := fun H locs ls hP hD hS hl => lv_if_le X.1 X.2.1 hd ht (fun h => k1 h H locs ls hP hD hS hl) (fun h => k2 (Int32.not_le.mp h) H locs ls hP hD hS hl)
theorem g_icmp_le (X : Cx p s m args meth c cc own nL ret D cy A) {x y : Int32} {off : Int} {tgt : Nat} (hd : decode cc pc = .ok (.if_icmp .le off, 3)) (ht : (pc : Int) + off = (tgt : Int)) (k1 : x ≤ y → G p l e R s m args below meth c nL D A cells slots Q ss (tgt) lv (st)) (k2 : y < x → G p l e R s m args below meth c nL D A cells slots Q ss (pc + 3) lv (st)) : G p l e R s m args below meth c nL D A cells slots Q ss (pc) lv (.int y :: .int x :: st) := fun H locs ls hP hD hS hl => lv_icmp_le X.1 X.2.1 hd ht (fun h => k1 h H locs ls hP hD hS hl) (fun h => k2 (Int32.not_le.mp h) H locs ls hP hD hS hl)
theorem g_ncmp_eq (X : Cx p s m args meth c cc own nL ret D cy A) {x y : Int32} {off : Int} {tgt : Nat} (hd : decode cc pc = .ok (.if_icmp .eq off, 3)) (ht : (pc : Int) + off = (tgt : Int)) (a b : Nat) (hx : x = nI a) (hy : y = nI b) (ha : a < 2 ^ 31) (hb : b < 2 ^ 31) (k1 : a = b → G p l e R s m args below meth c nL D A cells slots Q ss (tgt) lv (st)) (k2 : a ≠ b → G p l e R s m args below meth c nL D A cells slots Q ss (pc + 3) lv (st)) : G p l e R s m args below meth c nL D A cells slots Q ss (pc) lv (.int y :: .int x :: st) := by
  subst hx hy
  exact g_icmp_eq X hd ht (fun h => k1 ((nI_eq ha hb).mp h)) (fun h => k2 ((not_congr (nI_eq ha hb)).mp h))
theorem g_ncmp_ne (X : Cx p s m args meth c cc own nL ret D cy A) {x y : Int32} {off : Int} {tgt : Nat} (hd : decode cc pc = .ok (.if_icmp .ne off, 3)) (ht : (pc : Int) + off = (tgt : Int)) (a b : Nat) (hx : x = nI a) (hy : y = nI b) (ha : a < 2 ^ 31) (hb : b < 2 ^ 31) (k1 : a ≠ b → G p l e R s m args below meth c nL D A cells slots Q ss (tgt) lv (st)) (k2 : a = b → G p l e R s m args below meth c nL D A cells slots Q ss (pc + 3) lv (st)) : G p l e R s m args below meth c nL D A cells slots Q ss (pc) lv (.int y :: .int x :: st) := by
  subst hx hy
  exact g_icmp_ne X hd ht (fun h => k1 ((not_congr (nI_eq ha hb)).mp h)) (fun h => k2 ((nI_eq ha hb).mp h))
theorem g_ncmp_lt (X : Cx p s m args meth c cc own nL ret D cy A) {x y : Int32} {off : Int} {tgt : Nat} (hd : decode cc pc = .ok (.if_icmp .lt off, 3)) (ht : (pc : Int) + off = (tgt : Int)) (a b : Nat) (hx : x = nI a) (hy : y = nI b) (ha : a < 2 ^ 31) (hb : b < 2 ^ 31) (k1 : a < b → G p l e R s m args below meth c nL D A cells slots Q ss (tgt) lv (st)) (k2 : b ≤ a → G p l e R s m args below meth c nL D A cells slots Q ss (pc + 3) lv (st)) : G p l e R s m args below meth c nL D A cells slots Q ss (pc) lv (.int y :: .int x :: st) := by
  subst hx hy
  exact g_icmp_lt X hd ht (fun h => k1 ((nI_ltI ha hb).mp h)) (fun h => k2 ((nI_leI hb ha).mp h))
theorem g_ncmp_ge (X : Cx p s m args meth c cc own nL ret D cy A) {x y : Int32} {off : Int} {tgt : Nat} (hd : decode cc pc = .ok (.if_icmp .ge off, 3)) (ht : (pc : Int) + off = (tgt : Int)) (a b : Nat) (hx : x = nI a) (hy : y = nI b) (ha : a < 2 ^ 31) (hb : b < 2 ^ 31) (k1 : b ≤ a → G p l e R s m args below meth c nL D A cells slots Q ss (tgt) lv (st)) (k2 : a < b → G p l e R s m args below meth c nL D A cells slots Q ss (pc + 3) lv (st)) : G p l e R s m args below meth c nL D A cells slots Q ss (pc) lv (.int y :: .int x :: st) := by
  subst hx hy
  exact g_icmp_ge X hd ht (fun h => k1 ((nI_leI hb ha).mp h)) (fun h => k2 ((nI_ltI ha hb).mp h))
theorem g_ncmp_gt (X : Cx p s m args meth c cc own nL ret D cy A) {x y : Int32} {off : Int} {tgt : Nat} (hd : decode cc pc = .ok (.if_icmp .gt off, 3)) (ht : (pc : Int) + off = (tgt : Int)) (a b : Nat) (hx : x = nI a) (hy : y = nI b) (ha : a < 2 ^ 31) (hb : b < 2 ^ 31) (k1 : b < a → G p l e R s m args below meth c nL D A cells slots Q ss (tgt) lv (st)) (k2 : a ≤ b → G p l e R s m args below meth c nL D A cells slots Q ss (pc + 3) lv (st)) : G p l e R s m args below meth c nL D A cells slots Q ss (pc) lv (.int y :: .int x :: st) := by
  subst hx hy
  exact g_icmp_gt X hd ht (fun h => k1 ((nI_ltI hb ha).mp h)) (fun h => k2 ((nI_leI ha hb).mp h))
theorem g_ncmp_le (X : Cx p s m args meth c cc own nL ret D cy A) {x y : Int32} {off : Int} {tgt : Nat} (hd : decode cc pc = .ok (.if_icmp .le off, 3)) (ht : (pc : Int) + off = (tgt : Int)) (a b : Nat) (hx : x = nI a) (hy : y = nI b) (ha : a < 2 ^ 31) (hb : b < 2 ^ 31) (k1 : a ≤ b → G p l e R s m args below meth c nL D A cells slots Q ss (tgt) lv (st)) (k2 : b < a → G p l e R s m args below meth c nL D A cells slots Q ss (pc + 3) lv (st)) : G p l e R s m args below meth c nL D A cells slots Q ss (pc) lv (.int y :: .int x :: st) := by
  subst hx hy
  exact g_icmp_le X hd ht (fun h => k1 ((nI_leI ha hb).mp h)) (fun h => k2 ((nI_ltI hb ha).mp h))
theorem g_bif_eq (X : Cx p s m args meth c cc own nL ret D cy A) {b : Bool} {off : Int} {tgt : Nat} (hd : decode cc pc = .ok (.ifCond .eq off, 3)) (ht : (pc : Int) + off = (tgt : Int)) (k1 : b = false → G p l e R s m args below meth c nL D A cells slots Q ss (tgt) lv (st)) (k2 : b = true → G p l e R s m args below meth c nL D A cells slots Q ss (pc + 3) lv (st)) : G p l e R s m args below meth c nL D A cells slots Q ss (pc) lv (.int (bI b) :: st) := by
  cases b
  · exact g_if_eq X hd ht (fun h => k1 rfl) (fun h => absurd rfl h)
  · exact g_if_eq X hd ht (fun h => absurd h (by decide)) (fun h => k2 rfl)
theorem g_bif_ne (X : Cx p s m args meth c cc own nL ret D cy A) {b : Bool} {off : Int} {tgt : Nat} (hd : decode cc pc = .ok (.ifCond .ne off, 3)) (ht : (pc : Int) + off = (tgt : Int)) (k1 : b = true → G p l e R s m args below meth c nL D A cells slots Q ss (tgt) lv (st)) (k2 : b = false → G p l e R s m args below meth c nL D A cells slots Q ss (pc + 3) lv (st)) : G p l e R s m args below meth c nL D A cells slots Q ss (pc) lv (.int (bI b) :: st) := by
  cases b
  · exact g_if_ne X hd ht (fun h => absurd rfl h) (fun h => k2 rfl)
  · exact g_if_ne X hd ht (fun h => k1 rfl) (fun h => absurd h (by decide))
theorem g_goto (X : Cx p s m args meth c cc own nL ret D cy A) {off : Int} {tgt : Nat} (hd : decode cc pc = .ok (.goto off, 3)) (ht : (pc : Int) + off = (tgt : Int)) (kk : G p l e R s m args below meth c nL D A cells slots Q ss (tgt) lv (st)) : G p l e R s m args below meth c nL D A cells slots Q ss (pc) lv (st) := fun H locs ls hP hD hS hl => lv_goto X.1 X.2.1 hd ht (kk H locs ls hP hD hS hl)
theorem g_tableIn (X : Cx p s m args meth c cc own nL ret D cy A) {dflt lo hi : Int} {offs : Array Int} {len : Nat} {x : Int32} {off : Int} {tgt : Nat} (hd : decode cc pc = .ok (.tableswitch dflt lo hi offs, len)) (h1 : ¬ x.toInt < lo) (h2 : ¬ hi < x.toInt) (ho : offs[(x.toInt - lo).toNat]? = some off) (ht : (pc : Int) + off = (tgt : Int)) (kk : G p l e R s m args below meth c nL D A cells slots Q ss (tgt) lv (st)) : G p l e R s m args below meth c nL D A cells slots Q ss (pc) lv (.int x :: st) := fun H locs ls hP hD hS hl => lv_tableIn X.1 X.2.1 hd h1 h2 ho ht (kk H locs ls hP hD hS hl)
theorem g_tableOut (X : Cx p s m args meth c cc own nL ret D cy A) {dflt lo hi : Int} {offs : Array Int} {len : Nat} {x : Int32} {tgt : Nat} (hd : decode cc pc = .ok (.tableswitch dflt lo hi offs, len)) (h : x.toInt < lo ∨ hi < x.toInt) (ht : (pc : Int) + dflt = (tgt : Int)) (kk : G p l e R s m args below meth c nL D A cells slots Q ss (tgt) lv (st)) : G p l e R s m args below meth c nL D A cells slots Q ss (pc) lv (.int x :: st) := fun H locs ls hP hD hS hl => lv_tableOut X.1 X.2.1 hd h ht (kk H locs ls hP hD hS hl)
theorem g_lookup (X : Cx p s m args meth c cc own nL ret D cy A) {dflt : Int} {ps : Array (Int × Int)} {len : Nat} {x : Int32} {off : Int} {tgt : Nat} (hd : decode cc pc = .ok (.lookupswitch dflt ps, len)) (hp : (ps.toList.zip (ps.toList.drop 1)).all (fun (a, next) => a.1 < next.1) = true) (ho : Op.lookupswitch.offset ps.toList dflt x.toInt = off) (ht : (pc : Int) + off = (tgt : Int)) (kk : G p l e R s m args below meth c nL D A cells slots Q ss (tgt) lv (st)) : G p l e R s m args below meth c nL D A cells slots Q ss (pc) lv (.int x :: st) := fun H locs ls hP hD hS hl => lv_lookup X.1 X.2.1 hd hp ho ht (kk H locs ls hP hD hS hl)
theorem g_get (X : Cx p s m args meth c cc own nL ret D cy A) {idx ci k : Nat} (f : FL own idx ci k) (hd : decode cc pc = .ok (.getfield idx, 3)) (i j : Nat) {w : va_W} {a : Nat} {fs : List Value} {v : Value} (hi : ss[i]? = some w) (hj : w[j]? = some (a, .inr (ci, fs))) (hv : fs[k]? = some v) (kk : G p l e R s m args below meth c nL D A cells slots Q ss (pc + 3) lv (v :: st)) : G p l e R s m args below meth c nL D A cells slots Q ss (pc) lv (.ref a :: st) := by
  intro H locs ls hP hD hS hl
  obtain ⟨C, T, N, h1, h2, h3, h4, h5⟩ := f
  obtain ⟨q0, hq, -⟩ := sg_at ss i j w _ hi hj
  exact va_get X.1 X.2.1 X.2.2.2.2.1 h2 X.2.2.2.1 X.2.2.2.2.2.2.2.1.1 hP q0 hq h1 k h3 (X.2.2.2.2.1 _ h5) (fun x hx => by rw [h4] at hx; exact hx) hv hd (kk H locs ls hP hD hS hl)
theorem g_put (X : Cx p s m args meth c cc own nL ret D cy A) {idx ci k : Nat} {ty : FieldType} (f : FP own idx ci k ty) (hd : decode cc pc = .ok (.putfield idx, 3)) (i j : Nat) {w : va_W} {a : Nat} {fs : List Value} {v : Value} (hi : ss[i]? = some w) (hj : w[j]? = some (a, .inr (ci, fs))) (hn : narrow ty v = v) (hfit : fits ty v = true) (hk : Nat.blt k fs.length = true) (hs : ss.set i (w.set j (a, .inr (ci, fs.set k v))) = ss') (kk : G p l e R s m args below meth c nL D A cells slots Q ss' (pc + 3) lv (st)) : G p l e R s m args below meth c nL D A cells slots Q ss (pc) lv (v :: .ref a :: st) := by
  intro H locs ls hP hD hS hl
  obtain ⟨C, T, N, ty0, h1, h2, h3, h4, h5, h6, h7, h8, h9⟩ := f
  obtain ⟨q0, hq, hset⟩ := sg_at ss i j w _ hi hj
  refine va_put X.1 X.2.1 X.2.2.2.2.1 h2 ty0 h6 h7 X.2.2.2.1 X.2.2.2.2.2.2.2.1.1 hP (sg_va hD) hS q0 hq h1 k h3 (X.2.2.2.2.1 _ h5) (fun x hx => by rw [h4] at hx; exact hx) h8 h9 hn hfit (Nat.le_of_ble_eq_true hk) hd (fun H1 locs1 hP1 _ hS1 => ?_)
  subst hs
  refine kk H1 locs1 ls ?_ (by rw [sg_ads_set hi hj]; exact hD) hS1 hl
  unfold PS
  rw [hset]; exact hP1
theorem g_iald (X : Cx p s m args meth c cc own nL ret D cy A) (i j : Nat) (hd : decode cc pc = .ok (.iaload, 1)) {w : va_W} {a n : Nat} {f : Nat → Int32} {x : Int32} (hi : ss[i]? = some w) (hj : w[j]? = some (a, .inl (cy, n, .inl f))) (hin : vp_in x n) (kk : G p l e R s m args below meth c nL D A cells slots Q ss (pc + 1) lv (.int (f (ix x)) :: st)) : G p l e R s m args below meth c nL D A cells slots Q ss (pc) lv (.int x :: .ref a :: st) := by
  intro H locs ls hP hD hS hl
  obtain ⟨q0, hq, -⟩ := sg_at ss i j w _ hi hj
  exact va_iald X.1 X.2.1 X.2.2.2.2.2.2.2.1.1 hP q0 0 hq rfl hin hd (kk H locs ls hP hD hS hl)
theorem g_iast (X : Cx p s m args meth c cc own nL ret D cy A) (i j : Nat) (hd : decode cc pc = .ok (.iastore, 1)) {w : va_W} {a n : Nat} {f : Nat → Int32} {x v : Int32} (hi : ss[i]? = some w) (hj : w[j]? = some (a, .inl (cy, n, .inl f))) (hin : vp_in x n) (hs : ss.set i (w.set j (a, .inl (cy, n, .inl (upd f (ix x) v)))) = ss') (kk : G p l e R s m args below meth c nL D A cells slots Q ss' (pc + 1) lv (st)) : G p l e R s m args below meth c nL D A cells slots Q ss (pc) lv (.int v :: .int x :: .ref a :: st) := by
  intro H locs ls hP hD hS hl
  obtain ⟨q0, hq, hset⟩ := sg_at ss i j w _ hi hj
  refine va_iast X.1 X.2.1 X.2.2.2.2.2.2.2.1.1 hP (sg_va hD) hS q0 0 hq rfl hin hd (fun H1 locs1 hP1 _ hS1 => ?_)
  subst hs
  refine kk H1 locs1 ls ?_ (by rw [sg_ads_set hi hj]; exact hD) hS1 hl
  unfold PS
  rw [hset]; exact hP1
theorem g_iald_n (X : Cx p s m args meth c cc own nL ret D cy A) (i j : Nat) (hd : decode cc pc = .ok (.iaload, 1)) {w : va_W} {a n : Nat} {f : Nat → Int32} {x : Int32} (k : Nat) (hx : x = nI k) (hi : ss[i]? = some w) (hj : w[j]? = some (a, .inl (cy, n, .inl f))) (hk : k < n) (hn : Nat.ble n 1000 = true) (kk : G p l e R s m args below meth c nL D A cells slots Q ss (pc + 1) lv (.int (f k) :: st)) : G p l e R s m args below meth c nL D A cells slots Q ss (pc) lv (.int x :: .ref a :: st) := by
  subst hx
  have h31 : n < 2 ^ 31 := Nat.lt_of_le_of_lt (Nat.le_of_ble_eq_true hn) (by decide)
  refine g_iald X i j hd hi hj (vp_in_nI hk h31) ?_
  rw [show ix (nI k) = k from nI_clamp (by omega)]
  exact kk
theorem g_iast_n (X : Cx p s m args meth c cc own nL ret D cy A) (i j : Nat) (hd : decode cc pc = .ok (.iastore, 1)) {w : va_W} {a n : Nat} {f : Nat → Int32} {x v : Int32} (k : Nat) (hx : x = nI k) (hi : ss[i]? = some w) (hj : w[j]? = some (a, .inl (cy, n, .inl f))) (hk : k < n) (hn : Nat.ble n 1000 = true) (hs : ss.set i (w.set j (a, .inl (cy, n, .inl (upd f k v)))) = ss') (kk : G p l e R s m args below meth c nL D A cells slots Q ss' (pc + 1) lv (st)) : G p l e R s m args below meth c nL D A cells slots Q ss (pc) lv (.int v :: .int x :: .ref a :: st) := by
  subst hx
  have h31 : n < 2 ^ 31 := Nat.lt_of_le_of_lt (Nat.le_of_ble_eq_true hn) (by decide)
  refine g_iast X i j hd hi hj (vp_in_nI hk h31) ?_ kk
  rw [show ix (nI k) = k from nI_clamp (by omega)]
  exact hs
theorem g_iret (X : Cx p s m args meth c cc own nL ret D cy A) {cs' : Sg} {r v : Int32} {rt : FieldType} (hret : ret = some rt) (hd : decode cc pc = .ok (.ireturn, 1)) (hn : narrow rt (.int v) = .int v) (hv : v = r) (hs : ss = cs') : G p l e R s m args below meth c nL D A 0 0 (QI below args s D A cs' r) ss pc lv [.int v] := by
  intro H locs ls hP hD hS hl
  subst hs hv
  exact W.zret X.1 X.2.1 (X.2.2.2.2.2.1.trans hret) hn (fun t ht hW => ⟨⟨v, (), rfl, rfl, by show PS D ss t.heap; rw [ht]; exact hP⟩, hS.F ht⟩) hS.2.2 hd X.2.2.2.2.2.2.1
theorem g_vret (X : Cx p s m args meth c cc own nL ret D cy A) {cs' : Sg} (hret : ret = none) (hd : decode cc pc = .ok (.return_, 1)) (hs : ss = cs') : G p l e R s m args below meth c nL D A 0 0 (QV below args s D A cs') ss pc lv [] := by
  intro H locs ls hP hD hS hl
  subst hs
  exact W.vret X.1 X.2.1 (X.2.2.2.2.2.1.trans hret) (fun t ht hW => ⟨⟨(), rfl, trivial, by show PS D ss t.heap; rw [ht]; exact hP⟩, hS.F ht⟩) hS.2.2 hd X.2.2.2.2.2.2.1
theorem g_lv (X : Cx p s m args meth c cc own nL ret D cy A) (ks : List Nat) (h : lv_pick lv ks = lv') (kk : G p l e R s m args below meth c nL D A cells slots Q ss (pc) lv' (st)) : G p l e R s m args below meth c nL D A cells slots Q ss (pc) lv (st) := fun H locs ls hP hD hS hl => kk H locs ls hP hD hS (lv_sub hl ks h)
theorem g_eq (X : Cx p s m args meth c cc own nL ret D cy A) (h : ss = ss') (kk : G p l e R s m args below meth c nL D A cells slots Q ss' (pc) lv (st)) : G p l e R s m args below meth c nL D A cells slots Q ss (pc) lv (st) := h ▸ kk
theorem g_top (X : Cx p s m args meth c cc own nL ret D cy A) {x y : Int32} (h : x = y) (kk : G p l e R s m args below meth c nL D A cells slots Q ss (pc) lv (.int y :: st)) : G p l e R s m args below meth c nL D A cells slots Q ss (pc) lv (.int x :: st) := h ▸ kk
theorem g_top2 (X : Cx p s m args meth c cc own nL ret D cy A) {x y : Int32} {v : Value} (h : x = y) (kk : G p l e R s m args below meth c nL D A cells slots Q ss (pc) lv (v :: .int y :: st)) : G p l e R s m args below meth c nL D A cells slots Q ss (pc) lv (v :: .int x :: st) := h ▸ kk
/-- an array's contents behind its length say nothing -/
theorem g_swap (X : Cx p s m args meth c cc own nL ret D cy A) (i j : Nat) {w : va_W} {a n : Nat} {f g : Nat → Int32} (hi : ss[i]? = some w) (hj : w[j]? = some (a, .inl (cy, n, .inl f))) (hfg : ∀ k, k < n → f k = g k) (hs : ss.set i (w.set j (a, .inl (cy, n, .inl g))) = ss') (kk : G p l e R s m args below meth c nL D A cells slots Q ss' (pc) lv (st)) : G p l e R s m args below meth c nL D A cells slots Q ss (pc) lv (st) := by
  intro H locs ls hP hD hS hl
  obtain ⟨q0, hq, hset⟩ := sg_at ss i j w _ hi hj
  subst hs
  refine kk H locs ls ?_ (by rw [sg_ads_set hi hj]; exact hD) hS hl
  unfold PS
  rw [hset]
  have he : va_at D vwCl (a, .inl (cy, n, .inl f)) H := hP q0 _ hq
  refine va_P.set hP (sg_va hD) hq ?_ (fun _ _ => rfl)
  show H[a]? = some (vp_cell cy (n, .inl g))
  have h0 : H[a]? = some (vp_cell cy (n, .inl f)) := he
  rw [h0]
  refine congrArg some ?_
  exact vp_cell_congr hfg
theorem g_callV (X : Cx p s m args meth c cc own nL ret D cy A) {y : MethodName} {bytes : ByteArray} {maxL fr lo idx n : Nat} {rt : FieldType} {b : Nat} {As : List Value} {cs cs' : Sg} {r : Int32} (ct : CtI l y bytes maxL rt fr lo D cy (.ref b :: As) cs cs' r) (vl : VL own idx y bytes maxL (some rt) n) (hd : decode cc pc = .ok (.invokevirtual idx, 3)) (is : List Nat) (i0 j0 : Nat) {w : va_W} {ci : Nat} {fs : List Value} {cl : vw_C} (hi : ss[i0]? = some w) (hj : w[j0]? = some (b, .inr (ci, fs))) (hcl : vwCl[ci]? = some cl) (hcn : cl.1 = y.cls)
    (hC : is.map (fun i => ss[i]?) = cs.map some) (hnd : sg_nd is = true) (had : sg_ads cs' = sg_ads cs) (hs : sg_put ss is cs' = ss') (hst : st = As.reverse ++ .ref b :: rest) (hn : As.length = n) (hfr : Nat.ble (fr + 1) R.frames = true) (hlo : Nat.ble (8 + (maxL + 11) + lo) R.locals = true) (hcat : Nat.ble ((rest.map fun v => v.category).sum) 8 = true) (hcel : cells ≤ R.cells ∧ slots ≤ R.slots) (kk : G p l e R s m args below meth c nL D A cells slots Q ss' (pc + 3) lv (.int r :: rest)) : G p l e R s m args below meth c nL D A cells slots Q ss (pc) lv (st) := by
  intro H locs ls hP hD hS hl
  subst hs hst
  obtain ⟨v1, v2, v3, v4, v5, v6, v7, v8⟩ := vl
  have hts := X.2.2.2.2.1
  have hK := X.2.2.2.2.2.2.2.1
  obtain ⟨q0, hq, -⟩ := sg_at ss i0 j0 w _ hi hj
  have hPc : PS D cs H := sg_sub hP is hC
  have hDc := sg_sub_ds hD is hnd hC
  have hcw : CallW R s args own y.cls idx y bytes maxL (some rt) (wdY y bytes maxL (some rt)) { frames := fr, cells := 0, slots := 0, locals := lo } 0 0 n :=
    ⟨callB_of n hts (fun w hw => (List.mem_cons.mp hw).elim (fun h => h ▸ ⟨v5, tw_good v5⟩) (fun h => ⟨h, tw_good h⟩)) rfl rfl rfl (hts _ v4) (hts _ v1) ⟨v6, v7, v8⟩ ⟨Nat.le_of_ble_eq_true hfr, Nat.le_of_ble_eq_true hlo⟩, hts _ v2, hts _ v3⟩
  refine va_calli (va_runV (As := As) (rest := rest) ⟨X.1, X.2.1, X.2.2.1, X.2.2.2.1, hts⟩ (ct H.size) hcw ⟨preY_blind, ?_, fun U hU hW => ⟨rfl, by rw [hU], by rw [hU]; exact hPc, hK.warm hW, hDc⟩⟩ rfl hn hl.1 rfl (lv_room (Nat.le_of_ble_eq_true hcat)) hd ⟨hcel.1, hcel.2⟩) hS (A1 := SA (sg_ads cs) H.size) (fun q _ h => ?_) (fun q h => ?_) (fun r1 u t H1 locs1 ht hvm hpost hB hz hk hS1 => ?_)
  · have := va_recv hK.1 hP hcl hq
    rw [hcn] at this
    exact this
  · exact h.elim (sg_part hD is hC q) (fun h => X.2.2.2.2.2.2.2.2 q (Nat.le_trans hS.1 h))
  · exact h.elim (sg_part hD is hC q) (fun h => X.2.2.2.2.2.2.2.2 q (Nat.le_trans hS.1 h))
  · subst hpost
    rw [ht] at hB
    have hlen : cs'.length = cs.length := by
      have := congrArg List.length had
      simpa [sg_ads] using this
    exact kk H1 locs1 ls (sg_join hP hD is hC hlen hk hB) (by rw [sg_put_ads is ss cs cs' hC had]; exact hD) hS1 hl
theorem g_callVv (X : Cx p s m args meth c cc own nL ret D cy A) {y : MethodName} {bytes : ByteArray} {maxL fr lo idx n : Nat} {b : Nat} {As : List Value} {cs cs' : Sg} (ct : CtV l y bytes maxL fr lo D cy (.ref b :: As) cs cs') (vl : VL own idx y bytes maxL none n) (hd : decode cc pc = .ok (.invokevirtual idx, 3)) (is : List Nat) (i0 j0 : Nat) {w : va_W} {ci : Nat} {fs : List Value} {cl : vw_C} (hi : ss[i0]? = some w) (hj : w[j0]? = some (b, .inr (ci, fs))) (hcl : vwCl[ci]? = some cl) (hcn : cl.1 = y.cls)
    (hC : is.map (fun i => ss[i]?) = cs.map some) (hnd : sg_nd is = true) (had : sg_ads cs' = sg_ads cs) (hs : sg_put ss is cs' = ss') (hst : st = As.reverse ++ .ref b :: rest) (hn : As.length = n) (hfr : Nat.ble (fr + 1) R.frames = true) (hlo : Nat.ble (8 + (maxL + 11) + lo) R.locals = true) (hcat : Nat.ble ((rest.map fun v => v.category).sum) 8 = true) (hcel : cells ≤ R.cells ∧ slots ≤ R.slots) (kk : G p l e R s m args below meth c nL D A cells slots Q ss' (pc + 3) lv (rest)) : G p l e R s m args below meth c nL D A cells slots Q ss (pc) lv (st) := by
  intro H locs ls hP hD hS hl
  subst hs hst
  obtain ⟨v1, v2, v3, v4, v5, v6, v7, v8⟩ := vl
  have hts := X.2.2.2.2.1
  have hK := X.2.2.2.2.2.2.2.1
  obtain ⟨q0, hq, -⟩ := sg_at ss i0 j0 w _ hi hj
  have hPc : PS D cs H := sg_sub hP is hC
  have hDc := sg_sub_ds hD is hnd hC
  have hcw : CallW R s args own y.cls idx y bytes maxL none (wdY y bytes maxL none) { frames := fr, cells := 0, slots := 0, locals := lo } 0 0 n :=
    ⟨callB_of n hts (fun w hw => (List.mem_cons.mp hw).elim (fun h => h ▸ ⟨v5, tw_good v5⟩) (fun h => ⟨h, tw_good h⟩)) rfl rfl rfl (hts _ v4) (hts _ v1) ⟨v6, v7, v8⟩ ⟨Nat.le_of_ble_eq_true hfr, Nat.le_of_ble_eq_true hlo⟩, hts _ v2, hts _ v3⟩
  refine va_callv (va_runV (As := As) (rest := rest) ⟨X.1, X.2.1, X.2.2.1, X.2.2.2.1, hts⟩ (ct H.size) hcw ⟨preY_blind, ?_, fun U hU hW => ⟨rfl, by rw [hU], by rw [hU]; exact hPc, hK.warm hW, hDc⟩⟩ rfl hn hl.1 rfl (lv_room (Nat.le_of_ble_eq_true hcat)) hd ⟨hcel.1, hcel.2⟩) hS (A1 := SA (sg_ads cs) H.size) (fun q _ h => ?_) (fun q h => ?_) (fun u t H1 locs1 ht hvm hpost hB hz hk hS1 => ?_)
  · have := va_recv hK.1 hP hcl hq
    rw [hcn] at this
    exact this
  · exact h.elim (sg_part hD is hC q) (fun h => X.2.2.2.2.2.2.2.2 q (Nat.le_trans hS.1 h))
  · exact h.elim (sg_part hD is hC q) (fun h => X.2.2.2.2.2.2.2.2 q (Nat.le_trans hS.1 h))
  · rw [ht] at hB
    have hlen : cs'.length = cs.length := by
      have := congrArg List.length had
      simpa [sg_ads] using this
    exact kk H1 locs1 ls (sg_join hP hD is hC hlen hk hB) (by rw [sg_put_ads is ss cs cs' hC had]; exact hD) hS1 hl
theorem g_callS (X : Cx p s m args meth c cc own nL ret D cy A) {y : MethodName} {bytes : ByteArray} {maxL fr lo idx n : Nat} {rt : FieldType} {As : List Value} {r : Int32} (ct : CtI l y bytes maxL rt fr lo D cy As [] [] r) (vl : SL own idx y bytes maxL (some rt) n) (hd : decode cc pc = .ok (.invokestatic idx, 3)) (hst : st = As.reverse ++ rest) (hn : As.length = n) (hfr : Nat.ble (fr + 1) R.frames = true) (hlo : Nat.ble (8 + (maxL + 11) + lo) R.locals = true) (hcat : Nat.ble ((rest.map fun v => v.category).sum) 8 = true) (hcel : cells ≤ R.cells ∧ slots ≤ R.slots) (kk : G p l e R s m args below meth c nL D A cells slots Q ss (pc + 3) lv (.int r :: rest)) : G p l e R s m args below meth c nL D A cells slots Q ss (pc) lv (st) := by
  intro H locs ls hP hD hS hl
  subst hst
  obtain ⟨v1, v3, v4, v5, v6, v7, v8⟩ := vl
  have hts := X.2.2.2.2.1
  have hK := X.2.2.2.2.2.2.2.1
  have hcw : CallB R s args own idx y bytes maxL (some rt) (wdY y bytes maxL (some rt)) { frames := fr, cells := 0, slots := 0, locals := lo } 0 0 n ∧ (Cond.static y).before args s = true :=
    ⟨callB_of n hts (fun w hw => (List.mem_cons.mp hw).elim (fun h => h ▸ ⟨v5, tw_good v5⟩) (fun h => ⟨h, tw_good h⟩)) rfl rfl rfl (hts _ v4) (hts _ v1) ⟨v6, v7, v8⟩ ⟨Nat.le_of_ble_eq_true hfr, Nat.le_of_ble_eq_true hlo⟩, hts _ v3⟩
  refine va_calli (va_runS (As := As) (rest := rest) ⟨X.1, X.2.1, X.2.2.1, X.2.2.2.1, hts⟩ (ct H.size) hcw ⟨preY_blind, fun U hU hW => ⟨rfl, by rw [hU], fun k q h => by simp at h, hK.warm hW, List.Pairwise.nil, fun _ _ => trivial⟩⟩ rfl hn hl.1 rfl (lv_room (Nat.le_of_ble_eq_true hcat)) hd ⟨hcel.1, hcel.2⟩) hS (A1 := SA (sg_ads []) H.size) (fun q _ h => ?_) (fun q h => ?_) (fun r1 u t H1 locs1 ht hvm hpost hB hz hk hS1 => ?_)
  · exact h.elim (fun h => by simp [sg_ads] at h) (fun h => X.2.2.2.2.2.2.2.2 q (Nat.le_trans hS.1 h))
  · exact h.elim (fun h => by simp [sg_ads] at h) (fun h => X.2.2.2.2.2.2.2.2 q (Nat.le_trans hS.1 h))
  · subst hpost
    refine kk H1 locs1 ls (va_P.kept hP (fun k q hq => hk q.1 (hP k q hq).lt ?_)) hD hS1 hl
    rintro (h | h)
    · simp [sg_ads] at h
    · exact absurd (hP k q hq).lt (by omega)
theorem g_callSN (X : Cx p s m args meth c cc own nL ret D cy A) {bytes : ByteArray} {maxL fr lo n : Nat} {rt : FieldType} {As : List Value} {r : Int32} (ct : CtI l yX3_isRoom bytes maxL rt fr lo D cy As [] [] r) (hown : own = RX1) (v3 : Cond.static yX3_isRoom ∈ TW) (v4 : Cond.initialized RX3 ∈ TW) (v5 : Cond.code yX3_isRoom bytes maxL (some rt) ∈ TW) (hd : decode cc pc = .ok (.invokestatic 66, 3)) (hst : st = As.reverse ++ rest) (hn : As.length = 1) (hfr : Nat.ble (fr + 1) R.frames = true) (hlo : Nat.ble (8 + (maxL + 11) + lo) R.locals = true) (hcat : Nat.ble ((rest.map fun v => v.category).sum) 8 = true) (hcel : cells ≤ R.cells ∧ slots ≤ R.slots) (kk : G p l e R s m args below meth c nL D A cells slots Q ss (pc + 3) lv (.int r :: rest)) : G p l e R s m args below meth c nL D A cells slots Q ss (pc) lv (st) := by
  intro H locs ls hP hD hS hl
  subst hst hown
  have hts := X.2.2.2.2.1
  have hK := X.2.2.2.2.2.2.2.1
  have hcw : va_CN R s args RX1 66 yX3_isRoom RX3 bytes maxL (some rt) (wdY yX3_isRoom bytes maxL (some rt)) { frames := fr, cells := 0, slots := 0, locals := lo } 0 0 1 ∧ (Cond.static yX3_isRoom).before args s = true ∧ True :=
    ⟨va_cnB 1 hts (fun w hw => (List.mem_cons.mp hw).elim (fun h => h ▸ ⟨v5, tw_good v5⟩) (fun h => ⟨h, tw_good h⟩)) rfl rfl rfl hK.2.2.2.2 (hts _ v4) (by decide +kernel) ⟨Nat.le_of_ble_eq_true hfr, Nat.le_of_ble_eq_true hlo⟩, hts _ v3, trivial⟩
  refine va_calli (va_runSN (As := As) (rest := rest) ⟨X.1, X.2.1, X.2.2.1, X.2.2.2.1, hts⟩ (ct H.size) hcw ⟨preY_blind, fun U hU hW => ⟨rfl, by rw [hU], fun k q h => by simp at h, hK.warm hW, List.Pairwise.nil, fun _ _ => trivial⟩⟩ rfl hn hl.1 rfl (lv_room (Nat.le_of_ble_eq_true hcat)) hd ⟨hcel.1, hcel.2⟩) hS (A1 := SA (sg_ads []) H.size) (fun q _ h => ?_) (fun q h => ?_) (fun r1 u t H1 locs1 ht hvm hpost hB hz hk hS1 => ?_)
  · exact h.elim (fun h => by simp [sg_ads] at h) (fun h => X.2.2.2.2.2.2.2.2 q (Nat.le_trans hS.1 h))
  · exact h.elim (fun h => by simp [sg_ads] at h) (fun h => X.2.2.2.2.2.2.2.2 q (Nat.le_trans hS.1 h))
  · subst hpost
    refine kk H1 locs1 ls (va_P.kept hP (fun k q hq => hk q.1 (hP k q hq).lt ?_)) hD hS1 hl
    rintro (h | h)
    · simp [sg_ads] at h
    · exact absurd (hP k q hq).lt (by omega)
theorem g_mmin (X : Cx p s m args meth c cc own nL ret D cy A) {idx : Nat} {x y v : Int32} (h1 : Cond.methodLink own idx Lib.Math.min.name ∈ TW) (h2 : Cond.static Lib.Math.min.name ∈ TW) (h3 : Cond.initialized "java/lang/Math" ∈ TW) (h4 : Cond.code Lib.Math.min.name Lib.Math.min.code 2 (some .int) ∈ TW) (hd : decode cc pc = .ok (.invokestatic idx, 3)) (hfr : Nat.ble 1 R.frames = true) (hlo : Nat.ble ((st.map fun v => v.category).sum + 13) R.locals = true) (hcel : cells ≤ R.cells ∧ slots ≤ R.slots) (hv : (if y < x then y else x) = v) (kk : G p l e R s m args below meth c nL D A cells slots Q ss (pc + 3) lv (.int v :: st)) : G p l e R s m args below meth c nL D A cells slots Q ss (pc) lv (.int y :: .int x :: st) := by
  intro H locs ls hP hD hS hl
  subst hv
  exact va_mmin X.1 X.2.1 (X.2.2.1.trans hl.1.symm) X.2.2.2.1 (X.2.2.2.2.1 _ h1) (X.2.2.2.2.1 _ h2) (X.2.2.2.2.1 _ h3) (X.2.2.2.2.1 _ h4) (Nat.le_of_ble_eq_true hfr) (Nat.le_of_ble_eq_true hlo) hcel.1 hcel.2 hd (kk H locs ls hP hD hS hl)
theorem g_mmax (X : Cx p s m args meth c cc own nL ret D cy A) {idx : Nat} {x y v : Int32} (h1 : Cond.methodLink own idx Lib.Math.max.name ∈ TW) (h2 : Cond.static Lib.Math.max.name ∈ TW) (h3 : Cond.initialized "java/lang/Math" ∈ TW) (h4 : Cond.code Lib.Math.max.name Lib.Math.max.code 2 (some .int) ∈ TW) (hd : decode cc pc = .ok (.invokestatic idx, 3)) (hfr : Nat.ble 1 R.frames = true) (hlo : Nat.ble ((st.map fun v => v.category).sum + 13) R.locals = true) (hcel : cells ≤ R.cells ∧ slots ≤ R.slots) (hv : (if x < y then y else x) = v) (kk : G p l e R s m args below meth c nL D A cells slots Q ss (pc + 3) lv (.int v :: st)) : G p l e R s m args below meth c nL D A cells slots Q ss (pc) lv (.int y :: .int x :: st) := by
  intro H locs ls hP hD hS hl
  subst hv
  exact va_mmax X.1 X.2.1 (X.2.2.1.trans hl.1.symm) X.2.2.2.1 (X.2.2.2.2.1 _ h1) (X.2.2.2.2.1 _ h2) (X.2.2.2.2.1 _ h3) (X.2.2.2.2.1 _ h4) (Nat.le_of_ble_eq_true hfr) (Nat.le_of_ble_eq_true hlo) hcel.1 hcel.2 hd (kk H locs ls hP hD hS hl)
/-- the first n places of an array into another of n places -/
theorem g_copy (X : Cx p s m args meth c cc own nL ret D cy A) {idx : Nat} (h1 : Cond.methodLink own idx arraycopyName ∈ TW) (h2 : Cond.native arraycopyName ∈ TW) (h3 : Cond.static arraycopyName ∈ TW) (h4 : Cond.initialized "java/lang/System" ∈ TW) (hd : decode cc pc = .ok (.invokestatic idx, 3)) (i0 j0 i1 j1 n : Nat) {w0 w1 : va_W} {a0 a1 : Nat} {f g : Nat → Int32} {x : Int32} (hx : x = nI n) (hn : Nat.ble n 1000 = true) (hi0 : ss[i0]? = some w0) (hj0 : w0[j0]? = some (a0, .inl (cy, n, .inl f))) (hi1 : ss[i1]? = some w1) (hj1 : w1[j1]? = some (a1, .inl (cy, n, .inl g))) (hs : ss.set i1 (w1.set j1 (a1, .inl (cy, n, .inl f))) = ss') (hfr : Nat.ble 1 R.frames = true) (hlo : Nat.ble ((st.map fun v => v.category).sum + (nativeFrameWords "java/lang/System" "arraycopy" 5 + 11)) R.locals = true) (kk : G p l e R s m args below meth c nL D A cells slots Q ss' (pc + 3) lv (st)) : G p l e R s m args below meth c nL D A cells slots Q ss (pc) lv (.int x :: .int 0 :: .ref a1 :: .int 0 :: .ref a0 :: st) := by
  intro H locs ls hP hD hS hl
  subst hx
  have hn1 := Nat.le_of_ble_eq_true hn
  obtain ⟨q0, hq0, -⟩ := sg_at ss i0 j0 w0 _ hi0 hj0
  obtain ⟨q1, hq1, hset⟩ := sg_at ss i1 j1 w1 _ hi1 hj1
  have hcl : (nI n).toNatClampNeg = n := nI_clamp (by omega)
  have hc0 : (0 : Int32).toNatClampNeg = 0 := rfl
  refine va_copyi X.1 X.2.1 (X.2.2.1.trans hl.1.symm) X.2.2.2.1 (X.2.2.2.2.1 _ h1) (X.2.2.2.2.1 _ h2) (X.2.2.2.2.1 _ h3) (X.2.2.2.2.1 _ h4) X.2.2.2.2.2.2.2.1.1 hP (sg_va hD) hS q0 q1 0 0 hq0 hq1 rfl rfl rfl (by decide) (by decide) (nI_pos (by omega)) (by rw [hcl, hc0]; omega) (by rw [hcl, hc0]; omega) (fun i _ => rfl) (Nat.le_of_ble_eq_true hfr) (Nat.le_of_ble_eq_true hlo) hd (fun H1 locs1 hP1 hD1 hS1 => ?_)
  subst hs
  refine kk H1 locs1 ls ?_ (by rw [sg_ads_set hi1 hj1]; exact hD) hS1 hl
  unfold PS
  rw [hset]
  have hq1' : (ss.flatten.set q1 (a1, .inl (cy, n, .inl (va_cpy f g (0 : Int32).toNatClampNeg (0 : Int32).toNatClampNeg (nI n).toNatClampNeg))))[q1]? = some (a1, .inl (cy, n, .inl (va_cpy f g (0 : Int32).toNatClampNeg (0 : Int32).toNatClampNeg (nI n).toNatClampNeg))) := by
    rw [List.getElem?_set, if_pos rfl, if_pos (List.getElem?_eq_some_iff.mp hq1).1]
  have h5 := va_P.set (e := .inl (cy, n, .inl f)) hP1 hD1 hq1' (by
    show H1[a1]? = some (vp_cell cy (n, .inl f))
    have h0 : H1[a1]? = some (vp_cell cy (n, .inl (va_cpy f g (0 : Int32).toNatClampNeg (0 : Int32).toNatClampNeg (nI n).toNatClampNeg))) := hP1 q1 _ hq1'
    rw [h0]
    refine congrArg some (vp_cell_congr (fun k hk => ?_))
    rw [hcl, hc0, pk_cpy_in (Nat.zero_le k) (by omega)]
    simp) (fun _ _ => rfl)
  rwa [List.set_set] at h5
end GR
end
section
theorem ini_J6 : Cond.initialized RJ6 ∈ TW := tw_in (w := Cond.initialized RJ6) (List.mem_of_getElem? (i := 40) (by decide +kernel)) rfl
theorem ini_X2 : Cond.initialized RX2 ∈ TW := tw_in (w := Cond.initialized RX2) (List.mem_of_getElem? (i := 30) (by decide +kernel)) rfl
theorem ini_X0 : Cond.initialized RX0 ∈ TW := tw_in (w := Cond.initialized RX0) (List.mem_of_getElem? (i := 31) (by decide +kernel)) rfl
theorem ini_X1 : Cond.initialized RX1 ∈ TW := tw_in (w := Cond.initialized RX1) (List.mem_of_getElem? (i := 29) (by decide +kernel)) rfl
theorem ini_X4 : Cond.initialized RX4 ∈ TW := tw_in (w := Cond.initialized RX4) (List.mem_of_getElem? (i := 32) (by decide +kernel)) rfl
theorem ini_X3 : Cond.initialized RX3 ∈ TW := tw_in (w := Cond.initialized RX3) (List.mem_of_getElem? (i := 28) (by decide +kernel)) rfl
theorem ini_J11 : Cond.initialized RJ11 ∈ TW := tw_in (w := Cond.initialized RJ11) (List.mem_of_getElem? (i := 39) (by decide +kernel)) rfl
theorem ini_J3 : Cond.initialized RJ3 ∈ TW := tw_in (w := Cond.initialized RJ3) (List.mem_of_getElem? (i := 38) (by decide +kernel)) rfl
theorem ini_J2 : Cond.initialized RJ2 ∈ TW := tw_in (w := Cond.initialized RJ2) (List.mem_of_getElem? (i := 37) (by decide +kernel)) rfl
theorem ini_J1 : Cond.initialized RJ1 ∈ TW := tw_in (w := Cond.initialized RJ1) (List.mem_of_getElem? (i := 36) (by decide +kernel)) rfl
theorem ini_J0 : Cond.initialized RJ0 ∈ TW := tw_in (w := Cond.initialized RJ0) (List.mem_of_getElem? (i := 35) (by decide +kernel)) rfl
theorem in_X0 : ∀ w ∈ u_ws RX0 TX0 3, w ∈ TW := by decide +kernel
theorem in_X1 : ∀ w ∈ u_ws RX1 TX1 13, w ∈ TW := by decide +kernel
theorem in_X2 : ∀ w ∈ u_ws RX2 TX2 2, w ∈ TW := by decide +kernel
theorem in_X3 : ∀ w ∈ u_ws RX3 TX3 10, w ∈ TW := by decide +kernel
theorem in_X4 : ∀ w ∈ u_ws RX4 TX4 23, w ∈ TW := by decide +kernel
theorem fl_X0_9 : FL RX0 9 0 0 := ⟨RX0, TX0, 3, rfl, in_X0, by decide, rfl, tw_in (w := Cond.fieldLink RX0 9 RX0 (TX0 0).2.1 (TX0 0).2.2.1) (List.mem_of_getElem? (i := 131) (by decide +kernel)) rfl⟩
theorem fp_X0_9 : FP RX0 9 0 0 .int := ⟨RX0, TX0, 3, tyX0, rfl, in_X0, by decide, rfl, tw_in (w := Cond.fieldLink RX0 9 RX0 (TX0 0).2.1 (TX0 0).2.2.1) (List.mem_of_getElem? (i := 131) (by decide +kernel)) rfl, tyX0_ok, nmX0, rfl, by decide +kernel⟩
theorem fl_X0_15 : FL RX0 15 0 1 := ⟨RX0, TX0, 3, rfl, in_X0, by decide, rfl, tw_in (w := Cond.fieldLink RX0 15 RX0 (TX0 1).2.1 (TX0 1).2.2.1) (List.mem_of_getElem? (i := 132) (by decide +kernel)) rfl⟩
theorem fl_X0_19 : FL RX0 19 0 2 := ⟨RX0, TX0, 3, rfl, in_X0, by decide, rfl, tw_in (w := Cond.fieldLink RX0 19 RX0 (TX0 2).2.1 (TX0 2).2.2.1) (List.mem_of_getElem? (i := 133) (by decide +kernel)) rfl⟩
theorem fl_X0_22 : FL RX0 22 1 6 := ⟨RX1, TX1, 13, rfl, in_X1, by decide, rfl, tw_in (w := Cond.fieldLink RX0 22 RX1 (TX1 6).2.1 (TX1 6).2.2.1) (List.mem_of_getElem? (i := 66) (by decide +kernel)) rfl⟩
theorem fp_X0_22 : FP RX0 22 1 6 .int := ⟨RX1, TX1, 13, tyX1, rfl, in_X1, by decide, rfl, tw_in (w := Cond.fieldLink RX0 22 RX1 (TX1 6).2.1 (TX1 6).2.2.1) (List.mem_of_getElem? (i := 66) (by decide +kernel)) rfl, tyX1_ok, nmX1, rfl, by decide +kernel⟩
theorem fl_X0_25 : FL RX0 25 1 10 := ⟨RX1, TX1, 13, rfl, in_X1, by decide, rfl, tw_in (w := Cond.fieldLink RX0 25 RX1 (TX1 10).2.1 (TX1 10).2.2.1) (List.mem_of_getElem? (i := 75) (by decide +kernel)) rfl⟩
theorem fp_X0_25 : FP RX0 25 1 10 .int := ⟨RX1, TX1, 13, tyX1, rfl, in_X1, by decide, rfl, tw_in (w := Cond.fieldLink RX0 25 RX1 (TX1 10).2.1 (TX1 10).2.2.1) (List.mem_of_getElem? (i := 75) (by decide +kernel)) rfl, tyX1_ok, nmX1, rfl, by decide +kernel⟩
theorem fl_X0_32 : FL RX0 32 1 11 := ⟨RX1, TX1, 13, rfl, in_X1, by decide, rfl, tw_in (w := Cond.fieldLink RX0 32 RX1 (TX1 11).2.1 (TX1 11).2.2.1) (List.mem_of_getElem? (i := 78) (by decide +kernel)) rfl⟩
theorem fp_X0_32 : FP RX0 32 1 11 .int := ⟨RX1, TX1, 13, tyX1, rfl, in_X1, by decide, rfl, tw_in (w := Cond.fieldLink RX0 32 RX1 (TX1 11).2.1 (TX1 11).2.2.1) (List.mem_of_getElem? (i := 78) (by decide +kernel)) rfl, tyX1_ok, nmX1, rfl, by decide +kernel⟩
theorem fl_X0_35 : FL RX0 35 1 12 := ⟨RX1, TX1, 13, rfl, in_X1, by decide, rfl, tw_in (w := Cond.fieldLink RX0 35 RX1 (TX1 12).2.1 (TX1 12).2.2.1) (List.mem_of_getElem? (i := 81) (by decide +kernel)) rfl⟩
theorem fl_X1_9 : FL RX1 9 1 0 := ⟨RX1, TX1, 13, rfl, in_X1, by decide, rfl, tw_in (w := Cond.fieldLink RX1 9 RX1 (TX1 0).2.1 (TX1 0).2.2.1) (List.mem_of_getElem? (i := 55) (by decide +kernel)) rfl⟩
theorem fp_X1_9 : FP RX1 9 1 0 .int := ⟨RX1, TX1, 13, tyX1, rfl, in_X1, by decide, rfl, tw_in (w := Cond.fieldLink RX1 9 RX1 (TX1 0).2.1 (TX1 0).2.2.1) (List.mem_of_getElem? (i := 55) (by decide +kernel)) rfl, tyX1_ok, nmX1, rfl, by decide +kernel⟩
theorem fl_X1_15 : FL RX1 15 1 1 := ⟨RX1, TX1, 13, rfl, in_X1, by decide, rfl, tw_in (w := Cond.fieldLink RX1 15 RX1 (TX1 1).2.1 (TX1 1).2.2.1) (List.mem_of_getElem? (i := 57) (by decide +kernel)) rfl⟩
theorem fl_X1_19 : FL RX1 19 1 2 := ⟨RX1, TX1, 13, rfl, in_X1, by decide, rfl, tw_in (w := Cond.fieldLink RX1 19 RX1 (TX1 2).2.1 (TX1 2).2.2.1) (List.mem_of_getElem? (i := 59) (by decide +kernel)) rfl⟩
theorem fl_X1_22 : FL RX1 22 1 3 := ⟨RX1, TX1, 13, rfl, in_X1, by decide, rfl, tw_in (w := Cond.fieldLink RX1 22 RX1 (TX1 3).2.1 (TX1 3).2.2.1) (List.mem_of_getElem? (i := 61) (by decide +kernel)) rfl⟩
theorem fp_X1_22 : FP RX1 22 1 3 .int := ⟨RX1, TX1, 13, tyX1, rfl, in_X1, by decide, rfl, tw_in (w := Cond.fieldLink RX1 22 RX1 (TX1 3).2.1 (TX1 3).2.2.1) (List.mem_of_getElem? (i := 61) (by decide +kernel)) rfl, tyX1_ok, nmX1, rfl, by decide +kernel⟩
theorem fl_X1_25 : FL RX1 25 1 4 := ⟨RX1, TX1, 13, rfl, in_X1, by decide, rfl, tw_in (w := Cond.fieldLink RX1 25 RX1 (TX1 4).2.1 (TX1 4).2.2.1) (List.mem_of_getElem? (i := 63) (by decide +kernel)) rfl⟩
theorem fl_X1_28 : FL RX1 28 1 5 := ⟨RX1, TX1, 13, rfl, in_X1, by decide, rfl, tw_in (w := Cond.fieldLink RX1 28 RX1 (TX1 5).2.1 (TX1 5).2.2.1) (List.mem_of_getElem? (i := 64) (by decide +kernel)) rfl⟩
theorem fl_X1_31 : FL RX1 31 1 6 := ⟨RX1, TX1, 13, rfl, in_X1, by decide, rfl, tw_in (w := Cond.fieldLink RX1 31 RX1 (TX1 6).2.1 (TX1 6).2.2.1) (List.mem_of_getElem? (i := 65) (by decide +kernel)) rfl⟩
theorem fp_X1_31 : FP RX1 31 1 6 .int := ⟨RX1, TX1, 13, tyX1, rfl, in_X1, by decide, rfl, tw_in (w := Cond.fieldLink RX1 31 RX1 (TX1 6).2.1 (TX1 6).2.2.1) (List.mem_of_getElem? (i := 65) (by decide +kernel)) rfl, tyX1_ok, nmX1, rfl, by decide +kernel⟩
theorem fl_X1_34 : FL RX1 34 1 7 := ⟨RX1, TX1, 13, rfl, in_X1, by decide, rfl, tw_in (w := Cond.fieldLink RX1 34 RX1 (TX1 7).2.1 (TX1 7).2.2.1) (List.mem_of_getElem? (i := 68) (by decide +kernel)) rfl⟩
theorem fl_X1_37 : FL RX1 37 1 8 := ⟨RX1, TX1, 13, rfl, in_X1, by decide, rfl, tw_in (w := Cond.fieldLink RX1 37 RX1 (TX1 8).2.1 (TX1 8).2.2.1) (List.mem_of_getElem? (i := 70) (by decide +kernel)) rfl⟩
theorem fl_X1_40 : FL RX1 40 1 9 := ⟨RX1, TX1, 13, rfl, in_X1, by decide, rfl, tw_in (w := Cond.fieldLink RX1 40 RX1 (TX1 9).2.1 (TX1 9).2.2.1) (List.mem_of_getElem? (i := 72) (by decide +kernel)) rfl⟩
theorem fl_X1_43 : FL RX1 43 1 10 := ⟨RX1, TX1, 13, rfl, in_X1, by decide, rfl, tw_in (w := Cond.fieldLink RX1 43 RX1 (TX1 10).2.1 (TX1 10).2.2.1) (List.mem_of_getElem? (i := 74) (by decide +kernel)) rfl⟩
theorem fp_X1_43 : FP RX1 43 1 10 .int := ⟨RX1, TX1, 13, tyX1, rfl, in_X1, by decide, rfl, tw_in (w := Cond.fieldLink RX1 43 RX1 (TX1 10).2.1 (TX1 10).2.2.1) (List.mem_of_getElem? (i := 74) (by decide +kernel)) rfl, tyX1_ok, nmX1, rfl, by decide +kernel⟩
theorem fl_X1_46 : FL RX1 46 1 11 := ⟨RX1, TX1, 13, rfl, in_X1, by decide, rfl, tw_in (w := Cond.fieldLink RX1 46 RX1 (TX1 11).2.1 (TX1 11).2.2.1) (List.mem_of_getElem? (i := 77) (by decide +kernel)) rfl⟩
theorem fp_X1_46 : FP RX1 46 1 11 .int := ⟨RX1, TX1, 13, tyX1, rfl, in_X1, by decide, rfl, tw_in (w := Cond.fieldLink RX1 46 RX1 (TX1 11).2.1 (TX1 11).2.2.1) (List.mem_of_getElem? (i := 77) (by decide +kernel)) rfl, tyX1_ok, nmX1, rfl, by decide +kernel⟩
theorem fl_X1_49 : FL RX1 49 1 12 := ⟨RX1, TX1, 13, rfl, in_X1, by decide, rfl, tw_in (w := Cond.fieldLink RX1 49 RX1 (TX1 12).2.1 (TX1 12).2.2.1) (List.mem_of_getElem? (i := 80) (by decide +kernel)) rfl⟩
theorem fl_X2_9 : FL RX2 9 2 0 := ⟨RX2, TX2, 2, rfl, in_X2, by decide, rfl, tw_in (w := Cond.fieldLink RX2 9 RX2 (TX2 0).2.1 (TX2 0).2.2.1) (List.mem_of_getElem? (i := 117) (by decide +kernel)) rfl⟩
theorem fl_X2_15 : FL RX2 15 2 1 := ⟨RX2, TX2, 2, rfl, in_X2, by decide, rfl, tw_in (w := Cond.fieldLink RX2 15 RX2 (TX2 1).2.1 (TX2 1).2.2.1) (List.mem_of_getElem? (i := 118) (by decide +kernel)) rfl⟩
theorem fp_X2_15 : FP RX2 15 2 1 .int := ⟨RX2, TX2, 2, tyX2, rfl, in_X2, by decide, rfl, tw_in (w := Cond.fieldLink RX2 15 RX2 (TX2 1).2.1 (TX2 1).2.2.1) (List.mem_of_getElem? (i := 118) (by decide +kernel)) rfl, tyX2_ok, nmX2, rfl, by decide +kernel⟩
theorem fl_X3_10 : FL RX3 10 3 0 := ⟨RX3, TX3, 10, rfl, in_X3, by decide, rfl, tw_in (w := Cond.fieldLink RX3 10 RX3 (TX3 0).2.1 (TX3 0).2.2.1) (List.mem_of_getElem? (i := 141) (by decide +kernel)) rfl⟩
theorem fl_X3_16 : FL RX3 16 3 1 := ⟨RX3, TX3, 10, rfl, in_X3, by decide, rfl, tw_in (w := Cond.fieldLink RX3 16 RX3 (TX3 1).2.1 (TX3 1).2.2.1) (List.mem_of_getElem? (i := 142) (by decide +kernel)) rfl⟩
theorem fl_X3_19 : FL RX3 19 3 2 := ⟨RX3, TX3, 10, rfl, in_X3, by decide, rfl, tw_in (w := Cond.fieldLink RX3 19 RX3 (TX3 2).2.1 (TX3 2).2.2.1) (List.mem_of_getElem? (i := 143) (by decide +kernel)) rfl⟩
theorem fl_X3_22 : FL RX3 22 3 3 := ⟨RX3, TX3, 10, rfl, in_X3, by decide, rfl, tw_in (w := Cond.fieldLink RX3 22 RX3 (TX3 3).2.1 (TX3 3).2.2.1) (List.mem_of_getElem? (i := 144) (by decide +kernel)) rfl⟩
theorem fp_X3_22 : FP RX3 22 3 3 .boolean := ⟨RX3, TX3, 10, tyX3, rfl, in_X3, by decide, rfl, tw_in (w := Cond.fieldLink RX3 22 RX3 (TX3 3).2.1 (TX3 3).2.2.1) (List.mem_of_getElem? (i := 144) (by decide +kernel)) rfl, tyX3_ok, nmX3, rfl, by decide +kernel⟩
theorem fl_X3_29 : FL RX3 29 3 4 := ⟨RX3, TX3, 10, rfl, in_X3, by decide, rfl, tw_in (w := Cond.fieldLink RX3 29 RX3 (TX3 4).2.1 (TX3 4).2.2.1) (List.mem_of_getElem? (i := 145) (by decide +kernel)) rfl⟩
theorem fl_X3_36 : FL RX3 36 3 5 := ⟨RX3, TX3, 10, rfl, in_X3, by decide, rfl, tw_in (w := Cond.fieldLink RX3 36 RX3 (TX3 5).2.1 (TX3 5).2.2.1) (List.mem_of_getElem? (i := 146) (by decide +kernel)) rfl⟩
theorem fl_X3_40 : FL RX3 40 3 6 := ⟨RX3, TX3, 10, rfl, in_X3, by decide, rfl, tw_in (w := Cond.fieldLink RX3 40 RX3 (TX3 6).2.1 (TX3 6).2.2.1) (List.mem_of_getElem? (i := 147) (by decide +kernel)) rfl⟩
theorem fl_X3_44 : FL RX3 44 3 7 := ⟨RX3, TX3, 10, rfl, in_X3, by decide, rfl, tw_in (w := Cond.fieldLink RX3 44 RX3 (TX3 7).2.1 (TX3 7).2.2.1) (List.mem_of_getElem? (i := 148) (by decide +kernel)) rfl⟩
theorem fl_X3_47 : FL RX3 47 3 8 := ⟨RX3, TX3, 10, rfl, in_X3, by decide, rfl, tw_in (w := Cond.fieldLink RX3 47 RX3 (TX3 8).2.1 (TX3 8).2.2.1) (List.mem_of_getElem? (i := 149) (by decide +kernel)) rfl⟩
theorem fp_X3_47 : FP RX3 47 3 8 .int := ⟨RX3, TX3, 10, tyX3, rfl, in_X3, by decide, rfl, tw_in (w := Cond.fieldLink RX3 47 RX3 (TX3 8).2.1 (TX3 8).2.2.1) (List.mem_of_getElem? (i := 149) (by decide +kernel)) rfl, tyX3_ok, nmX3, rfl, by decide +kernel⟩
theorem fl_X3_51 : FL RX3 51 3 9 := ⟨RX3, TX3, 10, rfl, in_X3, by decide, rfl, tw_in (w := Cond.fieldLink RX3 51 RX3 (TX3 9).2.1 (TX3 9).2.2.1) (List.mem_of_getElem? (i := 150) (by decide +kernel)) rfl⟩
theorem fl_X3_62 : FL RX3 62 2 1 := ⟨RX2, TX2, 2, rfl, in_X2, by decide, rfl, tw_in (w := Cond.fieldLink RX3 62 RX2 (TX2 1).2.1 (TX2 1).2.2.1) (List.mem_of_getElem? (i := 119) (by decide +kernel)) rfl⟩
theorem fp_X3_62 : FP RX3 62 2 1 .int := ⟨RX2, TX2, 2, tyX2, rfl, in_X2, by decide, rfl, tw_in (w := Cond.fieldLink RX3 62 RX2 (TX2 1).2.1 (TX2 1).2.2.1) (List.mem_of_getElem? (i := 119) (by decide +kernel)) rfl, tyX2_ok, nmX2, rfl, by decide +kernel⟩
theorem fl_X3_80 : FL RX3 80 1 7 := ⟨RX1, TX1, 13, rfl, in_X1, by decide, rfl, tw_in (w := Cond.fieldLink RX3 80 RX1 (TX1 7).2.1 (TX1 7).2.2.1) (List.mem_of_getElem? (i := 69) (by decide +kernel)) rfl⟩
theorem fl_X3_83 : FL RX3 83 1 8 := ⟨RX1, TX1, 13, rfl, in_X1, by decide, rfl, tw_in (w := Cond.fieldLink RX3 83 RX1 (TX1 8).2.1 (TX1 8).2.2.1) (List.mem_of_getElem? (i := 71) (by decide +kernel)) rfl⟩
theorem fl_X3_86 : FL RX3 86 1 9 := ⟨RX1, TX1, 13, rfl, in_X1, by decide, rfl, tw_in (w := Cond.fieldLink RX3 86 RX1 (TX1 9).2.1 (TX1 9).2.2.1) (List.mem_of_getElem? (i := 73) (by decide +kernel)) rfl⟩
theorem fl_X3_92 : FL RX3 92 1 1 := ⟨RX1, TX1, 13, rfl, in_X1, by decide, rfl, tw_in (w := Cond.fieldLink RX3 92 RX1 (TX1 1).2.1 (TX1 1).2.2.1) (List.mem_of_getElem? (i := 58) (by decide +kernel)) rfl⟩
theorem fl_X3_95 : FL RX3 95 1 2 := ⟨RX1, TX1, 13, rfl, in_X1, by decide, rfl, tw_in (w := Cond.fieldLink RX3 95 RX1 (TX1 2).2.1 (TX1 2).2.2.1) (List.mem_of_getElem? (i := 60) (by decide +kernel)) rfl⟩
theorem fl_X3_98 : FL RX3 98 1 3 := ⟨RX1, TX1, 13, rfl, in_X1, by decide, rfl, tw_in (w := Cond.fieldLink RX3 98 RX1 (TX1 3).2.1 (TX1 3).2.2.1) (List.mem_of_getElem? (i := 62) (by decide +kernel)) rfl⟩
theorem fp_X3_98 : FP RX3 98 1 3 .int := ⟨RX1, TX1, 13, tyX1, rfl, in_X1, by decide, rfl, tw_in (w := Cond.fieldLink RX3 98 RX1 (TX1 3).2.1 (TX1 3).2.2.1) (List.mem_of_getElem? (i := 62) (by decide +kernel)) rfl, tyX1_ok, nmX1, rfl, by decide +kernel⟩
theorem fl_X3_112 : FL RX3 112 1 10 := ⟨RX1, TX1, 13, rfl, in_X1, by decide, rfl, tw_in (w := Cond.fieldLink RX3 112 RX1 (TX1 10).2.1 (TX1 10).2.2.1) (List.mem_of_getElem? (i := 76) (by decide +kernel)) rfl⟩
theorem fp_X3_112 : FP RX3 112 1 10 .int := ⟨RX1, TX1, 13, tyX1, rfl, in_X1, by decide, rfl, tw_in (w := Cond.fieldLink RX3 112 RX1 (TX1 10).2.1 (TX1 10).2.2.1) (List.mem_of_getElem? (i := 76) (by decide +kernel)) rfl, tyX1_ok, nmX1, rfl, by decide +kernel⟩
theorem fl_X3_115 : FL RX3 115 1 6 := ⟨RX1, TX1, 13, rfl, in_X1, by decide, rfl, tw_in (w := Cond.fieldLink RX3 115 RX1 (TX1 6).2.1 (TX1 6).2.2.1) (List.mem_of_getElem? (i := 67) (by decide +kernel)) rfl⟩
theorem fp_X3_115 : FP RX3 115 1 6 .int := ⟨RX1, TX1, 13, tyX1, rfl, in_X1, by decide, rfl, tw_in (w := Cond.fieldLink RX3 115 RX1 (TX1 6).2.1 (TX1 6).2.2.1) (List.mem_of_getElem? (i := 67) (by decide +kernel)) rfl, tyX1_ok, nmX1, rfl, by decide +kernel⟩
theorem fl_X3_131 : FL RX3 131 1 0 := ⟨RX1, TX1, 13, rfl, in_X1, by decide, rfl, tw_in (w := Cond.fieldLink RX3 131 RX1 (TX1 0).2.1 (TX1 0).2.2.1) (List.mem_of_getElem? (i := 56) (by decide +kernel)) rfl⟩
theorem fp_X3_131 : FP RX3 131 1 0 .int := ⟨RX1, TX1, 13, tyX1, rfl, in_X1, by decide, rfl, tw_in (w := Cond.fieldLink RX3 131 RX1 (TX1 0).2.1 (TX1 0).2.2.1) (List.mem_of_getElem? (i := 56) (by decide +kernel)) rfl, tyX1_ok, nmX1, rfl, by decide +kernel⟩
theorem fl_X3_168 : FL RX3 168 1 11 := ⟨RX1, TX1, 13, rfl, in_X1, by decide, rfl, tw_in (w := Cond.fieldLink RX3 168 RX1 (TX1 11).2.1 (TX1 11).2.2.1) (List.mem_of_getElem? (i := 79) (by decide +kernel)) rfl⟩
theorem fp_X3_168 : FP RX3 168 1 11 .int := ⟨RX1, TX1, 13, tyX1, rfl, in_X1, by decide, rfl, tw_in (w := Cond.fieldLink RX3 168 RX1 (TX1 11).2.1 (TX1 11).2.2.1) (List.mem_of_getElem? (i := 79) (by decide +kernel)) rfl, tyX1_ok, nmX1, rfl, by decide +kernel⟩
theorem fl_X3_171 : FL RX3 171 1 12 := ⟨RX1, TX1, 13, rfl, in_X1, by decide, rfl, tw_in (w := Cond.fieldLink RX3 171 RX1 (TX1 12).2.1 (TX1 12).2.2.1) (List.mem_of_getElem? (i := 82) (by decide +kernel)) rfl⟩
theorem fl_X4_7 : FL RX4 7 4 1 := ⟨RX4, TX4, 23, rfl, in_X4, by decide, rfl, tw_in (w := Cond.fieldLink RX4 7 RX4 (TX4 1).2.1 (TX4 1).2.2.1) (List.mem_of_getElem? (i := 489) (by decide +kernel)) rfl⟩
theorem fl_X4_13 : FL RX4 13 4 2 := ⟨RX4, TX4, 23, rfl, in_X4, by decide, rfl, tw_in (w := Cond.fieldLink RX4 13 RX4 (TX4 2).2.1 (TX4 2).2.2.1) (List.mem_of_getElem? (i := 490) (by decide +kernel)) rfl⟩
theorem fl_X4_16 : FL RX4 16 4 5 := ⟨RX4, TX4, 23, rfl, in_X4, by decide, rfl, tw_in (w := Cond.fieldLink RX4 16 RX4 (TX4 5).2.1 (TX4 5).2.2.1) (List.mem_of_getElem? (i := 493) (by decide +kernel)) rfl⟩
theorem fl_X4_19 : FL RX4 19 4 6 := ⟨RX4, TX4, 23, rfl, in_X4, by decide, rfl, tw_in (w := Cond.fieldLink RX4 19 RX4 (TX4 6).2.1 (TX4 6).2.2.1) (List.mem_of_getElem? (i := 494) (by decide +kernel)) rfl⟩
theorem fl_X4_22 : FL RX4 22 4 7 := ⟨RX4, TX4, 23, rfl, in_X4, by decide, rfl, tw_in (w := Cond.fieldLink RX4 22 RX4 (TX4 7).2.1 (TX4 7).2.2.1) (List.mem_of_getElem? (i := 495) (by decide +kernel)) rfl⟩
theorem fl_X4_25 : FL RX4 25 4 10 := ⟨RX4, TX4, 23, rfl, in_X4, by decide, rfl, tw_in (w := Cond.fieldLink RX4 25 RX4 (TX4 10).2.1 (TX4 10).2.2.1) (List.mem_of_getElem? (i := 498) (by decide +kernel)) rfl⟩
theorem fl_X4_28 : FL RX4 28 4 12 := ⟨RX4, TX4, 23, rfl, in_X4, by decide, rfl, tw_in (w := Cond.fieldLink RX4 28 RX4 (TX4 12).2.1 (TX4 12).2.2.1) (List.mem_of_getElem? (i := 500) (by decide +kernel)) rfl⟩
theorem fl_X4_31 : FL RX4 31 4 14 := ⟨RX4, TX4, 23, rfl, in_X4, by decide, rfl, tw_in (w := Cond.fieldLink RX4 31 RX4 (TX4 14).2.1 (TX4 14).2.2.1) (List.mem_of_getElem? (i := 502) (by decide +kernel)) rfl⟩
theorem fl_X4_34 : FL RX4 34 4 16 := ⟨RX4, TX4, 23, rfl, in_X4, by decide, rfl, tw_in (w := Cond.fieldLink RX4 34 RX4 (TX4 16).2.1 (TX4 16).2.2.1) (List.mem_of_getElem? (i := 504) (by decide +kernel)) rfl⟩
theorem fl_X4_37 : FL RX4 37 4 17 := ⟨RX4, TX4, 23, rfl, in_X4, by decide, rfl, tw_in (w := Cond.fieldLink RX4 37 RX4 (TX4 17).2.1 (TX4 17).2.2.1) (List.mem_of_getElem? (i := 505) (by decide +kernel)) rfl⟩
theorem fl_X4_40 : FL RX4 40 4 19 := ⟨RX4, TX4, 23, rfl, in_X4, by decide, rfl, tw_in (w := Cond.fieldLink RX4 40 RX4 (TX4 19).2.1 (TX4 19).2.2.1) (List.mem_of_getElem? (i := 507) (by decide +kernel)) rfl⟩
theorem fl_X4_43 : FL RX4 43 4 20 := ⟨RX4, TX4, 23, rfl, in_X4, by decide, rfl, tw_in (w := Cond.fieldLink RX4 43 RX4 (TX4 20).2.1 (TX4 20).2.2.1) (List.mem_of_getElem? (i := 508) (by decide +kernel)) rfl⟩
theorem fl_X4_46 : FL RX4 46 4 21 := ⟨RX4, TX4, 23, rfl, in_X4, by decide, rfl, tw_in (w := Cond.fieldLink RX4 46 RX4 (TX4 21).2.1 (TX4 21).2.2.1) (List.mem_of_getElem? (i := 509) (by decide +kernel)) rfl⟩
theorem fl_X4_49 : FL RX4 49 4 22 := ⟨RX4, TX4, 23, rfl, in_X4, by decide, rfl, tw_in (w := Cond.fieldLink RX4 49 RX4 (TX4 22).2.1 (TX4 22).2.2.1) (List.mem_of_getElem? (i := 510) (by decide +kernel)) rfl⟩
theorem fl_X4_52 : FL RX4 52 4 4 := ⟨RX4, TX4, 23, rfl, in_X4, by decide, rfl, tw_in (w := Cond.fieldLink RX4 52 RX4 (TX4 4).2.1 (TX4 4).2.2.1) (List.mem_of_getElem? (i := 492) (by decide +kernel)) rfl⟩
theorem fp_X4_52 : FP RX4 52 4 4 .int := ⟨RX4, TX4, 23, tyX4, rfl, in_X4, by decide, rfl, tw_in (w := Cond.fieldLink RX4 52 RX4 (TX4 4).2.1 (TX4 4).2.2.1) (List.mem_of_getElem? (i := 492) (by decide +kernel)) rfl, tyX4_ok, nmX4, rfl, by decide +kernel⟩
theorem fl_X4_60 : FL RX4 60 4 0 := ⟨RX4, TX4, 23, rfl, in_X4, by decide, rfl, tw_in (w := Cond.fieldLink RX4 60 RX4 (TX4 0).2.1 (TX4 0).2.2.1) (List.mem_of_getElem? (i := 488) (by decide +kernel)) rfl⟩
theorem fp_X4_60 : FP RX4 60 4 0 .int := ⟨RX4, TX4, 23, tyX4, rfl, in_X4, by decide, rfl, tw_in (w := Cond.fieldLink RX4 60 RX4 (TX4 0).2.1 (TX4 0).2.2.1) (List.mem_of_getElem? (i := 488) (by decide +kernel)) rfl, tyX4_ok, nmX4, rfl, by decide +kernel⟩
theorem fl_X4_67 : FL RX4 67 4 11 := ⟨RX4, TX4, 23, rfl, in_X4, by decide, rfl, tw_in (w := Cond.fieldLink RX4 67 RX4 (TX4 11).2.1 (TX4 11).2.2.1) (List.mem_of_getElem? (i := 499) (by decide +kernel)) rfl⟩
theorem fp_X4_67 : FP RX4 67 4 11 .int := ⟨RX4, TX4, 23, tyX4, rfl, in_X4, by decide, rfl, tw_in (w := Cond.fieldLink RX4 67 RX4 (TX4 11).2.1 (TX4 11).2.2.1) (List.mem_of_getElem? (i := 499) (by decide +kernel)) rfl, tyX4_ok, nmX4, rfl, by decide +kernel⟩
theorem fl_X4_70 : FL RX4 70 4 13 := ⟨RX4, TX4, 23, rfl, in_X4, by decide, rfl, tw_in (w := Cond.fieldLink RX4 70 RX4 (TX4 13).2.1 (TX4 13).2.2.1) (List.mem_of_getElem? (i := 501) (by decide +kernel)) rfl⟩
theorem fp_X4_70 : FP RX4 70 4 13 .int := ⟨RX4, TX4, 23, tyX4, rfl, in_X4, by decide, rfl, tw_in (w := Cond.fieldLink RX4 70 RX4 (TX4 13).2.1 (TX4 13).2.2.1) (List.mem_of_getElem? (i := 501) (by decide +kernel)) rfl, tyX4_ok, nmX4, rfl, by decide +kernel⟩
theorem fl_X4_92 : FL RX4 92 4 3 := ⟨RX4, TX4, 23, rfl, in_X4, by decide, rfl, tw_in (w := Cond.fieldLink RX4 92 RX4 (TX4 3).2.1 (TX4 3).2.2.1) (List.mem_of_getElem? (i := 491) (by decide +kernel)) rfl⟩
theorem fp_X4_92 : FP RX4 92 4 3 .int := ⟨RX4, TX4, 23, tyX4, rfl, in_X4, by decide, rfl, tw_in (w := Cond.fieldLink RX4 92 RX4 (TX4 3).2.1 (TX4 3).2.2.1) (List.mem_of_getElem? (i := 491) (by decide +kernel)) rfl, tyX4_ok, nmX4, rfl, by decide +kernel⟩
theorem fl_X4_95 : FL RX4 95 4 8 := ⟨RX4, TX4, 23, rfl, in_X4, by decide, rfl, tw_in (w := Cond.fieldLink RX4 95 RX4 (TX4 8).2.1 (TX4 8).2.2.1) (List.mem_of_getElem? (i := 496) (by decide +kernel)) rfl⟩
theorem fp_X4_95 : FP RX4 95 4 8 .int := ⟨RX4, TX4, 23, tyX4, rfl, in_X4, by decide, rfl, tw_in (w := Cond.fieldLink RX4 95 RX4 (TX4 8).2.1 (TX4 8).2.2.1) (List.mem_of_getElem? (i := 496) (by decide +kernel)) rfl, tyX4_ok, nmX4, rfl, by decide +kernel⟩
theorem fl_X4_162 : FL RX4 162 4 9 := ⟨RX4, TX4, 23, rfl, in_X4, by decide, rfl, tw_in (w := Cond.fieldLink RX4 162 RX4 (TX4 9).2.1 (TX4 9).2.2.1) (List.mem_of_getElem? (i := 497) (by decide +kernel)) rfl⟩
theorem fp_X4_162 : FP RX4 162 4 9 .int := ⟨RX4, TX4, 23, tyX4, rfl, in_X4, by decide, rfl, tw_in (w := Cond.fieldLink RX4 162 RX4 (TX4 9).2.1 (TX4 9).2.2.1) (List.mem_of_getElem? (i := 497) (by decide +kernel)) rfl, tyX4_ok, nmX4, rfl, by decide +kernel⟩
theorem fl_X4_181 : FL RX4 181 4 15 := ⟨RX4, TX4, 23, rfl, in_X4, by decide, rfl, tw_in (w := Cond.fieldLink RX4 181 RX4 (TX4 15).2.1 (TX4 15).2.2.1) (List.mem_of_getElem? (i := 503) (by decide +kernel)) rfl⟩
theorem fp_X4_181 : FP RX4 181 4 15 .int := ⟨RX4, TX4, 23, tyX4, rfl, in_X4, by decide, rfl, tw_in (w := Cond.fieldLink RX4 181 RX4 (TX4 15).2.1 (TX4 15).2.2.1) (List.mem_of_getElem? (i := 503) (by decide +kernel)) rfl, tyX4_ok, nmX4, rfl, by decide +kernel⟩
theorem fl_X4_187 : FL RX4 187 4 18 := ⟨RX4, TX4, 23, rfl, in_X4, by decide, rfl, tw_in (w := Cond.fieldLink RX4 187 RX4 (TX4 18).2.1 (TX4 18).2.2.1) (List.mem_of_getElem? (i := 506) (by decide +kernel)) rfl⟩
theorem fp_X4_187 : FP RX4 187 4 18 .boolean := ⟨RX4, TX4, 23, tyX4, rfl, in_X4, by decide, rfl, tw_in (w := Cond.fieldLink RX4 187 RX4 (TX4 18).2.1 (TX4 18).2.2.1) (List.mem_of_getElem? (i := 506) (by decide +kernel)) rfl, tyX4_ok, nmX4, rfl, by decide +kernel⟩
theorem mc_J0_coder_7d493 : Cond.code yJ0_coder_7d493 cJ0_coder_7d493 1 (some .byte) ∈ TW := tw_in (w := Cond.code yJ0_coder_7d493 cJ0_coder_7d493 1 (some .byte)) (List.mem_of_getElem? (i := 611) (by decide +kernel)) rfl
theorem mi_J0_coder_7d493 : Cond.instanceMethod yJ0_coder_7d493 ∈ TW := tw_in (w := Cond.instanceMethod yJ0_coder_7d493) (List.mem_of_getElem? (i := 609) (by decide +kernel)) rfl
theorem mv_J0_coder_7d493 : Cond.selects RJ0 yJ0_coder_7d493 yJ0_coder_7d493 ∈ TW := tw_in (w := Cond.selects RJ0 yJ0_coder_7d493 yJ0_coder_7d493) (List.mem_of_getElem? (i := 610) (by decide +kernel)) rfl
theorem vl_J0_335 : VL RJ0 335 yJ0_coder_7d493 cJ0_coder_7d493 1 (some .byte) 0 := ⟨tw_in (w := Cond.methodLink RJ0 335 yJ0_coder_7d493) (List.mem_of_getElem? (i := 608) (by decide +kernel)) rfl, mi_J0_coder_7d493, mv_J0_coder_7d493, ini_J0, mc_J0_coder_7d493, by decide +kernel, by decide +kernel, by decide +kernel⟩
theorem mc_J0_isLatin1_aae02 : Cond.code yJ0_isLatin1_aae02 cJ0_isLatin1_aae02 1 (some .boolean) ∈ TW := tw_in (w := Cond.code yJ0_isLatin1_aae02 cJ0_isLatin1_aae02 1 (some .boolean)) (List.mem_of_getElem? (i := 601) (by decide +kernel)) rfl
theorem mi_J0_isLatin1_aae02 : Cond.instanceMethod yJ0_isLatin1_aae02 ∈ TW := tw_in (w := Cond.instanceMethod yJ0_isLatin1_aae02) (List.mem_of_getElem? (i := 599) (by decide +kernel)) rfl
theorem mv_J0_isLatin1_aae02 : Cond.selects RJ0 yJ0_isLatin1_aae02 yJ0_isLatin1_aae02 ∈ TW := tw_in (w := Cond.selects RJ0 yJ0_isLatin1_aae02 yJ0_isLatin1_aae02) (List.mem_of_getElem? (i := 600) (by decide +kernel)) rfl
theorem vl_J0_492 : VL RJ0 492 yJ0_isLatin1_aae02 cJ0_isLatin1_aae02 1 (some .boolean) 0 := ⟨tw_in (w := Cond.methodLink RJ0 492 yJ0_isLatin1_aae02) (List.mem_of_getElem? (i := 598) (by decide +kernel)) rfl, mi_J0_isLatin1_aae02, mv_J0_isLatin1_aae02, ini_J0, mc_J0_isLatin1_aae02, by decide +kernel, by decide +kernel, by decide +kernel⟩
theorem mc_J0_length_8abf5 : Cond.code yJ0_length_8abf5 cJ0_length_8abf5 1 (some .int) ∈ TW := tw_in (w := Cond.code yJ0_length_8abf5 cJ0_length_8abf5 1 (some .int)) (List.mem_of_getElem? (i := 607) (by decide +kernel)) rfl
theorem mi_J0_length_8abf5 : Cond.instanceMethod yJ0_length_8abf5 ∈ TW := tw_in (w := Cond.instanceMethod yJ0_length_8abf5) (List.mem_of_getElem? (i := 605) (by decide +kernel)) rfl
theorem mv_J0_length_8abf5 : Cond.selects RJ0 yJ0_length_8abf5 yJ0_length_8abf5 ∈ TW := tw_in (w := Cond.selects RJ0 yJ0_length_8abf5 yJ0_length_8abf5) (List.mem_of_getElem? (i := 606) (by decide +kernel)) rfl
theorem vl_J0_505 : VL RJ0 505 yJ0_length_8abf5 cJ0_length_8abf5 1 (some .int) 0 := ⟨tw_in (w := Cond.methodLink RJ0 505 yJ0_length_8abf5) (List.mem_of_getElem? (i := 604) (by decide +kernel)) rfl, mi_J0_length_8abf5, mv_J0_length_8abf5, ini_J0, mc_J0_length_8abf5, by decide +kernel, by decide +kernel, by decide +kernel⟩
theorem mc_J0_indexOf_7cf53 : Cond.code yJ0_indexOf_7cf53 cJ0_indexOf_7cf53 3 (some .int) ∈ TW := tw_in (w := Cond.code yJ0_indexOf_7cf53 cJ0_indexOf_7cf53 3 (some .int)) (List.mem_of_getElem? (i := 597) (by decide +kernel)) rfl
theorem mi_J0_indexOf_7cf53 : Cond.instanceMethod yJ0_indexOf_7cf53 ∈ TW := tw_in (w := Cond.instanceMethod yJ0_indexOf_7cf53) (List.mem_of_getElem? (i := 595) (by decide +kernel)) rfl
theorem mv_J0_indexOf_7cf53 : Cond.selects RJ0 yJ0_indexOf_7cf53 yJ0_indexOf_7cf53 ∈ TW := tw_in (w := Cond.selects RJ0 yJ0_indexOf_7cf53 yJ0_indexOf_7cf53) (List.mem_of_getElem? (i := 596) (by decide +kernel)) rfl
theorem vl_J0_633 : VL RJ0 633 yJ0_indexOf_7cf53 cJ0_indexOf_7cf53 3 (some .int) 2 := ⟨tw_in (w := Cond.methodLink RJ0 633 yJ0_indexOf_7cf53) (List.mem_of_getElem? (i := 594) (by decide +kernel)) rfl, mi_J0_indexOf_7cf53, mv_J0_indexOf_7cf53, ini_J0, mc_J0_indexOf_7cf53, by decide +kernel, by decide +kernel, by decide +kernel⟩
theorem mc_J1_indexOf_4cfef : Cond.code yJ1_indexOf_4cfef cJ1_indexOf_4cfef 4 (some .int) ∈ TW := tw_in (w := Cond.code yJ1_indexOf_4cfef cJ1_indexOf_4cfef 4 (some .int)) (List.mem_of_getElem? (i := 614) (by decide +kernel)) rfl
theorem ms_J1_indexOf_4cfef : Cond.static yJ1_indexOf_4cfef ∈ TW := tw_in (w := Cond.static yJ1_indexOf_4cfef) (List.mem_of_getElem? (i := 613) (by decide +kernel)) rfl
theorem sl_J0_637 : SL RJ0 637 yJ1_indexOf_4cfef cJ1_indexOf_4cfef 4 (some .int) 4 := ⟨tw_in (w := Cond.methodLink RJ0 637 yJ1_indexOf_4cfef) (List.mem_of_getElem? (i := 612) (by decide +kernel)) rfl, ms_J1_indexOf_4cfef, ini_J1, mc_J1_indexOf_4cfef, by decide +kernel, by decide +kernel, by decide +kernel⟩
theorem mc_J2_indexOf_4cfef : Cond.code yJ2_indexOf_4cfef cJ2_indexOf_4cfef 4 (some .int) ∈ TW := tw_in (w := Cond.code yJ2_indexOf_4cfef cJ2_indexOf_4cfef 4 (some .int)) (List.mem_of_getElem? (i := 625) (by decide +kernel)) rfl
theorem ms_J2_indexOf_4cfef : Cond.static yJ2_indexOf_4cfef ∈ TW := tw_in (w := Cond.static yJ2_indexOf_4cfef) (List.mem_of_getElem? (i := 624) (by decide +kernel)) rfl
theorem sl_J0_640 : SL RJ0 640 yJ2_indexOf_4cfef cJ2_indexOf_4cfef 4 (some .int) 4 := ⟨tw_in (w := Cond.methodLink RJ0 640 yJ2_indexOf_4cfef) (List.mem_of_getElem? (i := 623) (by decide +kernel)) rfl, ms_J2_indexOf_4cfef, ini_J2, mc_J2_indexOf_4cfef, by decide +kernel, by decide +kernel, by decide +kernel⟩
theorem mc_J3_checkFromToIndex_8c36e : Cond.code yJ3_checkFromToIndex_8c36e cJ3_checkFromToIndex_8c36e 4 (some .int) ∈ TW := tw_in (w := Cond.code yJ3_checkFromToIndex_8c36e cJ3_checkFromToIndex_8c36e 4 (some .int)) (List.mem_of_getElem? (i := 645) (by decide +kernel)) rfl
theorem ms_J3_checkFromToIndex_8c36e : Cond.static yJ3_checkFromToIndex_8c36e ∈ TW := tw_in (w := Cond.static yJ3_checkFromToIndex_8c36e) (List.mem_of_getElem? (i := 644) (by decide +kernel)) rfl
theorem sl_J0_1062 : SL RJ0 1062 yJ3_checkFromToIndex_8c36e cJ3_checkFromToIndex_8c36e 4 (some .int) 4 := ⟨tw_in (w := Cond.methodLink RJ0 1062 yJ3_checkFromToIndex_8c36e) (List.mem_of_getElem? (i := 643) (by decide +kernel)) rfl, ms_J3_checkFromToIndex_8c36e, ini_J3, mc_J3_checkFromToIndex_8c36e, by decide +kernel, by decide +kernel, by decide +kernel⟩
theorem ml_J1_38 : Cond.methodLink RJ1 38 Lib.Math.min.name ∈ TW := tw_in (w := Cond.methodLink RJ1 38 Lib.Math.min.name) (List.mem_of_getElem? (i := 619) (by decide +kernel)) rfl
theorem m_min_s : Cond.static Lib.Math.min.name ∈ TW := tw_in (w := Cond.static Lib.Math.min.name) (List.mem_of_getElem? (i := 231) (by decide +kernel)) rfl
theorem m_min_c : Cond.code Lib.Math.min.name Lib.Math.min.code 2 (some .int) ∈ TW := tw_in (w := Cond.code Lib.Math.min.name Lib.Math.min.code 2 (some .int)) (List.mem_of_getElem? (i := 232) (by decide +kernel)) rfl
theorem mc_J1_canEncode_9a6ad : Cond.code yJ1_canEncode_9a6ad cJ1_canEncode_9a6ad 1 (some .boolean) ∈ TW := tw_in (w := Cond.code yJ1_canEncode_9a6ad cJ1_canEncode_9a6ad 1 (some .boolean)) (List.mem_of_getElem? (i := 617) (by decide +kernel)) rfl
theorem ms_J1_canEncode_9a6ad : Cond.static yJ1_canEncode_9a6ad ∈ TW := tw_in (w := Cond.static yJ1_canEncode_9a6ad) (List.mem_of_getElem? (i := 616) (by decide +kernel)) rfl
theorem sl_J1_88 : SL RJ1 88 yJ1_canEncode_9a6ad cJ1_canEncode_9a6ad 1 (some .boolean) 1 := ⟨tw_in (w := Cond.methodLink RJ1 88 yJ1_canEncode_9a6ad) (List.mem_of_getElem? (i := 615) (by decide +kernel)) rfl, ms_J1_canEncode_9a6ad, ini_J1, mc_J1_canEncode_9a6ad, by decide +kernel, by decide +kernel, by decide +kernel⟩
theorem ml_J1_92 : Cond.methodLink RJ1 92 Lib.Math.max.name ∈ TW := tw_in (w := Cond.methodLink RJ1 92 Lib.Math.max.name) (List.mem_of_getElem? (i := 618) (by decide +kernel)) rfl
theorem m_max_s : Cond.static Lib.Math.max.name ∈ TW := tw_in (w := Cond.static Lib.Math.max.name) (List.mem_of_getElem? (i := 234) (by decide +kernel)) rfl
theorem m_max_c : Cond.code Lib.Math.max.name Lib.Math.max.code 2 (some .int) ∈ TW := tw_in (w := Cond.code Lib.Math.max.name Lib.Math.max.code 2 (some .int)) (List.mem_of_getElem? (i := 235) (by decide +kernel)) rfl
theorem mc_J1_indexOfChar_4cfef : Cond.code yJ1_indexOfChar_4cfef cJ1_indexOfChar_4cfef 6 (some .int) ∈ TW := tw_in (w := Cond.code yJ1_indexOfChar_4cfef cJ1_indexOfChar_4cfef 6 (some .int)) (List.mem_of_getElem? (i := 622) (by decide +kernel)) rfl
theorem ms_J1_indexOfChar_4cfef : Cond.static yJ1_indexOfChar_4cfef ∈ TW := tw_in (w := Cond.static yJ1_indexOfChar_4cfef) (List.mem_of_getElem? (i := 621) (by decide +kernel)) rfl
theorem sl_J1_95 : SL RJ1 95 yJ1_indexOfChar_4cfef cJ1_indexOfChar_4cfef 6 (some .int) 4 := ⟨tw_in (w := Cond.methodLink RJ1 95 yJ1_indexOfChar_4cfef) (List.mem_of_getElem? (i := 620) (by decide +kernel)) rfl, ms_J1_indexOfChar_4cfef, ini_J1, mc_J1_indexOfChar_4cfef, by decide +kernel, by decide +kernel, by decide +kernel⟩
theorem mc_J2_length_9d52b : Cond.code yJ2_length_9d52b cJ2_length_9d52b 1 (some .int) ∈ TW := tw_in (w := Cond.code yJ2_length_9d52b cJ2_length_9d52b 1 (some .int)) (List.mem_of_getElem? (i := 637) (by decide +kernel)) rfl
theorem ms_J2_length_9d52b : Cond.static yJ2_length_9d52b ∈ TW := tw_in (w := Cond.static yJ2_length_9d52b) (List.mem_of_getElem? (i := 636) (by decide +kernel)) rfl
theorem sl_J2_48 : SL RJ2 48 yJ2_length_9d52b cJ2_length_9d52b 1 (some .int) 1 := ⟨tw_in (w := Cond.methodLink RJ2 48 yJ2_length_9d52b) (List.mem_of_getElem? (i := 635) (by decide +kernel)) rfl, ms_J2_length_9d52b, ini_J2, mc_J2_length_9d52b, by decide +kernel, by decide +kernel, by decide +kernel⟩
theorem mc_J2_getChar_3b067 : Cond.code yJ2_getChar_3b067 cJ2_getChar_3b067 2 (some .char) ∈ TW := tw_in (w := Cond.code yJ2_getChar_3b067 cJ2_getChar_3b067 2 (some .char)) (List.mem_of_getElem? (i := 651) (by decide +kernel)) rfl
theorem ms_J2_getChar_3b067 : Cond.static yJ2_getChar_3b067 ∈ TW := tw_in (w := Cond.static yJ2_getChar_3b067) (List.mem_of_getElem? (i := 650) (by decide +kernel)) rfl
theorem sl_J2_71 : SL RJ2 71 yJ2_getChar_3b067 cJ2_getChar_3b067 2 (some .char) 2 := ⟨tw_in (w := Cond.methodLink RJ2 71 yJ2_getChar_3b067) (List.mem_of_getElem? (i := 649) (by decide +kernel)) rfl, ms_J2_getChar_3b067, ini_J2, mc_J2_getChar_3b067, by decide +kernel, by decide +kernel, by decide +kernel⟩
theorem mc_J2_checkBoundsBeginEnd_d044e : Cond.code yJ2_checkBoundsBeginEnd_d044e cJ2_checkBoundsBeginEnd_d044e 3 none ∈ TW := tw_in (w := Cond.code yJ2_checkBoundsBeginEnd_d044e cJ2_checkBoundsBeginEnd_d044e 3 none) (List.mem_of_getElem? (i := 634) (by decide +kernel)) rfl
theorem ms_J2_checkBoundsBeginEnd_d044e : Cond.static yJ2_checkBoundsBeginEnd_d044e ∈ TW := tw_in (w := Cond.static yJ2_checkBoundsBeginEnd_d044e) (List.mem_of_getElem? (i := 633) (by decide +kernel)) rfl
theorem sl_J2_96 : SL RJ2 96 yJ2_checkBoundsBeginEnd_d044e cJ2_checkBoundsBeginEnd_d044e 3 none 3 := ⟨tw_in (w := Cond.methodLink RJ2 96 yJ2_checkBoundsBeginEnd_d044e) (List.mem_of_getElem? (i := 632) (by decide +kernel)) rfl, ms_J2_checkBoundsBeginEnd_d044e, ini_J2, mc_J2_checkBoundsBeginEnd_d044e, by decide +kernel, by decide +kernel, by decide +kernel⟩
theorem mc_J11_highSurrogate_5068e : Cond.code yJ11_highSurrogate_5068e cJ11_highSurrogate_5068e 1 (some .char) ∈ TW := tw_in (w := Cond.code yJ11_highSurrogate_5068e cJ11_highSurrogate_5068e 1 (some .char)) (List.mem_of_getElem? (i := 666) (by decide +kernel)) rfl
theorem ms_J11_highSurrogate_5068e : Cond.static yJ11_highSurrogate_5068e ∈ TW := tw_in (w := Cond.static yJ11_highSurrogate_5068e) (List.mem_of_getElem? (i := 665) (by decide +kernel)) rfl
theorem sl_J2_157 : SL RJ2 157 yJ11_highSurrogate_5068e cJ11_highSurrogate_5068e 1 (some .char) 1 := ⟨tw_in (w := Cond.methodLink RJ2 157 yJ11_highSurrogate_5068e) (List.mem_of_getElem? (i := 664) (by decide +kernel)) rfl, ms_J11_highSurrogate_5068e, ini_J11, mc_J11_highSurrogate_5068e, by decide +kernel, by decide +kernel, by decide +kernel⟩
theorem mc_J11_lowSurrogate_5068e : Cond.code yJ11_lowSurrogate_5068e cJ11_lowSurrogate_5068e 1 (some .char) ∈ TW := tw_in (w := Cond.code yJ11_lowSurrogate_5068e cJ11_lowSurrogate_5068e 1 (some .char)) (List.mem_of_getElem? (i := 670) (by decide +kernel)) rfl
theorem ms_J11_lowSurrogate_5068e : Cond.static yJ11_lowSurrogate_5068e ∈ TW := tw_in (w := Cond.static yJ11_lowSurrogate_5068e) (List.mem_of_getElem? (i := 669) (by decide +kernel)) rfl
theorem sl_J2_161 : SL RJ2 161 yJ11_lowSurrogate_5068e cJ11_lowSurrogate_5068e 1 (some .char) 1 := ⟨tw_in (w := Cond.methodLink RJ2 161 yJ11_lowSurrogate_5068e) (List.mem_of_getElem? (i := 668) (by decide +kernel)) rfl, ms_J11_lowSurrogate_5068e, ini_J11, mc_J11_lowSurrogate_5068e, by decide +kernel, by decide +kernel, by decide +kernel⟩
theorem mc_J11_isValidCodePoint_9a6ad : Cond.code yJ11_isValidCodePoint_9a6ad cJ11_isValidCodePoint_9a6ad 2 (some .boolean) ∈ TW := tw_in (w := Cond.code yJ11_isValidCodePoint_9a6ad cJ11_isValidCodePoint_9a6ad 2 (some .boolean)) (List.mem_of_getElem? (i := 663) (by decide +kernel)) rfl
theorem ms_J11_isValidCodePoint_9a6ad : Cond.static yJ11_isValidCodePoint_9a6ad ∈ TW := tw_in (w := Cond.static yJ11_isValidCodePoint_9a6ad) (List.mem_of_getElem? (i := 662) (by decide +kernel)) rfl
theorem sl_J2_164 : SL RJ2 164 yJ11_isValidCodePoint_9a6ad cJ11_isValidCodePoint_9a6ad 2 (some .boolean) 1 := ⟨tw_in (w := Cond.methodLink RJ2 164 yJ11_isValidCodePoint_9a6ad) (List.mem_of_getElem? (i := 661) (by decide +kernel)) rfl, ms_J11_isValidCodePoint_9a6ad, ini_J11, mc_J11_isValidCodePoint_9a6ad, by decide +kernel, by decide +kernel, by decide +kernel⟩
theorem ml_J2_183 : Cond.methodLink RJ2 183 Lib.Math.min.name ∈ TW := tw_in (w := Cond.methodLink RJ2 183 Lib.Math.min.name) (List.mem_of_getElem? (i := 627) (by decide +kernel)) rfl
theorem ml_J2_224 : Cond.methodLink RJ2 224 Lib.Math.max.name ∈ TW := tw_in (w := Cond.methodLink RJ2 224 Lib.Math.max.name) (List.mem_of_getElem? (i := 626) (by decide +kernel)) rfl
theorem mc_J2_indexOfChar_4cfef : Cond.code yJ2_indexOfChar_4cfef cJ2_indexOfChar_4cfef 4 (some .int) ∈ TW := tw_in (w := Cond.code yJ2_indexOfChar_4cfef cJ2_indexOfChar_4cfef 4 (some .int)) (List.mem_of_getElem? (i := 631) (by decide +kernel)) rfl
theorem ms_J2_indexOfChar_4cfef : Cond.static yJ2_indexOfChar_4cfef ∈ TW := tw_in (w := Cond.static yJ2_indexOfChar_4cfef) (List.mem_of_getElem? (i := 630) (by decide +kernel)) rfl
theorem sl_J2_228 : SL RJ2 228 yJ2_indexOfChar_4cfef cJ2_indexOfChar_4cfef 4 (some .int) 4 := ⟨tw_in (w := Cond.methodLink RJ2 228 yJ2_indexOfChar_4cfef) (List.mem_of_getElem? (i := 629) (by decide +kernel)) rfl, ms_J2_indexOfChar_4cfef, ini_J2, mc_J2_indexOfChar_4cfef, by decide +kernel, by decide +kernel, by decide +kernel⟩
theorem mc_J2_indexOfSupplementary_4cfef : Cond.code yJ2_indexOfSupplementary_4cfef cJ2_indexOfSupplementary_4cfef 7 (some .int) ∈ TW := tw_in (w := Cond.code yJ2_indexOfSupplementary_4cfef cJ2_indexOfSupplementary_4cfef 7 (some .int)) (List.mem_of_getElem? (i := 660) (by decide +kernel)) rfl
theorem ms_J2_indexOfSupplementary_4cfef : Cond.static yJ2_indexOfSupplementary_4cfef ∈ TW := tw_in (w := Cond.static yJ2_indexOfSupplementary_4cfef) (List.mem_of_getElem? (i := 659) (by decide +kernel)) rfl
theorem sl_J2_232 : SL RJ2 232 yJ2_indexOfSupplementary_4cfef cJ2_indexOfSupplementary_4cfef 7 (some .int) 4 := ⟨tw_in (w := Cond.methodLink RJ2 232 yJ2_indexOfSupplementary_4cfef) (List.mem_of_getElem? (i := 658) (by decide +kernel)) rfl, ms_J2_indexOfSupplementary_4cfef, ini_J2, mc_J2_indexOfSupplementary_4cfef, by decide +kernel, by decide +kernel, by decide +kernel⟩
theorem mc_J0_checkBoundsBeginEnd_23922 : Cond.code yJ0_checkBoundsBeginEnd_23922 cJ0_checkBoundsBeginEnd_23922 3 none ∈ TW := tw_in (w := Cond.code yJ0_checkBoundsBeginEnd_23922 cJ0_checkBoundsBeginEnd_23922 3 none) (List.mem_of_getElem? (i := 640) (by decide +kernel)) rfl
theorem ms_J0_checkBoundsBeginEnd_23922 : Cond.static yJ0_checkBoundsBeginEnd_23922 ∈ TW := tw_in (w := Cond.static yJ0_checkBoundsBeginEnd_23922) (List.mem_of_getElem? (i := 639) (by decide +kernel)) rfl
theorem sl_J2_241 : SL RJ2 241 yJ0_checkBoundsBeginEnd_23922 cJ0_checkBoundsBeginEnd_23922 3 none 3 := ⟨tw_in (w := Cond.methodLink RJ2 241 yJ0_checkBoundsBeginEnd_23922) (List.mem_of_getElem? (i := 638) (by decide +kernel)) rfl, ms_J0_checkBoundsBeginEnd_23922, ini_J0, mc_J0_checkBoundsBeginEnd_23922, by decide +kernel, by decide +kernel, by decide +kernel⟩
theorem mc_J2_indexOfCharUnsafe_4cfef : Cond.code yJ2_indexOfCharUnsafe_4cfef cJ2_indexOfCharUnsafe_4cfef 5 (some .int) ∈ TW := tw_in (w := Cond.code yJ2_indexOfCharUnsafe_4cfef cJ2_indexOfCharUnsafe_4cfef 5 (some .int)) (List.mem_of_getElem? (i := 648) (by decide +kernel)) rfl
theorem ms_J2_indexOfCharUnsafe_4cfef : Cond.static yJ2_indexOfCharUnsafe_4cfef ∈ TW := tw_in (w := Cond.static yJ2_indexOfCharUnsafe_4cfef) (List.mem_of_getElem? (i := 647) (by decide +kernel)) rfl
theorem sl_J2_244 : SL RJ2 244 yJ2_indexOfCharUnsafe_4cfef cJ2_indexOfCharUnsafe_4cfef 5 (some .int) 4 := ⟨tw_in (w := Cond.methodLink RJ2 244 yJ2_indexOfCharUnsafe_4cfef) (List.mem_of_getElem? (i := 646) (by decide +kernel)) rfl, ms_J2_indexOfCharUnsafe_4cfef, ini_J2, mc_J2_indexOfCharUnsafe_4cfef, by decide +kernel, by decide +kernel, by decide +kernel⟩
theorem mc_X3_init : Cond.code yX3_init cX3_init 1 none ∈ TW := tw_in (w := Cond.code yX3_init cX3_init 1 none) (List.mem_of_getElem? (i := 45) (by decide +kernel)) rfl
theorem mi_X3_init : Cond.instanceMethod yX3_init ∈ TW := tw_in (w := Cond.instanceMethod yX3_init) (List.mem_of_getElem? (i := 44) (by decide +kernel)) rfl
theorem ml_L_9 : Cond.methodLink RL 9 yX3_init ∈ TW := tw_in (w := Cond.methodLink RL 9 yX3_init) (List.mem_of_getElem? (i := 43) (by decide +kernel)) rfl
theorem mc_X4_init : Cond.code yX4_init cX4_init 1 none ∈ TW := tw_in (w := Cond.code yX4_init cX4_init 1 none) (List.mem_of_getElem? (i := 486) (by decide +kernel)) rfl
theorem mi_X4_init : Cond.instanceMethod yX4_init ∈ TW := tw_in (w := Cond.instanceMethod yX4_init) (List.mem_of_getElem? (i := 485) (by decide +kernel)) rfl
theorem ml_L_12 : Cond.methodLink RL 12 yX4_init ∈ TW := tw_in (w := Cond.methodLink RL 12 yX4_init) (List.mem_of_getElem? (i := 484) (by decide +kernel)) rfl
theorem mc_X3_letter : Cond.code yX3_letter cX3_letter 3 (some .int) ∈ TW := tw_in (w := Cond.code yX3_letter cX3_letter 3 (some .int)) (List.mem_of_getElem? (i := 175) (by decide +kernel)) rfl
theorem mi_X3_letter : Cond.instanceMethod yX3_letter ∈ TW := tw_in (w := Cond.instanceMethod yX3_letter) (List.mem_of_getElem? (i := 173) (by decide +kernel)) rfl
theorem mv_X3_letter : Cond.selects RX3 yX3_letter yX3_letter ∈ TW := tw_in (w := Cond.selects RX3 yX3_letter yX3_letter) (List.mem_of_getElem? (i := 174) (by decide +kernel)) rfl
theorem vl_L_13 : VL RL 13 yX3_letter cX3_letter 3 (some .int) 1 := ⟨tw_in (w := Cond.methodLink RL 13 yX3_letter) (List.mem_of_getElem? (i := 172) (by decide +kernel)) rfl, mi_X3_letter, mv_X3_letter, ini_X3, mc_X3_letter, by decide +kernel, by decide +kernel, by decide +kernel⟩
theorem mc_X4_letter : Cond.code yX4_letter cX4_letter 2 (some .int) ∈ TW := tw_in (w := Cond.code yX4_letter cX4_letter 2 (some .int)) (List.mem_of_getElem? (i := 561) (by decide +kernel)) rfl
theorem mi_X4_letter : Cond.instanceMethod yX4_letter ∈ TW := tw_in (w := Cond.instanceMethod yX4_letter) (List.mem_of_getElem? (i := 559) (by decide +kernel)) rfl
theorem mv_X4_letter : Cond.selects RX4 yX4_letter yX4_letter ∈ TW := tw_in (w := Cond.selects RX4 yX4_letter yX4_letter) (List.mem_of_getElem? (i := 560) (by decide +kernel)) rfl
theorem vl_L_17 : VL RL 17 yX4_letter cX4_letter 2 (some .int) 1 := ⟨tw_in (w := Cond.methodLink RL 17 yX4_letter) (List.mem_of_getElem? (i := 558) (by decide +kernel)) rfl, mi_X4_letter, mv_X4_letter, ini_X4, mc_X4_letter, by decide +kernel, by decide +kernel, by decide +kernel⟩
theorem mc_X3_house : Cond.code yX3_house cX3_house 2 (some .int) ∈ TW := tw_in (w := Cond.code yX3_house cX3_house 2 (some .int)) (List.mem_of_getElem? (i := 190) (by decide +kernel)) rfl
theorem mi_X3_house : Cond.instanceMethod yX3_house ∈ TW := tw_in (w := Cond.instanceMethod yX3_house) (List.mem_of_getElem? (i := 188) (by decide +kernel)) rfl
theorem mv_X3_house : Cond.selects RX3 yX3_house yX3_house ∈ TW := tw_in (w := Cond.selects RX3 yX3_house yX3_house) (List.mem_of_getElem? (i := 189) (by decide +kernel)) rfl
theorem vl_L_18 : VL RL 18 yX3_house cX3_house 2 (some .int) 0 := ⟨tw_in (w := Cond.methodLink RL 18 yX3_house) (List.mem_of_getElem? (i := 187) (by decide +kernel)) rfl, mi_X3_house, mv_X3_house, ini_X3, mc_X3_house, by decide +kernel, by decide +kernel, by decide +kernel⟩
theorem mc_X4_house : Cond.code yX4_house cX4_house 4 (some .int) ∈ TW := tw_in (w := Cond.code yX4_house cX4_house 4 (some .int)) (List.mem_of_getElem? (i := 569) (by decide +kernel)) rfl
theorem mi_X4_house : Cond.instanceMethod yX4_house ∈ TW := tw_in (w := Cond.instanceMethod yX4_house) (List.mem_of_getElem? (i := 567) (by decide +kernel)) rfl
theorem mv_X4_house : Cond.selects RX4 yX4_house yX4_house ∈ TW := tw_in (w := Cond.selects RX4 yX4_house yX4_house) (List.mem_of_getElem? (i := 568) (by decide +kernel)) rfl
theorem vl_L_22 : VL RL 22 yX4_house cX4_house 4 (some .int) 0 := ⟨tw_in (w := Cond.methodLink RL 22 yX4_house) (List.mem_of_getElem? (i := 566) (by decide +kernel)) rfl, mi_X4_house, mv_X4_house, ini_X4, mc_X4_house, by decide +kernel, by decide +kernel, by decide +kernel⟩
theorem mc_X3_thing : Cond.code yX3_thing cX3_thing 3 (some .int) ∈ TW := tw_in (w := Cond.code yX3_thing cX3_thing 3 (some .int)) (List.mem_of_getElem? (i := 280) (by decide +kernel)) rfl
theorem mi_X3_thing : Cond.instanceMethod yX3_thing ∈ TW := tw_in (w := Cond.instanceMethod yX3_thing) (List.mem_of_getElem? (i := 278) (by decide +kernel)) rfl
theorem mv_X3_thing : Cond.selects RX3 yX3_thing yX3_thing ∈ TW := tw_in (w := Cond.selects RX3 yX3_thing yX3_thing) (List.mem_of_getElem? (i := 279) (by decide +kernel)) rfl
theorem vl_L_23 : VL RL 23 yX3_thing cX3_thing 3 (some .int) 2 := ⟨tw_in (w := Cond.methodLink RL 23 yX3_thing) (List.mem_of_getElem? (i := 277) (by decide +kernel)) rfl, mi_X3_thing, mv_X3_thing, ini_X3, mc_X3_thing, by decide +kernel, by decide +kernel, by decide +kernel⟩
theorem mc_X4_thing : Cond.code yX4_thing cX4_thing 3 (some .int) ∈ TW := tw_in (w := Cond.code yX4_thing cX4_thing 3 (some .int)) (List.mem_of_getElem? (i := 701) (by decide +kernel)) rfl
theorem mi_X4_thing : Cond.instanceMethod yX4_thing ∈ TW := tw_in (w := Cond.instanceMethod yX4_thing) (List.mem_of_getElem? (i := 699) (by decide +kernel)) rfl
theorem mv_X4_thing : Cond.selects RX4 yX4_thing yX4_thing ∈ TW := tw_in (w := Cond.selects RX4 yX4_thing yX4_thing) (List.mem_of_getElem? (i := 700) (by decide +kernel)) rfl
theorem vl_L_27 : VL RL 27 yX4_thing cX4_thing 3 (some .int) 2 := ⟨tw_in (w := Cond.methodLink RL 27 yX4_thing) (List.mem_of_getElem? (i := 698) (by decide +kernel)) rfl, mi_X4_thing, mv_X4_thing, ini_X4, mc_X4_thing, by decide +kernel, by decide +kernel, by decide +kernel⟩
theorem mc_X3_line : Cond.code yX3_line cX3_line 3 (some .int) ∈ TW := tw_in (w := Cond.code yX3_line cX3_line 3 (some .int)) (List.mem_of_getElem? (i := 285) (by decide +kernel)) rfl
theorem mi_X3_line : Cond.instanceMethod yX3_line ∈ TW := tw_in (w := Cond.instanceMethod yX3_line) (List.mem_of_getElem? (i := 283) (by decide +kernel)) rfl
theorem mv_X3_line : Cond.selects RX3 yX3_line yX3_line ∈ TW := tw_in (w := Cond.selects RX3 yX3_line yX3_line) (List.mem_of_getElem? (i := 284) (by decide +kernel)) rfl
theorem vl_L_28 : VL RL 28 yX3_line cX3_line 3 (some .int) 2 := ⟨tw_in (w := Cond.methodLink RL 28 yX3_line) (List.mem_of_getElem? (i := 282) (by decide +kernel)) rfl, mi_X3_line, mv_X3_line, ini_X3, mc_X3_line, by decide +kernel, by decide +kernel, by decide +kernel⟩
theorem mc_X4_line : Cond.code yX4_line cX4_line 3 (some .int) ∈ TW := tw_in (w := Cond.code yX4_line cX4_line 3 (some .int)) (List.mem_of_getElem? (i := 705) (by decide +kernel)) rfl
theorem mi_X4_line : Cond.instanceMethod yX4_line ∈ TW := tw_in (w := Cond.instanceMethod yX4_line) (List.mem_of_getElem? (i := 703) (by decide +kernel)) rfl
theorem mv_X4_line : Cond.selects RX4 yX4_line yX4_line ∈ TW := tw_in (w := Cond.selects RX4 yX4_line yX4_line) (List.mem_of_getElem? (i := 704) (by decide +kernel)) rfl
theorem vl_L_31 : VL RL 31 yX4_line cX4_line 3 (some .int) 2 := ⟨tw_in (w := Cond.methodLink RL 31 yX4_line) (List.mem_of_getElem? (i := 702) (by decide +kernel)) rfl, mi_X4_line, mv_X4_line, ini_X4, mc_X4_line, by decide +kernel, by decide +kernel, by decide +kernel⟩
theorem mc_X3_curtain : Cond.code yX3_curtain cX3_curtain 2 (some .int) ∈ TW := tw_in (w := Cond.code yX3_curtain cX3_curtain 2 (some .int)) (List.mem_of_getElem? (i := 290) (by decide +kernel)) rfl
theorem mi_X3_curtain : Cond.instanceMethod yX3_curtain ∈ TW := tw_in (w := Cond.instanceMethod yX3_curtain) (List.mem_of_getElem? (i := 288) (by decide +kernel)) rfl
theorem mv_X3_curtain : Cond.selects RX3 yX3_curtain yX3_curtain ∈ TW := tw_in (w := Cond.selects RX3 yX3_curtain yX3_curtain) (List.mem_of_getElem? (i := 289) (by decide +kernel)) rfl
theorem vl_L_32 : VL RL 32 yX3_curtain cX3_curtain 2 (some .int) 1 := ⟨tw_in (w := Cond.methodLink RL 32 yX3_curtain) (List.mem_of_getElem? (i := 287) (by decide +kernel)) rfl, mi_X3_curtain, mv_X3_curtain, ini_X3, mc_X3_curtain, by decide +kernel, by decide +kernel, by decide +kernel⟩
theorem mc_X4_curtain : Cond.code yX4_curtain cX4_curtain 2 (some .int) ∈ TW := tw_in (w := Cond.code yX4_curtain cX4_curtain 2 (some .int)) (List.mem_of_getElem? (i := 709) (by decide +kernel)) rfl
theorem mi_X4_curtain : Cond.instanceMethod yX4_curtain ∈ TW := tw_in (w := Cond.instanceMethod yX4_curtain) (List.mem_of_getElem? (i := 707) (by decide +kernel)) rfl
theorem mv_X4_curtain : Cond.selects RX4 yX4_curtain yX4_curtain ∈ TW := tw_in (w := Cond.selects RX4 yX4_curtain yX4_curtain) (List.mem_of_getElem? (i := 708) (by decide +kernel)) rfl
theorem vl_L_35 : VL RL 35 yX4_curtain cX4_curtain 2 (some .int) 1 := ⟨tw_in (w := Cond.methodLink RL 35 yX4_curtain) (List.mem_of_getElem? (i := 706) (by decide +kernel)) rfl, mi_X4_curtain, mv_X4_curtain, ini_X4, mc_X4_curtain, by decide +kernel, by decide +kernel, by decide +kernel⟩
theorem mc_X3_move : Cond.code yX3_move cX3_move 4 (some .int) ∈ TW := tw_in (w := Cond.code yX3_move cX3_move 4 (some .int)) (List.mem_of_getElem? (i := 295) (by decide +kernel)) rfl
theorem mi_X3_move : Cond.instanceMethod yX3_move ∈ TW := tw_in (w := Cond.instanceMethod yX3_move) (List.mem_of_getElem? (i := 293) (by decide +kernel)) rfl
theorem mv_X3_move : Cond.selects RX3 yX3_move yX3_move ∈ TW := tw_in (w := Cond.selects RX3 yX3_move yX3_move) (List.mem_of_getElem? (i := 294) (by decide +kernel)) rfl
theorem vl_L_36 : VL RL 36 yX3_move cX3_move 4 (some .int) 2 := ⟨tw_in (w := Cond.methodLink RL 36 yX3_move) (List.mem_of_getElem? (i := 292) (by decide +kernel)) rfl, mi_X3_move, mv_X3_move, ini_X3, mc_X3_move, by decide +kernel, by decide +kernel, by decide +kernel⟩
theorem mc_X4_move : Cond.code yX4_move cX4_move 4 (some .int) ∈ TW := tw_in (w := Cond.code yX4_move cX4_move 4 (some .int)) (List.mem_of_getElem? (i := 713) (by decide +kernel)) rfl
theorem mi_X4_move : Cond.instanceMethod yX4_move ∈ TW := tw_in (w := Cond.instanceMethod yX4_move) (List.mem_of_getElem? (i := 711) (by decide +kernel)) rfl
theorem mv_X4_move : Cond.selects RX4 yX4_move yX4_move ∈ TW := tw_in (w := Cond.selects RX4 yX4_move yX4_move) (List.mem_of_getElem? (i := 712) (by decide +kernel)) rfl
theorem vl_L_39 : VL RL 39 yX4_move cX4_move 4 (some .int) 2 := ⟨tw_in (w := Cond.methodLink RL 39 yX4_move) (List.mem_of_getElem? (i := 710) (by decide +kernel)) rfl, mi_X4_move, mv_X4_move, ini_X4, mc_X4_move, by decide +kernel, by decide +kernel, by decide +kernel⟩
theorem mc_X3_pair : Cond.code yX3_pair cX3_pair 3 (some .int) ∈ TW := tw_in (w := Cond.code yX3_pair cX3_pair 3 (some .int)) (List.mem_of_getElem? (i := 300) (by decide +kernel)) rfl
theorem mi_X3_pair : Cond.instanceMethod yX3_pair ∈ TW := tw_in (w := Cond.instanceMethod yX3_pair) (List.mem_of_getElem? (i := 298) (by decide +kernel)) rfl
theorem mv_X3_pair : Cond.selects RX3 yX3_pair yX3_pair ∈ TW := tw_in (w := Cond.selects RX3 yX3_pair yX3_pair) (List.mem_of_getElem? (i := 299) (by decide +kernel)) rfl
theorem vl_L_40 : VL RL 40 yX3_pair cX3_pair 3 (some .int) 2 := ⟨tw_in (w := Cond.methodLink RL 40 yX3_pair) (List.mem_of_getElem? (i := 297) (by decide +kernel)) rfl, mi_X3_pair, mv_X3_pair, ini_X3, mc_X3_pair, by decide +kernel, by decide +kernel, by decide +kernel⟩
theorem mc_X4_pair : Cond.code yX4_pair cX4_pair 3 (some .int) ∈ TW := tw_in (w := Cond.code yX4_pair cX4_pair 3 (some .int)) (List.mem_of_getElem? (i := 717) (by decide +kernel)) rfl
theorem mi_X4_pair : Cond.instanceMethod yX4_pair ∈ TW := tw_in (w := Cond.instanceMethod yX4_pair) (List.mem_of_getElem? (i := 715) (by decide +kernel)) rfl
theorem mv_X4_pair : Cond.selects RX4 yX4_pair yX4_pair ∈ TW := tw_in (w := Cond.selects RX4 yX4_pair yX4_pair) (List.mem_of_getElem? (i := 716) (by decide +kernel)) rfl
theorem vl_L_43 : VL RL 43 yX4_pair cX4_pair 3 (some .int) 2 := ⟨tw_in (w := Cond.methodLink RL 43 yX4_pair) (List.mem_of_getElem? (i := 714) (by decide +kernel)) rfl, mi_X4_pair, mv_X4_pair, ini_X4, mc_X4_pair, by decide +kernel, by decide +kernel, by decide +kernel⟩
theorem mc_X3_hour : Cond.code yX3_hour cX3_hour 4 (some .int) ∈ TW := tw_in (w := Cond.code yX3_hour cX3_hour 4 (some .int)) (List.mem_of_getElem? (i := 305) (by decide +kernel)) rfl
theorem mi_X3_hour : Cond.instanceMethod yX3_hour ∈ TW := tw_in (w := Cond.instanceMethod yX3_hour) (List.mem_of_getElem? (i := 303) (by decide +kernel)) rfl
theorem mv_X3_hour : Cond.selects RX3 yX3_hour yX3_hour ∈ TW := tw_in (w := Cond.selects RX3 yX3_hour yX3_hour) (List.mem_of_getElem? (i := 304) (by decide +kernel)) rfl
theorem vl_L_44 : VL RL 44 yX3_hour cX3_hour 4 (some .int) 1 := ⟨tw_in (w := Cond.methodLink RL 44 yX3_hour) (List.mem_of_getElem? (i := 302) (by decide +kernel)) rfl, mi_X3_hour, mv_X3_hour, ini_X3, mc_X3_hour, by decide +kernel, by decide +kernel, by decide +kernel⟩
theorem mc_X4_hour : Cond.code yX4_hour cX4_hour 3 (some .int) ∈ TW := tw_in (w := Cond.code yX4_hour cX4_hour 3 (some .int)) (List.mem_of_getElem? (i := 721) (by decide +kernel)) rfl
theorem mi_X4_hour : Cond.instanceMethod yX4_hour ∈ TW := tw_in (w := Cond.instanceMethod yX4_hour) (List.mem_of_getElem? (i := 719) (by decide +kernel)) rfl
theorem mv_X4_hour : Cond.selects RX4 yX4_hour yX4_hour ∈ TW := tw_in (w := Cond.selects RX4 yX4_hour yX4_hour) (List.mem_of_getElem? (i := 720) (by decide +kernel)) rfl
theorem vl_L_47 : VL RL 47 yX4_hour cX4_hour 3 (some .int) 1 := ⟨tw_in (w := Cond.methodLink RL 47 yX4_hour) (List.mem_of_getElem? (i := 718) (by decide +kernel)) rfl, mi_X4_hour, mv_X4_hour, ini_X4, mc_X4_hour, by decide +kernel, by decide +kernel, by decide +kernel⟩
theorem mc_X3_seen : Cond.code yX3_seen cX3_seen 6 (some .int) ∈ TW := tw_in (w := Cond.code yX3_seen cX3_seen 6 (some .int)) (List.mem_of_getElem? (i := 309) (by decide +kernel)) rfl
theorem mi_X3_seen : Cond.instanceMethod yX3_seen ∈ TW := tw_in (w := Cond.instanceMethod yX3_seen) (List.mem_of_getElem? (i := 307) (by decide +kernel)) rfl
theorem mv_X3_seen : Cond.selects RX3 yX3_seen yX3_seen ∈ TW := tw_in (w := Cond.selects RX3 yX3_seen yX3_seen) (List.mem_of_getElem? (i := 308) (by decide +kernel)) rfl
theorem vl_L_48 : VL RL 48 yX3_seen cX3_seen 6 (some .int) 2 := ⟨tw_in (w := Cond.methodLink RL 48 yX3_seen) (List.mem_of_getElem? (i := 306) (by decide +kernel)) rfl, mi_X3_seen, mv_X3_seen, ini_X3, mc_X3_seen, by decide +kernel, by decide +kernel, by decide +kernel⟩
theorem mc_X4_seen : Cond.code yX4_seen cX4_seen 5 (some .int) ∈ TW := tw_in (w := Cond.code yX4_seen cX4_seen 5 (some .int)) (List.mem_of_getElem? (i := 725) (by decide +kernel)) rfl
theorem mi_X4_seen : Cond.instanceMethod yX4_seen ∈ TW := tw_in (w := Cond.instanceMethod yX4_seen) (List.mem_of_getElem? (i := 723) (by decide +kernel)) rfl
theorem mv_X4_seen : Cond.selects RX4 yX4_seen yX4_seen ∈ TW := tw_in (w := Cond.selects RX4 yX4_seen yX4_seen) (List.mem_of_getElem? (i := 724) (by decide +kernel)) rfl
theorem vl_L_51 : VL RL 51 yX4_seen cX4_seen 5 (some .int) 2 := ⟨tw_in (w := Cond.methodLink RL 51 yX4_seen) (List.mem_of_getElem? (i := 722) (by decide +kernel)) rfl, mi_X4_seen, mv_X4_seen, ini_X4, mc_X4_seen, by decide +kernel, by decide +kernel, by decide +kernel⟩
theorem mc_X3_from : Cond.code yX3_from cX3_from 4 (some .int) ∈ TW := tw_in (w := Cond.code yX3_from cX3_from 4 (some .int)) (List.mem_of_getElem? (i := 317) (by decide +kernel)) rfl
theorem mi_X3_from : Cond.instanceMethod yX3_from ∈ TW := tw_in (w := Cond.instanceMethod yX3_from) (List.mem_of_getElem? (i := 315) (by decide +kernel)) rfl
theorem mv_X3_from : Cond.selects RX3 yX3_from yX3_from ∈ TW := tw_in (w := Cond.selects RX3 yX3_from yX3_from) (List.mem_of_getElem? (i := 316) (by decide +kernel)) rfl
theorem vl_L_52 : VL RL 52 yX3_from cX3_from 4 (some .int) 2 := ⟨tw_in (w := Cond.methodLink RL 52 yX3_from) (List.mem_of_getElem? (i := 314) (by decide +kernel)) rfl, mi_X3_from, mv_X3_from, ini_X3, mc_X3_from, by decide +kernel, by decide +kernel, by decide +kernel⟩
theorem mc_X4_from : Cond.code yX4_from cX4_from 3 (some .int) ∈ TW := tw_in (w := Cond.code yX4_from cX4_from 3 (some .int)) (List.mem_of_getElem? (i := 744) (by decide +kernel)) rfl
theorem mi_X4_from : Cond.instanceMethod yX4_from ∈ TW := tw_in (w := Cond.instanceMethod yX4_from) (List.mem_of_getElem? (i := 742) (by decide +kernel)) rfl
theorem mv_X4_from : Cond.selects RX4 yX4_from yX4_from ∈ TW := tw_in (w := Cond.selects RX4 yX4_from yX4_from) (List.mem_of_getElem? (i := 743) (by decide +kernel)) rfl
theorem vl_L_55 : VL RL 55 yX4_from cX4_from 3 (some .int) 2 := ⟨tw_in (w := Cond.methodLink RL 55 yX4_from) (List.mem_of_getElem? (i := 741) (by decide +kernel)) rfl, mi_X4_from, mv_X4_from, ini_X4, mc_X4_from, by decide +kernel, by decide +kernel, by decide +kernel⟩
theorem mc_X3_sins : Cond.code yX3_sins cX3_sins 4 (some .int) ∈ TW := tw_in (w := Cond.code yX3_sins cX3_sins 4 (some .int)) (List.mem_of_getElem? (i := 321) (by decide +kernel)) rfl
theorem mi_X3_sins : Cond.instanceMethod yX3_sins ∈ TW := tw_in (w := Cond.instanceMethod yX3_sins) (List.mem_of_getElem? (i := 319) (by decide +kernel)) rfl
theorem mv_X3_sins : Cond.selects RX3 yX3_sins yX3_sins ∈ TW := tw_in (w := Cond.selects RX3 yX3_sins yX3_sins) (List.mem_of_getElem? (i := 320) (by decide +kernel)) rfl
theorem vl_L_56 : VL RL 56 yX3_sins cX3_sins 4 (some .int) 2 := ⟨tw_in (w := Cond.methodLink RL 56 yX3_sins) (List.mem_of_getElem? (i := 318) (by decide +kernel)) rfl, mi_X3_sins, mv_X3_sins, ini_X3, mc_X3_sins, by decide +kernel, by decide +kernel, by decide +kernel⟩
theorem mc_X4_sins : Cond.code yX4_sins cX4_sins 4 (some .int) ∈ TW := tw_in (w := Cond.code yX4_sins cX4_sins 4 (some .int)) (List.mem_of_getElem? (i := 748) (by decide +kernel)) rfl
theorem mi_X4_sins : Cond.instanceMethod yX4_sins ∈ TW := tw_in (w := Cond.instanceMethod yX4_sins) (List.mem_of_getElem? (i := 746) (by decide +kernel)) rfl
theorem mv_X4_sins : Cond.selects RX4 yX4_sins yX4_sins ∈ TW := tw_in (w := Cond.selects RX4 yX4_sins yX4_sins) (List.mem_of_getElem? (i := 747) (by decide +kernel)) rfl
theorem vl_L_59 : VL RL 59 yX4_sins cX4_sins 4 (some .int) 2 := ⟨tw_in (w := Cond.methodLink RL 59 yX4_sins) (List.mem_of_getElem? (i := 745) (by decide +kernel)) rfl, mi_X4_sins, mv_X4_sins, ini_X4, mc_X4_sins, by decide +kernel, by decide +kernel, by decide +kernel⟩
theorem mc_X3_day : Cond.code yX3_day cX3_day 1 (some .int) ∈ TW := tw_in (w := Cond.code yX3_day cX3_day 1 (some .int)) (List.mem_of_getElem? (i := 342) (by decide +kernel)) rfl
theorem mi_X3_day : Cond.instanceMethod yX3_day ∈ TW := tw_in (w := Cond.instanceMethod yX3_day) (List.mem_of_getElem? (i := 340) (by decide +kernel)) rfl
theorem mv_X3_day : Cond.selects RX3 yX3_day yX3_day ∈ TW := tw_in (w := Cond.selects RX3 yX3_day yX3_day) (List.mem_of_getElem? (i := 341) (by decide +kernel)) rfl
theorem vl_L_60 : VL RL 60 yX3_day cX3_day 1 (some .int) 0 := ⟨tw_in (w := Cond.methodLink RL 60 yX3_day) (List.mem_of_getElem? (i := 339) (by decide +kernel)) rfl, mi_X3_day, mv_X3_day, ini_X3, mc_X3_day, by decide +kernel, by decide +kernel, by decide +kernel⟩
theorem mc_X4_day : Cond.code yX4_day cX4_day 2 (some .int) ∈ TW := tw_in (w := Cond.code yX4_day cX4_day 2 (some .int)) (List.mem_of_getElem? (i := 760) (by decide +kernel)) rfl
theorem mi_X4_day : Cond.instanceMethod yX4_day ∈ TW := tw_in (w := Cond.instanceMethod yX4_day) (List.mem_of_getElem? (i := 758) (by decide +kernel)) rfl
theorem mv_X4_day : Cond.selects RX4 yX4_day yX4_day ∈ TW := tw_in (w := Cond.selects RX4 yX4_day yX4_day) (List.mem_of_getElem? (i := 759) (by decide +kernel)) rfl
theorem vl_L_63 : VL RL 63 yX4_day cX4_day 2 (some .int) 0 := ⟨tw_in (w := Cond.methodLink RL 63 yX4_day) (List.mem_of_getElem? (i := 757) (by decide +kernel)) rfl, mi_X4_day, mv_X4_day, ini_X4, mc_X4_day, by decide +kernel, by decide +kernel, by decide +kernel⟩
theorem mc_X3_curtains : Cond.code yX3_curtains cX3_curtains 5 (some .int) ∈ TW := tw_in (w := Cond.code yX3_curtains cX3_curtains 5 (some .int)) (List.mem_of_getElem? (i := 351) (by decide +kernel)) rfl
theorem mi_X3_curtains : Cond.instanceMethod yX3_curtains ∈ TW := tw_in (w := Cond.instanceMethod yX3_curtains) (List.mem_of_getElem? (i := 349) (by decide +kernel)) rfl
theorem mv_X3_curtains : Cond.selects RX3 yX3_curtains yX3_curtains ∈ TW := tw_in (w := Cond.selects RX3 yX3_curtains yX3_curtains) (List.mem_of_getElem? (i := 350) (by decide +kernel)) rfl
theorem vl_L_64 : VL RL 64 yX3_curtains cX3_curtains 5 (some .int) 0 := ⟨tw_in (w := Cond.methodLink RL 64 yX3_curtains) (List.mem_of_getElem? (i := 348) (by decide +kernel)) rfl, mi_X3_curtains, mv_X3_curtains, ini_X3, mc_X3_curtains, by decide +kernel, by decide +kernel, by decide +kernel⟩
theorem mc_X4_curtains : Cond.code yX4_curtains cX4_curtains 4 (some .int) ∈ TW := tw_in (w := Cond.code yX4_curtains cX4_curtains 4 (some .int)) (List.mem_of_getElem? (i := 764) (by decide +kernel)) rfl
theorem mi_X4_curtains : Cond.instanceMethod yX4_curtains ∈ TW := tw_in (w := Cond.instanceMethod yX4_curtains) (List.mem_of_getElem? (i := 762) (by decide +kernel)) rfl
theorem mv_X4_curtains : Cond.selects RX4 yX4_curtains yX4_curtains ∈ TW := tw_in (w := Cond.selects RX4 yX4_curtains yX4_curtains) (List.mem_of_getElem? (i := 763) (by decide +kernel)) rfl
theorem vl_L_67 : VL RL 67 yX4_curtains cX4_curtains 4 (some .int) 0 := ⟨tw_in (w := Cond.methodLink RL 67 yX4_curtains) (List.mem_of_getElem? (i := 761) (by decide +kernel)) rfl, mi_X4_curtains, mv_X4_curtains, ini_X4, mc_X4_curtains, by decide +kernel, by decide +kernel, by decide +kernel⟩
theorem mc_X3_moved : Cond.code yX3_moved cX3_moved 3 (some .int) ∈ TW := tw_in (w := Cond.code yX3_moved cX3_moved 3 (some .int)) (List.mem_of_getElem? (i := 361) (by decide +kernel)) rfl
theorem mi_X3_moved : Cond.instanceMethod yX3_moved ∈ TW := tw_in (w := Cond.instanceMethod yX3_moved) (List.mem_of_getElem? (i := 359) (by decide +kernel)) rfl
theorem mv_X3_moved : Cond.selects RX3 yX3_moved yX3_moved ∈ TW := tw_in (w := Cond.selects RX3 yX3_moved yX3_moved) (List.mem_of_getElem? (i := 360) (by decide +kernel)) rfl
theorem vl_L_68 : VL RL 68 yX3_moved cX3_moved 3 (some .int) 1 := ⟨tw_in (w := Cond.methodLink RL 68 yX3_moved) (List.mem_of_getElem? (i := 358) (by decide +kernel)) rfl, mi_X3_moved, mv_X3_moved, ini_X3, mc_X3_moved, by decide +kernel, by decide +kernel, by decide +kernel⟩
theorem mc_X4_moved : Cond.code yX4_moved cX4_moved 4 (some .int) ∈ TW := tw_in (w := Cond.code yX4_moved cX4_moved 4 (some .int)) (List.mem_of_getElem? (i := 769) (by decide +kernel)) rfl
theorem mi_X4_moved : Cond.instanceMethod yX4_moved ∈ TW := tw_in (w := Cond.instanceMethod yX4_moved) (List.mem_of_getElem? (i := 767) (by decide +kernel)) rfl
theorem mv_X4_moved : Cond.selects RX4 yX4_moved yX4_moved ∈ TW := tw_in (w := Cond.selects RX4 yX4_moved yX4_moved) (List.mem_of_getElem? (i := 768) (by decide +kernel)) rfl
theorem vl_L_71 : VL RL 71 yX4_moved cX4_moved 4 (some .int) 1 := ⟨tw_in (w := Cond.methodLink RL 71 yX4_moved) (List.mem_of_getElem? (i := 766) (by decide +kernel)) rfl, mi_X4_moved, mv_X4_moved, ini_X4, mc_X4_moved, by decide +kernel, by decide +kernel, by decide +kernel⟩
theorem mc_X3_given : Cond.code yX3_given cX3_given 4 (some .int) ∈ TW := tw_in (w := Cond.code yX3_given cX3_given 4 (some .int)) (List.mem_of_getElem? (i := 373) (by decide +kernel)) rfl
theorem mi_X3_given : Cond.instanceMethod yX3_given ∈ TW := tw_in (w := Cond.instanceMethod yX3_given) (List.mem_of_getElem? (i := 371) (by decide +kernel)) rfl
theorem mv_X3_given : Cond.selects RX3 yX3_given yX3_given ∈ TW := tw_in (w := Cond.selects RX3 yX3_given yX3_given) (List.mem_of_getElem? (i := 372) (by decide +kernel)) rfl
theorem vl_L_72 : VL RL 72 yX3_given cX3_given 4 (some .int) 1 := ⟨tw_in (w := Cond.methodLink RL 72 yX3_given) (List.mem_of_getElem? (i := 370) (by decide +kernel)) rfl, mi_X3_given, mv_X3_given, ini_X3, mc_X3_given, by decide +kernel, by decide +kernel, by decide +kernel⟩
theorem mc_X4_given : Cond.code yX4_given cX4_given 5 (some .int) ∈ TW := tw_in (w := Cond.code yX4_given cX4_given 5 (some .int)) (List.mem_of_getElem? (i := 781) (by decide +kernel)) rfl
theorem mi_X4_given : Cond.instanceMethod yX4_given ∈ TW := tw_in (w := Cond.instanceMethod yX4_given) (List.mem_of_getElem? (i := 779) (by decide +kernel)) rfl
theorem mv_X4_given : Cond.selects RX4 yX4_given yX4_given ∈ TW := tw_in (w := Cond.selects RX4 yX4_given yX4_given) (List.mem_of_getElem? (i := 780) (by decide +kernel)) rfl
theorem vl_L_75 : VL RL 75 yX4_given cX4_given 5 (some .int) 1 := ⟨tw_in (w := Cond.methodLink RL 75 yX4_given) (List.mem_of_getElem? (i := 778) (by decide +kernel)) rfl, mi_X4_given, mv_X4_given, ini_X4, mc_X4_given, by decide +kernel, by decide +kernel, by decide +kernel⟩
theorem mc_X3_pairings : Cond.code yX3_pairings cX3_pairings 2 (some .int) ∈ TW := tw_in (w := Cond.code yX3_pairings cX3_pairings 2 (some .int)) (List.mem_of_getElem? (i := 381) (by decide +kernel)) rfl
theorem mi_X3_pairings : Cond.instanceMethod yX3_pairings ∈ TW := tw_in (w := Cond.instanceMethod yX3_pairings) (List.mem_of_getElem? (i := 379) (by decide +kernel)) rfl
theorem mv_X3_pairings : Cond.selects RX3 yX3_pairings yX3_pairings ∈ TW := tw_in (w := Cond.selects RX3 yX3_pairings yX3_pairings) (List.mem_of_getElem? (i := 380) (by decide +kernel)) rfl
theorem vl_L_76 : VL RL 76 yX3_pairings cX3_pairings 2 (some .int) 1 := ⟨tw_in (w := Cond.methodLink RL 76 yX3_pairings) (List.mem_of_getElem? (i := 378) (by decide +kernel)) rfl, mi_X3_pairings, mv_X3_pairings, ini_X3, mc_X3_pairings, by decide +kernel, by decide +kernel, by decide +kernel⟩
theorem mc_X4_pairings : Cond.code yX4_pairings cX4_pairings 3 (some .int) ∈ TW := tw_in (w := Cond.code yX4_pairings cX4_pairings 3 (some .int)) (List.mem_of_getElem? (i := 785) (by decide +kernel)) rfl
theorem mi_X4_pairings : Cond.instanceMethod yX4_pairings ∈ TW := tw_in (w := Cond.instanceMethod yX4_pairings) (List.mem_of_getElem? (i := 783) (by decide +kernel)) rfl
theorem mv_X4_pairings : Cond.selects RX4 yX4_pairings yX4_pairings ∈ TW := tw_in (w := Cond.selects RX4 yX4_pairings yX4_pairings) (List.mem_of_getElem? (i := 784) (by decide +kernel)) rfl
theorem vl_L_79 : VL RL 79 yX4_pairings cX4_pairings 3 (some .int) 1 := ⟨tw_in (w := Cond.methodLink RL 79 yX4_pairings) (List.mem_of_getElem? (i := 782) (by decide +kernel)) rfl, mi_X4_pairings, mv_X4_pairings, ini_X4, mc_X4_pairings, by decide +kernel, by decide +kernel, by decide +kernel⟩
theorem mc_X3_together : Cond.code yX3_together cX3_together 2 (some .int) ∈ TW := tw_in (w := Cond.code yX3_together cX3_together 2 (some .int)) (List.mem_of_getElem? (i := 406) (by decide +kernel)) rfl
theorem mi_X3_together : Cond.instanceMethod yX3_together ∈ TW := tw_in (w := Cond.instanceMethod yX3_together) (List.mem_of_getElem? (i := 404) (by decide +kernel)) rfl
theorem mv_X3_together : Cond.selects RX3 yX3_together yX3_together ∈ TW := tw_in (w := Cond.selects RX3 yX3_together yX3_together) (List.mem_of_getElem? (i := 405) (by decide +kernel)) rfl
theorem vl_L_80 : VL RL 80 yX3_together cX3_together 2 (some .int) 1 := ⟨tw_in (w := Cond.methodLink RL 80 yX3_together) (List.mem_of_getElem? (i := 403) (by decide +kernel)) rfl, mi_X3_together, mv_X3_together, ini_X3, mc_X3_together, by decide +kernel, by decide +kernel, by decide +kernel⟩
theorem mc_X4_together : Cond.code yX4_together cX4_together 2 (some .int) ∈ TW := tw_in (w := Cond.code yX4_together cX4_together 2 (some .int)) (List.mem_of_getElem? (i := 805) (by decide +kernel)) rfl
theorem mi_X4_together : Cond.instanceMethod yX4_together ∈ TW := tw_in (w := Cond.instanceMethod yX4_together) (List.mem_of_getElem? (i := 803) (by decide +kernel)) rfl
theorem mv_X4_together : Cond.selects RX4 yX4_together yX4_together ∈ TW := tw_in (w := Cond.selects RX4 yX4_together yX4_together) (List.mem_of_getElem? (i := 804) (by decide +kernel)) rfl
theorem vl_L_83 : VL RL 83 yX4_together cX4_together 2 (some .int) 1 := ⟨tw_in (w := Cond.methodLink RL 83 yX4_together) (List.mem_of_getElem? (i := 802) (by decide +kernel)) rfl, mi_X4_together, mv_X4_together, ini_X4, mc_X4_together, by decide +kernel, by decide +kernel, by decide +kernel⟩
theorem mc_X3_may : Cond.code yX3_may cX3_may 2 (some .int) ∈ TW := tw_in (w := Cond.code yX3_may cX3_may 2 (some .int)) (List.mem_of_getElem? (i := 414) (by decide +kernel)) rfl
theorem mi_X3_may : Cond.instanceMethod yX3_may ∈ TW := tw_in (w := Cond.instanceMethod yX3_may) (List.mem_of_getElem? (i := 412) (by decide +kernel)) rfl
theorem mv_X3_may : Cond.selects RX3 yX3_may yX3_may ∈ TW := tw_in (w := Cond.selects RX3 yX3_may yX3_may) (List.mem_of_getElem? (i := 413) (by decide +kernel)) rfl
theorem vl_L_84 : VL RL 84 yX3_may cX3_may 2 (some .int) 1 := ⟨tw_in (w := Cond.methodLink RL 84 yX3_may) (List.mem_of_getElem? (i := 411) (by decide +kernel)) rfl, mi_X3_may, mv_X3_may, ini_X3, mc_X3_may, by decide +kernel, by decide +kernel, by decide +kernel⟩
theorem mc_X4_may : Cond.code yX4_may cX4_may 4 (some .int) ∈ TW := tw_in (w := Cond.code yX4_may cX4_may 4 (some .int)) (List.mem_of_getElem? (i := 809) (by decide +kernel)) rfl
theorem mi_X4_may : Cond.instanceMethod yX4_may ∈ TW := tw_in (w := Cond.instanceMethod yX4_may) (List.mem_of_getElem? (i := 807) (by decide +kernel)) rfl
theorem mv_X4_may : Cond.selects RX4 yX4_may yX4_may ∈ TW := tw_in (w := Cond.selects RX4 yX4_may yX4_may) (List.mem_of_getElem? (i := 808) (by decide +kernel)) rfl
theorem vl_L_87 : VL RL 87 yX4_may cX4_may 4 (some .int) 1 := ⟨tw_in (w := Cond.methodLink RL 87 yX4_may) (List.mem_of_getElem? (i := 806) (by decide +kernel)) rfl, mi_X4_may, mv_X4_may, ini_X4, mc_X4_may, by decide +kernel, by decide +kernel, by decide +kernel⟩
theorem mc_X3_ways : Cond.code yX3_ways cX3_ways 1 (some .int) ∈ TW := tw_in (w := Cond.code yX3_ways cX3_ways 1 (some .int)) (List.mem_of_getElem? (i := 423) (by decide +kernel)) rfl
theorem mi_X3_ways : Cond.instanceMethod yX3_ways ∈ TW := tw_in (w := Cond.instanceMethod yX3_ways) (List.mem_of_getElem? (i := 421) (by decide +kernel)) rfl
theorem mv_X3_ways : Cond.selects RX3 yX3_ways yX3_ways ∈ TW := tw_in (w := Cond.selects RX3 yX3_ways yX3_ways) (List.mem_of_getElem? (i := 422) (by decide +kernel)) rfl
theorem vl_L_88 : VL RL 88 yX3_ways cX3_ways 1 (some .int) 0 := ⟨tw_in (w := Cond.methodLink RL 88 yX3_ways) (List.mem_of_getElem? (i := 420) (by decide +kernel)) rfl, mi_X3_ways, mv_X3_ways, ini_X3, mc_X3_ways, by decide +kernel, by decide +kernel, by decide +kernel⟩
theorem mc_X4_ways : Cond.code yX4_ways cX4_ways 1 (some .int) ∈ TW := tw_in (w := Cond.code yX4_ways cX4_ways 1 (some .int)) (List.mem_of_getElem? (i := 813) (by decide +kernel)) rfl
theorem mi_X4_ways : Cond.instanceMethod yX4_ways ∈ TW := tw_in (w := Cond.instanceMethod yX4_ways) (List.mem_of_getElem? (i := 811) (by decide +kernel)) rfl
theorem mv_X4_ways : Cond.selects RX4 yX4_ways yX4_ways ∈ TW := tw_in (w := Cond.selects RX4 yX4_ways yX4_ways) (List.mem_of_getElem? (i := 812) (by decide +kernel)) rfl
theorem vl_L_91 : VL RL 91 yX4_ways cX4_ways 1 (some .int) 0 := ⟨tw_in (w := Cond.methodLink RL 91 yX4_ways) (List.mem_of_getElem? (i := 810) (by decide +kernel)) rfl, mi_X4_ways, mv_X4_ways, ini_X4, mc_X4_ways, by decide +kernel, by decide +kernel, by decide +kernel⟩
theorem mc_X3_feast : Cond.code yX3_feast cX3_feast 4 (some .int) ∈ TW := tw_in (w := Cond.code yX3_feast cX3_feast 4 (some .int)) (List.mem_of_getElem? (i := 427) (by decide +kernel)) rfl
theorem mi_X3_feast : Cond.instanceMethod yX3_feast ∈ TW := tw_in (w := Cond.instanceMethod yX3_feast) (List.mem_of_getElem? (i := 425) (by decide +kernel)) rfl
theorem mv_X3_feast : Cond.selects RX3 yX3_feast yX3_feast ∈ TW := tw_in (w := Cond.selects RX3 yX3_feast yX3_feast) (List.mem_of_getElem? (i := 426) (by decide +kernel)) rfl
theorem vl_L_92 : VL RL 92 yX3_feast cX3_feast 4 (some .int) 2 := ⟨tw_in (w := Cond.methodLink RL 92 yX3_feast) (List.mem_of_getElem? (i := 424) (by decide +kernel)) rfl, mi_X3_feast, mv_X3_feast, ini_X3, mc_X3_feast, by decide +kernel, by decide +kernel, by decide +kernel⟩
theorem mc_X4_feast : Cond.code yX4_feast cX4_feast 6 (some .int) ∈ TW := tw_in (w := Cond.code yX4_feast cX4_feast 6 (some .int)) (List.mem_of_getElem? (i := 817) (by decide +kernel)) rfl
theorem mi_X4_feast : Cond.instanceMethod yX4_feast ∈ TW := tw_in (w := Cond.instanceMethod yX4_feast) (List.mem_of_getElem? (i := 815) (by decide +kernel)) rfl
theorem mv_X4_feast : Cond.selects RX4 yX4_feast yX4_feast ∈ TW := tw_in (w := Cond.selects RX4 yX4_feast yX4_feast) (List.mem_of_getElem? (i := 816) (by decide +kernel)) rfl
theorem vl_L_95 : VL RL 95 yX4_feast cX4_feast 6 (some .int) 2 := ⟨tw_in (w := Cond.methodLink RL 95 yX4_feast) (List.mem_of_getElem? (i := 814) (by decide +kernel)) rfl, mi_X4_feast, mv_X4_feast, ini_X4, mc_X4_feast, by decide +kernel, by decide +kernel, by decide +kernel⟩
theorem mc_X3_clean : Cond.code yX3_clean cX3_clean 4 (some .int) ∈ TW := tw_in (w := Cond.code yX3_clean cX3_clean 4 (some .int)) (List.mem_of_getElem? (i := 439) (by decide +kernel)) rfl
theorem mi_X3_clean : Cond.instanceMethod yX3_clean ∈ TW := tw_in (w := Cond.instanceMethod yX3_clean) (List.mem_of_getElem? (i := 437) (by decide +kernel)) rfl
theorem mv_X3_clean : Cond.selects RX3 yX3_clean yX3_clean ∈ TW := tw_in (w := Cond.selects RX3 yX3_clean yX3_clean) (List.mem_of_getElem? (i := 438) (by decide +kernel)) rfl
theorem vl_L_96 : VL RL 96 yX3_clean cX3_clean 4 (some .int) 1 := ⟨tw_in (w := Cond.methodLink RL 96 yX3_clean) (List.mem_of_getElem? (i := 436) (by decide +kernel)) rfl, mi_X3_clean, mv_X3_clean, ini_X3, mc_X3_clean, by decide +kernel, by decide +kernel, by decide +kernel⟩
theorem mc_X4_clean : Cond.code yX4_clean cX4_clean 5 (some .int) ∈ TW := tw_in (w := Cond.code yX4_clean cX4_clean 5 (some .int)) (List.mem_of_getElem? (i := 821) (by decide +kernel)) rfl
theorem mi_X4_clean : Cond.instanceMethod yX4_clean ∈ TW := tw_in (w := Cond.instanceMethod yX4_clean) (List.mem_of_getElem? (i := 819) (by decide +kernel)) rfl
theorem mv_X4_clean : Cond.selects RX4 yX4_clean yX4_clean ∈ TW := tw_in (w := Cond.selects RX4 yX4_clean yX4_clean) (List.mem_of_getElem? (i := 820) (by decide +kernel)) rfl
theorem vl_L_99 : VL RL 99 yX4_clean cX4_clean 5 (some .int) 1 := ⟨tw_in (w := Cond.methodLink RL 99 yX4_clean) (List.mem_of_getElem? (i := 818) (by decide +kernel)) rfl, mi_X4_clean, mv_X4_clean, ini_X4, mc_X4_clean, by decide +kernel, by decide +kernel, by decide +kernel⟩
theorem mc_X3_row : Cond.code yX3_row cX3_row 3 (some .int) ∈ TW := tw_in (w := Cond.code yX3_row cX3_row 3 (some .int)) (List.mem_of_getElem? (i := 443) (by decide +kernel)) rfl
theorem mi_X3_row : Cond.instanceMethod yX3_row ∈ TW := tw_in (w := Cond.instanceMethod yX3_row) (List.mem_of_getElem? (i := 441) (by decide +kernel)) rfl
theorem mv_X3_row : Cond.selects RX3 yX3_row yX3_row ∈ TW := tw_in (w := Cond.selects RX3 yX3_row yX3_row) (List.mem_of_getElem? (i := 442) (by decide +kernel)) rfl
theorem vl_L_100 : VL RL 100 yX3_row cX3_row 3 (some .int) 1 := ⟨tw_in (w := Cond.methodLink RL 100 yX3_row) (List.mem_of_getElem? (i := 440) (by decide +kernel)) rfl, mi_X3_row, mv_X3_row, ini_X3, mc_X3_row, by decide +kernel, by decide +kernel, by decide +kernel⟩
theorem mc_X4_row : Cond.code yX4_row cX4_row 2 (some .int) ∈ TW := tw_in (w := Cond.code yX4_row cX4_row 2 (some .int)) (List.mem_of_getElem? (i := 829) (by decide +kernel)) rfl
theorem mi_X4_row : Cond.instanceMethod yX4_row ∈ TW := tw_in (w := Cond.instanceMethod yX4_row) (List.mem_of_getElem? (i := 827) (by decide +kernel)) rfl
theorem mv_X4_row : Cond.selects RX4 yX4_row yX4_row ∈ TW := tw_in (w := Cond.selects RX4 yX4_row yX4_row) (List.mem_of_getElem? (i := 828) (by decide +kernel)) rfl
theorem vl_L_103 : VL RL 103 yX4_row cX4_row 2 (some .int) 1 := ⟨tw_in (w := Cond.methodLink RL 103 yX4_row) (List.mem_of_getElem? (i := 826) (by decide +kernel)) rfl, mi_X4_row, mv_X4_row, ini_X4, mc_X4_row, by decide +kernel, by decide +kernel, by decide +kernel⟩
theorem mc_X3_judge : Cond.code yX3_judge cX3_judge 2 (some .int) ∈ TW := tw_in (w := Cond.code yX3_judge cX3_judge 2 (some .int)) (List.mem_of_getElem? (i := 447) (by decide +kernel)) rfl
theorem mi_X3_judge : Cond.instanceMethod yX3_judge ∈ TW := tw_in (w := Cond.instanceMethod yX3_judge) (List.mem_of_getElem? (i := 445) (by decide +kernel)) rfl
theorem mv_X3_judge : Cond.selects RX3 yX3_judge yX3_judge ∈ TW := tw_in (w := Cond.selects RX3 yX3_judge yX3_judge) (List.mem_of_getElem? (i := 446) (by decide +kernel)) rfl
theorem vl_L_104 : VL RL 104 yX3_judge cX3_judge 2 (some .int) 0 := ⟨tw_in (w := Cond.methodLink RL 104 yX3_judge) (List.mem_of_getElem? (i := 444) (by decide +kernel)) rfl, mi_X3_judge, mv_X3_judge, ini_X3, mc_X3_judge, by decide +kernel, by decide +kernel, by decide +kernel⟩
theorem mc_X4_judge : Cond.code yX4_judge cX4_judge 6 (some .int) ∈ TW := tw_in (w := Cond.code yX4_judge cX4_judge 6 (some .int)) (List.mem_of_getElem? (i := 833) (by decide +kernel)) rfl
theorem mi_X4_judge : Cond.instanceMethod yX4_judge ∈ TW := tw_in (w := Cond.instanceMethod yX4_judge) (List.mem_of_getElem? (i := 831) (by decide +kernel)) rfl
theorem mv_X4_judge : Cond.selects RX4 yX4_judge yX4_judge ∈ TW := tw_in (w := Cond.selects RX4 yX4_judge yX4_judge) (List.mem_of_getElem? (i := 832) (by decide +kernel)) rfl
theorem vl_L_107 : VL RL 107 yX4_judge cX4_judge 6 (some .int) 0 := ⟨tw_in (w := Cond.methodLink RL 107 yX4_judge) (List.mem_of_getElem? (i := 830) (by decide +kernel)) rfl, mi_X4_judge, mv_X4_judge, ini_X4, mc_X4_judge, by decide +kernel, by decide +kernel, by decide +kernel⟩
theorem mc_X3_seeds : Cond.code yX3_seeds cX3_seeds 8 (some .int) ∈ TW := tw_in (w := Cond.code yX3_seeds cX3_seeds 8 (some .int)) (List.mem_of_getElem? (i := 456) (by decide +kernel)) rfl
theorem mi_X3_seeds : Cond.instanceMethod yX3_seeds ∈ TW := tw_in (w := Cond.instanceMethod yX3_seeds) (List.mem_of_getElem? (i := 454) (by decide +kernel)) rfl
theorem mv_X3_seeds : Cond.selects RX3 yX3_seeds yX3_seeds ∈ TW := tw_in (w := Cond.selects RX3 yX3_seeds yX3_seeds) (List.mem_of_getElem? (i := 455) (by decide +kernel)) rfl
theorem vl_L_108 : VL RL 108 yX3_seeds cX3_seeds 8 (some .int) 2 := ⟨tw_in (w := Cond.methodLink RL 108 yX3_seeds) (List.mem_of_getElem? (i := 453) (by decide +kernel)) rfl, mi_X3_seeds, mv_X3_seeds, ini_X3, mc_X3_seeds, by decide +kernel, by decide +kernel, by decide +kernel⟩
theorem mc_X4_seeds : Cond.code yX4_seeds cX4_seeds 7 (some .int) ∈ TW := tw_in (w := Cond.code yX4_seeds cX4_seeds 7 (some .int)) (List.mem_of_getElem? (i := 837) (by decide +kernel)) rfl
theorem mi_X4_seeds : Cond.instanceMethod yX4_seeds ∈ TW := tw_in (w := Cond.instanceMethod yX4_seeds) (List.mem_of_getElem? (i := 835) (by decide +kernel)) rfl
theorem mv_X4_seeds : Cond.selects RX4 yX4_seeds yX4_seeds ∈ TW := tw_in (w := Cond.selects RX4 yX4_seeds yX4_seeds) (List.mem_of_getElem? (i := 836) (by decide +kernel)) rfl
theorem vl_L_111 : VL RL 111 yX4_seeds cX4_seeds 7 (some .int) 2 := ⟨tw_in (w := Cond.methodLink RL 111 yX4_seeds) (List.mem_of_getElem? (i := 834) (by decide +kernel)) rfl, mi_X4_seeds, mv_X4_seeds, ini_X4, mc_X4_seeds, by decide +kernel, by decide +kernel, by decide +kernel⟩
theorem mc_X3_image : Cond.code yX3_image cX3_image 1 (some .int) ∈ TW := tw_in (w := Cond.code yX3_image cX3_image 1 (some .int)) (List.mem_of_getElem? (i := 469) (by decide +kernel)) rfl
theorem mi_X3_image : Cond.instanceMethod yX3_image ∈ TW := tw_in (w := Cond.instanceMethod yX3_image) (List.mem_of_getElem? (i := 467) (by decide +kernel)) rfl
theorem mv_X3_image : Cond.selects RX3 yX3_image yX3_image ∈ TW := tw_in (w := Cond.selects RX3 yX3_image yX3_image) (List.mem_of_getElem? (i := 468) (by decide +kernel)) rfl
theorem vl_L_112 : VL RL 112 yX3_image cX3_image 1 (some .int) 0 := ⟨tw_in (w := Cond.methodLink RL 112 yX3_image) (List.mem_of_getElem? (i := 466) (by decide +kernel)) rfl, mi_X3_image, mv_X3_image, ini_X3, mc_X3_image, by decide +kernel, by decide +kernel, by decide +kernel⟩
theorem mc_X4_image : Cond.code yX4_image cX4_image 1 (some .int) ∈ TW := tw_in (w := Cond.code yX4_image cX4_image 1 (some .int)) (List.mem_of_getElem? (i := 844) (by decide +kernel)) rfl
theorem mi_X4_image : Cond.instanceMethod yX4_image ∈ TW := tw_in (w := Cond.instanceMethod yX4_image) (List.mem_of_getElem? (i := 842) (by decide +kernel)) rfl
theorem mv_X4_image : Cond.selects RX4 yX4_image yX4_image ∈ TW := tw_in (w := Cond.selects RX4 yX4_image yX4_image) (List.mem_of_getElem? (i := 843) (by decide +kernel)) rfl
theorem vl_L_115 : VL RL 115 yX4_image cX4_image 1 (some .int) 0 := ⟨tw_in (w := Cond.methodLink RL 115 yX4_image) (List.mem_of_getElem? (i := 841) (by decide +kernel)) rfl, mi_X4_image, mv_X4_image, ini_X4, mc_X4_image, by decide +kernel, by decide +kernel, by decide +kernel⟩
theorem mc_X3_on : Cond.code yX3_on cX3_on 1 (some .int) ∈ TW := tw_in (w := Cond.code yX3_on cX3_on 1 (some .int)) (List.mem_of_getElem? (i := 473) (by decide +kernel)) rfl
theorem mi_X3_on : Cond.instanceMethod yX3_on ∈ TW := tw_in (w := Cond.instanceMethod yX3_on) (List.mem_of_getElem? (i := 471) (by decide +kernel)) rfl
theorem mv_X3_on : Cond.selects RX3 yX3_on yX3_on ∈ TW := tw_in (w := Cond.selects RX3 yX3_on yX3_on) (List.mem_of_getElem? (i := 472) (by decide +kernel)) rfl
theorem vl_L_116 : VL RL 116 yX3_on cX3_on 1 (some .int) 0 := ⟨tw_in (w := Cond.methodLink RL 116 yX3_on) (List.mem_of_getElem? (i := 470) (by decide +kernel)) rfl, mi_X3_on, mv_X3_on, ini_X3, mc_X3_on, by decide +kernel, by decide +kernel, by decide +kernel⟩
theorem mc_X4_on : Cond.code yX4_on cX4_on 1 (some .int) ∈ TW := tw_in (w := Cond.code yX4_on cX4_on 1 (some .int)) (List.mem_of_getElem? (i := 848) (by decide +kernel)) rfl
theorem mi_X4_on : Cond.instanceMethod yX4_on ∈ TW := tw_in (w := Cond.instanceMethod yX4_on) (List.mem_of_getElem? (i := 846) (by decide +kernel)) rfl
theorem mv_X4_on : Cond.selects RX4 yX4_on yX4_on ∈ TW := tw_in (w := Cond.selects RX4 yX4_on yX4_on) (List.mem_of_getElem? (i := 847) (by decide +kernel)) rfl
theorem vl_L_119 : VL RL 119 yX4_on cX4_on 1 (some .int) 0 := ⟨tw_in (w := Cond.methodLink RL 119 yX4_on) (List.mem_of_getElem? (i := 845) (by decide +kernel)) rfl, mi_X4_on, mv_X4_on, ini_X4, mc_X4_on, by decide +kernel, by decide +kernel, by decide +kernel⟩
theorem mc_X3_count : Cond.code yX3_count cX3_count 2 (some .int) ∈ TW := tw_in (w := Cond.code yX3_count cX3_count 2 (some .int)) (List.mem_of_getElem? (i := 477) (by decide +kernel)) rfl
theorem mi_X3_count : Cond.instanceMethod yX3_count ∈ TW := tw_in (w := Cond.instanceMethod yX3_count) (List.mem_of_getElem? (i := 475) (by decide +kernel)) rfl
theorem mv_X3_count : Cond.selects RX3 yX3_count yX3_count ∈ TW := tw_in (w := Cond.selects RX3 yX3_count yX3_count) (List.mem_of_getElem? (i := 476) (by decide +kernel)) rfl
theorem vl_L_120 : VL RL 120 yX3_count cX3_count 2 (some .int) 1 := ⟨tw_in (w := Cond.methodLink RL 120 yX3_count) (List.mem_of_getElem? (i := 474) (by decide +kernel)) rfl, mi_X3_count, mv_X3_count, ini_X3, mc_X3_count, by decide +kernel, by decide +kernel, by decide +kernel⟩
theorem mc_X4_count : Cond.code yX4_count cX4_count 4 (some .int) ∈ TW := tw_in (w := Cond.code yX4_count cX4_count 4 (some .int)) (List.mem_of_getElem? (i := 852) (by decide +kernel)) rfl
theorem mi_X4_count : Cond.instanceMethod yX4_count ∈ TW := tw_in (w := Cond.instanceMethod yX4_count) (List.mem_of_getElem? (i := 850) (by decide +kernel)) rfl
theorem mv_X4_count : Cond.selects RX4 yX4_count yX4_count ∈ TW := tw_in (w := Cond.selects RX4 yX4_count yX4_count) (List.mem_of_getElem? (i := 851) (by decide +kernel)) rfl
theorem vl_L_123 : VL RL 123 yX4_count cX4_count 4 (some .int) 1 := ⟨tw_in (w := Cond.methodLink RL 123 yX4_count) (List.mem_of_getElem? (i := 849) (by decide +kernel)) rfl, mi_X4_count, mv_X4_count, ini_X4, mc_X4_count, by decide +kernel, by decide +kernel, by decide +kernel⟩
theorem ml_X0_3 : Cond.methodLink RX0 3 objectInit ∈ TW := tw_in (w := Cond.methodLink RX0 3 objectInit) (List.mem_of_getElem? (i := 130) (by decide +kernel)) rfl
theorem m_obj_i : Cond.instanceMethod objectInit ∈ TW := tw_in (w := Cond.instanceMethod objectInit) (List.mem_of_getElem? (i := 47) (by decide +kernel)) rfl
theorem m_obj_c : Cond.code objectInit ⟨#[0xb1]⟩ 1 none ∈ TW := tw_in (w := Cond.code objectInit ⟨#[0xb1]⟩ 1 none) (List.mem_of_getElem? (i := 48) (by decide +kernel)) rfl
theorem mc_X1_meet : Cond.code yX1_meet cX1_meet 4 (some .boolean) ∈ TW := tw_in (w := Cond.code yX1_meet cX1_meet 4 (some .boolean)) (List.mem_of_getElem? (i := 333) (by decide +kernel)) rfl
theorem mi_X1_meet : Cond.instanceMethod yX1_meet ∈ TW := tw_in (w := Cond.instanceMethod yX1_meet) (List.mem_of_getElem? (i := 331) (by decide +kernel)) rfl
theorem mv_X1_meet : Cond.selects RX1 yX1_meet yX1_meet ∈ TW := tw_in (w := Cond.selects RX1 yX1_meet yX1_meet) (List.mem_of_getElem? (i := 332) (by decide +kernel)) rfl
theorem vl_X0_28 : VL RX0 28 yX1_meet cX1_meet 4 (some .boolean) 3 := ⟨tw_in (w := Cond.methodLink RX0 28 yX1_meet) (List.mem_of_getElem? (i := 386) (by decide +kernel)) rfl, mi_X1_meet, mv_X1_meet, ini_X1, mc_X1_meet, by decide +kernel, by decide +kernel, by decide +kernel⟩
theorem mc_X1_allThings : Cond.code yX1_allThings cX1_allThings 1 (some .int) ∈ TW := tw_in (w := Cond.code yX1_allThings cX1_allThings 1 (some .int)) (List.mem_of_getElem? (i := 410) (by decide +kernel)) rfl
theorem mi_X1_allThings : Cond.instanceMethod yX1_allThings ∈ TW := tw_in (w := Cond.instanceMethod yX1_allThings) (List.mem_of_getElem? (i := 408) (by decide +kernel)) rfl
theorem mv_X1_allThings : Cond.selects RX1 yX1_allThings yX1_allThings ∈ TW := tw_in (w := Cond.selects RX1 yX1_allThings yX1_allThings) (List.mem_of_getElem? (i := 409) (by decide +kernel)) rfl
theorem vl_X0_38 : VL RX0 38 yX1_allThings cX1_allThings 1 (some .int) 0 := ⟨tw_in (w := Cond.methodLink RX0 38 yX1_allThings) (List.mem_of_getElem? (i := 419) (by decide +kernel)) rfl, mi_X1_allThings, mv_X1_allThings, ini_X1, mc_X1_allThings, by decide +kernel, by decide +kernel, by decide +kernel⟩
theorem mc_X0_leastOf : Cond.code yX0_leastOf cX0_leastOf 2 (some .int) ∈ TW := tw_in (w := Cond.code yX0_leastOf cX0_leastOf 2 (some .int)) (List.mem_of_getElem? (i := 393) (by decide +kernel)) rfl
theorem ms_X0_leastOf : Cond.static yX0_leastOf ∈ TW := tw_in (w := Cond.static yX0_leastOf) (List.mem_of_getElem? (i := 392) (by decide +kernel)) rfl
theorem sl_X0_42 : SL RX0 42 yX0_leastOf cX0_leastOf 2 (some .int) 1 := ⟨tw_in (w := Cond.methodLink RX0 42 yX0_leastOf) (List.mem_of_getElem? (i := 391) (by decide +kernel)) rfl, ms_X0_leastOf, ini_X0, mc_X0_leastOf, by decide +kernel, by decide +kernel, by decide +kernel⟩
theorem ml_X1_3 : Cond.methodLink RX1 3 objectInit ∈ TW := tw_in (w := Cond.methodLink RX1 3 objectInit) (List.mem_of_getElem? (i := 54) (by decide +kernel)) rfl
theorem ml_X1_52 : Cond.methodLink RX1 52 arraycopyName ∈ TW := tw_in (w := Cond.methodLink RX1 52 arraycopyName) (List.mem_of_getElem? (i := 195) (by decide +kernel)) rfl
theorem m_copy_n : Cond.native arraycopyName ∈ TW := tw_in (w := Cond.native arraycopyName) (List.mem_of_getElem? (i := 197) (by decide +kernel)) rfl
theorem m_copy_s : Cond.static arraycopyName ∈ TW := tw_in (w := Cond.static arraycopyName) (List.mem_of_getElem? (i := 196) (by decide +kernel)) rfl
theorem mc_X1_leave : Cond.code yX1_leave cX1_leave 3 (some .int) ∈ TW := tw_in (w := Cond.code yX1_leave cX1_leave 3 (some .int)) (List.mem_of_getElem? (i := 268) (by decide +kernel)) rfl
theorem mi_X1_leave : Cond.instanceMethod yX1_leave ∈ TW := tw_in (w := Cond.instanceMethod yX1_leave) (List.mem_of_getElem? (i := 266) (by decide +kernel)) rfl
theorem mv_X1_leave : Cond.selects RX1 yX1_leave yX1_leave ∈ TW := tw_in (w := Cond.selects RX1 yX1_leave yX1_leave) (List.mem_of_getElem? (i := 267) (by decide +kernel)) rfl
theorem vl_X1_58 : VL RX1 58 yX1_leave cX1_leave 3 (some .int) 1 := ⟨tw_in (w := Cond.methodLink RX1 58 yX1_leave) (List.mem_of_getElem? (i := 265) (by decide +kernel)) rfl, mi_X1_leave, mv_X1_leave, ini_X1, mc_X1_leave, by decide +kernel, by decide +kernel, by decide +kernel⟩
theorem mc_X1_hasThing : Cond.code yX1_hasThing cX1_hasThing 2 (some .boolean) ∈ TW := tw_in (w := Cond.code yX1_hasThing cX1_hasThing 2 (some .boolean)) (List.mem_of_getElem? (i := 260) (by decide +kernel)) rfl
theorem mi_X1_hasThing : Cond.instanceMethod yX1_hasThing ∈ TW := tw_in (w := Cond.instanceMethod yX1_hasThing) (List.mem_of_getElem? (i := 258) (by decide +kernel)) rfl
theorem mv_X1_hasThing : Cond.selects RX1 yX1_hasThing yX1_hasThing ∈ TW := tw_in (w := Cond.selects RX1 yX1_hasThing yX1_hasThing) (List.mem_of_getElem? (i := 259) (by decide +kernel)) rfl
theorem vl_X1_62 : VL RX1 62 yX1_hasThing cX1_hasThing 2 (some .boolean) 1 := ⟨tw_in (w := Cond.methodLink RX1 62 yX1_hasThing) (List.mem_of_getElem? (i := 257) (by decide +kernel)) rfl, mi_X1_hasThing, mv_X1_hasThing, ini_X1, mc_X1_hasThing, by decide +kernel, by decide +kernel, by decide +kernel⟩
theorem ml_X1_69 : Cond.methodLink RX1 69 Lib.Math.min.name ∈ TW := tw_in (w := Cond.methodLink RX1 69 Lib.Math.min.name) (List.mem_of_getElem? (i := 230) (by decide +kernel)) rfl
theorem ml_X1_75 : Cond.methodLink RX1 75 Lib.Math.max.name ∈ TW := tw_in (w := Cond.methodLink RX1 75 Lib.Math.max.name) (List.mem_of_getElem? (i := 233) (by decide +kernel)) rfl
theorem mc_X2_digit : Cond.code yX2_digit cX2_digit 1 (some .int) ∈ TW := tw_in (w := Cond.code yX2_digit cX2_digit 1 (some .int)) (List.mem_of_getElem? (i := 217) (by decide +kernel)) rfl
theorem ms_X2_digit : Cond.static yX2_digit ∈ TW := tw_in (w := Cond.static yX2_digit) (List.mem_of_getElem? (i := 216) (by decide +kernel)) rfl
theorem sl_X1_78 : SL RX1 78 yX2_digit cX2_digit 1 (some .int) 1 := ⟨tw_in (w := Cond.methodLink RX1 78 yX2_digit) (List.mem_of_getElem? (i := 222) (by decide +kernel)) rfl, ms_X2_digit, ini_X2, mc_X2_digit, by decide +kernel, by decide +kernel, by decide +kernel⟩
theorem mc_X1_addLine : Cond.code yX1_addLine cX1_addLine 3 (some .boolean) ∈ TW := tw_in (w := Cond.code yX1_addLine cX1_addLine 3 (some .boolean)) (List.mem_of_getElem? (i := 226) (by decide +kernel)) rfl
theorem mi_X1_addLine : Cond.instanceMethod yX1_addLine ∈ TW := tw_in (w := Cond.instanceMethod yX1_addLine) (List.mem_of_getElem? (i := 224) (by decide +kernel)) rfl
theorem mv_X1_addLine : Cond.selects RX1 yX1_addLine yX1_addLine ∈ TW := tw_in (w := Cond.selects RX1 yX1_addLine yX1_addLine) (List.mem_of_getElem? (i := 225) (by decide +kernel)) rfl
theorem vl_X1_83 : VL RX1 83 yX1_addLine cX1_addLine 3 (some .boolean) 2 := ⟨tw_in (w := Cond.methodLink RX1 83 yX1_addLine) (List.mem_of_getElem? (i := 223) (by decide +kernel)) rfl, mi_X1_addLine, mv_X1_addLine, ini_X1, mc_X1_addLine, by decide +kernel, by decide +kernel, by decide +kernel⟩
theorem mc_X1_toggle : Cond.code yX1_toggle cX1_toggle 2 (some .boolean) ∈ TW := tw_in (w := Cond.code yX1_toggle cX1_toggle 2 (some .boolean)) (List.mem_of_getElem? (i := 239) (by decide +kernel)) rfl
theorem mi_X1_toggle : Cond.instanceMethod yX1_toggle ∈ TW := tw_in (w := Cond.instanceMethod yX1_toggle) (List.mem_of_getElem? (i := 237) (by decide +kernel)) rfl
theorem mv_X1_toggle : Cond.selects RX1 yX1_toggle yX1_toggle ∈ TW := tw_in (w := Cond.selects RX1 yX1_toggle yX1_toggle) (List.mem_of_getElem? (i := 238) (by decide +kernel)) rfl
theorem vl_X1_87 : VL RX1 87 yX1_toggle cX1_toggle 2 (some .boolean) 1 := ⟨tw_in (w := Cond.methodLink RX1 87 yX1_toggle) (List.mem_of_getElem? (i := 236) (by decide +kernel)) rfl, mi_X1_toggle, mv_X1_toggle, ini_X1, mc_X1_toggle, by decide +kernel, by decide +kernel, by decide +kernel⟩
theorem mc_X2_kind : Cond.code yX2_kind cX2_kind 1 (some .int) ∈ TW := tw_in (w := Cond.code yX2_kind cX2_kind 1 (some .int)) (List.mem_of_getElem? (i := 214) (by decide +kernel)) rfl
theorem ms_X2_kind : Cond.static yX2_kind ∈ TW := tw_in (w := Cond.static yX2_kind) (List.mem_of_getElem? (i := 213) (by decide +kernel)) rfl
theorem sl_X1_90 : SL RX1 90 yX2_kind cX2_kind 1 (some .int) 1 := ⟨tw_in (w := Cond.methodLink RX1 90 yX2_kind) (List.mem_of_getElem? (i := 248) (by decide +kernel)) rfl, ms_X2_kind, ini_X2, mc_X2_kind, by decide +kernel, by decide +kernel, by decide +kernel⟩
theorem mc_X1_addThing : Cond.code yX1_addThing cX1_addThing 3 (some .boolean) ∈ TW := tw_in (w := Cond.code yX1_addThing cX1_addThing 3 (some .boolean)) (List.mem_of_getElem? (i := 252) (by decide +kernel)) rfl
theorem mi_X1_addThing : Cond.instanceMethod yX1_addThing ∈ TW := tw_in (w := Cond.instanceMethod yX1_addThing) (List.mem_of_getElem? (i := 250) (by decide +kernel)) rfl
theorem mv_X1_addThing : Cond.selects RX1 yX1_addThing yX1_addThing ∈ TW := tw_in (w := Cond.selects RX1 yX1_addThing yX1_addThing) (List.mem_of_getElem? (i := 251) (by decide +kernel)) rfl
theorem vl_X1_93 : VL RX1 93 yX1_addThing cX1_addThing 3 (some .boolean) 2 := ⟨tw_in (w := Cond.methodLink RX1 93 yX1_addThing) (List.mem_of_getElem? (i := 249) (by decide +kernel)) rfl, mi_X1_addThing, mv_X1_addThing, ini_X1, mc_X1_addThing, by decide +kernel, by decide +kernel, by decide +kernel⟩
theorem mc_X1_acquaint : Cond.code yX1_acquaint cX1_acquaint 3 (some .boolean) ∈ TW := tw_in (w := Cond.code yX1_acquaint cX1_acquaint 3 (some .boolean)) (List.mem_of_getElem? (i := 256) (by decide +kernel)) rfl
theorem mi_X1_acquaint : Cond.instanceMethod yX1_acquaint ∈ TW := tw_in (w := Cond.instanceMethod yX1_acquaint) (List.mem_of_getElem? (i := 254) (by decide +kernel)) rfl
theorem mv_X1_acquaint : Cond.selects RX1 yX1_acquaint yX1_acquaint ∈ TW := tw_in (w := Cond.selects RX1 yX1_acquaint yX1_acquaint) (List.mem_of_getElem? (i := 255) (by decide +kernel)) rfl
theorem vl_X1_96 : VL RX1 96 yX1_acquaint cX1_acquaint 3 (some .boolean) 2 := ⟨tw_in (w := Cond.methodLink RX1 96 yX1_acquaint) (List.mem_of_getElem? (i := 253) (by decide +kernel)) rfl, mi_X1_acquaint, mv_X1_acquaint, ini_X1, mc_X1_acquaint, by decide +kernel, by decide +kernel, by decide +kernel⟩
theorem mc_X1_bring : Cond.code yX1_bring cX1_bring 3 (some .boolean) ∈ TW := tw_in (w := Cond.code yX1_bring cX1_bring 3 (some .boolean)) (List.mem_of_getElem? (i := 272) (by decide +kernel)) rfl
theorem mi_X1_bring : Cond.instanceMethod yX1_bring ∈ TW := tw_in (w := Cond.instanceMethod yX1_bring) (List.mem_of_getElem? (i := 270) (by decide +kernel)) rfl
theorem mv_X1_bring : Cond.selects RX1 yX1_bring yX1_bring ∈ TW := tw_in (w := Cond.selects RX1 yX1_bring yX1_bring) (List.mem_of_getElem? (i := 271) (by decide +kernel)) rfl
theorem vl_X1_99 : VL RX1 99 yX1_bring cX1_bring 3 (some .boolean) 2 := ⟨tw_in (w := Cond.methodLink RX1 99 yX1_bring) (List.mem_of_getElem? (i := 269) (by decide +kernel)) rfl, mi_X1_bring, mv_X1_bring, ini_X1, mc_X1_bring, by decide +kernel, by decide +kernel, by decide +kernel⟩
theorem mc_X1_strike : Cond.code yX1_strike cX1_strike 2 (some .boolean) ∈ TW := tw_in (w := Cond.code yX1_strike cX1_strike 2 (some .boolean)) (List.mem_of_getElem? (i := 276) (by decide +kernel)) rfl
theorem mi_X1_strike : Cond.instanceMethod yX1_strike ∈ TW := tw_in (w := Cond.instanceMethod yX1_strike) (List.mem_of_getElem? (i := 274) (by decide +kernel)) rfl
theorem mv_X1_strike : Cond.selects RX1 yX1_strike yX1_strike ∈ TW := tw_in (w := Cond.selects RX1 yX1_strike yX1_strike) (List.mem_of_getElem? (i := 275) (by decide +kernel)) rfl
theorem vl_X1_102 : VL RX1 102 yX1_strike cX1_strike 2 (some .boolean) 1 := ⟨tw_in (w := Cond.methodLink RX1 102 yX1_strike) (List.mem_of_getElem? (i := 273) (by decide +kernel)) rfl, mi_X1_strike, mv_X1_strike, ini_X1, mc_X1_strike, by decide +kernel, by decide +kernel, by decide +kernel⟩
theorem mc_X1_hasLine : Cond.code yX1_hasLine cX1_hasLine 2 (some .boolean) ∈ TW := tw_in (w := Cond.code yX1_hasLine cX1_hasLine 2 (some .boolean)) (List.mem_of_getElem? (i := 243) (by decide +kernel)) rfl
theorem mi_X1_hasLine : Cond.instanceMethod yX1_hasLine ∈ TW := tw_in (w := Cond.instanceMethod yX1_hasLine) (List.mem_of_getElem? (i := 241) (by decide +kernel)) rfl
theorem mv_X1_hasLine : Cond.selects RX1 yX1_hasLine yX1_hasLine ∈ TW := tw_in (w := Cond.selects RX1 yX1_hasLine yX1_hasLine) (List.mem_of_getElem? (i := 242) (by decide +kernel)) rfl
theorem vl_X1_105 : VL RX1 105 yX1_hasLine cX1_hasLine 2 (some .boolean) 1 := ⟨tw_in (w := Cond.methodLink RX1 105 yX1_hasLine) (List.mem_of_getElem? (i := 240) (by decide +kernel)) rfl, mi_X1_hasLine, mv_X1_hasLine, ini_X1, mc_X1_hasLine, by decide +kernel, by decide +kernel, by decide +kernel⟩
theorem mc_X1_hang : Cond.code yX1_hang cX1_hang 3 none ∈ TW := tw_in (w := Cond.code yX1_hang cX1_hang 3 none) (List.mem_of_getElem? (i := 247) (by decide +kernel)) rfl
theorem mi_X1_hang : Cond.instanceMethod yX1_hang ∈ TW := tw_in (w := Cond.instanceMethod yX1_hang) (List.mem_of_getElem? (i := 245) (by decide +kernel)) rfl
theorem mv_X1_hang : Cond.selects RX1 yX1_hang yX1_hang ∈ TW := tw_in (w := Cond.selects RX1 yX1_hang yX1_hang) (List.mem_of_getElem? (i := 246) (by decide +kernel)) rfl
theorem vl_X1_108 : VL RX1 108 yX1_hang cX1_hang 3 none 1 := ⟨tw_in (w := Cond.methodLink RX1 108 yX1_hang) (List.mem_of_getElem? (i := 244) (by decide +kernel)) rfl, mi_X1_hang, mv_X1_hang, ini_X1, mc_X1_hang, by decide +kernel, by decide +kernel, by decide +kernel⟩
theorem mc_X1_couple : Cond.code yX1_couple cX1_couple 4 (some .int) ∈ TW := tw_in (w := Cond.code yX1_couple cX1_couple 4 (some .int)) (List.mem_of_getElem? (i := 264) (by decide +kernel)) rfl
theorem mi_X1_couple : Cond.instanceMethod yX1_couple ∈ TW := tw_in (w := Cond.instanceMethod yX1_couple) (List.mem_of_getElem? (i := 262) (by decide +kernel)) rfl
theorem mv_X1_couple : Cond.selects RX1 yX1_couple yX1_couple ∈ TW := tw_in (w := Cond.selects RX1 yX1_couple yX1_couple) (List.mem_of_getElem? (i := 263) (by decide +kernel)) rfl
theorem vl_X1_112 : VL RX1 112 yX1_couple cX1_couple 4 (some .int) 2 := ⟨tw_in (w := Cond.methodLink RX1 112 yX1_couple) (List.mem_of_getElem? (i := 261) (by decide +kernel)) rfl, mi_X1_couple, mv_X1_couple, ini_X1, mc_X1_couple, by decide +kernel, by decide +kernel, by decide +kernel⟩
theorem mc_X1_seenFrom : Cond.code yX1_seenFrom cX1_seenFrom 5 (some .int) ∈ TW := tw_in (w := Cond.code yX1_seenFrom cX1_seenFrom 5 (some .int)) (List.mem_of_getElem? (i := 313) (by decide +kernel)) rfl
theorem mi_X1_seenFrom : Cond.instanceMethod yX1_seenFrom ∈ TW := tw_in (w := Cond.instanceMethod yX1_seenFrom) (List.mem_of_getElem? (i := 311) (by decide +kernel)) rfl
theorem mv_X1_seenFrom : Cond.selects RX1 yX1_seenFrom yX1_seenFrom ∈ TW := tw_in (w := Cond.selects RX1 yX1_seenFrom yX1_seenFrom) (List.mem_of_getElem? (i := 312) (by decide +kernel)) rfl
theorem vl_X1_115 : VL RX1 115 yX1_seenFrom cX1_seenFrom 5 (some .int) 2 := ⟨tw_in (w := Cond.methodLink RX1 115 yX1_seenFrom) (List.mem_of_getElem? (i := 334) (by decide +kernel)) rfl, mi_X1_seenFrom, mv_X1_seenFrom, ini_X1, mc_X1_seenFrom, by decide +kernel, by decide +kernel, by decide +kernel⟩
theorem vl_X1_118 : VL RX1 118 yX1_meet cX1_meet 4 (some .boolean) 3 := ⟨tw_in (w := Cond.methodLink RX1 118 yX1_meet) (List.mem_of_getElem? (i := 330) (by decide +kernel)) rfl, mi_X1_meet, mv_X1_meet, ini_X1, mc_X1_meet, by decide +kernel, by decide +kernel, by decide +kernel⟩
theorem mc_X1_sinsAsLesser : Cond.code yX1_sinsAsLesser cX1_sinsAsLesser 4 (some .boolean) ∈ TW := tw_in (w := Cond.code yX1_sinsAsLesser cX1_sinsAsLesser 4 (some .boolean)) (List.mem_of_getElem? (i := 329) (by decide +kernel)) rfl
theorem mi_X1_sinsAsLesser : Cond.instanceMethod yX1_sinsAsLesser ∈ TW := tw_in (w := Cond.instanceMethod yX1_sinsAsLesser) (List.mem_of_getElem? (i := 327) (by decide +kernel)) rfl
theorem mv_X1_sinsAsLesser : Cond.selects RX1 yX1_sinsAsLesser yX1_sinsAsLesser ∈ TW := tw_in (w := Cond.selects RX1 yX1_sinsAsLesser yX1_sinsAsLesser) (List.mem_of_getElem? (i := 328) (by decide +kernel)) rfl
theorem vl_X1_122 : VL RX1 122 yX1_sinsAsLesser cX1_sinsAsLesser 4 (some .boolean) 2 := ⟨tw_in (w := Cond.methodLink RX1 122 yX1_sinsAsLesser) (List.mem_of_getElem? (i := 326) (by decide +kernel)) rfl, mi_X1_sinsAsLesser, mv_X1_sinsAsLesser, ini_X1, mc_X1_sinsAsLesser, by decide +kernel, by decide +kernel, by decide +kernel⟩
theorem mc_X1_firstSin : Cond.code yX1_firstSin cX1_firstSin 3 (some .int) ∈ TW := tw_in (w := Cond.code yX1_firstSin cX1_firstSin 3 (some .int)) (List.mem_of_getElem? (i := 338) (by decide +kernel)) rfl
theorem mi_X1_firstSin : Cond.instanceMethod yX1_firstSin ∈ TW := tw_in (w := Cond.instanceMethod yX1_firstSin) (List.mem_of_getElem? (i := 336) (by decide +kernel)) rfl
theorem mv_X1_firstSin : Cond.selects RX1 yX1_firstSin yX1_firstSin ∈ TW := tw_in (w := Cond.selects RX1 yX1_firstSin yX1_firstSin) (List.mem_of_getElem? (i := 337) (by decide +kernel)) rfl
theorem vl_X1_125 : VL RX1 125 yX1_firstSin cX1_firstSin 3 (some .int) 1 := ⟨tw_in (w := Cond.methodLink RX1 125 yX1_firstSin) (List.mem_of_getElem? (i := 347) (by decide +kernel)) rfl, mi_X1_firstSin, mv_X1_firstSin, ini_X1, mc_X1_firstSin, by decide +kernel, by decide +kernel, by decide +kernel⟩
theorem ml_X2_3 : Cond.methodLink RX2 3 objectInit ∈ TW := tw_in (w := Cond.methodLink RX2 3 objectInit) (List.mem_of_getElem? (i := 116) (by decide +kernel)) rfl
theorem mc_X2_firstUnfit : Cond.code yX2_firstUnfit cX2_firstUnfit 3 (some .int) ∈ TW := tw_in (w := Cond.code yX2_firstUnfit cX2_firstUnfit 3 (some .int)) (List.mem_of_getElem? (i := 205) (by decide +kernel)) rfl
theorem mi_X2_firstUnfit : Cond.instanceMethod yX2_firstUnfit ∈ TW := tw_in (w := Cond.instanceMethod yX2_firstUnfit) (List.mem_of_getElem? (i := 203) (by decide +kernel)) rfl
theorem mv_X2_firstUnfit : Cond.selects RX2 yX2_firstUnfit yX2_firstUnfit ∈ TW := tw_in (w := Cond.selects RX2 yX2_firstUnfit yX2_firstUnfit) (List.mem_of_getElem? (i := 204) (by decide +kernel)) rfl
theorem vl_X2_19 : VL RX2 19 yX2_firstUnfit cX2_firstUnfit 3 (some .int) 0 := ⟨tw_in (w := Cond.methodLink RX2 19 yX2_firstUnfit) (List.mem_of_getElem? (i := 202) (by decide +kernel)) rfl, mi_X2_firstUnfit, mv_X2_firstUnfit, ini_X2, mc_X2_firstUnfit, by decide +kernel, by decide +kernel, by decide +kernel⟩
theorem mc_X1_obey : Cond.code yX1_obey cX1_obey 4 (some .boolean) ∈ TW := tw_in (w := Cond.code yX1_obey cX1_obey 4 (some .boolean)) (List.mem_of_getElem? (i := 221) (by decide +kernel)) rfl
theorem mi_X1_obey : Cond.instanceMethod yX1_obey ∈ TW := tw_in (w := Cond.instanceMethod yX1_obey) (List.mem_of_getElem? (i := 219) (by decide +kernel)) rfl
theorem mv_X1_obey : Cond.selects RX1 yX1_obey yX1_obey ∈ TW := tw_in (w := Cond.selects RX1 yX1_obey yX1_obey) (List.mem_of_getElem? (i := 220) (by decide +kernel)) rfl
theorem vl_X2_23 : VL RX2 23 yX1_obey cX1_obey 4 (some .boolean) 3 := ⟨tw_in (w := Cond.methodLink RX2 23 yX1_obey) (List.mem_of_getElem? (i := 218) (by decide +kernel)) rfl, mi_X1_obey, mv_X1_obey, ini_X1, mc_X1_obey, by decide +kernel, by decide +kernel, by decide +kernel⟩
theorem mc_X2_fits : Cond.code yX2_fits cX2_fits 4 (some .boolean) ∈ TW := tw_in (w := Cond.code yX2_fits cX2_fits 4 (some .boolean)) (List.mem_of_getElem? (i := 208) (by decide +kernel)) rfl
theorem ms_X2_fits : Cond.static yX2_fits ∈ TW := tw_in (w := Cond.static yX2_fits) (List.mem_of_getElem? (i := 207) (by decide +kernel)) rfl
theorem sl_X2_29 : SL RX2 29 yX2_fits cX2_fits 4 (some .boolean) 3 := ⟨tw_in (w := Cond.methodLink RX2 29 yX2_fits) (List.mem_of_getElem? (i := 206) (by decide +kernel)) rfl, ms_X2_fits, ini_X2, mc_X2_fits, by decide +kernel, by decide +kernel, by decide +kernel⟩
theorem mc_X2_statementLength : Cond.code yX2_statementLength cX2_statementLength 1 (some .int) ∈ TW := tw_in (w := Cond.code yX2_statementLength cX2_statementLength 1 (some .int)) (List.mem_of_getElem? (i := 211) (by decide +kernel)) rfl
theorem ms_X2_statementLength : Cond.static yX2_statementLength ∈ TW := tw_in (w := Cond.static yX2_statementLength) (List.mem_of_getElem? (i := 210) (by decide +kernel)) rfl
theorem sl_X2_32 : SL RX2 32 yX2_statementLength cX2_statementLength 1 (some .int) 1 := ⟨tw_in (w := Cond.methodLink RX2 32 yX2_statementLength) (List.mem_of_getElem? (i := 209) (by decide +kernel)) rfl, ms_X2_statementLength, ini_X2, mc_X2_statementLength, by decide +kernel, by decide +kernel, by decide +kernel⟩
theorem sl_X2_36 : SL RX2 36 yX2_kind cX2_kind 1 (some .int) 1 := ⟨tw_in (w := Cond.methodLink RX2 36 yX2_kind) (List.mem_of_getElem? (i := 212) (by decide +kernel)) rfl, ms_X2_kind, ini_X2, mc_X2_kind, by decide +kernel, by decide +kernel, by decide +kernel⟩
theorem sl_X2_39 : SL RX2 39 yX2_digit cX2_digit 1 (some .int) 1 := ⟨tw_in (w := Cond.methodLink RX2 39 yX2_digit) (List.mem_of_getElem? (i := 215) (by decide +kernel)) rfl, ms_X2_digit, ini_X2, mc_X2_digit, by decide +kernel, by decide +kernel, by decide +kernel⟩
theorem ml_X3_1 : Cond.methodLink RX3 1 objectInit ∈ TW := tw_in (w := Cond.methodLink RX3 1 objectInit) (List.mem_of_getElem? (i := 46) (by decide +kernel)) rfl
theorem mc_X3_outOf : Cond.code yX3_outOf cX3_outOf 3 (some .int) ∈ TW := tw_in (w := Cond.code yX3_outOf cX3_outOf 3 (some .int)) (List.mem_of_getElem? (i := 178) (by decide +kernel)) rfl
theorem ms_X3_outOf : Cond.static yX3_outOf ∈ TW := tw_in (w := Cond.static yX3_outOf) (List.mem_of_getElem? (i := 177) (by decide +kernel)) rfl
theorem sl_X3_54 : SL RX3 54 yX3_outOf cX3_outOf 3 (some .int) 3 := ⟨tw_in (w := Cond.methodLink RX3 54 yX3_outOf) (List.mem_of_getElem? (i := 176) (by decide +kernel)) rfl, ms_X3_outOf, ini_X3, mc_X3_outOf, by decide +kernel, by decide +kernel, by decide +kernel⟩
theorem mc_X3_refuse : Cond.code yX3_refuse cX3_refuse 2 (some .int) ∈ TW := tw_in (w := Cond.code yX3_refuse cX3_refuse 2 (some .int)) (List.mem_of_getElem? (i := 182) (by decide +kernel)) rfl
theorem mi_X3_refuse : Cond.instanceMethod yX3_refuse ∈ TW := tw_in (w := Cond.instanceMethod yX3_refuse) (List.mem_of_getElem? (i := 181) (by decide +kernel)) rfl
theorem mv_X3_refuse : Cond.selects RX3 yX3_refuse yX3_refuse ∈ TW := tw_in (w := Cond.selects RX3 yX3_refuse yX3_refuse) (List.mem_of_getElem? (i := 0) (by decide +kernel)) rfl
theorem vl_X3_58 : VL RX3 58 yX3_refuse cX3_refuse 2 (some .int) 1 := ⟨tw_in (w := Cond.methodLink RX3 58 yX3_refuse) (List.mem_of_getElem? (i := 179) (by decide +kernel)) rfl, mi_X3_refuse, mv_X3_refuse, ini_X3, mc_X3_refuse, by decide +kernel, by decide +kernel, by decide +kernel⟩
theorem mc_X2_put : Cond.code yX2_put cX2_put 2 (some .int) ∈ TW := tw_in (w := Cond.code yX2_put cX2_put 2 (some .int)) (List.mem_of_getElem? (i := 186) (by decide +kernel)) rfl
theorem mi_X2_put : Cond.instanceMethod yX2_put ∈ TW := tw_in (w := Cond.instanceMethod yX2_put) (List.mem_of_getElem? (i := 184) (by decide +kernel)) rfl
theorem mv_X2_put : Cond.selects RX2 yX2_put yX2_put ∈ TW := tw_in (w := Cond.selects RX2 yX2_put yX2_put) (List.mem_of_getElem? (i := 185) (by decide +kernel)) rfl
theorem vl_X3_65 : VL RX3 65 yX2_put cX2_put 2 (some .int) 1 := ⟨tw_in (w := Cond.methodLink RX3 65 yX2_put) (List.mem_of_getElem? (i := 183) (by decide +kernel)) rfl, mi_X2_put, mv_X2_put, ini_X2, mc_X2_put, by decide +kernel, by decide +kernel, by decide +kernel⟩
theorem mc_X1_become : Cond.code yX1_become cX1_become 2 none ∈ TW := tw_in (w := Cond.code yX1_become cX1_become 2 none) (List.mem_of_getElem? (i := 194) (by decide +kernel)) rfl
theorem mi_X1_become : Cond.instanceMethod yX1_become ∈ TW := tw_in (w := Cond.instanceMethod yX1_become) (List.mem_of_getElem? (i := 192) (by decide +kernel)) rfl
theorem mv_X1_become : Cond.selects RX1 yX1_become yX1_become ∈ TW := tw_in (w := Cond.selects RX1 yX1_become yX1_become) (List.mem_of_getElem? (i := 193) (by decide +kernel)) rfl
theorem vl_X3_68 : VL RX3 68 yX1_become cX1_become 2 none 1 := ⟨tw_in (w := Cond.methodLink RX3 68 yX1_become) (List.mem_of_getElem? (i := 191) (by decide +kernel)) rfl, mi_X1_become, mv_X1_become, ini_X1, mc_X1_become, by decide +kernel, by decide +kernel, by decide +kernel⟩
theorem mc_X2_readInto : Cond.code yX2_readInto cX2_readInto 6 (some .int) ∈ TW := tw_in (w := Cond.code yX2_readInto cX2_readInto 6 (some .int)) (List.mem_of_getElem? (i := 201) (by decide +kernel)) rfl
theorem mi_X2_readInto : Cond.instanceMethod yX2_readInto ∈ TW := tw_in (w := Cond.instanceMethod yX2_readInto) (List.mem_of_getElem? (i := 199) (by decide +kernel)) rfl
theorem mv_X2_readInto : Cond.selects RX2 yX2_readInto yX2_readInto ∈ TW := tw_in (w := Cond.selects RX2 yX2_readInto yX2_readInto) (List.mem_of_getElem? (i := 200) (by decide +kernel)) rfl
theorem vl_X3_72 : VL RX3 72 yX2_readInto cX2_readInto 6 (some .int) 1 := ⟨tw_in (w := Cond.methodLink RX3 72 yX2_readInto) (List.mem_of_getElem? (i := 198) (by decide +kernel)) rfl, mi_X2_readInto, mv_X2_readInto, ini_X2, mc_X2_readInto, by decide +kernel, by decide +kernel, by decide +kernel⟩
theorem vl_X3_76 : VL RX3 76 yX1_hasThing cX1_hasThing 2 (some .boolean) 1 := ⟨tw_in (w := Cond.methodLink RX3 76 yX1_hasThing) (List.mem_of_getElem? (i := 281) (by decide +kernel)) rfl, mi_X1_hasThing, mv_X1_hasThing, ini_X1, mc_X1_hasThing, by decide +kernel, by decide +kernel, by decide +kernel⟩
theorem vl_X3_89 : VL RX3 89 yX1_hasLine cX1_hasLine 2 (some .boolean) 1 := ⟨tw_in (w := Cond.methodLink RX3 89 yX1_hasLine) (List.mem_of_getElem? (i := 286) (by decide +kernel)) rfl, mi_X1_hasLine, mv_X1_hasLine, ini_X1, mc_X1_hasLine, by decide +kernel, by decide +kernel, by decide +kernel⟩
theorem vl_X3_101 : VL RX3 101 yX1_hang cX1_hang 3 none 1 := ⟨tw_in (w := Cond.methodLink RX3 101 yX1_hang) (List.mem_of_getElem? (i := 291) (by decide +kernel)) rfl, mi_X1_hang, mv_X1_hang, ini_X1, mc_X1_hang, by decide +kernel, by decide +kernel, by decide +kernel⟩
theorem mc_X3_isRoom : Cond.code yX3_isRoom cX3_isRoom 1 (some .boolean) ∈ TW := tw_in (w := Cond.code yX3_isRoom cX3_isRoom 1 (some .boolean)) (List.mem_of_getElem? (i := 229) (by decide +kernel)) rfl
theorem ms_X3_isRoom : Cond.static yX3_isRoom ∈ TW := tw_in (w := Cond.static yX3_isRoom) (List.mem_of_getElem? (i := 228) (by decide +kernel)) rfl
theorem sl_X3_105 : SL RX3 105 yX3_isRoom cX3_isRoom 1 (some .boolean) 1 := ⟨tw_in (w := Cond.methodLink RX3 105 yX3_isRoom) (List.mem_of_getElem? (i := 296) (by decide +kernel)) rfl, ms_X3_isRoom, ini_X3, mc_X3_isRoom, by decide +kernel, by decide +kernel, by decide +kernel⟩
theorem vl_X3_108 : VL RX3 108 yX1_couple cX1_couple 4 (some .int) 2 := ⟨tw_in (w := Cond.methodLink RX3 108 yX1_couple) (List.mem_of_getElem? (i := 301) (by decide +kernel)) rfl, mi_X1_couple, mv_X1_couple, ini_X1, mc_X1_couple, by decide +kernel, by decide +kernel, by decide +kernel⟩
theorem vl_X3_118 : VL RX3 118 yX1_seenFrom cX1_seenFrom 5 (some .int) 2 := ⟨tw_in (w := Cond.methodLink RX3 118 yX1_seenFrom) (List.mem_of_getElem? (i := 310) (by decide +kernel)) rfl, mi_X1_seenFrom, mv_X1_seenFrom, ini_X1, mc_X1_seenFrom, by decide +kernel, by decide +kernel, by decide +kernel⟩
theorem mc_X1_sinCount : Cond.code yX1_sinCount cX1_sinCount 4 (some .int) ∈ TW := tw_in (w := Cond.code yX1_sinCount cX1_sinCount 4 (some .int)) (List.mem_of_getElem? (i := 325) (by decide +kernel)) rfl
theorem mi_X1_sinCount : Cond.instanceMethod yX1_sinCount ∈ TW := tw_in (w := Cond.instanceMethod yX1_sinCount) (List.mem_of_getElem? (i := 323) (by decide +kernel)) rfl
theorem mv_X1_sinCount : Cond.selects RX1 yX1_sinCount yX1_sinCount ∈ TW := tw_in (w := Cond.selects RX1 yX1_sinCount yX1_sinCount) (List.mem_of_getElem? (i := 324) (by decide +kernel)) rfl
theorem vl_X3_121 : VL RX3 121 yX1_sinCount cX1_sinCount 4 (some .int) 1 := ⟨tw_in (w := Cond.methodLink RX3 121 yX1_sinCount) (List.mem_of_getElem? (i := 322) (by decide +kernel)) rfl, mi_X1_sinCount, mv_X1_sinCount, ini_X1, mc_X1_sinCount, by decide +kernel, by decide +kernel, by decide +kernel⟩
theorem vl_X3_124 : VL RX3 124 yX1_firstSin cX1_firstSin 3 (some .int) 1 := ⟨tw_in (w := Cond.methodLink RX3 124 yX1_firstSin) (List.mem_of_getElem? (i := 335) (by decide +kernel)) rfl, mi_X1_firstSin, mv_X1_firstSin, ini_X1, mc_X1_firstSin, by decide +kernel, by decide +kernel, by decide +kernel⟩
theorem mc_X1_firstSinfulHour : Cond.code yX1_firstSinfulHour cX1_firstSinfulHour 2 (some .int) ∈ TW := tw_in (w := Cond.code yX1_firstSinfulHour cX1_firstSinfulHour 2 (some .int)) (List.mem_of_getElem? (i := 346) (by decide +kernel)) rfl
theorem mi_X1_firstSinfulHour : Cond.instanceMethod yX1_firstSinfulHour ∈ TW := tw_in (w := Cond.instanceMethod yX1_firstSinfulHour) (List.mem_of_getElem? (i := 344) (by decide +kernel)) rfl
theorem mv_X1_firstSinfulHour : Cond.selects RX1 yX1_firstSinfulHour yX1_firstSinfulHour ∈ TW := tw_in (w := Cond.selects RX1 yX1_firstSinfulHour yX1_firstSinfulHour) (List.mem_of_getElem? (i := 345) (by decide +kernel)) rfl
theorem vl_X3_127 : VL RX3 127 yX1_firstSinfulHour cX1_firstSinfulHour 2 (some .int) 0 := ⟨tw_in (w := Cond.methodLink RX3 127 yX1_firstSinfulHour) (List.mem_of_getElem? (i := 343) (by decide +kernel)) rfl, mi_X1_firstSinfulHour, mv_X1_firstSinfulHour, ini_X1, mc_X1_firstSinfulHour, by decide +kernel, by decide +kernel, by decide +kernel⟩
theorem mc_J6_bitCount_0f7a4 : Cond.code yJ6_bitCount_0f7a4 cJ6_bitCount_0f7a4 1 (some .int) ∈ TW := tw_in (w := Cond.code yJ6_bitCount_0f7a4 cJ6_bitCount_0f7a4 1 (some .int)) (List.mem_of_getElem? (i := 354) (by decide +kernel)) rfl
theorem ms_J6_bitCount_0f7a4 : Cond.static yJ6_bitCount_0f7a4 ∈ TW := tw_in (w := Cond.static yJ6_bitCount_0f7a4) (List.mem_of_getElem? (i := 353) (by decide +kernel)) rfl
theorem sl_X3_134 : SL RX3 134 yJ6_bitCount_0f7a4 cJ6_bitCount_0f7a4 1 (some .int) 1 := ⟨tw_in (w := Cond.methodLink RX3 134 yJ6_bitCount_0f7a4) (List.mem_of_getElem? (i := 352) (by decide +kernel)) rfl, ms_J6_bitCount_0f7a4, ini_J6, mc_J6_bitCount_0f7a4, by decide +kernel, by decide +kernel, by decide +kernel⟩
theorem mc_X3_firstCure : Cond.code yX3_firstCure cX3_firstCure 6 (some .int) ∈ TW := tw_in (w := Cond.code yX3_firstCure cX3_firstCure 6 (some .int)) (List.mem_of_getElem? (i := 365) (by decide +kernel)) rfl
theorem mi_X3_firstCure : Cond.instanceMethod yX3_firstCure ∈ TW := tw_in (w := Cond.instanceMethod yX3_firstCure) (List.mem_of_getElem? (i := 364) (by decide +kernel)) rfl
theorem mv_X3_firstCure : Cond.selects RX3 yX3_firstCure yX3_firstCure ∈ TW := tw_in (w := Cond.selects RX3 yX3_firstCure yX3_firstCure) (List.mem_of_getElem? (i := 1) (by decide +kernel)) rfl
theorem vl_X3_139 : VL RX3 139 yX3_firstCure cX3_firstCure 6 (some .int) 1 := ⟨tw_in (w := Cond.methodLink RX3 139 yX3_firstCure) (List.mem_of_getElem? (i := 362) (by decide +kernel)) rfl, mi_X3_firstCure, mv_X3_firstCure, ini_X3, mc_X3_firstCure, by decide +kernel, by decide +kernel, by decide +kernel⟩
theorem mc_X3_twoCure : Cond.code yX3_twoCure cX3_twoCure 5 (some .boolean) ∈ TW := tw_in (w := Cond.code yX3_twoCure cX3_twoCure 5 (some .boolean)) (List.mem_of_getElem? (i := 369) (by decide +kernel)) rfl
theorem mi_X3_twoCure : Cond.instanceMethod yX3_twoCure ∈ TW := tw_in (w := Cond.instanceMethod yX3_twoCure) (List.mem_of_getElem? (i := 368) (by decide +kernel)) rfl
theorem mv_X3_twoCure : Cond.selects RX3 yX3_twoCure yX3_twoCure ∈ TW := tw_in (w := Cond.selects RX3 yX3_twoCure yX3_twoCure) (List.mem_of_getElem? (i := 2) (by decide +kernel)) rfl
theorem vl_X3_142 : VL RX3 142 yX3_twoCure cX3_twoCure 5 (some .boolean) 0 := ⟨tw_in (w := Cond.methodLink RX3 142 yX3_twoCure) (List.mem_of_getElem? (i := 366) (by decide +kernel)) rfl, mi_X3_twoCure, mv_X3_twoCure, ini_X3, mc_X3_twoCure, by decide +kernel, by decide +kernel, by decide +kernel⟩
theorem mc_X1_everMeet : Cond.code yX1_everMeet cX1_everMeet 4 (some .boolean) ∈ TW := tw_in (w := Cond.code yX1_everMeet cX1_everMeet 4 (some .boolean)) (List.mem_of_getElem? (i := 377) (by decide +kernel)) rfl
theorem mi_X1_everMeet : Cond.instanceMethod yX1_everMeet ∈ TW := tw_in (w := Cond.instanceMethod yX1_everMeet) (List.mem_of_getElem? (i := 375) (by decide +kernel)) rfl
theorem mv_X1_everMeet : Cond.selects RX1 yX1_everMeet yX1_everMeet ∈ TW := tw_in (w := Cond.selects RX1 yX1_everMeet yX1_everMeet) (List.mem_of_getElem? (i := 376) (by decide +kernel)) rfl
theorem vl_X3_146 : VL RX3 146 yX1_everMeet cX1_everMeet 4 (some .boolean) 2 := ⟨tw_in (w := Cond.methodLink RX3 146 yX1_everMeet) (List.mem_of_getElem? (i := 374) (by decide +kernel)) rfl, mi_X1_everMeet, mv_X1_everMeet, ini_X1, mc_X1_everMeet, by decide +kernel, by decide +kernel, by decide +kernel⟩
theorem mc_X0_allowUnseen : Cond.code yX0_allowUnseen cX0_allowUnseen 4 none ∈ TW := tw_in (w := Cond.code yX0_allowUnseen cX0_allowUnseen 4 none) (List.mem_of_getElem? (i := 385) (by decide +kernel)) rfl
theorem mi_X0_allowUnseen : Cond.instanceMethod yX0_allowUnseen ∈ TW := tw_in (w := Cond.instanceMethod yX0_allowUnseen) (List.mem_of_getElem? (i := 383) (by decide +kernel)) rfl
theorem mv_X0_allowUnseen : Cond.selects RX0 yX0_allowUnseen yX0_allowUnseen ∈ TW := tw_in (w := Cond.selects RX0 yX0_allowUnseen yX0_allowUnseen) (List.mem_of_getElem? (i := 384) (by decide +kernel)) rfl
theorem vl_X3_150 : VL RX3 150 yX0_allowUnseen cX0_allowUnseen 4 none 1 := ⟨tw_in (w := Cond.methodLink RX3 150 yX0_allowUnseen) (List.mem_of_getElem? (i := 382) (by decide +kernel)) rfl, mi_X0_allowUnseen, mv_X0_allowUnseen, ini_X0, mc_X0_allowUnseen, by decide +kernel, by decide +kernel, by decide +kernel⟩
theorem mc_X0_reckon : Cond.code yX0_reckon cX0_reckon 6 none ∈ TW := tw_in (w := Cond.code yX0_reckon cX0_reckon 6 none) (List.mem_of_getElem? (i := 390) (by decide +kernel)) rfl
theorem mi_X0_reckon : Cond.instanceMethod yX0_reckon ∈ TW := tw_in (w := Cond.instanceMethod yX0_reckon) (List.mem_of_getElem? (i := 388) (by decide +kernel)) rfl
theorem mv_X0_reckon : Cond.selects RX0 yX0_reckon yX0_reckon ∈ TW := tw_in (w := Cond.selects RX0 yX0_reckon yX0_reckon) (List.mem_of_getElem? (i := 389) (by decide +kernel)) rfl
theorem vl_X3_153 : VL RX3 153 yX0_reckon cX0_reckon 6 none 0 := ⟨tw_in (w := Cond.methodLink RX3 153 yX0_reckon) (List.mem_of_getElem? (i := 387) (by decide +kernel)) rfl, mi_X0_reckon, mv_X0_reckon, ini_X0, mc_X0_reckon, by decide +kernel, by decide +kernel, by decide +kernel⟩
theorem mc_X0_ofAll : Cond.code yX0_ofAll cX0_ofAll 1 (some .int) ∈ TW := tw_in (w := Cond.code yX0_ofAll cX0_ofAll 1 (some .int)) (List.mem_of_getElem? (i := 397) (by decide +kernel)) rfl
theorem mi_X0_ofAll : Cond.instanceMethod yX0_ofAll ∈ TW := tw_in (w := Cond.instanceMethod yX0_ofAll) (List.mem_of_getElem? (i := 395) (by decide +kernel)) rfl
theorem mv_X0_ofAll : Cond.selects RX0 yX0_ofAll yX0_ofAll ∈ TW := tw_in (w := Cond.selects RX0 yX0_ofAll yX0_ofAll) (List.mem_of_getElem? (i := 396) (by decide +kernel)) rfl
theorem vl_X3_156 : VL RX3 156 yX0_ofAll cX0_ofAll 1 (some .int) 0 := ⟨tw_in (w := Cond.methodLink RX3 156 yX0_ofAll) (List.mem_of_getElem? (i := 394) (by decide +kernel)) rfl, mi_X0_ofAll, mv_X0_ofAll, ini_X0, mc_X0_ofAll, by decide +kernel, by decide +kernel, by decide +kernel⟩
theorem mc_X0_othersOf : Cond.code yX0_othersOf cX0_othersOf 5 (some .int) ∈ TW := tw_in (w := Cond.code yX0_othersOf cX0_othersOf 5 (some .int)) (List.mem_of_getElem? (i := 401) (by decide +kernel)) rfl
theorem mi_X0_othersOf : Cond.instanceMethod yX0_othersOf ∈ TW := tw_in (w := Cond.instanceMethod yX0_othersOf) (List.mem_of_getElem? (i := 399) (by decide +kernel)) rfl
theorem mv_X0_othersOf : Cond.selects RX0 yX0_othersOf yX0_othersOf ∈ TW := tw_in (w := Cond.selects RX0 yX0_othersOf yX0_othersOf) (List.mem_of_getElem? (i := 400) (by decide +kernel)) rfl
theorem vl_X3_159 : VL RX3 159 yX0_othersOf cX0_othersOf 5 (some .int) 1 := ⟨tw_in (w := Cond.methodLink RX3 159 yX0_othersOf) (List.mem_of_getElem? (i := 398) (by decide +kernel)) rfl, mi_X0_othersOf, mv_X0_othersOf, ini_X0, mc_X0_othersOf, by decide +kernel, by decide +kernel, by decide +kernel⟩
theorem sl_X3_162 : SL RX3 162 yX0_leastOf cX0_leastOf 2 (some .int) 1 := ⟨tw_in (w := Cond.methodLink RX3 162 yX0_leastOf) (List.mem_of_getElem? (i := 402) (by decide +kernel)) rfl, ms_X0_leastOf, ini_X0, mc_X0_leastOf, by decide +kernel, by decide +kernel, by decide +kernel⟩
theorem vl_X3_165 : VL RX3 165 yX1_allThings cX1_allThings 1 (some .int) 0 := ⟨tw_in (w := Cond.methodLink RX3 165 yX1_allThings) (List.mem_of_getElem? (i := 407) (by decide +kernel)) rfl, mi_X1_allThings, mv_X1_allThings, ini_X1, mc_X1_allThings, by decide +kernel, by decide +kernel, by decide +kernel⟩
theorem mc_X0_allowApart : Cond.code yX0_allowApart cX0_allowApart 5 none ∈ TW := tw_in (w := Cond.code yX0_allowApart cX0_allowApart 5 none) (List.mem_of_getElem? (i := 418) (by decide +kernel)) rfl
theorem mi_X0_allowApart : Cond.instanceMethod yX0_allowApart ∈ TW := tw_in (w := Cond.instanceMethod yX0_allowApart) (List.mem_of_getElem? (i := 416) (by decide +kernel)) rfl
theorem mv_X0_allowApart : Cond.selects RX0 yX0_allowApart yX0_allowApart ∈ TW := tw_in (w := Cond.selects RX0 yX0_allowApart yX0_allowApart) (List.mem_of_getElem? (i := 417) (by decide +kernel)) rfl
theorem vl_X3_174 : VL RX3 174 yX0_allowApart cX0_allowApart 5 none 1 := ⟨tw_in (w := Cond.methodLink RX3 174 yX0_allowApart) (List.mem_of_getElem? (i := 415) (by decide +kernel)) rfl, mi_X0_allowApart, mv_X0_allowApart, ini_X0, mc_X0_allowApart, by decide +kernel, by decide +kernel, by decide +kernel⟩
theorem mc_X3_ordersBehind : Cond.code yX3_ordersBehind cX3_ordersBehind 5 (some .int) ∈ TW := tw_in (w := Cond.code yX3_ordersBehind cX3_ordersBehind 5 (some .int)) (List.mem_of_getElem? (i := 431) (by decide +kernel)) rfl
theorem mi_X3_ordersBehind : Cond.instanceMethod yX3_ordersBehind ∈ TW := tw_in (w := Cond.instanceMethod yX3_ordersBehind) (List.mem_of_getElem? (i := 430) (by decide +kernel)) rfl
theorem mv_X3_ordersBehind : Cond.selects RX3 yX3_ordersBehind yX3_ordersBehind ∈ TW := tw_in (w := Cond.selects RX3 yX3_ordersBehind yX3_ordersBehind) (List.mem_of_getElem? (i := 3) (by decide +kernel)) rfl
theorem vl_X3_177 : VL RX3 177 yX3_ordersBehind cX3_ordersBehind 5 (some .int) 2 := ⟨tw_in (w := Cond.methodLink RX3 177 yX3_ordersBehind) (List.mem_of_getElem? (i := 428) (by decide +kernel)) rfl, mi_X3_ordersBehind, mv_X3_ordersBehind, ini_X3, mc_X3_ordersBehind, by decide +kernel, by decide +kernel, by decide +kernel⟩
theorem mc_X3_firstCarried : Cond.code yX3_firstCarried cX3_firstCarried 2 (some .int) ∈ TW := tw_in (w := Cond.code yX3_firstCarried cX3_firstCarried 2 (some .int)) (List.mem_of_getElem? (i := 435) (by decide +kernel)) rfl
theorem mi_X3_firstCarried : Cond.instanceMethod yX3_firstCarried ∈ TW := tw_in (w := Cond.instanceMethod yX3_firstCarried) (List.mem_of_getElem? (i := 434) (by decide +kernel)) rfl
theorem mv_X3_firstCarried : Cond.selects RX3 yX3_firstCarried yX3_firstCarried ∈ TW := tw_in (w := Cond.selects RX3 yX3_firstCarried yX3_firstCarried) (List.mem_of_getElem? (i := 4) (by decide +kernel)) rfl
theorem vl_X3_180 : VL RX3 180 yX3_firstCarried cX3_firstCarried 2 (some .int) 0 := ⟨tw_in (w := Cond.methodLink RX3 180 yX3_firstCarried) (List.mem_of_getElem? (i := 432) (by decide +kernel)) rfl, mi_X3_firstCarried, mv_X3_firstCarried, ini_X3, mc_X3_firstCarried, by decide +kernel, by decide +kernel, by decide +kernel⟩
theorem mc_X3_firstBadMove : Cond.code yX3_firstBadMove cX3_firstBadMove 4 (some .int) ∈ TW := tw_in (w := Cond.code yX3_firstBadMove cX3_firstBadMove 4 (some .int)) (List.mem_of_getElem? (i := 451) (by decide +kernel)) rfl
theorem mi_X3_firstBadMove : Cond.instanceMethod yX3_firstBadMove ∈ TW := tw_in (w := Cond.instanceMethod yX3_firstBadMove) (List.mem_of_getElem? (i := 450) (by decide +kernel)) rfl
theorem mv_X3_firstBadMove : Cond.selects RX3 yX3_firstBadMove yX3_firstBadMove ∈ TW := tw_in (w := Cond.selects RX3 yX3_firstBadMove yX3_firstBadMove) (List.mem_of_getElem? (i := 5) (by decide +kernel)) rfl
theorem vl_X3_183 : VL RX3 183 yX3_firstBadMove cX3_firstBadMove 4 (some .int) 0 := ⟨tw_in (w := Cond.methodLink RX3 183 yX3_firstBadMove) (List.mem_of_getElem? (i := 448) (by decide +kernel)) rfl, mi_X3_firstBadMove, mv_X3_firstBadMove, ini_X3, mc_X3_firstBadMove, by decide +kernel, by decide +kernel, by decide +kernel⟩
theorem mc_X3_nextSeed : Cond.code yX3_nextSeed cX3_nextSeed 1 (some .int) ∈ TW := tw_in (w := Cond.code yX3_nextSeed cX3_nextSeed 1 (some .int)) (List.mem_of_getElem? (i := 459) (by decide +kernel)) rfl
theorem ms_X3_nextSeed : Cond.static yX3_nextSeed ∈ TW := tw_in (w := Cond.static yX3_nextSeed) (List.mem_of_getElem? (i := 458) (by decide +kernel)) rfl
theorem sl_X3_186 : SL RX3 186 yX3_nextSeed cX3_nextSeed 1 (some .int) 1 := ⟨tw_in (w := Cond.methodLink RX3 186 yX3_nextSeed) (List.mem_of_getElem? (i := 457) (by decide +kernel)) rfl, ms_X3_nextSeed, ini_X3, mc_X3_nextSeed, by decide +kernel, by decide +kernel, by decide +kernel⟩
theorem mc_X3_draw : Cond.code yX3_draw cX3_draw 2 (some .int) ∈ TW := tw_in (w := Cond.code yX3_draw cX3_draw 2 (some .int)) (List.mem_of_getElem? (i := 464) (by decide +kernel)) rfl
theorem ms_X3_draw : Cond.static yX3_draw ∈ TW := tw_in (w := Cond.static yX3_draw) (List.mem_of_getElem? (i := 463) (by decide +kernel)) rfl
theorem sl_X3_189 : SL RX3 189 yX3_draw cX3_draw 2 (some .int) 2 := ⟨tw_in (w := Cond.methodLink RX3 189 yX3_draw) (List.mem_of_getElem? (i := 462) (by decide +kernel)) rfl, ms_X3_draw, ini_X3, mc_X3_draw, by decide +kernel, by decide +kernel, by decide +kernel⟩
theorem mc_X1_coupledCount : Cond.code yX1_coupledCount cX1_coupledCount 3 (some .int) ∈ TW := tw_in (w := Cond.code yX1_coupledCount cX1_coupledCount 3 (some .int)) (List.mem_of_getElem? (i := 481) (by decide +kernel)) rfl
theorem mi_X1_coupledCount : Cond.instanceMethod yX1_coupledCount ∈ TW := tw_in (w := Cond.instanceMethod yX1_coupledCount) (List.mem_of_getElem? (i := 479) (by decide +kernel)) rfl
theorem mv_X1_coupledCount : Cond.selects RX1 yX1_coupledCount yX1_coupledCount ∈ TW := tw_in (w := Cond.selects RX1 yX1_coupledCount yX1_coupledCount) (List.mem_of_getElem? (i := 480) (by decide +kernel)) rfl
theorem vl_X3_192 : VL RX3 192 yX1_coupledCount cX1_coupledCount 3 (some .int) 0 := ⟨tw_in (w := Cond.methodLink RX3 192 yX1_coupledCount) (List.mem_of_getElem? (i := 478) (by decide +kernel)) rfl, mi_X1_coupledCount, mv_X1_coupledCount, ini_X1, mc_X1_coupledCount, by decide +kernel, by decide +kernel, by decide +kernel⟩
theorem ml_X3_195 : Cond.methodLink RX3 195 Lib.Math.min.name ∈ TW := tw_in (w := Cond.methodLink RX3 195 Lib.Math.min.name) (List.mem_of_getElem? (i := 452) (by decide +kernel)) rfl
theorem ml_X4_1 : Cond.methodLink RX4 1 objectInit ∈ TW := tw_in (w := Cond.methodLink RX4 1 objectInit) (List.mem_of_getElem? (i := 487) (by decide +kernel)) rfl
theorem mc_X4_within : Cond.code yX4_within cX4_within 3 (some .boolean) ∈ TW := tw_in (w := Cond.code yX4_within cX4_within 3 (some .boolean)) (List.mem_of_getElem? (i := 588) (by decide +kernel)) rfl
theorem ms_X4_within : Cond.static yX4_within ∈ TW := tw_in (w := Cond.static yX4_within) (List.mem_of_getElem? (i := 587) (by decide +kernel)) rfl
theorem sl_X4_56 : SL RX4 56 yX4_within cX4_within 3 (some .boolean) 3 := ⟨tw_in (w := Cond.methodLink RX4 56 yX4_within) (List.mem_of_getElem? (i := 586) (by decide +kernel)) rfl, ms_X4_within, ini_X4, mc_X4_within, by decide +kernel, by decide +kernel, by decide +kernel⟩
theorem mc_X4_no : Cond.code yX4_no cX4_no 2 (some .int) ∈ TW := tw_in (w := Cond.code yX4_no cX4_no 2 (some .int)) (List.mem_of_getElem? (i := 565) (by decide +kernel)) rfl
theorem mi_X4_no : Cond.instanceMethod yX4_no ∈ TW := tw_in (w := Cond.instanceMethod yX4_no) (List.mem_of_getElem? (i := 564) (by decide +kernel)) rfl
theorem mv_X4_no : Cond.selects RX4 yX4_no yX4_no ∈ TW := tw_in (w := Cond.selects RX4 yX4_no yX4_no) (List.mem_of_getElem? (i := 6) (by decide +kernel)) rfl
theorem vl_X4_63 : VL RX4 63 yX4_no cX4_no 2 (some .int) 1 := ⟨tw_in (w := Cond.methodLink RX4 63 yX4_no) (List.mem_of_getElem? (i := 562) (by decide +kernel)) rfl, mi_X4_no, mv_X4_no, ini_X4, mc_X4_no, by decide +kernel, by decide +kernel, by decide +kernel⟩
theorem ml_X4_73 : Cond.methodLink RX4 73 Lib.Math.min.name ∈ TW := tw_in (w := Cond.methodLink RX4 73 Lib.Math.min.name) (List.mem_of_getElem? (i := 679) (by decide +kernel)) rfl
theorem ml_X4_79 : Cond.methodLink RX4 79 Lib.Math.max.name ∈ TW := tw_in (w := Cond.methodLink RX4 79 Lib.Math.max.name) (List.mem_of_getElem? (i := 680) (by decide +kernel)) rfl
theorem mc_X4_is : Cond.code yX4_is cX4_is 2 (some .boolean) ∈ TW := tw_in (w := Cond.code yX4_is cX4_is 2 (some .boolean)) (List.mem_of_getElem? (i := 577) (by decide +kernel)) rfl
theorem mi_X4_is : Cond.instanceMethod yX4_is ∈ TW := tw_in (w := Cond.instanceMethod yX4_is) (List.mem_of_getElem? (i := 576) (by decide +kernel)) rfl
theorem mv_X4_is : Cond.selects RX4 yX4_is yX4_is ∈ TW := tw_in (w := Cond.selects RX4 yX4_is yX4_is) (List.mem_of_getElem? (i := 8) (by decide +kernel)) rfl
theorem vl_X4_82 : VL RX4 82 yX4_is cX4_is 2 (some .boolean) 1 := ⟨tw_in (w := Cond.methodLink RX4 82 yX4_is) (List.mem_of_getElem? (i := 574) (by decide +kernel)) rfl, mi_X4_is, mv_X4_is, ini_X4, mc_X4_is, by decide +kernel, by decide +kernel, by decide +kernel⟩
theorem mc_X4_digit : Cond.code yX4_digit cX4_digit 2 (some .boolean) ∈ TW := tw_in (w := Cond.code yX4_digit cX4_digit 2 (some .boolean)) (List.mem_of_getElem? (i := 581) (by decide +kernel)) rfl
theorem mi_X4_digit : Cond.instanceMethod yX4_digit ∈ TW := tw_in (w := Cond.instanceMethod yX4_digit) (List.mem_of_getElem? (i := 580) (by decide +kernel)) rfl
theorem mv_X4_digit : Cond.selects RX4 yX4_digit yX4_digit ∈ TW := tw_in (w := Cond.selects RX4 yX4_digit yX4_digit) (List.mem_of_getElem? (i := 9) (by decide +kernel)) rfl
theorem vl_X4_86 : VL RX4 86 yX4_digit cX4_digit 2 (some .boolean) 1 := ⟨tw_in (w := Cond.methodLink RX4 86 yX4_digit) (List.mem_of_getElem? (i := 578) (by decide +kernel)) rfl, mi_X4_digit, mv_X4_digit, ini_X4, mc_X4_digit, by decide +kernel, by decide +kernel, by decide +kernel⟩
theorem mc_X4_isLine : Cond.code yX4_isLine cX4_isLine 2 (some .boolean) ∈ TW := tw_in (w := Cond.code yX4_isLine cX4_isLine 2 (some .boolean)) (List.mem_of_getElem? (i := 585) (by decide +kernel)) rfl
theorem mi_X4_isLine : Cond.instanceMethod yX4_isLine ∈ TW := tw_in (w := Cond.instanceMethod yX4_isLine) (List.mem_of_getElem? (i := 584) (by decide +kernel)) rfl
theorem mv_X4_isLine : Cond.selects RX4 yX4_isLine yX4_isLine ∈ TW := tw_in (w := Cond.selects RX4 yX4_isLine yX4_isLine) (List.mem_of_getElem? (i := 10) (by decide +kernel)) rfl
theorem vl_X4_89 : VL RX4 89 yX4_isLine cX4_isLine 2 (some .boolean) 1 := ⟨tw_in (w := Cond.methodLink RX4 89 yX4_isLine) (List.mem_of_getElem? (i := 582) (by decide +kernel)) rfl, mi_X4_isLine, mv_X4_isLine, ini_X4, mc_X4_isLine, by decide +kernel, by decide +kernel, by decide +kernel⟩
theorem mc_J0_indexOf_0f7a4 : Cond.code yJ0_indexOf_0f7a4 cJ0_indexOf_0f7a4 2 (some .int) ∈ TW := tw_in (w := Cond.code yJ0_indexOf_0f7a4 cJ0_indexOf_0f7a4 2 (some .int)) (List.mem_of_getElem? (i := 593) (by decide +kernel)) rfl
theorem mi_J0_indexOf_0f7a4 : Cond.instanceMethod yJ0_indexOf_0f7a4 ∈ TW := tw_in (w := Cond.instanceMethod yJ0_indexOf_0f7a4) (List.mem_of_getElem? (i := 591) (by decide +kernel)) rfl
theorem mv_J0_indexOf_0f7a4 : Cond.selects RJ0 yJ0_indexOf_0f7a4 yJ0_indexOf_0f7a4 ∈ TW := tw_in (w := Cond.selects RJ0 yJ0_indexOf_0f7a4 yJ0_indexOf_0f7a4) (List.mem_of_getElem? (i := 592) (by decide +kernel)) rfl
theorem vl_X4_100 : VL RX4 100 yJ0_indexOf_0f7a4 cJ0_indexOf_0f7a4 2 (some .int) 1 := ⟨tw_in (w := Cond.methodLink RX4 100 yJ0_indexOf_0f7a4) (List.mem_of_getElem? (i := 590) (by decide +kernel)) rfl, mi_J0_indexOf_0f7a4, mv_J0_indexOf_0f7a4, ini_J0, mc_J0_indexOf_0f7a4, by decide +kernel, by decide +kernel, by decide +kernel⟩
theorem mc_X4_isRoom : Cond.code yX4_isRoom cX4_isRoom 1 (some .boolean) ∈ TW := tw_in (w := Cond.code yX4_isRoom cX4_isRoom 1 (some .boolean)) (List.mem_of_getElem? (i := 674) (by decide +kernel)) rfl
theorem ms_X4_isRoom : Cond.static yX4_isRoom ∈ TW := tw_in (w := Cond.static yX4_isRoom) (List.mem_of_getElem? (i := 673) (by decide +kernel)) rfl
theorem sl_X4_105 : SL RX4 105 yX4_isRoom cX4_isRoom 1 (some .boolean) 1 := ⟨tw_in (w := Cond.methodLink RX4 105 yX4_isRoom) (List.mem_of_getElem? (i := 672) (by decide +kernel)) rfl, ms_X4_isRoom, ini_X4, mc_X4_isRoom, by decide +kernel, by decide +kernel, by decide +kernel⟩
theorem mc_X4_isOld : Cond.code yX4_isOld cX4_isOld 4 (some .boolean) ∈ TW := tw_in (w := Cond.code yX4_isOld cX4_isOld 4 (some .boolean)) (List.mem_of_getElem? (i := 678) (by decide +kernel)) rfl
theorem mi_X4_isOld : Cond.instanceMethod yX4_isOld ∈ TW := tw_in (w := Cond.instanceMethod yX4_isOld) (List.mem_of_getElem? (i := 677) (by decide +kernel)) rfl
theorem mv_X4_isOld : Cond.selects RX4 yX4_isOld yX4_isOld ∈ TW := tw_in (w := Cond.selects RX4 yX4_isOld yX4_isOld) (List.mem_of_getElem? (i := 11) (by decide +kernel)) rfl
theorem vl_X4_108 : VL RX4 108 yX4_isOld cX4_isOld 4 (some .boolean) 2 := ⟨tw_in (w := Cond.methodLink RX4 108 yX4_isOld) (List.mem_of_getElem? (i := 675) (by decide +kernel)) rfl, mi_X4_isOld, mv_X4_isOld, ini_X4, mc_X4_isOld, by decide +kernel, by decide +kernel, by decide +kernel⟩
theorem mc_X4_isThing : Cond.code yX4_isThing cX4_isThing 2 (some .boolean) ∈ TW := tw_in (w := Cond.code yX4_isThing cX4_isThing 2 (some .boolean)) (List.mem_of_getElem? (i := 684) (by decide +kernel)) rfl
theorem mi_X4_isThing : Cond.instanceMethod yX4_isThing ∈ TW := tw_in (w := Cond.instanceMethod yX4_isThing) (List.mem_of_getElem? (i := 683) (by decide +kernel)) rfl
theorem mv_X4_isThing : Cond.selects RX4 yX4_isThing yX4_isThing ∈ TW := tw_in (w := Cond.selects RX4 yX4_isThing yX4_isThing) (List.mem_of_getElem? (i := 12) (by decide +kernel)) rfl
theorem vl_X4_112 : VL RX4 112 yX4_isThing cX4_isThing 2 (some .boolean) 1 := ⟨tw_in (w := Cond.methodLink RX4 112 yX4_isThing) (List.mem_of_getElem? (i := 681) (by decide +kernel)) rfl, mi_X4_isThing, mv_X4_isThing, ini_X4, mc_X4_isThing, by decide +kernel, by decide +kernel, by decide +kernel⟩
theorem mc_X4_give : Cond.code yX4_give cX4_give 5 (some .int) ∈ TW := tw_in (w := Cond.code yX4_give cX4_give 5 (some .int)) (List.mem_of_getElem? (i := 688) (by decide +kernel)) rfl
theorem mi_X4_give : Cond.instanceMethod yX4_give ∈ TW := tw_in (w := Cond.instanceMethod yX4_give) (List.mem_of_getElem? (i := 687) (by decide +kernel)) rfl
theorem mv_X4_give : Cond.selects RX4 yX4_give yX4_give ∈ TW := tw_in (w := Cond.selects RX4 yX4_give yX4_give) (List.mem_of_getElem? (i := 13) (by decide +kernel)) rfl
theorem vl_X4_115 : VL RX4 115 yX4_give cX4_give 5 (some .int) 2 := ⟨tw_in (w := Cond.methodLink RX4 115 yX4_give) (List.mem_of_getElem? (i := 685) (by decide +kernel)) rfl, mi_X4_give, mv_X4_give, ini_X4, mc_X4_give, by decide +kernel, by decide +kernel, by decide +kernel⟩
theorem mc_X4_statement : Cond.code yX4_statement cX4_statement 6 (some .int) ∈ TW := tw_in (w := Cond.code yX4_statement cX4_statement 6 (some .int)) (List.mem_of_getElem? (i := 573) (by decide +kernel)) rfl
theorem mi_X4_statement : Cond.instanceMethod yX4_statement ∈ TW := tw_in (w := Cond.instanceMethod yX4_statement) (List.mem_of_getElem? (i := 572) (by decide +kernel)) rfl
theorem mv_X4_statement : Cond.selects RX4 yX4_statement yX4_statement ∈ TW := tw_in (w := Cond.selects RX4 yX4_statement yX4_statement) (List.mem_of_getElem? (i := 7) (by decide +kernel)) rfl
theorem vl_X4_118 : VL RX4 118 yX4_statement cX4_statement 6 (some .int) 1 := ⟨tw_in (w := Cond.methodLink RX4 118 yX4_statement) (List.mem_of_getElem? (i := 570) (by decide +kernel)) rfl, mi_X4_statement, mv_X4_statement, ini_X4, mc_X4_statement, by decide +kernel, by decide +kernel, by decide +kernel⟩
theorem mc_X4_keep : Cond.code yX4_keep cX4_keep 3 none ∈ TW := tw_in (w := Cond.code yX4_keep cX4_keep 3 none) (List.mem_of_getElem? (i := 692) (by decide +kernel)) rfl
theorem mi_X4_keep : Cond.instanceMethod yX4_keep ∈ TW := tw_in (w := Cond.instanceMethod yX4_keep) (List.mem_of_getElem? (i := 691) (by decide +kernel)) rfl
theorem mv_X4_keep : Cond.selects RX4 yX4_keep yX4_keep ∈ TW := tw_in (w := Cond.selects RX4 yX4_keep yX4_keep) (List.mem_of_getElem? (i := 14) (by decide +kernel)) rfl
theorem vl_X4_122 : VL RX4 122 yX4_keep cX4_keep 3 none 1 := ⟨tw_in (w := Cond.methodLink RX4 122 yX4_keep) (List.mem_of_getElem? (i := 689) (by decide +kernel)) rfl, mi_X4_keep, mv_X4_keep, ini_X4, mc_X4_keep, by decide +kernel, by decide +kernel, by decide +kernel⟩
theorem mc_X4_again : Cond.code yX4_again cX4_again 3 none ∈ TW := tw_in (w := Cond.code yX4_again cX4_again 3 none) (List.mem_of_getElem? (i := 696) (by decide +kernel)) rfl
theorem mi_X4_again : Cond.instanceMethod yX4_again ∈ TW := tw_in (w := Cond.instanceMethod yX4_again) (List.mem_of_getElem? (i := 695) (by decide +kernel)) rfl
theorem mv_X4_again : Cond.selects RX4 yX4_again yX4_again ∈ TW := tw_in (w := Cond.selects RX4 yX4_again yX4_again) (List.mem_of_getElem? (i := 15) (by decide +kernel)) rfl
theorem vl_X4_126 : VL RX4 126 yX4_again cX4_again 3 none 1 := ⟨tw_in (w := Cond.methodLink RX4 126 yX4_again) (List.mem_of_getElem? (i := 693) (by decide +kernel)) rfl, mi_X4_again, mv_X4_again, ini_X4, mc_X4_again, by decide +kernel, by decide +kernel, by decide +kernel⟩
theorem mc_X4_has : Cond.code yX4_has cX4_has 2 (some .boolean) ∈ TW := tw_in (w := Cond.code yX4_has cX4_has 2 (some .boolean)) (List.mem_of_getElem? (i := 740) (by decide +kernel)) rfl
theorem ms_X4_has : Cond.static yX4_has ∈ TW := tw_in (w := Cond.static yX4_has) (List.mem_of_getElem? (i := 739) (by decide +kernel)) rfl
theorem sl_X4_129 : SL RX4 129 yX4_has cX4_has 2 (some .boolean) 2 := ⟨tw_in (w := Cond.methodLink RX4 129 yX4_has) (List.mem_of_getElem? (i := 738) (by decide +kernel)) rfl, ms_X4_has, ini_X4, mc_X4_has, by decide +kernel, by decide +kernel, by decide +kernel⟩
theorem mc_X4_beside : Cond.code yX4_beside cX4_beside 5 (some .int) ∈ TW := tw_in (w := Cond.code yX4_beside cX4_beside 5 (some .int)) (List.mem_of_getElem? (i := 737) (by decide +kernel)) rfl
theorem mi_X4_beside : Cond.instanceMethod yX4_beside ∈ TW := tw_in (w := Cond.instanceMethod yX4_beside) (List.mem_of_getElem? (i := 736) (by decide +kernel)) rfl
theorem mv_X4_beside : Cond.selects RX4 yX4_beside yX4_beside ∈ TW := tw_in (w := Cond.selects RX4 yX4_beside yX4_beside) (List.mem_of_getElem? (i := 18) (by decide +kernel)) rfl
theorem vl_X4_132 : VL RX4 132 yX4_beside cX4_beside 5 (some .int) 2 := ⟨tw_in (w := Cond.methodLink RX4 132 yX4_beside) (List.mem_of_getElem? (i := 734) (by decide +kernel)) rfl, mi_X4_beside, mv_X4_beside, ini_X4, mc_X4_beside, by decide +kernel, by decide +kernel, by decide +kernel⟩
theorem mc_X4_plain : Cond.code yX4_plain cX4_plain 4 (some .int) ∈ TW := tw_in (w := Cond.code yX4_plain cX4_plain 4 (some .int)) (List.mem_of_getElem? (i := 733) (by decide +kernel)) rfl
theorem mi_X4_plain : Cond.instanceMethod yX4_plain ∈ TW := tw_in (w := Cond.instanceMethod yX4_plain) (List.mem_of_getElem? (i := 732) (by decide +kernel)) rfl
theorem mv_X4_plain : Cond.selects RX4 yX4_plain yX4_plain ∈ TW := tw_in (w := Cond.selects RX4 yX4_plain yX4_plain) (List.mem_of_getElem? (i := 17) (by decide +kernel)) rfl
theorem vl_X4_136 : VL RX4 136 yX4_plain cX4_plain 4 (some .int) 2 := ⟨tw_in (w := Cond.methodLink RX4 136 yX4_plain) (List.mem_of_getElem? (i := 730) (by decide +kernel)) rfl, mi_X4_plain, mv_X4_plain, ini_X4, mc_X4_plain, by decide +kernel, by decide +kernel, by decide +kernel⟩
theorem mc_X4_fromWhere : Cond.code yX4_fromWhere cX4_fromWhere 5 (some .int) ∈ TW := tw_in (w := Cond.code yX4_fromWhere cX4_fromWhere 5 (some .int)) (List.mem_of_getElem? (i := 729) (by decide +kernel)) rfl
theorem mi_X4_fromWhere : Cond.instanceMethod yX4_fromWhere ∈ TW := tw_in (w := Cond.instanceMethod yX4_fromWhere) (List.mem_of_getElem? (i := 728) (by decide +kernel)) rfl
theorem mv_X4_fromWhere : Cond.selects RX4 yX4_fromWhere yX4_fromWhere ∈ TW := tw_in (w := Cond.selects RX4 yX4_fromWhere yX4_fromWhere) (List.mem_of_getElem? (i := 16) (by decide +kernel)) rfl
theorem vl_X4_139 : VL RX4 139 yX4_fromWhere cX4_fromWhere 5 (some .int) 2 := ⟨tw_in (w := Cond.methodLink RX4 139 yX4_fromWhere) (List.mem_of_getElem? (i := 726) (by decide +kernel)) rfl, mi_X4_fromWhere, mv_X4_fromWhere, ini_X4, mc_X4_fromWhere, by decide +kernel, by decide +kernel, by decide +kernel⟩
theorem mc_X4_look : Cond.code yX4_look cX4_look 3 none ∈ TW := tw_in (w := Cond.code yX4_look cX4_look 3 none) (List.mem_of_getElem? (i := 756) (by decide +kernel)) rfl
theorem mi_X4_look : Cond.instanceMethod yX4_look ∈ TW := tw_in (w := Cond.instanceMethod yX4_look) (List.mem_of_getElem? (i := 755) (by decide +kernel)) rfl
theorem mv_X4_look : Cond.selects RX4 yX4_look yX4_look ∈ TW := tw_in (w := Cond.selects RX4 yX4_look yX4_look) (List.mem_of_getElem? (i := 20) (by decide +kernel)) rfl
theorem vl_X4_142 : VL RX4 142 yX4_look cX4_look 3 none 1 := ⟨tw_in (w := Cond.methodLink RX4 142 yX4_look) (List.mem_of_getElem? (i := 753) (by decide +kernel)) rfl, mi_X4_look, mv_X4_look, ini_X4, mc_X4_look, by decide +kernel, by decide +kernel, by decide +kernel⟩
theorem mc_X4_sinsIn : Cond.code yX4_sinsIn cX4_sinsIn 6 (some .int) ∈ TW := tw_in (w := Cond.code yX4_sinsIn cX4_sinsIn 6 (some .int)) (List.mem_of_getElem? (i := 752) (by decide +kernel)) rfl
theorem mi_X4_sinsIn : Cond.instanceMethod yX4_sinsIn ∈ TW := tw_in (w := Cond.instanceMethod yX4_sinsIn) (List.mem_of_getElem? (i := 751) (by decide +kernel)) rfl
theorem mv_X4_sinsIn : Cond.selects RX4 yX4_sinsIn yX4_sinsIn ∈ TW := tw_in (w := Cond.selects RX4 yX4_sinsIn yX4_sinsIn) (List.mem_of_getElem? (i := 19) (by decide +kernel)) rfl
theorem vl_X4_146 : VL RX4 146 yX4_sinsIn cX4_sinsIn 6 (some .int) 1 := ⟨tw_in (w := Cond.methodLink RX4 146 yX4_sinsIn) (List.mem_of_getElem? (i := 749) (by decide +kernel)) rfl, mi_X4_sinsIn, mv_X4_sinsIn, ini_X4, mc_X4_sinsIn, by decide +kernel, by decide +kernel, by decide +kernel⟩
theorem sl_X4_149 : SL RX4 149 yJ6_bitCount_0f7a4 cJ6_bitCount_0f7a4 1 (some .int) 1 := ⟨tw_in (w := Cond.methodLink RX4 149 yJ6_bitCount_0f7a4) (List.mem_of_getElem? (i := 765) (by decide +kernel)) rfl, ms_J6_bitCount_0f7a4, ini_J6, mc_J6_bitCount_0f7a4, by decide +kernel, by decide +kernel, by decide +kernel⟩
theorem mc_X4_oneMoved : Cond.code yX4_oneMoved cX4_oneMoved 5 (some .int) ∈ TW := tw_in (w := Cond.code yX4_oneMoved cX4_oneMoved 5 (some .int)) (List.mem_of_getElem? (i := 773) (by decide +kernel)) rfl
theorem mi_X4_oneMoved : Cond.instanceMethod yX4_oneMoved ∈ TW := tw_in (w := Cond.instanceMethod yX4_oneMoved) (List.mem_of_getElem? (i := 772) (by decide +kernel)) rfl
theorem mv_X4_oneMoved : Cond.selects RX4 yX4_oneMoved yX4_oneMoved ∈ TW := tw_in (w := Cond.selects RX4 yX4_oneMoved yX4_oneMoved) (List.mem_of_getElem? (i := 21) (by decide +kernel)) rfl
theorem vl_X4_154 : VL RX4 154 yX4_oneMoved cX4_oneMoved 5 (some .int) 0 := ⟨tw_in (w := Cond.methodLink RX4 154 yX4_oneMoved) (List.mem_of_getElem? (i := 770) (by decide +kernel)) rfl, mi_X4_oneMoved, mv_X4_oneMoved, ini_X4, mc_X4_oneMoved, by decide +kernel, by decide +kernel, by decide +kernel⟩
theorem mc_X4_byTwo : Cond.code yX4_byTwo cX4_byTwo 8 (some .boolean) ∈ TW := tw_in (w := Cond.code yX4_byTwo cX4_byTwo 8 (some .boolean)) (List.mem_of_getElem? (i := 777) (by decide +kernel)) rfl
theorem mi_X4_byTwo : Cond.instanceMethod yX4_byTwo ∈ TW := tw_in (w := Cond.instanceMethod yX4_byTwo) (List.mem_of_getElem? (i := 776) (by decide +kernel)) rfl
theorem mv_X4_byTwo : Cond.selects RX4 yX4_byTwo yX4_byTwo ∈ TW := tw_in (w := Cond.selects RX4 yX4_byTwo yX4_byTwo) (List.mem_of_getElem? (i := 22) (by decide +kernel)) rfl
theorem vl_X4_158 : VL RX4 158 yX4_byTwo cX4_byTwo 8 (some .boolean) 0 := ⟨tw_in (w := Cond.methodLink RX4 158 yX4_byTwo) (List.mem_of_getElem? (i := 774) (by decide +kernel)) rfl, mi_X4_byTwo, mv_X4_byTwo, ini_X4, mc_X4_byTwo, by decide +kernel, by decide +kernel, by decide +kernel⟩
theorem mc_J6_numberOfTrailingZeros_0f7a4 : Cond.code yJ6_numberOfTrailingZeros_0f7a4 cJ6_numberOfTrailingZeros_0f7a4 2 (some .int) ∈ TW := tw_in (w := Cond.code yJ6_numberOfTrailingZeros_0f7a4 cJ6_numberOfTrailingZeros_0f7a4 2 (some .int)) (List.mem_of_getElem? (i := 796) (by decide +kernel)) rfl
theorem ms_J6_numberOfTrailingZeros_0f7a4 : Cond.static yJ6_numberOfTrailingZeros_0f7a4 ∈ TW := tw_in (w := Cond.static yJ6_numberOfTrailingZeros_0f7a4) (List.mem_of_getElem? (i := 795) (by decide +kernel)) rfl
theorem sl_X4_165 : SL RX4 165 yJ6_numberOfTrailingZeros_0f7a4 cJ6_numberOfTrailingZeros_0f7a4 2 (some .int) 1 := ⟨tw_in (w := Cond.methodLink RX4 165 yJ6_numberOfTrailingZeros_0f7a4) (List.mem_of_getElem? (i := 794) (by decide +kernel)) rfl, ms_J6_numberOfTrailingZeros_0f7a4, ini_J6, mc_J6_numberOfTrailingZeros_0f7a4, by decide +kernel, by decide +kernel, by decide +kernel⟩
theorem mc_X4_mayBe : Cond.code yX4_mayBe cX4_mayBe 5 (some .boolean) ∈ TW := tw_in (w := Cond.code yX4_mayBe cX4_mayBe 5 (some .boolean)) (List.mem_of_getElem? (i := 801) (by decide +kernel)) rfl
theorem mi_X4_mayBe : Cond.instanceMethod yX4_mayBe ∈ TW := tw_in (w := Cond.instanceMethod yX4_mayBe) (List.mem_of_getElem? (i := 800) (by decide +kernel)) rfl
theorem mv_X4_mayBe : Cond.selects RX4 yX4_mayBe yX4_mayBe ∈ TW := tw_in (w := Cond.selects RX4 yX4_mayBe yX4_mayBe) (List.mem_of_getElem? (i := 25) (by decide +kernel)) rfl
theorem vl_X4_168 : VL RX4 168 yX4_mayBe cX4_mayBe 5 (some .boolean) 3 := ⟨tw_in (w := Cond.methodLink RX4 168 yX4_mayBe) (List.mem_of_getElem? (i := 798) (by decide +kernel)) rfl, mi_X4_mayBe, mv_X4_mayBe, ini_X4, mc_X4_mayBe, by decide +kernel, by decide +kernel, by decide +kernel⟩
theorem mc_X4_waysFor : Cond.code yX4_waysFor cX4_waysFor 6 (some .int) ∈ TW := tw_in (w := Cond.code yX4_waysFor cX4_waysFor 6 (some .int)) (List.mem_of_getElem? (i := 793) (by decide +kernel)) rfl
theorem mi_X4_waysFor : Cond.instanceMethod yX4_waysFor ∈ TW := tw_in (w := Cond.instanceMethod yX4_waysFor) (List.mem_of_getElem? (i := 792) (by decide +kernel)) rfl
theorem mv_X4_waysFor : Cond.selects RX4 yX4_waysFor yX4_waysFor ∈ TW := tw_in (w := Cond.selects RX4 yX4_waysFor yX4_waysFor) (List.mem_of_getElem? (i := 24) (by decide +kernel)) rfl
theorem vl_X4_172 : VL RX4 172 yX4_waysFor cX4_waysFor 6 (some .int) 2 := ⟨tw_in (w := Cond.methodLink RX4 172 yX4_waysFor) (List.mem_of_getElem? (i := 790) (by decide +kernel)) rfl, mi_X4_waysFor, mv_X4_waysFor, ini_X4, mc_X4_waysFor, by decide +kernel, by decide +kernel, by decide +kernel⟩
theorem mc_X4_all : Cond.code yX4_all cX4_all 1 (some .int) ∈ TW := tw_in (w := Cond.code yX4_all cX4_all 1 (some .int)) (List.mem_of_getElem? (i := 789) (by decide +kernel)) rfl
theorem mi_X4_all : Cond.instanceMethod yX4_all ∈ TW := tw_in (w := Cond.instanceMethod yX4_all) (List.mem_of_getElem? (i := 788) (by decide +kernel)) rfl
theorem mv_X4_all : Cond.selects RX4 yX4_all yX4_all ∈ TW := tw_in (w := Cond.selects RX4 yX4_all yX4_all) (List.mem_of_getElem? (i := 23) (by decide +kernel)) rfl
theorem vl_X4_175 : VL RX4 175 yX4_all cX4_all 1 (some .int) 0 := ⟨tw_in (w := Cond.methodLink RX4 175 yX4_all) (List.mem_of_getElem? (i := 786) (by decide +kernel)) rfl, mi_X4_all, mv_X4_all, ini_X4, mc_X4_all, by decide +kernel, by decide +kernel, by decide +kernel⟩
theorem mc_X4_isClean : Cond.code yX4_isClean cX4_isClean 4 (some .boolean) ∈ TW := tw_in (w := Cond.code yX4_isClean cX4_isClean 4 (some .boolean)) (List.mem_of_getElem? (i := 825) (by decide +kernel)) rfl
theorem mi_X4_isClean : Cond.instanceMethod yX4_isClean ∈ TW := tw_in (w := Cond.instanceMethod yX4_isClean) (List.mem_of_getElem? (i := 824) (by decide +kernel)) rfl
theorem mv_X4_isClean : Cond.selects RX4 yX4_isClean yX4_isClean ∈ TW := tw_in (w := Cond.selects RX4 yX4_isClean yX4_isClean) (List.mem_of_getElem? (i := 26) (by decide +kernel)) rfl
theorem vl_X4_178 : VL RX4 178 yX4_isClean cX4_isClean 4 (some .boolean) 2 := ⟨tw_in (w := Cond.methodLink RX4 178 yX4_isClean) (List.mem_of_getElem? (i := 822) (by decide +kernel)) rfl, mi_X4_isClean, mv_X4_isClean, ini_X4, mc_X4_isClean, by decide +kernel, by decide +kernel, by decide +kernel⟩
theorem ini_Math : Cond.initialized "java/lang/Math" ∈ TW := tw_in (w := Cond.initialized "java/lang/Math") (List.mem_of_getElem? (i := 34) (by decide +kernel)) rfl
theorem ini_System : Cond.initialized "java/lang/System" ∈ TW := tw_in (w := Cond.initialized "java/lang/System") (List.mem_of_getElem? (i := 33) (by decide +kernel)) rfl
theorem kc_X3_200 : Cond.constant RX3 200 (1664525) ∈ TW := tw_in (w := Cond.constant RX3 200 (1664525)) (List.mem_of_getElem? (i := 460) (by decide +kernel)) rfl
theorem kc_X3_201 : Cond.constant RX3 201 (1013904223) ∈ TW := tw_in (w := Cond.constant RX3 201 (1013904223)) (List.mem_of_getElem? (i := 461) (by decide +kernel)) rfl
theorem kc_X3_202 : Cond.constant RX3 202 (2147483647) ∈ TW := tw_in (w := Cond.constant RX3 202 (2147483647)) (List.mem_of_getElem? (i := 465) (by decide +kernel)) rfl
theorem kc_X4_184 : Cond.constant RX4 184 (1664525) ∈ TW := tw_in (w := Cond.constant RX4 184 (1664525)) (List.mem_of_getElem? (i := 838) (by decide +kernel)) rfl
theorem kc_X4_185 : Cond.constant RX4 185 (1013904223) ∈ TW := tw_in (w := Cond.constant RX4 185 (1013904223)) (List.mem_of_getElem? (i := 839) (by decide +kernel)) rfl
theorem kc_X4_186 : Cond.constant RX4 186 (2147483647) ∈ TW := tw_in (w := Cond.constant RX4 186 (2147483647)) (List.mem_of_getElem? (i := 840) (by decide +kernel)) rfl
theorem kc_J11_76 : Cond.constant RJ11 76 (56320) ∈ TW := tw_in (w := Cond.constant RJ11 76 (56320)) (List.mem_of_getElem? (i := 671) (by decide +kernel)) rfl
theorem kc_J11_110 : Cond.constant RJ11 110 (55232) ∈ TW := tw_in (w := Cond.constant RJ11 110 (55232)) (List.mem_of_getElem? (i := 667) (by decide +kernel)) rfl
theorem kc_J6_264 : Cond.constant RJ6 264 (65536) ∈ TW := tw_in (w := Cond.constant RJ6 264 (65536)) (List.mem_of_getElem? (i := 797) (by decide +kernel)) rfl
theorem kc_J6_265 : Cond.constant RJ6 265 (1431655765) ∈ TW := tw_in (w := Cond.constant RJ6 265 (1431655765)) (List.mem_of_getElem? (i := 355) (by decide +kernel)) rfl
theorem kc_J6_266 : Cond.constant RJ6 266 (858993459) ∈ TW := tw_in (w := Cond.constant RJ6 266 (858993459)) (List.mem_of_getElem? (i := 356) (by decide +kernel)) rfl
theorem kc_J6_267 : Cond.constant RJ6 267 (252645135) ∈ TW := tw_in (w := Cond.constant RJ6 267 (252645135)) (List.mem_of_getElem? (i := 357) (by decide +kernel)) rfl
theorem kc_J2_227 : Cond.constant RJ2 227 (65536) ∈ TW := tw_in (w := Cond.constant RJ2 227 (65536)) (List.mem_of_getElem? (i := 628) (by decide +kernel)) rfl
end
section
/-! What a state is, and what each method answers, in plain words -/
abbrev KV : Type := Nat × (Nat → Int32) × (Nat → Int32) × Int32 × Nat × (Nat → Int32) × (Nat → Int32) × (Nat → Int32) × Nat × Nat × (Nat → Int32)
abbrev kNl (k : KV) : Nat := k.1
abbrev kOn (k : KV) : Nat → Int32 := k.2.1
abbrev kTw (k : KV) : Nat → Int32 := k.2.2.1
abbrev kHd (k : KV) : Int32 := k.2.2.2.1
abbrev kNt (k : KV) : Nat := k.2.2.2.2.1
abbrev kKi (k : KV) : Nat → Int32 := k.2.2.2.2.2.1
abbrev kRo (k : KV) : Nat → Int32 := k.2.2.2.2.2.2.1
abbrev kOt (k : KV) : Nat → Int32 := k.2.2.2.2.2.2.2.1
abbrev kHr (k : KV) : Nat := k.2.2.2.2.2.2.2.2.1
abbrev kNs (k : KV) : Nat := k.2.2.2.2.2.2.2.2.2.1
abbrev kSe (k : KV) : Nat → Int32 := k.2.2.2.2.2.2.2.2.2.2
abbrev sNl (k : KV) (v : Nat) : KV := (v, k.2)
abbrev sOn (k : KV) (v : Nat → Int32) : KV := (k.1, v, k.2.2)
abbrev sTw (k : KV) (v : Nat → Int32) : KV := (k.1, k.2.1, v, k.2.2.2)
abbrev sHd (k : KV) (v : Int32) : KV := (k.1, k.2.1, k.2.2.1, v, k.2.2.2.2)
abbrev sNt (k : KV) (v : Nat) : KV := (k.1, k.2.1, k.2.2.1, k.2.2.2.1, v, k.2.2.2.2.2)
abbrev sKi (k : KV) (v : Nat → Int32) : KV := (k.1, k.2.1, k.2.2.1, k.2.2.2.1, k.2.2.2.2.1, v, k.2.2.2.2.2.2)
abbrev sRo (k : KV) (v : Nat → Int32) : KV := (k.1, k.2.1, k.2.2.1, k.2.2.2.1, k.2.2.2.2.1, k.2.2.2.2.2.1, v, k.2.2.2.2.2.2.2)
abbrev sOt (k : KV) (v : Nat → Int32) : KV := (k.1, k.2.1, k.2.2.1, k.2.2.2.1, k.2.2.2.2.1, k.2.2.2.2.2.1, k.2.2.2.2.2.2.1, v, k.2.2.2.2.2.2.2.2)
abbrev sHr (k : KV) (v : Nat) : KV := (k.1, k.2.1, k.2.2.1, k.2.2.2.1, k.2.2.2.2.1, k.2.2.2.2.2.1, k.2.2.2.2.2.2.1, k.2.2.2.2.2.2.2.1, v, k.2.2.2.2.2.2.2.2.2)
abbrev sNs (k : KV) (v : Nat) : KV := (k.1, k.2.1, k.2.2.1, k.2.2.2.1, k.2.2.2.2.1, k.2.2.2.2.2.1, k.2.2.2.2.2.2.1, k.2.2.2.2.2.2.2.1, k.2.2.2.2.2.2.2.2.1, v, k.2.2.2.2.2.2.2.2.2.2)
abbrev sSe (k : KV) (v : Nat → Int32) : KV := (k.1, k.2.1, k.2.2.1, k.2.2.2.1, k.2.2.2.2.1, k.2.2.2.2.2.1, k.2.2.2.2.2.2.1, k.2.2.2.2.2.2.2.1, k.2.2.2.2.2.2.2.2.1, k.2.2.2.2.2.2.2.2.2.1, v)
def shl (x y : Int32) : Int32 := x <<< (y &&& 31)
def shr (x y : Int32) : Int32 := x >>> (y &&& 31)
def ushr (x y : Int32) : Int32 := (x.toUInt32 >>> (y.toUInt32 &&& Int32.toUInt32 31)).toInt32
/-- a bit -/
def btI (x y : Int32) : Bool := decide (shr x y &&& 1 = 1)
/-- rooms to which the first n lines lead from a room; through curtains or not -/
def bsN (on tw : Nat → Int32) (hd : Int32) (thr : Bool) (r : Int32) : Nat → Int32
  | 0 => 0
  | n + 1 =>
    if !thr && btI hd (nI n) then bsN on tw hd thr r n
    else if tw n = r then (if on n = r then bsN on tw hd thr r n ||| shl 1 (tw n) else bsN on tw hd thr r n) ||| shl 1 (on n)
    else if on n = r then bsN on tw hd thr r n ||| shl 1 (tw n) else bsN on tw hd thr r n
def bsF (k : KV) (thr : Bool) (r : Int32) : Int32 := bsN (kOn k) (kTw k) (kHd k) thr r (kNl k)
def joK (k : KV) : Nat → Int32 := fun r => bsN (kOn k) (kTw k) 0 true (nI r) (kNl k)
def opK (k : KV) : Nat → Int32 := fun r => bsN (kOn k) (kTw k) (kHd k) false (nI r) (kNl k)
/-- the cells of a house, of a text, of givings, of the class's own object, of the reference -/
def wHR (cy : ClassId) (ad : Nat → Nat) (k : KV) (jo op : Nat → Int32) : va_W :=
  [(ad 0, .inr (1, [.int (nI (kNl k)), .ref (ad 1), .ref (ad 2), .int (kHd k), .ref (ad 3), .ref (ad 4), .int (nI (kNt k)), .ref (ad 5), .ref (ad 6), .ref (ad 7), .int (nI (kHr k)), .int (nI (kNs k)), .ref (ad 8)])),
   (ad 1, .inl (cy, 10, .inl (kOn k))), (ad 2, .inl (cy, 10, .inl (kTw k))), (ad 3, .inl (cy, 6, .inl jo)), (ad 4, .inl (cy, 6, .inl op)), (ad 5, .inl (cy, 8, .inl (kKi k))), (ad 6, .inl (cy, 8, .inl (kRo k))), (ad 7, .inl (cy, 8, .inl (kOt k))), (ad 8, .inl (cy, 8, .inl (kSe k)))]
abbrev wH (cy : ClassId) (ad : Nat → Nat) (k : KV) : va_W := wHR cy ad k (joK k) (opK k)
def wT (cy : ClassId) (ad : Nat → Nat) (lt : Nat → Int32) (n : Nat) : va_W := [(ad 0, .inr (2, [.ref (ad 1), .int (nI n)])), (ad 1, .inl (cy, 80, .inl lt))]
def wG (cy : ClassId) (ad : Nat → Nat) (tc : Nat) (al wi : Nat → Int32) : va_W := [(ad 0, .inr (0, [.int (nI tc), .ref (ad 1), .ref (ad 2)])), (ad 1, .inl (cy, 8, .inl al)), (ad 2, .inl (cy, 256, .inl wi))]
def wX (cy : ClassId) (ad an am ak aT ag : Nat → Nat) (ik : Bool) (mc : Nat) (od mv rf : Nat → Int32) : va_W :=
  [(ad 0, .inr (3, [.ref (an 0), .ref (am 0), .ref (ak 0), .int (bI ik), .ref (aT 0), .ref (ag 0), .ref (ad 1), .ref (ad 2), .int (nI mc), .ref (ad 3)])), (ad 1, .inl (cy, 128, .inl od)), (ad 2, .inl (cy, 12, .inl mv)), (ad 3, .inl (cy, 7, .inl rf))]
abbrev MV : Type := Nat × (Nat → Int32) × Nat × (Nat → Int32) × Nat × (Nat → Int32) × (Nat → Int32) × Bool × (Nat → Int32) × (Nat → Int32) × (Nat → Int32) × (Nat → Int32)
abbrev mN (v : MV) : Nat := v.1
abbrev mLt (v : MV) : Nat → Int32 := v.2.1
abbrev mAt (v : MV) : Nat := v.2.2.1
abbrev mVa (v : MV) : Nat → Int32 := v.2.2.2.1
abbrev mIr (v : MV) : Nat := v.2.2.2.2.1
abbrev mRw (v : MV) : Nat → Int32 := v.2.2.2.2.2.1
abbrev mRf (v : MV) : Nat → Int32 := v.2.2.2.2.2.2.1
abbrev mIm (v : MV) : Bool := v.2.2.2.2.2.2.2.1
abbrev mIg (v : MV) : Nat → Int32 := v.2.2.2.2.2.2.2.2.1
abbrev mAh (v : MV) : Nat → Int32 := v.2.2.2.2.2.2.2.2.2.1
abbrev mSn (v : MV) : Nat → Int32 := v.2.2.2.2.2.2.2.2.2.2.1
abbrev mOd (v : MV) : Nat → Int32 := v.2.2.2.2.2.2.2.2.2.2.2
abbrev uN (v : MV) (x : Nat) : MV := (x, v.2)
abbrev uLt (v : MV) (x : Nat → Int32) : MV := (v.1, x, v.2.2)
abbrev uAt (v : MV) (x : Nat) : MV := (v.1, v.2.1, x, v.2.2.2)
abbrev uVa (v : MV) (x : Nat → Int32) : MV := (v.1, v.2.1, v.2.2.1, x, v.2.2.2.2)
abbrev uIr (v : MV) (x : Nat) : MV := (v.1, v.2.1, v.2.2.1, v.2.2.2.1, x, v.2.2.2.2.2)
abbrev uRw (v : MV) (x : Nat → Int32) : MV := (v.1, v.2.1, v.2.2.1, v.2.2.2.1, v.2.2.2.2.1, x, v.2.2.2.2.2.2)
abbrev uRf (v : MV) (x : Nat → Int32) : MV := (v.1, v.2.1, v.2.2.1, v.2.2.2.1, v.2.2.2.2.1, v.2.2.2.2.2.1, x, v.2.2.2.2.2.2.2)
abbrev uIm (v : MV) (x : Bool) : MV := (v.1, v.2.1, v.2.2.1, v.2.2.2.1, v.2.2.2.2.1, v.2.2.2.2.2.1, v.2.2.2.2.2.2.1, x, v.2.2.2.2.2.2.2.2)
abbrev uIg (v : MV) (x : Nat → Int32) : MV := (v.1, v.2.1, v.2.2.1, v.2.2.2.1, v.2.2.2.2.1, v.2.2.2.2.2.1, v.2.2.2.2.2.2.1, v.2.2.2.2.2.2.2.1, x, v.2.2.2.2.2.2.2.2.2)
abbrev uAh (v : MV) (x : Nat → Int32) : MV := (v.1, v.2.1, v.2.2.1, v.2.2.2.1, v.2.2.2.2.1, v.2.2.2.2.2.1, v.2.2.2.2.2.2.1, v.2.2.2.2.2.2.2.1, v.2.2.2.2.2.2.2.2.1, x, v.2.2.2.2.2.2.2.2.2.2)
abbrev uSn (v : MV) (x : Nat → Int32) : MV := (v.1, v.2.1, v.2.2.1, v.2.2.2.1, v.2.2.2.2.1, v.2.2.2.2.2.1, v.2.2.2.2.2.2.1, v.2.2.2.2.2.2.2.1, v.2.2.2.2.2.2.2.2.1, v.2.2.2.2.2.2.2.2.2.1, x, v.2.2.2.2.2.2.2.2.2.2.2)
abbrev uOd (v : MV) (x : Nat → Int32) : MV := (v.1, v.2.1, v.2.2.1, v.2.2.2.1, v.2.2.2.2.1, v.2.2.2.2.2.1, v.2.2.2.2.2.2.1, v.2.2.2.2.2.2.2.1, v.2.2.2.2.2.2.2.2.1, v.2.2.2.2.2.2.2.2.2.1, v.2.2.2.2.2.2.2.2.2.2.1, x)
def wM (cy : ClassId) (ad : Nat → Nat) (k : KV) (v : MV) : va_W :=
  [(ad 0, .inr (4, [.int (nI (kNl k)), .ref (ad 1), .ref (ad 2), .int (kHd k), .int (nI (kNt k)), .ref (ad 3), .ref (ad 4), .ref (ad 5), .int (nI (kHr k)), .int (nI (kNs k)), .ref (ad 6), .int (nI (mN v)), .ref (ad 7), .int (nI (mAt v)), .ref (ad 8), .int (nI (mIr v)), .ref (ad 9), .ref (ad 10), .int (bI (mIm v)), .ref (ad 11), .ref (ad 12), .ref (ad 13), .ref (ad 14)])),
   (ad 1, .inl (cy, 10, .inl (kOn k))), (ad 2, .inl (cy, 10, .inl (kTw k))), (ad 3, .inl (cy, 8, .inl (kKi k))), (ad 4, .inl (cy, 8, .inl (kRo k))), (ad 5, .inl (cy, 8, .inl (kOt k))), (ad 6, .inl (cy, 8, .inl (kSe k))), (ad 7, .inl (cy, 80, .inl (mLt v))), (ad 8, .inl (cy, 2, .inl (mVa v))), (ad 9, .inl (cy, 12, .inl (mRw v))), (ad 10, .inl (cy, 7, .inl (mRf v))), (ad 11, .inl (cy, 57, .inl (mIg v))), (ad 12, .inl (cy, 57, .inl (mAh v))), (ad 13, .inl (cy, 8, .inl (mSn v))), (ad 14, .inl (cy, 256, .inl (mOd v)))]
/-- what holds of a state between calls -/
def HLn (k : KV) : Prop := kNl k ≤ 10 ∧ ∀ i, i < kNl k → vp_in (kOn k i) 6 ∧ vp_in (kTw k i) 6
def HLo (k : KV) : Prop := ∀ i, i < kNl k → kOn k i < kTw k i
def HRo (k : KV) : Prop := ∀ t, t < kNt k → vp_in (kRo k t) 6
def HOt (k : KV) : Prop := ∀ t, t < kNt k → kOt k t = -9 ∨ ∃ u, u < kNt k ∧ u ≠ t ∧ kOt k t = nI u ∧ kOt k u = nI t
def HHd (k : KV) : Prop := ∀ i, kNl k ≤ i → i < 10 → btI (kHd k) (nI i) = false
def KW (k : KV) : Prop := HLn k ∧ HLo k ∧ HHd k ∧ HRo k ∧ HOt k ∧ kNt k ≤ 8 ∧ kHr k < 8 ∧ kNs k ≤ 8
theorem nar_b (b : Bool) : narrow .boolean (.int (bI b)) = .int (bI b) := by cases b <;> rfl
theorem fit_b (b : Bool) : fits .boolean (.int (bI b)) = true := by cases b <;> rfl
theorem bI_t {b : Bool} (h : b = true) : (1 : Int32) = bI b := by rw [h]; rfl
theorem bI_f {b : Bool} (h : b = false) : (0 : Int32) = bI b := by rw [h]; rfl
theorem vin {x : Int32} {n : Nat} (h : vp_in x n) (hn : n ≤ 1000) : nI (ix x) = x ∧ ix x < n := by
  obtain ⟨j, hj, rfl⟩ := vp_in_of h (by omega)
  have : ix (nI j) = j := nI_clamp (by omega)
  rw [this]
  exact ⟨rfl, hj⟩
theorem ixn {n : Nat} (h : n ≤ 1000) : ix (nI n) = n := nI_clamp (by omega)
theorem upd_s (f : Nat → Int32) (k : Nat) (x : Int32) : upd f k x k = x := if_pos rfl
theorem upd_n {f : Nat → Int32} {k j : Nat} {x : Int32} (h : j ≠ k) : upd f k x j = f j := if_neg h
/-- the first i from i0 on, of n, with P: what it tells; else -9 -/
def fnd (P : Nat → Bool) (g : Nat → Int32) : Nat → Nat → Int32
  | 0, _ => -9
  | n + 1, i => if P i then g i else fnd P g n (i + 1)
def cnt (P : Nat → Bool) : Nat → Nat
  | 0 => 0
  | n + 1 => if P n then cnt P n + 1 else cnt P n
theorem cnt_le (P : Nat → Bool) : ∀ n, cnt P n ≤ n
  | 0 => Nat.le_refl _
  | n + 1 => by
    have := cnt_le P n
    unfold cnt
    split <;> omega
def hasT (k : KV) (x : Int32) : Bool := decide (0 ≤ x ∧ x < nI (kNt k))
def hasL (k : KV) (x : Int32) : Bool := decide (0 ≤ x ∧ x < nI (kNl k))
def isRm (x : Int32) : Bool := decide (0 ≤ x ∧ x < 6)
def allT (k : KV) : Int32 := shl 1 (nI (kNt k)) - 1
theorem in_lt {x : Int32} {n : Nat} (hn : n ≤ 1000) (h0 : 0 ≤ x) (h : x < nI n) : ∃ j, j < n ∧ x = nI j := by
  obtain ⟨j, hj, rfl⟩ := nI_of (Int32.not_lt.mpr h0)
  exact ⟨j, (nI_ltI hj (by omega)).mp h, rfl⟩
theorem hasT_t {k : KV} {x : Int32} (h8 : kNt k ≤ 8) (h : hasT k x = true) : ∃ t, t < kNt k ∧ x = nI t := by
  have h := of_decide_eq_true h
  exact in_lt (by omega) h.1 h.2
theorem hasL_t {k : KV} {x : Int32} (h8 : kNl k ≤ 10) (h : hasL k x = true) : ∃ t, t < kNl k ∧ x = nI t := by
  have h := of_decide_eq_true h
  exact in_lt (by omega) h.1 h.2
theorem isRm_t {x : Int32} (h : isRm x = true) : ∃ t, t < 6 ∧ x = nI t := by
  have h := of_decide_eq_true h
  exact in_lt (n := 6) (by omega) h.1 h.2
theorem hasT_n {k : KV} {t : Nat} (h8 : kNt k ≤ 8) (h : t < kNt k) : hasT k (nI t) = true := decide_eq_true ⟨nI_pos' (by omega), nI_lt h (by omega)⟩
/-- from where a thing is seen (as the class has it) -/
def sfK (k : KV) (t h : Nat) : Int32 :=
  if kKi k t = 1 then bsF k false (kRo k t)
  else if kKi k t = 2 then (if h = 4 then shl 1 (kRo k t) ||| bsF k false (kRo k t) else bsF k false (kRo k t))
  else if kKi k t = 3 then shl 1 (kRo k t) ||| bsF k true (kRo k t)
  else if kKi k t = 4 then (if h < 6 then 0 else shl 1 (kRo k t) ||| bsF k false (kRo k t))
  else if kKi k t = 5 then shl 1 (kRo k t) ||| bsF k true (kRo k t)
  else shl 1 (kRo k t) ||| bsF k false (kRo k t)
def mtK (k : KV) (a b h : Nat) : Bool := decide (sfK k a h &&& sfK k b h ≠ 0)
def emK (k : KV) (a b : Nat) : Nat → Nat → Bool
  | 0, _ => false
  | n + 1, h => if mtK k a b h then true else emK k a b n (h + 1)
def slK (k : KV) (t h : Nat) : Bool := decide (nI t < kOt k t) && (hasT k (kOt k t) && mtK k t (ix (kOt k t)) h)
def fsK (k : KV) (h : Nat) : Int32 := fnd (fun t => slK k t h) (fun t => 10 * nI t + kOt k t) (kNt k) 0
def scK (k : KV) (h : Nat) : Nat := cnt (fun t => slK k t h) (kNt k)
def fdK (k : KV) : Int32 := fnd (fun h => decide (fsK k h ≠ -9)) nI 8 0
def ccK (k : KV) : Nat := cnt (fun t => decide (kOt k t ≠ -9)) (kNt k)
def mnI (x y : Int32) : Int32 := if y < x then y else x
def mxI (x y : Int32) : Int32 := if x < y then y else x
/-- a line more -/
def alB (k : KV) (x y : Int32) : Bool := isRm x && (isRm y && (decide (x ≠ y) && (decide (kNl k < 10) && decide (shr (joK k (ix x)) y &&& 1 = 0))))
def alF (k : KV) (x y : Int32) : KV := sNl (sTw (sOn k (upd (kOn k) (kNl k) (mnI x y))) (upd (kTw k) (kNl k) (mxI x y))) (kNl k + 1)
def alK (k : KV) (x y : Int32) : KV := if alB k x y then alF k x y else k
/-- a thing more -/
def atB (k : KV) (y : Int32) : Bool := isRm y && decide (kNt k < 8)
def atF (k : KV) (x y : Int32) : KV := sNt (sOt (sRo (sKi k (upd (kKi k) (kNt k) x)) (upd (kRo k) (kNt k) y)) (upd (kOt k) (kNt k) (-9))) (kNt k + 1)
def atK (k : KV) (x y : Int32) : KV := if atB k y then atF k x y else k
def tgK (k : KV) (x : Int32) : KV := if hasL k x then sHd k (kHd k ^^^ shl 1 x) else k
/-- others -/
def lvK (k : KV) (t : Nat) : KV := if hasT k (kOt k t) then sOt k (upd (kOt k) (ix (kOt k t)) (-9)) else k
def lvN (k : KV) (t : Nat) : Nat := if hasT k (kOt k t) then 1 else 0
def cpF (k : KV) (a b : Nat) : KV := sOt (lvK (lvK k a) b) (upd (upd (kOt (lvK (lvK k a) b)) a (nI b)) b (nI a))
def cpK (k : KV) (a b : Nat) : KV := if kOt k a = nI b then k else cpF k a b
def cpN (k : KV) (a b : Nat) : Nat := if kOt k a = nI b then 0 else lvN k a + lvN (lvK k a) b
theorem lvK_nt (k : KV) (t : Nat) : kNt (lvK k t) = kNt k := by unfold lvK; split <;> rfl
def acB (k : KV) (x y : Int32) : Bool := hasT k x && (hasT k y && decide (x ≠ y))
def acK (k : KV) (x y : Int32) : KV := if acB k x y then cpK k (ix x) (ix y) else k
def brB (k : KV) (x y : Int32) : Bool := hasT k x && isRm y
def brK (k : KV) (x y : Int32) : KV := if brB k x y then sRo k (upd (kRo k) (ix x) y) else k
def stB (x : Int32) : Bool := decide (0 ≤ x ∧ x < 8)
def stK (k : KV) (x : Int32) : KV := if stB x then sHr k (ix x) else k
def dgI (c : Int32) : Int32 := if c < 48 then -9 else if 57 < c then -9 else c - 48
def kdI (c : Int32) : Int32 := if c = 98 then 3 else if c = 109 then 5 else if c = 110 then 4 else if c = 115 then 2 else if c = 116 then 0 else if c = 119 then 1 else -9
/-- a statement obeyed -/
def obB (k : KV) (o a b : Int32) : Bool :=
  if o = 99 then hasL k (dgI a) else if o = 108 then alB k (dgI a) (dgI b) else if o = 109 then brB k (dgI a) (dgI b) else if o = 111 then acB k (dgI a) (dgI b) else if o = 116 then atB k (dgI b) else stB (dgI a)
def obK (k : KV) (o a b : Int32) : KV :=
  if o = 99 then tgK k (dgI a) else if o = 108 then alK k (dgI a) (dgI b) else if o = 109 then brK k (dgI a) (dgI b) else if o = 111 then acK k (dgI a) (dgI b) else if o = 116 then atK k (kdI a) (dgI b) else stK k (dgI a)
theorem btI_f {x y : Int32} : btI x y = false ↔ shr x y &&& 1 = 0 := by
  have h : ∀ z : Int32, z &&& 1 = 0 ∨ z &&& 1 = 1 := by
    intro z
    obtain ⟨j, hj, e⟩ := pk_andE z (m := 1) 1 rfl
    rw [e]
    rcases (show j = 0 ∨ j = 1 by omega) with rfl | rfl
    · exact Or.inl rfl
    · exact Or.inr rfl
  unfold btI
  rw [decide_eq_false_iff_not]
  rcases h (shr x y) with e | e
  · rw [e]; decide
  · rw [e]; decide
theorem btI_t {x y : Int32} : btI x y = true ↔ shr x y &&& 1 ≠ 0 := by
  have := @btI_f x y
  constructor
  · intro h e; rw [this.mpr e] at h; cases h
  · intro h
    cases hb : btI x y with
    | true => rfl
    | false => exact absurd (this.mp hb) h
theorem mmin_n (i j : Nat) (hi : i ≤ 1000) (hj : j ≤ 1000) : (if nI j < nI i then nI j else nI i) = nI (min i j) := by
  by_cases h : j < i
  · rw [if_pos (nI_lt h (by omega)), Nat.min_eq_right (by omega)]
  · rw [if_neg (nI_nlt (by omega) (by omega)), Nat.min_eq_left (by omega)]
theorem mmax_n (i j : Nat) (hi : i ≤ 1000) (hj : j ≤ 1000) : (if nI i < nI j then nI j else nI i) = nI (max i j) := by
  by_cases h : i < j
  · rw [if_pos (nI_lt h (by omega)), Nat.max_eq_right (by omega)]
  · rw [if_neg (nI_nlt (by omega) (by omega)), Nat.max_eq_left (by omega)]
/-- a line hung or not, as the class goes over its arrays -/
theorem bs_put {on tw : Nat → Int32} {hd : Int32} {thr : Bool} {n : Nat} {o : Nat → Int32} (h1 : vp_in (on n) 6) (h2 : vp_in (tw n) 6) (hc : (!thr && btI hd (nI n)) = false) (ho : ∀ r, r < 6 → o r = bsN on tw hd thr (nI r) n) (hne : on n ≠ tw n) :
    ∀ r, r < 6 → upd (upd o (ix (on n)) (o (ix (on n)) ||| shl 1 (tw n))) (ix (tw n)) (upd o (ix (on n)) (o (ix (on n)) ||| shl 1 (tw n)) (ix (tw n)) ||| shl 1 (on n)) r = bsN on tw hd thr (nI r) (n + 1) := by
  intro r hr
  obtain ⟨e1, l1⟩ := vin h1 (by omega)
  obtain ⟨e2, l2⟩ := vin h2 (by omega)
  have q1 : on n = nI r ↔ ix (on n) = r := by rw [← e1, nI_eq (by omega) (by omega), ixn (by omega)]
  have q2 : tw n = nI r ↔ ix (tw n) = r := by rw [← e2, nI_eq (by omega) (by omega), ixn (by omega)]
  have q3 : ix (on n) ≠ ix (tw n) := fun h => hne (by rw [← e1, ← e2, h])
  rw [bsN, hc]
  simp only [Bool.false_eq_true, if_false, q1, q2]
  by_cases a2 : ix (tw n) = r
  · have a1 : ¬ ix (on n) = r := fun h => q3 (h.trans a2.symm)
    rw [if_pos a2, if_neg a1, ← a2, upd_s, upd_n (Ne.symm q3), ho _ l2]
  · by_cases a1 : ix (on n) = r
    · rw [if_neg a2, if_pos a1, upd_n (Ne.symm a2), ← a1, upd_s, ho _ l1]
    · rw [if_neg a2, if_neg a1, upd_n (Ne.symm a2), upd_n (Ne.symm a1), ho _ hr]
theorem bs_skip {on tw : Nat → Int32} {hd : Int32} {thr : Bool} {n : Nat} {r : Int32} (hc : (!thr && btI hd (nI n)) = true) : bsN on tw hd thr r (n + 1) = bsN on tw hd thr r n := by
  rw [bsN, hc, if_pos rfl]
theorem bs_cong {on tw on' tw' : Nat → Int32} {hd : Int32} {thr : Bool} {r : Int32} : ∀ {n : Nat}, (∀ i, i < n → on' i = on i ∧ tw' i = tw i) → bsN on' tw' hd thr r n = bsN on tw hd thr r n
  | 0, _ => rfl
  | n + 1, h => by
    rw [bsN, bsN, bs_cong (n := n) (fun i hi => h i (by omega)), (h n (by omega)).1, (h n (by omega)).2]
theorem bs_thr {on tw : Nat → Int32} {hd hd' : Int32} {r : Int32} : ∀ {n : Nat}, bsN on tw hd true r n = bsN on tw hd' true r n
  | 0 => rfl
  | n + 1 => by
    rw [bsN, bsN, bs_thr (hd := hd) (hd' := hd') (n := n)]
    simp only [Bool.not_true, Bool.false_and]
/-- after a line more -/
theorem al_arr (thr : Bool) (hd : Int32) {k : KV} {i j : Nat} (hi : i < 6) (hj : j < 6) (hij : i ≠ j) (hb : (!thr && btI hd (nI (kNl k))) = false) : ∀ r, r < 6 →
    upd (upd (fun r => bsN (kOn k) (kTw k) hd thr (nI r) (kNl k)) i (bsN (kOn k) (kTw k) hd thr (nI i) (kNl k) ||| shl 1 (nI j))) j (upd (fun r => bsN (kOn k) (kTw k) hd thr (nI r) (kNl k)) i (bsN (kOn k) (kTw k) hd thr (nI i) (kNl k) ||| shl 1 (nI j)) j ||| shl 1 (nI i)) r
      = bsN (kOn (alF k (nI i) (nI j))) (kTw (alF k (nI i) (nI j))) hd thr (nI r) (kNl (alF k (nI i) (nI j))) := by
  intro r hr
  have e0 : ∀ x, bsN (kOn (alF k (nI i) (nI j))) (kTw (alF k (nI i) (nI j))) hd thr x (kNl k) = bsN (kOn k) (kTw k) hd thr x (kNl k) := fun x => bs_cong (fun q hq => ⟨upd_n (by omega), upd_n (by omega)⟩)
  have e1 : kOn (alF k (nI i) (nI j)) (kNl k) = nI (min i j) := (upd_s _ _ _).trans (mmin_n i j (by omega) (by omega))
  have e2 : kTw (alF k (nI i) (nI j)) (kNl k) = nI (max i j) := (upd_s _ _ _).trans (mmax_n i j (by omega) (by omega))
  have e3 : kNl (alF k (nI i) (nI j)) = kNl k + 1 := rfl
  rw [e3, bsN, hb, e0, e1, e2]
  simp only [Bool.false_eq_true, if_false]
  have q1 : nI (max i j) = nI r ↔ max i j = r := nI_eq (by omega) (by omega)
  have q2 : nI (min i j) = nI r ↔ min i j = r := nI_eq (by omega) (by omega)
  simp only [q1, q2]
  by_cases hlt : i < j
  · rw [Nat.min_eq_left (by omega), Nat.max_eq_right (by omega)]
    by_cases a2 : j = r
    · subst a2
      rw [if_pos rfl, if_neg hij, upd_s, upd_n (Ne.symm hij)]
    · by_cases a1 : i = r
      · subst a1
        rw [if_neg a2, if_pos rfl, upd_n (Ne.symm a2), upd_s]
      · rw [if_neg a2, if_neg a1, upd_n (Ne.symm a2), upd_n (Ne.symm a1)]
  · rw [Nat.min_eq_right (by omega), Nat.max_eq_left (by omega)]
    by_cases a2 : j = r
    · subst a2
      rw [if_neg hij, if_pos rfl, upd_s, upd_n (Ne.symm hij)]
    · by_cases a1 : i = r
      · subst a1
        rw [if_pos rfl, if_neg a2, upd_n (Ne.symm a2), upd_s]
      · rw [if_neg a1, if_neg a2, upd_n (Ne.symm a2), upd_n (Ne.symm a1)]
theorem if_K {α : Type} {b : Bool} {x y : α} (h : b = false) : y = (if b then x else y) := by rw [h]; rfl
theorem if_T {α : Type} {b : Bool} {x y : α} (h : b = true) : x = (if b then x else y) := by rw [h]; rfl
theorem vp_of_hasT {k : KV} {x : Int32} (h8 : kNt k ≤ 8) (h : hasT k x = true) : vp_in x 8 := by
  obtain ⟨t, ht, rfl⟩ := hasT_t h8 h
  exact vp_in_nI (by omega) (by omega)
/-! bits (out of kit/laws/BITS.to-paste) -/
def bt (x : Int32) (i : Nat) : Bool := x.toBitVec.getLsbD i
theorem b_ext {x y : Int32} (h : ∀ i, i < 32 → bt x i = bt y i) : x = y := Int32.toBitVec_inj.mp (BitVec.eq_of_getLsbD_eq (fun i hi => h i hi))
theorem b_or (x y : Int32) (i : Nat) : bt (x ||| y) i = (bt x i || bt y i) := by unfold bt; rw [Int32.toBitVec_or, BitVec.getLsbD_or]
theorem b_and (x y : Int32) (i : Nat) : bt (x &&& y) i = (bt x i && bt y i) := by unfold bt; rw [Int32.toBitVec_and, BitVec.getLsbD_and]
theorem b_xor (x y : Int32) (i : Nat) : bt (x ^^^ y) i = (bt x i ^^ bt y i) := by unfold bt; rw [Int32.toBitVec_xor, BitVec.getLsbD_xor]
theorem b_big {x : Int32} {i : Nat} (h : 32 ≤ i) : bt x i = false := BitVec.getLsbD_of_ge _ _ h
theorem b_255 (i : Nat) : bt 255 i = decide (i < 8) := by
  rcases Nat.lt_or_ge i 32 with h | h
  · exact (by decide +kernel : ∀ i, i < 32 → bt 255 i = decide (i < 8)) i h
  · rw [b_big h, decide_eq_false (by omega)]
theorem b_65535 (i : Nat) : bt 65535 i = decide (i < 16) := by
  rcases Nat.lt_or_ge i 32 with h | h
  · exact (by decide +kernel : ∀ i, i < 32 → bt 65535 i = decide (i < 16)) i h
  · rw [b_big h, decide_eq_false (by omega)]
theorem b_m1 : ∀ i, i < 32 → bt (-1) i = true := by decide +kernel
theorem b_0 (i : Nat) : bt 0 i = false := BitVec.getLsbD_zero
theorem s_l : ∀ n, n < 32 → ((nI n &&& 31).toBitVec.smod 32).toNat = n := by decide +kernel
theorem s_u : ∀ n, n < 32 → (((nI n).toUInt32 &&& Int32.toUInt32 31).toBitVec % 32).toNat = n := by decide +kernel
theorem b_shl (n : Nat) (hn : n < 32) (x : Int32) {i : Nat} (hi : i < 32) : bt (x <<< (nI n &&& 31)) i = (decide (n ≤ i) && bt x (i - n)) := by
  unfold bt
  rw [Int32.toBitVec_shiftLeft]
  show (x.toBitVec <<< ((nI n &&& 31).toBitVec.smod 32).toNat).getLsbD i = _
  rw [s_l n hn, BitVec.getLsbD_shiftLeft]
  rcases Nat.lt_or_ge i n with h | h
  · simp [h, Nat.not_le.mpr h]
  · simp [hi, h, Nat.not_lt.mpr h]
theorem b_ushr (n : Nat) (hn : n < 32) (x : Int32) (i : Nat) : bt ((x.toUInt32 >>> ((nI n).toUInt32 &&& Int32.toUInt32 31)).toInt32) i = bt x (n + i) := by
  show (x.toUInt32 >>> ((nI n).toUInt32 &&& Int32.toUInt32 31)).toBitVec.getLsbD i = x.toUInt32.toBitVec.getLsbD (n + i)
  rw [UInt32.toBitVec_shiftRight]
  show (x.toUInt32.toBitVec >>> (((nI n).toUInt32 &&& Int32.toUInt32 31).toBitVec % 32).toNat).getLsbD i = _
  rw [s_u n hn, BitVec.getLsbD_ushiftRight]
theorem b_sshr (n : Nat) (hn : n < 32) (x : Int32) {i : Nat} (hi : i < 32) : bt (x >>> (nI n &&& 31)) i = if n + i < 32 then bt x (n + i) else bt x 31 := by
  unfold bt
  rw [Int32.toBitVec_shiftRight]
  show (x.toBitVec.sshiftRight ((nI n &&& 31).toBitVec.smod 32).toNat).getLsbD i = _
  rw [s_l n hn, BitVec.getLsbD_sshiftRight, BitVec.msb_eq_getLsbD_last]
  simp [hi]
/-! the same for btI -/
theorem bt_1 : ∀ i, bt 1 i = decide (i = 0) := by
  intro i
  by_cases h : i < 32
  · revert i; decide +kernel
  · rw [b_big (by omega)]; symm; simp; omega
theorem btI_bt (x : Int32) {i : Nat} (hi : i < 32) : btI x (nI i) = bt x i := by
  have h0 : bt (shr x (nI i)) 0 = bt x i := by
    unfold shr
    rw [b_sshr i hi x (by omega), if_pos (by omega)]; rfl
  have h1 : bt (shr x (nI i) &&& 1) 0 = bt x i := by rw [b_and, bt_1, h0]; simp
  cases hb : bt x i with
  | true =>
    rw [btI_t]
    intro e
    rw [e, b_0, hb] at h1
    cases h1
  | false =>
    rw [btI_f]
    apply b_ext
    intro j hj
    rw [b_and, bt_1, b_0]
    by_cases hj0 : j = 0
    · subst hj0; rw [h0, hb]; rfl
    · simp [hj0]
theorem bt_sh1 {a i : Nat} (ha : a < 32) (hi : i < 32) : bt (shl 1 (nI a)) i = decide (i = a) := by
  unfold shl
  rw [b_shl a ha 1 hi, bt_1]
  by_cases h : i = a
  · subst h; simp
  · simp only [h, decide_false]
    by_cases h2 : a ≤ i
    · have : ¬ i - a = 0 := by omega
      simp [this]
    · simp [h2]
/-- a hung bit turned -/
theorem bt_xor (hd : Int32) {a i : Nat} (ha : a < 31) (hi : i < 31) (hne : i ≠ a) : btI (hd ^^^ shl 1 (nI a)) (nI i) = btI hd (nI i) := by
  rw [btI_bt _ (by omega), btI_bt _ (by omega), b_xor, bt_sh1 (by omega) (by omega), decide_eq_false hne, Bool.xor_false]
end
section
set_option maxRecDepth 100000 in
set_option maxHeartbeats 4000000 in
theorem c_X1_hasThing (l : Launch) (D : va_G) (cy : ClassId) (ad : Nat → Nat) (k : KV) (x : Int32) : CtI l yX1_hasThing cX1_hasThing 2 .boolean 0 64 D cy [.ref (ad 0), .int (x)] [wH cy ad k] [wH cy ad k] (bI (hasT k x)) := by
  refine ctI_of (by decide +kernel) (Nat.le_of_ble_eq_true rfl) (fun p e s m args below meth c A X => ?_)
  refine g_lv X (lv' := [(0, .ref (ad 0)), (1, .int (x))]) [0, 1] rfl ?_
  refine g_iload_n (pc := 0) X dX1_hasThing_0 1 rfl ?_
  refine g_if_lt (pc := 1) (tgt := 16) X dX1_hasThing_1 (by decide) (fun c1 => ?_) (fun c1 => ?_)
  · refine g_iconst (v := 0) (pc := 16) X dX1_hasThing_16 (by decide) ?_
    exact g_iret (pc := 17) X rfl dX1_hasThing_17 rfl (by first | exact bI_t (decide_eq_true ⟨c1, c9⟩) | exact bI_f (decide_eq_false (fun h => absurd h.2 (Int32.not_lt.mpr c9))) | exact bI_f (decide_eq_false (fun h => absurd h.1 (Int32.not_le.mpr c1)))) rfl
  · refine g_iload_n (pc := 4) X dX1_hasThing_4 1 rfl ?_
    refine g_aload_n (pc := 5) X dX1_hasThing_5 0 rfl ?_
    refine g_get (pc := 6) X (v := .int (nI (kNt k))) fl_X1_31 dX1_hasThing_6 0 0 rfl rfl rfl ?_
    refine g_icmp_ge (pc := 9) (tgt := 16) X dX1_hasThing_9 (by decide) (fun c9 => ?_) (fun c9 => ?_)
    · refine g_iconst (v := 0) (pc := 16) X dX1_hasThing_16 (by decide) ?_
      exact g_iret (pc := 17) X rfl dX1_hasThing_17 rfl (by first | exact bI_t (decide_eq_true ⟨c1, c9⟩) | exact bI_f (decide_eq_false (fun h => absurd h.2 (Int32.not_lt.mpr c9))) | exact bI_f (decide_eq_false (fun h => absurd h.1 (Int32.not_le.mpr c1)))) rfl
    · refine g_iconst (v := 1) (pc := 12) X dX1_hasThing_12 (by decide) ?_
      refine g_goto (pc := 13) (tgt := 17) X dX1_hasThing_13 (by decide) ?_
      exact g_iret (pc := 17) X rfl dX1_hasThing_17 rfl (by first | exact bI_t (decide_eq_true ⟨c1, c9⟩) | exact bI_f (decide_eq_false (fun h => absurd h.2 (Int32.not_lt.mpr c9))) | exact bI_f (decide_eq_false (fun h => absurd h.1 (Int32.not_le.mpr c1)))) rfl
set_option maxRecDepth 100000 in
set_option maxHeartbeats 4000000 in
theorem c_X1_hasLine (l : Launch) (D : va_G) (cy : ClassId) (ad : Nat → Nat) (k : KV) (x : Int32) : CtI l yX1_hasLine cX1_hasLine 2 .boolean 0 64 D cy [.ref (ad 0), .int (x)] [wH cy ad k] [wH cy ad k] (bI (hasL k x)) := by
  refine ctI_of (by decide +kernel) (Nat.le_of_ble_eq_true rfl) (fun p e s m args below meth c A X => ?_)
  refine g_lv X (lv' := [(0, .ref (ad 0)), (1, .int (x))]) [0, 1] rfl ?_
  refine g_iload_n (pc := 0) X dX1_hasLine_0 1 rfl ?_
  refine g_if_lt (pc := 1) (tgt := 16) X dX1_hasLine_1 (by decide) (fun c1 => ?_) (fun c1 => ?_)
  · refine g_iconst (v := 0) (pc := 16) X dX1_hasLine_16 (by decide) ?_
    exact g_iret (pc := 17) X rfl dX1_hasLine_17 rfl (by first | exact bI_t (decide_eq_true ⟨c1, c9⟩) | exact bI_f (decide_eq_false (fun h => absurd h.2 (Int32.not_lt.mpr c9))) | exact bI_f (decide_eq_false (fun h => absurd h.1 (Int32.not_le.mpr c1)))) rfl
  · refine g_iload_n (pc := 4) X dX1_hasLine_4 1 rfl ?_
    refine g_aload_n (pc := 5) X dX1_hasLine_5 0 rfl ?_
    refine g_get (pc := 6) X (v := .int (nI (kNl k))) fl_X1_9 dX1_hasLine_6 0 0 rfl rfl rfl ?_
    refine g_icmp_ge (pc := 9) (tgt := 16) X dX1_hasLine_9 (by decide) (fun c9 => ?_) (fun c9 => ?_)
    · refine g_iconst (v := 0) (pc := 16) X dX1_hasLine_16 (by decide) ?_
      exact g_iret (pc := 17) X rfl dX1_hasLine_17 rfl (by first | exact bI_t (decide_eq_true ⟨c1, c9⟩) | exact bI_f (decide_eq_false (fun h => absurd h.2 (Int32.not_lt.mpr c9))) | exact bI_f (decide_eq_false (fun h => absurd h.1 (Int32.not_le.mpr c1)))) rfl
    · refine g_iconst (v := 1) (pc := 12) X dX1_hasLine_12 (by decide) ?_
      refine g_goto (pc := 13) (tgt := 17) X dX1_hasLine_13 (by decide) ?_
      exact g_iret (pc := 17) X rfl dX1_hasLine_17 rfl (by first | exact bI_t (decide_eq_true ⟨c1, c9⟩) | exact bI_f (decide_eq_false (fun h => absurd h.2 (Int32.not_lt.mpr c9))) | exact bI_f (decide_eq_false (fun h => absurd h.1 (Int32.not_le.mpr c1)))) rfl
set_option maxRecDepth 100000 in
set_option maxHeartbeats 4000000 in
theorem c_X3_isRoom (l : Launch) (D : va_G) (cy : ClassId) (x : Int32) : CtI l yX3_isRoom cX3_isRoom 1 .boolean 0 64 D cy [.int (x)] [] [] (bI (isRm x)) := by
  refine ctI_of (by decide +kernel) (Nat.le_of_ble_eq_true rfl) (fun p e s m args below meth c A X => ?_)
  refine g_lv X (lv' := [(0, .int (x))]) [0] rfl ?_
  refine g_iload_n (pc := 0) X dX3_isRoom_0 0 rfl ?_
  refine g_if_lt (pc := 1) (tgt := 14) X dX3_isRoom_1 (by decide) (fun c1 => ?_) (fun c1 => ?_)
  · refine g_iconst (v := 0) (pc := 14) X dX3_isRoom_14 (by decide) ?_
    exact g_iret (pc := 15) X rfl dX3_isRoom_15 rfl (by first | exact bI_t (decide_eq_true ⟨c1, c7⟩) | exact bI_f (decide_eq_false (fun h => absurd h.2 (Int32.not_lt.mpr c7))) | exact bI_f (decide_eq_false (fun h => absurd h.1 (Int32.not_le.mpr c1)))) rfl
  · refine g_iload_n (pc := 4) X dX3_isRoom_4 0 rfl ?_
    refine g_bipush (v := 6) (pc := 5) X dX3_isRoom_5 (by decide) ?_
    refine g_icmp_ge (pc := 7) (tgt := 14) X dX3_isRoom_7 (by decide) (fun c7 => ?_) (fun c7 => ?_)
    · refine g_iconst (v := 0) (pc := 14) X dX3_isRoom_14 (by decide) ?_
      exact g_iret (pc := 15) X rfl dX3_isRoom_15 rfl (by first | exact bI_t (decide_eq_true ⟨c1, c7⟩) | exact bI_f (decide_eq_false (fun h => absurd h.2 (Int32.not_lt.mpr c7))) | exact bI_f (decide_eq_false (fun h => absurd h.1 (Int32.not_le.mpr c1)))) rfl
    · refine g_iconst (v := 1) (pc := 10) X dX3_isRoom_10 (by decide) ?_
      refine g_goto (pc := 11) (tgt := 15) X dX3_isRoom_11 (by decide) ?_
      exact g_iret (pc := 15) X rfl dX3_isRoom_15 rfl (by first | exact bI_t (decide_eq_true ⟨c1, c7⟩) | exact bI_f (decide_eq_false (fun h => absurd h.2 (Int32.not_lt.mpr c7))) | exact bI_f (decide_eq_false (fun h => absurd h.1 (Int32.not_le.mpr c1)))) rfl
set_option maxRecDepth 100000 in
set_option maxHeartbeats 4000000 in
theorem c_X2_digit (l : Launch) (D : va_G) (cy : ClassId) (x : Int32) : CtI l yX2_digit cX2_digit 1 .int 0 64 D cy [.int (x)] [] [] (dgI x) := by
  refine ctI_of (by decide +kernel) (Nat.le_of_ble_eq_true rfl) (fun p e s m args below meth c A X => ?_)
  refine g_lv X (lv' := [(0, .int (x))]) [0] rfl ?_
  refine g_iload_n (pc := 0) X dX2_digit_0 0 rfl ?_
  refine g_bipush (v := 48) (pc := 1) X dX2_digit_1 (by decide) ?_
  refine g_icmp_lt (pc := 3) (tgt := 19) X dX2_digit_3 (by decide) (fun c3 => ?_) (fun c3 => ?_)
  · refine g_bipush (v := (-9)) (pc := 19) X dX2_digit_19 (by decide) ?_
    exact g_iret (pc := 21) X rfl dX2_digit_21 rfl (by first | (rw [dgI, if_pos c3]; done) | (rw [dgI, if_neg (Int32.not_lt.mpr c3), if_pos c9]; done) | (rw [dgI, if_neg (Int32.not_lt.mpr c3), if_neg (Int32.not_lt.mpr c9)]; done)) rfl
  · refine g_iload_n (pc := 6) X dX2_digit_6 0 rfl ?_
    refine g_bipush (v := 57) (pc := 7) X dX2_digit_7 (by decide) ?_
    refine g_icmp_gt (pc := 9) (tgt := 19) X dX2_digit_9 (by decide) (fun c9 => ?_) (fun c9 => ?_)
    · refine g_bipush (v := (-9)) (pc := 19) X dX2_digit_19 (by decide) ?_
      exact g_iret (pc := 21) X rfl dX2_digit_21 rfl (by first | (rw [dgI, if_pos c3]; done) | (rw [dgI, if_neg (Int32.not_lt.mpr c3), if_pos c9]; done) | (rw [dgI, if_neg (Int32.not_lt.mpr c3), if_neg (Int32.not_lt.mpr c9)]; done)) rfl
    · refine g_iload_n (pc := 12) X dX2_digit_12 0 rfl ?_
      refine g_bipush (v := 48) (pc := 13) X dX2_digit_13 (by decide) ?_
      refine g_isub (v := x - 48) (pc := 15) X dX2_digit_15 rfl ?_
      refine g_goto (pc := 16) (tgt := 21) X dX2_digit_16 (by decide) ?_
      exact g_iret (pc := 21) X rfl dX2_digit_21 rfl (by first | (rw [dgI, if_pos c3]; done) | (rw [dgI, if_neg (Int32.not_lt.mpr c3), if_pos c9]; done) | (rw [dgI, if_neg (Int32.not_lt.mpr c3), if_neg (Int32.not_lt.mpr c9)]; done)) rfl
set_option maxRecDepth 100000 in
set_option maxHeartbeats 4000000 in
theorem c_X2_kind (l : Launch) (D : va_G) (cy : ClassId) (x : Int32) : CtI l yX2_kind cX2_kind 1 .int 0 64 D cy [.int (x)] [] [] (kdI x) := by
  refine ctI_of (by decide +kernel) (Nat.le_of_ble_eq_true rfl) (fun p e s m args below meth c A X => ?_)
  refine g_lv X (lv' := [(0, .int (x))]) [0] rfl ?_
  refine g_iload_n (pc := 0) X dX2_kind_0 0 rfl ?_
  by_cases e1_98 : x = (98 : Int32)
  · refine g_top X e1_98 ?_
    refine g_lookup (pc := 1) (tgt := 66) X dX2_kind_1 (by decide) (by decide) (by decide) ?_
    refine g_iconst (v := 3) (pc := 66) X dX2_kind_66 (by decide) ?_
    exact g_iret (pc := 67) X rfl dX2_kind_67 rfl (by subst_vars; simp only [kdI, *, if_true, if_false]; first | rfl | decide) rfl
  by_cases e1_109 : x = (109 : Int32)
  · refine g_top X e1_109 ?_
    refine g_lookup (pc := 1) (tgt := 70) X dX2_kind_1 (by decide) (by decide) (by decide) ?_
    refine g_iconst (v := 5) (pc := 70) X dX2_kind_70 (by decide) ?_
    exact g_iret (pc := 71) X rfl dX2_kind_71 rfl (by subst_vars; simp only [kdI, *, if_true, if_false]; first | rfl | decide) rfl
  by_cases e1_110 : x = (110 : Int32)
  · refine g_top X e1_110 ?_
    refine g_lookup (pc := 1) (tgt := 68) X dX2_kind_1 (by decide) (by decide) (by decide) ?_
    refine g_iconst (v := 4) (pc := 68) X dX2_kind_68 (by decide) ?_
    exact g_iret (pc := 69) X rfl dX2_kind_69 rfl (by subst_vars; simp only [kdI, *, if_true, if_false]; first | rfl | decide) rfl
  by_cases e1_115 : x = (115 : Int32)
  · refine g_top X e1_115 ?_
    refine g_lookup (pc := 1) (tgt := 64) X dX2_kind_1 (by decide) (by decide) (by decide) ?_
    refine g_iconst (v := 2) (pc := 64) X dX2_kind_64 (by decide) ?_
    exact g_iret (pc := 65) X rfl dX2_kind_65 rfl (by subst_vars; simp only [kdI, *, if_true, if_false]; first | rfl | decide) rfl
  by_cases e1_116 : x = (116 : Int32)
  · refine g_top X e1_116 ?_
    refine g_lookup (pc := 1) (tgt := 60) X dX2_kind_1 (by decide) (by decide) (by decide) ?_
    refine g_iconst (v := 0) (pc := 60) X dX2_kind_60 (by decide) ?_
    exact g_iret (pc := 61) X rfl dX2_kind_61 rfl (by subst_vars; simp only [kdI, *, if_true, if_false]; first | rfl | decide) rfl
  by_cases e1_119 : x = (119 : Int32)
  · refine g_top X e1_119 ?_
    refine g_lookup (pc := 1) (tgt := 62) X dX2_kind_1 (by decide) (by decide) (by decide) ?_
    refine g_iconst (v := 1) (pc := 62) X dX2_kind_62 (by decide) ?_
    exact g_iret (pc := 63) X rfl dX2_kind_63 rfl (by subst_vars; simp only [kdI, *, if_true, if_false]; first | rfl | decide) rfl
  refine g_lookup (pc := 1) (off := 71) (tgt := 72) X dX2_kind_1 (by decide) ((lv_osw e1_98 (by decide)).trans ((lv_osw e1_109 (by decide)).trans ((lv_osw e1_110 (by decide)).trans ((lv_osw e1_115 (by decide)).trans ((lv_osw e1_116 (by decide)).trans ((lv_osw e1_119 (by decide)).trans (rfl))))))) (by decide) ?_
  refine g_bipush (v := (-9)) (pc := 72) X dX2_kind_72 (by decide) ?_
  exact g_iret (pc := 74) X rfl dX2_kind_74 rfl (by subst_vars; simp only [kdI, *, if_true, if_false]; first | rfl | decide) rfl
set_option maxRecDepth 100000 in
set_option maxHeartbeats 4000000 in
theorem c_X1_allThings (l : Launch) (D : va_G) (cy : ClassId) (ad : Nat → Nat) (k : KV) : CtI l yX1_allThings cX1_allThings 1 .int 0 64 D cy [.ref (ad 0)] [wH cy ad k] [wH cy ad k] (allT k) := by
  refine ctI_of (by decide +kernel) (Nat.le_of_ble_eq_true rfl) (fun p e s m args below meth c A X => ?_)
  refine g_lv X (lv' := [(0, .ref (ad 0))]) [0] rfl ?_
  refine g_iconst (v := 1) (pc := 0) X dX1_allThings_0 (by decide) ?_
  refine g_aload_n (pc := 1) X dX1_allThings_1 0 rfl ?_
  refine g_get (pc := 2) X (v := .int (nI (kNt k))) fl_X1_31 dX1_allThings_2 0 0 rfl rfl rfl ?_
  refine g_ishl (v := shl 1 (nI (kNt k))) (pc := 5) X dX1_allThings_5 rfl ?_
  refine g_iconst (v := 1) (pc := 6) X dX1_allThings_6 (by decide) ?_
  refine g_isub (v := allT k) (pc := 7) X dX1_allThings_7 rfl ?_
  exact g_iret (pc := 8) X rfl dX1_allThings_8 rfl rfl rfl
set_option maxRecDepth 100000 in
set_option maxHeartbeats 4000000 in
theorem c_X1_coupledCount (l : Launch) (D : va_G) (cy : ClassId) (ad : Nat → Nat) (k : KV) (h8 : kNt k ≤ 8) : CtI l yX1_coupledCount cX1_coupledCount 3 .int 0 64 D cy [.ref (ad 0)] [wH cy ad k] [wH cy ad k] (nI (ccK k)) := by
  refine ctI_of (by decide +kernel) (Nat.le_of_ble_eq_true rfl) (fun p e s m args below meth c A X => ?_)
  refine g_lv X (lv' := [(0, .ref (ad 0))]) [0] rfl ?_
  refine g_iconst (v := 0) (pc := 0) X dX1_coupledCount_0 (by decide) ?_
  refine g_istore_n (lv' := [(1, .int (0)), (0, .ref (ad 0))]) (pc := 1) X dX1_coupledCount_1 rfl rfl rfl ?_
  refine g_iconst (v := 0) (pc := 2) X dX1_coupledCount_2 (by decide) ?_
  refine g_istore_n (lv' := [(2, .int (0)), (1, .int (0)), (0, .ref (ad 0))]) (pc := 3) X dX1_coupledCount_3 rfl rfl rfl ?_
  have L4_1 : ∀ (n : Nat) (j : Nat) (hj : j ≤ kNt k) (hm : kNt k - j < n), G p l e { frames := 0, cells := 0, slots := 0, locals := 64 } s m args below meth c 3 D A 0 0 (QI below args s D A [wH cy ad k] (nI (ccK k))) [wH cy ad k] 4 [(0, .ref (ad 0)), (1, .int (nI (cnt (fun t => decide (kOt k t ≠ -9)) j))), (2, .int (nI j))] [] := by
    intro n
    induction n with
    | zero => intro j hj hm; exact absurd hm (Nat.not_lt_zero _)
    | succ n ih => intro j hj hm
      have ih4 := ih
      clear ih
      refine g_iload_n (pc := 4) X dX1_coupledCount_4 2 rfl ?_
      refine g_aload_n (pc := 5) X dX1_coupledCount_5 0 rfl ?_
      refine g_get (pc := 6) X (v := .int (nI (kNt k))) fl_X1_31 dX1_coupledCount_6 0 0 rfl rfl rfl ?_
      refine g_ncmp_ge (pc := 9) (tgt := 32) X dX1_coupledCount_9 (by decide) j (kNt k) rfl rfl (by omega) (by omega) (fun c9 => ?_) (fun c9 => ?_)
      · have hj2 : j = kNt k := by omega
        rw [hj2]
        refine g_iload_n (pc := 32) X dX1_coupledCount_32 1 rfl ?_
        exact g_iret (pc := 33) X rfl dX1_coupledCount_33 rfl rfl rfl
      · refine g_aload_n (pc := 12) X dX1_coupledCount_12 0 rfl ?_
        refine g_get (pc := 13) X (v := .ref (ad 7)) fl_X1_40 dX1_coupledCount_13 0 0 rfl rfl rfl ?_
        refine g_iload_n (pc := 16) X dX1_coupledCount_16 2 rfl ?_
        refine g_iald_n (pc := 17) (f := kOt k) X 0 7 dX1_coupledCount_17 j rfl rfl rfl (by omega) rfl ?_
        refine g_bipush (v := (-9)) (pc := 18) X dX1_coupledCount_18 (by decide) ?_
        refine g_icmp_eq (pc := 20) (tgt := 26) X dX1_coupledCount_20 (by decide) (fun c20 => ?_) (fun c20 => ?_)
        · have hc : cnt (fun t => decide (kOt k t ≠ -9)) j = cnt (fun t => decide (kOt k t ≠ -9)) (j + 1) := by rw [cnt, if_neg (by simp [c20])]
          rw [hc]
          refine g_iinc (v := nI (j + 1)) (lv' := [(2, .int (nI (j + 1))), (1, .int (nI (cnt (fun t => decide (kOt k t ≠ -9)) (j + 1)))), (0, .ref (ad 0))]) (pc := 26) X dX1_coupledCount_26 2 rfl (nI_1 j) rfl rfl ?_
          refine g_goto (pc := 29) (tgt := 4) X dX1_coupledCount_29 (by decide) ?_
          refine g_lv X (lv' := [(0, .ref (ad 0)), (1, .int (nI (cnt (fun t => decide (kOt k t ≠ -9)) (j + 1)))), (2, .int (nI (j + 1)))]) [2, 1, 0] rfl ?_
          exact ih4 (j + 1) c9 (by omega)
        · refine g_iinc (v := nI (cnt (fun t => decide (kOt k t ≠ -9)) (j + 1))) (lv' := [(1, .int (nI (cnt (fun t => decide (kOt k t ≠ -9)) (j + 1)))), (0, .ref (ad 0)), (2, .int (nI j))]) (pc := 23) X dX1_coupledCount_23 1 rfl (by rw [cnt, if_pos (decide_eq_true c20), nI_1]) rfl rfl ?_
          refine g_iinc (v := nI (j + 1)) (lv' := [(2, .int (nI (j + 1))), (1, .int (nI (cnt (fun t => decide (kOt k t ≠ -9)) (j + 1)))), (0, .ref (ad 0))]) (pc := 26) X dX1_coupledCount_26 2 rfl (nI_1 j) rfl rfl ?_
          refine g_goto (pc := 29) (tgt := 4) X dX1_coupledCount_29 (by decide) ?_
          refine g_lv X (lv' := [(0, .ref (ad 0)), (1, .int (nI (cnt (fun t => decide (kOt k t ≠ -9)) (j + 1)))), (2, .int (nI (j + 1)))]) [2, 1, 0] rfl ?_
          exact ih4 (j + 1) c9 (by omega)
  refine g_lv X (lv' := [(0, .ref (ad 0)), (1, .int (0)), (2, .int (0))]) [2, 1, 0] rfl ?_
  exact L4_1 (kNt k - 0 + 1) 0 (Nat.zero_le _) (Nat.lt_succ_self _)
set_option maxRecDepth 100000 in
set_option maxHeartbeats 4000000 in
theorem c_X1_leave (l : Launch) (D : va_G) (cy : ClassId) (ad : Nat → Nat) (k : KV) (t : Nat) (ht : t < 8) (h8 : kNt k ≤ 8) : CtI l yX1_leave cX1_leave 3 .int 1 85 D cy [.ref (ad 0), .int (nI t)] [wH cy ad k] [wH cy ad (lvK k t)] (nI (lvN k t)) := by
  refine ctI_of (by decide +kernel) (Nat.le_of_ble_eq_true rfl) (fun p e s m args below meth c A X => ?_)
  refine g_lv X (lv' := [(0, .ref (ad 0)), (1, .int (nI t))]) [0, 1] rfl ?_
  refine g_aload_n (pc := 0) X dX1_leave_0 0 rfl ?_
  refine g_get (pc := 1) X (v := .ref (ad 7)) fl_X1_40 dX1_leave_1 0 0 rfl rfl rfl ?_
  refine g_iload_n (pc := 4) X dX1_leave_4 1 rfl ?_
  refine g_iald_n (pc := 5) (f := kOt k) X 0 7 dX1_leave_5 t rfl rfl rfl (by omega) rfl ?_
  refine g_istore_n (lv' := [(2, .int ((kOt k) t)), (0, .ref (ad 0)), (1, .int (nI t))]) (pc := 6) X dX1_leave_6 rfl rfl rfl ?_
  refine g_aload_n (pc := 7) X dX1_leave_7 1 rfl ?_
  refine g_iload_n (pc := 8) X dX1_leave_8 0 rfl ?_
  refine g_callV (pc := 9) (rest := []) (ss' := [wH cy ad k]) X (c_X1_hasThing l D cy ad k ((kOt k) t) ) vl_X1_62 dX1_leave_9 [0] 0 0 rfl rfl rfl rfl rfl rfl rfl rfl rfl rfl rfl rfl rfl ⟨Nat.zero_le _, Nat.zero_le _⟩ ?_
  refine g_bif_ne (pc := 12) (tgt := 17) X dX1_leave_12 (by decide) (fun c12 => ?_) (fun c12 => ?_)
  · refine g_aload_n (pc := 17) X dX1_leave_17 1 rfl ?_
    refine g_get (pc := 18) X (v := .ref (ad 7)) fl_X1_40 dX1_leave_18 0 0 rfl rfl rfl ?_
    refine g_iload_n (pc := 21) X dX1_leave_21 0 rfl ?_
    refine g_bipush (v := (-9)) (pc := 22) X dX1_leave_22 (by decide) ?_
    refine g_iast (pc := 24) X (ss' := [wH cy ad (sOt k (upd (kOt k) (ix ((kOt k) t)) ((-9))))]) 0 7 dX1_leave_24 rfl rfl (vp_of_hasT h8 c12) rfl ?_
    refine g_iconst (v := 1) (pc := 25) X dX1_leave_25 (by decide) ?_
    exact g_iret (pc := 26) X rfl dX1_leave_26 rfl (by rw [lvN, if_pos c12]; rfl) (by rw [lvK, if_pos c12]; rfl)
  · refine g_iconst (v := 0) (pc := 15) X dX1_leave_15 (by decide) ?_
    exact g_iret (pc := 16) X rfl dX1_leave_16 rfl (by rw [lvN, if_neg (by rw [c12]; decide)]; rfl) (by rw [lvK, if_neg (by rw [c12]; decide)])
set_option maxRecDepth 100000 in
set_option maxHeartbeats 4000000 in
theorem c_X1_couple (l : Launch) (D : va_G) (cy : ClassId) (ad : Nat → Nat) (k : KV) (a : Nat) (b : Nat) (ha : a < 8) (hb : b < 8) (h8 : kNt k ≤ 8) : CtI l yX1_couple cX1_couple 4 .int 2 107 D cy [.ref (ad 0), .int (nI a), .int (nI b)] [wH cy ad k] [wH cy ad (cpK k a b)] (nI (cpN k a b)) := by
  refine ctI_of (by decide +kernel) (Nat.le_of_ble_eq_true rfl) (fun p e s m args below meth c A X => ?_)
  refine g_lv X (lv' := [(0, .ref (ad 0)), (1, .int (nI a)), (2, .int (nI b))]) [0, 1, 2] rfl ?_
  refine g_aload_n (pc := 0) X dX1_couple_0 0 rfl ?_
  refine g_get (pc := 1) X (v := .ref (ad 7)) fl_X1_40 dX1_couple_1 0 0 rfl rfl rfl ?_
  refine g_iload_n (pc := 4) X dX1_couple_4 1 rfl ?_
  refine g_iald_n (pc := 5) (f := kOt k) X 0 7 dX1_couple_5 a rfl rfl rfl (by omega) rfl ?_
  refine g_iload_n (pc := 6) X dX1_couple_6 2 rfl ?_
  refine g_icmp_ne (pc := 7) (tgt := 12) X dX1_couple_7 (by decide) (fun c7 => ?_) (fun c7 => ?_)
  · refine g_aload_n (pc := 12) X dX1_couple_12 0 rfl ?_
    refine g_iload_n (pc := 13) X dX1_couple_13 1 rfl ?_
    refine g_callV (pc := 14) (rest := []) (ss' := [wH cy ad (lvK k a)]) X (c_X1_leave l D cy ad k a (by first | assumption | omega) (by first | assumption | omega)) vl_X1_58 dX1_couple_14 [0] 0 0 rfl rfl rfl rfl rfl rfl rfl rfl rfl rfl rfl rfl rfl ⟨Nat.zero_le _, Nat.zero_le _⟩ ?_
    refine g_aload_n (pc := 17) X dX1_couple_17 0 rfl ?_
    refine g_iload_n (pc := 18) X dX1_couple_18 2 rfl ?_
    refine g_callV (pc := 19) (rest := [.int (nI (lvN k a))]) (ss' := [wH cy ad (lvK (lvK k a) b)]) X (c_X1_leave l D cy ad (lvK k a) b (by first | assumption | omega) (by rw [lvK_nt]; exact h8)) vl_X1_58 dX1_couple_19 [0] 0 0 rfl rfl rfl rfl rfl rfl rfl rfl rfl rfl rfl rfl rfl ⟨Nat.zero_le _, Nat.zero_le _⟩ ?_
    refine g_iadd (v := nI (lvN k a + lvN (lvK k a) b)) (pc := 22) X dX1_couple_22 (nI_add (lvN k a) (lvN (lvK k a) b)) ?_
    refine g_istore_n (lv' := [(3, .int (nI (lvN k a + lvN (lvK k a) b))), (0, .ref (ad 0)), (1, .int (nI a)), (2, .int (nI b))]) (pc := 23) X dX1_couple_23 rfl rfl rfl ?_
    refine g_aload_n (pc := 24) X dX1_couple_24 1 rfl ?_
    refine g_get (pc := 25) X (v := .ref (ad 7)) fl_X1_40 dX1_couple_25 0 0 rfl rfl rfl ?_
    refine g_iload_n (pc := 28) X dX1_couple_28 2 rfl ?_
    refine g_iload_n (pc := 29) X dX1_couple_29 3 rfl ?_
    refine g_iast_n (pc := 30) X (ss' := [wH cy ad (sOt (lvK (lvK k a) b) (upd (kOt (lvK (lvK k a) b)) a (nI b)))]) 0 7 dX1_couple_30 a rfl rfl rfl (by omega) rfl rfl ?_
    refine g_aload_n (pc := 31) X dX1_couple_31 1 rfl ?_
    refine g_get (pc := 32) X (v := .ref (ad 7)) fl_X1_40 dX1_couple_32 0 0 rfl rfl rfl ?_
    refine g_iload_n (pc := 35) X dX1_couple_35 3 rfl ?_
    refine g_iload_n (pc := 36) X dX1_couple_36 2 rfl ?_
    refine g_iast_n (pc := 37) X (ss' := [wH cy ad (sOt (lvK (lvK k a) b) (upd (upd (kOt (lvK (lvK k a) b)) a (nI b)) b (nI a)))]) 0 7 dX1_couple_37 b rfl rfl rfl (by omega) rfl rfl ?_
    refine g_iload_n (pc := 38) X dX1_couple_38 0 rfl ?_
    exact g_iret (pc := 39) X rfl dX1_couple_39 rfl (by rw [cpN, if_neg c7]) (by rw [cpK, if_neg c7]; rfl)
  · refine g_iconst (v := 0) (pc := 10) X dX1_couple_10 (by decide) ?_
    exact g_iret (pc := 11) X rfl dX1_couple_11 rfl (by rw [cpN, if_pos c7]; rfl) (by rw [cpK, if_pos c7])
set_option maxRecDepth 100000 in
set_option maxHeartbeats 4000000 in
theorem c_X1_addLine (l : Launch) (D : va_G) (cy : ClassId) (ad : Nat → Nat) (k : KV) (x : Int32) (y : Int32) (hl : kNl k ≤ 10) (hh : kNl k < 10 → btI (kHd k) (nI (kNl k)) = false) : CtI l yX1_addLine cX1_addLine 3 .boolean 2 96 D cy [.ref (ad 0), .int (x), .int (y)] [wH cy ad k] [wH cy ad (alK k x y)] (bI (alB k x y)) := by
  refine ctI_of (by decide +kernel) (Nat.le_of_ble_eq_true rfl) (fun p e s m args below meth c A X => ?_)
  refine g_lv X (lv' := [(0, .ref (ad 0)), (1, .int (x)), (2, .int (y))]) [0, 1, 2] rfl ?_
  refine g_iload_n (pc := 0) X dX1_addLine_0 1 rfl ?_
  refine g_callSN (pc := 1) (rest := []) X (c_X3_isRoom l D cy x ) rfl ms_X3_isRoom ini_X3 mc_X3_isRoom dX1_addLine_1 rfl rfl rfl rfl rfl ⟨Nat.zero_le _, Nat.zero_le _⟩ ?_
  refine g_bif_eq (pc := 4) (tgt := 28) X dX1_addLine_4 (by decide) (fun c4 => ?_) (fun c4 => ?_)
  · refine g_iconst (v := 0) (pc := 28) X dX1_addLine_28 (by decide) ?_
    exact g_iret (pc := 29) X rfl dX1_addLine_29 rfl (bI_f (by first | (simp only [alB, c4, Bool.false_and]; first | rfl | simp) | (simp only [alB, c11, Bool.false_and, Bool.and_false]; first | rfl | simp) | (simp only [alB, ne_eq, not_true_eq_false, decide_false, Bool.false_and, Bool.and_false]; first | rfl | simp) | (simp only [alB, n25, decide_false, Bool.false_and, Bool.and_false]; first | rfl | simp))) (congrArg (fun q => [wH cy ad q]) (if_K (by first | (simp only [alB, c4, Bool.false_and]; first | rfl | simp) | (simp only [alB, c11, Bool.false_and, Bool.and_false]; first | rfl | simp) | (simp only [alB, ne_eq, not_true_eq_false, decide_false, Bool.false_and, Bool.and_false]; first | rfl | simp) | (simp only [alB, n25, decide_false, Bool.false_and, Bool.and_false]; first | rfl | simp))))
  · have rx := c4
    obtain ⟨i, hi, rfl⟩ := isRm_t c4
    refine g_iload_n (pc := 7) X dX1_addLine_7 2 rfl ?_
    refine g_callSN (pc := 8) (rest := []) X (c_X3_isRoom l D cy y ) rfl ms_X3_isRoom ini_X3 mc_X3_isRoom dX1_addLine_8 rfl rfl rfl rfl rfl ⟨Nat.zero_le _, Nat.zero_le _⟩ ?_
    refine g_bif_eq (pc := 11) (tgt := 28) X dX1_addLine_11 (by decide) (fun c11 => ?_) (fun c11 => ?_)
    · refine g_iconst (v := 0) (pc := 28) X dX1_addLine_28 (by decide) ?_
      exact g_iret (pc := 29) X rfl dX1_addLine_29 rfl (bI_f (by first | (simp only [alB, c4, Bool.false_and]; first | rfl | simp) | (simp only [alB, c11, Bool.false_and, Bool.and_false]; first | rfl | simp) | (simp only [alB, ne_eq, not_true_eq_false, decide_false, Bool.false_and, Bool.and_false]; first | rfl | simp) | (simp only [alB, n25, decide_false, Bool.false_and, Bool.and_false]; first | rfl | simp))) (congrArg (fun q => [wH cy ad q]) (if_K (by first | (simp only [alB, c4, Bool.false_and]; first | rfl | simp) | (simp only [alB, c11, Bool.false_and, Bool.and_false]; first | rfl | simp) | (simp only [alB, ne_eq, not_true_eq_false, decide_false, Bool.false_and, Bool.and_false]; first | rfl | simp) | (simp only [alB, n25, decide_false, Bool.false_and, Bool.and_false]; first | rfl | simp))))
    · have ry := c11
      obtain ⟨j, hj, rfl⟩ := isRm_t c11
      refine g_iload_n (pc := 14) X dX1_addLine_14 1 rfl ?_
      refine g_iload_n (pc := 15) X dX1_addLine_15 2 rfl ?_
      refine g_ncmp_eq (pc := 16) (tgt := 28) X dX1_addLine_16 (by decide) i j rfl rfl (by omega) (by omega) (fun c16 => ?_) (fun c16 => ?_)
      · subst c16
        refine g_iconst (v := 0) (pc := 28) X dX1_addLine_28 (by decide) ?_
        exact g_iret (pc := 29) X rfl dX1_addLine_29 rfl (bI_f (by first | (simp only [alB, c4, Bool.false_and]; first | rfl | simp) | (simp only [alB, c11, Bool.false_and, Bool.and_false]; first | rfl | simp) | (simp only [alB, ne_eq, not_true_eq_false, decide_false, Bool.false_and, Bool.and_false]; first | rfl | simp) | (simp only [alB, n25, decide_false, Bool.false_and, Bool.and_false]; first | rfl | simp))) (congrArg (fun q => [wH cy ad q]) (if_K (by first | (simp only [alB, c4, Bool.false_and]; first | rfl | simp) | (simp only [alB, c11, Bool.false_and, Bool.and_false]; first | rfl | simp) | (simp only [alB, ne_eq, not_true_eq_false, decide_false, Bool.false_and, Bool.and_false]; first | rfl | simp) | (simp only [alB, n25, decide_false, Bool.false_and, Bool.and_false]; first | rfl | simp))))
      · refine g_aload_n (pc := 19) X dX1_addLine_19 0 rfl ?_
        refine g_get (pc := 20) X (v := .int (nI (kNl k))) fl_X1_9 dX1_addLine_20 0 0 rfl rfl rfl ?_
        refine g_bipush (v := 10) (pc := 23) X dX1_addLine_23 (by decide) ?_
        refine g_ncmp_lt (pc := 25) (tgt := 30) X dX1_addLine_25 (by decide) (kNl k) 10 rfl rfl (by omega) (by decide) (fun c25 => ?_) (fun c25 => ?_)
        · refine g_aload_n (pc := 30) X dX1_addLine_30 0 rfl ?_
          refine g_get (pc := 31) X (v := .ref (ad 3)) fl_X1_25 dX1_addLine_31 0 0 rfl rfl rfl ?_
          refine g_iload_n (pc := 34) X dX1_addLine_34 1 rfl ?_
          refine g_iald_n (pc := 35) (f := joK k) X 0 3 dX1_addLine_35 i rfl rfl rfl (by omega) rfl ?_
          refine g_iload_n (pc := 36) X dX1_addLine_36 2 rfl ?_
          refine g_ishr (v := shr ((joK k) i) (nI j)) (pc := 37) X dX1_addLine_37 rfl ?_
          refine g_iconst (v := 1) (pc := 38) X dX1_addLine_38 (by decide) ?_
          refine g_iand (v := (shr ((joK k) i) (nI j)) &&& 1) (pc := 39) X dX1_addLine_39 rfl ?_
          refine g_if_eq (pc := 40) (tgt := 45) X dX1_addLine_40 (by decide) (fun c40 => ?_) (fun c40 => ?_)
          · have hB : alB k (nI i) (nI j) = true := by
              have e : ix (nI i) = i := ixn (by omega)
              simp only [alB, rx, ry, e, Bool.true_and]
              rw [decide_eq_true (fun h => c16 ((nI_eq (by omega) (by omega)).mp h)), decide_eq_true c25]
              simpa using c40
            refine g_aload_n (pc := 45) X dX1_addLine_45 0 rfl ?_
            refine g_get (pc := 46) X (v := .ref (ad 1)) fl_X1_15 dX1_addLine_46 0 0 rfl rfl rfl ?_
            refine g_aload_n (pc := 49) X dX1_addLine_49 0 rfl ?_
            refine g_get (pc := 50) X (v := .int (nI (kNl k))) fl_X1_9 dX1_addLine_50 0 0 rfl rfl rfl ?_
            refine g_iload_n (pc := 53) X dX1_addLine_53 1 rfl ?_
            refine g_iload_n (pc := 54) X dX1_addLine_54 2 rfl ?_
            refine g_mmin (pc := 55) (v := nI (min i j)) X ml_X1_69 m_min_s ini_Math m_min_c dX1_addLine_55 rfl rfl ⟨Nat.zero_le _, Nat.zero_le _⟩ (mmin_n i j (by omega) (by omega)) ?_
            refine g_iast_n (pc := 58) X (ss' := [wHR cy ad (sOn k (upd (kOn k) (kNl k) (nI (min i j)))) (joK k) (opK k)]) 0 1 dX1_addLine_58 (kNl k) rfl rfl rfl (by omega) rfl rfl ?_
            refine g_aload_n (pc := 59) X dX1_addLine_59 0 rfl ?_
            refine g_get (pc := 60) X (v := .ref (ad 2)) fl_X1_19 dX1_addLine_60 0 0 rfl rfl rfl ?_
            refine g_aload_n (pc := 63) X dX1_addLine_63 0 rfl ?_
            refine g_get (pc := 64) X (v := .int (nI (kNl k))) fl_X1_9 dX1_addLine_64 0 0 rfl rfl rfl ?_
            refine g_iload_n (pc := 67) X dX1_addLine_67 1 rfl ?_
            refine g_iload_n (pc := 68) X dX1_addLine_68 2 rfl ?_
            refine g_mmax (pc := 69) (v := nI (max i j)) X ml_X1_75 m_max_s ini_Math m_max_c dX1_addLine_69 rfl rfl ⟨Nat.zero_le _, Nat.zero_le _⟩ (mmax_n i j (by omega) (by omega)) ?_
            refine g_iast_n (pc := 72) X (ss' := [wHR cy ad (sTw (sOn k (upd (kOn k) (kNl k) (nI (min i j)))) (upd (kTw k) (kNl k) (nI (max i j)))) (joK k) (opK k)]) 0 2 dX1_addLine_72 (kNl k) rfl rfl rfl (by omega) rfl rfl ?_
            refine g_aload_n (pc := 73) X dX1_addLine_73 0 rfl ?_
            refine g_dup (pc := 74) X dX1_addLine_74 rfl ?_
            refine g_get (pc := 75) X (v := .int (nI (kNl k))) fl_X1_9 dX1_addLine_75 0 0 rfl rfl rfl ?_
            refine g_iconst (v := 1) (pc := 78) X dX1_addLine_78 (by decide) ?_
            refine g_iadd (v := nI (kNl k + 1)) (pc := 79) X dX1_addLine_79 (nI_add (kNl k) 1) ?_
            refine g_put (pc := 80) X (ss' := [wHR cy ad (sTw (sOn (sNl k (kNl k + 1)) (upd (kOn k) (kNl k) (nI (min i j)))) (upd (kTw k) (kNl k) (nI (max i j)))) (joK k) (opK k)]) fp_X1_9 dX1_addLine_80 0 0 rfl rfl rfl rfl rfl rfl ?_
            refine g_aload_n (pc := 83) X dX1_addLine_83 0 rfl ?_
            refine g_get (pc := 84) X (v := .ref (ad 3)) fl_X1_25 dX1_addLine_84 0 0 rfl rfl rfl ?_
            refine g_iload_n (pc := 87) X dX1_addLine_87 1 rfl ?_
            refine g_dup2 (pc := 88) X dX1_addLine_88 rfl rfl ?_
            refine g_iald_n (pc := 89) (f := joK k) X 0 3 dX1_addLine_89 i rfl rfl rfl (by omega) rfl ?_
            refine g_iconst (v := 1) (pc := 90) X dX1_addLine_90 (by decide) ?_
            refine g_iload_n (pc := 91) X dX1_addLine_91 2 rfl ?_
            refine g_ishl (v := shl 1 (nI j)) (pc := 92) X dX1_addLine_92 rfl ?_
            refine g_ior (v := ((joK k) i) ||| (shl 1 (nI j))) (pc := 93) X dX1_addLine_93 rfl ?_
            refine g_iast_n (pc := 94) X (ss' := [wHR cy ad (sTw (sOn (sNl k (kNl k + 1)) (upd (kOn k) (kNl k) (nI (min i j)))) (upd (kTw k) (kNl k) (nI (max i j)))) (upd (joK k) i (((joK k) i) ||| (shl 1 (nI j)))) (opK k)]) 0 3 dX1_addLine_94 i rfl rfl rfl (by omega) rfl rfl ?_
            refine g_aload_n (pc := 95) X dX1_addLine_95 0 rfl ?_
            refine g_get (pc := 96) X (v := .ref (ad 3)) fl_X1_25 dX1_addLine_96 0 0 rfl rfl rfl ?_
            refine g_iload_n (pc := 99) X dX1_addLine_99 2 rfl ?_
            refine g_dup2 (pc := 100) X dX1_addLine_100 rfl rfl ?_
            refine g_iald_n (pc := 101) (f := upd (joK k) i (((joK k) i) ||| (shl 1 (nI j)))) X 0 3 dX1_addLine_101 j rfl rfl rfl (by omega) rfl ?_
            refine g_iconst (v := 1) (pc := 102) X dX1_addLine_102 (by decide) ?_
            refine g_iload_n (pc := 103) X dX1_addLine_103 1 rfl ?_
            refine g_ishl (v := shl 1 (nI i)) (pc := 104) X dX1_addLine_104 rfl ?_
            refine g_ior (v := ((upd (joK k) i (((joK k) i) ||| (shl 1 (nI j)))) j) ||| (shl 1 (nI i))) (pc := 105) X dX1_addLine_105 rfl ?_
            refine g_iast_n (pc := 106) X (ss' := [wHR cy ad (sTw (sOn (sNl k (kNl k + 1)) (upd (kOn k) (kNl k) (nI (min i j)))) (upd (kTw k) (kNl k) (nI (max i j)))) (upd (upd (joK k) i (((joK k) i) ||| (shl 1 (nI j)))) j (((upd (joK k) i (((joK k) i) ||| (shl 1 (nI j)))) j) ||| (shl 1 (nI i)))) (opK k)]) 0 3 dX1_addLine_106 j rfl rfl rfl (by omega) rfl rfl ?_
            refine g_aload_n (pc := 107) X dX1_addLine_107 0 rfl ?_
            refine g_get (pc := 108) X (v := .ref (ad 4)) fl_X1_28 dX1_addLine_108 0 0 rfl rfl rfl ?_
            refine g_iload_n (pc := 111) X dX1_addLine_111 1 rfl ?_
            refine g_dup2 (pc := 112) X dX1_addLine_112 rfl rfl ?_
            refine g_iald_n (pc := 113) (f := opK k) X 0 4 dX1_addLine_113 i rfl rfl rfl (by omega) rfl ?_
            refine g_iconst (v := 1) (pc := 114) X dX1_addLine_114 (by decide) ?_
            refine g_iload_n (pc := 115) X dX1_addLine_115 2 rfl ?_
            refine g_ishl (v := shl 1 (nI j)) (pc := 116) X dX1_addLine_116 rfl ?_
            refine g_ior (v := ((opK k) i) ||| (shl 1 (nI j))) (pc := 117) X dX1_addLine_117 rfl ?_
            refine g_iast_n (pc := 118) X (ss' := [wHR cy ad (sTw (sOn (sNl k (kNl k + 1)) (upd (kOn k) (kNl k) (nI (min i j)))) (upd (kTw k) (kNl k) (nI (max i j)))) (upd (upd (joK k) i (((joK k) i) ||| (shl 1 (nI j)))) j (((upd (joK k) i (((joK k) i) ||| (shl 1 (nI j)))) j) ||| (shl 1 (nI i)))) (upd (opK k) i (((opK k) i) ||| (shl 1 (nI j))))]) 0 4 dX1_addLine_118 i rfl rfl rfl (by omega) rfl rfl ?_
            refine g_aload_n (pc := 119) X dX1_addLine_119 0 rfl ?_
            refine g_get (pc := 120) X (v := .ref (ad 4)) fl_X1_28 dX1_addLine_120 0 0 rfl rfl rfl ?_
            refine g_iload_n (pc := 123) X dX1_addLine_123 2 rfl ?_
            refine g_dup2 (pc := 124) X dX1_addLine_124 rfl rfl ?_
            refine g_iald_n (pc := 125) (f := upd (opK k) i (((opK k) i) ||| (shl 1 (nI j)))) X 0 4 dX1_addLine_125 j rfl rfl rfl (by omega) rfl ?_
            refine g_iconst (v := 1) (pc := 126) X dX1_addLine_126 (by decide) ?_
            refine g_iload_n (pc := 127) X dX1_addLine_127 1 rfl ?_
            refine g_ishl (v := shl 1 (nI i)) (pc := 128) X dX1_addLine_128 rfl ?_
            refine g_ior (v := ((upd (opK k) i (((opK k) i) ||| (shl 1 (nI j)))) j) ||| (shl 1 (nI i))) (pc := 129) X dX1_addLine_129 rfl ?_
            refine g_iast_n (pc := 130) X (ss' := [wHR cy ad (sTw (sOn (sNl k (kNl k + 1)) (upd (kOn k) (kNl k) (nI (min i j)))) (upd (kTw k) (kNl k) (nI (max i j)))) (upd (upd (joK k) i (((joK k) i) ||| (shl 1 (nI j)))) j (((upd (joK k) i (((joK k) i) ||| (shl 1 (nI j)))) j) ||| (shl 1 (nI i)))) (upd (upd (opK k) i (((opK k) i) ||| (shl 1 (nI j)))) j (((upd (opK k) i (((opK k) i) ||| (shl 1 (nI j)))) j) ||| (shl 1 (nI i))))]) 0 4 dX1_addLine_130 j rfl rfl rfl (by omega) rfl rfl ?_
            refine g_swap X (ss' := [wHR cy ad _ (joK (alF k (nI i) (nI j))) _]) (g := joK (alF k (nI i) (nI j))) 0 3 rfl rfl (al_arr true 0 hi hj c16 rfl) rfl ?_
            refine g_swap X (ss' := [wHR cy ad _ _ (opK (alF k (nI i) (nI j)))]) (g := opK (alF k (nI i) (nI j))) 0 4 rfl rfl (al_arr false (kHd k) hi hj c16 (hh c25)) rfl ?_
            refine g_iconst (v := 1) (pc := 131) X dX1_addLine_131 (by decide) ?_
            exact g_iret (pc := 132) X rfl dX1_addLine_132 rfl (bI_t hB) (by rw [alK, if_pos hB, alF, show mnI (nI i) (nI j) = nI (min i j) from mmin_n i j (by omega) (by omega), show mxI (nI i) (nI j) = nI (max i j) from mmax_n i j (by omega) (by omega)]; rfl)
          · have hF : alB k (nI i) (nI j) = false := by
              have e : ix (nI i) = i := ixn (by omega)
              simp only [alB, e, decide_eq_false c40, Bool.and_false]
            refine g_iconst (v := 0) (pc := 43) X dX1_addLine_43 (by decide) ?_
            exact g_iret (pc := 44) X rfl dX1_addLine_44 rfl (bI_f hF) (congrArg (fun q => [wH cy ad q]) (if_K hF))
        · have n25 : ¬ kNl k < 10 := Nat.not_lt.mpr c25
          refine g_iconst (v := 0) (pc := 28) X dX1_addLine_28 (by decide) ?_
          exact g_iret (pc := 29) X rfl dX1_addLine_29 rfl (bI_f (by first | (simp only [alB, c4, Bool.false_and]; first | rfl | simp) | (simp only [alB, c11, Bool.false_and, Bool.and_false]; first | rfl | simp) | (simp only [alB, ne_eq, not_true_eq_false, decide_false, Bool.false_and, Bool.and_false]; first | rfl | simp) | (simp only [alB, n25, decide_false, Bool.false_and, Bool.and_false]; first | rfl | simp))) (congrArg (fun q => [wH cy ad q]) (if_K (by first | (simp only [alB, c4, Bool.false_and]; first | rfl | simp) | (simp only [alB, c11, Bool.false_and, Bool.and_false]; first | rfl | simp) | (simp only [alB, ne_eq, not_true_eq_false, decide_false, Bool.false_and, Bool.and_false]; first | rfl | simp) | (simp only [alB, n25, decide_false, Bool.false_and, Bool.and_false]; first | rfl | simp))))
set_option maxRecDepth 100000 in
set_option maxHeartbeats 4000000 in
theorem c_X1_addThing (l : Launch) (D : va_G) (cy : ClassId) (ad : Nat → Nat) (k : KV) (x : Int32) (y : Int32) (h8 : kNt k ≤ 8) : CtI l yX1_addThing cX1_addThing 3 .boolean 1 84 D cy [.ref (ad 0), .int (x), .int (y)] [wH cy ad k] [wH cy ad (atK k x y)] (bI (atB k y)) := by
  refine ctI_of (by decide +kernel) (Nat.le_of_ble_eq_true rfl) (fun p e s m args below meth c A X => ?_)
  refine g_lv X (lv' := [(0, .ref (ad 0)), (1, .int (x)), (2, .int (y))]) [0, 1, 2] rfl ?_
  refine g_iload_n (pc := 0) X dX1_addThing_0 2 rfl ?_
  refine g_callSN (pc := 1) (rest := []) X (c_X3_isRoom l D cy y ) rfl ms_X3_isRoom ini_X3 mc_X3_isRoom dX1_addThing_1 rfl rfl rfl rfl rfl ⟨Nat.zero_le _, Nat.zero_le _⟩ ?_
  refine g_bif_eq (pc := 4) (tgt := 16) X dX1_addThing_4 (by decide) (fun c4 => ?_) (fun c4 => ?_)
  · refine g_iconst (v := 0) (pc := 16) X dX1_addThing_16 (by decide) ?_
    exact g_iret (pc := 17) X rfl dX1_addThing_17 rfl (bI_f (by first | (simp only [atB, c4, Bool.false_and]; first | rfl | simp) | (simp only [atB, n13, decide_false, Bool.and_false]; first | rfl | simp))) (congrArg (fun q => [wH cy ad q]) (if_K (by first | (simp only [atB, c4, Bool.false_and]; first | rfl | simp) | (simp only [atB, n13, decide_false, Bool.and_false]; first | rfl | simp))))
  · refine g_aload_n (pc := 7) X dX1_addThing_7 0 rfl ?_
    refine g_get (pc := 8) X (v := .int (nI (kNt k))) fl_X1_31 dX1_addThing_8 0 0 rfl rfl rfl ?_
    refine g_bipush (v := 8) (pc := 11) X dX1_addThing_11 (by decide) ?_
    refine g_ncmp_lt (pc := 13) (tgt := 18) X dX1_addThing_13 (by decide) (kNt k) 8 rfl rfl (by omega) (by decide) (fun c13 => ?_) (fun c13 => ?_)
    · have hB : atB k y = true := by rw [atB, c4, decide_eq_true c13]; rfl
      refine g_aload_n (pc := 18) X dX1_addThing_18 0 rfl ?_
      refine g_get (pc := 19) X (v := .ref (ad 5)) fl_X1_34 dX1_addThing_19 0 0 rfl rfl rfl ?_
      refine g_aload_n (pc := 22) X dX1_addThing_22 0 rfl ?_
      refine g_get (pc := 23) X (v := .int (nI (kNt k))) fl_X1_31 dX1_addThing_23 0 0 rfl rfl rfl ?_
      refine g_iload_n (pc := 26) X dX1_addThing_26 1 rfl ?_
      refine g_iast_n (pc := 27) X (ss' := [wH cy ad (sKi k (upd (kKi k) (kNt k) x))]) 0 5 dX1_addThing_27 (kNt k) rfl rfl rfl (by omega) rfl rfl ?_
      refine g_aload_n (pc := 28) X dX1_addThing_28 0 rfl ?_
      refine g_get (pc := 29) X (v := .ref (ad 6)) fl_X1_37 dX1_addThing_29 0 0 rfl rfl rfl ?_
      refine g_aload_n (pc := 32) X dX1_addThing_32 0 rfl ?_
      refine g_get (pc := 33) X (v := .int (nI (kNt k))) fl_X1_31 dX1_addThing_33 0 0 rfl rfl rfl ?_
      refine g_iload_n (pc := 36) X dX1_addThing_36 2 rfl ?_
      refine g_iast_n (pc := 37) X (ss' := [wH cy ad (sRo (sKi k (upd (kKi k) (kNt k) x)) (upd (kRo k) (kNt k) y))]) 0 6 dX1_addThing_37 (kNt k) rfl rfl rfl (by omega) rfl rfl ?_
      refine g_aload_n (pc := 38) X dX1_addThing_38 0 rfl ?_
      refine g_get (pc := 39) X (v := .ref (ad 7)) fl_X1_40 dX1_addThing_39 0 0 rfl rfl rfl ?_
      refine g_aload_n (pc := 42) X dX1_addThing_42 0 rfl ?_
      refine g_get (pc := 43) X (v := .int (nI (kNt k))) fl_X1_31 dX1_addThing_43 0 0 rfl rfl rfl ?_
      refine g_bipush (v := (-9)) (pc := 46) X dX1_addThing_46 (by decide) ?_
      refine g_iast_n (pc := 48) X (ss' := [wH cy ad (sOt (sRo (sKi k (upd (kKi k) (kNt k) x)) (upd (kRo k) (kNt k) y)) (upd (kOt k) (kNt k) ((-9))))]) 0 7 dX1_addThing_48 (kNt k) rfl rfl rfl (by omega) rfl rfl ?_
      refine g_aload_n (pc := 49) X dX1_addThing_49 0 rfl ?_
      refine g_dup (pc := 50) X dX1_addThing_50 rfl ?_
      refine g_get (pc := 51) X (v := .int (nI (kNt k))) fl_X1_31 dX1_addThing_51 0 0 rfl rfl rfl ?_
      refine g_iconst (v := 1) (pc := 54) X dX1_addThing_54 (by decide) ?_
      refine g_iadd (v := nI (kNt k + 1)) (pc := 55) X dX1_addThing_55 (nI_add (kNt k) 1) ?_
      refine g_put (pc := 56) X (ss' := [wH cy ad (sOt (sRo (sKi (sNt k (kNt k + 1)) (upd (kKi k) (kNt k) x)) (upd (kRo k) (kNt k) y)) (upd (kOt k) (kNt k) ((-9))))]) fp_X1_31 dX1_addThing_56 0 0 rfl rfl rfl rfl rfl rfl ?_
      refine g_iconst (v := 1) (pc := 59) X dX1_addThing_59 (by decide) ?_
      exact g_iret (pc := 60) X rfl dX1_addThing_60 rfl (bI_t hB) (by rw [atK, if_pos hB]; rfl)
    · have n13 : ¬ kNt k < 8 := Nat.not_lt.mpr c13
      refine g_iconst (v := 0) (pc := 16) X dX1_addThing_16 (by decide) ?_
      exact g_iret (pc := 17) X rfl dX1_addThing_17 rfl (bI_f (by first | (simp only [atB, c4, Bool.false_and]; first | rfl | simp) | (simp only [atB, n13, decide_false, Bool.and_false]; first | rfl | simp))) (congrArg (fun q => [wH cy ad q]) (if_K (by first | (simp only [atB, c4, Bool.false_and]; first | rfl | simp) | (simp only [atB, n13, decide_false, Bool.and_false]; first | rfl | simp))))
set_option maxRecDepth 100000 in
set_option maxHeartbeats 4000000 in
theorem c_X1_hang (l : Launch) (D : va_G) (cy : ClassId) (ad : Nat → Nat) (k : KV) (x : Int32) (hl : HLn k) (ho : HLo k) : CtV l yX1_hang cX1_hang 3 0 64 D cy [.ref (ad 0), .int (x)] [wH cy ad k] [wH cy ad (sHd k x)] := by
  refine ctV_of (by decide +kernel) (Nat.le_of_ble_eq_true rfl) (fun p e s m args below meth c A X => ?_)
  refine g_lv X (lv' := [(0, .ref (ad 0)), (1, .int (x))]) [0, 1] rfl ?_
  refine g_aload_n (pc := 0) X dX1_hang_0 0 rfl ?_
  refine g_iload_n (pc := 1) X dX1_hang_1 1 rfl ?_
  refine g_put (pc := 2) X (ss' := [wHR cy ad (sHd k x) (joK (sHd k x)) (opK k)]) fp_X1_22 dX1_hang_2 0 0 rfl rfl rfl rfl rfl rfl ?_
  refine g_iconst (v := 0) (pc := 5) X dX1_hang_5 (by decide) ?_
  refine g_istore_n (lv' := [(2, .int (0)), (0, .ref (ad 0)), (1, .int (x))]) (pc := 6) X dX1_hang_6 rfl rfl rfl ?_
  have L7_1 : ∀ (n : Nat) (j : Nat) (o : Nat → Int32) (hj : j ≤ 6) (h0 : ∀ r, r < j → o r = 0) (hm : 6 - j < n), G p l e { frames := 0, cells := 0, slots := 0, locals := 64 } s m args below meth c 3 D A 0 0 (QV below args s D A [wH cy ad (sHd k x)]) [wHR cy ad (sHd k x) (joK k) o] 7 [(0, .ref (ad 0)), (1, .int (x)), (2, .int (nI j))] [] := by
    intro n
    induction n with
    | zero => intro j o hj h0 hm; exact absurd hm (Nat.not_lt_zero _)
    | succ n ih => intro j o hj h0 hm
      have ih7 := ih
      clear ih
      refine g_iload_n (pc := 7) X dX1_hang_7 2 rfl ?_
      refine g_bipush (v := 6) (pc := 8) X dX1_hang_8 (by decide) ?_
      refine g_ncmp_ge (pc := 10) (tgt := 26) X dX1_hang_10 (by decide) j 6 rfl rfl (by omega) (by decide) (fun c10 => ?_) (fun c10 => ?_)
      · refine g_iconst (v := 0) (pc := 26) X dX1_hang_26 (by decide) ?_
        refine g_istore_n (lv' := [(2, .int (0)), (0, .ref (ad 0)), (1, .int (x))]) (pc := 27) X dX1_hang_27 rfl rfl rfl ?_
        have L28_2 : ∀ (n : Nat) (i : Nat) (o2 : Nat → Int32) (hi : i ≤ kNl k) (hq : ∀ r, r < 6 → o2 r = bsN (kOn k) (kTw k) x false (nI r) i) (hm : kNl k - i < n), G p l e { frames := 0, cells := 0, slots := 0, locals := 64 } s m args below meth c 3 D A 0 0 (QV below args s D A [wH cy ad (sHd k x)]) [wHR cy ad (sHd k x) (joK k) o2] 28 [(0, .ref (ad 0)), (1, .int (x)), (2, .int (nI i))] [] := by
          intro n
          induction n with
          | zero => intro i o2 hi hq hm; exact absurd hm (Nat.not_lt_zero _)
          | succ n ih => intro i o2 hi hq hm
            have ih28 := ih
            clear ih
            refine g_iload_n (pc := 28) X dX1_hang_28 2 rfl ?_
            refine g_aload_n (pc := 29) X dX1_hang_29 0 rfl ?_
            refine g_get (pc := 30) X (v := .int (nI (kNl k))) fl_X1_9 dX1_hang_30 0 0 rfl rfl rfl ?_
            refine g_ncmp_ge (pc := 33) (tgt := 94) X dX1_hang_33 (by decide) i (kNl k) rfl rfl (by have := hl.1; omega) (by have := hl.1; omega) (fun c33 => ?_) (fun c33 => ?_)
            · have hi2 : i = kNl k := by omega
              rw [hi2] at hq
              refine g_swap X (ss' := [wH cy ad (sHd k x)]) (g := opK (sHd k x)) 0 4 rfl rfl hq rfl ?_
              exact g_vret (pc := 94) X rfl dX1_hang_94 rfl
            · refine g_iload_n (pc := 36) X dX1_hang_36 1 rfl ?_
              refine g_iload_n (pc := 37) X dX1_hang_37 2 rfl ?_
              refine g_ishr (v := shr x (nI i)) (pc := 38) X dX1_hang_38 rfl ?_
              refine g_iconst (v := 1) (pc := 39) X dX1_hang_39 (by decide) ?_
              refine g_iand (v := (shr x (nI i)) &&& 1) (pc := 40) X dX1_hang_40 rfl ?_
              refine g_if_ne (pc := 41) (tgt := 88) X dX1_hang_41 (by decide) (fun c41 => ?_) (fun c41 => ?_)
              · have hb : (!false && btI x (nI i)) = true := by rw [btI_t.mpr c41]; rfl
                have h88 : ∀ r, r < 6 → o2 r = bsN (kOn k) (kTw k) x false (nI r) (i + 1) := fun r h => by rw [bs_skip hb]; exact hq r h
                refine g_iinc (v := nI (i + 1)) (lv' := [(2, .int (nI (i + 1))), (0, .ref (ad 0)), (1, .int (x))]) (pc := 88) X dX1_hang_88 2 rfl (nI_1 i) rfl rfl ?_
                refine g_goto (pc := 91) (tgt := 28) X dX1_hang_91 (by decide) ?_
                refine g_lv X (lv' := [(0, .ref (ad 0)), (1, .int (x)), (2, .int (nI (i + 1)))]) [1, 2, 0] rfl ?_
                exact ih28 (i + 1) o2 c33 h88 (by omega)
              · have hb : (!false && btI x (nI i)) = false := by rw [btI_f.mpr c41]; rfl
                have h88 := bs_put (hl.2 i c33).1 (hl.2 i c33).2 hb hq (fun h => absurd (ho i c33) (by rw [h]; exact Int32.lt_irrefl _))
                refine g_aload_n (pc := 44) X dX1_hang_44 0 rfl ?_
                refine g_get (pc := 45) X (v := .ref (ad 4)) fl_X1_28 dX1_hang_45 0 0 rfl rfl rfl ?_
                refine g_aload_n (pc := 48) X dX1_hang_48 0 rfl ?_
                refine g_get (pc := 49) X (v := .ref (ad 1)) fl_X1_15 dX1_hang_49 0 0 rfl rfl rfl ?_
                refine g_iload_n (pc := 52) X dX1_hang_52 2 rfl ?_
                refine g_iald_n (pc := 53) (f := kOn k) X 0 1 dX1_hang_53 i rfl rfl rfl (by have := hl.1; omega) rfl ?_
                refine g_dup2 (pc := 54) X dX1_hang_54 rfl rfl ?_
                refine g_iald (pc := 55) (f := o2) X 0 4 dX1_hang_55 rfl rfl ((hl.2 i c33).1) ?_
                refine g_iconst (v := 1) (pc := 56) X dX1_hang_56 (by decide) ?_
                refine g_aload_n (pc := 57) X dX1_hang_57 0 rfl ?_
                refine g_get (pc := 58) X (v := .ref (ad 2)) fl_X1_19 dX1_hang_58 0 0 rfl rfl rfl ?_
                refine g_iload_n (pc := 61) X dX1_hang_61 2 rfl ?_
                refine g_iald_n (pc := 62) (f := kTw k) X 0 2 dX1_hang_62 i rfl rfl rfl (by have := hl.1; omega) rfl ?_
                refine g_ishl (v := shl 1 ((kTw k) i)) (pc := 63) X dX1_hang_63 rfl ?_
                refine g_ior (v := (o2 (ix ((kOn k) i))) ||| (shl 1 ((kTw k) i))) (pc := 64) X dX1_hang_64 rfl ?_
                refine g_iast (pc := 65) X (ss' := [wHR cy ad (sHd k x) (joK k) (upd o2 (ix ((kOn k) i)) ((o2 (ix ((kOn k) i))) ||| (shl 1 ((kTw k) i))))]) 0 4 dX1_hang_65 rfl rfl ((hl.2 i c33).1) rfl ?_
                refine g_aload_n (pc := 66) X dX1_hang_66 0 rfl ?_
                refine g_get (pc := 67) X (v := .ref (ad 4)) fl_X1_28 dX1_hang_67 0 0 rfl rfl rfl ?_
                refine g_aload_n (pc := 70) X dX1_hang_70 0 rfl ?_
                refine g_get (pc := 71) X (v := .ref (ad 2)) fl_X1_19 dX1_hang_71 0 0 rfl rfl rfl ?_
                refine g_iload_n (pc := 74) X dX1_hang_74 2 rfl ?_
                refine g_iald_n (pc := 75) (f := kTw k) X 0 2 dX1_hang_75 i rfl rfl rfl (by have := hl.1; omega) rfl ?_
                refine g_dup2 (pc := 76) X dX1_hang_76 rfl rfl ?_
                refine g_iald (pc := 77) (f := upd o2 (ix ((kOn k) i)) ((o2 (ix ((kOn k) i))) ||| (shl 1 ((kTw k) i)))) X 0 4 dX1_hang_77 rfl rfl ((hl.2 i c33).2) ?_
                refine g_iconst (v := 1) (pc := 78) X dX1_hang_78 (by decide) ?_
                refine g_aload_n (pc := 79) X dX1_hang_79 0 rfl ?_
                refine g_get (pc := 80) X (v := .ref (ad 1)) fl_X1_15 dX1_hang_80 0 0 rfl rfl rfl ?_
                refine g_iload_n (pc := 83) X dX1_hang_83 2 rfl ?_
                refine g_iald_n (pc := 84) (f := kOn k) X 0 1 dX1_hang_84 i rfl rfl rfl (by have := hl.1; omega) rfl ?_
                refine g_ishl (v := shl 1 ((kOn k) i)) (pc := 85) X dX1_hang_85 rfl ?_
                refine g_ior (v := ((upd o2 (ix ((kOn k) i)) ((o2 (ix ((kOn k) i))) ||| (shl 1 ((kTw k) i)))) (ix ((kTw k) i))) ||| (shl 1 ((kOn k) i))) (pc := 86) X dX1_hang_86 rfl ?_
                refine g_iast (pc := 87) X (ss' := [wHR cy ad (sHd k x) (joK k) (upd (upd o2 (ix ((kOn k) i)) ((o2 (ix ((kOn k) i))) ||| (shl 1 ((kTw k) i)))) (ix ((kTw k) i)) (((upd o2 (ix ((kOn k) i)) ((o2 (ix ((kOn k) i))) ||| (shl 1 ((kTw k) i)))) (ix ((kTw k) i))) ||| (shl 1 ((kOn k) i))))]) 0 4 dX1_hang_87 rfl rfl ((hl.2 i c33).2) rfl ?_
                refine g_iinc (v := nI (i + 1)) (lv' := [(2, .int (nI (i + 1))), (0, .ref (ad 0)), (1, .int (x))]) (pc := 88) X dX1_hang_88 2 rfl (nI_1 i) rfl rfl ?_
                refine g_goto (pc := 91) (tgt := 28) X dX1_hang_91 (by decide) ?_
                refine g_lv X (lv' := [(0, .ref (ad 0)), (1, .int (x)), (2, .int (nI (i + 1)))]) [1, 2, 0] rfl ?_
                exact ih28 (i + 1) (upd (upd o2 (ix ((kOn k) i)) ((o2 (ix ((kOn k) i))) ||| (shl 1 ((kTw k) i)))) (ix ((kTw k) i)) (((upd o2 (ix ((kOn k) i)) ((o2 (ix ((kOn k) i))) ||| (shl 1 ((kTw k) i)))) (ix ((kTw k) i))) ||| (shl 1 ((kOn k) i)))) c33 h88 (by omega)
        refine g_lv X (lv' := [(0, .ref (ad 0)), (1, .int (x)), (2, .int (0))]) [1, 2, 0] rfl ?_
        exact L28_2 (kNl k - 0 + 1) 0 o (Nat.zero_le _) (fun r h => h0 r (by omega)) (Nat.lt_succ_self _)
      · refine g_aload_n (pc := 13) X dX1_hang_13 0 rfl ?_
        refine g_get (pc := 14) X (v := .ref (ad 4)) fl_X1_28 dX1_hang_14 0 0 rfl rfl rfl ?_
        refine g_iload_n (pc := 17) X dX1_hang_17 2 rfl ?_
        refine g_iconst (v := 0) (pc := 18) X dX1_hang_18 (by decide) ?_
        refine g_iast_n (pc := 19) X (ss' := [wHR cy ad (sHd k x) (joK k) (upd o j 0)]) 0 4 dX1_hang_19 j rfl rfl rfl (by omega) rfl rfl ?_
        refine g_iinc (v := nI (j + 1)) (lv' := [(2, .int (nI (j + 1))), (0, .ref (ad 0)), (1, .int (x))]) (pc := 20) X dX1_hang_20 2 rfl (nI_1 j) rfl rfl ?_
        refine g_goto (pc := 23) (tgt := 7) X dX1_hang_23 (by decide) ?_
        refine g_lv X (lv' := [(0, .ref (ad 0)), (1, .int (x)), (2, .int (nI (j + 1)))]) [1, 2, 0] rfl ?_
        exact ih7 (j + 1) (upd o j 0) c10 (fun r h => by by_cases e : r = j; (rw [e]; exact upd_s _ _ _); (rw [upd_n e]; exact h0 r (by omega))) (by omega)
  refine g_lv X (lv' := [(0, .ref (ad 0)), (1, .int (x)), (2, .int (0))]) [1, 2, 0] rfl ?_
  exact L7_1 (6 - 0 + 1) 0 (opK k) (Nat.zero_le _) (fun r h => absurd h (Nat.not_lt_zero r)) (Nat.lt_succ_self _)
set_option maxRecDepth 100000 in
set_option maxHeartbeats 4000000 in
theorem c_X1_toggle (l : Launch) (D : va_G) (cy : ClassId) (ad : Nat → Nat) (k : KV) (x : Int32) (hl : HLn k) (ho : HLo k) : CtI l yX1_toggle cX1_toggle 2 .boolean 1 86 D cy [.ref (ad 0), .int (x)] [wH cy ad k] [wH cy ad (tgK k x)] (bI (hasL k x)) := by
  refine ctI_of (by decide +kernel) (Nat.le_of_ble_eq_true rfl) (fun p e s m args below meth c A X => ?_)
  refine g_lv X (lv' := [(0, .ref (ad 0)), (1, .int (x))]) [0, 1] rfl ?_
  refine g_aload_n (pc := 0) X dX1_toggle_0 0 rfl ?_
  refine g_iload_n (pc := 1) X dX1_toggle_1 1 rfl ?_
  refine g_callV (pc := 2) (rest := []) (ss' := [wH cy ad k]) X (c_X1_hasLine l D cy ad k x ) vl_X1_105 dX1_toggle_2 [0] 0 0 rfl rfl rfl rfl rfl rfl rfl rfl rfl rfl rfl rfl rfl ⟨Nat.zero_le _, Nat.zero_le _⟩ ?_
  refine g_bif_ne (pc := 5) (tgt := 10) X dX1_toggle_5 (by decide) (fun c5 => ?_) (fun c5 => ?_)
  · refine g_aload_n (pc := 10) X dX1_toggle_10 0 rfl ?_
    refine g_aload_n (pc := 11) X dX1_toggle_11 0 rfl ?_
    refine g_get (pc := 12) X (v := .int (kHd k)) fl_X1_22 dX1_toggle_12 0 0 rfl rfl rfl ?_
    refine g_iconst (v := 1) (pc := 15) X dX1_toggle_15 (by decide) ?_
    refine g_iload_n (pc := 16) X dX1_toggle_16 1 rfl ?_
    refine g_ishl (v := shl 1 x) (pc := 17) X dX1_toggle_17 rfl ?_
    refine g_ixor (v := (kHd k) ^^^ (shl 1 x)) (pc := 18) X dX1_toggle_18 rfl ?_
    refine g_callVv (pc := 19) (rest := []) (ss' := [wH cy ad (sHd k (((kHd k) ^^^ (shl 1 x))))]) X (c_X1_hang l D cy ad k ((kHd k) ^^^ (shl 1 x)) (by first | assumption | omega) (by first | assumption | omega)) vl_X1_108 dX1_toggle_19 [0] 0 0 rfl rfl rfl rfl rfl rfl rfl rfl rfl rfl rfl rfl rfl ⟨Nat.zero_le _, Nat.zero_le _⟩ ?_
    refine g_iconst (v := 1) (pc := 22) X dX1_toggle_22 (by decide) ?_
    exact g_iret (pc := 23) X rfl dX1_toggle_23 rfl (bI_t c5) (by rw [tgK, if_pos c5])
  · refine g_iconst (v := 0) (pc := 8) X dX1_toggle_8 (by decide) ?_
    exact g_iret (pc := 9) X rfl dX1_toggle_9 rfl (bI_f c5) (congrArg (fun q => [wH cy ad q]) (if_K c5))
set_option maxRecDepth 100000 in
set_option maxHeartbeats 4000000 in
theorem c_X1_acquaint (l : Launch) (D : va_G) (cy : ClassId) (ad : Nat → Nat) (k : KV) (x : Int32) (y : Int32) (h8 : kNt k ≤ 8) : CtI l yX1_acquaint cX1_acquaint 3 .boolean 3 130 D cy [.ref (ad 0), .int (x), .int (y)] [wH cy ad k] [wH cy ad (acK k x y)] (bI (acB k x y)) := by
  refine ctI_of (by decide +kernel) (Nat.le_of_ble_eq_true rfl) (fun p e s m args below meth c A X => ?_)
  refine g_lv X (lv' := [(0, .ref (ad 0)), (1, .int (x)), (2, .int (y))]) [0, 1, 2] rfl ?_
  refine g_aload_n (pc := 0) X dX1_acquaint_0 0 rfl ?_
  refine g_iload_n (pc := 1) X dX1_acquaint_1 1 rfl ?_
  refine g_callV (pc := 2) (rest := []) (ss' := [wH cy ad k]) X (c_X1_hasThing l D cy ad k x ) vl_X1_62 dX1_acquaint_2 [0] 0 0 rfl rfl rfl rfl rfl rfl rfl rfl rfl rfl rfl rfl rfl ⟨Nat.zero_le _, Nat.zero_le _⟩ ?_
  refine g_bif_eq (pc := 5) (tgt := 21) X dX1_acquaint_5 (by decide) (fun c5 => ?_) (fun c5 => ?_)
  · refine g_iconst (v := 0) (pc := 21) X dX1_acquaint_21 (by decide) ?_
    exact g_iret (pc := 22) X rfl dX1_acquaint_22 rfl (bI_f (by first | (simp only [acB, c5, Bool.false_and]; first | rfl | simp) | (simp only [acB, c13, Bool.false_and, Bool.and_false]; first | rfl | simp) | (simp only [acB, ne_eq, not_true_eq_false, decide_false, Bool.and_false]; first | rfl | simp))) (congrArg (fun q => [wH cy ad q]) (if_K (by first | (simp only [acB, c5, Bool.false_and]; first | rfl | simp) | (simp only [acB, c13, Bool.false_and, Bool.and_false]; first | rfl | simp) | (simp only [acB, ne_eq, not_true_eq_false, decide_false, Bool.and_false]; first | rfl | simp))))
  · have rx := c5
    obtain ⟨i, hi, rfl⟩ := hasT_t h8 c5
    refine g_aload_n (pc := 8) X dX1_acquaint_8 0 rfl ?_
    refine g_iload_n (pc := 9) X dX1_acquaint_9 2 rfl ?_
    refine g_callV (pc := 10) (rest := []) (ss' := [wH cy ad k]) X (c_X1_hasThing l D cy ad k y ) vl_X1_62 dX1_acquaint_10 [0] 0 0 rfl rfl rfl rfl rfl rfl rfl rfl rfl rfl rfl rfl rfl ⟨Nat.zero_le _, Nat.zero_le _⟩ ?_
    refine g_bif_eq (pc := 13) (tgt := 21) X dX1_acquaint_13 (by decide) (fun c13 => ?_) (fun c13 => ?_)
    · refine g_iconst (v := 0) (pc := 21) X dX1_acquaint_21 (by decide) ?_
      exact g_iret (pc := 22) X rfl dX1_acquaint_22 rfl (bI_f (by first | (simp only [acB, c5, Bool.false_and]; first | rfl | simp) | (simp only [acB, c13, Bool.false_and, Bool.and_false]; first | rfl | simp) | (simp only [acB, ne_eq, not_true_eq_false, decide_false, Bool.and_false]; first | rfl | simp))) (congrArg (fun q => [wH cy ad q]) (if_K (by first | (simp only [acB, c5, Bool.false_and]; first | rfl | simp) | (simp only [acB, c13, Bool.false_and, Bool.and_false]; first | rfl | simp) | (simp only [acB, ne_eq, not_true_eq_false, decide_false, Bool.and_false]; first | rfl | simp))))
    · have ry := c13
      obtain ⟨j, hj, rfl⟩ := hasT_t h8 c13
      refine g_iload_n (pc := 16) X dX1_acquaint_16 1 rfl ?_
      refine g_iload_n (pc := 17) X dX1_acquaint_17 2 rfl ?_
      refine g_ncmp_ne (pc := 18) (tgt := 23) X dX1_acquaint_18 (by decide) i j rfl rfl (by omega) (by omega) (fun c18 => ?_) (fun c18 => ?_)
      · have hB : acB k (nI i) (nI j) = true := by rw [acB, rx, ry, decide_eq_true (fun h => c18 ((nI_eq (by omega) (by omega)).mp h))]; rfl
        refine g_aload_n (pc := 23) X dX1_acquaint_23 0 rfl ?_
        refine g_iload_n (pc := 24) X dX1_acquaint_24 1 rfl ?_
        refine g_iload_n (pc := 25) X dX1_acquaint_25 2 rfl ?_
        refine g_callV (pc := 26) (rest := []) (ss' := [wH cy ad (cpK k i j)]) X (c_X1_couple l D cy ad k i j (by first | assumption | omega) (by first | assumption | omega) (by first | assumption | omega)) vl_X1_112 dX1_acquaint_26 [0] 0 0 rfl rfl rfl rfl rfl rfl rfl rfl rfl rfl rfl rfl rfl ⟨Nat.zero_le _, Nat.zero_le _⟩ ?_
        refine g_pop (pc := 29) X dX1_acquaint_29 rfl ?_
        refine g_iconst (v := 1) (pc := 30) X dX1_acquaint_30 (by decide) ?_
        exact g_iret (pc := 31) X rfl dX1_acquaint_31 rfl (bI_t hB) (by rw [acK, if_pos hB, ixn (by omega), ixn (by omega)])
      · subst c18
        refine g_iconst (v := 0) (pc := 21) X dX1_acquaint_21 (by decide) ?_
        exact g_iret (pc := 22) X rfl dX1_acquaint_22 rfl (bI_f (by first | (simp only [acB, c5, Bool.false_and]; first | rfl | simp) | (simp only [acB, c13, Bool.false_and, Bool.and_false]; first | rfl | simp) | (simp only [acB, ne_eq, not_true_eq_false, decide_false, Bool.and_false]; first | rfl | simp))) (congrArg (fun q => [wH cy ad q]) (if_K (by first | (simp only [acB, c5, Bool.false_and]; first | rfl | simp) | (simp only [acB, c13, Bool.false_and, Bool.and_false]; first | rfl | simp) | (simp only [acB, ne_eq, not_true_eq_false, decide_false, Bool.and_false]; first | rfl | simp))))
set_option maxRecDepth 100000 in
set_option maxHeartbeats 4000000 in
theorem c_X1_bring (l : Launch) (D : va_G) (cy : ClassId) (ad : Nat → Nat) (k : KV) (x : Int32) (y : Int32) (h8 : kNt k ≤ 8) : CtI l yX1_bring cX1_bring 3 .boolean 1 85 D cy [.ref (ad 0), .int (x), .int (y)] [wH cy ad k] [wH cy ad (brK k x y)] (bI (brB k x y)) := by
  refine ctI_of (by decide +kernel) (Nat.le_of_ble_eq_true rfl) (fun p e s m args below meth c A X => ?_)
  refine g_lv X (lv' := [(0, .ref (ad 0)), (1, .int (x)), (2, .int (y))]) [0, 1, 2] rfl ?_
  refine g_aload_n (pc := 0) X dX1_bring_0 0 rfl ?_
  refine g_iload_n (pc := 1) X dX1_bring_1 1 rfl ?_
  refine g_callV (pc := 2) (rest := []) (ss' := [wH cy ad k]) X (c_X1_hasThing l D cy ad k x ) vl_X1_62 dX1_bring_2 [0] 0 0 rfl rfl rfl rfl rfl rfl rfl rfl rfl rfl rfl rfl rfl ⟨Nat.zero_le _, Nat.zero_le _⟩ ?_
  refine g_bif_eq (pc := 5) (tgt := 15) X dX1_bring_5 (by decide) (fun c5 => ?_) (fun c5 => ?_)
  · refine g_iconst (v := 0) (pc := 15) X dX1_bring_15 (by decide) ?_
    exact g_iret (pc := 16) X rfl dX1_bring_16 rfl (bI_f (by first | (simp only [brB, c5, Bool.false_and]; first | rfl | simp) | (simp only [brB, c12, Bool.and_false]; first | rfl | simp))) (congrArg (fun q => [wH cy ad q]) (if_K (by first | (simp only [brB, c5, Bool.false_and]; first | rfl | simp) | (simp only [brB, c12, Bool.and_false]; first | rfl | simp))))
  · have rx := c5
    obtain ⟨i, hi, rfl⟩ := hasT_t h8 c5
    refine g_iload_n (pc := 8) X dX1_bring_8 2 rfl ?_
    refine g_callSN (pc := 9) (rest := []) X (c_X3_isRoom l D cy y ) rfl ms_X3_isRoom ini_X3 mc_X3_isRoom dX1_bring_9 rfl rfl rfl rfl rfl ⟨Nat.zero_le _, Nat.zero_le _⟩ ?_
    refine g_bif_ne (pc := 12) (tgt := 17) X dX1_bring_12 (by decide) (fun c12 => ?_) (fun c12 => ?_)
    · have hB : brB k (nI i) y = true := by rw [brB, rx, c12]; rfl
      refine g_aload_n (pc := 17) X dX1_bring_17 0 rfl ?_
      refine g_get (pc := 18) X (v := .ref (ad 6)) fl_X1_37 dX1_bring_18 0 0 rfl rfl rfl ?_
      refine g_iload_n (pc := 21) X dX1_bring_21 1 rfl ?_
      refine g_iload_n (pc := 22) X dX1_bring_22 2 rfl ?_
      refine g_iast_n (pc := 23) X (ss' := [wH cy ad (sRo k (upd (kRo k) i y))]) 0 6 dX1_bring_23 i rfl rfl rfl (by omega) rfl rfl ?_
      refine g_iconst (v := 1) (pc := 24) X dX1_bring_24 (by decide) ?_
      exact g_iret (pc := 25) X rfl dX1_bring_25 rfl (bI_t hB) (by rw [brK, if_pos hB, ixn (by omega)]; rfl)
    · refine g_iconst (v := 0) (pc := 15) X dX1_bring_15 (by decide) ?_
      exact g_iret (pc := 16) X rfl dX1_bring_16 rfl (bI_f (by first | (simp only [brB, c5, Bool.false_and]; first | rfl | simp) | (simp only [brB, c12, Bool.and_false]; first | rfl | simp))) (congrArg (fun q => [wH cy ad q]) (if_K (by first | (simp only [brB, c5, Bool.false_and]; first | rfl | simp) | (simp only [brB, c12, Bool.and_false]; first | rfl | simp))))
set_option maxRecDepth 100000 in
set_option maxHeartbeats 4000000 in
theorem c_X1_strike (l : Launch) (D : va_G) (cy : ClassId) (ad : Nat → Nat) (k : KV) (x : Int32) : CtI l yX1_strike cX1_strike 2 .boolean 0 64 D cy [.ref (ad 0), .int (x)] [wH cy ad k] [wH cy ad (stK k x)] (bI (stB x)) := by
  refine ctI_of (by decide +kernel) (Nat.le_of_ble_eq_true rfl) (fun p e s m args below meth c A X => ?_)
  refine g_lv X (lv' := [(0, .ref (ad 0)), (1, .int (x))]) [0, 1] rfl ?_
  refine g_iload_n (pc := 0) X dX1_strike_0 1 rfl ?_
  refine g_if_lt (pc := 1) (tgt := 10) X dX1_strike_1 (by decide) (fun c1 => ?_) (fun c1 => ?_)
  · refine g_iconst (v := 0) (pc := 10) X dX1_strike_10 (by decide) ?_
    exact g_iret (pc := 11) X rfl dX1_strike_11 rfl (by first | exact bI_f (decide_eq_false (fun h => absurd h.2 (Int32.not_lt.mpr c7))) | exact bI_f (decide_eq_false (fun h => absurd h.1 (Int32.not_le.mpr c1)))) (congrArg (fun q => [wH cy ad q]) (if_K (by first | exact (decide_eq_false (fun h => absurd h.2 (Int32.not_lt.mpr c7))) | exact (decide_eq_false (fun h => absurd h.1 (Int32.not_le.mpr c1))))))
  · refine g_iload_n (pc := 4) X dX1_strike_4 1 rfl ?_
    refine g_bipush (v := 8) (pc := 5) X dX1_strike_5 (by decide) ?_
    refine g_icmp_lt (pc := 7) (tgt := 12) X dX1_strike_7 (by decide) (fun c7 => ?_) (fun c7 => ?_)
    · have hB : stB x = true := decide_eq_true ⟨c1, c7⟩
      obtain ⟨i, hi, rfl⟩ := in_lt (n := 8) (by omega) c1 c7
      refine g_aload_n (pc := 12) X dX1_strike_12 0 rfl ?_
      refine g_iload_n (pc := 13) X dX1_strike_13 1 rfl ?_
      refine g_put (pc := 14) X (ss' := [wH cy ad (sHr k i)]) fp_X1_43 dX1_strike_14 0 0 rfl rfl rfl rfl rfl rfl ?_
      refine g_iconst (v := 1) (pc := 17) X dX1_strike_17 (by decide) ?_
      exact g_iret (pc := 18) X rfl dX1_strike_18 rfl (bI_t hB) (by rw [stK, if_pos hB, ixn (by omega)]; rfl)
    · refine g_iconst (v := 0) (pc := 10) X dX1_strike_10 (by decide) ?_
      exact g_iret (pc := 11) X rfl dX1_strike_11 rfl (by first | exact bI_f (decide_eq_false (fun h => absurd h.2 (Int32.not_lt.mpr c7))) | exact bI_f (decide_eq_false (fun h => absurd h.1 (Int32.not_le.mpr c1)))) (congrArg (fun q => [wH cy ad q]) (if_K (by first | exact (decide_eq_false (fun h => absurd h.2 (Int32.not_lt.mpr c7))) | exact (decide_eq_false (fun h => absurd h.1 (Int32.not_le.mpr c1))))))
end
