/-- a private method of a class that the tables say can be made, by its rows of tables_1 -/
def lw_okq (q : MethodName × Nat) : Prop := (q.1.cls ≠ "java/lang/invoke/MethodHandle" ∧ q.1.cls ≠ "java/lang/invoke/VarHandle") ∧ Cond.instantiable q.1.cls q.2 ∈ tables_1 ∧ Cond.privateMethod q.1 ∈ tables_1 ∧ Cond.instanceMethod q.1 ∈ tables_1
theorem lw_p0 : lw_okq (⟨"MaynotBeSeen", "refuse", "(I)I"⟩, 10) := ⟨⟨by decide +kernel, by decide +kernel⟩, List.mem_of_getElem? (i := 15) (by decide +kernel), List.mem_of_getElem? (i := 153) (by decide +kernel), List.mem_of_getElem? (i := 154) (by decide +kernel)⟩
theorem lw_p1 : lw_okq (⟨"MaynotBeSeen", "firstCure", "(I)I"⟩, 10) := ⟨⟨by decide +kernel, by decide +kernel⟩, List.mem_of_getElem? (i := 15) (by decide +kernel), List.mem_of_getElem? (i := 336) (by decide +kernel), List.mem_of_getElem? (i := 337) (by decide +kernel)⟩
theorem lw_p2 : lw_okq (⟨"MaynotBeSeen", "twoCure", "()Z"⟩, 10) := ⟨⟨by decide +kernel, by decide +kernel⟩, List.mem_of_getElem? (i := 15) (by decide +kernel), List.mem_of_getElem? (i := 340) (by decide +kernel), List.mem_of_getElem? (i := 341) (by decide +kernel)⟩
theorem lw_p3 : lw_okq (⟨"MaynotBeSeen", "ordersBehind", "(II)I"⟩, 10) := ⟨⟨by decide +kernel, by decide +kernel⟩, List.mem_of_getElem? (i := 15) (by decide +kernel), List.mem_of_getElem? (i := 402) (by decide +kernel), List.mem_of_getElem? (i := 403) (by decide +kernel)⟩
theorem lw_p4 : lw_okq (⟨"MaynotBeSeen", "firstCarried", "()I"⟩, 10) := ⟨⟨by decide +kernel, by decide +kernel⟩, List.mem_of_getElem? (i := 15) (by decide +kernel), List.mem_of_getElem? (i := 406) (by decide +kernel), List.mem_of_getElem? (i := 407) (by decide +kernel)⟩
theorem lw_p5 : lw_okq (⟨"MaynotBeSeen", "firstBadMove", "()I"⟩, 10) := ⟨⟨by decide +kernel, by decide +kernel⟩, List.mem_of_getElem? (i := 15) (by decide +kernel), List.mem_of_getElem? (i := 422) (by decide +kernel), List.mem_of_getElem? (i := 423) (by decide +kernel)⟩
theorem lw_p6 : lw_okq (⟨"MaynotBeSeenModel", "no", "(I)I"⟩, 23) := ⟨⟨by decide +kernel, by decide +kernel⟩, List.mem_of_getElem? (i := 456) (by decide +kernel), List.mem_of_getElem? (i := 536) (by decide +kernel), List.mem_of_getElem? (i := 537) (by decide +kernel)⟩
theorem lw_p7 : lw_okq (⟨"MaynotBeSeenModel", "statement", "(Z)I"⟩, 23) := ⟨⟨by decide +kernel, by decide +kernel⟩, List.mem_of_getElem? (i := 456) (by decide +kernel), List.mem_of_getElem? (i := 544) (by decide +kernel), List.mem_of_getElem? (i := 545) (by decide +kernel)⟩
theorem lw_p8 : lw_okq (⟨"MaynotBeSeenModel", "is", "(I)Z"⟩, 23) := ⟨⟨by decide +kernel, by decide +kernel⟩, List.mem_of_getElem? (i := 456) (by decide +kernel), List.mem_of_getElem? (i := 548) (by decide +kernel), List.mem_of_getElem? (i := 549) (by decide +kernel)⟩
theorem lw_p9 : lw_okq (⟨"MaynotBeSeenModel", "digit", "(I)Z"⟩, 23) := ⟨⟨by decide +kernel, by decide +kernel⟩, List.mem_of_getElem? (i := 456) (by decide +kernel), List.mem_of_getElem? (i := 552) (by decide +kernel), List.mem_of_getElem? (i := 553) (by decide +kernel)⟩
theorem lw_p10 : lw_okq (⟨"MaynotBeSeenModel", "isLine", "(I)Z"⟩, 23) := ⟨⟨by decide +kernel, by decide +kernel⟩, List.mem_of_getElem? (i := 456) (by decide +kernel), List.mem_of_getElem? (i := 556) (by decide +kernel), List.mem_of_getElem? (i := 557) (by decide +kernel)⟩
theorem lw_p11 : lw_okq (⟨"MaynotBeSeenModel", "isOld", "(II)Z"⟩, 23) := ⟨⟨by decide +kernel, by decide +kernel⟩, List.mem_of_getElem? (i := 456) (by decide +kernel), List.mem_of_getElem? (i := 649) (by decide +kernel), List.mem_of_getElem? (i := 650) (by decide +kernel)⟩
theorem lw_p12 : lw_okq (⟨"MaynotBeSeenModel", "isThing", "(I)Z"⟩, 23) := ⟨⟨by decide +kernel, by decide +kernel⟩, List.mem_of_getElem? (i := 456) (by decide +kernel), List.mem_of_getElem? (i := 655) (by decide +kernel), List.mem_of_getElem? (i := 656) (by decide +kernel)⟩
theorem lw_p13 : lw_okq (⟨"MaynotBeSeenModel", "give", "(II)I"⟩, 23) := ⟨⟨by decide +kernel, by decide +kernel⟩, List.mem_of_getElem? (i := 456) (by decide +kernel), List.mem_of_getElem? (i := 659) (by decide +kernel), List.mem_of_getElem? (i := 660) (by decide +kernel)⟩
theorem lw_p14 : lw_okq (⟨"MaynotBeSeenModel", "keep", "([I)V"⟩, 23) := ⟨⟨by decide +kernel, by decide +kernel⟩, List.mem_of_getElem? (i := 456) (by decide +kernel), List.mem_of_getElem? (i := 663) (by decide +kernel), List.mem_of_getElem? (i := 664) (by decide +kernel)⟩
theorem lw_p15 : lw_okq (⟨"MaynotBeSeenModel", "again", "([I)V"⟩, 23) := ⟨⟨by decide +kernel, by decide +kernel⟩, List.mem_of_getElem? (i := 456) (by decide +kernel), List.mem_of_getElem? (i := 667) (by decide +kernel), List.mem_of_getElem? (i := 668) (by decide +kernel)⟩
def lw_privs_1 : List (MethodName × Nat) := [(⟨"MaynotBeSeen", "refuse", "(I)I"⟩, 10), (⟨"MaynotBeSeen", "firstCure", "(I)I"⟩, 10), (⟨"MaynotBeSeen", "twoCure", "()Z"⟩, 10), (⟨"MaynotBeSeen", "ordersBehind", "(II)I"⟩, 10), (⟨"MaynotBeSeen", "firstCarried", "()I"⟩, 10), (⟨"MaynotBeSeen", "firstBadMove", "()I"⟩, 10), (⟨"MaynotBeSeenModel", "no", "(I)I"⟩, 23), (⟨"MaynotBeSeenModel", "statement", "(Z)I"⟩, 23), (⟨"MaynotBeSeenModel", "is", "(I)Z"⟩, 23), (⟨"MaynotBeSeenModel", "digit", "(I)Z"⟩, 23), (⟨"MaynotBeSeenModel", "isLine", "(I)Z"⟩, 23), (⟨"MaynotBeSeenModel", "isOld", "(II)Z"⟩, 23), (⟨"MaynotBeSeenModel", "isThing", "(I)Z"⟩, 23), (⟨"MaynotBeSeenModel", "give", "(II)I"⟩, 23), (⟨"MaynotBeSeenModel", "keep", "([I)V"⟩, 23), (⟨"MaynotBeSeenModel", "again", "([I)V"⟩, 23)]
theorem lw_r1 : ∀ q ∈ lw_privs_1, lw_okq q := List.forall_mem_cons.mpr ⟨lw_p0, List.forall_mem_cons.mpr ⟨lw_p1, List.forall_mem_cons.mpr ⟨lw_p2, List.forall_mem_cons.mpr ⟨lw_p3, List.forall_mem_cons.mpr ⟨lw_p4, List.forall_mem_cons.mpr ⟨lw_p5, List.forall_mem_cons.mpr ⟨lw_p6, List.forall_mem_cons.mpr ⟨lw_p7, List.forall_mem_cons.mpr ⟨lw_p8, List.forall_mem_cons.mpr ⟨lw_p9, List.forall_mem_cons.mpr ⟨lw_p10, List.forall_mem_cons.mpr ⟨lw_p11, List.forall_mem_cons.mpr ⟨lw_p12, List.forall_mem_cons.mpr ⟨lw_p13, List.forall_mem_cons.mpr ⟨lw_p14, List.forall_mem_cons.mpr ⟨lw_p15, fun _ h => absurd h List.not_mem_nil⟩⟩⟩⟩⟩⟩⟩⟩⟩⟩⟩⟩⟩⟩⟩⟩
theorem lw_p16 : lw_okq (⟨"MaynotBeSeenModel", "fromWhere", "(II)I"⟩, 23) := ⟨⟨by decide +kernel, by decide +kernel⟩, List.mem_of_getElem? (i := 456) (by decide +kernel), List.mem_of_getElem? (i := 700) (by decide +kernel), List.mem_of_getElem? (i := 701) (by decide +kernel)⟩
theorem lw_p17 : lw_okq (⟨"MaynotBeSeenModel", "plain", "(II)I"⟩, 23) := ⟨⟨by decide +kernel, by decide +kernel⟩, List.mem_of_getElem? (i := 456) (by decide +kernel), List.mem_of_getElem? (i := 704) (by decide +kernel), List.mem_of_getElem? (i := 705) (by decide +kernel)⟩
theorem lw_p18 : lw_okq (⟨"MaynotBeSeenModel", "beside", "(IZ)I"⟩, 23) := ⟨⟨by decide +kernel, by decide +kernel⟩, List.mem_of_getElem? (i := 456) (by decide +kernel), List.mem_of_getElem? (i := 708) (by decide +kernel), List.mem_of_getElem? (i := 709) (by decide +kernel)⟩
theorem lw_p19 : lw_okq (⟨"MaynotBeSeenModel", "sinsIn", "(I)I"⟩, 23) := ⟨⟨by decide +kernel, by decide +kernel⟩, List.mem_of_getElem? (i := 456) (by decide +kernel), List.mem_of_getElem? (i := 723) (by decide +kernel), List.mem_of_getElem? (i := 724) (by decide +kernel)⟩
theorem lw_p20 : lw_okq (⟨"MaynotBeSeenModel", "look", "(I)V"⟩, 23) := ⟨⟨by decide +kernel, by decide +kernel⟩, List.mem_of_getElem? (i := 456) (by decide +kernel), List.mem_of_getElem? (i := 727) (by decide +kernel), List.mem_of_getElem? (i := 728) (by decide +kernel)⟩
theorem lw_p21 : lw_okq (⟨"MaynotBeSeenModel", "oneMoved", "()I"⟩, 23) := ⟨⟨by decide +kernel, by decide +kernel⟩, List.mem_of_getElem? (i := 456) (by decide +kernel), List.mem_of_getElem? (i := 744) (by decide +kernel), List.mem_of_getElem? (i := 745) (by decide +kernel)⟩
theorem lw_p22 : lw_okq (⟨"MaynotBeSeenModel", "byTwo", "()Z"⟩, 23) := ⟨⟨by decide +kernel, by decide +kernel⟩, List.mem_of_getElem? (i := 456) (by decide +kernel), List.mem_of_getElem? (i := 748) (by decide +kernel), List.mem_of_getElem? (i := 749) (by decide +kernel)⟩
theorem lw_p23 : lw_okq (⟨"MaynotBeSeenModel", "all", "()I"⟩, 23) := ⟨⟨by decide +kernel, by decide +kernel⟩, List.mem_of_getElem? (i := 456) (by decide +kernel), List.mem_of_getElem? (i := 760) (by decide +kernel), List.mem_of_getElem? (i := 761) (by decide +kernel)⟩
theorem lw_p24 : lw_okq (⟨"MaynotBeSeenModel", "waysFor", "(IZ)I"⟩, 23) := ⟨⟨by decide +kernel, by decide +kernel⟩, List.mem_of_getElem? (i := 456) (by decide +kernel), List.mem_of_getElem? (i := 764) (by decide +kernel), List.mem_of_getElem? (i := 765) (by decide +kernel)⟩
theorem lw_p25 : lw_okq (⟨"MaynotBeSeenModel", "mayBe", "(IIZ)Z"⟩, 23) := ⟨⟨by decide +kernel, by decide +kernel⟩, List.mem_of_getElem? (i := 456) (by decide +kernel), List.mem_of_getElem? (i := 772) (by decide +kernel), List.mem_of_getElem? (i := 773) (by decide +kernel)⟩
theorem lw_p26 : lw_okq (⟨"MaynotBeSeenModel", "isClean", "(II)Z"⟩, 23) := ⟨⟨by decide +kernel, by decide +kernel⟩, List.mem_of_getElem? (i := 456) (by decide +kernel), List.mem_of_getElem? (i := 796) (by decide +kernel), List.mem_of_getElem? (i := 797) (by decide +kernel)⟩
def lw_privs_2 : List (MethodName × Nat) := [(⟨"MaynotBeSeenModel", "fromWhere", "(II)I"⟩, 23), (⟨"MaynotBeSeenModel", "plain", "(II)I"⟩, 23), (⟨"MaynotBeSeenModel", "beside", "(IZ)I"⟩, 23), (⟨"MaynotBeSeenModel", "sinsIn", "(I)I"⟩, 23), (⟨"MaynotBeSeenModel", "look", "(I)V"⟩, 23), (⟨"MaynotBeSeenModel", "oneMoved", "()I"⟩, 23), (⟨"MaynotBeSeenModel", "byTwo", "()Z"⟩, 23), (⟨"MaynotBeSeenModel", "all", "()I"⟩, 23), (⟨"MaynotBeSeenModel", "waysFor", "(IZ)I"⟩, 23), (⟨"MaynotBeSeenModel", "mayBe", "(IIZ)Z"⟩, 23), (⟨"MaynotBeSeenModel", "isClean", "(II)Z"⟩, 23)]
theorem lw_r2 : ∀ q ∈ lw_privs_2, lw_okq q := List.forall_mem_cons.mpr ⟨lw_p16, List.forall_mem_cons.mpr ⟨lw_p17, List.forall_mem_cons.mpr ⟨lw_p18, List.forall_mem_cons.mpr ⟨lw_p19, List.forall_mem_cons.mpr ⟨lw_p20, List.forall_mem_cons.mpr ⟨lw_p21, List.forall_mem_cons.mpr ⟨lw_p22, List.forall_mem_cons.mpr ⟨lw_p23, List.forall_mem_cons.mpr ⟨lw_p24, List.forall_mem_cons.mpr ⟨lw_p25, List.forall_mem_cons.mpr ⟨lw_p26, fun _ h => absurd h List.not_mem_nil⟩⟩⟩⟩⟩⟩⟩⟩⟩⟩⟩
def lw_privs : List (MethodName × Nat) := lw_privs_1 ++ (lw_privs_2)
def lw_tbl : List Cond := k2_sels lw_privs ++ tables_1
theorem lw_privs_ok : ∀ q ∈ lw_privs, lw_okq q := by
  show ∀ q ∈ lw_privs_1 ++ (lw_privs_2), lw_okq q
  exact List.forall_mem_append.mpr ⟨lw_r1, lw_r2⟩
def RX0 : String := "MaynotBeSeen$Givings"
def TX0 : u_T := fun k => match k with
  | 0 => ("MaynotBeSeen$Givings", "thingCount", "I", false)
  | 1 => ("MaynotBeSeen$Givings", "allowed", "[I", true)
  | _ => ("MaynotBeSeen$Givings", "within", "[I", true)
def tyX0 : Nat → FieldType := fun k => match k with
  | 0 => .int
  | 1 => .array .int
  | _ => .array .int
theorem nmX0 : ∀ a, a < 3 → ∀ b, b < 3 → a ≠ b → (TX0 a).2.1 ≠ (TX0 b).2.1 := by decide +kernel
theorem tyX0_ok : ∀ k, k < 3 → parseFieldDescriptor (TX0 k).2.2.1 = some (tyX0 k) := by decide +kernel
abbrev cX0_init : ByteArray := prog_2_method_1_code
def yX0_init : MethodName := ⟨RX0, "<init>", "()V"⟩
abbrev cX0_allowUnseen : ByteArray := prog_2_method_2_code
def yX0_allowUnseen : MethodName := ⟨RX0, "allowUnseen", "(LMaynotBeSeen$House;)V"⟩
abbrev cX0_allowApart : ByteArray := prog_2_method_3_code
def yX0_allowApart : MethodName := ⟨RX0, "allowApart", "(LMaynotBeSeen$House;)V"⟩
abbrev cX0_reckon : ByteArray := prog_2_method_4_code
def yX0_reckon : MethodName := ⟨RX0, "reckon", "()V"⟩
abbrev cX0_leastOf : ByteArray := prog_2_method_5_code
def yX0_leastOf : MethodName := ⟨RX0, "leastOf", "(I)I"⟩
abbrev cX0_ofAll : ByteArray := prog_2_method_6_code
def yX0_ofAll : MethodName := ⟨RX0, "ofAll", "()I"⟩
abbrev cX0_othersOf : ByteArray := prog_2_method_7_code
def yX0_othersOf : MethodName := ⟨RX0, "othersOf", "(I)I"⟩
def RX1 : String := "MaynotBeSeen$House"
def TX1 : u_T := fun k => match k with
  | 0 => ("MaynotBeSeen$House", "lineCount", "I", false)
  | 1 => ("MaynotBeSeen$House", "lesser", "[I", true)
  | 2 => ("MaynotBeSeen$House", "greater", "[I", true)
  | 3 => ("MaynotBeSeen$House", "hidden", "I", false)
  | 4 => ("MaynotBeSeen$House", "joined", "[I", true)
  | 5 => ("MaynotBeSeen$House", "open", "[I", true)
  | 6 => ("MaynotBeSeen$House", "thingCount", "I", false)
  | 7 => ("MaynotBeSeen$House", "kinds", "[I", true)
  | 8 => ("MaynotBeSeen$House", "rooms", "[I", true)
  | 9 => ("MaynotBeSeen$House", "others", "[I", true)
  | 10 => ("MaynotBeSeen$House", "hour", "I", false)
  | 11 => ("MaynotBeSeen$House", "setCount", "I", false)
  | _ => ("MaynotBeSeen$House", "sets", "[I", true)
def tyX1 : Nat → FieldType := fun k => match k with
  | 0 => .int
  | 1 => .array .int
  | 2 => .array .int
  | 3 => .int
  | 4 => .array .int
  | 5 => .array .int
  | 6 => .int
  | 7 => .array .int
  | 8 => .array .int
  | 9 => .array .int
  | 10 => .int
  | 11 => .int
  | _ => .array .int
theorem nmX1 : ∀ a, a < 13 → ∀ b, b < 13 → a ≠ b → (TX1 a).2.1 ≠ (TX1 b).2.1 := by decide +kernel
theorem tyX1_ok : ∀ k, k < 13 → parseFieldDescriptor (TX1 k).2.2.1 = some (tyX1 k) := by decide +kernel
abbrev cX1_init : ByteArray := prog_3_method_1_code
def yX1_init : MethodName := ⟨RX1, "<init>", "()V"⟩
abbrev cX1_become : ByteArray := prog_3_method_2_code
def yX1_become : MethodName := ⟨RX1, "become", "(LMaynotBeSeen$House;)V"⟩
abbrev cX1_hasThing : ByteArray := prog_3_method_3_code
def yX1_hasThing : MethodName := ⟨RX1, "hasThing", "(I)Z"⟩
abbrev cX1_hasLine : ByteArray := prog_3_method_4_code
def yX1_hasLine : MethodName := ⟨RX1, "hasLine", "(I)Z"⟩
abbrev cX1_allThings : ByteArray := prog_3_method_5_code
def yX1_allThings : MethodName := ⟨RX1, "allThings", "()I"⟩
abbrev cX1_coupledCount : ByteArray := prog_3_method_6_code
def yX1_coupledCount : MethodName := ⟨RX1, "coupledCount", "()I"⟩
abbrev cX1_hang : ByteArray := prog_3_method_7_code
def yX1_hang : MethodName := ⟨RX1, "hang", "(I)V"⟩
abbrev cX1_couple : ByteArray := prog_3_method_8_code
def yX1_couple : MethodName := ⟨RX1, "couple", "(II)I"⟩
abbrev cX1_leave : ByteArray := prog_3_method_9_code
def yX1_leave : MethodName := ⟨RX1, "leave", "(I)I"⟩
abbrev cX1_addLine : ByteArray := prog_3_method_10_code
def yX1_addLine : MethodName := ⟨RX1, "addLine", "(II)Z"⟩
abbrev cX1_addThing : ByteArray := prog_3_method_11_code
def yX1_addThing : MethodName := ⟨RX1, "addThing", "(II)Z"⟩
abbrev cX1_obey : ByteArray := prog_3_method_12_code
def yX1_obey : MethodName := ⟨RX1, "obey", "(III)Z"⟩
abbrev cX1_toggle : ByteArray := prog_3_method_13_code
def yX1_toggle : MethodName := ⟨RX1, "toggle", "(I)Z"⟩
abbrev cX1_acquaint : ByteArray := prog_3_method_14_code
def yX1_acquaint : MethodName := ⟨RX1, "acquaint", "(II)Z"⟩
abbrev cX1_bring : ByteArray := prog_3_method_15_code
def yX1_bring : MethodName := ⟨RX1, "bring", "(II)Z"⟩
abbrev cX1_strike : ByteArray := prog_3_method_16_code
def yX1_strike : MethodName := ⟨RX1, "strike", "(I)Z"⟩
abbrev cX1_seenFrom : ByteArray := prog_3_method_17_code
def yX1_seenFrom : MethodName := ⟨RX1, "seenFrom", "(II)I"⟩
abbrev cX1_meet : ByteArray := prog_3_method_18_code
def yX1_meet : MethodName := ⟨RX1, "meet", "(III)Z"⟩
abbrev cX1_everMeet : ByteArray := prog_3_method_19_code
def yX1_everMeet : MethodName := ⟨RX1, "everMeet", "(II)Z"⟩
abbrev cX1_sinsAsLesser : ByteArray := prog_3_method_20_code
def yX1_sinsAsLesser : MethodName := ⟨RX1, "sinsAsLesser", "(II)Z"⟩
abbrev cX1_firstSin : ByteArray := prog_3_method_21_code
def yX1_firstSin : MethodName := ⟨RX1, "firstSin", "(I)I"⟩
abbrev cX1_sinCount : ByteArray := prog_3_method_22_code
def yX1_sinCount : MethodName := ⟨RX1, "sinCount", "(I)I"⟩
abbrev cX1_firstSinfulHour : ByteArray := prog_3_method_23_code
def yX1_firstSinfulHour : MethodName := ⟨RX1, "firstSinfulHour", "()I"⟩
def RX2 : String := "MaynotBeSeen$Text"
def TX2 : u_T := fun k => match k with
  | 0 => ("MaynotBeSeen$Text", "letters", "[I", true)
  | _ => ("MaynotBeSeen$Text", "size", "I", false)
def tyX2 : Nat → FieldType := fun k => match k with
  | 0 => .array .int
  | _ => .int
theorem nmX2 : ∀ a, a < 2 → ∀ b, b < 2 → a ≠ b → (TX2 a).2.1 ≠ (TX2 b).2.1 := by decide +kernel
theorem tyX2_ok : ∀ k, k < 2 → parseFieldDescriptor (TX2 k).2.2.1 = some (tyX2 k) := by decide +kernel
abbrev cX2_init : ByteArray := prog_4_method_1_code
def yX2_init : MethodName := ⟨RX2, "<init>", "()V"⟩
abbrev cX2_put : ByteArray := prog_4_method_2_code
def yX2_put : MethodName := ⟨RX2, "put", "(I)I"⟩
abbrev cX2_readInto : ByteArray := prog_4_method_3_code
def yX2_readInto : MethodName := ⟨RX2, "readInto", "(LMaynotBeSeen$House;)I"⟩
abbrev cX2_firstUnfit : ByteArray := prog_4_method_4_code
def yX2_firstUnfit : MethodName := ⟨RX2, "firstUnfit", "()I"⟩
abbrev cX2_fits : ByteArray := prog_4_method_5_code
def yX2_fits : MethodName := ⟨RX2, "fits", "(III)Z"⟩
abbrev cX2_statementLength : ByteArray := prog_4_method_6_code
def yX2_statementLength : MethodName := ⟨RX2, "statementLength", "(I)I"⟩
abbrev cX2_digit : ByteArray := prog_4_method_7_code
def yX2_digit : MethodName := ⟨RX2, "digit", "(I)I"⟩
abbrev cX2_kind : ByteArray := prog_4_method_8_code
def yX2_kind : MethodName := ⟨RX2, "kind", "(I)I"⟩
def RX3 : String := "MaynotBeSeen"
def TX3 : u_T := fun k => match k with
  | 0 => ("MaynotBeSeen", "now", "LMaynotBeSeen$House;", true)
  | 1 => ("MaynotBeSeen", "mind", "LMaynotBeSeen$House;", true)
  | 2 => ("MaynotBeSeen", "kept", "LMaynotBeSeen$House;", true)
  | 3 => ("MaynotBeSeen", "isKept", "Z", false)
  | 4 => ("MaynotBeSeen", "text", "LMaynotBeSeen$Text;", true)
  | 5 => ("MaynotBeSeen", "givings", "LMaynotBeSeen$Givings;", true)
  | 6 => ("MaynotBeSeen", "orders", "[I", true)
  | 7 => ("MaynotBeSeen", "moves", "[I", true)
  | 8 => ("MaynotBeSeen", "moveCount", "I", false)
  | _ => ("MaynotBeSeen", "refusals", "[I", true)
def tyX3 : Nat → FieldType := fun k => match k with
  | 0 => .object "MaynotBeSeen$House"
  | 1 => .object "MaynotBeSeen$House"
  | 2 => .object "MaynotBeSeen$House"
  | 3 => .boolean
  | 4 => .object "MaynotBeSeen$Text"
  | 5 => .object "MaynotBeSeen$Givings"
  | 6 => .array .int
  | 7 => .array .int
  | 8 => .int
  | _ => .array .int
theorem nmX3 : ∀ a, a < 10 → ∀ b, b < 10 → a ≠ b → (TX3 a).2.1 ≠ (TX3 b).2.1 := by decide +kernel
theorem tyX3_ok : ∀ k, k < 10 → parseFieldDescriptor (TX3 k).2.2.1 = some (tyX3 k) := by decide +kernel
abbrev cX3_init : ByteArray := prog_1_method_1_code
def yX3_init : MethodName := ⟨RX3, "<init>", "()V"⟩
abbrev cX3_letter : ByteArray := prog_1_method_2_code
def yX3_letter : MethodName := ⟨RX3, "letter", "(I)I"⟩
abbrev cX3_house : ByteArray := prog_1_method_3_code
def yX3_house : MethodName := ⟨RX3, "house", "()I"⟩
abbrev cX3_thing : ByteArray := prog_1_method_4_code
def yX3_thing : MethodName := ⟨RX3, "thing", "(II)I"⟩
abbrev cX3_line : ByteArray := prog_1_method_5_code
def yX3_line : MethodName := ⟨RX3, "line", "(II)I"⟩
abbrev cX3_curtain : ByteArray := prog_1_method_6_code
def yX3_curtain : MethodName := ⟨RX3, "curtain", "(I)I"⟩
abbrev cX3_move : ByteArray := prog_1_method_7_code
def yX3_move : MethodName := ⟨RX3, "move", "(II)I"⟩
abbrev cX3_pair : ByteArray := prog_1_method_8_code
def yX3_pair : MethodName := ⟨RX3, "pair", "(II)I"⟩
abbrev cX3_hour : ByteArray := prog_1_method_9_code
def yX3_hour : MethodName := ⟨RX3, "hour", "(I)I"⟩
abbrev cX3_seen : ByteArray := prog_1_method_10_code
def yX3_seen : MethodName := ⟨RX3, "seen", "(II)I"⟩
abbrev cX3_from : ByteArray := prog_1_method_11_code
def yX3_from : MethodName := ⟨RX3, "from", "(II)I"⟩
abbrev cX3_sins : ByteArray := prog_1_method_12_code
def yX3_sins : MethodName := ⟨RX3, "sins", "(II)I"⟩
abbrev cX3_day : ByteArray := prog_1_method_13_code
def yX3_day : MethodName := ⟨RX3, "day", "()I"⟩
abbrev cX3_curtains : ByteArray := prog_1_method_14_code
def yX3_curtains : MethodName := ⟨RX3, "curtains", "()I"⟩
abbrev cX3_moved : ByteArray := prog_1_method_15_code
def yX3_moved : MethodName := ⟨RX3, "moved", "(I)I"⟩
abbrev cX3_given : ByteArray := prog_1_method_16_code
def yX3_given : MethodName := ⟨RX3, "given", "(I)I"⟩
abbrev cX3_pairings : ByteArray := prog_1_method_17_code
def yX3_pairings : MethodName := ⟨RX3, "pairings", "(I)I"⟩
abbrev cX3_together : ByteArray := prog_1_method_18_code
def yX3_together : MethodName := ⟨RX3, "together", "(I)I"⟩
abbrev cX3_may : ByteArray := prog_1_method_19_code
def yX3_may : MethodName := ⟨RX3, "may", "(I)I"⟩
abbrev cX3_ways : ByteArray := prog_1_method_20_code
def yX3_ways : MethodName := ⟨RX3, "ways", "()I"⟩
abbrev cX3_feast : ByteArray := prog_1_method_21_code
def yX3_feast : MethodName := ⟨RX3, "feast", "(II)I"⟩
abbrev cX3_clean : ByteArray := prog_1_method_22_code
def yX3_clean : MethodName := ⟨RX3, "clean", "(I)I"⟩
abbrev cX3_row : ByteArray := prog_1_method_23_code
def yX3_row : MethodName := ⟨RX3, "row", "(I)I"⟩
abbrev cX3_judge : ByteArray := prog_1_method_24_code
def yX3_judge : MethodName := ⟨RX3, "judge", "()I"⟩
abbrev cX3_seeds : ByteArray := prog_1_method_25_code
def yX3_seeds : MethodName := ⟨RX3, "seeds", "(II)I"⟩
abbrev cX3_image : ByteArray := prog_1_method_26_code
def yX3_image : MethodName := ⟨RX3, "image", "()I"⟩
abbrev cX3_on : ByteArray := prog_1_method_27_code
def yX3_on : MethodName := ⟨RX3, "on", "()I"⟩
abbrev cX3_count : ByteArray := prog_1_method_28_code
def yX3_count : MethodName := ⟨RX3, "count", "(I)I"⟩
abbrev cX3_refuse : ByteArray := prog_1_method_29_code
def yX3_refuse : MethodName := ⟨RX3, "refuse", "(I)I"⟩
abbrev cX3_outOf : ByteArray := prog_1_method_30_code
def yX3_outOf : MethodName := ⟨RX3, "outOf", "(III)I"⟩
abbrev cX3_isRoom : ByteArray := prog_1_method_31_code
def yX3_isRoom : MethodName := ⟨RX3, "isRoom", "(I)Z"⟩
abbrev cX3_firstCure : ByteArray := prog_1_method_32_code
def yX3_firstCure : MethodName := ⟨RX3, "firstCure", "(I)I"⟩
abbrev cX3_twoCure : ByteArray := prog_1_method_33_code
def yX3_twoCure : MethodName := ⟨RX3, "twoCure", "()Z"⟩
abbrev cX3_ordersBehind : ByteArray := prog_1_method_34_code
def yX3_ordersBehind : MethodName := ⟨RX3, "ordersBehind", "(II)I"⟩
abbrev cX3_firstCarried : ByteArray := prog_1_method_35_code
def yX3_firstCarried : MethodName := ⟨RX3, "firstCarried", "()I"⟩
abbrev cX3_firstBadMove : ByteArray := prog_1_method_36_code
def yX3_firstBadMove : MethodName := ⟨RX3, "firstBadMove", "()I"⟩
abbrev cX3_nextSeed : ByteArray := prog_1_method_37_code
def yX3_nextSeed : MethodName := ⟨RX3, "nextSeed", "(I)I"⟩
abbrev cX3_draw : ByteArray := prog_1_method_38_code
def yX3_draw : MethodName := ⟨RX3, "draw", "(II)I"⟩
def RX4 : String := "MaynotBeSeenModel"
def TX4 : u_T := fun k => match k with
  | 0 => ("MaynotBeSeenModel", "lines", "I", false)
  | 1 => ("MaynotBeSeenModel", "one", "[I", true)
  | 2 => ("MaynotBeSeenModel", "two", "[I", true)
  | 3 => ("MaynotBeSeenModel", "hung", "I", false)
  | 4 => ("MaynotBeSeenModel", "things", "I", false)
  | 5 => ("MaynotBeSeenModel", "kind", "[I", true)
  | 6 => ("MaynotBeSeenModel", "room", "[I", true)
  | 7 => ("MaynotBeSeenModel", "other", "[I", true)
  | 8 => ("MaynotBeSeenModel", "hour", "I", false)
  | 9 => ("MaynotBeSeenModel", "sets", "I", false)
  | 10 => ("MaynotBeSeenModel", "set", "[I", true)
  | 11 => ("MaynotBeSeenModel", "letters", "I", false)
  | 12 => ("MaynotBeSeenModel", "letter", "[I", true)
  | 13 => ("MaynotBeSeenModel", "at", "I", false)
  | 14 => ("MaynotBeSeenModel", "value", "[I", true)
  | 15 => ("MaynotBeSeenModel", "inRow", "I", false)
  | 16 => ("MaynotBeSeenModel", "row", "[I", true)
  | 17 => ("MaynotBeSeenModel", "refusals", "[I", true)
  | 18 => ("MaynotBeSeenModel", "imaged", "Z", false)
  | 19 => ("MaynotBeSeenModel", "image", "[I", true)
  | 20 => ("MaynotBeSeenModel", "ahead", "[I", true)
  | 21 => ("MaynotBeSeenModel", "seen", "[I", true)
  | _ => ("MaynotBeSeenModel", "orders", "[I", true)
def tyX4 : Nat → FieldType := fun k => match k with
  | 0 => .int
  | 1 => .array .int
  | 2 => .array .int
  | 3 => .int
  | 4 => .int
  | 5 => .array .int
  | 6 => .array .int
  | 7 => .array .int
  | 8 => .int
  | 9 => .int
  | 10 => .array .int
  | 11 => .int
  | 12 => .array .int
  | 13 => .int
  | 14 => .array .int
  | 15 => .int
  | 16 => .array .int
  | 17 => .array .int
  | 18 => .boolean
  | 19 => .array .int
  | 20 => .array .int
  | 21 => .array .int
  | _ => .array .int
theorem nmX4 : ∀ a, a < 23 → ∀ b, b < 23 → a ≠ b → (TX4 a).2.1 ≠ (TX4 b).2.1 := by decide +kernel
theorem tyX4_ok : ∀ k, k < 23 → parseFieldDescriptor (TX4 k).2.2.1 = some (tyX4 k) := by decide +kernel
abbrev cX4_init : ByteArray := prog_6_method_1_code
def yX4_init : MethodName := ⟨RX4, "<init>", "()V"⟩
abbrev cX4_no : ByteArray := prog_6_method_2_code
def yX4_no : MethodName := ⟨RX4, "no", "(I)I"⟩
abbrev cX4_within : ByteArray := prog_6_method_3_code
def yX4_within : MethodName := ⟨RX4, "within", "(III)Z"⟩
abbrev cX4_has : ByteArray := prog_6_method_4_code
def yX4_has : MethodName := ⟨RX4, "has", "(II)Z"⟩
abbrev cX4_isThing : ByteArray := prog_6_method_5_code
def yX4_isThing : MethodName := ⟨RX4, "isThing", "(I)Z"⟩
abbrev cX4_isLine : ByteArray := prog_6_method_6_code
def yX4_isLine : MethodName := ⟨RX4, "isLine", "(I)Z"⟩
abbrev cX4_isRoom : ByteArray := prog_6_method_7_code
def yX4_isRoom : MethodName := ⟨RX4, "isRoom", "(I)Z"⟩
abbrev cX4_letter : ByteArray := prog_6_method_8_code
def yX4_letter : MethodName := ⟨RX4, "letter", "(I)I"⟩
abbrev cX4_is : ByteArray := prog_6_method_9_code
def yX4_is : MethodName := ⟨RX4, "is", "(I)Z"⟩
abbrev cX4_digit : ByteArray := prog_6_method_10_code
def yX4_digit : MethodName := ⟨RX4, "digit", "(I)Z"⟩
abbrev cX4_isOld : ByteArray := prog_6_method_11_code
def yX4_isOld : MethodName := ⟨RX4, "isOld", "(II)Z"⟩
abbrev cX4_statement : ByteArray := prog_6_method_12_code
def yX4_statement : MethodName := ⟨RX4, "statement", "(Z)I"⟩
abbrev cX4_house : ByteArray := prog_6_method_13_code
def yX4_house : MethodName := ⟨RX4, "house", "()I"⟩
abbrev cX4_give : ByteArray := prog_6_method_14_code
def yX4_give : MethodName := ⟨RX4, "give", "(II)I"⟩
abbrev cX4_thing : ByteArray := prog_6_method_15_code
def yX4_thing : MethodName := ⟨RX4, "thing", "(II)I"⟩
abbrev cX4_line : ByteArray := prog_6_method_16_code
def yX4_line : MethodName := ⟨RX4, "line", "(II)I"⟩
abbrev cX4_curtain : ByteArray := prog_6_method_17_code
def yX4_curtain : MethodName := ⟨RX4, "curtain", "(I)I"⟩
abbrev cX4_move : ByteArray := prog_6_method_18_code
def yX4_move : MethodName := ⟨RX4, "move", "(II)I"⟩
abbrev cX4_pair : ByteArray := prog_6_method_19_code
def yX4_pair : MethodName := ⟨RX4, "pair", "(II)I"⟩
abbrev cX4_hour : ByteArray := prog_6_method_20_code
def yX4_hour : MethodName := ⟨RX4, "hour", "(I)I"⟩
abbrev cX4_beside : ByteArray := prog_6_method_21_code
def yX4_beside : MethodName := ⟨RX4, "beside", "(IZ)I"⟩
abbrev cX4_plain : ByteArray := prog_6_method_22_code
def yX4_plain : MethodName := ⟨RX4, "plain", "(II)I"⟩
abbrev cX4_fromWhere : ByteArray := prog_6_method_23_code
def yX4_fromWhere : MethodName := ⟨RX4, "fromWhere", "(II)I"⟩
abbrev cX4_look : ByteArray := prog_6_method_24_code
def yX4_look : MethodName := ⟨RX4, "look", "(I)V"⟩
abbrev cX4_sinsIn : ByteArray := prog_6_method_25_code
def yX4_sinsIn : MethodName := ⟨RX4, "sinsIn", "(I)I"⟩
abbrev cX4_seen : ByteArray := prog_6_method_26_code
def yX4_seen : MethodName := ⟨RX4, "seen", "(II)I"⟩
abbrev cX4_from : ByteArray := prog_6_method_27_code
def yX4_from : MethodName := ⟨RX4, "from", "(II)I"⟩
abbrev cX4_sins : ByteArray := prog_6_method_28_code
def yX4_sins : MethodName := ⟨RX4, "sins", "(II)I"⟩
abbrev cX4_day : ByteArray := prog_6_method_29_code
def yX4_day : MethodName := ⟨RX4, "day", "()I"⟩
abbrev cX4_curtains : ByteArray := prog_6_method_30_code
def yX4_curtains : MethodName := ⟨RX4, "curtains", "()I"⟩
abbrev cX4_oneMoved : ByteArray := prog_6_method_31_code
def yX4_oneMoved : MethodName := ⟨RX4, "oneMoved", "()I"⟩
abbrev cX4_byTwo : ByteArray := prog_6_method_32_code
def yX4_byTwo : MethodName := ⟨RX4, "byTwo", "()Z"⟩
abbrev cX4_moved : ByteArray := prog_6_method_33_code
def yX4_moved : MethodName := ⟨RX4, "moved", "(I)I"⟩
abbrev cX4_given : ByteArray := prog_6_method_34_code
def yX4_given : MethodName := ⟨RX4, "given", "(I)I"⟩
abbrev cX4_mayBe : ByteArray := prog_6_method_35_code
def yX4_mayBe : MethodName := ⟨RX4, "mayBe", "(IIZ)Z"⟩
abbrev cX4_waysFor : ByteArray := prog_6_method_36_code
def yX4_waysFor : MethodName := ⟨RX4, "waysFor", "(IZ)I"⟩
abbrev cX4_all : ByteArray := prog_6_method_37_code
def yX4_all : MethodName := ⟨RX4, "all", "()I"⟩
abbrev cX4_pairings : ByteArray := prog_6_method_38_code
def yX4_pairings : MethodName := ⟨RX4, "pairings", "(I)I"⟩
abbrev cX4_together : ByteArray := prog_6_method_39_code
def yX4_together : MethodName := ⟨RX4, "together", "(I)I"⟩
abbrev cX4_may : ByteArray := prog_6_method_40_code
def yX4_may : MethodName := ⟨RX4, "may", "(I)I"⟩
abbrev cX4_ways : ByteArray := prog_6_method_41_code
def yX4_ways : MethodName := ⟨RX4, "ways", "()I"⟩
abbrev cX4_feast : ByteArray := prog_6_method_42_code
def yX4_feast : MethodName := ⟨RX4, "feast", "(II)I"⟩
abbrev cX4_isClean : ByteArray := prog_6_method_43_code
def yX4_isClean : MethodName := ⟨RX4, "isClean", "(II)Z"⟩
abbrev cX4_clean : ByteArray := prog_6_method_44_code
def yX4_clean : MethodName := ⟨RX4, "clean", "(I)I"⟩
abbrev cX4_row : ByteArray := prog_6_method_45_code
def yX4_row : MethodName := ⟨RX4, "row", "(I)I"⟩
abbrev cX4_judge : ByteArray := prog_6_method_46_code
def yX4_judge : MethodName := ⟨RX4, "judge", "()I"⟩
abbrev cX4_seeds : ByteArray := prog_6_method_47_code
def yX4_seeds : MethodName := ⟨RX4, "seeds", "(II)I"⟩
abbrev cX4_keep : ByteArray := prog_6_method_48_code
def yX4_keep : MethodName := ⟨RX4, "keep", "([I)V"⟩
abbrev cX4_again : ByteArray := prog_6_method_49_code
def yX4_again : MethodName := ⟨RX4, "again", "([I)V"⟩
abbrev cX4_image : ByteArray := prog_6_method_50_code
def yX4_image : MethodName := ⟨RX4, "image", "()I"⟩
abbrev cX4_on : ByteArray := prog_6_method_51_code
def yX4_on : MethodName := ⟨RX4, "on", "()I"⟩
abbrev cX4_count : ByteArray := prog_6_method_52_code
def yX4_count : MethodName := ⟨RX4, "count", "(I)I"⟩
def RJ11 : String := "java/lang/Character"
def TJ11 : u_T := fun k => match k with
  | _ => ("", "", "", false)
def tyJ11 : Nat → FieldType := fun k => match k with
  | _ => .int
theorem nmJ11 : ∀ a, a < 0 → ∀ b, b < 0 → a ≠ b → (TJ11 a).2.1 ≠ (TJ11 b).2.1 := by decide +kernel
theorem tyJ11_ok : ∀ k, k < 0 → parseFieldDescriptor (TJ11 k).2.2.1 = some (tyJ11 k) := by decide +kernel
abbrev cJ11_isValidCodePoint_9a6ad : ByteArray := prog_7_method_11_code
def yJ11_isValidCodePoint_9a6ad : MethodName := ⟨RJ11, "isValidCodePoint", "(I)Z"⟩
abbrev cJ11_highSurrogate_5068e : ByteArray := prog_7_method_28_code
def yJ11_highSurrogate_5068e : MethodName := ⟨RJ11, "highSurrogate", "(I)C"⟩
abbrev cJ11_lowSurrogate_5068e : ByteArray := prog_7_method_29_code
def yJ11_lowSurrogate_5068e : MethodName := ⟨RJ11, "lowSurrogate", "(I)C"⟩
def RJ6 : String := "java/lang/Integer"
def TJ6 : u_T := fun k => match k with
  | _ => ("", "", "", false)
def tyJ6 : Nat → FieldType := fun k => match k with
  | _ => .int
theorem nmJ6 : ∀ a, a < 0 → ∀ b, b < 0 → a ≠ b → (TJ6 a).2.1 ≠ (TJ6 b).2.1 := by decide +kernel
theorem tyJ6_ok : ∀ k, k < 0 → parseFieldDescriptor (TJ6 k).2.2.1 = some (tyJ6 k) := by decide +kernel
abbrev cJ6_numberOfTrailingZeros_0f7a4 : ByteArray := prog_8_method_48_code
def yJ6_numberOfTrailingZeros_0f7a4 : MethodName := ⟨RJ6, "numberOfTrailingZeros", "(I)I"⟩
abbrev cJ6_bitCount_0f7a4 : ByteArray := prog_8_method_49_code
def yJ6_bitCount_0f7a4 : MethodName := ⟨RJ6, "bitCount", "(I)I"⟩
def RJ9 : String := "java/lang/Math"
def TJ9 : u_T := fun k => match k with
  | _ => ("", "", "", false)
def tyJ9 : Nat → FieldType := fun k => match k with
  | _ => .int
theorem nmJ9 : ∀ a, a < 0 → ∀ b, b < 0 → a ≠ b → (TJ9 a).2.1 ≠ (TJ9 b).2.1 := by decide +kernel
theorem tyJ9_ok : ∀ k, k < 0 → parseFieldDescriptor (TJ9 k).2.2.1 = some (tyJ9 k) := by decide +kernel
abbrev cJ9_max_7cf53 : ByteArray := prog_9_method_65_code
def yJ9_max_7cf53 : MethodName := ⟨RJ9, "max", "(II)I"⟩
abbrev cJ9_min_7cf53 : ByteArray := prog_9_method_69_code
def yJ9_min_7cf53 : MethodName := ⟨RJ9, "min", "(II)I"⟩
def RJ0 : String := "java/lang/String"
def TJ0 : u_T := fun k => match k with
  | _ => ("", "", "", false)
def tyJ0 : Nat → FieldType := fun k => match k with
  | _ => .int
theorem nmJ0 : ∀ a, a < 0 → ∀ b, b < 0 → a ≠ b → (TJ0 a).2.1 ≠ (TJ0 b).2.1 := by decide +kernel
theorem tyJ0_ok : ∀ k, k < 0 → parseFieldDescriptor (TJ0 k).2.2.1 = some (tyJ0 k) := by decide +kernel
abbrev cJ0_length_8abf5 : ByteArray := prog_10_method_54_code
def yJ0_length_8abf5 : MethodName := ⟨RJ0, "length", "()I"⟩
abbrev cJ0_indexOf_0f7a4 : ByteArray := prog_10_method_79_code
def yJ0_indexOf_0f7a4 : MethodName := ⟨RJ0, "indexOf", "(I)I"⟩
abbrev cJ0_indexOf_7cf53 : ByteArray := prog_10_method_80_code
def yJ0_indexOf_7cf53 : MethodName := ⟨RJ0, "indexOf", "(II)I"⟩
abbrev cJ0_coder_7d493 : ByteArray := prog_10_method_152_code
def yJ0_coder_7d493 : MethodName := ⟨RJ0, "coder", "()B"⟩
abbrev cJ0_isLatin1_aae02 : ByteArray := prog_10_method_154_code
def yJ0_isLatin1_aae02 : MethodName := ⟨RJ0, "isLatin1", "()Z"⟩
abbrev cJ0_checkBoundsBeginEnd_23922 : ByteArray := prog_10_method_158_code
def yJ0_checkBoundsBeginEnd_23922 : MethodName := ⟨RJ0, "checkBoundsBeginEnd", "(III)V"⟩
def RJ1 : String := "java/lang/StringLatin1"
def TJ1 : u_T := fun k => match k with
  | _ => ("", "", "", false)
def tyJ1 : Nat → FieldType := fun k => match k with
  | _ => .int
theorem nmJ1 : ∀ a, a < 0 → ∀ b, b < 0 → a ≠ b → (TJ1 a).2.1 ≠ (TJ1 b).2.1 := by decide +kernel
theorem tyJ1_ok : ∀ k, k < 0 → parseFieldDescriptor (TJ1 k).2.2.1 = some (tyJ1 k) := by decide +kernel
abbrev cJ1_canEncode_9a6ad : ByteArray := prog_11_method_4_code
def yJ1_canEncode_9a6ad : MethodName := ⟨RJ1, "canEncode", "(I)Z"⟩
abbrev cJ1_indexOf_4cfef : ByteArray := prog_11_method_22_code
def yJ1_indexOf_4cfef : MethodName := ⟨RJ1, "indexOf", "([BIII)I"⟩
abbrev cJ1_indexOfChar_4cfef : ByteArray := prog_11_method_23_code
def yJ1_indexOfChar_4cfef : MethodName := ⟨RJ1, "indexOfChar", "([BIII)I"⟩
def RJ2 : String := "java/lang/StringUTF16"
def TJ2 : u_T := fun k => match k with
  | _ => ("", "", "", false)
def tyJ2 : Nat → FieldType := fun k => match k with
  | _ => .int
theorem nmJ2 : ∀ a, a < 0 → ∀ b, b < 0 → a ≠ b → (TJ2 a).2.1 ≠ (TJ2 b).2.1 := by decide +kernel
theorem tyJ2_ok : ∀ k, k < 0 → parseFieldDescriptor (TJ2 k).2.2.1 = some (tyJ2 k) := by decide +kernel
abbrev cJ2_getChar_3b067 : ByteArray := prog_12_method_5_code
def yJ2_getChar_3b067 : MethodName := ⟨RJ2, "getChar", "([BI)C"⟩
abbrev cJ2_length_9d52b : ByteArray := prog_12_method_6_code
def yJ2_length_9d52b : MethodName := ⟨RJ2, "length", "([B)I"⟩
abbrev cJ2_indexOf_4cfef : ByteArray := prog_12_method_40_code
def yJ2_indexOf_4cfef : MethodName := ⟨RJ2, "indexOf", "([BIII)I"⟩
abbrev cJ2_indexOfChar_4cfef : ByteArray := prog_12_method_47_code
def yJ2_indexOfChar_4cfef : MethodName := ⟨RJ2, "indexOfChar", "([BIII)I"⟩
abbrev cJ2_indexOfCharUnsafe_4cfef : ByteArray := prog_12_method_48_code
def yJ2_indexOfCharUnsafe_4cfef : MethodName := ⟨RJ2, "indexOfCharUnsafe", "([BIII)I"⟩
abbrev cJ2_indexOfSupplementary_4cfef : ByteArray := prog_12_method_49_code
def yJ2_indexOfSupplementary_4cfef : MethodName := ⟨RJ2, "indexOfSupplementary", "([BIII)I"⟩
abbrev cJ2_checkBoundsBeginEnd_d044e : ByteArray := prog_12_method_93_code
def yJ2_checkBoundsBeginEnd_d044e : MethodName := ⟨RJ2, "checkBoundsBeginEnd", "(II[B)V"⟩
def RJ10 : String := "java/lang/System"
def TJ10 : u_T := fun k => match k with
  | _ => ("", "", "", false)
def tyJ10 : Nat → FieldType := fun k => match k with
  | _ => .int
theorem nmJ10 : ∀ a, a < 0 → ∀ b, b < 0 → a ≠ b → (TJ10 a).2.1 ≠ (TJ10 b).2.1 := by decide +kernel
theorem tyJ10_ok : ∀ k, k < 0 → parseFieldDescriptor (TJ10 k).2.2.1 = some (tyJ10 k) := by decide +kernel
def RJ3 : String := "jdk/internal/util/Preconditions"
def TJ3 : u_T := fun k => match k with
  | _ => ("", "", "", false)
def tyJ3 : Nat → FieldType := fun k => match k with
  | _ => .int
theorem nmJ3 : ∀ a, a < 0 → ∀ b, b < 0 → a ≠ b → (TJ3 a).2.1 ≠ (TJ3 b).2.1 := by decide +kernel
theorem tyJ3_ok : ∀ k, k < 0 → parseFieldDescriptor (TJ3 k).2.2.1 = some (tyJ3 k) := by decide +kernel
abbrev cJ3_checkFromToIndex_8c36e : ByteArray := prog_14_method_12_code
def yJ3_checkFromToIndex_8c36e : MethodName := ⟨RJ3, "checkFromToIndex", "(IIILjava/util/function/BiFunction;)I"⟩
def RL : String := "MaynotBeSeenLaw"
abbrev cL_law : ByteArray := code
def yL_law : MethodName := ⟨RL, "law", "([I)Z"⟩
abbrev vwCl : List vw_C := [(RX0, TX0, 3), (RX1, TX1, 13), (RX2, TX2, 2), (RX3, TX3, 10), (RX4, TX4, 23)]
