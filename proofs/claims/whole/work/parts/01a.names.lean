-- ===== PART A: goes FIRST, ahead of the names: the tables' words, and 'selects' of the private methods out of them =====
/-- a private method of a class that the tables say can be made, by its rows of tables_1 -/
def lw_okq (q : MethodName × Nat) : Prop := (q.1.cls ≠ "java/lang/invoke/MethodHandle" ∧ q.1.cls ≠ "java/lang/invoke/VarHandle") ∧ Cond.instantiable q.1.cls q.2 ∈ tables_1 ∧ Cond.privateMethod q.1 ∈ tables_1 ∧ Cond.instanceMethod q.1 ∈ tables_1
theorem lw_p0 : lw_okq (⟨"NeverHadBefore$People", "crossThings", "(II)V"⟩, 4) := ⟨⟨by decide +kernel, by decide +kernel⟩, List.mem_of_getElem? (i := 40) (by decide +kernel), List.mem_of_getElem? (i := 380) (by decide +kernel), List.mem_of_getElem? (i := 381) (by decide +kernel)⟩
theorem lw_p1 : lw_okq (⟨"NeverHadBefore$Acts", "add", "(I)V"⟩, 2) := ⟨⟨by decide +kernel, by decide +kernel⟩, List.mem_of_getElem? (i := 78) (by decide +kernel), List.mem_of_getElem? (i := 398) (by decide +kernel), List.mem_of_getElem? (i := 399) (by decide +kernel)⟩
theorem lw_p2 : lw_okq (⟨"NeverHadBefore", "firstThatMayNotBe", "(I)I"⟩, 11) := ⟨⟨by decide +kernel, by decide +kernel⟩, List.mem_of_getElem? (i := 17) (by decide +kernel), List.mem_of_getElem? (i := 429) (by decide +kernel), List.mem_of_getElem? (i := 430) (by decide +kernel)⟩
theorem lw_p3 : lw_okq (⟨"NeverHadBefore$Runs", "noteEnd", "(I)V"⟩, 3) := ⟨⟨by decide +kernel, by decide +kernel⟩, List.mem_of_getElem? (i := 92) (by decide +kernel), List.mem_of_getElem? (i := 448) (by decide +kernel), List.mem_of_getElem? (i := 449) (by decide +kernel)⟩
theorem lw_p4 : lw_okq (⟨"NeverHadBefore$Wants", "met", "(LNeverHadBefore$People;)Z"⟩, 5) := ⟨⟨by decide +kernel, by decide +kernel⟩, List.mem_of_getElem? (i := 111) (by decide +kernel), List.mem_of_getElem? (i := 477) (by decide +kernel), List.mem_of_getElem? (i := 478) (by decide +kernel)⟩
theorem lw_p5 : lw_okq (⟨"NeverHadBefore$Wants", "takeRow", "(I)V"⟩, 5) := ⟨⟨by decide +kernel, by decide +kernel⟩, List.mem_of_getElem? (i := 111) (by decide +kernel), List.mem_of_getElem? (i := 481) (by decide +kernel), List.mem_of_getElem? (i := 482) (by decide +kernel)⟩
theorem lw_p6 : lw_okq (⟨"NeverHadBefore$Rings", "compare", "(LNeverHadBefore$People;I)V"⟩, 4) := ⟨⟨by decide +kernel, by decide +kernel⟩, List.mem_of_getElem? (i := 140) (by decide +kernel), List.mem_of_getElem? (i := 537) (by decide +kernel), List.mem_of_getElem? (i := 538) (by decide +kernel)⟩
theorem lw_p7 : lw_okq (⟨"NeverHadBefore$Sights", "fits", "(IZ)Z"⟩, 3) := ⟨⟨by decide +kernel, by decide +kernel⟩, List.mem_of_getElem? (i := 175) (by decide +kernel), List.mem_of_getElem? (i := 616) (by decide +kernel), List.mem_of_getElem? (i := 617) (by decide +kernel)⟩
theorem lw_p8 : lw_okq (⟨"NeverHadBeforeModel", "readFair", "()I"⟩, 32) := ⟨⟨by decide +kernel, by decide +kernel⟩, List.mem_of_getElem? (i := 649) (by decide +kernel), List.mem_of_getElem? (i := 768) (by decide +kernel), List.mem_of_getElem? (i := 769) (by decide +kernel)⟩
theorem lw_p9 : lw_okq (⟨"NeverHadBeforeModel", "readPerson", "()Z"⟩, 32) := ⟨⟨by decide +kernel, by decide +kernel⟩, List.mem_of_getElem? (i := 649) (by decide +kernel), List.mem_of_getElem? (i := 772) (by decide +kernel), List.mem_of_getElem? (i := 773) (by decide +kernel)⟩
theorem lw_p10 : lw_okq (⟨"NeverHadBeforeModel", "sign", "()I"⟩, 32) := ⟨⟨by decide +kernel, by decide +kernel⟩, List.mem_of_getElem? (i := 649) (by decide +kernel), List.mem_of_getElem? (i := 776) (by decide +kernel), List.mem_of_getElem? (i := 777) (by decide +kernel)⟩
theorem lw_p11 : lw_okq (⟨"NeverHadBeforeModel", "isDead", "(I)Z"⟩, 32) := ⟨⟨by decide +kernel, by decide +kernel⟩, List.mem_of_getElem? (i := 649) (by decide +kernel), List.mem_of_getElem? (i := 795) (by decide +kernel), List.mem_of_getElem? (i := 796) (by decide +kernel)⟩
theorem lw_p12 : lw_okq (⟨"NeverHadBeforeModel", "worthOf", "(II)I"⟩, 32) := ⟨⟨by decide +kernel, by decide +kernel⟩, List.mem_of_getElem? (i := 649) (by decide +kernel), List.mem_of_getElem? (i := 799) (by decide +kernel), List.mem_of_getElem? (i := 800) (by decide +kernel)⟩
theorem lw_p13 : lw_okq (⟨"NeverHadBeforeModel", "holding", "()I"⟩, 32) := ⟨⟨by decide +kernel, by decide +kernel⟩, List.mem_of_getElem? (i := 649) (by decide +kernel), List.mem_of_getElem? (i := 803) (by decide +kernel), List.mem_of_getElem? (i := 804) (by decide +kernel)⟩
theorem lw_p14 : lw_okq (⟨"NeverHadBeforeModel", "noOne", "(I)Z"⟩, 32) := ⟨⟨by decide +kernel, by decide +kernel⟩, List.mem_of_getElem? (i := 649) (by decide +kernel), List.mem_of_getElem? (i := 811) (by decide +kernel), List.mem_of_getElem? (i := 812) (by decide +kernel)⟩
theorem lw_p15 : lw_okq (⟨"NeverHadBeforeModel", "mayAt", "(III)Z"⟩, 32) := ⟨⟨by decide +kernel, by decide +kernel⟩, List.mem_of_getElem? (i := 649) (by decide +kernel), List.mem_of_getElem? (i := 836) (by decide +kernel), List.mem_of_getElem? (i := 837) (by decide +kernel)⟩
def lw_privs_1 : List (MethodName × Nat) := [(⟨"NeverHadBefore$People", "crossThings", "(II)V"⟩, 4), (⟨"NeverHadBefore$Acts", "add", "(I)V"⟩, 2), (⟨"NeverHadBefore", "firstThatMayNotBe", "(I)I"⟩, 11), (⟨"NeverHadBefore$Runs", "noteEnd", "(I)V"⟩, 3), (⟨"NeverHadBefore$Wants", "met", "(LNeverHadBefore$People;)Z"⟩, 5), (⟨"NeverHadBefore$Wants", "takeRow", "(I)V"⟩, 5), (⟨"NeverHadBefore$Rings", "compare", "(LNeverHadBefore$People;I)V"⟩, 4), (⟨"NeverHadBefore$Sights", "fits", "(IZ)Z"⟩, 3), (⟨"NeverHadBeforeModel", "readFair", "()I"⟩, 32), (⟨"NeverHadBeforeModel", "readPerson", "()Z"⟩, 32), (⟨"NeverHadBeforeModel", "sign", "()I"⟩, 32), (⟨"NeverHadBeforeModel", "isDead", "(I)Z"⟩, 32), (⟨"NeverHadBeforeModel", "worthOf", "(II)I"⟩, 32), (⟨"NeverHadBeforeModel", "holding", "()I"⟩, 32), (⟨"NeverHadBeforeModel", "noOne", "(I)Z"⟩, 32), (⟨"NeverHadBeforeModel", "mayAt", "(III)Z"⟩, 32)]
theorem lw_r1 : ∀ q ∈ lw_privs_1, lw_okq q := List.forall_mem_cons.mpr ⟨lw_p0, List.forall_mem_cons.mpr ⟨lw_p1, List.forall_mem_cons.mpr ⟨lw_p2, List.forall_mem_cons.mpr ⟨lw_p3, List.forall_mem_cons.mpr ⟨lw_p4, List.forall_mem_cons.mpr ⟨lw_p5, List.forall_mem_cons.mpr ⟨lw_p6, List.forall_mem_cons.mpr ⟨lw_p7, List.forall_mem_cons.mpr ⟨lw_p8, List.forall_mem_cons.mpr ⟨lw_p9, List.forall_mem_cons.mpr ⟨lw_p10, List.forall_mem_cons.mpr ⟨lw_p11, List.forall_mem_cons.mpr ⟨lw_p12, List.forall_mem_cons.mpr ⟨lw_p13, List.forall_mem_cons.mpr ⟨lw_p14, List.forall_mem_cons.mpr ⟨lw_p15, fun _ h => absurd h List.not_mem_nil⟩⟩⟩⟩⟩⟩⟩⟩⟩⟩⟩⟩⟩⟩⟩⟩
theorem lw_p16 : lw_okq (⟨"NeverHadBeforeModel", "note", "()V"⟩, 32) := ⟨⟨by decide +kernel, by decide +kernel⟩, List.mem_of_getElem? (i := 649) (by decide +kernel), List.mem_of_getElem? (i := 844) (by decide +kernel), List.mem_of_getElem? (i := 845) (by decide +kernel)⟩
theorem lw_p17 : lw_okq (⟨"NeverHadBeforeModel", "goAt", "(III)V"⟩, 32) := ⟨⟨by decide +kernel, by decide +kernel⟩, List.mem_of_getElem? (i := 649) (by decide +kernel), List.mem_of_getElem? (i := 848) (by decide +kernel), List.mem_of_getElem? (i := 849) (by decide +kernel)⟩
theorem lw_p18 : lw_okq (⟨"NeverHadBeforeModel", "layAt", "(II)V"⟩, 32) := ⟨⟨by decide +kernel, by decide +kernel⟩, List.mem_of_getElem? (i := 649) (by decide +kernel), List.mem_of_getElem? (i := 865) (by decide +kernel), List.mem_of_getElem? (i := 866) (by decide +kernel)⟩
theorem lw_p19 : lw_okq (⟨"NeverHadBeforeModel", "goRuns", "(I)V"⟩, 32) := ⟨⟨by decide +kernel, by decide +kernel⟩, List.mem_of_getElem? (i := 649) (by decide +kernel), List.mem_of_getElem? (i := 873) (by decide +kernel), List.mem_of_getElem? (i := 874) (by decide +kernel)⟩
theorem lw_p20 : lw_okq (⟨"NeverHadBeforeModel", "next", "(I)Z"⟩, 32) := ⟨⟨by decide +kernel, by decide +kernel⟩, List.mem_of_getElem? (i := 649) (by decide +kernel), List.mem_of_getElem? (i := 878) (by decide +kernel), List.mem_of_getElem? (i := 879) (by decide +kernel)⟩
theorem lw_p21 : lw_okq (⟨"NeverHadBeforeModel", "fewestNow", "()I"⟩, 32) := ⟨⟨by decide +kernel, by decide +kernel⟩, List.mem_of_getElem? (i := 649) (by decide +kernel), List.mem_of_getElem? (i := 898) (by decide +kernel), List.mem_of_getElem? (i := 899) (by decide +kernel)⟩
theorem lw_p22 : lw_okq (⟨"NeverHadBeforeModel", "findPlan", "(I)Z"⟩, 32) := ⟨⟨by decide +kernel, by decide +kernel⟩, List.mem_of_getElem? (i := 649) (by decide +kernel), List.mem_of_getElem? (i := 902) (by decide +kernel), List.mem_of_getElem? (i := 903) (by decide +kernel)⟩
theorem lw_p23 : lw_okq (⟨"NeverHadBeforeModel", "areHad", "(I)Z"⟩, 32) := ⟨⟨by decide +kernel, by decide +kernel⟩, List.mem_of_getElem? (i := 649) (by decide +kernel), List.mem_of_getElem? (i := 906) (by decide +kernel), List.mem_of_getElem? (i := 907) (by decide +kernel)⟩
theorem lw_p24 : lw_okq (⟨"NeverHadBeforeModel", "findRings", "()V"⟩, 32) := ⟨⟨by decide +kernel, by decide +kernel⟩, List.mem_of_getElem? (i := 649) (by decide +kernel), List.mem_of_getElem? (i := 926) (by decide +kernel), List.mem_of_getElem? (i := 927) (by decide +kernel)⟩
theorem lw_p25 : lw_okq (⟨"NeverHadBeforeModel", "moreBy", "()I"⟩, 32) := ⟨⟨by decide +kernel, by decide +kernel⟩, List.mem_of_getElem? (i := 649) (by decide +kernel), List.mem_of_getElem? (i := 930) (by decide +kernel), List.mem_of_getElem? (i := 931) (by decide +kernel)⟩
theorem lw_p26 : lw_okq (⟨"NeverHadBeforeModel", "movers", "()I"⟩, 32) := ⟨⟨by decide +kernel, by decide +kernel⟩, List.mem_of_getElem? (i := 649) (by decide +kernel), List.mem_of_getElem? (i := 934) (by decide +kernel), List.mem_of_getElem? (i := 935) (by decide +kernel)⟩
theorem lw_p27 : lw_okq (⟨"NeverHadBeforeModel", "goTurns", "(I)V"⟩, 32) := ⟨⟨by decide +kernel, by decide +kernel⟩, List.mem_of_getElem? (i := 649) (by decide +kernel), List.mem_of_getElem? (i := 951) (by decide +kernel), List.mem_of_getElem? (i := 952) (by decide +kernel)⟩
theorem lw_p28 : lw_okq (⟨"NeverHadBeforeModel", "nextTurn", "(I)Z"⟩, 32) := ⟨⟨by decide +kernel, by decide +kernel⟩, List.mem_of_getElem? (i := 649) (by decide +kernel), List.mem_of_getElem? (i := 955) (by decide +kernel), List.mem_of_getElem? (i := 956) (by decide +kernel)⟩
theorem lw_p29 : lw_okq (⟨"NeverHadBeforeModel", "takes", "(III)Z"⟩, 32) := ⟨⟨by decide +kernel, by decide +kernel⟩, List.mem_of_getElem? (i := 649) (by decide +kernel), List.mem_of_getElem? (i := 959) (by decide +kernel), List.mem_of_getElem? (i := 960) (by decide +kernel)⟩
theorem lw_p30 : lw_okq (⟨"NeverHadBeforeModel", "offer", "(I)V"⟩, 32) := ⟨⟨by decide +kernel, by decide +kernel⟩, List.mem_of_getElem? (i := 649) (by decide +kernel), List.mem_of_getElem? (i := 963) (by decide +kernel), List.mem_of_getElem? (i := 964) (by decide +kernel)⟩
theorem lw_p31 : lw_okq (⟨"NeverHadBeforeModel", "fits", "(I)Z"⟩, 32) := ⟨⟨by decide +kernel, by decide +kernel⟩, List.mem_of_getElem? (i := 649) (by decide +kernel), List.mem_of_getElem? (i := 983) (by decide +kernel), List.mem_of_getElem? (i := 984) (by decide +kernel)⟩
def lw_privs_2 : List (MethodName × Nat) := [(⟨"NeverHadBeforeModel", "note", "()V"⟩, 32), (⟨"NeverHadBeforeModel", "goAt", "(III)V"⟩, 32), (⟨"NeverHadBeforeModel", "layAt", "(II)V"⟩, 32), (⟨"NeverHadBeforeModel", "goRuns", "(I)V"⟩, 32), (⟨"NeverHadBeforeModel", "next", "(I)Z"⟩, 32), (⟨"NeverHadBeforeModel", "fewestNow", "()I"⟩, 32), (⟨"NeverHadBeforeModel", "findPlan", "(I)Z"⟩, 32), (⟨"NeverHadBeforeModel", "areHad", "(I)Z"⟩, 32), (⟨"NeverHadBeforeModel", "findRings", "()V"⟩, 32), (⟨"NeverHadBeforeModel", "moreBy", "()I"⟩, 32), (⟨"NeverHadBeforeModel", "movers", "()I"⟩, 32), (⟨"NeverHadBeforeModel", "goTurns", "(I)V"⟩, 32), (⟨"NeverHadBeforeModel", "nextTurn", "(I)Z"⟩, 32), (⟨"NeverHadBeforeModel", "takes", "(III)Z"⟩, 32), (⟨"NeverHadBeforeModel", "offer", "(I)V"⟩, 32), (⟨"NeverHadBeforeModel", "fits", "(I)Z"⟩, 32)]
theorem lw_r2 : ∀ q ∈ lw_privs_2, lw_okq q := List.forall_mem_cons.mpr ⟨lw_p16, List.forall_mem_cons.mpr ⟨lw_p17, List.forall_mem_cons.mpr ⟨lw_p18, List.forall_mem_cons.mpr ⟨lw_p19, List.forall_mem_cons.mpr ⟨lw_p20, List.forall_mem_cons.mpr ⟨lw_p21, List.forall_mem_cons.mpr ⟨lw_p22, List.forall_mem_cons.mpr ⟨lw_p23, List.forall_mem_cons.mpr ⟨lw_p24, List.forall_mem_cons.mpr ⟨lw_p25, List.forall_mem_cons.mpr ⟨lw_p26, List.forall_mem_cons.mpr ⟨lw_p27, List.forall_mem_cons.mpr ⟨lw_p28, List.forall_mem_cons.mpr ⟨lw_p29, List.forall_mem_cons.mpr ⟨lw_p30, List.forall_mem_cons.mpr ⟨lw_p31, fun _ h => absurd h List.not_mem_nil⟩⟩⟩⟩⟩⟩⟩⟩⟩⟩⟩⟩⟩⟩⟩⟩
def lw_privs : List (MethodName × Nat) := lw_privs_1 ++ (lw_privs_2)
def lw_tbl : List Cond := k2_sels lw_privs ++ tables_1
theorem lw_privs_ok : ∀ q ∈ lw_privs, lw_okq q := by
  show ∀ q ∈ lw_privs_1 ++ (lw_privs_2), lw_okq q
  exact List.forall_mem_append.mpr ⟨lw_r1, lw_r2⟩
def RX0 : String := "NeverHadBefore$Acts"
def TX0 : u_T := fun k => match k with
  | 0 => ("NeverHadBefore$Acts", "count", "I", false)
  | _ => ("NeverHadBefore$Acts", "row", "[I", true)
def tyX0 : Nat → FieldType := fun k => match k with
  | 0 => .int
  | _ => .array .int
theorem nmX0 : ∀ a, a < 2 → ∀ b, b < 2 → a ≠ b → (TX0 a).2.1 ≠ (TX0 b).2.1 := by decide +kernel
theorem tyX0_ok : ∀ k, k < 2 → parseFieldDescriptor (TX0 k).2.2.1 = some (tyX0 k) := by decide +kernel
abbrev cX0_init : ByteArray := prog_2_method_1_code
def yX0_init : MethodName := ⟨RX0, "<init>", "()V"⟩
abbrev cX0_addExchange : ByteArray := prog_2_method_2_code
def yX0_addExchange : MethodName := ⟨RX0, "addExchange", "(II)V"⟩
abbrev cX0_addSea : ByteArray := prog_2_method_3_code
def yX0_addSea : MethodName := ⟨RX0, "addSea", "(II)V"⟩
abbrev cX0_add : ByteArray := prog_2_method_4_code
def yX0_add : MethodName := ⟨RX0, "add", "(I)V"⟩
abbrev cX0_undoLast : ByteArray := prog_2_method_5_code
def yX0_undoLast : MethodName := ⟨RX0, "undoLast", "(LNeverHadBefore$People;)V"⟩
def RX1 : String := "NeverHadBefore$People"
def TX1 : u_T := fun k => match k with
  | 0 => ("NeverHadBefore$People", "count", "I", false)
  | 1 => ("NeverHadBefore$People", "held", "[I", true)
  | 2 => ("NeverHadBefore$People", "known", "[I", true)
  | _ => ("NeverHadBefore$People", "worths", "[I", true)
def tyX1 : Nat → FieldType := fun k => match k with
  | 0 => .int
  | 1 => .array .int
  | 2 => .array .int
  | _ => .array .int
theorem nmX1 : ∀ a, a < 4 → ∀ b, b < 4 → a ≠ b → (TX1 a).2.1 ≠ (TX1 b).2.1 := by decide +kernel
theorem tyX1_ok : ∀ k, k < 4 → parseFieldDescriptor (TX1 k).2.2.1 = some (tyX1 k) := by decide +kernel
abbrev cX1_init : ByteArray := prog_3_method_1_code
def yX1_init : MethodName := ⟨RX1, "<init>", "()V"⟩
abbrev cX1_has : ByteArray := prog_3_method_2_code
def yX1_has : MethodName := ⟨RX1, "has", "(I)Z"⟩
abbrev cX1_become : ByteArray := prog_3_method_3_code
def yX1_become : MethodName := ⟨RX1, "become", "(LNeverHadBefore$People;)V"⟩
abbrev cX1_addPerson : ByteArray := prog_3_method_4_code
def yX1_addPerson : MethodName := ⟨RX1, "addPerson", "()Z"⟩
abbrev cX1_worthOf : ByteArray := prog_3_method_5_code
def yX1_worthOf : MethodName := ⟨RX1, "worthOf", "(II)I"⟩
abbrev cX1_setWorth : ByteArray := prog_3_method_6_code
def yX1_setWorth : MethodName := ⟨RX1, "setWorth", "(III)V"⟩
abbrev cX1_isNew : ByteArray := prog_3_method_7_code
def yX1_isNew : MethodName := ⟨RX1, "isNew", "(II)Z"⟩
abbrev cX1_lacks : ByteArray := prog_3_method_8_code
def yX1_lacks : MethodName := ⟨RX1, "lacks", "(II)Z"⟩
abbrev cX1_canSwap : ByteArray := prog_3_method_9_code
def yX1_canSwap : MethodName := ⟨RX1, "canSwap", "(II)Z"⟩
abbrev cX1_canSwapAtAll : ByteArray := prog_3_method_10_code
def yX1_canSwapAtAll : MethodName := ⟨RX1, "canSwapAtAll", "(I)Z"⟩
abbrev cX1_swap : ByteArray := prog_3_method_11_code
def yX1_swap : MethodName := ⟨RX1, "swap", "(II)V"⟩
abbrev cX1_swapBack : ByteArray := prog_3_method_12_code
def yX1_swapBack : MethodName := ⟨RX1, "swapBack", "(II)V"⟩
abbrev cX1_crossThings : ByteArray := prog_3_method_13_code
def yX1_crossThings : MethodName := ⟨RX1, "crossThings", "(II)V"⟩
abbrev cX1_isDead : ByteArray := prog_3_method_14_code
def yX1_isDead : MethodName := ⟨RX1, "isDead", "(I)Z"⟩
abbrev cX1_deadThings : ByteArray := prog_3_method_15_code
def yX1_deadThings : MethodName := ⟨RX1, "deadThings", "()I"⟩
abbrev cX1_holders : ByteArray := prog_3_method_16_code
def yX1_holders : MethodName := ⟨RX1, "holders", "()I"⟩
abbrev cX1_wealth : ByteArray := prog_3_method_17_code
def yX1_wealth : MethodName := ⟨RX1, "wealth", "()I"⟩
def RX2 : String := "NeverHadBefore$Reach"
def TX2 : u_T := fun k => match k with
  | _ => ("", "", "", false)
def tyX2 : Nat → FieldType := fun k => match k with
  | _ => .int
theorem nmX2 : ∀ a, a < 0 → ∀ b, b < 0 → a ≠ b → (TX2 a).2.1 ≠ (TX2 b).2.1 := by decide +kernel
theorem tyX2_ok : ∀ k, k < 0 → parseFieldDescriptor (TX2 k).2.2.1 = some (tyX2 k) := by decide +kernel
abbrev cX2_sorts : ByteArray := prog_4_method_2_code
def yX2_sorts : MethodName := ⟨RX2, "sorts", "(LNeverHadBefore$People;I)I"⟩
abbrev cX2_wholeHope : ByteArray := prog_4_method_3_code
def yX2_wholeHope : MethodName := ⟨RX2, "wholeHope", "(LNeverHadBefore$People;I)I"⟩
abbrev cX2_come : ByteArray := prog_4_method_4_code
def yX2_come : MethodName := ⟨RX2, "come", "(LNeverHadBefore$People;IIII)I"⟩
abbrev cX2_bestBegin : ByteArray := prog_4_method_5_code
def yX2_bestBegin : MethodName := ⟨RX2, "bestBegin", "(LNeverHadBefore$People;I)I"⟩
def RX3 : String := "NeverHadBefore$Rings"
def TX3 : u_T := fun k => match k with
  | 0 => ("NeverHadBefore$Rings", "bestGain", "I", false)
  | 1 => ("NeverHadBefore$Rings", "bestFrom", "[I", true)
  | 2 => ("NeverHadBefore$Rings", "bestTakers", "I", false)
  | _ => ("NeverHadBefore$Rings", "from", "[I", true)
def tyX3 : Nat → FieldType := fun k => match k with
  | 0 => .int
  | 1 => .array .int
  | 2 => .int
  | _ => .array .int
theorem nmX3 : ∀ a, a < 4 → ∀ b, b < 4 → a ≠ b → (TX3 a).2.1 ≠ (TX3 b).2.1 := by decide +kernel
theorem tyX3_ok : ∀ k, k < 4 → parseFieldDescriptor (TX3 k).2.2.1 = some (tyX3 k) := by decide +kernel
abbrev cX3_init : ByteArray := prog_5_method_1_code
def yX3_init : MethodName := ⟨RX3, "<init>", "()V"⟩
abbrev cX3_choose : ByteArray := prog_5_method_2_code
def yX3_choose : MethodName := ⟨RX3, "choose", "(LNeverHadBefore$People;)V"⟩
abbrev cX3_give : ByteArray := prog_5_method_3_code
def yX3_give : MethodName := ⟨RX3, "give", "(LNeverHadBefore$Rings;LNeverHadBefore$People;III)V"⟩
abbrev cX3_isBetter : ByteArray := prog_5_method_4_code
def yX3_isBetter : MethodName := ⟨RX3, "isBetter", "(LNeverHadBefore$People;II)Z"⟩
abbrev cX3_compare : ByteArray := prog_5_method_5_code
def yX3_compare : MethodName := ⟨RX3, "compare", "(LNeverHadBefore$People;I)V"⟩
def RX4 : String := "NeverHadBefore$Runs"
def TX4 : u_T := fun k => match k with
  | 0 => ("NeverHadBefore$Runs", "most", "I", false)
  | 1 => ("NeverHadBefore$Runs", "least", "I", false)
  | _ => ("NeverHadBefore$Runs", "number", "I", false)
def tyX4 : Nat → FieldType := fun k => match k with
  | 0 => .int
  | 1 => .int
  | _ => .int
theorem nmX4 : ∀ a, a < 3 → ∀ b, b < 3 → a ≠ b → (TX4 a).2.1 ≠ (TX4 b).2.1 := by decide +kernel
theorem tyX4_ok : ∀ k, k < 3 → parseFieldDescriptor (TX4 k).2.2.1 = some (tyX4 k) := by decide +kernel
abbrev cX4_init : ByteArray := prog_6_method_1_code
def yX4_init : MethodName := ⟨RX4, "<init>", "()V"⟩
abbrev cX4_walkAll : ByteArray := prog_6_method_2_code
def yX4_walkAll : MethodName := ⟨RX4, "walkAll", "(LNeverHadBefore$People;)V"⟩
abbrev cX4_walk : ByteArray := prog_6_method_3_code
def yX4_walk : MethodName := ⟨RX4, "walk", "(LNeverHadBefore$Runs;LNeverHadBefore$People;I)V"⟩
abbrev cX4_noteEnd : ByteArray := prog_6_method_4_code
def yX4_noteEnd : MethodName := ⟨RX4, "noteEnd", "(I)V"⟩
def RX5 : String := "NeverHadBefore$Sights"
def TX5 : u_T := fun k => match k with
  | 0 => ("NeverHadBefore$Sights", "count", "I", false)
  | 1 => ("NeverHadBefore$Sights", "sorts", "[I", true)
  | _ => ("NeverHadBefore$Sights", "tooks", "[Z", true)
def tyX5 : Nat → FieldType := fun k => match k with
  | 0 => .int
  | 1 => .array .int
  | _ => .array .boolean
theorem nmX5 : ∀ a, a < 3 → ∀ b, b < 3 → a ≠ b → (TX5 a).2.1 ≠ (TX5 b).2.1 := by decide +kernel
theorem tyX5_ok : ∀ k, k < 3 → parseFieldDescriptor (TX5 k).2.2.1 = some (tyX5 k) := by decide +kernel
abbrev cX5_init : ByteArray := prog_7_method_1_code
def yX5_init : MethodName := ⟨RX5, "<init>", "()V"⟩
abbrev cX5_add : ByteArray := prog_7_method_2_code
def yX5_add : MethodName := ⟨RX5, "add", "(IZ)V"⟩
abbrev cX5_fits : ByteArray := prog_7_method_3_code
def yX5_fits : MethodName := ⟨RX5, "fits", "(IZ)Z"⟩
abbrev cX5_fittingLists : ByteArray := prog_7_method_4_code
def yX5_fittingLists : MethodName := ⟨RX5, "fittingLists", "()I"⟩
abbrev cX5_hadAtFirst : ByteArray := prog_7_method_5_code
def yX5_hadAtFirst : MethodName := ⟨RX5, "hadAtFirst", "(I)I"⟩
def RX6 : String := "NeverHadBefore$Slot"
def TX6 : u_T := fun k => match k with
  | 0 => ("NeverHadBefore$Slot", "filled", "Z", false)
  | 1 => ("NeverHadBefore$Slot", "held", "[I", true)
  | _ => ("NeverHadBefore$Slot", "known", "[I", true)
def tyX6 : Nat → FieldType := fun k => match k with
  | 0 => .boolean
  | 1 => .array .int
  | _ => .array .int
theorem nmX6 : ∀ a, a < 3 → ∀ b, b < 3 → a ≠ b → (TX6 a).2.1 ≠ (TX6 b).2.1 := by decide +kernel
theorem tyX6_ok : ∀ k, k < 3 → parseFieldDescriptor (TX6 k).2.2.1 = some (tyX6 k) := by decide +kernel
abbrev cX6_init : ByteArray := prog_8_method_1_code
def yX6_init : MethodName := ⟨RX6, "<init>", "()V"⟩
abbrev cX6_store : ByteArray := prog_8_method_2_code
def yX6_store : MethodName := ⟨RX6, "store", "(LNeverHadBefore$People;)V"⟩
abbrev cX6_restore : ByteArray := prog_8_method_3_code
def yX6_restore : MethodName := ⟨RX6, "restore", "(LNeverHadBefore$People;)V"⟩
def RX7 : String := "NeverHadBefore$Text"
def TX7 : u_T := fun k => match k with
  | 0 => ("NeverHadBefore$Text", "length", "I", false)
  | _ => ("NeverHadBefore$Text", "bytes", "[I", true)
def tyX7 : Nat → FieldType := fun k => match k with
  | 0 => .int
  | _ => .array .int
theorem nmX7 : ∀ a, a < 2 → ∀ b, b < 2 → a ≠ b → (TX7 a).2.1 ≠ (TX7 b).2.1 := by decide +kernel
theorem tyX7_ok : ∀ k, k < 2 → parseFieldDescriptor (TX7 k).2.2.1 = some (tyX7 k) := by decide +kernel
abbrev cX7_init : ByteArray := prog_9_method_1_code
def yX7_init : MethodName := ⟨RX7, "<init>", "()V"⟩
abbrev cX7_append : ByteArray := prog_9_method_2_code
def yX7_append : MethodName := ⟨RX7, "append", "(IJ)V"⟩
abbrev cX7_readInto : ByteArray := prog_9_method_3_code
def yX7_readInto : MethodName := ⟨RX7, "readInto", "(LNeverHadBefore$People;)I"⟩
abbrev cX7_take : ByteArray := prog_9_method_4_code
def yX7_take : MethodName := ⟨RX7, "take", "(LNeverHadBefore$People;II)I"⟩
abbrev cX7_takeThing : ByteArray := prog_9_method_5_code
def yX7_takeThing : MethodName := ⟨RX7, "takeThing", "(LNeverHadBefore$People;II)I"⟩
abbrev cX7_takeWorth : ByteArray := prog_9_method_6_code
def yX7_takeWorth : MethodName := ⟨RX7, "takeWorth", "(LNeverHadBefore$People;III)I"⟩
abbrev cX7_takeKnown : ByteArray := prog_9_method_7_code
def yX7_takeKnown : MethodName := ⟨RX7, "takeKnown", "(LNeverHadBefore$People;II)I"⟩
def RX8 : String := "NeverHadBefore$Turns"
def TX8 : u_T := fun k => match k with
  | 0 => ("NeverHadBefore$Turns", "opening", "I", false)
  | _ => ("NeverHadBefore$Turns", "end", "I", false)
def tyX8 : Nat → FieldType := fun k => match k with
  | 0 => .int
  | _ => .int
theorem nmX8 : ∀ a, a < 2 → ∀ b, b < 2 → a ≠ b → (TX8 a).2.1 ≠ (TX8 b).2.1 := by decide +kernel
theorem tyX8_ok : ∀ k, k < 2 → parseFieldDescriptor (TX8 k).2.2.1 = some (tyX8 k) := by decide +kernel
abbrev cX8_init : ByteArray := prog_10_method_1_code
def yX8_init : MethodName := ⟨RX8, "<init>", "()V"⟩
abbrev cX8_play : ByteArray := prog_10_method_2_code
def yX8_play : MethodName := ⟨RX8, "play", "(LNeverHadBefore$People;I)V"⟩
abbrev cX8_holdsInTheEnd : ByteArray := prog_10_method_3_code
def yX8_holdsInTheEnd : MethodName := ⟨RX8, "holdsInTheEnd", "(I)I"⟩
abbrev cX8_bestEnd : ByteArray := prog_10_method_4_code
def yX8_bestEnd : MethodName := ⟨RX8, "bestEnd", "(LNeverHadBefore$Turns;LNeverHadBefore$People;II)I"⟩
abbrev cX8_agrees : ByteArray := prog_10_method_5_code
def yX8_agrees : MethodName := ⟨RX8, "agrees", "(LNeverHadBefore$People;II)Z"⟩
abbrev cX8_allThings : ByteArray := prog_10_method_6_code
def yX8_allThings : MethodName := ⟨RX8, "allThings", "(LNeverHadBefore$People;)I"⟩
abbrev cX8_thingIn : ByteArray := prog_10_method_7_code
def yX8_thingIn : MethodName := ⟨RX8, "thingIn", "(II)I"⟩
abbrev cX8_worthIn : ByteArray := prog_10_method_8_code
def yX8_worthIn : MethodName := ⟨RX8, "worthIn", "(LNeverHadBefore$People;II)I"⟩
def RX9 : String := "NeverHadBefore$Wants"
def TX9 : u_T := fun k => match k with
  | 0 => ("NeverHadBefore$Wants", "wanted", "[I", true)
  | 1 => ("NeverHadBefore$Wants", "best", "I", false)
  | 2 => ("NeverHadBefore$Wants", "bestRow", "[I", true)
  | 3 => ("NeverHadBefore$Wants", "row", "[I", true)
  | _ => ("NeverHadBefore$Wants", "limit", "I", false)
def tyX9 : Nat → FieldType := fun k => match k with
  | 0 => .array .int
  | 1 => .int
  | 2 => .array .int
  | 3 => .array .int
  | _ => .int
theorem nmX9 : ∀ a, a < 5 → ∀ b, b < 5 → a ≠ b → (TX9 a).2.1 ≠ (TX9 b).2.1 := by decide +kernel
theorem tyX9_ok : ∀ k, k < 5 → parseFieldDescriptor (TX9 k).2.2.1 = some (tyX9 k) := by decide +kernel
abbrev cX9_init : ByteArray := prog_11_method_1_code
def yX9_init : MethodName := ⟨RX9, "<init>", "()V"⟩
abbrev cX9_forget : ByteArray := prog_11_method_2_code
def yX9_forget : MethodName := ⟨RX9, "forget", "()V"⟩
abbrev cX9_howMany : ByteArray := prog_11_method_3_code
def yX9_howMany : MethodName := ⟨RX9, "howMany", "(LNeverHadBefore$People;)I"⟩
abbrev cX9_met : ByteArray := prog_11_method_4_code
def yX9_met : MethodName := ⟨RX9, "met", "(LNeverHadBefore$People;)Z"⟩
abbrev cX9_seekAll : ByteArray := prog_11_method_5_code
def yX9_seekAll : MethodName := ⟨RX9, "seekAll", "(LNeverHadBefore$People;)V"⟩
abbrev cX9_seek : ByteArray := prog_11_method_6_code
def yX9_seek : MethodName := ⟨RX9, "seek", "(LNeverHadBefore$Wants;LNeverHadBefore$People;I)V"⟩
abbrev cX9_takeRow : ByteArray := prog_11_method_7_code
def yX9_takeRow : MethodName := ⟨RX9, "takeRow", "(I)V"⟩
def RX10 : String := "NeverHadBefore"
def TX10 : u_T := fun k => match k with
  | 0 => ("NeverHadBefore", "text", "LNeverHadBefore$Text;", true)
  | 1 => ("NeverHadBefore", "people", "LNeverHadBefore$People;", true)
  | 2 => ("NeverHadBefore", "draft", "LNeverHadBefore$People;", true)
  | 3 => ("NeverHadBefore", "acts", "LNeverHadBefore$Acts;", true)
  | 4 => ("NeverHadBefore", "ends", "LNeverHadBefore$Runs;", true)
  | 5 => ("NeverHadBefore", "wants", "LNeverHadBefore$Wants;", true)
  | 6 => ("NeverHadBefore", "circle", "LNeverHadBefore$Rings;", true)
  | 7 => ("NeverHadBefore", "game", "LNeverHadBefore$Turns;", true)
  | 8 => ("NeverHadBefore", "stranger", "LNeverHadBefore$Sights;", true)
  | 9 => ("NeverHadBefore", "slots", "[LNeverHadBefore$Slot;", true)
  | _ => ("NeverHadBefore", "judged", "[I", true)
def tyX10 : Nat → FieldType := fun k => match k with
  | 0 => .object "NeverHadBefore$Text"
  | 1 => .object "NeverHadBefore$People"
  | 2 => .object "NeverHadBefore$People"
  | 3 => .object "NeverHadBefore$Acts"
  | 4 => .object "NeverHadBefore$Runs"
  | 5 => .object "NeverHadBefore$Wants"
  | 6 => .object "NeverHadBefore$Rings"
  | 7 => .object "NeverHadBefore$Turns"
  | 8 => .object "NeverHadBefore$Sights"
  | 9 => .array (.object "NeverHadBefore$Slot")
  | _ => .array .int
theorem nmX10 : ∀ a, a < 11 → ∀ b, b < 11 → a ≠ b → (TX10 a).2.1 ≠ (TX10 b).2.1 := by decide +kernel
theorem tyX10_ok : ∀ k, k < 11 → parseFieldDescriptor (TX10 k).2.2.1 = some (tyX10 k) := by decide +kernel
abbrev cX10_init : ByteArray := prog_1_method_1_code
def yX10_init : MethodName := ⟨RX10, "<init>", "()V"⟩
abbrev cX10_write : ByteArray := prog_1_method_2_code
def yX10_write : MethodName := ⟨RX10, "write", "(IJ)I"⟩
abbrev cX10_wipe : ByteArray := prog_1_method_3_code
def yX10_wipe : MethodName := ⟨RX10, "wipe", "()I"⟩
abbrev cX10_fault : ByteArray := prog_1_method_4_code
def yX10_fault : MethodName := ⟨RX10, "fault", "()I"⟩
abbrev cX10_fair : ByteArray := prog_1_method_5_code
def yX10_fair : MethodName := ⟨RX10, "fair", "()I"⟩
abbrev cX10_about : ByteArray := prog_1_method_6_code
def yX10_about : MethodName := ⟨RX10, "about", "(I)I"⟩
abbrev cX10_holds : ByteArray := prog_1_method_7_code
def yX10_holds : MethodName := ⟨RX10, "holds", "(I)I"⟩
abbrev cX10_had : ByteArray := prog_1_method_8_code
def yX10_had : MethodName := ⟨RX10, "had", "(I)I"⟩
abbrev cX10_worth : ByteArray := prog_1_method_9_code
def yX10_worth : MethodName := ⟨RX10, "worth", "(II)I"⟩
abbrev cX10_value : ByteArray := prog_1_method_10_code
def yX10_value : MethodName := ⟨RX10, "value", "(III)I"⟩
abbrev cX10_may : ByteArray := prog_1_method_11_code
def yX10_may : MethodName := ⟨RX10, "may", "(II)I"⟩
abbrev cX10_exchange : ByteArray := prog_1_method_12_code
def yX10_exchange : MethodName := ⟨RX10, "exchange", "(II)I"⟩
abbrev cX10_sea : ByteArray := prog_1_method_13_code
def yX10_sea : MethodName := ⟨RX10, "sea", "(I)I"⟩
abbrev cX10_undo : ByteArray := prog_1_method_14_code
def yX10_undo : MethodName := ⟨RX10, "undo", "()I"⟩
abbrev cX10_judge : ByteArray := prog_1_method_15_code
def yX10_judge : MethodName := ⟨RX10, "judge", "(II)I"⟩
abbrev cX10_firstThatMayNotBe : ByteArray := prog_1_method_16_code
def yX10_firstThatMayNotBe : MethodName := ⟨RX10, "firstThatMayNotBe", "(I)I"⟩
abbrev cX10_longest : ByteArray := prog_1_method_17_code
def yX10_longest : MethodName := ⟨RX10, "longest", "()I"⟩
abbrev cX10_shortest : ByteArray := prog_1_method_18_code
def yX10_shortest : MethodName := ⟨RX10, "shortest", "()I"⟩
abbrev cX10_runs : ByteArray := prog_1_method_19_code
def yX10_runs : MethodName := ⟨RX10, "runs", "()I"⟩
abbrev cX10_want : ByteArray := prog_1_method_20_code
def yX10_want : MethodName := ⟨RX10, "want", "(II)I"⟩
abbrev cX10_fewest : ByteArray := prog_1_method_21_code
def yX10_fewest : MethodName := ⟨RX10, "fewest", "()I"⟩
abbrev cX10_plan : ByteArray := prog_1_method_22_code
def yX10_plan : MethodName := ⟨RX10, "plan", "(I)I"⟩
abbrev cX10_mayComeTo : ByteArray := prog_1_method_23_code
def yX10_mayComeTo : MethodName := ⟨RX10, "mayComeTo", "(I)I"⟩
abbrev cX10_begin : ByteArray := prog_1_method_24_code
def yX10_begin : MethodName := ⟨RX10, "begin", "(I)I"⟩
abbrev cX10_rings : ByteArray := prog_1_method_25_code
def yX10_rings : MethodName := ⟨RX10, "rings", "()I"⟩
abbrev cX10_ringAt : ByteArray := prog_1_method_26_code
def yX10_ringAt : MethodName := ⟨RX10, "ringAt", "(I)I"⟩
abbrev cX10_frees : ByteArray := prog_1_method_27_code
def yX10_frees : MethodName := ⟨RX10, "frees", "(I)I"⟩
abbrev cX10_turns : ByteArray := prog_1_method_28_code
def yX10_turns : MethodName := ⟨RX10, "turns", "(II)I"⟩
abbrev cX10_first : ByteArray := prog_1_method_29_code
def yX10_first : MethodName := ⟨RX10, "first", "(I)I"⟩
abbrev cX10_sight : ByteArray := prog_1_method_30_code
def yX10_sight : MethodName := ⟨RX10, "sight", "(IZ)I"⟩
abbrev cX10_unsee : ByteArray := prog_1_method_31_code
def yX10_unsee : MethodName := ⟨RX10, "unsee", "()I"⟩
abbrev cX10_lists : ByteArray := prog_1_method_32_code
def yX10_lists : MethodName := ⟨RX10, "lists", "()I"⟩
abbrev cX10_listed : ByteArray := prog_1_method_33_code
def yX10_listed : MethodName := ⟨RX10, "listed", "(I)I"⟩
abbrev cX10_keep : ByteArray := prog_1_method_34_code
def yX10_keep : MethodName := ⟨RX10, "keep", "(I)I"⟩
abbrev cX10_again : ByteArray := prog_1_method_35_code
def yX10_again : MethodName := ⟨RX10, "again", "(I)I"⟩
abbrev cX10_isSort : ByteArray := prog_1_method_36_code
def yX10_isSort : MethodName := ⟨RX10, "isSort", "(I)Z"⟩
abbrev cX10_isSlot : ByteArray := prog_1_method_37_code
def yX10_isSlot : MethodName := ⟨RX10, "isSlot", "(I)Z"⟩
abbrev cX10_bit : ByteArray := prog_1_method_38_code
def yX10_bit : MethodName := ⟨RX10, "bit", "(I)I"⟩
abbrev cX10_told : ByteArray := prog_1_method_39_code
def yX10_told : MethodName := ⟨RX10, "told", "(II)I"⟩
def RX11 : String := "NeverHadBeforeModel"
def TX11 : u_T := fun k => match k with
  | 0 => ("NeverHadBeforeModel", "thrown", "I", false)
  | 1 => ("NeverHadBeforeModel", "text", "[I", true)
  | 2 => ("NeverHadBeforeModel", "textSize", "I", false)
  | 3 => ("NeverHadBeforeModel", "place", "I", false)
  | 4 => ("NeverHadBeforeModel", "people", "I", false)
  | 5 => ("NeverHadBeforeModel", "holds", "[I", true)
  | 6 => ("NeverHadBeforeModel", "had", "[I", true)
  | 7 => ("NeverHadBeforeModel", "worth", "[I", true)
  | 8 => ("NeverHadBeforeModel", "wants", "[I", true)
  | 9 => ("NeverHadBeforeModel", "readPeople", "I", false)
  | 10 => ("NeverHadBeforeModel", "readHolds", "[I", true)
  | 11 => ("NeverHadBeforeModel", "readHad", "[I", true)
  | 12 => ("NeverHadBeforeModel", "readWorth", "[I", true)
  | 13 => ("NeverHadBeforeModel", "rows", "[I", true)
  | 14 => ("NeverHadBeforeModel", "acts", "I", false)
  | 15 => ("NeverHadBeforeModel", "kept", "[I", true)
  | 16 => ("NeverHadBeforeModel", "isKept", "[Z", true)
  | 17 => ("NeverHadBeforeModel", "sights", "I", false)
  | 18 => ("NeverHadBeforeModel", "sort", "[I", true)
  | 19 => ("NeverHadBeforeModel", "took", "[Z", true)
  | 20 => ("NeverHadBeforeModel", "tried", "[I", true)
  | 21 => ("NeverHadBeforeModel", "longest", "I", false)
  | 22 => ("NeverHadBeforeModel", "shortest", "I", false)
  | 23 => ("NeverHadBeforeModel", "runs", "I", false)
  | 24 => ("NeverHadBeforeModel", "came", "I", false)
  | 25 => ("NeverHadBeforeModel", "planned", "[I", true)
  | 26 => ("NeverHadBeforeModel", "from", "[I", true)
  | 27 => ("NeverHadBeforeModel", "best", "[I", true)
  | 28 => ("NeverHadBeforeModel", "bestMore", "I", false)
  | 29 => ("NeverHadBeforeModel", "outcome", "[I", true)
  | 30 => ("NeverHadBeforeModel", "value", "[I", true)
  | _ => ("NeverHadBeforeModel", "act", "[I", true)
def tyX11 : Nat → FieldType := fun k => match k with
  | 0 => .int
  | 1 => .array .int
  | 2 => .int
  | 3 => .int
  | 4 => .int
  | 5 => .array .int
  | 6 => .array .int
  | 7 => .array .int
  | 8 => .array .int
  | 9 => .int
  | 10 => .array .int
  | 11 => .array .int
  | 12 => .array .int
  | 13 => .array .int
  | 14 => .int
  | 15 => .array .int
  | 16 => .array .boolean
  | 17 => .int
  | 18 => .array .int
  | 19 => .array .boolean
  | 20 => .array .int
  | 21 => .int
  | 22 => .int
  | 23 => .int
  | 24 => .int
  | 25 => .array .int
  | 26 => .array .int
  | 27 => .array .int
  | 28 => .int
  | 29 => .array .int
  | 30 => .array .int
  | _ => .array .int
theorem nmX11 : ∀ a, a < 32 → ∀ b, b < 32 → a ≠ b → (TX11 a).2.1 ≠ (TX11 b).2.1 := by decide +kernel
theorem tyX11_ok : ∀ k, k < 32 → parseFieldDescriptor (TX11 k).2.2.1 = some (tyX11 k) := by decide +kernel
abbrev cX11_init : ByteArray := prog_13_method_1_code
def yX11_init : MethodName := ⟨RX11, "<init>", "()V"⟩
abbrev cX11_in : ByteArray := prog_13_method_3_code
def yX11_in : MethodName := ⟨RX11, "in", "(JJJ)Z"⟩
abbrev cX11_has : ByteArray := prog_13_method_4_code
def yX11_has : MethodName := ⟨RX11, "has", "(II)Z"⟩
abbrev cX11_noOne : ByteArray := prog_13_method_5_code
def yX11_noOne : MethodName := ⟨RX11, "noOne", "(I)Z"⟩
abbrev cX11_noSort : ByteArray := prog_13_method_6_code
def yX11_noSort : MethodName := ⟨RX11, "noSort", "(I)Z"⟩
abbrev cX11_write : ByteArray := prog_13_method_7_code
def yX11_write : MethodName := ⟨RX11, "write", "(IJ)I"⟩
abbrev cX11_wipe : ByteArray := prog_13_method_8_code
def yX11_wipe : MethodName := ⟨RX11, "wipe", "()I"⟩
abbrev cX11_sign : ByteArray := prog_13_method_9_code
def yX11_sign : MethodName := ⟨RX11, "sign", "()I"⟩
abbrev cX11_readPerson : ByteArray := prog_13_method_10_code
def yX11_readPerson : MethodName := ⟨RX11, "readPerson", "()Z"⟩
abbrev cX11_readFair : ByteArray := prog_13_method_11_code
def yX11_readFair : MethodName := ⟨RX11, "readFair", "()I"⟩
abbrev cX11_fault : ByteArray := prog_13_method_12_code
def yX11_fault : MethodName := ⟨RX11, "fault", "()I"⟩
abbrev cX11_fair : ByteArray := prog_13_method_13_code
def yX11_fair : MethodName := ⟨RX11, "fair", "()I"⟩
abbrev cX11_holding : ByteArray := prog_13_method_14_code
def yX11_holding : MethodName := ⟨RX11, "holding", "()I"⟩
abbrev cX11_isDead : ByteArray := prog_13_method_15_code
def yX11_isDead : MethodName := ⟨RX11, "isDead", "(I)Z"⟩
abbrev cX11_worthOf : ByteArray := prog_13_method_16_code
def yX11_worthOf : MethodName := ⟨RX11, "worthOf", "(II)I"⟩
abbrev cX11_about : ByteArray := prog_13_method_17_code
def yX11_about : MethodName := ⟨RX11, "about", "(I)I"⟩
abbrev cX11_holds : ByteArray := prog_13_method_18_code
def yX11_holds : MethodName := ⟨RX11, "holds", "(I)I"⟩
abbrev cX11_had : ByteArray := prog_13_method_19_code
def yX11_had : MethodName := ⟨RX11, "had", "(I)I"⟩
abbrev cX11_worth : ByteArray := prog_13_method_20_code
def yX11_worth : MethodName := ⟨RX11, "worth", "(II)I"⟩
abbrev cX11_value : ByteArray := prog_13_method_21_code
def yX11_value : MethodName := ⟨RX11, "value", "(III)I"⟩
abbrev cX11_mayAt : ByteArray := prog_13_method_22_code
def yX11_mayAt : MethodName := ⟨RX11, "mayAt", "(III)Z"⟩
abbrev cX11_layAt : ByteArray := prog_13_method_23_code
def yX11_layAt : MethodName := ⟨RX11, "layAt", "(II)V"⟩
abbrev cX11_goAt : ByteArray := prog_13_method_24_code
def yX11_goAt : MethodName := ⟨RX11, "goAt", "(III)V"⟩
abbrev cX11_may : ByteArray := prog_13_method_25_code
def yX11_may : MethodName := ⟨RX11, "may", "(II)I"⟩
abbrev cX11_note : ByteArray := prog_13_method_26_code
def yX11_note : MethodName := ⟨RX11, "note", "()V"⟩
abbrev cX11_exchange : ByteArray := prog_13_method_27_code
def yX11_exchange : MethodName := ⟨RX11, "exchange", "(II)I"⟩
abbrev cX11_sea : ByteArray := prog_13_method_28_code
def yX11_sea : MethodName := ⟨RX11, "sea", "(I)I"⟩
abbrev cX11_undo : ByteArray := prog_13_method_29_code
def yX11_undo : MethodName := ⟨RX11, "undo", "()I"⟩
abbrev cX11_judge : ByteArray := prog_13_method_30_code
def yX11_judge : MethodName := ⟨RX11, "judge", "(II)I"⟩
abbrev cX11_next : ByteArray := prog_13_method_31_code
def yX11_next : MethodName := ⟨RX11, "next", "(I)Z"⟩
abbrev cX11_goRuns : ByteArray := prog_13_method_32_code
def yX11_goRuns : MethodName := ⟨RX11, "goRuns", "(I)V"⟩
abbrev cX11_longest : ByteArray := prog_13_method_33_code
def yX11_longest : MethodName := ⟨RX11, "longest", "()I"⟩
abbrev cX11_shortest : ByteArray := prog_13_method_34_code
def yX11_shortest : MethodName := ⟨RX11, "shortest", "()I"⟩
abbrev cX11_runs : ByteArray := prog_13_method_35_code
def yX11_runs : MethodName := ⟨RX11, "runs", "()I"⟩
abbrev cX11_want : ByteArray := prog_13_method_36_code
def yX11_want : MethodName := ⟨RX11, "want", "(II)I"⟩
abbrev cX11_areHad : ByteArray := prog_13_method_37_code
def yX11_areHad : MethodName := ⟨RX11, "areHad", "(I)Z"⟩
abbrev cX11_findPlan : ByteArray := prog_13_method_38_code
def yX11_findPlan : MethodName := ⟨RX11, "findPlan", "(I)Z"⟩
abbrev cX11_fewestNow : ByteArray := prog_13_method_39_code
def yX11_fewestNow : MethodName := ⟨RX11, "fewestNow", "()I"⟩
abbrev cX11_fewest : ByteArray := prog_13_method_40_code
def yX11_fewest : MethodName := ⟨RX11, "fewest", "()I"⟩
abbrev cX11_plan : ByteArray := prog_13_method_41_code
def yX11_plan : MethodName := ⟨RX11, "plan", "(I)I"⟩
abbrev cX11_mayComeTo : ByteArray := prog_13_method_42_code
def yX11_mayComeTo : MethodName := ⟨RX11, "mayComeTo", "(I)I"⟩
abbrev cX11_begin : ByteArray := prog_13_method_43_code
def yX11_begin : MethodName := ⟨RX11, "begin", "(I)I"⟩
abbrev cX11_moreBy : ByteArray := prog_13_method_44_code
def yX11_moreBy : MethodName := ⟨RX11, "moreBy", "()I"⟩
abbrev cX11_movers : ByteArray := prog_13_method_45_code
def yX11_movers : MethodName := ⟨RX11, "movers", "()I"⟩
abbrev cX11_findRings : ByteArray := prog_13_method_46_code
def yX11_findRings : MethodName := ⟨RX11, "findRings", "()V"⟩
abbrev cX11_rings : ByteArray := prog_13_method_47_code
def yX11_rings : MethodName := ⟨RX11, "rings", "()I"⟩
abbrev cX11_ringAt : ByteArray := prog_13_method_48_code
def yX11_ringAt : MethodName := ⟨RX11, "ringAt", "(I)I"⟩
abbrev cX11_frees : ByteArray := prog_13_method_49_code
def yX11_frees : MethodName := ⟨RX11, "frees", "(I)I"⟩
abbrev cX11_takes : ByteArray := prog_13_method_50_code
def yX11_takes : MethodName := ⟨RX11, "takes", "(III)Z"⟩
abbrev cX11_nextTurn : ByteArray := prog_13_method_51_code
def yX11_nextTurn : MethodName := ⟨RX11, "nextTurn", "(I)Z"⟩
abbrev cX11_offer : ByteArray := prog_13_method_52_code
def yX11_offer : MethodName := ⟨RX11, "offer", "(I)V"⟩
abbrev cX11_goTurns : ByteArray := prog_13_method_53_code
def yX11_goTurns : MethodName := ⟨RX11, "goTurns", "(I)V"⟩
abbrev cX11_turns : ByteArray := prog_13_method_54_code
def yX11_turns : MethodName := ⟨RX11, "turns", "(II)I"⟩
abbrev cX11_first : ByteArray := prog_13_method_55_code
def yX11_first : MethodName := ⟨RX11, "first", "(I)I"⟩
abbrev cX11_sight : ByteArray := prog_13_method_56_code
def yX11_sight : MethodName := ⟨RX11, "sight", "(IZ)I"⟩
abbrev cX11_unsee : ByteArray := prog_13_method_57_code
def yX11_unsee : MethodName := ⟨RX11, "unsee", "()I"⟩
abbrev cX11_fits : ByteArray := prog_13_method_58_code
def yX11_fits : MethodName := ⟨RX11, "fits", "(I)Z"⟩
abbrev cX11_lists : ByteArray := prog_13_method_59_code
def yX11_lists : MethodName := ⟨RX11, "lists", "()I"⟩
abbrev cX11_listed : ByteArray := prog_13_method_60_code
def yX11_listed : MethodName := ⟨RX11, "listed", "(I)I"⟩
abbrev cX11_keep : ByteArray := prog_13_method_61_code
def yX11_keep : MethodName := ⟨RX11, "keep", "(I)I"⟩
abbrev cX11_again : ByteArray := prog_13_method_62_code
def yX11_again : MethodName := ⟨RX11, "again", "(I)I"⟩
def RJ6 : String := "java/lang/Integer"
def TJ6 : u_T := fun k => match k with
  | _ => ("", "", "", false)
def tyJ6 : Nat → FieldType := fun k => match k with
  | _ => .int
theorem nmJ6 : ∀ a, a < 0 → ∀ b, b < 0 → a ≠ b → (TJ6 a).2.1 ≠ (TJ6 b).2.1 := by decide +kernel
theorem tyJ6_ok : ∀ k, k < 0 → parseFieldDescriptor (TJ6 k).2.2.1 = some (tyJ6 k) := by decide +kernel
abbrev cJ6_bitCount_0f7a4 : ByteArray := prog_14_method_49_code
def yJ6_bitCount_0f7a4 : MethodName := ⟨RJ6, "bitCount", "(I)I"⟩
def RJ9 : String := "java/lang/Math"
def TJ9 : u_T := fun k => match k with
  | _ => ("", "", "", false)
def tyJ9 : Nat → FieldType := fun k => match k with
  | _ => .int
theorem nmJ9 : ∀ a, a < 0 → ∀ b, b < 0 → a ≠ b → (TJ9 a).2.1 ≠ (TJ9 b).2.1 := by decide +kernel
theorem tyJ9_ok : ∀ k, k < 0 → parseFieldDescriptor (TJ9 k).2.2.1 = some (tyJ9 k) := by decide +kernel
abbrev cJ9_max_7cf53 : ByteArray := prog_15_method_65_code
def yJ9_max_7cf53 : MethodName := ⟨RJ9, "max", "(II)I"⟩
abbrev cJ9_min_7cf53 : ByteArray := prog_15_method_69_code
def yJ9_min_7cf53 : MethodName := ⟨RJ9, "min", "(II)I"⟩
def RJ10 : String := "java/lang/System"
def TJ10 : u_T := fun k => match k with
  | _ => ("", "", "", false)
def tyJ10 : Nat → FieldType := fun k => match k with
  | _ => .int
theorem nmJ10 : ∀ a, a < 0 → ∀ b, b < 0 → a ≠ b → (TJ10 a).2.1 ≠ (TJ10 b).2.1 := by decide +kernel
theorem tyJ10_ok : ∀ k, k < 0 → parseFieldDescriptor (TJ10 k).2.2.1 = some (tyJ10 k) := by decide +kernel
def RL : String := "NeverHadBeforeLaw"
abbrev cL_law : ByteArray := code
def yL_law : MethodName := ⟨RL, "law", "([I)Z"⟩
abbrev vwCl : List vw_C := [(RX0, TX0, 2), (RX1, TX1, 4), (RX3, TX3, 4), (RX4, TX4, 3), (RX5, TX5, 3), (RX6, TX6, 3), (RX7, TX7, 2), (RX8, TX8, 2), (RX9, TX9, 5), (RX10, TX10, 11), (RX11, TX11, 32)]
