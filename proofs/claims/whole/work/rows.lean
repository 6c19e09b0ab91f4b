section
-- ===== PART A: goes FIRST, ahead of the names: the tables' words, and 'selects' of the private methods out of them =====
/-- a private method of a class that the tables say can be made, by its rows of tables_1 -/
def lw_okq (q : MethodName × Nat) : Prop := (q.1.cls ≠ "java/lang/invoke/MethodHandle" ∧ q.1.cls ≠ "java/lang/invoke/VarHandle") ∧ Cond.instantiable q.1.cls q.2 ∈ tables_1 ∧ Cond.privateMethod q.1 ∈ tables_1 ∧ Cond.instanceMethod q.1 ∈ tables_1
theorem lw_p0 : lw_okq (⟨"VarnishPrices$History", "dropOldest", "()V"⟩, 2) := ⟨⟨by decide +kernel, by decide +kernel⟩, List.mem_of_getElem? (i := 95) (by decide +kernel), List.mem_of_getElem? (i := 186) (by decide +kernel), List.mem_of_getElem? (i := 187) (by decide +kernel)⟩
theorem lw_p1 : lw_okq (⟨"VarnishPrices", "isPoster", "(I)Z"⟩, 6) := ⟨⟨by decide +kernel, by decide +kernel⟩, List.mem_of_getElem? (i := 11) (by decide +kernel), List.mem_of_getElem? (i := 223) (by decide +kernel), List.mem_of_getElem? (i := 224) (by decide +kernel)⟩
theorem lw_p2 : lw_okq (⟨"VarnishPrices$Wall", "seenWithout", "(II)I"⟩, 6) := ⟨⟨by decide +kernel, by decide +kernel⟩, List.mem_of_getElem? (i := 19) (by decide +kernel), List.mem_of_getElem? (i := 235) (by decide +kernel), List.mem_of_getElem? (i := 236) (by decide +kernel)⟩
theorem lw_p3 : lw_okq (⟨"VarnishPrices$BuyerReader", "endsBuyer", "()Z"⟩, 4) := ⟨⟨by decide +kernel, by decide +kernel⟩, List.mem_of_getElem? (i := 118) (by decide +kernel), List.mem_of_getElem? (i := 298) (by decide +kernel), List.mem_of_getElem? (i := 299) (by decide +kernel)⟩
theorem lw_p4 : lw_okq (⟨"VarnishPrices$BuyerReader", "lengthensPurse", "(I)Z"⟩, 4) := ⟨⟨by decide +kernel, by decide +kernel⟩, List.mem_of_getElem? (i := 118) (by decide +kernel), List.mem_of_getElem? (i := 302) (by decide +kernel), List.mem_of_getElem? (i := 303) (by decide +kernel)⟩
theorem lw_p5 : lw_okq (⟨"VarnishPrices$Wall", "daysToClear", "(II)I"⟩, 6) := ⟨⟨by decide +kernel, by decide +kernel⟩, List.mem_of_getElem? (i := 19) (by decide +kernel), List.mem_of_getElem? (i := 333) (by decide +kernel), List.mem_of_getElem? (i := 334) (by decide +kernel)⟩
theorem lw_p6 : lw_okq (⟨"VarnishPrices$Wall", "isPriceSeenBelow", "(I)Z"⟩, 6) := ⟨⟨by decide +kernel, by decide +kernel⟩, List.mem_of_getElem? (i := 19) (by decide +kernel), List.mem_of_getElem? (i := 391) (by decide +kernel), List.mem_of_getElem? (i := 392) (by decide +kernel)⟩
theorem lw_p7 : lw_okq (⟨"VarnishPricesModel", "records", "()V"⟩, 15) := ⟨⟨by decide +kernel, by decide +kernel⟩, List.mem_of_getElem? (i := 492) (by decide +kernel), List.mem_of_getElem? (i := 554) (by decide +kernel), List.mem_of_getElem? (i := 555) (by decide +kernel)⟩
theorem lw_p8 : lw_okq (⟨"VarnishPricesModel", "lies", "(II)Z"⟩, 15) := ⟨⟨by decide +kernel, by decide +kernel⟩, List.mem_of_getElem? (i := 492) (by decide +kernel), List.mem_of_getElem? (i := 558) (by decide +kernel), List.mem_of_getElem? (i := 559) (by decide +kernel)⟩
theorem lw_p9 : lw_okq (⟨"VarnishPricesModel", "of", "(II)I"⟩, 15) := ⟨⟨by decide +kernel, by decide +kernel⟩, List.mem_of_getElem? (i := 492) (by decide +kernel), List.mem_of_getElem? (i := 562) (by decide +kernel), List.mem_of_getElem? (i := 563) (by decide +kernel)⟩
theorem lw_p10 : lw_okq (⟨"VarnishPricesModel", "lays", "(III)V"⟩, 15) := ⟨⟨by decide +kernel, by decide +kernel⟩, List.mem_of_getElem? (i := 492) (by decide +kernel), List.mem_of_getElem? (i := 566) (by decide +kernel), List.mem_of_getElem? (i := 567) (by decide +kernel)⟩
theorem lw_p11 : lw_okq (⟨"VarnishPricesModel", "isPoster", "(I)Z"⟩, 15) := ⟨⟨by decide +kernel, by decide +kernel⟩, List.mem_of_getElem? (i := 492) (by decide +kernel), List.mem_of_getElem? (i := 574) (by decide +kernel), List.mem_of_getElem? (i := 575) (by decide +kernel)⟩
theorem lw_p12 : lw_okq (⟨"VarnishPricesModel", "overCells", "(II)I"⟩, 15) := ⟨⟨by decide +kernel, by decide +kernel⟩, List.mem_of_getElem? (i := 492) (by decide +kernel), List.mem_of_getElem? (i := 578) (by decide +kernel), List.mem_of_getElem? (i := 579) (by decide +kernel)⟩
theorem lw_p13 : lw_okq (⟨"VarnishPricesModel", "seenAt", "(II)I"⟩, 15) := ⟨⟨by decide +kernel, by decide +kernel⟩, List.mem_of_getElem? (i := 492) (by decide +kernel), List.mem_of_getElem? (i := 582) (by decide +kernel), List.mem_of_getElem? (i := 583) (by decide +kernel)⟩
theorem lw_p14 : lw_okq (⟨"VarnishPricesModel", "has", "(II)I"⟩, 15) := ⟨⟨by decide +kernel, by decide +kernel⟩, List.mem_of_getElem? (i := 492) (by decide +kernel), List.mem_of_getElem? (i := 586) (by decide +kernel), List.mem_of_getElem? (i := 587) (by decide +kernel)⟩
theorem lw_p15 : lw_okq (⟨"VarnishPricesModel", "drops", "(I)V"⟩, 15) := ⟨⟨by decide +kernel, by decide +kernel⟩, List.mem_of_getElem? (i := 492) (by decide +kernel), List.mem_of_getElem? (i := 590) (by decide +kernel), List.mem_of_getElem? (i := 591) (by decide +kernel)⟩
def lw_privs_1 : List (MethodName × Nat) := [(⟨"VarnishPrices$History", "dropOldest", "()V"⟩, 2), (⟨"VarnishPrices", "isPoster", "(I)Z"⟩, 6), (⟨"VarnishPrices$Wall", "seenWithout", "(II)I"⟩, 6), (⟨"VarnishPrices$BuyerReader", "endsBuyer", "()Z"⟩, 4), (⟨"VarnishPrices$BuyerReader", "lengthensPurse", "(I)Z"⟩, 4), (⟨"VarnishPrices$Wall", "daysToClear", "(II)I"⟩, 6), (⟨"VarnishPrices$Wall", "isPriceSeenBelow", "(I)Z"⟩, 6), (⟨"VarnishPricesModel", "records", "()V"⟩, 15), (⟨"VarnishPricesModel", "lies", "(II)Z"⟩, 15), (⟨"VarnishPricesModel", "of", "(II)I"⟩, 15), (⟨"VarnishPricesModel", "lays", "(III)V"⟩, 15), (⟨"VarnishPricesModel", "isPoster", "(I)Z"⟩, 15), (⟨"VarnishPricesModel", "overCells", "(II)I"⟩, 15), (⟨"VarnishPricesModel", "seenAt", "(II)I"⟩, 15), (⟨"VarnishPricesModel", "has", "(II)I"⟩, 15), (⟨"VarnishPricesModel", "drops", "(I)V"⟩, 15)]
theorem lw_r1 : ∀ q ∈ lw_privs_1, lw_okq q := List.forall_mem_cons.mpr ⟨lw_p0, List.forall_mem_cons.mpr ⟨lw_p1, List.forall_mem_cons.mpr ⟨lw_p2, List.forall_mem_cons.mpr ⟨lw_p3, List.forall_mem_cons.mpr ⟨lw_p4, List.forall_mem_cons.mpr ⟨lw_p5, List.forall_mem_cons.mpr ⟨lw_p6, List.forall_mem_cons.mpr ⟨lw_p7, List.forall_mem_cons.mpr ⟨lw_p8, List.forall_mem_cons.mpr ⟨lw_p9, List.forall_mem_cons.mpr ⟨lw_p10, List.forall_mem_cons.mpr ⟨lw_p11, List.forall_mem_cons.mpr ⟨lw_p12, List.forall_mem_cons.mpr ⟨lw_p13, List.forall_mem_cons.mpr ⟨lw_p14, List.forall_mem_cons.mpr ⟨lw_p15, fun _ h => absurd h List.not_mem_nil⟩⟩⟩⟩⟩⟩⟩⟩⟩⟩⟩⟩⟩⟩⟩⟩
theorem lw_p16 : lw_okq (⟨"VarnishPricesModel", "loses", "(III)Z"⟩, 15) := ⟨⟨by decide +kernel, by decide +kernel⟩, List.mem_of_getElem? (i := 492) (by decide +kernel), List.mem_of_getElem? (i := 602) (by decide +kernel), List.mem_of_getElem? (i := 603) (by decide +kernel)⟩
theorem lw_p17 : lw_okq (⟨"VarnishPricesModel", "priceAt", "(I)I"⟩, 15) := ⟨⟨by decide +kernel, by decide +kernel⟩, List.mem_of_getElem? (i := 492) (by decide +kernel), List.mem_of_getElem? (i := 614) (by decide +kernel), List.mem_of_getElem? (i := 615) (by decide +kernel)⟩
theorem lw_p18 : lw_okq (⟨"VarnishPricesModel", "pays", "(II)Z"⟩, 15) := ⟨⟨by decide +kernel, by decide +kernel⟩, List.mem_of_getElem? (i := 492) (by decide +kernel), List.mem_of_getElem? (i := 618) (by decide +kernel), List.mem_of_getElem? (i := 619) (by decide +kernel)⟩
theorem lw_p19 : lw_okq (⟨"VarnishPricesModel", "adds", "(III)V"⟩, 15) := ⟨⟨by decide +kernel, by decide +kernel⟩, List.mem_of_getElem? (i := 492) (by decide +kernel), List.mem_of_getElem? (i := 622) (by decide +kernel), List.mem_of_getElem? (i := 623) (by decide +kernel)⟩
theorem lw_p20 : lw_okq (⟨"VarnishPricesModel", "reads", "()I"⟩, 15) := ⟨⟨by decide +kernel, by decide +kernel⟩, List.mem_of_getElem? (i := 492) (by decide +kernel), List.mem_of_getElem? (i := 630) (by decide +kernel), List.mem_of_getElem? (i := 631) (by decide +kernel)⟩
theorem lw_p21 : lw_okq (⟨"VarnishPricesModel", "readsBuyer", "()V"⟩, 15) := ⟨⟨by decide +kernel, by decide +kernel⟩, List.mem_of_getElem? (i := 492) (by decide +kernel), List.mem_of_getElem? (i := 634) (by decide +kernel), List.mem_of_getElem? (i := 635) (by decide +kernel)⟩
theorem lw_p22 : lw_okq (⟨"VarnishPricesModel", "digit", "(I)I"⟩, 15) := ⟨⟨by decide +kernel, by decide +kernel⟩, List.mem_of_getElem? (i := 492) (by decide +kernel), List.mem_of_getElem? (i := 638) (by decide +kernel), List.mem_of_getElem? (i := 639) (by decide +kernel)⟩
theorem lw_p23 : lw_okq (⟨"VarnishPricesModel", "sign", "()I"⟩, 15) := ⟨⟨by decide +kernel, by decide +kernel⟩, List.mem_of_getElem? (i := 492) (by decide +kernel), List.mem_of_getElem? (i := 642) (by decide +kernel), List.mem_of_getElem? (i := 643) (by decide +kernel)⟩
theorem lw_p24 : lw_okq (⟨"VarnishPricesModel", "wants", "(I)V"⟩, 15) := ⟨⟨by decide +kernel, by decide +kernel⟩, List.mem_of_getElem? (i := 492) (by decide +kernel), List.mem_of_getElem? (i := 646) (by decide +kernel), List.mem_of_getElem? (i := 647) (by decide +kernel)⟩
theorem lw_p25 : lw_okq (⟨"VarnishPricesModel", "days", "(I)I"⟩, 15) := ⟨⟨by decide +kernel, by decide +kernel⟩, List.mem_of_getElem? (i := 492) (by decide +kernel), List.mem_of_getElem? (i := 654) (by decide +kernel), List.mem_of_getElem? (i := 655) (by decide +kernel)⟩
theorem lw_p26 : lw_okq (⟨"VarnishPricesModel", "day", "()I"⟩, 15) := ⟨⟨by decide +kernel, by decide +kernel⟩, List.mem_of_getElem? (i := 492) (by decide +kernel), List.mem_of_getElem? (i := 658) (by decide +kernel), List.mem_of_getElem? (i := 659) (by decide +kernel)⟩
theorem lw_p27 : lw_okq (⟨"VarnishPricesModel", "lyingAt", "(IZ)I"⟩, 15) := ⟨⟨by decide +kernel, by decide +kernel⟩, List.mem_of_getElem? (i := 492) (by decide +kernel), List.mem_of_getElem? (i := 666) (by decide +kernel), List.mem_of_getElem? (i := 667) (by decide +kernel)⟩
theorem lw_p28 : lw_okq (⟨"VarnishPricesModel", "overWall", "(I)I"⟩, 15) := ⟨⟨by decide +kernel, by decide +kernel⟩, List.mem_of_getElem? (i := 492) (by decide +kernel), List.mem_of_getElem? (i := 682) (by decide +kernel), List.mem_of_getElem? (i := 683) (by decide +kernel)⟩
theorem lw_p29 : lw_okq (⟨"VarnishPricesModel", "laysShown", "()V"⟩, 15) := ⟨⟨by decide +kernel, by decide +kernel⟩, List.mem_of_getElem? (i := 492) (by decide +kernel), List.mem_of_getElem? (i := 686) (by decide +kernel), List.mem_of_getElem? (i := 687) (by decide +kernel)⟩
theorem lw_p30 : lw_okq (⟨"VarnishPricesModel", "sumBut", "(I)I"⟩, 15) := ⟨⟨by decide +kernel, by decide +kernel⟩, List.mem_of_getElem? (i := 492) (by decide +kernel), List.mem_of_getElem? (i := 690) (by decide +kernel), List.mem_of_getElem? (i := 691) (by decide +kernel)⟩
theorem lw_p31 : lw_okq (⟨"VarnishPricesModel", "overPosters", "(I)I"⟩, 15) := ⟨⟨by decide +kernel, by decide +kernel⟩, List.mem_of_getElem? (i := 492) (by decide +kernel), List.mem_of_getElem? (i := 694) (by decide +kernel), List.mem_of_getElem? (i := 695) (by decide +kernel)⟩
def lw_privs_2 : List (MethodName × Nat) := [(⟨"VarnishPricesModel", "loses", "(III)Z"⟩, 15), (⟨"VarnishPricesModel", "priceAt", "(I)I"⟩, 15), (⟨"VarnishPricesModel", "pays", "(II)Z"⟩, 15), (⟨"VarnishPricesModel", "adds", "(III)V"⟩, 15), (⟨"VarnishPricesModel", "reads", "()I"⟩, 15), (⟨"VarnishPricesModel", "readsBuyer", "()V"⟩, 15), (⟨"VarnishPricesModel", "digit", "(I)I"⟩, 15), (⟨"VarnishPricesModel", "sign", "()I"⟩, 15), (⟨"VarnishPricesModel", "wants", "(I)V"⟩, 15), (⟨"VarnishPricesModel", "days", "(I)I"⟩, 15), (⟨"VarnishPricesModel", "day", "()I"⟩, 15), (⟨"VarnishPricesModel", "lyingAt", "(IZ)I"⟩, 15), (⟨"VarnishPricesModel", "overWall", "(I)I"⟩, 15), (⟨"VarnishPricesModel", "laysShown", "()V"⟩, 15), (⟨"VarnishPricesModel", "sumBut", "(I)I"⟩, 15), (⟨"VarnishPricesModel", "overPosters", "(I)I"⟩, 15)]
theorem lw_r2 : ∀ q ∈ lw_privs_2, lw_okq q := List.forall_mem_cons.mpr ⟨lw_p16, List.forall_mem_cons.mpr ⟨lw_p17, List.forall_mem_cons.mpr ⟨lw_p18, List.forall_mem_cons.mpr ⟨lw_p19, List.forall_mem_cons.mpr ⟨lw_p20, List.forall_mem_cons.mpr ⟨lw_p21, List.forall_mem_cons.mpr ⟨lw_p22, List.forall_mem_cons.mpr ⟨lw_p23, List.forall_mem_cons.mpr ⟨lw_p24, List.forall_mem_cons.mpr ⟨lw_p25, List.forall_mem_cons.mpr ⟨lw_p26, List.forall_mem_cons.mpr ⟨lw_p27, List.forall_mem_cons.mpr ⟨lw_p28, List.forall_mem_cons.mpr ⟨lw_p29, List.forall_mem_cons.mpr ⟨lw_p30, List.forall_mem_cons.mpr ⟨lw_p31, fun _ h => absurd h List.not_mem_nil⟩⟩⟩⟩⟩⟩⟩⟩⟩⟩⟩⟩⟩⟩⟩⟩
theorem lw_p32 : lw_okq (⟨"VarnishPricesModel", "putAside", "()V"⟩, 15) := ⟨⟨by decide +kernel, by decide +kernel⟩, List.mem_of_getElem? (i := 492) (by decide +kernel), List.mem_of_getElem? (i := 706) (by decide +kernel), List.mem_of_getElem? (i := 707) (by decide +kernel)⟩
theorem lw_p33 : lw_okq (⟨"VarnishPricesModel", "others", "()I"⟩, 15) := ⟨⟨by decide +kernel, by decide +kernel⟩, List.mem_of_getElem? (i := 492) (by decide +kernel), List.mem_of_getElem? (i := 710) (by decide +kernel), List.mem_of_getElem? (i := 711) (by decide +kernel)⟩
theorem lw_p34 : lw_okq (⟨"VarnishPricesModel", "takeBack", "()V"⟩, 15) := ⟨⟨by decide +kernel, by decide +kernel⟩, List.mem_of_getElem? (i := 492) (by decide +kernel), List.mem_of_getElem? (i := 714) (by decide +kernel), List.mem_of_getElem? (i := 715) (by decide +kernel)⟩
def lw_privs_3 : List (MethodName × Nat) := [(⟨"VarnishPricesModel", "putAside", "()V"⟩, 15), (⟨"VarnishPricesModel", "others", "()I"⟩, 15), (⟨"VarnishPricesModel", "takeBack", "()V"⟩, 15)]
theorem lw_r3 : ∀ q ∈ lw_privs_3, lw_okq q := List.forall_mem_cons.mpr ⟨lw_p32, List.forall_mem_cons.mpr ⟨lw_p33, List.forall_mem_cons.mpr ⟨lw_p34, fun _ h => absurd h List.not_mem_nil⟩⟩⟩
def lw_privs : List (MethodName × Nat) := lw_privs_1 ++ (lw_privs_2 ++ (lw_privs_3))
def lw_tbl : List Cond := k2_sels lw_privs ++ tables_1
theorem lw_privs_ok : ∀ q ∈ lw_privs, lw_okq q := by
  show ∀ q ∈ lw_privs_1 ++ (lw_privs_2 ++ (lw_privs_3)), lw_okq q
  exact List.forall_mem_append.mpr ⟨lw_r1, List.forall_mem_append.mpr ⟨lw_r2, lw_r3⟩⟩

def RX0 : String := "VarnishPrices$BuyerReader"
def TX0 : u_T := fun k => match k with
  | 0 => ("VarnishPrices$BuyerReader", "position", "I", false)
  | 1 => ("VarnishPrices$BuyerReader", "x", "I", false)
  | 2 => ("VarnishPrices$BuyerReader", "y", "I", false)
  | _ => ("VarnishPrices$BuyerReader", "purse", "I", false)
def tyX0 : Nat → FieldType := fun k => match k with
  | 0 => .int
  | 1 => .int
  | 2 => .int
  | _ => .int
theorem nmX0 : ∀ a, a < 4 → ∀ b, b < 4 → a ≠ b → (TX0 a).2.1 ≠ (TX0 b).2.1 := by decide +kernel
theorem tyX0_ok : ∀ k, k < 4 → parseFieldDescriptor (TX0 k).2.2.1 = some (tyX0 k) := by decide +kernel
abbrev cX0_init : ByteArray := prog_2_method_1_code
def yX0_init : MethodName := ⟨RX0, "<init>", "()V"⟩
abbrev cX0_begin : ByteArray := prog_2_method_2_code
def yX0_begin : MethodName := ⟨RX0, "begin", "()V"⟩
abbrev cX0_mayEnd : ByteArray := prog_2_method_3_code
def yX0_mayEnd : MethodName := ⟨RX0, "mayEnd", "()Z"⟩
abbrev cX0_takes : ByteArray := prog_2_method_4_code
def yX0_takes : MethodName := ⟨RX0, "takes", "(C)Z"⟩
abbrev cX0_endsBuyer : ByteArray := prog_2_method_5_code
def yX0_endsBuyer : MethodName := ⟨RX0, "endsBuyer", "()Z"⟩
abbrev cX0_lengthensPurse : ByteArray := prog_2_method_6_code
def yX0_lengthensPurse : MethodName := ⟨RX0, "lengthensPurse", "(I)Z"⟩
abbrev cX0_pays : ByteArray := prog_2_method_7_code
def yX0_pays : MethodName := ⟨RX0, "pays", "(LVarnishPrices$Wall;)Z"⟩
def RX1 : String := "VarnishPrices$History"
def TX1 : u_T := fun k => match k with
  | 0 => ("VarnishPrices$History", "states", "[LVarnishPrices$Wall;", true)
  | _ => ("VarnishPrices$History", "size", "I", false)
def tyX1 : Nat → FieldType := fun k => match k with
  | 0 => .array (.object "VarnishPrices$Wall")
  | _ => .int
theorem nmX1 : ∀ a, a < 2 → ∀ b, b < 2 → a ≠ b → (TX1 a).2.1 ≠ (TX1 b).2.1 := by decide +kernel
theorem tyX1_ok : ∀ k, k < 2 → parseFieldDescriptor (TX1 k).2.2.1 = some (tyX1 k) := by decide +kernel
abbrev cX1_init : ByteArray := prog_3_method_1_code
def yX1_init : MethodName := ⟨RX1, "<init>", "()V"⟩
abbrev cX1_keep : ByteArray := prog_3_method_2_code
def yX1_keep : MethodName := ⟨RX1, "keep", "(LVarnishPrices$Wall;)V"⟩
abbrev cX1_dropOldest : ByteArray := prog_3_method_3_code
def yX1_dropOldest : MethodName := ⟨RX1, "dropOldest", "()V"⟩
abbrev cX1_takeBack : ByteArray := prog_3_method_4_code
def yX1_takeBack : MethodName := ⟨RX1, "takeBack", "(LVarnishPrices$Wall;)V"⟩
def RX2 : String := "VarnishPrices$Pad"
def TX2 : u_T := fun k => match k with
  | 0 => ("VarnishPrices$Pad", "signs", "[C", true)
  | 1 => ("VarnishPrices$Pad", "length", "I", false)
  | _ => ("VarnishPrices$Pad", "reader", "LVarnishPrices$BuyerReader;", true)
def tyX2 : Nat → FieldType := fun k => match k with
  | 0 => .array .char
  | 1 => .int
  | _ => .object "VarnishPrices$BuyerReader"
theorem nmX2 : ∀ a, a < 3 → ∀ b, b < 3 → a ≠ b → (TX2 a).2.1 ≠ (TX2 b).2.1 := by decide +kernel
theorem tyX2_ok : ∀ k, k < 3 → parseFieldDescriptor (TX2 k).2.2.1 = some (tyX2 k) := by decide +kernel
abbrev cX2_init : ByteArray := prog_4_method_1_code
def yX2_init : MethodName := ⟨RX2, "<init>", "()V"⟩
abbrev cX2_signsIn : ByteArray := prog_4_method_2_code
def yX2_signsIn : MethodName := ⟨RX2, "signsIn", "(J)I"⟩
abbrev cX2_append : ByteArray := prog_4_method_3_code
def yX2_append : MethodName := ⟨RX2, "append", "(JI)V"⟩
abbrev cX2_firstFault : ByteArray := prog_4_method_4_code
def yX2_firstFault : MethodName := ⟨RX2, "firstFault", "()I"⟩
abbrev cX2_sendBuyersTo : ByteArray := prog_4_method_5_code
def yX2_sendBuyersTo : MethodName := ⟨RX2, "sendBuyersTo", "(LVarnishPrices$Wall;)I"⟩
def RX3 : String := "VarnishPrices$Poster"
def TX3 : u_T := fun k => match k with
  | 0 => ("VarnishPrices$Poster", "x", "I", false)
  | 1 => ("VarnishPrices$Poster", "y", "I", false)
  | 2 => ("VarnishPrices$Poster", "width", "I", false)
  | 3 => ("VarnishPrices$Poster", "height", "I", false)
  | 4 => ("VarnishPrices$Poster", "price", "I", false)
  | 5 => ("VarnishPrices$Poster", "sales", "I", false)
  | 6 => ("VarnishPrices$Poster", "brought", "I", false)
  | _ => ("VarnishPrices$Poster", "coats", "[I", true)
def tyX3 : Nat → FieldType := fun k => match k with
  | 0 => .int
  | 1 => .int
  | 2 => .int
  | 3 => .int
  | 4 => .int
  | 5 => .int
  | 6 => .int
  | _ => .array .int
theorem nmX3 : ∀ a, a < 8 → ∀ b, b < 8 → a ≠ b → (TX3 a).2.1 ≠ (TX3 b).2.1 := by decide +kernel
theorem tyX3_ok : ∀ k, k < 8 → parseFieldDescriptor (TX3 k).2.2.1 = some (tyX3 k) := by decide +kernel
abbrev cX3_init : ByteArray := prog_5_method_1_code
def yX3_init : MethodName := ⟨RX3, "<init>", "()V"⟩
abbrev cX3_cover : ByteArray := prog_5_method_2_code
def yX3_cover : MethodName := ⟨RX3, "cover", "(IIII)V"⟩
abbrev cX3_begin : ByteArray := prog_5_method_3_code
def yX3_begin : MethodName := ⟨RX3, "begin", "(II)V"⟩
abbrev cX3_copyFrom : ByteArray := prog_5_method_4_code
def yX3_copyFrom : MethodName := ⟨RX3, "copyFrom", "(LVarnishPrices$Poster;)V"⟩
abbrev cX3_liesAt : ByteArray := prog_5_method_5_code
def yX3_liesAt : MethodName := ⟨RX3, "liesAt", "(II)Z"⟩
abbrev cX3_notClearCells : ByteArray := prog_5_method_6_code
def yX3_notClearCells : MethodName := ⟨RX3, "notClearCells", "()I"⟩
abbrev cX3_clearCells : ByteArray := prog_5_method_7_code
def yX3_clearCells : MethodName := ⟨RX3, "clearCells", "()I"⟩
abbrev cX3_allVarnish : ByteArray := prog_5_method_8_code
def yX3_allVarnish : MethodName := ⟨RX3, "allVarnish", "()I"⟩
def RX4 : String := "VarnishPrices$Wall"
def TX4 : u_T := fun k => match k with
  | 0 => ("VarnishPrices$Wall", "posters", "[LVarnishPrices$Poster;", true)
  | 1 => ("VarnishPrices$Wall", "pasted", "I", false)
  | 2 => ("VarnishPrices$Wall", "suns", "[I", true)
  | 3 => ("VarnishPrices$Wall", "day", "I", false)
  | 4 => ("VarnishPrices$Wall", "sales", "I", false)
  | _ => ("VarnishPrices$Wall", "brought", "I", false)
def tyX4 : Nat → FieldType := fun k => match k with
  | 0 => .array (.object "VarnishPrices$Poster")
  | 1 => .int
  | 2 => .array .int
  | 3 => .int
  | 4 => .int
  | _ => .int
theorem nmX4 : ∀ a, a < 6 → ∀ b, b < 6 → a ≠ b → (TX4 a).2.1 ≠ (TX4 b).2.1 := by decide +kernel
theorem tyX4_ok : ∀ k, k < 6 → parseFieldDescriptor (TX4 k).2.2.1 = some (tyX4 k) := by decide +kernel
abbrev cX4_init : ByteArray := prog_6_method_1_code
def yX4_init : MethodName := ⟨RX4, "<init>", "()V"⟩
abbrev cX4_copyFrom : ByteArray := prog_6_method_2_code
def yX4_copyFrom : MethodName := ⟨RX4, "copyFrom", "(LVarnishPrices$Wall;)V"⟩
abbrev cX4_addOnTop : ByteArray := prog_6_method_3_code
def yX4_addOnTop : MethodName := ⟨RX4, "addOnTop", "(IIIIII)I"⟩
abbrev cX4_takeDown : ByteArray := prog_6_method_4_code
def yX4_takeDown : MethodName := ⟨RX4, "takeDown", "(I)V"⟩
abbrev cX4_coatSeenCells : ByteArray := prog_6_method_5_code
def yX4_coatSeenCells : MethodName := ⟨RX4, "coatSeenCells", "(II)I"⟩
abbrev cX4_scrapeAt : ByteArray := prog_6_method_6_code
def yX4_scrapeAt : MethodName := ⟨RX4, "scrapeAt", "(II)I"⟩
abbrev cX4_sellAt : ByteArray := prog_6_method_7_code
def yX4_sellAt : MethodName := ⟨RX4, "sellAt", "(II)Z"⟩
abbrev cX4_fade : ByteArray := prog_6_method_8_code
def yX4_fade : MethodName := ⟨RX4, "fade", "(I)I"⟩
abbrev cX4_fadeAt : ByteArray := prog_6_method_9_code
def yX4_fadeAt : MethodName := ⟨RX4, "fadeAt", "(II)I"⟩
abbrev cX4_daysToClear : ByteArray := prog_6_method_10_code
def yX4_daysToClear : MethodName := ⟨RX4, "daysToClear", "(II)I"⟩
abbrev cX4_daysToOtherPrice : ByteArray := prog_6_method_11_code
def yX4_daysToOtherPrice : MethodName := ⟨RX4, "daysToOtherPrice", "(I)I"⟩
abbrev cX4_daysToSee : ByteArray := prog_6_method_12_code
def yX4_daysToSee : MethodName := ⟨RX4, "daysToSee", "(II)I"⟩
abbrev cX4_seenAt : ByteArray := prog_6_method_13_code
def yX4_seenAt : MethodName := ⟨RX4, "seenAt", "(I)I"⟩
abbrev cX4_seenWithout : ByteArray := prog_6_method_14_code
def yX4_seenWithout : MethodName := ⟨RX4, "seenWithout", "(II)I"⟩
abbrev cX4_sumWithout : ByteArray := prog_6_method_15_code
def yX4_sumWithout : MethodName := ⟨RX4, "sumWithout", "(I)I"⟩
abbrev cX4_priceAt : ByteArray := prog_6_method_16_code
def yX4_priceAt : MethodName := ⟨RX4, "priceAt", "(I)I"⟩
abbrev cX4_seenVarnishAt : ByteArray := prog_6_method_17_code
def yX4_seenVarnishAt : MethodName := ⟨RX4, "seenVarnishAt", "(I)I"⟩
abbrev cX4_postersAt : ByteArray := prog_6_method_18_code
def yX4_postersAt : MethodName := ⟨RX4, "postersAt", "(II)I"⟩
abbrev cX4_notClearAt : ByteArray := prog_6_method_19_code
def yX4_notClearAt : MethodName := ⟨RX4, "notClearAt", "(I)I"⟩
abbrev cX4_seenCellsOf : ByteArray := prog_6_method_20_code
def yX4_seenCellsOf : MethodName := ⟨RX4, "seenCellsOf", "(I)I"⟩
abbrev cX4_cellsWithPrice : ByteArray := prog_6_method_21_code
def yX4_cellsWithPrice : MethodName := ⟨RX4, "cellsWithPrice", "()I"⟩
abbrev cX4_unlikePrices : ByteArray := prog_6_method_22_code
def yX4_unlikePrices : MethodName := ⟨RX4, "unlikePrices", "()I"⟩
abbrev cX4_isPriceSeenBelow : ByteArray := prog_6_method_23_code
def yX4_isPriceSeenBelow : MethodName := ⟨RX4, "isPriceSeenBelow", "(I)Z"⟩
abbrev cX4_greatestPrice : ByteArray := prog_6_method_24_code
def yX4_greatestPrice : MethodName := ⟨RX4, "greatestPrice", "()I"⟩
abbrev cX4_postersUnseen : ByteArray := prog_6_method_25_code
def yX4_postersUnseen : MethodName := ⟨RX4, "postersUnseen", "()I"⟩
abbrev cX4_postersAllClear : ByteArray := prog_6_method_26_code
def yX4_postersAllClear : MethodName := ⟨RX4, "postersAllClear", "()I"⟩
abbrev cX4_pricesUnlike : ByteArray := prog_6_method_27_code
def yX4_pricesUnlike : MethodName := ⟨RX4, "pricesUnlike", "(LVarnishPrices$Wall;)I"⟩
def RX5 : String := "VarnishPrices"
def TX5 : u_T := fun k => match k with
  | 0 => ("VarnishPrices", "wall", "LVarnishPrices$Wall;", true)
  | 1 => ("VarnishPrices", "later", "LVarnishPrices$Wall;", true)
  | 2 => ("VarnishPrices", "history", "LVarnishPrices$History;", true)
  | 3 => ("VarnishPrices", "slots", "[LVarnishPrices$Wall;", true)
  | 4 => ("VarnishPrices", "saved", "[Z", true)
  | _ => ("VarnishPrices", "pad", "LVarnishPrices$Pad;", true)
def tyX5 : Nat → FieldType := fun k => match k with
  | 0 => .object "VarnishPrices$Wall"
  | 1 => .object "VarnishPrices$Wall"
  | 2 => .object "VarnishPrices$History"
  | 3 => .array (.object "VarnishPrices$Wall")
  | 4 => .array .boolean
  | _ => .object "VarnishPrices$Pad"
theorem nmX5 : ∀ a, a < 6 → ∀ b, b < 6 → a ≠ b → (TX5 a).2.1 ≠ (TX5 b).2.1 := by decide +kernel
theorem tyX5_ok : ∀ k, k < 6 → parseFieldDescriptor (TX5 k).2.2.1 = some (tyX5 k) := by decide +kernel
abbrev cX5_init : ByteArray := prog_1_method_1_code
def yX5_init : MethodName := ⟨RX5, "<init>", "()V"⟩
abbrev cX5_paste : ByteArray := prog_1_method_2_code
def yX5_paste : MethodName := ⟨RX5, "paste", "(IIIIII)I"⟩
abbrev cX5_tear : ByteArray := prog_1_method_3_code
def yX5_tear : MethodName := ⟨RX5, "tear", "(I)I"⟩
abbrev cX5_coat : ByteArray := prog_1_method_4_code
def yX5_coat : MethodName := ⟨RX5, "coat", "(II)I"⟩
abbrev cX5_scrape : ByteArray := prog_1_method_5_code
def yX5_scrape : MethodName := ⟨RX5, "scrape", "(III)I"⟩
abbrev cX5_sun : ByteArray := prog_1_method_6_code
def yX5_sun : MethodName := ⟨RX5, "sun", "(II)I"⟩
abbrev cX5_buy : ByteArray := prog_1_method_7_code
def yX5_buy : MethodName := ⟨RX5, "buy", "(III)I"⟩
abbrev cX5_buyAll : ByteArray := prog_1_method_8_code
def yX5_buyAll : MethodName := ⟨RX5, "buyAll", "()I"⟩
abbrev cX5_pass : ByteArray := prog_1_method_9_code
def yX5_pass : MethodName := ⟨RX5, "pass", "(I)I"⟩
abbrev cX5_cell : ByteArray := prog_1_method_10_code
def yX5_cell : MethodName := ⟨RX5, "cell", "(III)I"⟩
abbrev cX5_poster : ByteArray := prog_1_method_11_code
def yX5_poster : MethodName := ⟨RX5, "poster", "(II)I"⟩
abbrev cX5_varnish : ByteArray := prog_1_method_12_code
def yX5_varnish : MethodName := ⟨RX5, "varnish", "(III)I"⟩
abbrev cX5_count : ByteArray := prog_1_method_13_code
def yX5_count : MethodName := ⟨RX5, "count", "(I)I"⟩
abbrev cX5_sunOf : ByteArray := prog_1_method_14_code
def yX5_sunOf : MethodName := ⟨RX5, "sunOf", "(I)I"⟩
abbrev cX5_ifPassed : ByteArray := prog_1_method_15_code
def yX5_ifPassed : MethodName := ⟨RX5, "ifPassed", "(II)I"⟩
abbrev cX5_willShow : ByteArray := prog_1_method_16_code
def yX5_willShow : MethodName := ⟨RX5, "willShow", "(III)I"⟩
abbrev cX5_nextChange : ByteArray := prog_1_method_17_code
def yX5_nextChange : MethodName := ⟨RX5, "nextChange", "()I"⟩
abbrev cX5_comesToLight : ByteArray := prog_1_method_18_code
def yX5_comesToLight : MethodName := ⟨RX5, "comesToLight", "(I)I"⟩
abbrev cX5_bestTorn : ByteArray := prog_1_method_19_code
def yX5_bestTorn : MethodName := ⟨RX5, "bestTorn", "(I)I"⟩
abbrev cX5_put : ByteArray := prog_1_method_20_code
def yX5_put : MethodName := ⟨RX5, "put", "(J)I"⟩
abbrev cX5_wipe : ByteArray := prog_1_method_21_code
def yX5_wipe : MethodName := ⟨RX5, "wipe", "()I"⟩
abbrev cX5_fault : ByteArray := prog_1_method_22_code
def yX5_fault : MethodName := ⟨RX5, "fault", "()I"⟩
abbrev cX5_undo : ByteArray := prog_1_method_23_code
def yX5_undo : MethodName := ⟨RX5, "undo", "()I"⟩
abbrev cX5_save : ByteArray := prog_1_method_24_code
def yX5_save : MethodName := ⟨RX5, "save", "(I)I"⟩
abbrev cX5_restore : ByteArray := prog_1_method_25_code
def yX5_restore : MethodName := ⟨RX5, "restore", "(I)I"⟩
abbrev cX5_isPoster : ByteArray := prog_1_method_26_code
def yX5_isPoster : MethodName := ⟨RX5, "isPoster", "(I)Z"⟩
abbrev cX5_isColumn : ByteArray := prog_1_method_27_code
def yX5_isColumn : MethodName := ⟨RX5, "isColumn", "(I)Z"⟩
abbrev cX5_isCell : ByteArray := prog_1_method_28_code
def yX5_isCell : MethodName := ⟨RX5, "isCell", "(II)Z"⟩
abbrev cX5_isWithin : ByteArray := prog_1_method_29_code
def yX5_isWithin : MethodName := ⟨RX5, "isWithin", "(III)Z"⟩
abbrev cX5_cellAt : ByteArray := prog_1_method_30_code
def yX5_cellAt : MethodName := ⟨RX5, "cellAt", "(II)I"⟩
def RX6 : String := "VarnishPricesModel"
def TX6 : u_T := fun k => match k with
  | 0 => ("VarnishPricesModel", "thrown", "I", false)
  | 1 => ("VarnishPricesModel", "s", "[I", true)
  | 2 => ("VarnishPricesModel", "aside", "[I", true)
  | 3 => ("VarnishPricesModel", "undos", "[I", true)
  | 4 => ("VarnishPricesModel", "undoMany", "I", false)
  | 5 => ("VarnishPricesModel", "slots", "[I", true)
  | 6 => ("VarnishPricesModel", "hasSlot", "[Z", true)
  | 7 => ("VarnishPricesModel", "pad", "[I", true)
  | 8 => ("VarnishPricesModel", "length", "I", false)
  | 9 => ("VarnishPricesModel", "seen", "[I", true)
  | 10 => ("VarnishPricesModel", "shown", "[I", true)
  | 11 => ("VarnishPricesModel", "at", "I", false)
  | 12 => ("VarnishPricesModel", "isWell", "Z", false)
  | 13 => ("VarnishPricesModel", "buyers", "[I", true)
  | _ => ("VarnishPricesModel", "buyerMany", "I", false)
def tyX6 : Nat → FieldType := fun k => match k with
  | 0 => .int
  | 1 => .array .int
  | 2 => .array .int
  | 3 => .array .int
  | 4 => .int
  | 5 => .array .int
  | 6 => .array .boolean
  | 7 => .array .int
  | 8 => .int
  | 9 => .array .int
  | 10 => .array .int
  | 11 => .int
  | 12 => .boolean
  | 13 => .array .int
  | _ => .int
theorem nmX6 : ∀ a, a < 15 → ∀ b, b < 15 → a ≠ b → (TX6 a).2.1 ≠ (TX6 b).2.1 := by decide +kernel
theorem tyX6_ok : ∀ k, k < 15 → parseFieldDescriptor (TX6 k).2.2.1 = some (tyX6 k) := by decide +kernel
abbrev cX6_init : ByteArray := prog_8_method_1_code
def yX6_init : MethodName := ⟨RX6, "<init>", "()V"⟩
abbrev cX6_in : ByteArray := prog_8_method_3_code
def yX6_in : MethodName := ⟨RX6, "in", "(III)Z"⟩
abbrev cX6_of : ByteArray := prog_8_method_4_code
def yX6_of : MethodName := ⟨RX6, "of", "(II)I"⟩
abbrev cX6_adds : ByteArray := prog_8_method_5_code
def yX6_adds : MethodName := ⟨RX6, "adds", "(III)V"⟩
abbrev cX6_isPoster : ByteArray := prog_8_method_6_code
def yX6_isPoster : MethodName := ⟨RX6, "isPoster", "(I)Z"⟩
abbrev cX6_isCell : ByteArray := prog_8_method_7_code
def yX6_isCell : MethodName := ⟨RX6, "isCell", "(II)Z"⟩
abbrev cX6_has : ByteArray := prog_8_method_8_code
def yX6_has : MethodName := ⟨RX6, "has", "(II)I"⟩
abbrev cX6_lays : ByteArray := prog_8_method_9_code
def yX6_lays : MethodName := ⟨RX6, "lays", "(III)V"⟩
abbrev cX6_lies : ByteArray := prog_8_method_10_code
def yX6_lies : MethodName := ⟨RX6, "lies", "(II)Z"⟩
abbrev cX6_records : ByteArray := prog_8_method_11_code
def yX6_records : MethodName := ⟨RX6, "records", "()V"⟩
abbrev cX6_putAside : ByteArray := prog_8_method_12_code
def yX6_putAside : MethodName := ⟨RX6, "putAside", "()V"⟩
abbrev cX6_takeBack : ByteArray := prog_8_method_13_code
def yX6_takeBack : MethodName := ⟨RX6, "takeBack", "()V"⟩
abbrev cX6_seenAt : ByteArray := prog_8_method_14_code
def yX6_seenAt : MethodName := ⟨RX6, "seenAt", "(II)I"⟩
abbrev cX6_priceAt : ByteArray := prog_8_method_15_code
def yX6_priceAt : MethodName := ⟨RX6, "priceAt", "(I)I"⟩
abbrev cX6_loses : ByteArray := prog_8_method_16_code
def yX6_loses : MethodName := ⟨RX6, "loses", "(III)Z"⟩
abbrev cX6_day : ByteArray := prog_8_method_17_code
def yX6_day : MethodName := ⟨RX6, "day", "()I"⟩
abbrev cX6_days : ByteArray := prog_8_method_18_code
def yX6_days : MethodName := ⟨RX6, "days", "(I)I"⟩
abbrev cX6_sumBut : ByteArray := prog_8_method_19_code
def yX6_sumBut : MethodName := ⟨RX6, "sumBut", "(I)I"⟩
abbrev cX6_laysShown : ByteArray := prog_8_method_20_code
def yX6_laysShown : MethodName := ⟨RX6, "laysShown", "()V"⟩
abbrev cX6_others : ByteArray := prog_8_method_21_code
def yX6_others : MethodName := ⟨RX6, "others", "()I"⟩
abbrev cX6_overCells : ByteArray := prog_8_method_22_code
def yX6_overCells : MethodName := ⟨RX6, "overCells", "(II)I"⟩
abbrev cX6_paste : ByteArray := prog_8_method_23_code
def yX6_paste : MethodName := ⟨RX6, "paste", "(IIIIII)I"⟩
abbrev cX6_drops : ByteArray := prog_8_method_24_code
def yX6_drops : MethodName := ⟨RX6, "drops", "(I)V"⟩
abbrev cX6_tear : ByteArray := prog_8_method_25_code
def yX6_tear : MethodName := ⟨RX6, "tear", "(I)I"⟩
abbrev cX6_coat : ByteArray := prog_8_method_26_code
def yX6_coat : MethodName := ⟨RX6, "coat", "(II)I"⟩
abbrev cX6_scrape : ByteArray := prog_8_method_27_code
def yX6_scrape : MethodName := ⟨RX6, "scrape", "(III)I"⟩
abbrev cX6_sun : ByteArray := prog_8_method_28_code
def yX6_sun : MethodName := ⟨RX6, "sun", "(II)I"⟩
abbrev cX6_pays : ByteArray := prog_8_method_29_code
def yX6_pays : MethodName := ⟨RX6, "pays", "(II)Z"⟩
abbrev cX6_buy : ByteArray := prog_8_method_30_code
def yX6_buy : MethodName := ⟨RX6, "buy", "(III)I"⟩
abbrev cX6_buyAll : ByteArray := prog_8_method_31_code
def yX6_buyAll : MethodName := ⟨RX6, "buyAll", "()I"⟩
abbrev cX6_pass : ByteArray := prog_8_method_32_code
def yX6_pass : MethodName := ⟨RX6, "pass", "(I)I"⟩
abbrev cX6_cell : ByteArray := prog_8_method_33_code
def yX6_cell : MethodName := ⟨RX6, "cell", "(III)I"⟩
abbrev cX6_lyingAt : ByteArray := prog_8_method_34_code
def yX6_lyingAt : MethodName := ⟨RX6, "lyingAt", "(IZ)I"⟩
abbrev cX6_poster : ByteArray := prog_8_method_35_code
def yX6_poster : MethodName := ⟨RX6, "poster", "(II)I"⟩
abbrev cX6_varnish : ByteArray := prog_8_method_36_code
def yX6_varnish : MethodName := ⟨RX6, "varnish", "(III)I"⟩
abbrev cX6_overWall : ByteArray := prog_8_method_37_code
def yX6_overWall : MethodName := ⟨RX6, "overWall", "(I)I"⟩
abbrev cX6_overPosters : ByteArray := prog_8_method_38_code
def yX6_overPosters : MethodName := ⟨RX6, "overPosters", "(I)I"⟩
abbrev cX6_count : ByteArray := prog_8_method_39_code
def yX6_count : MethodName := ⟨RX6, "count", "(I)I"⟩
abbrev cX6_sunOf : ByteArray := prog_8_method_40_code
def yX6_sunOf : MethodName := ⟨RX6, "sunOf", "(I)I"⟩
abbrev cX6_ifPassed : ByteArray := prog_8_method_41_code
def yX6_ifPassed : MethodName := ⟨RX6, "ifPassed", "(II)I"⟩
abbrev cX6_willShow : ByteArray := prog_8_method_42_code
def yX6_willShow : MethodName := ⟨RX6, "willShow", "(III)I"⟩
abbrev cX6_nextChange : ByteArray := prog_8_method_43_code
def yX6_nextChange : MethodName := ⟨RX6, "nextChange", "()I"⟩
abbrev cX6_comesToLight : ByteArray := prog_8_method_44_code
def yX6_comesToLight : MethodName := ⟨RX6, "comesToLight", "(I)I"⟩
abbrev cX6_bestTorn : ByteArray := prog_8_method_45_code
def yX6_bestTorn : MethodName := ⟨RX6, "bestTorn", "(I)I"⟩
abbrev cX6_put : ByteArray := prog_8_method_46_code
def yX6_put : MethodName := ⟨RX6, "put", "(J)I"⟩
abbrev cX6_wipe : ByteArray := prog_8_method_47_code
def yX6_wipe : MethodName := ⟨RX6, "wipe", "()I"⟩
abbrev cX6_sign : ByteArray := prog_8_method_48_code
def yX6_sign : MethodName := ⟨RX6, "sign", "()I"⟩
abbrev cX6_wants : ByteArray := prog_8_method_49_code
def yX6_wants : MethodName := ⟨RX6, "wants", "(I)V"⟩
abbrev cX6_digit : ByteArray := prog_8_method_50_code
def yX6_digit : MethodName := ⟨RX6, "digit", "(I)I"⟩
abbrev cX6_readsBuyer : ByteArray := prog_8_method_51_code
def yX6_readsBuyer : MethodName := ⟨RX6, "readsBuyer", "()V"⟩
abbrev cX6_reads : ByteArray := prog_8_method_52_code
def yX6_reads : MethodName := ⟨RX6, "reads", "()I"⟩
abbrev cX6_fault : ByteArray := prog_8_method_53_code
def yX6_fault : MethodName := ⟨RX6, "fault", "()I"⟩
abbrev cX6_undo : ByteArray := prog_8_method_54_code
def yX6_undo : MethodName := ⟨RX6, "undo", "()I"⟩
abbrev cX6_save : ByteArray := prog_8_method_55_code
def yX6_save : MethodName := ⟨RX6, "save", "(I)I"⟩
abbrev cX6_restore : ByteArray := prog_8_method_56_code
def yX6_restore : MethodName := ⟨RX6, "restore", "(I)I"⟩
def RJ9 : String := "java/lang/Math"
abbrev cJ9_max_7cf53 : ByteArray := prog_9_method_65_code
def yJ9_max_7cf53 : MethodName := ⟨RJ9, "max", "(II)I"⟩
abbrev cJ9_min_7cf53 : ByteArray := prog_9_method_69_code
def yJ9_min_7cf53 : MethodName := ⟨RJ9, "min", "(II)I"⟩
def RJ10 : String := "java/lang/System"
def RL : String := "VarnishPricesLaw"
abbrev cL_law : ByteArray := code
def yL_law : MethodName := ⟨RL, "law", "([I)Z"⟩
theorem dX0_init_0 : decode cX0_init 0 = .ok (.aload_n 0, 1) := by decide +kernel
theorem dX0_init_1 : decode cX0_init 1 = .ok (.invokespecial 3, 3) := by decide +kernel
theorem dX0_init_4 : decode cX0_init 4 = .ok (.return_, 1) := by decide +kernel
theorem dX0_begin_0 : decode cX0_begin 0 = .ok (.aload_n 0, 1) := by decide +kernel
theorem dX0_begin_1 : decode cX0_begin 1 = .ok (.iconst 0, 1) := by decide +kernel
theorem dX0_begin_2 : decode cX0_begin 2 = .ok (.putfield 11, 3) := by decide +kernel
theorem dX0_begin_5 : decode cX0_begin 5 = .ok (.return_, 1) := by decide +kernel
theorem dX0_mayEnd_0 : decode cX0_mayEnd 0 = .ok (.aload_n 0, 1) := by decide +kernel
theorem dX0_mayEnd_1 : decode cX0_mayEnd 1 = .ok (.getfield 11, 3) := by decide +kernel
theorem dX0_mayEnd_4 : decode cX0_mayEnd 4 = .ok (.iconst 4, 1) := by decide +kernel
theorem dX0_mayEnd_5 : decode cX0_mayEnd 5 = .ok (.if_icmp .ne 7, 3) := by decide +kernel
theorem dX0_mayEnd_8 : decode cX0_mayEnd 8 = .ok (.iconst 1, 1) := by decide +kernel
theorem dX0_mayEnd_9 : decode cX0_mayEnd 9 = .ok (.goto 4, 3) := by decide +kernel
theorem dX0_mayEnd_12 : decode cX0_mayEnd 12 = .ok (.iconst 0, 1) := by decide +kernel
theorem dX0_mayEnd_13 : decode cX0_mayEnd 13 = .ok (.ireturn, 1) := by decide +kernel
theorem dX0_takes_0 : decode cX0_takes 0 = .ok (.iload_n 1, 1) := by decide +kernel
theorem dX0_takes_1 : decode cX0_takes 1 = .ok (.bipush 48, 2) := by decide +kernel
theorem dX0_takes_3 : decode cX0_takes 3 = .ok (.if_icmp .lt 16, 3) := by decide +kernel
theorem dX0_takes_6 : decode cX0_takes 6 = .ok (.iload_n 1, 1) := by decide +kernel
theorem dX0_takes_7 : decode cX0_takes 7 = .ok (.bipush 57, 2) := by decide +kernel
theorem dX0_takes_9 : decode cX0_takes 9 = .ok (.if_icmp .gt 10, 3) := by decide +kernel
theorem dX0_takes_12 : decode cX0_takes 12 = .ok (.iload_n 1, 1) := by decide +kernel
theorem dX0_takes_13 : decode cX0_takes 13 = .ok (.bipush 48, 2) := by decide +kernel
theorem dX0_takes_15 : decode cX0_takes 15 = .ok (.isub, 1) := by decide +kernel
theorem dX0_takes_16 : decode cX0_takes 16 = .ok (.goto 5, 3) := by decide +kernel
theorem dX0_takes_19 : decode cX0_takes 19 = .ok (.bipush (-6), 2) := by decide +kernel
theorem dX0_takes_21 : decode cX0_takes 21 = .ok (.istore_n 2, 1) := by decide +kernel
theorem dX0_takes_22 : decode cX0_takes 22 = .ok (.aload_n 0, 1) := by decide +kernel
theorem dX0_takes_23 : decode cX0_takes 23 = .ok (.getfield 11, 3) := by decide +kernel
theorem dX0_takes_26 : decode cX0_takes 26 = .ok (.tableswitch 108 0 3 #[30, 52, 69, 86], 30) := by decide +kernel
theorem dX0_takes_56 : decode cX0_takes 56 = .ok (.aload_n 0, 1) := by decide +kernel
theorem dX0_takes_57 : decode cX0_takes 57 = .ok (.iload_n 2, 1) := by decide +kernel
theorem dX0_takes_58 : decode cX0_takes 58 = .ok (.putfield 15, 3) := by decide +kernel
theorem dX0_takes_61 : decode cX0_takes 61 = .ok (.aload_n 0, 1) := by decide +kernel
theorem dX0_takes_62 : decode cX0_takes 62 = .ok (.iconst 1, 1) := by decide +kernel
theorem dX0_takes_63 : decode cX0_takes 63 = .ok (.putfield 11, 3) := by decide +kernel
theorem dX0_takes_66 : decode cX0_takes 66 = .ok (.iload_n 2, 1) := by decide +kernel
theorem dX0_takes_67 : decode cX0_takes 67 = .ok (.bipush (-6), 2) := by decide +kernel
theorem dX0_takes_69 : decode cX0_takes 69 = .ok (.if_icmp .eq 7, 3) := by decide +kernel
theorem dX0_takes_72 : decode cX0_takes 72 = .ok (.iconst 1, 1) := by decide +kernel
theorem dX0_takes_73 : decode cX0_takes 73 = .ok (.goto 4, 3) := by decide +kernel
theorem dX0_takes_76 : decode cX0_takes 76 = .ok (.iconst 0, 1) := by decide +kernel
theorem dX0_takes_77 : decode cX0_takes 77 = .ok (.ireturn, 1) := by decide +kernel
theorem dX0_takes_78 : decode cX0_takes 78 = .ok (.aload_n 0, 1) := by decide +kernel
theorem dX0_takes_79 : decode cX0_takes 79 = .ok (.iload_n 2, 1) := by decide +kernel
theorem dX0_takes_80 : decode cX0_takes 80 = .ok (.putfield 18, 3) := by decide +kernel
theorem dX0_takes_83 : decode cX0_takes 83 = .ok (.aload_n 0, 1) := by decide +kernel
theorem dX0_takes_84 : decode cX0_takes 84 = .ok (.iconst 2, 1) := by decide +kernel
theorem dX0_takes_85 : decode cX0_takes 85 = .ok (.putfield 11, 3) := by decide +kernel
theorem dX0_takes_88 : decode cX0_takes 88 = .ok (.iload_n 2, 1) := by decide +kernel
theorem dX0_takes_89 : decode cX0_takes 89 = .ok (.iconst 0, 1) := by decide +kernel
theorem dX0_takes_90 : decode cX0_takes 90 = .ok (.iconst 5, 1) := by decide +kernel
theorem dX0_takes_91 : decode cX0_takes 91 = .ok (.invokestatic 21, 3) := by decide +kernel
theorem dX0_takes_94 : decode cX0_takes 94 = .ok (.ireturn, 1) := by decide +kernel
theorem dX0_takes_95 : decode cX0_takes 95 = .ok (.aload_n 0, 1) := by decide +kernel
theorem dX0_takes_96 : decode cX0_takes 96 = .ok (.iconst 3, 1) := by decide +kernel
theorem dX0_takes_97 : decode cX0_takes 97 = .ok (.putfield 11, 3) := by decide +kernel
theorem dX0_takes_100 : decode cX0_takes 100 = .ok (.iload_n 1, 1) := by decide +kernel
theorem dX0_takes_101 : decode cX0_takes 101 = .ok (.bipush 58, 2) := by decide +kernel
theorem dX0_takes_103 : decode cX0_takes 103 = .ok (.if_icmp .ne 7, 3) := by decide +kernel
theorem dX0_takes_106 : decode cX0_takes 106 = .ok (.iconst 1, 1) := by decide +kernel
theorem dX0_takes_107 : decode cX0_takes 107 = .ok (.goto 4, 3) := by decide +kernel
theorem dX0_takes_110 : decode cX0_takes 110 = .ok (.iconst 0, 1) := by decide +kernel
theorem dX0_takes_111 : decode cX0_takes 111 = .ok (.ireturn, 1) := by decide +kernel
theorem dX0_takes_112 : decode cX0_takes 112 = .ok (.aload_n 0, 1) := by decide +kernel
theorem dX0_takes_113 : decode cX0_takes 113 = .ok (.iload_n 2, 1) := by decide +kernel
theorem dX0_takes_114 : decode cX0_takes 114 = .ok (.putfield 25, 3) := by decide +kernel
theorem dX0_takes_117 : decode cX0_takes 117 = .ok (.aload_n 0, 1) := by decide +kernel
theorem dX0_takes_118 : decode cX0_takes 118 = .ok (.iconst 4, 1) := by decide +kernel
theorem dX0_takes_119 : decode cX0_takes 119 = .ok (.putfield 11, 3) := by decide +kernel
theorem dX0_takes_122 : decode cX0_takes 122 = .ok (.iload_n 2, 1) := by decide +kernel
theorem dX0_takes_123 : decode cX0_takes 123 = .ok (.bipush (-6), 2) := by decide +kernel
theorem dX0_takes_125 : decode cX0_takes 125 = .ok (.if_icmp .eq 7, 3) := by decide +kernel
theorem dX0_takes_128 : decode cX0_takes 128 = .ok (.iconst 1, 1) := by decide +kernel
theorem dX0_takes_129 : decode cX0_takes 129 = .ok (.goto 4, 3) := by decide +kernel
theorem dX0_takes_132 : decode cX0_takes 132 = .ok (.iconst 0, 1) := by decide +kernel
theorem dX0_takes_133 : decode cX0_takes 133 = .ok (.ireturn, 1) := by decide +kernel
theorem dX0_takes_134 : decode cX0_takes 134 = .ok (.iload_n 1, 1) := by decide +kernel
theorem dX0_takes_135 : decode cX0_takes 135 = .ok (.bipush 59, 2) := by decide +kernel
theorem dX0_takes_137 : decode cX0_takes 137 = .ok (.if_icmp .ne 10, 3) := by decide +kernel
theorem dX0_takes_140 : decode cX0_takes 140 = .ok (.aload_n 0, 1) := by decide +kernel
theorem dX0_takes_141 : decode cX0_takes 141 = .ok (.invokevirtual 28, 3) := by decide +kernel
theorem dX0_takes_144 : decode cX0_takes 144 = .ok (.goto 8, 3) := by decide +kernel
theorem dX0_takes_147 : decode cX0_takes 147 = .ok (.aload_n 0, 1) := by decide +kernel
theorem dX0_takes_148 : decode cX0_takes 148 = .ok (.iload_n 2, 1) := by decide +kernel
theorem dX0_takes_149 : decode cX0_takes 149 = .ok (.invokevirtual 32, 3) := by decide +kernel
theorem dX0_takes_152 : decode cX0_takes 152 = .ok (.ireturn, 1) := by decide +kernel
theorem dX0_endsBuyer_0 : decode cX0_endsBuyer 0 = .ok (.aload_n 0, 1) := by decide +kernel
theorem dX0_endsBuyer_1 : decode cX0_endsBuyer 1 = .ok (.iconst 0, 1) := by decide +kernel
theorem dX0_endsBuyer_2 : decode cX0_endsBuyer 2 = .ok (.putfield 11, 3) := by decide +kernel
theorem dX0_endsBuyer_5 : decode cX0_endsBuyer 5 = .ok (.iconst 1, 1) := by decide +kernel
theorem dX0_endsBuyer_6 : decode cX0_endsBuyer 6 = .ok (.ireturn, 1) := by decide +kernel
theorem dX0_lengthensPurse_0 : decode cX0_lengthensPurse 0 = .ok (.iload_n 1, 1) := by decide +kernel
theorem dX0_lengthensPurse_1 : decode cX0_lengthensPurse 1 = .ok (.bipush (-6), 2) := by decide +kernel
theorem dX0_lengthensPurse_3 : decode cX0_lengthensPurse 3 = .ok (.if_icmp .eq 25, 3) := by decide +kernel
theorem dX0_lengthensPurse_6 : decode cX0_lengthensPurse 6 = .ok (.aload_n 0, 1) := by decide +kernel
theorem dX0_lengthensPurse_7 : decode cX0_lengthensPurse 7 = .ok (.getfield 25, 3) := by decide +kernel
theorem dX0_lengthensPurse_10 : decode cX0_lengthensPurse 10 = .ok (.ifCond .eq 18, 3) := by decide +kernel
theorem dX0_lengthensPurse_13 : decode cX0_lengthensPurse 13 = .ok (.aload_n 0, 1) := by decide +kernel
theorem dX0_lengthensPurse_14 : decode cX0_lengthensPurse 14 = .ok (.getfield 25, 3) := by decide +kernel
theorem dX0_lengthensPurse_17 : decode cX0_lengthensPurse 17 = .ok (.bipush 10, 2) := by decide +kernel
theorem dX0_lengthensPurse_19 : decode cX0_lengthensPurse 19 = .ok (.imul, 1) := by decide +kernel
theorem dX0_lengthensPurse_20 : decode cX0_lengthensPurse 20 = .ok (.iload_n 1, 1) := by decide +kernel
theorem dX0_lengthensPurse_21 : decode cX0_lengthensPurse 21 = .ok (.iadd, 1) := by decide +kernel
theorem dX0_lengthensPurse_22 : decode cX0_lengthensPurse 22 = .ok (.sipush 999, 3) := by decide +kernel
theorem dX0_lengthensPurse_25 : decode cX0_lengthensPurse 25 = .ok (.if_icmp .le 5, 3) := by decide +kernel
theorem dX0_lengthensPurse_28 : decode cX0_lengthensPurse 28 = .ok (.iconst 0, 1) := by decide +kernel
theorem dX0_lengthensPurse_29 : decode cX0_lengthensPurse 29 = .ok (.ireturn, 1) := by decide +kernel
theorem dX0_lengthensPurse_30 : decode cX0_lengthensPurse 30 = .ok (.aload_n 0, 1) := by decide +kernel
theorem dX0_lengthensPurse_31 : decode cX0_lengthensPurse 31 = .ok (.aload_n 0, 1) := by decide +kernel
theorem dX0_lengthensPurse_32 : decode cX0_lengthensPurse 32 = .ok (.getfield 25, 3) := by decide +kernel
theorem dX0_lengthensPurse_35 : decode cX0_lengthensPurse 35 = .ok (.bipush 10, 2) := by decide +kernel
theorem dX0_lengthensPurse_37 : decode cX0_lengthensPurse 37 = .ok (.imul, 1) := by decide +kernel
theorem dX0_lengthensPurse_38 : decode cX0_lengthensPurse 38 = .ok (.iload_n 1, 1) := by decide +kernel
theorem dX0_lengthensPurse_39 : decode cX0_lengthensPurse 39 = .ok (.iadd, 1) := by decide +kernel
theorem dX0_lengthensPurse_40 : decode cX0_lengthensPurse 40 = .ok (.putfield 25, 3) := by decide +kernel
theorem dX0_lengthensPurse_43 : decode cX0_lengthensPurse 43 = .ok (.iconst 1, 1) := by decide +kernel
theorem dX0_lengthensPurse_44 : decode cX0_lengthensPurse 44 = .ok (.ireturn, 1) := by decide +kernel
theorem dX0_pays_0 : decode cX0_pays 0 = .ok (.aload_n 0, 1) := by decide +kernel
theorem dX0_pays_1 : decode cX0_pays 1 = .ok (.getfield 15, 3) := by decide +kernel
theorem dX0_pays_4 : decode cX0_pays 4 = .ok (.aload_n 0, 1) := by decide +kernel
theorem dX0_pays_5 : decode cX0_pays 5 = .ok (.getfield 18, 3) := by decide +kernel
theorem dX0_pays_8 : decode cX0_pays 8 = .ok (.invokestatic 36, 3) := by decide +kernel
theorem dX0_pays_11 : decode cX0_pays 11 = .ok (.ifCond .eq 29, 3) := by decide +kernel
theorem dX0_pays_14 : decode cX0_pays 14 = .ok (.aload_n 1, 1) := by decide +kernel
theorem dX0_pays_15 : decode cX0_pays 15 = .ok (.aload_n 0, 1) := by decide +kernel
theorem dX0_pays_16 : decode cX0_pays 16 = .ok (.getfield 15, 3) := by decide +kernel
theorem dX0_pays_19 : decode cX0_pays 19 = .ok (.aload_n 0, 1) := by decide +kernel
theorem dX0_pays_20 : decode cX0_pays 20 = .ok (.getfield 18, 3) := by decide +kernel
theorem dX0_pays_23 : decode cX0_pays 23 = .ok (.invokestatic 40, 3) := by decide +kernel
theorem dX0_pays_26 : decode cX0_pays 26 = .ok (.aload_n 0, 1) := by decide +kernel
theorem dX0_pays_27 : decode cX0_pays 27 = .ok (.getfield 25, 3) := by decide +kernel
theorem dX0_pays_30 : decode cX0_pays 30 = .ok (.invokevirtual 44, 3) := by decide +kernel
theorem dX0_pays_33 : decode cX0_pays 33 = .ok (.ifCond .eq 7, 3) := by decide +kernel
theorem dX0_pays_36 : decode cX0_pays 36 = .ok (.iconst 1, 1) := by decide +kernel
theorem dX0_pays_37 : decode cX0_pays 37 = .ok (.goto 4, 3) := by decide +kernel
theorem dX0_pays_40 : decode cX0_pays 40 = .ok (.iconst 0, 1) := by decide +kernel
theorem dX0_pays_41 : decode cX0_pays 41 = .ok (.ireturn, 1) := by decide +kernel
theorem dX1_init_0 : decode cX1_init 0 = .ok (.aload_n 0, 1) := by decide +kernel
theorem dX1_init_1 : decode cX1_init 1 = .ok (.invokespecial 3, 3) := by decide +kernel
theorem dX1_init_4 : decode cX1_init 4 = .ok (.aload_n 0, 1) := by decide +kernel
theorem dX1_init_5 : decode cX1_init 5 = .ok (.bipush 6, 2) := by decide +kernel
theorem dX1_init_7 : decode cX1_init 7 = .ok (.anewarray 9, 3) := by decide +kernel
theorem dX1_init_10 : decode cX1_init 10 = .ok (.putfield 11, 3) := by decide +kernel
theorem dX1_init_13 : decode cX1_init 13 = .ok (.iconst 0, 1) := by decide +kernel
theorem dX1_init_14 : decode cX1_init 14 = .ok (.istore_n 1, 1) := by decide +kernel
theorem dX1_init_15 : decode cX1_init 15 = .ok (.iload_n 1, 1) := by decide +kernel
theorem dX1_init_16 : decode cX1_init 16 = .ok (.bipush 6, 2) := by decide +kernel
theorem dX1_init_18 : decode cX1_init 18 = .ok (.if_icmp .ge 22, 3) := by decide +kernel
theorem dX1_init_21 : decode cX1_init 21 = .ok (.aload_n 0, 1) := by decide +kernel
theorem dX1_init_22 : decode cX1_init 22 = .ok (.getfield 11, 3) := by decide +kernel
theorem dX1_init_25 : decode cX1_init 25 = .ok (.iload_n 1, 1) := by decide +kernel
theorem dX1_init_26 : decode cX1_init 26 = .ok (.new 9, 3) := by decide +kernel
theorem dX1_init_29 : decode cX1_init 29 = .ok (.dup, 1) := by decide +kernel
theorem dX1_init_30 : decode cX1_init 30 = .ok (.invokespecial 17, 3) := by decide +kernel
theorem dX1_init_33 : decode cX1_init 33 = .ok (.aastore, 1) := by decide +kernel
theorem dX1_init_34 : decode cX1_init 34 = .ok (.iinc 1 1, 3) := by decide +kernel
theorem dX1_init_37 : decode cX1_init 37 = .ok (.goto (-22), 3) := by decide +kernel
theorem dX1_init_40 : decode cX1_init 40 = .ok (.return_, 1) := by decide +kernel
theorem dX1_keep_0 : decode cX1_keep 0 = .ok (.aload_n 0, 1) := by decide +kernel
theorem dX1_keep_1 : decode cX1_keep 1 = .ok (.getfield 18, 3) := by decide +kernel
theorem dX1_keep_4 : decode cX1_keep 4 = .ok (.bipush 6, 2) := by decide +kernel
theorem dX1_keep_6 : decode cX1_keep 6 = .ok (.if_icmp .lt 7, 3) := by decide +kernel
theorem dX1_keep_9 : decode cX1_keep 9 = .ok (.aload_n 0, 1) := by decide +kernel
theorem dX1_keep_10 : decode cX1_keep 10 = .ok (.invokevirtual 22, 3) := by decide +kernel
theorem dX1_keep_13 : decode cX1_keep 13 = .ok (.aload_n 0, 1) := by decide +kernel
theorem dX1_keep_14 : decode cX1_keep 14 = .ok (.getfield 11, 3) := by decide +kernel
theorem dX1_keep_17 : decode cX1_keep 17 = .ok (.aload_n 0, 1) := by decide +kernel
theorem dX1_keep_18 : decode cX1_keep 18 = .ok (.getfield 18, 3) := by decide +kernel
theorem dX1_keep_21 : decode cX1_keep 21 = .ok (.aaload, 1) := by decide +kernel
theorem dX1_keep_22 : decode cX1_keep 22 = .ok (.aload_n 1, 1) := by decide +kernel
theorem dX1_keep_23 : decode cX1_keep 23 = .ok (.invokevirtual 25, 3) := by decide +kernel
theorem dX1_keep_26 : decode cX1_keep 26 = .ok (.aload_n 0, 1) := by decide +kernel
theorem dX1_keep_27 : decode cX1_keep 27 = .ok (.dup, 1) := by decide +kernel
theorem dX1_keep_28 : decode cX1_keep 28 = .ok (.getfield 18, 3) := by decide +kernel
theorem dX1_keep_31 : decode cX1_keep 31 = .ok (.iconst 1, 1) := by decide +kernel
theorem dX1_keep_32 : decode cX1_keep 32 = .ok (.iadd, 1) := by decide +kernel
theorem dX1_keep_33 : decode cX1_keep 33 = .ok (.putfield 18, 3) := by decide +kernel
theorem dX1_keep_36 : decode cX1_keep 36 = .ok (.return_, 1) := by decide +kernel
theorem dX1_dropOldest_0 : decode cX1_dropOldest 0 = .ok (.aload_n 0, 1) := by decide +kernel
theorem dX1_dropOldest_1 : decode cX1_dropOldest 1 = .ok (.getfield 11, 3) := by decide +kernel
theorem dX1_dropOldest_4 : decode cX1_dropOldest 4 = .ok (.iconst 0, 1) := by decide +kernel
theorem dX1_dropOldest_5 : decode cX1_dropOldest 5 = .ok (.aaload, 1) := by decide +kernel
theorem dX1_dropOldest_6 : decode cX1_dropOldest 6 = .ok (.astore_n 1, 1) := by decide +kernel
theorem dX1_dropOldest_7 : decode cX1_dropOldest 7 = .ok (.iconst 1, 1) := by decide +kernel
theorem dX1_dropOldest_8 : decode cX1_dropOldest 8 = .ok (.istore_n 2, 1) := by decide +kernel
theorem dX1_dropOldest_9 : decode cX1_dropOldest 9 = .ok (.iload_n 2, 1) := by decide +kernel
theorem dX1_dropOldest_10 : decode cX1_dropOldest 10 = .ok (.bipush 6, 2) := by decide +kernel
theorem dX1_dropOldest_12 : decode cX1_dropOldest 12 = .ok (.if_icmp .ge 23, 3) := by decide +kernel
theorem dX1_dropOldest_15 : decode cX1_dropOldest 15 = .ok (.aload_n 0, 1) := by decide +kernel
theorem dX1_dropOldest_16 : decode cX1_dropOldest 16 = .ok (.getfield 11, 3) := by decide +kernel
theorem dX1_dropOldest_19 : decode cX1_dropOldest 19 = .ok (.iload_n 2, 1) := by decide +kernel
theorem dX1_dropOldest_20 : decode cX1_dropOldest 20 = .ok (.iconst 1, 1) := by decide +kernel
theorem dX1_dropOldest_21 : decode cX1_dropOldest 21 = .ok (.isub, 1) := by decide +kernel
theorem dX1_dropOldest_22 : decode cX1_dropOldest 22 = .ok (.aload_n 0, 1) := by decide +kernel
theorem dX1_dropOldest_23 : decode cX1_dropOldest 23 = .ok (.getfield 11, 3) := by decide +kernel
theorem dX1_dropOldest_26 : decode cX1_dropOldest 26 = .ok (.iload_n 2, 1) := by decide +kernel
theorem dX1_dropOldest_27 : decode cX1_dropOldest 27 = .ok (.aaload, 1) := by decide +kernel
theorem dX1_dropOldest_28 : decode cX1_dropOldest 28 = .ok (.aastore, 1) := by decide +kernel
theorem dX1_dropOldest_29 : decode cX1_dropOldest 29 = .ok (.iinc 2 1, 3) := by decide +kernel
theorem dX1_dropOldest_32 : decode cX1_dropOldest 32 = .ok (.goto (-23), 3) := by decide +kernel
theorem dX1_dropOldest_35 : decode cX1_dropOldest 35 = .ok (.aload_n 0, 1) := by decide +kernel
theorem dX1_dropOldest_36 : decode cX1_dropOldest 36 = .ok (.getfield 11, 3) := by decide +kernel
theorem dX1_dropOldest_39 : decode cX1_dropOldest 39 = .ok (.iconst 5, 1) := by decide +kernel
theorem dX1_dropOldest_40 : decode cX1_dropOldest 40 = .ok (.aload_n 1, 1) := by decide +kernel
theorem dX1_dropOldest_41 : decode cX1_dropOldest 41 = .ok (.aastore, 1) := by decide +kernel
theorem dX1_dropOldest_42 : decode cX1_dropOldest 42 = .ok (.aload_n 0, 1) := by decide +kernel
theorem dX1_dropOldest_43 : decode cX1_dropOldest 43 = .ok (.iconst 5, 1) := by decide +kernel
theorem dX1_dropOldest_44 : decode cX1_dropOldest 44 = .ok (.putfield 18, 3) := by decide +kernel
theorem dX1_dropOldest_47 : decode cX1_dropOldest 47 = .ok (.return_, 1) := by decide +kernel
theorem dX1_takeBack_0 : decode cX1_takeBack 0 = .ok (.aload_n 0, 1) := by decide +kernel
theorem dX1_takeBack_1 : decode cX1_takeBack 1 = .ok (.getfield 18, 3) := by decide +kernel
theorem dX1_takeBack_4 : decode cX1_takeBack 4 = .ok (.ifCond .le 26, 3) := by decide +kernel
theorem dX1_takeBack_7 : decode cX1_takeBack 7 = .ok (.aload_n 0, 1) := by decide +kernel
theorem dX1_takeBack_8 : decode cX1_takeBack 8 = .ok (.dup, 1) := by decide +kernel
theorem dX1_takeBack_9 : decode cX1_takeBack 9 = .ok (.getfield 18, 3) := by decide +kernel
theorem dX1_takeBack_12 : decode cX1_takeBack 12 = .ok (.iconst 1, 1) := by decide +kernel
theorem dX1_takeBack_13 : decode cX1_takeBack 13 = .ok (.isub, 1) := by decide +kernel
theorem dX1_takeBack_14 : decode cX1_takeBack 14 = .ok (.putfield 18, 3) := by decide +kernel
theorem dX1_takeBack_17 : decode cX1_takeBack 17 = .ok (.aload_n 1, 1) := by decide +kernel
theorem dX1_takeBack_18 : decode cX1_takeBack 18 = .ok (.aload_n 0, 1) := by decide +kernel
theorem dX1_takeBack_19 : decode cX1_takeBack 19 = .ok (.getfield 11, 3) := by decide +kernel
theorem dX1_takeBack_22 : decode cX1_takeBack 22 = .ok (.aload_n 0, 1) := by decide +kernel
theorem dX1_takeBack_23 : decode cX1_takeBack 23 = .ok (.getfield 18, 3) := by decide +kernel
theorem dX1_takeBack_26 : decode cX1_takeBack 26 = .ok (.aaload, 1) := by decide +kernel
theorem dX1_takeBack_27 : decode cX1_takeBack 27 = .ok (.invokevirtual 25, 3) := by decide +kernel
theorem dX1_takeBack_30 : decode cX1_takeBack 30 = .ok (.return_, 1) := by decide +kernel
theorem dX2_init_0 : decode cX2_init 0 = .ok (.aload_n 0, 1) := by decide +kernel
theorem dX2_init_1 : decode cX2_init 1 = .ok (.invokespecial 3, 3) := by decide +kernel
theorem dX2_init_4 : decode cX2_init 4 = .ok (.aload_n 0, 1) := by decide +kernel
theorem dX2_init_5 : decode cX2_init 5 = .ok (.bipush 60, 2) := by decide +kernel
theorem dX2_init_7 : decode cX2_init 7 = .ok (.newarray .char, 2) := by decide +kernel
theorem dX2_init_9 : decode cX2_init 9 = .ok (.putfield 9, 3) := by decide +kernel
theorem dX2_init_12 : decode cX2_init 12 = .ok (.aload_n 0, 1) := by decide +kernel
theorem dX2_init_13 : decode cX2_init 13 = .ok (.new 15, 3) := by decide +kernel
theorem dX2_init_16 : decode cX2_init 16 = .ok (.dup, 1) := by decide +kernel
theorem dX2_init_17 : decode cX2_init 17 = .ok (.invokespecial 17, 3) := by decide +kernel
theorem dX2_init_20 : decode cX2_init 20 = .ok (.putfield 18, 3) := by decide +kernel
theorem dX2_init_23 : decode cX2_init 23 = .ok (.return_, 1) := by decide +kernel
theorem dX2_signsIn_0 : decode cX2_signsIn 0 = .ok (.iconst 0, 1) := by decide +kernel
theorem dX2_signsIn_1 : decode cX2_signsIn 1 = .ok (.istore_n 2, 1) := by decide +kernel
theorem dX2_signsIn_2 : decode cX2_signsIn 2 = .ok (.lload_n 0, 1) := by decide +kernel
theorem dX2_signsIn_3 : decode cX2_signsIn 3 = .ok (.lstore_n 3, 1) := by decide +kernel
theorem dX2_signsIn_4 : decode cX2_signsIn 4 = .ok (.lload_n 3, 1) := by decide +kernel
theorem dX2_signsIn_5 : decode cX2_signsIn 5 = .ok (.lconst 0, 1) := by decide +kernel
theorem dX2_signsIn_6 : decode cX2_signsIn 6 = .ok (.lcmp, 1) := by decide +kernel
theorem dX2_signsIn_7 : decode cX2_signsIn 7 = .ok (.ifCond .eq 44, 3) := by decide +kernel
theorem dX2_signsIn_10 : decode cX2_signsIn 10 = .ok (.iload_n 2, 1) := by decide +kernel
theorem dX2_signsIn_11 : decode cX2_signsIn 11 = .ok (.bipush 8, 2) := by decide +kernel
theorem dX2_signsIn_13 : decode cX2_signsIn 13 = .ok (.if_icmp .ge 38, 3) := by decide +kernel
theorem dX2_signsIn_16 : decode cX2_signsIn 16 = .ok (.lload_n 3, 1) := by decide +kernel
theorem dX2_signsIn_17 : decode cX2_signsIn 17 = .ok (.ldc2_w 22, 3) := by decide +kernel
theorem dX2_signsIn_20 : decode cX2_signsIn 20 = .ok (.land, 1) := by decide +kernel
theorem dX2_signsIn_21 : decode cX2_signsIn 21 = .ok (.l2i, 1) := by decide +kernel
theorem dX2_signsIn_22 : decode cX2_signsIn 22 = .ok (.istore 5, 2) := by decide +kernel
theorem dX2_signsIn_24 : decode cX2_signsIn 24 = .ok (.iload 5, 2) := by decide +kernel
theorem dX2_signsIn_26 : decode cX2_signsIn 26 = .ok (.bipush 33, 2) := by decide +kernel
theorem dX2_signsIn_28 : decode cX2_signsIn 28 = .ok (.if_icmp .lt 10, 3) := by decide +kernel
theorem dX2_signsIn_31 : decode cX2_signsIn 31 = .ok (.iload 5, 2) := by decide +kernel
theorem dX2_signsIn_33 : decode cX2_signsIn 33 = .ok (.bipush 126, 2) := by decide +kernel
theorem dX2_signsIn_35 : decode cX2_signsIn 35 = .ok (.if_icmp .le 5, 3) := by decide +kernel
theorem dX2_signsIn_38 : decode cX2_signsIn 38 = .ok (.iconst 0, 1) := by decide +kernel
theorem dX2_signsIn_39 : decode cX2_signsIn 39 = .ok (.ireturn, 1) := by decide +kernel
theorem dX2_signsIn_40 : decode cX2_signsIn 40 = .ok (.iinc 2 1, 3) := by decide +kernel
theorem dX2_signsIn_43 : decode cX2_signsIn 43 = .ok (.lload_n 3, 1) := by decide +kernel
theorem dX2_signsIn_44 : decode cX2_signsIn 44 = .ok (.bipush 8, 2) := by decide +kernel
theorem dX2_signsIn_46 : decode cX2_signsIn 46 = .ok (.lushr, 1) := by decide +kernel
theorem dX2_signsIn_47 : decode cX2_signsIn 47 = .ok (.lstore_n 3, 1) := by decide +kernel
theorem dX2_signsIn_48 : decode cX2_signsIn 48 = .ok (.goto (-44), 3) := by decide +kernel
theorem dX2_signsIn_51 : decode cX2_signsIn 51 = .ok (.iload_n 2, 1) := by decide +kernel
theorem dX2_signsIn_52 : decode cX2_signsIn 52 = .ok (.ireturn, 1) := by decide +kernel
theorem dX2_append_0 : decode cX2_append 0 = .ok (.iload_n 3, 1) := by decide +kernel
theorem dX2_append_1 : decode cX2_append 1 = .ok (.ifCond .lt 14, 3) := by decide +kernel
theorem dX2_append_4 : decode cX2_append 4 = .ok (.iload_n 3, 1) := by decide +kernel
theorem dX2_append_5 : decode cX2_append 5 = .ok (.bipush 60, 2) := by decide +kernel
theorem dX2_append_7 : decode cX2_append 7 = .ok (.aload_n 0, 1) := by decide +kernel
theorem dX2_append_8 : decode cX2_append 8 = .ok (.getfield 24, 3) := by decide +kernel
theorem dX2_append_11 : decode cX2_append 11 = .ok (.isub, 1) := by decide +kernel
theorem dX2_append_12 : decode cX2_append 12 = .ok (.if_icmp .le 4, 3) := by decide +kernel
theorem dX2_append_15 : decode cX2_append 15 = .ok (.return_, 1) := by decide +kernel
theorem dX2_append_16 : decode cX2_append 16 = .ok (.lload_n 1, 1) := by decide +kernel
theorem dX2_append_17 : decode cX2_append 17 = .ok (.lstore 4, 2) := by decide +kernel
theorem dX2_append_19 : decode cX2_append 19 = .ok (.aload_n 0, 1) := by decide +kernel
theorem dX2_append_20 : decode cX2_append 20 = .ok (.getfield 24, 3) := by decide +kernel
theorem dX2_append_23 : decode cX2_append 23 = .ok (.iload_n 3, 1) := by decide +kernel
theorem dX2_append_24 : decode cX2_append 24 = .ok (.iadd, 1) := by decide +kernel
theorem dX2_append_25 : decode cX2_append 25 = .ok (.iconst 1, 1) := by decide +kernel
theorem dX2_append_26 : decode cX2_append 26 = .ok (.isub, 1) := by decide +kernel
theorem dX2_append_27 : decode cX2_append 27 = .ok (.istore 6, 2) := by decide +kernel
theorem dX2_append_29 : decode cX2_append 29 = .ok (.iload 6, 2) := by decide +kernel
theorem dX2_append_31 : decode cX2_append 31 = .ok (.aload_n 0, 1) := by decide +kernel
theorem dX2_append_32 : decode cX2_append 32 = .ok (.getfield 24, 3) := by decide +kernel
theorem dX2_append_35 : decode cX2_append 35 = .ok (.if_icmp .lt 31, 3) := by decide +kernel
theorem dX2_append_38 : decode cX2_append 38 = .ok (.aload_n 0, 1) := by decide +kernel
theorem dX2_append_39 : decode cX2_append 39 = .ok (.getfield 9, 3) := by decide +kernel
theorem dX2_append_42 : decode cX2_append 42 = .ok (.iload 6, 2) := by decide +kernel
theorem dX2_append_44 : decode cX2_append 44 = .ok (.lload 4, 2) := by decide +kernel
theorem dX2_append_46 : decode cX2_append 46 = .ok (.ldc2_w 22, 3) := by decide +kernel
theorem dX2_append_49 : decode cX2_append 49 = .ok (.land, 1) := by decide +kernel
theorem dX2_append_50 : decode cX2_append 50 = .ok (.l2i, 1) := by decide +kernel
theorem dX2_append_51 : decode cX2_append 51 = .ok (.i2c, 1) := by decide +kernel
theorem dX2_append_52 : decode cX2_append 52 = .ok (.castore, 1) := by decide +kernel
theorem dX2_append_53 : decode cX2_append 53 = .ok (.lload 4, 2) := by decide +kernel
theorem dX2_append_55 : decode cX2_append 55 = .ok (.bipush 8, 2) := by decide +kernel
theorem dX2_append_57 : decode cX2_append 57 = .ok (.lushr, 1) := by decide +kernel
theorem dX2_append_58 : decode cX2_append 58 = .ok (.lstore 4, 2) := by decide +kernel
theorem dX2_append_60 : decode cX2_append 60 = .ok (.iinc 6 (-1), 3) := by decide +kernel
theorem dX2_append_63 : decode cX2_append 63 = .ok (.goto (-34), 3) := by decide +kernel
theorem dX2_append_66 : decode cX2_append 66 = .ok (.aload_n 0, 1) := by decide +kernel
theorem dX2_append_67 : decode cX2_append 67 = .ok (.dup, 1) := by decide +kernel
theorem dX2_append_68 : decode cX2_append 68 = .ok (.getfield 24, 3) := by decide +kernel
theorem dX2_append_71 : decode cX2_append 71 = .ok (.iload_n 3, 1) := by decide +kernel
theorem dX2_append_72 : decode cX2_append 72 = .ok (.iadd, 1) := by decide +kernel
theorem dX2_append_73 : decode cX2_append 73 = .ok (.putfield 24, 3) := by decide +kernel
theorem dX2_append_76 : decode cX2_append 76 = .ok (.return_, 1) := by decide +kernel
theorem dX2_firstFault_0 : decode cX2_firstFault 0 = .ok (.aload_n 0, 1) := by decide +kernel
theorem dX2_firstFault_1 : decode cX2_firstFault 1 = .ok (.getfield 18, 3) := by decide +kernel
theorem dX2_firstFault_4 : decode cX2_firstFault 4 = .ok (.invokevirtual 28, 3) := by decide +kernel
theorem dX2_firstFault_7 : decode cX2_firstFault 7 = .ok (.iconst 0, 1) := by decide +kernel
theorem dX2_firstFault_8 : decode cX2_firstFault 8 = .ok (.istore_n 1, 1) := by decide +kernel
theorem dX2_firstFault_9 : decode cX2_firstFault 9 = .ok (.iload_n 1, 1) := by decide +kernel
theorem dX2_firstFault_10 : decode cX2_firstFault 10 = .ok (.aload_n 0, 1) := by decide +kernel
theorem dX2_firstFault_11 : decode cX2_firstFault 11 = .ok (.getfield 24, 3) := by decide +kernel
theorem dX2_firstFault_14 : decode cX2_firstFault 14 = .ok (.if_icmp .ge 27, 3) := by decide +kernel
theorem dX2_firstFault_17 : decode cX2_firstFault 17 = .ok (.aload_n 0, 1) := by decide +kernel
theorem dX2_firstFault_18 : decode cX2_firstFault 18 = .ok (.getfield 18, 3) := by decide +kernel
theorem dX2_firstFault_21 : decode cX2_firstFault 21 = .ok (.aload_n 0, 1) := by decide +kernel
theorem dX2_firstFault_22 : decode cX2_firstFault 22 = .ok (.getfield 9, 3) := by decide +kernel
theorem dX2_firstFault_25 : decode cX2_firstFault 25 = .ok (.iload_n 1, 1) := by decide +kernel
theorem dX2_firstFault_26 : decode cX2_firstFault 26 = .ok (.caload, 1) := by decide +kernel
theorem dX2_firstFault_27 : decode cX2_firstFault 27 = .ok (.invokevirtual 31, 3) := by decide +kernel
theorem dX2_firstFault_30 : decode cX2_firstFault 30 = .ok (.ifCond .ne 5, 3) := by decide +kernel
theorem dX2_firstFault_33 : decode cX2_firstFault 33 = .ok (.iload_n 1, 1) := by decide +kernel
theorem dX2_firstFault_34 : decode cX2_firstFault 34 = .ok (.ireturn, 1) := by decide +kernel
theorem dX2_firstFault_35 : decode cX2_firstFault 35 = .ok (.iinc 1 1, 3) := by decide +kernel
theorem dX2_firstFault_38 : decode cX2_firstFault 38 = .ok (.goto (-29), 3) := by decide +kernel
theorem dX2_firstFault_41 : decode cX2_firstFault 41 = .ok (.aload_n 0, 1) := by decide +kernel
theorem dX2_firstFault_42 : decode cX2_firstFault 42 = .ok (.getfield 18, 3) := by decide +kernel
theorem dX2_firstFault_45 : decode cX2_firstFault 45 = .ok (.invokevirtual 35, 3) := by decide +kernel
theorem dX2_firstFault_48 : decode cX2_firstFault 48 = .ok (.ifCond .eq 8, 3) := by decide +kernel
theorem dX2_firstFault_51 : decode cX2_firstFault 51 = .ok (.bipush (-6), 2) := by decide +kernel
theorem dX2_firstFault_53 : decode cX2_firstFault 53 = .ok (.goto 7, 3) := by decide +kernel
theorem dX2_firstFault_56 : decode cX2_firstFault 56 = .ok (.aload_n 0, 1) := by decide +kernel
theorem dX2_firstFault_57 : decode cX2_firstFault 57 = .ok (.getfield 24, 3) := by decide +kernel
theorem dX2_firstFault_60 : decode cX2_firstFault 60 = .ok (.ireturn, 1) := by decide +kernel
theorem dX2_sendBuyersTo_0 : decode cX2_sendBuyersTo 0 = .ok (.iconst 0, 1) := by decide +kernel
theorem dX2_sendBuyersTo_1 : decode cX2_sendBuyersTo 1 = .ok (.istore_n 2, 1) := by decide +kernel
theorem dX2_sendBuyersTo_2 : decode cX2_sendBuyersTo 2 = .ok (.aload_n 0, 1) := by decide +kernel
theorem dX2_sendBuyersTo_3 : decode cX2_sendBuyersTo 3 = .ok (.getfield 18, 3) := by decide +kernel
theorem dX2_sendBuyersTo_6 : decode cX2_sendBuyersTo 6 = .ok (.invokevirtual 28, 3) := by decide +kernel
theorem dX2_sendBuyersTo_9 : decode cX2_sendBuyersTo 9 = .ok (.iconst 0, 1) := by decide +kernel
theorem dX2_sendBuyersTo_10 : decode cX2_sendBuyersTo 10 = .ok (.istore_n 3, 1) := by decide +kernel
theorem dX2_sendBuyersTo_11 : decode cX2_sendBuyersTo 11 = .ok (.iload_n 3, 1) := by decide +kernel
theorem dX2_sendBuyersTo_12 : decode cX2_sendBuyersTo 12 = .ok (.aload_n 0, 1) := by decide +kernel
theorem dX2_sendBuyersTo_13 : decode cX2_sendBuyersTo 13 = .ok (.getfield 24, 3) := by decide +kernel
theorem dX2_sendBuyersTo_16 : decode cX2_sendBuyersTo 16 = .ok (.if_icmp .ge 70, 3) := by decide +kernel
theorem dX2_sendBuyersTo_19 : decode cX2_sendBuyersTo 19 = .ok (.aload_n 0, 1) := by decide +kernel
theorem dX2_sendBuyersTo_20 : decode cX2_sendBuyersTo 20 = .ok (.getfield 18, 3) := by decide +kernel
theorem dX2_sendBuyersTo_23 : decode cX2_sendBuyersTo 23 = .ok (.aload_n 0, 1) := by decide +kernel
theorem dX2_sendBuyersTo_24 : decode cX2_sendBuyersTo 24 = .ok (.getfield 9, 3) := by decide +kernel
theorem dX2_sendBuyersTo_27 : decode cX2_sendBuyersTo 27 = .ok (.iload_n 3, 1) := by decide +kernel
theorem dX2_sendBuyersTo_28 : decode cX2_sendBuyersTo 28 = .ok (.caload, 1) := by decide +kernel
theorem dX2_sendBuyersTo_29 : decode cX2_sendBuyersTo 29 = .ok (.invokevirtual 31, 3) := by decide +kernel
theorem dX2_sendBuyersTo_32 : decode cX2_sendBuyersTo 32 = .ok (.pop, 1) := by decide +kernel
theorem dX2_sendBuyersTo_33 : decode cX2_sendBuyersTo 33 = .ok (.iload_n 3, 1) := by decide +kernel
theorem dX2_sendBuyersTo_34 : decode cX2_sendBuyersTo 34 = .ok (.iconst 1, 1) := by decide +kernel
theorem dX2_sendBuyersTo_35 : decode cX2_sendBuyersTo 35 = .ok (.iadd, 1) := by decide +kernel
theorem dX2_sendBuyersTo_36 : decode cX2_sendBuyersTo 36 = .ok (.aload_n 0, 1) := by decide +kernel
theorem dX2_sendBuyersTo_37 : decode cX2_sendBuyersTo 37 = .ok (.getfield 24, 3) := by decide +kernel
theorem dX2_sendBuyersTo_40 : decode cX2_sendBuyersTo 40 = .ok (.if_icmp .ne 7, 3) := by decide +kernel
theorem dX2_sendBuyersTo_43 : decode cX2_sendBuyersTo 43 = .ok (.iconst 1, 1) := by decide +kernel
theorem dX2_sendBuyersTo_44 : decode cX2_sendBuyersTo 44 = .ok (.goto 4, 3) := by decide +kernel
theorem dX2_sendBuyersTo_47 : decode cX2_sendBuyersTo 47 = .ok (.iconst 0, 1) := by decide +kernel
theorem dX2_sendBuyersTo_48 : decode cX2_sendBuyersTo 48 = .ok (.istore 4, 2) := by decide +kernel
theorem dX2_sendBuyersTo_50 : decode cX2_sendBuyersTo 50 = .ok (.iload 4, 2) := by decide +kernel
theorem dX2_sendBuyersTo_52 : decode cX2_sendBuyersTo 52 = .ok (.ifCond .ne 14, 3) := by decide +kernel
theorem dX2_sendBuyersTo_55 : decode cX2_sendBuyersTo 55 = .ok (.aload_n 0, 1) := by decide +kernel
theorem dX2_sendBuyersTo_56 : decode cX2_sendBuyersTo 56 = .ok (.getfield 9, 3) := by decide +kernel
theorem dX2_sendBuyersTo_59 : decode cX2_sendBuyersTo 59 = .ok (.iload_n 3, 1) := by decide +kernel
theorem dX2_sendBuyersTo_60 : decode cX2_sendBuyersTo 60 = .ok (.caload, 1) := by decide +kernel
theorem dX2_sendBuyersTo_61 : decode cX2_sendBuyersTo 61 = .ok (.bipush 59, 2) := by decide +kernel
theorem dX2_sendBuyersTo_63 : decode cX2_sendBuyersTo 63 = .ok (.if_icmp .ne 17, 3) := by decide +kernel
theorem dX2_sendBuyersTo_66 : decode cX2_sendBuyersTo 66 = .ok (.aload_n 0, 1) := by decide +kernel
theorem dX2_sendBuyersTo_67 : decode cX2_sendBuyersTo 67 = .ok (.getfield 18, 3) := by decide +kernel
theorem dX2_sendBuyersTo_70 : decode cX2_sendBuyersTo 70 = .ok (.aload_n 1, 1) := by decide +kernel
theorem dX2_sendBuyersTo_71 : decode cX2_sendBuyersTo 71 = .ok (.invokevirtual 39, 3) := by decide +kernel
theorem dX2_sendBuyersTo_74 : decode cX2_sendBuyersTo 74 = .ok (.ifCond .eq 6, 3) := by decide +kernel
theorem dX2_sendBuyersTo_77 : decode cX2_sendBuyersTo 77 = .ok (.iinc 2 1, 3) := by decide +kernel
theorem dX2_sendBuyersTo_80 : decode cX2_sendBuyersTo 80 = .ok (.iinc 3 1, 3) := by decide +kernel
theorem dX2_sendBuyersTo_83 : decode cX2_sendBuyersTo 83 = .ok (.goto (-72), 3) := by decide +kernel
theorem dX2_sendBuyersTo_86 : decode cX2_sendBuyersTo 86 = .ok (.iload_n 2, 1) := by decide +kernel
theorem dX2_sendBuyersTo_87 : decode cX2_sendBuyersTo 87 = .ok (.ireturn, 1) := by decide +kernel
theorem dX3_init_0 : decode cX3_init 0 = .ok (.aload_n 0, 1) := by decide +kernel
theorem dX3_init_1 : decode cX3_init 1 = .ok (.invokespecial 3, 3) := by decide +kernel
theorem dX3_init_4 : decode cX3_init 4 = .ok (.aload_n 0, 1) := by decide +kernel
theorem dX3_init_5 : decode cX3_init 5 = .ok (.bipush 60, 2) := by decide +kernel
theorem dX3_init_7 : decode cX3_init 7 = .ok (.newarray .int, 2) := by decide +kernel
theorem dX3_init_9 : decode cX3_init 9 = .ok (.putfield 9, 3) := by decide +kernel
theorem dX3_init_12 : decode cX3_init 12 = .ok (.return_, 1) := by decide +kernel
theorem dX3_cover_0 : decode cX3_cover 0 = .ok (.aload_n 0, 1) := by decide +kernel
theorem dX3_cover_1 : decode cX3_cover 1 = .ok (.iload_n 1, 1) := by decide +kernel
theorem dX3_cover_2 : decode cX3_cover 2 = .ok (.putfield 15, 3) := by decide +kernel
theorem dX3_cover_5 : decode cX3_cover 5 = .ok (.aload_n 0, 1) := by decide +kernel
theorem dX3_cover_6 : decode cX3_cover 6 = .ok (.iload_n 2, 1) := by decide +kernel
theorem dX3_cover_7 : decode cX3_cover 7 = .ok (.putfield 19, 3) := by decide +kernel
theorem dX3_cover_10 : decode cX3_cover 10 = .ok (.aload_n 0, 1) := by decide +kernel
theorem dX3_cover_11 : decode cX3_cover 11 = .ok (.iload_n 3, 1) := by decide +kernel
theorem dX3_cover_12 : decode cX3_cover 12 = .ok (.putfield 22, 3) := by decide +kernel
theorem dX3_cover_15 : decode cX3_cover 15 = .ok (.aload_n 0, 1) := by decide +kernel
theorem dX3_cover_16 : decode cX3_cover 16 = .ok (.iload 4, 2) := by decide +kernel
theorem dX3_cover_18 : decode cX3_cover 18 = .ok (.putfield 25, 3) := by decide +kernel
theorem dX3_cover_21 : decode cX3_cover 21 = .ok (.return_, 1) := by decide +kernel
theorem dX3_begin_0 : decode cX3_begin 0 = .ok (.aload_n 0, 1) := by decide +kernel
theorem dX3_begin_1 : decode cX3_begin 1 = .ok (.iload_n 1, 1) := by decide +kernel
theorem dX3_begin_2 : decode cX3_begin 2 = .ok (.putfield 28, 3) := by decide +kernel
theorem dX3_begin_5 : decode cX3_begin 5 = .ok (.aload_n 0, 1) := by decide +kernel
theorem dX3_begin_6 : decode cX3_begin 6 = .ok (.iconst 0, 1) := by decide +kernel
theorem dX3_begin_7 : decode cX3_begin 7 = .ok (.putfield 31, 3) := by decide +kernel
theorem dX3_begin_10 : decode cX3_begin 10 = .ok (.aload_n 0, 1) := by decide +kernel
theorem dX3_begin_11 : decode cX3_begin 11 = .ok (.iconst 0, 1) := by decide +kernel
theorem dX3_begin_12 : decode cX3_begin 12 = .ok (.putfield 34, 3) := by decide +kernel
theorem dX3_begin_15 : decode cX3_begin 15 = .ok (.iconst 0, 1) := by decide +kernel
theorem dX3_begin_16 : decode cX3_begin 16 = .ok (.istore_n 3, 1) := by decide +kernel
theorem dX3_begin_17 : decode cX3_begin 17 = .ok (.iload_n 3, 1) := by decide +kernel
theorem dX3_begin_18 : decode cX3_begin 18 = .ok (.bipush 60, 2) := by decide +kernel
theorem dX3_begin_20 : decode cX3_begin 20 = .ok (.if_icmp .ge 35, 3) := by decide +kernel
theorem dX3_begin_23 : decode cX3_begin 23 = .ok (.aload_n 0, 1) := by decide +kernel
theorem dX3_begin_24 : decode cX3_begin 24 = .ok (.getfield 9, 3) := by decide +kernel
theorem dX3_begin_27 : decode cX3_begin 27 = .ok (.iload_n 3, 1) := by decide +kernel
theorem dX3_begin_28 : decode cX3_begin 28 = .ok (.aload_n 0, 1) := by decide +kernel
theorem dX3_begin_29 : decode cX3_begin 29 = .ok (.iload_n 3, 1) := by decide +kernel
theorem dX3_begin_30 : decode cX3_begin 30 = .ok (.bipush 10, 2) := by decide +kernel
theorem dX3_begin_32 : decode cX3_begin 32 = .ok (.irem, 1) := by decide +kernel
theorem dX3_begin_33 : decode cX3_begin 33 = .ok (.iload_n 3, 1) := by decide +kernel
theorem dX3_begin_34 : decode cX3_begin 34 = .ok (.bipush 10, 2) := by decide +kernel
theorem dX3_begin_36 : decode cX3_begin 36 = .ok (.idiv, 1) := by decide +kernel
theorem dX3_begin_37 : decode cX3_begin 37 = .ok (.invokevirtual 37, 3) := by decide +kernel
theorem dX3_begin_40 : decode cX3_begin 40 = .ok (.ifCond .eq 7, 3) := by decide +kernel
theorem dX3_begin_43 : decode cX3_begin 43 = .ok (.iload_n 2, 1) := by decide +kernel
theorem dX3_begin_44 : decode cX3_begin 44 = .ok (.goto 4, 3) := by decide +kernel
theorem dX3_begin_47 : decode cX3_begin 47 = .ok (.iconst 0, 1) := by decide +kernel
theorem dX3_begin_48 : decode cX3_begin 48 = .ok (.iastore, 1) := by decide +kernel
theorem dX3_begin_49 : decode cX3_begin 49 = .ok (.iinc 3 1, 3) := by decide +kernel
theorem dX3_begin_52 : decode cX3_begin 52 = .ok (.goto (-35), 3) := by decide +kernel
theorem dX3_begin_55 : decode cX3_begin 55 = .ok (.return_, 1) := by decide +kernel
theorem dX3_copyFrom_0 : decode cX3_copyFrom 0 = .ok (.aload_n 0, 1) := by decide +kernel
theorem dX3_copyFrom_1 : decode cX3_copyFrom 1 = .ok (.aload_n 1, 1) := by decide +kernel
theorem dX3_copyFrom_2 : decode cX3_copyFrom 2 = .ok (.getfield 15, 3) := by decide +kernel
theorem dX3_copyFrom_5 : decode cX3_copyFrom 5 = .ok (.aload_n 1, 1) := by decide +kernel
theorem dX3_copyFrom_6 : decode cX3_copyFrom 6 = .ok (.getfield 19, 3) := by decide +kernel
theorem dX3_copyFrom_9 : decode cX3_copyFrom 9 = .ok (.aload_n 1, 1) := by decide +kernel
theorem dX3_copyFrom_10 : decode cX3_copyFrom 10 = .ok (.getfield 22, 3) := by decide +kernel
theorem dX3_copyFrom_13 : decode cX3_copyFrom 13 = .ok (.aload_n 1, 1) := by decide +kernel
theorem dX3_copyFrom_14 : decode cX3_copyFrom 14 = .ok (.getfield 25, 3) := by decide +kernel
theorem dX3_copyFrom_17 : decode cX3_copyFrom 17 = .ok (.invokevirtual 41, 3) := by decide +kernel
theorem dX3_copyFrom_20 : decode cX3_copyFrom 20 = .ok (.aload_n 0, 1) := by decide +kernel
theorem dX3_copyFrom_21 : decode cX3_copyFrom 21 = .ok (.aload_n 1, 1) := by decide +kernel
theorem dX3_copyFrom_22 : decode cX3_copyFrom 22 = .ok (.getfield 28, 3) := by decide +kernel
theorem dX3_copyFrom_25 : decode cX3_copyFrom 25 = .ok (.putfield 28, 3) := by decide +kernel
theorem dX3_copyFrom_28 : decode cX3_copyFrom 28 = .ok (.aload_n 0, 1) := by decide +kernel
theorem dX3_copyFrom_29 : decode cX3_copyFrom 29 = .ok (.aload_n 1, 1) := by decide +kernel
theorem dX3_copyFrom_30 : decode cX3_copyFrom 30 = .ok (.getfield 31, 3) := by decide +kernel
theorem dX3_copyFrom_33 : decode cX3_copyFrom 33 = .ok (.putfield 31, 3) := by decide +kernel
theorem dX3_copyFrom_36 : decode cX3_copyFrom 36 = .ok (.aload_n 0, 1) := by decide +kernel
theorem dX3_copyFrom_37 : decode cX3_copyFrom 37 = .ok (.aload_n 1, 1) := by decide +kernel
theorem dX3_copyFrom_38 : decode cX3_copyFrom 38 = .ok (.getfield 34, 3) := by decide +kernel
theorem dX3_copyFrom_41 : decode cX3_copyFrom 41 = .ok (.putfield 34, 3) := by decide +kernel
theorem dX3_copyFrom_44 : decode cX3_copyFrom 44 = .ok (.aload_n 1, 1) := by decide +kernel
theorem dX3_copyFrom_45 : decode cX3_copyFrom 45 = .ok (.getfield 9, 3) := by decide +kernel
theorem dX3_copyFrom_48 : decode cX3_copyFrom 48 = .ok (.iconst 0, 1) := by decide +kernel
theorem dX3_copyFrom_49 : decode cX3_copyFrom 49 = .ok (.aload_n 0, 1) := by decide +kernel
theorem dX3_copyFrom_50 : decode cX3_copyFrom 50 = .ok (.getfield 9, 3) := by decide +kernel
theorem dX3_copyFrom_53 : decode cX3_copyFrom 53 = .ok (.iconst 0, 1) := by decide +kernel
theorem dX3_copyFrom_54 : decode cX3_copyFrom 54 = .ok (.bipush 60, 2) := by decide +kernel
theorem dX3_copyFrom_56 : decode cX3_copyFrom 56 = .ok (.invokestatic 45, 3) := by decide +kernel
theorem dX3_copyFrom_59 : decode cX3_copyFrom 59 = .ok (.return_, 1) := by decide +kernel
theorem dX3_liesAt_0 : decode cX3_liesAt 0 = .ok (.iload_n 1, 1) := by decide +kernel
theorem dX3_liesAt_1 : decode cX3_liesAt 1 = .ok (.aload_n 0, 1) := by decide +kernel
theorem dX3_liesAt_2 : decode cX3_liesAt 2 = .ok (.getfield 15, 3) := by decide +kernel
theorem dX3_liesAt_5 : decode cX3_liesAt 5 = .ok (.if_icmp .lt 41, 3) := by decide +kernel
theorem dX3_liesAt_8 : decode cX3_liesAt 8 = .ok (.iload_n 1, 1) := by decide +kernel
theorem dX3_liesAt_9 : decode cX3_liesAt 9 = .ok (.aload_n 0, 1) := by decide +kernel
theorem dX3_liesAt_10 : decode cX3_liesAt 10 = .ok (.getfield 15, 3) := by decide +kernel
theorem dX3_liesAt_13 : decode cX3_liesAt 13 = .ok (.aload_n 0, 1) := by decide +kernel
theorem dX3_liesAt_14 : decode cX3_liesAt 14 = .ok (.getfield 22, 3) := by decide +kernel
theorem dX3_liesAt_17 : decode cX3_liesAt 17 = .ok (.iadd, 1) := by decide +kernel
theorem dX3_liesAt_18 : decode cX3_liesAt 18 = .ok (.if_icmp .ge 28, 3) := by decide +kernel
theorem dX3_liesAt_21 : decode cX3_liesAt 21 = .ok (.iload_n 2, 1) := by decide +kernel
theorem dX3_liesAt_22 : decode cX3_liesAt 22 = .ok (.aload_n 0, 1) := by decide +kernel
theorem dX3_liesAt_23 : decode cX3_liesAt 23 = .ok (.getfield 19, 3) := by decide +kernel
theorem dX3_liesAt_26 : decode cX3_liesAt 26 = .ok (.if_icmp .lt 20, 3) := by decide +kernel
theorem dX3_liesAt_29 : decode cX3_liesAt 29 = .ok (.iload_n 2, 1) := by decide +kernel
theorem dX3_liesAt_30 : decode cX3_liesAt 30 = .ok (.aload_n 0, 1) := by decide +kernel
theorem dX3_liesAt_31 : decode cX3_liesAt 31 = .ok (.getfield 19, 3) := by decide +kernel
theorem dX3_liesAt_34 : decode cX3_liesAt 34 = .ok (.aload_n 0, 1) := by decide +kernel
theorem dX3_liesAt_35 : decode cX3_liesAt 35 = .ok (.getfield 25, 3) := by decide +kernel
theorem dX3_liesAt_38 : decode cX3_liesAt 38 = .ok (.iadd, 1) := by decide +kernel
theorem dX3_liesAt_39 : decode cX3_liesAt 39 = .ok (.if_icmp .ge 7, 3) := by decide +kernel
theorem dX3_liesAt_42 : decode cX3_liesAt 42 = .ok (.iconst 1, 1) := by decide +kernel
theorem dX3_liesAt_43 : decode cX3_liesAt 43 = .ok (.goto 4, 3) := by decide +kernel
theorem dX3_liesAt_46 : decode cX3_liesAt 46 = .ok (.iconst 0, 1) := by decide +kernel
theorem dX3_liesAt_47 : decode cX3_liesAt 47 = .ok (.ireturn, 1) := by decide +kernel
theorem dX3_notClearCells_0 : decode cX3_notClearCells 0 = .ok (.iconst 0, 1) := by decide +kernel
theorem dX3_notClearCells_1 : decode cX3_notClearCells 1 = .ok (.istore_n 1, 1) := by decide +kernel
theorem dX3_notClearCells_2 : decode cX3_notClearCells 2 = .ok (.iconst 0, 1) := by decide +kernel
theorem dX3_notClearCells_3 : decode cX3_notClearCells 3 = .ok (.istore_n 2, 1) := by decide +kernel
theorem dX3_notClearCells_4 : decode cX3_notClearCells 4 = .ok (.iload_n 2, 1) := by decide +kernel
theorem dX3_notClearCells_5 : decode cX3_notClearCells 5 = .ok (.bipush 60, 2) := by decide +kernel
theorem dX3_notClearCells_7 : decode cX3_notClearCells 7 = .ok (.if_icmp .ge 21, 3) := by decide +kernel
theorem dX3_notClearCells_10 : decode cX3_notClearCells 10 = .ok (.aload_n 0, 1) := by decide +kernel
theorem dX3_notClearCells_11 : decode cX3_notClearCells 11 = .ok (.getfield 9, 3) := by decide +kernel
theorem dX3_notClearCells_14 : decode cX3_notClearCells 14 = .ok (.iload_n 2, 1) := by decide +kernel
theorem dX3_notClearCells_15 : decode cX3_notClearCells 15 = .ok (.iaload, 1) := by decide +kernel
theorem dX3_notClearCells_16 : decode cX3_notClearCells 16 = .ok (.ifCond .le 6, 3) := by decide +kernel
theorem dX3_notClearCells_19 : decode cX3_notClearCells 19 = .ok (.iinc 1 1, 3) := by decide +kernel
theorem dX3_notClearCells_22 : decode cX3_notClearCells 22 = .ok (.iinc 2 1, 3) := by decide +kernel
theorem dX3_notClearCells_25 : decode cX3_notClearCells 25 = .ok (.goto (-21), 3) := by decide +kernel
theorem dX3_notClearCells_28 : decode cX3_notClearCells 28 = .ok (.iload_n 1, 1) := by decide +kernel
theorem dX3_notClearCells_29 : decode cX3_notClearCells 29 = .ok (.ireturn, 1) := by decide +kernel
theorem dX3_clearCells_0 : decode cX3_clearCells 0 = .ok (.aload_n 0, 1) := by decide +kernel
theorem dX3_clearCells_1 : decode cX3_clearCells 1 = .ok (.getfield 22, 3) := by decide +kernel
theorem dX3_clearCells_4 : decode cX3_clearCells 4 = .ok (.aload_n 0, 1) := by decide +kernel
theorem dX3_clearCells_5 : decode cX3_clearCells 5 = .ok (.getfield 25, 3) := by decide +kernel
theorem dX3_clearCells_8 : decode cX3_clearCells 8 = .ok (.imul, 1) := by decide +kernel
theorem dX3_clearCells_9 : decode cX3_clearCells 9 = .ok (.aload_n 0, 1) := by decide +kernel
theorem dX3_clearCells_10 : decode cX3_clearCells 10 = .ok (.invokevirtual 51, 3) := by decide +kernel
theorem dX3_clearCells_13 : decode cX3_clearCells 13 = .ok (.isub, 1) := by decide +kernel
theorem dX3_clearCells_14 : decode cX3_clearCells 14 = .ok (.ireturn, 1) := by decide +kernel
theorem dX3_allVarnish_0 : decode cX3_allVarnish 0 = .ok (.iconst 0, 1) := by decide +kernel
theorem dX3_allVarnish_1 : decode cX3_allVarnish 1 = .ok (.istore_n 1, 1) := by decide +kernel
theorem dX3_allVarnish_2 : decode cX3_allVarnish 2 = .ok (.iconst 0, 1) := by decide +kernel
theorem dX3_allVarnish_3 : decode cX3_allVarnish 3 = .ok (.istore_n 2, 1) := by decide +kernel
theorem dX3_allVarnish_4 : decode cX3_allVarnish 4 = .ok (.iload_n 2, 1) := by decide +kernel
theorem dX3_allVarnish_5 : decode cX3_allVarnish 5 = .ok (.bipush 60, 2) := by decide +kernel
theorem dX3_allVarnish_7 : decode cX3_allVarnish 7 = .ok (.if_icmp .ge 18, 3) := by decide +kernel
theorem dX3_allVarnish_10 : decode cX3_allVarnish 10 = .ok (.iload_n 1, 1) := by decide +kernel
theorem dX3_allVarnish_11 : decode cX3_allVarnish 11 = .ok (.aload_n 0, 1) := by decide +kernel
theorem dX3_allVarnish_12 : decode cX3_allVarnish 12 = .ok (.getfield 9, 3) := by decide +kernel
theorem dX3_allVarnish_15 : decode cX3_allVarnish 15 = .ok (.iload_n 2, 1) := by decide +kernel
theorem dX3_allVarnish_16 : decode cX3_allVarnish 16 = .ok (.iaload, 1) := by decide +kernel
theorem dX3_allVarnish_17 : decode cX3_allVarnish 17 = .ok (.iadd, 1) := by decide +kernel
theorem dX3_allVarnish_18 : decode cX3_allVarnish 18 = .ok (.istore_n 1, 1) := by decide +kernel
theorem dX3_allVarnish_19 : decode cX3_allVarnish 19 = .ok (.iinc 2 1, 3) := by decide +kernel
theorem dX3_allVarnish_22 : decode cX3_allVarnish 22 = .ok (.goto (-18), 3) := by decide +kernel
theorem dX3_allVarnish_25 : decode cX3_allVarnish 25 = .ok (.iload_n 1, 1) := by decide +kernel
theorem dX3_allVarnish_26 : decode cX3_allVarnish 26 = .ok (.ireturn, 1) := by decide +kernel
theorem dX4_init_0 : decode cX4_init 0 = .ok (.aload_n 0, 1) := by decide +kernel
theorem dX4_init_1 : decode cX4_init 1 = .ok (.invokespecial 3, 3) := by decide +kernel
theorem dX4_init_4 : decode cX4_init 4 = .ok (.aload_n 0, 1) := by decide +kernel
theorem dX4_init_5 : decode cX4_init 5 = .ok (.bipush 12, 2) := by decide +kernel
theorem dX4_init_7 : decode cX4_init 7 = .ok (.anewarray 9, 3) := by decide +kernel
theorem dX4_init_10 : decode cX4_init 10 = .ok (.putfield 11, 3) := by decide +kernel
theorem dX4_init_13 : decode cX4_init 13 = .ok (.iconst 0, 1) := by decide +kernel
theorem dX4_init_14 : decode cX4_init 14 = .ok (.istore_n 1, 1) := by decide +kernel
theorem dX4_init_15 : decode cX4_init 15 = .ok (.iload_n 1, 1) := by decide +kernel
theorem dX4_init_16 : decode cX4_init 16 = .ok (.bipush 12, 2) := by decide +kernel
theorem dX4_init_18 : decode cX4_init 18 = .ok (.if_icmp .ge 22, 3) := by decide +kernel
theorem dX4_init_21 : decode cX4_init 21 = .ok (.aload_n 0, 1) := by decide +kernel
theorem dX4_init_22 : decode cX4_init 22 = .ok (.getfield 11, 3) := by decide +kernel
theorem dX4_init_25 : decode cX4_init 25 = .ok (.iload_n 1, 1) := by decide +kernel
theorem dX4_init_26 : decode cX4_init 26 = .ok (.new 9, 3) := by decide +kernel
theorem dX4_init_29 : decode cX4_init 29 = .ok (.dup, 1) := by decide +kernel
theorem dX4_init_30 : decode cX4_init 30 = .ok (.invokespecial 17, 3) := by decide +kernel
theorem dX4_init_33 : decode cX4_init 33 = .ok (.aastore, 1) := by decide +kernel
theorem dX4_init_34 : decode cX4_init 34 = .ok (.iinc 1 1, 3) := by decide +kernel
theorem dX4_init_37 : decode cX4_init 37 = .ok (.goto (-22), 3) := by decide +kernel
theorem dX4_init_40 : decode cX4_init 40 = .ok (.aload_n 0, 1) := by decide +kernel
theorem dX4_init_41 : decode cX4_init 41 = .ok (.bipush 10, 2) := by decide +kernel
theorem dX4_init_43 : decode cX4_init 43 = .ok (.newarray .int, 2) := by decide +kernel
theorem dX4_init_45 : decode cX4_init 45 = .ok (.putfield 18, 3) := by decide +kernel
theorem dX4_init_48 : decode cX4_init 48 = .ok (.iconst 0, 1) := by decide +kernel
theorem dX4_init_49 : decode cX4_init 49 = .ok (.istore_n 1, 1) := by decide +kernel
theorem dX4_init_50 : decode cX4_init 50 = .ok (.iload_n 1, 1) := by decide +kernel
theorem dX4_init_51 : decode cX4_init 51 = .ok (.bipush 10, 2) := by decide +kernel
theorem dX4_init_53 : decode cX4_init 53 = .ok (.if_icmp .ge 16, 3) := by decide +kernel
theorem dX4_init_56 : decode cX4_init 56 = .ok (.aload_n 0, 1) := by decide +kernel
theorem dX4_init_57 : decode cX4_init 57 = .ok (.getfield 18, 3) := by decide +kernel
theorem dX4_init_60 : decode cX4_init 60 = .ok (.iload_n 1, 1) := by decide +kernel
theorem dX4_init_61 : decode cX4_init 61 = .ok (.iconst 1, 1) := by decide +kernel
theorem dX4_init_62 : decode cX4_init 62 = .ok (.iastore, 1) := by decide +kernel
theorem dX4_init_63 : decode cX4_init 63 = .ok (.iinc 1 1, 3) := by decide +kernel
theorem dX4_init_66 : decode cX4_init 66 = .ok (.goto (-16), 3) := by decide +kernel
theorem dX4_init_69 : decode cX4_init 69 = .ok (.return_, 1) := by decide +kernel
theorem dX4_copyFrom_0 : decode cX4_copyFrom 0 = .ok (.aload_n 0, 1) := by decide +kernel
theorem dX4_copyFrom_1 : decode cX4_copyFrom 1 = .ok (.aload_n 1, 1) := by decide +kernel
theorem dX4_copyFrom_2 : decode cX4_copyFrom 2 = .ok (.getfield 22, 3) := by decide +kernel
theorem dX4_copyFrom_5 : decode cX4_copyFrom 5 = .ok (.putfield 22, 3) := by decide +kernel
theorem dX4_copyFrom_8 : decode cX4_copyFrom 8 = .ok (.iconst 0, 1) := by decide +kernel
theorem dX4_copyFrom_9 : decode cX4_copyFrom 9 = .ok (.istore_n 2, 1) := by decide +kernel
theorem dX4_copyFrom_10 : decode cX4_copyFrom 10 = .ok (.iload_n 2, 1) := by decide +kernel
theorem dX4_copyFrom_11 : decode cX4_copyFrom 11 = .ok (.aload_n 0, 1) := by decide +kernel
theorem dX4_copyFrom_12 : decode cX4_copyFrom 12 = .ok (.getfield 22, 3) := by decide +kernel
theorem dX4_copyFrom_15 : decode cX4_copyFrom 15 = .ok (.if_icmp .ge 24, 3) := by decide +kernel
theorem dX4_copyFrom_18 : decode cX4_copyFrom 18 = .ok (.aload_n 0, 1) := by decide +kernel
theorem dX4_copyFrom_19 : decode cX4_copyFrom 19 = .ok (.getfield 11, 3) := by decide +kernel
theorem dX4_copyFrom_22 : decode cX4_copyFrom 22 = .ok (.iload_n 2, 1) := by decide +kernel
theorem dX4_copyFrom_23 : decode cX4_copyFrom 23 = .ok (.aaload, 1) := by decide +kernel
theorem dX4_copyFrom_24 : decode cX4_copyFrom 24 = .ok (.aload_n 1, 1) := by decide +kernel
theorem dX4_copyFrom_25 : decode cX4_copyFrom 25 = .ok (.getfield 11, 3) := by decide +kernel
theorem dX4_copyFrom_28 : decode cX4_copyFrom 28 = .ok (.iload_n 2, 1) := by decide +kernel
theorem dX4_copyFrom_29 : decode cX4_copyFrom 29 = .ok (.aaload, 1) := by decide +kernel
theorem dX4_copyFrom_30 : decode cX4_copyFrom 30 = .ok (.invokevirtual 26, 3) := by decide +kernel
theorem dX4_copyFrom_33 : decode cX4_copyFrom 33 = .ok (.iinc 2 1, 3) := by decide +kernel
theorem dX4_copyFrom_36 : decode cX4_copyFrom 36 = .ok (.goto (-26), 3) := by decide +kernel
theorem dX4_copyFrom_39 : decode cX4_copyFrom 39 = .ok (.aload_n 1, 1) := by decide +kernel
theorem dX4_copyFrom_40 : decode cX4_copyFrom 40 = .ok (.getfield 18, 3) := by decide +kernel
theorem dX4_copyFrom_43 : decode cX4_copyFrom 43 = .ok (.iconst 0, 1) := by decide +kernel
theorem dX4_copyFrom_44 : decode cX4_copyFrom 44 = .ok (.aload_n 0, 1) := by decide +kernel
theorem dX4_copyFrom_45 : decode cX4_copyFrom 45 = .ok (.getfield 18, 3) := by decide +kernel
theorem dX4_copyFrom_48 : decode cX4_copyFrom 48 = .ok (.iconst 0, 1) := by decide +kernel
theorem dX4_copyFrom_49 : decode cX4_copyFrom 49 = .ok (.bipush 10, 2) := by decide +kernel
theorem dX4_copyFrom_51 : decode cX4_copyFrom 51 = .ok (.invokestatic 30, 3) := by decide +kernel
theorem dX4_copyFrom_54 : decode cX4_copyFrom 54 = .ok (.aload_n 0, 1) := by decide +kernel
theorem dX4_copyFrom_55 : decode cX4_copyFrom 55 = .ok (.aload_n 1, 1) := by decide +kernel
theorem dX4_copyFrom_56 : decode cX4_copyFrom 56 = .ok (.getfield 36, 3) := by decide +kernel
theorem dX4_copyFrom_59 : decode cX4_copyFrom 59 = .ok (.putfield 36, 3) := by decide +kernel
theorem dX4_copyFrom_62 : decode cX4_copyFrom 62 = .ok (.aload_n 0, 1) := by decide +kernel
theorem dX4_copyFrom_63 : decode cX4_copyFrom 63 = .ok (.aload_n 1, 1) := by decide +kernel
theorem dX4_copyFrom_64 : decode cX4_copyFrom 64 = .ok (.getfield 39, 3) := by decide +kernel
theorem dX4_copyFrom_67 : decode cX4_copyFrom 67 = .ok (.putfield 39, 3) := by decide +kernel
theorem dX4_copyFrom_70 : decode cX4_copyFrom 70 = .ok (.aload_n 0, 1) := by decide +kernel
theorem dX4_copyFrom_71 : decode cX4_copyFrom 71 = .ok (.aload_n 1, 1) := by decide +kernel
theorem dX4_copyFrom_72 : decode cX4_copyFrom 72 = .ok (.getfield 42, 3) := by decide +kernel
theorem dX4_copyFrom_75 : decode cX4_copyFrom 75 = .ok (.putfield 42, 3) := by decide +kernel
theorem dX4_copyFrom_78 : decode cX4_copyFrom 78 = .ok (.return_, 1) := by decide +kernel
theorem dX4_addOnTop_0 : decode cX4_addOnTop 0 = .ok (.aload_n 0, 1) := by decide +kernel
theorem dX4_addOnTop_1 : decode cX4_addOnTop 1 = .ok (.getfield 22, 3) := by decide +kernel
theorem dX4_addOnTop_4 : decode cX4_addOnTop 4 = .ok (.bipush 12, 2) := by decide +kernel
theorem dX4_addOnTop_6 : decode cX4_addOnTop 6 = .ok (.if_icmp .lt 6, 3) := by decide +kernel
theorem dX4_addOnTop_9 : decode cX4_addOnTop 9 = .ok (.bipush (-4), 2) := by decide +kernel
theorem dX4_addOnTop_11 : decode cX4_addOnTop 11 = .ok (.ireturn, 1) := by decide +kernel
theorem dX4_addOnTop_12 : decode cX4_addOnTop 12 = .ok (.aload_n 0, 1) := by decide +kernel
theorem dX4_addOnTop_13 : decode cX4_addOnTop 13 = .ok (.getfield 11, 3) := by decide +kernel
theorem dX4_addOnTop_16 : decode cX4_addOnTop 16 = .ok (.aload_n 0, 1) := by decide +kernel
theorem dX4_addOnTop_17 : decode cX4_addOnTop 17 = .ok (.getfield 22, 3) := by decide +kernel
theorem dX4_addOnTop_20 : decode cX4_addOnTop 20 = .ok (.aaload, 1) := by decide +kernel
theorem dX4_addOnTop_21 : decode cX4_addOnTop 21 = .ok (.astore 7, 2) := by decide +kernel
theorem dX4_addOnTop_23 : decode cX4_addOnTop 23 = .ok (.aload 7, 2) := by decide +kernel
theorem dX4_addOnTop_25 : decode cX4_addOnTop 25 = .ok (.iload_n 1, 1) := by decide +kernel
theorem dX4_addOnTop_26 : decode cX4_addOnTop 26 = .ok (.iload_n 2, 1) := by decide +kernel
theorem dX4_addOnTop_27 : decode cX4_addOnTop 27 = .ok (.iload_n 3, 1) := by decide +kernel
theorem dX4_addOnTop_28 : decode cX4_addOnTop 28 = .ok (.iload 4, 2) := by decide +kernel
theorem dX4_addOnTop_30 : decode cX4_addOnTop 30 = .ok (.invokevirtual 45, 3) := by decide +kernel
theorem dX4_addOnTop_33 : decode cX4_addOnTop 33 = .ok (.aload 7, 2) := by decide +kernel
theorem dX4_addOnTop_35 : decode cX4_addOnTop 35 = .ok (.iload 5, 2) := by decide +kernel
theorem dX4_addOnTop_37 : decode cX4_addOnTop 37 = .ok (.iload 6, 2) := by decide +kernel
theorem dX4_addOnTop_39 : decode cX4_addOnTop 39 = .ok (.invokevirtual 49, 3) := by decide +kernel
theorem dX4_addOnTop_42 : decode cX4_addOnTop 42 = .ok (.aload_n 0, 1) := by decide +kernel
theorem dX4_addOnTop_43 : decode cX4_addOnTop 43 = .ok (.dup, 1) := by decide +kernel
theorem dX4_addOnTop_44 : decode cX4_addOnTop 44 = .ok (.getfield 22, 3) := by decide +kernel
theorem dX4_addOnTop_47 : decode cX4_addOnTop 47 = .ok (.iconst 1, 1) := by decide +kernel
theorem dX4_addOnTop_48 : decode cX4_addOnTop 48 = .ok (.iadd, 1) := by decide +kernel
theorem dX4_addOnTop_49 : decode cX4_addOnTop 49 = .ok (.putfield 22, 3) := by decide +kernel
theorem dX4_addOnTop_52 : decode cX4_addOnTop 52 = .ok (.aload_n 0, 1) := by decide +kernel
theorem dX4_addOnTop_53 : decode cX4_addOnTop 53 = .ok (.getfield 22, 3) := by decide +kernel
theorem dX4_addOnTop_56 : decode cX4_addOnTop 56 = .ok (.iconst 1, 1) := by decide +kernel
theorem dX4_addOnTop_57 : decode cX4_addOnTop 57 = .ok (.isub, 1) := by decide +kernel
theorem dX4_addOnTop_58 : decode cX4_addOnTop 58 = .ok (.ireturn, 1) := by decide +kernel
theorem dX4_takeDown_0 : decode cX4_takeDown 0 = .ok (.aload_n 0, 1) := by decide +kernel
theorem dX4_takeDown_1 : decode cX4_takeDown 1 = .ok (.getfield 11, 3) := by decide +kernel
theorem dX4_takeDown_4 : decode cX4_takeDown 4 = .ok (.iload_n 1, 1) := by decide +kernel
theorem dX4_takeDown_5 : decode cX4_takeDown 5 = .ok (.aaload, 1) := by decide +kernel
theorem dX4_takeDown_6 : decode cX4_takeDown 6 = .ok (.astore_n 2, 1) := by decide +kernel
theorem dX4_takeDown_7 : decode cX4_takeDown 7 = .ok (.iload_n 1, 1) := by decide +kernel
theorem dX4_takeDown_8 : decode cX4_takeDown 8 = .ok (.iconst 1, 1) := by decide +kernel
theorem dX4_takeDown_9 : decode cX4_takeDown 9 = .ok (.iadd, 1) := by decide +kernel
theorem dX4_takeDown_10 : decode cX4_takeDown 10 = .ok (.istore_n 3, 1) := by decide +kernel
theorem dX4_takeDown_11 : decode cX4_takeDown 11 = .ok (.iload_n 3, 1) := by decide +kernel
theorem dX4_takeDown_12 : decode cX4_takeDown 12 = .ok (.aload_n 0, 1) := by decide +kernel
theorem dX4_takeDown_13 : decode cX4_takeDown 13 = .ok (.getfield 22, 3) := by decide +kernel
theorem dX4_takeDown_16 : decode cX4_takeDown 16 = .ok (.if_icmp .ge 23, 3) := by decide +kernel
theorem dX4_takeDown_19 : decode cX4_takeDown 19 = .ok (.aload_n 0, 1) := by decide +kernel
theorem dX4_takeDown_20 : decode cX4_takeDown 20 = .ok (.getfield 11, 3) := by decide +kernel
theorem dX4_takeDown_23 : decode cX4_takeDown 23 = .ok (.iload_n 3, 1) := by decide +kernel
theorem dX4_takeDown_24 : decode cX4_takeDown 24 = .ok (.iconst 1, 1) := by decide +kernel
theorem dX4_takeDown_25 : decode cX4_takeDown 25 = .ok (.isub, 1) := by decide +kernel
theorem dX4_takeDown_26 : decode cX4_takeDown 26 = .ok (.aload_n 0, 1) := by decide +kernel
theorem dX4_takeDown_27 : decode cX4_takeDown 27 = .ok (.getfield 11, 3) := by decide +kernel
theorem dX4_takeDown_30 : decode cX4_takeDown 30 = .ok (.iload_n 3, 1) := by decide +kernel
theorem dX4_takeDown_31 : decode cX4_takeDown 31 = .ok (.aaload, 1) := by decide +kernel
theorem dX4_takeDown_32 : decode cX4_takeDown 32 = .ok (.aastore, 1) := by decide +kernel
theorem dX4_takeDown_33 : decode cX4_takeDown 33 = .ok (.iinc 3 1, 3) := by decide +kernel
theorem dX4_takeDown_36 : decode cX4_takeDown 36 = .ok (.goto (-25), 3) := by decide +kernel
theorem dX4_takeDown_39 : decode cX4_takeDown 39 = .ok (.aload_n 0, 1) := by decide +kernel
theorem dX4_takeDown_40 : decode cX4_takeDown 40 = .ok (.dup, 1) := by decide +kernel
theorem dX4_takeDown_41 : decode cX4_takeDown 41 = .ok (.getfield 22, 3) := by decide +kernel
theorem dX4_takeDown_44 : decode cX4_takeDown 44 = .ok (.iconst 1, 1) := by decide +kernel
theorem dX4_takeDown_45 : decode cX4_takeDown 45 = .ok (.isub, 1) := by decide +kernel
theorem dX4_takeDown_46 : decode cX4_takeDown 46 = .ok (.putfield 22, 3) := by decide +kernel
theorem dX4_takeDown_49 : decode cX4_takeDown 49 = .ok (.aload_n 0, 1) := by decide +kernel
theorem dX4_takeDown_50 : decode cX4_takeDown 50 = .ok (.getfield 11, 3) := by decide +kernel
theorem dX4_takeDown_53 : decode cX4_takeDown 53 = .ok (.aload_n 0, 1) := by decide +kernel
theorem dX4_takeDown_54 : decode cX4_takeDown 54 = .ok (.getfield 22, 3) := by decide +kernel
theorem dX4_takeDown_57 : decode cX4_takeDown 57 = .ok (.aload_n 2, 1) := by decide +kernel
theorem dX4_takeDown_58 : decode cX4_takeDown 58 = .ok (.aastore, 1) := by decide +kernel
theorem dX4_takeDown_59 : decode cX4_takeDown 59 = .ok (.return_, 1) := by decide +kernel
theorem dX4_coatSeenCells_0 : decode cX4_coatSeenCells 0 = .ok (.iconst 0, 1) := by decide +kernel
theorem dX4_coatSeenCells_1 : decode cX4_coatSeenCells 1 = .ok (.istore_n 3, 1) := by decide +kernel
theorem dX4_coatSeenCells_2 : decode cX4_coatSeenCells 2 = .ok (.aload_n 0, 1) := by decide +kernel
theorem dX4_coatSeenCells_3 : decode cX4_coatSeenCells 3 = .ok (.getfield 11, 3) := by decide +kernel
theorem dX4_coatSeenCells_6 : decode cX4_coatSeenCells 6 = .ok (.iload_n 1, 1) := by decide +kernel
theorem dX4_coatSeenCells_7 : decode cX4_coatSeenCells 7 = .ok (.aaload, 1) := by decide +kernel
theorem dX4_coatSeenCells_8 : decode cX4_coatSeenCells 8 = .ok (.getfield 53, 3) := by decide +kernel
theorem dX4_coatSeenCells_11 : decode cX4_coatSeenCells 11 = .ok (.astore 4, 2) := by decide +kernel
theorem dX4_coatSeenCells_13 : decode cX4_coatSeenCells 13 = .ok (.iconst 0, 1) := by decide +kernel
theorem dX4_coatSeenCells_14 : decode cX4_coatSeenCells 14 = .ok (.istore 5, 2) := by decide +kernel
theorem dX4_coatSeenCells_16 : decode cX4_coatSeenCells 16 = .ok (.iload 5, 2) := by decide +kernel
theorem dX4_coatSeenCells_18 : decode cX4_coatSeenCells 18 = .ok (.bipush 60, 2) := by decide +kernel
theorem dX4_coatSeenCells_20 : decode cX4_coatSeenCells 20 = .ok (.if_icmp .ge 39, 3) := by decide +kernel
theorem dX4_coatSeenCells_23 : decode cX4_coatSeenCells 23 = .ok (.aload_n 0, 1) := by decide +kernel
theorem dX4_coatSeenCells_24 : decode cX4_coatSeenCells 24 = .ok (.iload 5, 2) := by decide +kernel
theorem dX4_coatSeenCells_26 : decode cX4_coatSeenCells 26 = .ok (.invokevirtual 56, 3) := by decide +kernel
theorem dX4_coatSeenCells_29 : decode cX4_coatSeenCells 29 = .ok (.iload_n 1, 1) := by decide +kernel
theorem dX4_coatSeenCells_30 : decode cX4_coatSeenCells 30 = .ok (.if_icmp .ne 23, 3) := by decide +kernel
theorem dX4_coatSeenCells_33 : decode cX4_coatSeenCells 33 = .ok (.aload 4, 2) := by decide +kernel
theorem dX4_coatSeenCells_35 : decode cX4_coatSeenCells 35 = .ok (.iload 5, 2) := by decide +kernel
theorem dX4_coatSeenCells_37 : decode cX4_coatSeenCells 37 = .ok (.aload 4, 2) := by decide +kernel
theorem dX4_coatSeenCells_39 : decode cX4_coatSeenCells 39 = .ok (.iload 5, 2) := by decide +kernel
theorem dX4_coatSeenCells_41 : decode cX4_coatSeenCells 41 = .ok (.iaload, 1) := by decide +kernel
theorem dX4_coatSeenCells_42 : decode cX4_coatSeenCells 42 = .ok (.iload_n 2, 1) := by decide +kernel
theorem dX4_coatSeenCells_43 : decode cX4_coatSeenCells 43 = .ok (.iadd, 1) := by decide +kernel
theorem dX4_coatSeenCells_44 : decode cX4_coatSeenCells 44 = .ok (.bipush 99, 2) := by decide +kernel
theorem dX4_coatSeenCells_46 : decode cX4_coatSeenCells 46 = .ok (.invokestatic 60, 3) := by decide +kernel
theorem dX4_coatSeenCells_49 : decode cX4_coatSeenCells 49 = .ok (.iastore, 1) := by decide +kernel
theorem dX4_coatSeenCells_50 : decode cX4_coatSeenCells 50 = .ok (.iinc 3 1, 3) := by decide +kernel
theorem dX4_coatSeenCells_53 : decode cX4_coatSeenCells 53 = .ok (.iinc 5 1, 3) := by decide +kernel
theorem dX4_coatSeenCells_56 : decode cX4_coatSeenCells 56 = .ok (.goto (-40), 3) := by decide +kernel
theorem dX4_coatSeenCells_59 : decode cX4_coatSeenCells 59 = .ok (.iload_n 3, 1) := by decide +kernel
theorem dX4_coatSeenCells_60 : decode cX4_coatSeenCells 60 = .ok (.ireturn, 1) := by decide +kernel
theorem dX4_scrapeAt_0 : decode cX4_scrapeAt 0 = .ok (.iconst 0, 1) := by decide +kernel
theorem dX4_scrapeAt_1 : decode cX4_scrapeAt 1 = .ok (.istore_n 3, 1) := by decide +kernel
theorem dX4_scrapeAt_2 : decode cX4_scrapeAt 2 = .ok (.iload_n 2, 1) := by decide +kernel
theorem dX4_scrapeAt_3 : decode cX4_scrapeAt 3 = .ok (.istore 4, 2) := by decide +kernel
theorem dX4_scrapeAt_5 : decode cX4_scrapeAt 5 = .ok (.aload_n 0, 1) := by decide +kernel
theorem dX4_scrapeAt_6 : decode cX4_scrapeAt 6 = .ok (.getfield 22, 3) := by decide +kernel
theorem dX4_scrapeAt_9 : decode cX4_scrapeAt 9 = .ok (.iconst 1, 1) := by decide +kernel
theorem dX4_scrapeAt_10 : decode cX4_scrapeAt 10 = .ok (.isub, 1) := by decide +kernel
theorem dX4_scrapeAt_11 : decode cX4_scrapeAt 11 = .ok (.istore 5, 2) := by decide +kernel
theorem dX4_scrapeAt_13 : decode cX4_scrapeAt 13 = .ok (.iload 5, 2) := by decide +kernel
theorem dX4_scrapeAt_15 : decode cX4_scrapeAt 15 = .ok (.ifCond .lt 68, 3) := by decide +kernel
theorem dX4_scrapeAt_18 : decode cX4_scrapeAt 18 = .ok (.iload 4, 2) := by decide +kernel
theorem dX4_scrapeAt_20 : decode cX4_scrapeAt 20 = .ok (.ifCond .le 63, 3) := by decide +kernel
theorem dX4_scrapeAt_23 : decode cX4_scrapeAt 23 = .ok (.aload_n 0, 1) := by decide +kernel
theorem dX4_scrapeAt_24 : decode cX4_scrapeAt 24 = .ok (.getfield 11, 3) := by decide +kernel
theorem dX4_scrapeAt_27 : decode cX4_scrapeAt 27 = .ok (.iload 5, 2) := by decide +kernel
theorem dX4_scrapeAt_29 : decode cX4_scrapeAt 29 = .ok (.aaload, 1) := by decide +kernel
theorem dX4_scrapeAt_30 : decode cX4_scrapeAt 30 = .ok (.getfield 53, 3) := by decide +kernel
theorem dX4_scrapeAt_33 : decode cX4_scrapeAt 33 = .ok (.astore 6, 2) := by decide +kernel
theorem dX4_scrapeAt_35 : decode cX4_scrapeAt 35 = .ok (.aload 6, 2) := by decide +kernel
theorem dX4_scrapeAt_37 : decode cX4_scrapeAt 37 = .ok (.iload_n 1, 1) := by decide +kernel
theorem dX4_scrapeAt_38 : decode cX4_scrapeAt 38 = .ok (.iaload, 1) := by decide +kernel
theorem dX4_scrapeAt_39 : decode cX4_scrapeAt 39 = .ok (.iload 4, 2) := by decide +kernel
theorem dX4_scrapeAt_41 : decode cX4_scrapeAt 41 = .ok (.invokestatic 60, 3) := by decide +kernel
theorem dX4_scrapeAt_44 : decode cX4_scrapeAt 44 = .ok (.istore 7, 2) := by decide +kernel
theorem dX4_scrapeAt_46 : decode cX4_scrapeAt 46 = .ok (.aload 6, 2) := by decide +kernel
theorem dX4_scrapeAt_48 : decode cX4_scrapeAt 48 = .ok (.iload_n 1, 1) := by decide +kernel
theorem dX4_scrapeAt_49 : decode cX4_scrapeAt 49 = .ok (.dup2, 1) := by decide +kernel
theorem dX4_scrapeAt_50 : decode cX4_scrapeAt 50 = .ok (.iaload, 1) := by decide +kernel
theorem dX4_scrapeAt_51 : decode cX4_scrapeAt 51 = .ok (.iload 7, 2) := by decide +kernel
theorem dX4_scrapeAt_53 : decode cX4_scrapeAt 53 = .ok (.isub, 1) := by decide +kernel
theorem dX4_scrapeAt_54 : decode cX4_scrapeAt 54 = .ok (.iastore, 1) := by decide +kernel
theorem dX4_scrapeAt_55 : decode cX4_scrapeAt 55 = .ok (.iload 4, 2) := by decide +kernel
theorem dX4_scrapeAt_57 : decode cX4_scrapeAt 57 = .ok (.iload 7, 2) := by decide +kernel
theorem dX4_scrapeAt_59 : decode cX4_scrapeAt 59 = .ok (.isub, 1) := by decide +kernel
theorem dX4_scrapeAt_60 : decode cX4_scrapeAt 60 = .ok (.istore 4, 2) := by decide +kernel
theorem dX4_scrapeAt_62 : decode cX4_scrapeAt 62 = .ok (.iload 7, 2) := by decide +kernel
theorem dX4_scrapeAt_64 : decode cX4_scrapeAt 64 = .ok (.ifCond .le 13, 3) := by decide +kernel
theorem dX4_scrapeAt_67 : decode cX4_scrapeAt 67 = .ok (.aload 6, 2) := by decide +kernel
theorem dX4_scrapeAt_69 : decode cX4_scrapeAt 69 = .ok (.iload_n 1, 1) := by decide +kernel
theorem dX4_scrapeAt_70 : decode cX4_scrapeAt 70 = .ok (.iaload, 1) := by decide +kernel
theorem dX4_scrapeAt_71 : decode cX4_scrapeAt 71 = .ok (.ifCond .ne 6, 3) := by decide +kernel
theorem dX4_scrapeAt_74 : decode cX4_scrapeAt 74 = .ok (.iinc 3 1, 3) := by decide +kernel
theorem dX4_scrapeAt_77 : decode cX4_scrapeAt 77 = .ok (.iinc 5 (-1), 3) := by decide +kernel
theorem dX4_scrapeAt_80 : decode cX4_scrapeAt 80 = .ok (.goto (-67), 3) := by decide +kernel
theorem dX4_scrapeAt_83 : decode cX4_scrapeAt 83 = .ok (.iload_n 3, 1) := by decide +kernel
theorem dX4_scrapeAt_84 : decode cX4_scrapeAt 84 = .ok (.ireturn, 1) := by decide +kernel
theorem dX4_sellAt_0 : decode cX4_sellAt 0 = .ok (.aload_n 0, 1) := by decide +kernel
theorem dX4_sellAt_1 : decode cX4_sellAt 1 = .ok (.iload_n 1, 1) := by decide +kernel
theorem dX4_sellAt_2 : decode cX4_sellAt 2 = .ok (.invokevirtual 56, 3) := by decide +kernel
theorem dX4_sellAt_5 : decode cX4_sellAt 5 = .ok (.istore_n 3, 1) := by decide +kernel
theorem dX4_sellAt_6 : decode cX4_sellAt 6 = .ok (.iload_n 3, 1) := by decide +kernel
theorem dX4_sellAt_7 : decode cX4_sellAt 7 = .ok (.bipush (-6), 2) := by decide +kernel
theorem dX4_sellAt_9 : decode cX4_sellAt 9 = .ok (.if_icmp .eq 16, 3) := by decide +kernel
theorem dX4_sellAt_12 : decode cX4_sellAt 12 = .ok (.aload_n 0, 1) := by decide +kernel
theorem dX4_sellAt_13 : decode cX4_sellAt 13 = .ok (.getfield 11, 3) := by decide +kernel
theorem dX4_sellAt_16 : decode cX4_sellAt 16 = .ok (.iload_n 3, 1) := by decide +kernel
theorem dX4_sellAt_17 : decode cX4_sellAt 17 = .ok (.aaload, 1) := by decide +kernel
theorem dX4_sellAt_18 : decode cX4_sellAt 18 = .ok (.getfield 66, 3) := by decide +kernel
theorem dX4_sellAt_21 : decode cX4_sellAt 21 = .ok (.iload_n 2, 1) := by decide +kernel
theorem dX4_sellAt_22 : decode cX4_sellAt 22 = .ok (.if_icmp .le 5, 3) := by decide +kernel
theorem dX4_sellAt_25 : decode cX4_sellAt 25 = .ok (.iconst 0, 1) := by decide +kernel
theorem dX4_sellAt_26 : decode cX4_sellAt 26 = .ok (.ireturn, 1) := by decide +kernel
theorem dX4_sellAt_27 : decode cX4_sellAt 27 = .ok (.aload_n 0, 1) := by decide +kernel
theorem dX4_sellAt_28 : decode cX4_sellAt 28 = .ok (.getfield 11, 3) := by decide +kernel
theorem dX4_sellAt_31 : decode cX4_sellAt 31 = .ok (.iload_n 3, 1) := by decide +kernel
theorem dX4_sellAt_32 : decode cX4_sellAt 32 = .ok (.aaload, 1) := by decide +kernel
theorem dX4_sellAt_33 : decode cX4_sellAt 33 = .ok (.getfield 66, 3) := by decide +kernel
theorem dX4_sellAt_36 : decode cX4_sellAt 36 = .ok (.istore 4, 2) := by decide +kernel
theorem dX4_sellAt_38 : decode cX4_sellAt 38 = .ok (.aload_n 0, 1) := by decide +kernel
theorem dX4_sellAt_39 : decode cX4_sellAt 39 = .ok (.getfield 11, 3) := by decide +kernel
theorem dX4_sellAt_42 : decode cX4_sellAt 42 = .ok (.iload_n 3, 1) := by decide +kernel
theorem dX4_sellAt_43 : decode cX4_sellAt 43 = .ok (.aaload, 1) := by decide +kernel
theorem dX4_sellAt_44 : decode cX4_sellAt 44 = .ok (.dup, 1) := by decide +kernel
theorem dX4_sellAt_45 : decode cX4_sellAt 45 = .ok (.getfield 69, 3) := by decide +kernel
theorem dX4_sellAt_48 : decode cX4_sellAt 48 = .ok (.iconst 1, 1) := by decide +kernel
theorem dX4_sellAt_49 : decode cX4_sellAt 49 = .ok (.iadd, 1) := by decide +kernel
theorem dX4_sellAt_50 : decode cX4_sellAt 50 = .ok (.putfield 69, 3) := by decide +kernel
theorem dX4_sellAt_53 : decode cX4_sellAt 53 = .ok (.aload_n 0, 1) := by decide +kernel
theorem dX4_sellAt_54 : decode cX4_sellAt 54 = .ok (.getfield 11, 3) := by decide +kernel
theorem dX4_sellAt_57 : decode cX4_sellAt 57 = .ok (.iload_n 3, 1) := by decide +kernel
theorem dX4_sellAt_58 : decode cX4_sellAt 58 = .ok (.aaload, 1) := by decide +kernel
theorem dX4_sellAt_59 : decode cX4_sellAt 59 = .ok (.dup, 1) := by decide +kernel
theorem dX4_sellAt_60 : decode cX4_sellAt 60 = .ok (.getfield 70, 3) := by decide +kernel
theorem dX4_sellAt_63 : decode cX4_sellAt 63 = .ok (.iload 4, 2) := by decide +kernel
theorem dX4_sellAt_65 : decode cX4_sellAt 65 = .ok (.iadd, 1) := by decide +kernel
theorem dX4_sellAt_66 : decode cX4_sellAt 66 = .ok (.putfield 70, 3) := by decide +kernel
theorem dX4_sellAt_69 : decode cX4_sellAt 69 = .ok (.aload_n 0, 1) := by decide +kernel
theorem dX4_sellAt_70 : decode cX4_sellAt 70 = .ok (.dup, 1) := by decide +kernel
theorem dX4_sellAt_71 : decode cX4_sellAt 71 = .ok (.getfield 39, 3) := by decide +kernel
theorem dX4_sellAt_74 : decode cX4_sellAt 74 = .ok (.iconst 1, 1) := by decide +kernel
theorem dX4_sellAt_75 : decode cX4_sellAt 75 = .ok (.iadd, 1) := by decide +kernel
theorem dX4_sellAt_76 : decode cX4_sellAt 76 = .ok (.putfield 39, 3) := by decide +kernel
theorem dX4_sellAt_79 : decode cX4_sellAt 79 = .ok (.aload_n 0, 1) := by decide +kernel
theorem dX4_sellAt_80 : decode cX4_sellAt 80 = .ok (.dup, 1) := by decide +kernel
theorem dX4_sellAt_81 : decode cX4_sellAt 81 = .ok (.getfield 42, 3) := by decide +kernel
theorem dX4_sellAt_84 : decode cX4_sellAt 84 = .ok (.iload 4, 2) := by decide +kernel
theorem dX4_sellAt_86 : decode cX4_sellAt 86 = .ok (.iadd, 1) := by decide +kernel
theorem dX4_sellAt_87 : decode cX4_sellAt 87 = .ok (.putfield 42, 3) := by decide +kernel
theorem dX4_sellAt_90 : decode cX4_sellAt 90 = .ok (.iconst 1, 1) := by decide +kernel
theorem dX4_sellAt_91 : decode cX4_sellAt 91 = .ok (.ireturn, 1) := by decide +kernel
theorem dX4_fade_0 : decode cX4_fade 0 = .ok (.iconst 0, 1) := by decide +kernel
theorem dX4_fade_1 : decode cX4_fade 1 = .ok (.istore_n 2, 1) := by decide +kernel
theorem dX4_fade_2 : decode cX4_fade 2 = .ok (.iconst 0, 1) := by decide +kernel
theorem dX4_fade_3 : decode cX4_fade 3 = .ok (.istore_n 3, 1) := by decide +kernel
theorem dX4_fade_4 : decode cX4_fade 4 = .ok (.iload_n 3, 1) := by decide +kernel
theorem dX4_fade_5 : decode cX4_fade 5 = .ok (.bipush 60, 2) := by decide +kernel
theorem dX4_fade_7 : decode cX4_fade 7 = .ok (.if_icmp .ge 18, 3) := by decide +kernel
theorem dX4_fade_10 : decode cX4_fade 10 = .ok (.iload_n 2, 1) := by decide +kernel
theorem dX4_fade_11 : decode cX4_fade 11 = .ok (.aload_n 0, 1) := by decide +kernel
theorem dX4_fade_12 : decode cX4_fade 12 = .ok (.iload_n 3, 1) := by decide +kernel
theorem dX4_fade_13 : decode cX4_fade 13 = .ok (.iload_n 1, 1) := by decide +kernel
theorem dX4_fade_14 : decode cX4_fade 14 = .ok (.invokevirtual 71, 3) := by decide +kernel
theorem dX4_fade_17 : decode cX4_fade 17 = .ok (.iadd, 1) := by decide +kernel
theorem dX4_fade_18 : decode cX4_fade 18 = .ok (.istore_n 2, 1) := by decide +kernel
theorem dX4_fade_19 : decode cX4_fade 19 = .ok (.iinc 3 1, 3) := by decide +kernel
theorem dX4_fade_22 : decode cX4_fade 22 = .ok (.goto (-18), 3) := by decide +kernel
theorem dX4_fade_25 : decode cX4_fade 25 = .ok (.iload_n 2, 1) := by decide +kernel
theorem dX4_fade_26 : decode cX4_fade 26 = .ok (.ireturn, 1) := by decide +kernel
theorem dX4_fadeAt_0 : decode cX4_fadeAt 0 = .ok (.iconst 0, 1) := by decide +kernel
theorem dX4_fadeAt_1 : decode cX4_fadeAt 1 = .ok (.istore_n 3, 1) := by decide +kernel
theorem dX4_fadeAt_2 : decode cX4_fadeAt 2 = .ok (.iload_n 2, 1) := by decide +kernel
theorem dX4_fadeAt_3 : decode cX4_fadeAt 3 = .ok (.istore 4, 2) := by decide +kernel
theorem dX4_fadeAt_5 : decode cX4_fadeAt 5 = .ok (.aload_n 0, 1) := by decide +kernel
theorem dX4_fadeAt_6 : decode cX4_fadeAt 6 = .ok (.getfield 22, 3) := by decide +kernel
theorem dX4_fadeAt_9 : decode cX4_fadeAt 9 = .ok (.iconst 1, 1) := by decide +kernel
theorem dX4_fadeAt_10 : decode cX4_fadeAt 10 = .ok (.isub, 1) := by decide +kernel
theorem dX4_fadeAt_11 : decode cX4_fadeAt 11 = .ok (.istore 5, 2) := by decide +kernel
theorem dX4_fadeAt_13 : decode cX4_fadeAt 13 = .ok (.iload 5, 2) := by decide +kernel
theorem dX4_fadeAt_15 : decode cX4_fadeAt 15 = .ok (.ifCond .lt 87, 3) := by decide +kernel
theorem dX4_fadeAt_18 : decode cX4_fadeAt 18 = .ok (.iload 4, 2) := by decide +kernel
theorem dX4_fadeAt_20 : decode cX4_fadeAt 20 = .ok (.ifCond .le 82, 3) := by decide +kernel
theorem dX4_fadeAt_23 : decode cX4_fadeAt 23 = .ok (.aload_n 0, 1) := by decide +kernel
theorem dX4_fadeAt_24 : decode cX4_fadeAt 24 = .ok (.getfield 11, 3) := by decide +kernel
theorem dX4_fadeAt_27 : decode cX4_fadeAt 27 = .ok (.iload 5, 2) := by decide +kernel
theorem dX4_fadeAt_29 : decode cX4_fadeAt 29 = .ok (.aaload, 1) := by decide +kernel
theorem dX4_fadeAt_30 : decode cX4_fadeAt 30 = .ok (.getfield 53, 3) := by decide +kernel
theorem dX4_fadeAt_33 : decode cX4_fadeAt 33 = .ok (.astore 6, 2) := by decide +kernel
theorem dX4_fadeAt_35 : decode cX4_fadeAt 35 = .ok (.aload_n 0, 1) := by decide +kernel
theorem dX4_fadeAt_36 : decode cX4_fadeAt 36 = .ok (.iload 5, 2) := by decide +kernel
theorem dX4_fadeAt_38 : decode cX4_fadeAt 38 = .ok (.iload_n 1, 1) := by decide +kernel
theorem dX4_fadeAt_39 : decode cX4_fadeAt 39 = .ok (.invokevirtual 74, 3) := by decide +kernel
theorem dX4_fadeAt_42 : decode cX4_fadeAt 42 = .ok (.istore 7, 2) := by decide +kernel
theorem dX4_fadeAt_44 : decode cX4_fadeAt 44 = .ok (.iload 7, 2) := by decide +kernel
theorem dX4_fadeAt_46 : decode cX4_fadeAt 46 = .ok (.iload 4, 2) := by decide +kernel
theorem dX4_fadeAt_48 : decode cX4_fadeAt 48 = .ok (.if_icmp .le 28, 3) := by decide +kernel
theorem dX4_fadeAt_51 : decode cX4_fadeAt 51 = .ok (.aload 6, 2) := by decide +kernel
theorem dX4_fadeAt_53 : decode cX4_fadeAt 53 = .ok (.iload_n 1, 1) := by decide +kernel
theorem dX4_fadeAt_54 : decode cX4_fadeAt 54 = .ok (.dup2, 1) := by decide +kernel
theorem dX4_fadeAt_55 : decode cX4_fadeAt 55 = .ok (.iaload, 1) := by decide +kernel
theorem dX4_fadeAt_56 : decode cX4_fadeAt 56 = .ok (.iload 4, 2) := by decide +kernel
theorem dX4_fadeAt_58 : decode cX4_fadeAt 58 = .ok (.aload_n 0, 1) := by decide +kernel
theorem dX4_fadeAt_59 : decode cX4_fadeAt 59 = .ok (.getfield 18, 3) := by decide +kernel
theorem dX4_fadeAt_62 : decode cX4_fadeAt 62 = .ok (.iload_n 1, 1) := by decide +kernel
theorem dX4_fadeAt_63 : decode cX4_fadeAt 63 = .ok (.bipush 10, 2) := by decide +kernel
theorem dX4_fadeAt_65 : decode cX4_fadeAt 65 = .ok (.irem, 1) := by decide +kernel
theorem dX4_fadeAt_66 : decode cX4_fadeAt 66 = .ok (.iaload, 1) := by decide +kernel
theorem dX4_fadeAt_67 : decode cX4_fadeAt 67 = .ok (.imul, 1) := by decide +kernel
theorem dX4_fadeAt_68 : decode cX4_fadeAt 68 = .ok (.isub, 1) := by decide +kernel
theorem dX4_fadeAt_69 : decode cX4_fadeAt 69 = .ok (.iastore, 1) := by decide +kernel
theorem dX4_fadeAt_70 : decode cX4_fadeAt 70 = .ok (.iconst 0, 1) := by decide +kernel
theorem dX4_fadeAt_71 : decode cX4_fadeAt 71 = .ok (.istore 4, 2) := by decide +kernel
theorem dX4_fadeAt_73 : decode cX4_fadeAt 73 = .ok (.goto 23, 3) := by decide +kernel
theorem dX4_fadeAt_76 : decode cX4_fadeAt 76 = .ok (.iload 7, 2) := by decide +kernel
theorem dX4_fadeAt_78 : decode cX4_fadeAt 78 = .ok (.ifCond .le 18, 3) := by decide +kernel
theorem dX4_fadeAt_81 : decode cX4_fadeAt 81 = .ok (.aload 6, 2) := by decide +kernel
theorem dX4_fadeAt_83 : decode cX4_fadeAt 83 = .ok (.iload_n 1, 1) := by decide +kernel
theorem dX4_fadeAt_84 : decode cX4_fadeAt 84 = .ok (.iconst 0, 1) := by decide +kernel
theorem dX4_fadeAt_85 : decode cX4_fadeAt 85 = .ok (.iastore, 1) := by decide +kernel
theorem dX4_fadeAt_86 : decode cX4_fadeAt 86 = .ok (.iload 4, 2) := by decide +kernel
theorem dX4_fadeAt_88 : decode cX4_fadeAt 88 = .ok (.iload 7, 2) := by decide +kernel
theorem dX4_fadeAt_90 : decode cX4_fadeAt 90 = .ok (.isub, 1) := by decide +kernel
theorem dX4_fadeAt_91 : decode cX4_fadeAt 91 = .ok (.istore 4, 2) := by decide +kernel
theorem dX4_fadeAt_93 : decode cX4_fadeAt 93 = .ok (.iinc 3 1, 3) := by decide +kernel
theorem dX4_fadeAt_96 : decode cX4_fadeAt 96 = .ok (.iinc 5 (-1), 3) := by decide +kernel
theorem dX4_fadeAt_99 : decode cX4_fadeAt 99 = .ok (.goto (-86), 3) := by decide +kernel
theorem dX4_fadeAt_102 : decode cX4_fadeAt 102 = .ok (.iload_n 3, 1) := by decide +kernel
theorem dX4_fadeAt_103 : decode cX4_fadeAt 103 = .ok (.ireturn, 1) := by decide +kernel
theorem dX4_daysToClear_0 : decode cX4_daysToClear 0 = .ok (.aload_n 0, 1) := by decide +kernel
theorem dX4_daysToClear_1 : decode cX4_daysToClear 1 = .ok (.getfield 11, 3) := by decide +kernel
theorem dX4_daysToClear_4 : decode cX4_daysToClear 4 = .ok (.iload_n 1, 1) := by decide +kernel
theorem dX4_daysToClear_5 : decode cX4_daysToClear 5 = .ok (.aaload, 1) := by decide +kernel
theorem dX4_daysToClear_6 : decode cX4_daysToClear 6 = .ok (.getfield 53, 3) := by decide +kernel
theorem dX4_daysToClear_9 : decode cX4_daysToClear 9 = .ok (.iload_n 2, 1) := by decide +kernel
theorem dX4_daysToClear_10 : decode cX4_daysToClear 10 = .ok (.iaload, 1) := by decide +kernel
theorem dX4_daysToClear_11 : decode cX4_daysToClear 11 = .ok (.istore_n 3, 1) := by decide +kernel
theorem dX4_daysToClear_12 : decode cX4_daysToClear 12 = .ok (.aload_n 0, 1) := by decide +kernel
theorem dX4_daysToClear_13 : decode cX4_daysToClear 13 = .ok (.getfield 18, 3) := by decide +kernel
theorem dX4_daysToClear_16 : decode cX4_daysToClear 16 = .ok (.iload_n 2, 1) := by decide +kernel
theorem dX4_daysToClear_17 : decode cX4_daysToClear 17 = .ok (.bipush 10, 2) := by decide +kernel
theorem dX4_daysToClear_19 : decode cX4_daysToClear 19 = .ok (.irem, 1) := by decide +kernel
theorem dX4_daysToClear_20 : decode cX4_daysToClear 20 = .ok (.iaload, 1) := by decide +kernel
theorem dX4_daysToClear_21 : decode cX4_daysToClear 21 = .ok (.istore 4, 2) := by decide +kernel
theorem dX4_daysToClear_23 : decode cX4_daysToClear 23 = .ok (.iload_n 3, 1) := by decide +kernel
theorem dX4_daysToClear_24 : decode cX4_daysToClear 24 = .ok (.ifCond .ne 5, 3) := by decide +kernel
theorem dX4_daysToClear_27 : decode cX4_daysToClear 27 = .ok (.iconst 0, 1) := by decide +kernel
theorem dX4_daysToClear_28 : decode cX4_daysToClear 28 = .ok (.ireturn, 1) := by decide +kernel
theorem dX4_daysToClear_29 : decode cX4_daysToClear 29 = .ok (.iload 4, 2) := by decide +kernel
theorem dX4_daysToClear_31 : decode cX4_daysToClear 31 = .ok (.ifCond .le 15, 3) := by decide +kernel
theorem dX4_daysToClear_34 : decode cX4_daysToClear 34 = .ok (.iload_n 3, 1) := by decide +kernel
theorem dX4_daysToClear_35 : decode cX4_daysToClear 35 = .ok (.iload 4, 2) := by decide +kernel
theorem dX4_daysToClear_37 : decode cX4_daysToClear 37 = .ok (.iadd, 1) := by decide +kernel
theorem dX4_daysToClear_38 : decode cX4_daysToClear 38 = .ok (.iconst 1, 1) := by decide +kernel
theorem dX4_daysToClear_39 : decode cX4_daysToClear 39 = .ok (.isub, 1) := by decide +kernel
theorem dX4_daysToClear_40 : decode cX4_daysToClear 40 = .ok (.iload 4, 2) := by decide +kernel
theorem dX4_daysToClear_42 : decode cX4_daysToClear 42 = .ok (.idiv, 1) := by decide +kernel
theorem dX4_daysToClear_43 : decode cX4_daysToClear 43 = .ok (.goto 5, 3) := by decide +kernel
theorem dX4_daysToClear_46 : decode cX4_daysToClear 46 = .ok (.ldc 77, 2) := by decide +kernel
theorem dX4_daysToClear_48 : decode cX4_daysToClear 48 = .ok (.ireturn, 1) := by decide +kernel
theorem dX4_daysToOtherPrice_0 : decode cX4_daysToOtherPrice 0 = .ok (.aload_n 0, 1) := by decide +kernel
theorem dX4_daysToOtherPrice_1 : decode cX4_daysToOtherPrice 1 = .ok (.iload_n 1, 1) := by decide +kernel
theorem dX4_daysToOtherPrice_2 : decode cX4_daysToOtherPrice 2 = .ok (.invokevirtual 78, 3) := by decide +kernel
theorem dX4_daysToOtherPrice_5 : decode cX4_daysToOtherPrice 5 = .ok (.istore_n 2, 1) := by decide +kernel
theorem dX4_daysToOtherPrice_6 : decode cX4_daysToOtherPrice 6 = .ok (.iload_n 2, 1) := by decide +kernel
theorem dX4_daysToOtherPrice_7 : decode cX4_daysToOtherPrice 7 = .ok (.bipush (-6), 2) := by decide +kernel
theorem dX4_daysToOtherPrice_9 : decode cX4_daysToOtherPrice 9 = .ok (.if_icmp .ne 6, 3) := by decide +kernel
theorem dX4_daysToOtherPrice_12 : decode cX4_daysToOtherPrice 12 = .ok (.ldc 77, 2) := by decide +kernel
theorem dX4_daysToOtherPrice_14 : decode cX4_daysToOtherPrice 14 = .ok (.ireturn, 1) := by decide +kernel
theorem dX4_daysToOtherPrice_15 : decode cX4_daysToOtherPrice 15 = .ok (.iconst 0, 1) := by decide +kernel
theorem dX4_daysToOtherPrice_16 : decode cX4_daysToOtherPrice 16 = .ok (.istore_n 3, 1) := by decide +kernel
theorem dX4_daysToOtherPrice_17 : decode cX4_daysToOtherPrice 17 = .ok (.aload_n 0, 1) := by decide +kernel
theorem dX4_daysToOtherPrice_18 : decode cX4_daysToOtherPrice 18 = .ok (.getfield 22, 3) := by decide +kernel
theorem dX4_daysToOtherPrice_21 : decode cX4_daysToOtherPrice 21 = .ok (.iconst 1, 1) := by decide +kernel
theorem dX4_daysToOtherPrice_22 : decode cX4_daysToOtherPrice 22 = .ok (.isub, 1) := by decide +kernel
theorem dX4_daysToOtherPrice_23 : decode cX4_daysToOtherPrice 23 = .ok (.istore 4, 2) := by decide +kernel
theorem dX4_daysToOtherPrice_25 : decode cX4_daysToOtherPrice 25 = .ok (.iload 4, 2) := by decide +kernel
theorem dX4_daysToOtherPrice_27 : decode cX4_daysToOtherPrice 27 = .ok (.ifCond .lt 50, 3) := by decide +kernel
theorem dX4_daysToOtherPrice_30 : decode cX4_daysToOtherPrice 30 = .ok (.aload_n 0, 1) := by decide +kernel
theorem dX4_daysToOtherPrice_31 : decode cX4_daysToOtherPrice 31 = .ok (.getfield 11, 3) := by decide +kernel
theorem dX4_daysToOtherPrice_34 : decode cX4_daysToOtherPrice 34 = .ok (.iload 4, 2) := by decide +kernel
theorem dX4_daysToOtherPrice_36 : decode cX4_daysToOtherPrice 36 = .ok (.aaload, 1) := by decide +kernel
theorem dX4_daysToOtherPrice_37 : decode cX4_daysToOtherPrice 37 = .ok (.getfield 53, 3) := by decide +kernel
theorem dX4_daysToOtherPrice_40 : decode cX4_daysToOtherPrice 40 = .ok (.iload_n 1, 1) := by decide +kernel
theorem dX4_daysToOtherPrice_41 : decode cX4_daysToOtherPrice 41 = .ok (.iaload, 1) := by decide +kernel
theorem dX4_daysToOtherPrice_42 : decode cX4_daysToOtherPrice 42 = .ok (.ifCond .le 19, 3) := by decide +kernel
theorem dX4_daysToOtherPrice_45 : decode cX4_daysToOtherPrice 45 = .ok (.aload_n 0, 1) := by decide +kernel
theorem dX4_daysToOtherPrice_46 : decode cX4_daysToOtherPrice 46 = .ok (.getfield 11, 3) := by decide +kernel
theorem dX4_daysToOtherPrice_49 : decode cX4_daysToOtherPrice 49 = .ok (.iload 4, 2) := by decide +kernel
theorem dX4_daysToOtherPrice_51 : decode cX4_daysToOtherPrice 51 = .ok (.aaload, 1) := by decide +kernel
theorem dX4_daysToOtherPrice_52 : decode cX4_daysToOtherPrice 52 = .ok (.getfield 66, 3) := by decide +kernel
theorem dX4_daysToOtherPrice_55 : decode cX4_daysToOtherPrice 55 = .ok (.iload_n 2, 1) := by decide +kernel
theorem dX4_daysToOtherPrice_56 : decode cX4_daysToOtherPrice 56 = .ok (.if_icmp .eq 5, 3) := by decide +kernel
theorem dX4_daysToOtherPrice_59 : decode cX4_daysToOtherPrice 59 = .ok (.iload_n 3, 1) := by decide +kernel
theorem dX4_daysToOtherPrice_60 : decode cX4_daysToOtherPrice 60 = .ok (.ireturn, 1) := by decide +kernel
theorem dX4_daysToOtherPrice_61 : decode cX4_daysToOtherPrice 61 = .ok (.iload_n 3, 1) := by decide +kernel
theorem dX4_daysToOtherPrice_62 : decode cX4_daysToOtherPrice 62 = .ok (.aload_n 0, 1) := by decide +kernel
theorem dX4_daysToOtherPrice_63 : decode cX4_daysToOtherPrice 63 = .ok (.iload 4, 2) := by decide +kernel
theorem dX4_daysToOtherPrice_65 : decode cX4_daysToOtherPrice 65 = .ok (.iload_n 1, 1) := by decide +kernel
theorem dX4_daysToOtherPrice_66 : decode cX4_daysToOtherPrice 66 = .ok (.invokevirtual 74, 3) := by decide +kernel
theorem dX4_daysToOtherPrice_69 : decode cX4_daysToOtherPrice 69 = .ok (.iadd, 1) := by decide +kernel
theorem dX4_daysToOtherPrice_70 : decode cX4_daysToOtherPrice 70 = .ok (.istore_n 3, 1) := by decide +kernel
theorem dX4_daysToOtherPrice_71 : decode cX4_daysToOtherPrice 71 = .ok (.iinc 4 (-1), 3) := by decide +kernel
theorem dX4_daysToOtherPrice_74 : decode cX4_daysToOtherPrice 74 = .ok (.goto (-49), 3) := by decide +kernel
theorem dX4_daysToOtherPrice_77 : decode cX4_daysToOtherPrice 77 = .ok (.iload_n 3, 1) := by decide +kernel
theorem dX4_daysToOtherPrice_78 : decode cX4_daysToOtherPrice 78 = .ok (.ireturn, 1) := by decide +kernel
theorem dX4_daysToSee_0 : decode cX4_daysToSee 0 = .ok (.aload_n 0, 1) := by decide +kernel
theorem dX4_daysToSee_1 : decode cX4_daysToSee 1 = .ok (.getfield 11, 3) := by decide +kernel
theorem dX4_daysToSee_4 : decode cX4_daysToSee 4 = .ok (.iload_n 1, 1) := by decide +kernel
theorem dX4_daysToSee_5 : decode cX4_daysToSee 5 = .ok (.aaload, 1) := by decide +kernel
theorem dX4_daysToSee_6 : decode cX4_daysToSee 6 = .ok (.getfield 53, 3) := by decide +kernel
theorem dX4_daysToSee_9 : decode cX4_daysToSee 9 = .ok (.iload_n 2, 1) := by decide +kernel
theorem dX4_daysToSee_10 : decode cX4_daysToSee 10 = .ok (.iaload, 1) := by decide +kernel
theorem dX4_daysToSee_11 : decode cX4_daysToSee 11 = .ok (.ifCond .ne 6, 3) := by decide +kernel
theorem dX4_daysToSee_14 : decode cX4_daysToSee 14 = .ok (.ldc 77, 2) := by decide +kernel
theorem dX4_daysToSee_16 : decode cX4_daysToSee 16 = .ok (.ireturn, 1) := by decide +kernel
theorem dX4_daysToSee_17 : decode cX4_daysToSee 17 = .ok (.iconst 0, 1) := by decide +kernel
theorem dX4_daysToSee_18 : decode cX4_daysToSee 18 = .ok (.istore_n 3, 1) := by decide +kernel
theorem dX4_daysToSee_19 : decode cX4_daysToSee 19 = .ok (.iload_n 1, 1) := by decide +kernel
theorem dX4_daysToSee_20 : decode cX4_daysToSee 20 = .ok (.iconst 1, 1) := by decide +kernel
theorem dX4_daysToSee_21 : decode cX4_daysToSee 21 = .ok (.iadd, 1) := by decide +kernel
theorem dX4_daysToSee_22 : decode cX4_daysToSee 22 = .ok (.istore 4, 2) := by decide +kernel
theorem dX4_daysToSee_24 : decode cX4_daysToSee 24 = .ok (.iload 4, 2) := by decide +kernel
theorem dX4_daysToSee_26 : decode cX4_daysToSee 26 = .ok (.aload_n 0, 1) := by decide +kernel
theorem dX4_daysToSee_27 : decode cX4_daysToSee 27 = .ok (.getfield 22, 3) := by decide +kernel
theorem dX4_daysToSee_30 : decode cX4_daysToSee 30 = .ok (.if_icmp .ge 19, 3) := by decide +kernel
theorem dX4_daysToSee_33 : decode cX4_daysToSee 33 = .ok (.iload_n 3, 1) := by decide +kernel
theorem dX4_daysToSee_34 : decode cX4_daysToSee 34 = .ok (.aload_n 0, 1) := by decide +kernel
theorem dX4_daysToSee_35 : decode cX4_daysToSee 35 = .ok (.iload 4, 2) := by decide +kernel
theorem dX4_daysToSee_37 : decode cX4_daysToSee 37 = .ok (.iload_n 2, 1) := by decide +kernel
theorem dX4_daysToSee_38 : decode cX4_daysToSee 38 = .ok (.invokevirtual 74, 3) := by decide +kernel
theorem dX4_daysToSee_41 : decode cX4_daysToSee 41 = .ok (.iadd, 1) := by decide +kernel
theorem dX4_daysToSee_42 : decode cX4_daysToSee 42 = .ok (.istore_n 3, 1) := by decide +kernel
theorem dX4_daysToSee_43 : decode cX4_daysToSee 43 = .ok (.iinc 4 1, 3) := by decide +kernel
theorem dX4_daysToSee_46 : decode cX4_daysToSee 46 = .ok (.goto (-22), 3) := by decide +kernel
theorem dX4_daysToSee_49 : decode cX4_daysToSee 49 = .ok (.iload_n 3, 1) := by decide +kernel
theorem dX4_daysToSee_50 : decode cX4_daysToSee 50 = .ok (.ireturn, 1) := by decide +kernel
theorem dX4_seenAt_0 : decode cX4_seenAt 0 = .ok (.aload_n 0, 1) := by decide +kernel
theorem dX4_seenAt_1 : decode cX4_seenAt 1 = .ok (.bipush (-6), 2) := by decide +kernel
theorem dX4_seenAt_3 : decode cX4_seenAt 3 = .ok (.iload_n 1, 1) := by decide +kernel
theorem dX4_seenAt_4 : decode cX4_seenAt 4 = .ok (.invokevirtual 81, 3) := by decide +kernel
theorem dX4_seenAt_7 : decode cX4_seenAt 7 = .ok (.ireturn, 1) := by decide +kernel
theorem dX4_seenWithout_0 : decode cX4_seenWithout 0 = .ok (.aload_n 0, 1) := by decide +kernel
theorem dX4_seenWithout_1 : decode cX4_seenWithout 1 = .ok (.getfield 22, 3) := by decide +kernel
theorem dX4_seenWithout_4 : decode cX4_seenWithout 4 = .ok (.iconst 1, 1) := by decide +kernel
theorem dX4_seenWithout_5 : decode cX4_seenWithout 5 = .ok (.isub, 1) := by decide +kernel
theorem dX4_seenWithout_6 : decode cX4_seenWithout 6 = .ok (.istore_n 3, 1) := by decide +kernel
theorem dX4_seenWithout_7 : decode cX4_seenWithout 7 = .ok (.iload_n 3, 1) := by decide +kernel
theorem dX4_seenWithout_8 : decode cX4_seenWithout 8 = .ok (.ifCond .lt 30, 3) := by decide +kernel
theorem dX4_seenWithout_11 : decode cX4_seenWithout 11 = .ok (.iload_n 3, 1) := by decide +kernel
theorem dX4_seenWithout_12 : decode cX4_seenWithout 12 = .ok (.iload_n 1, 1) := by decide +kernel
theorem dX4_seenWithout_13 : decode cX4_seenWithout 13 = .ok (.if_icmp .eq 19, 3) := by decide +kernel
theorem dX4_seenWithout_16 : decode cX4_seenWithout 16 = .ok (.aload_n 0, 1) := by decide +kernel
theorem dX4_seenWithout_17 : decode cX4_seenWithout 17 = .ok (.getfield 11, 3) := by decide +kernel
theorem dX4_seenWithout_20 : decode cX4_seenWithout 20 = .ok (.iload_n 3, 1) := by decide +kernel
theorem dX4_seenWithout_21 : decode cX4_seenWithout 21 = .ok (.aaload, 1) := by decide +kernel
theorem dX4_seenWithout_22 : decode cX4_seenWithout 22 = .ok (.getfield 53, 3) := by decide +kernel
theorem dX4_seenWithout_25 : decode cX4_seenWithout 25 = .ok (.iload_n 2, 1) := by decide +kernel
theorem dX4_seenWithout_26 : decode cX4_seenWithout 26 = .ok (.iaload, 1) := by decide +kernel
theorem dX4_seenWithout_27 : decode cX4_seenWithout 27 = .ok (.ifCond .le 5, 3) := by decide +kernel
theorem dX4_seenWithout_30 : decode cX4_seenWithout 30 = .ok (.iload_n 3, 1) := by decide +kernel
theorem dX4_seenWithout_31 : decode cX4_seenWithout 31 = .ok (.ireturn, 1) := by decide +kernel
theorem dX4_seenWithout_32 : decode cX4_seenWithout 32 = .ok (.iinc 3 (-1), 3) := by decide +kernel
theorem dX4_seenWithout_35 : decode cX4_seenWithout 35 = .ok (.goto (-28), 3) := by decide +kernel
theorem dX4_seenWithout_38 : decode cX4_seenWithout 38 = .ok (.bipush (-6), 2) := by decide +kernel
theorem dX4_seenWithout_40 : decode cX4_seenWithout 40 = .ok (.ireturn, 1) := by decide +kernel
theorem dX4_sumWithout_0 : decode cX4_sumWithout 0 = .ok (.iconst 0, 1) := by decide +kernel
theorem dX4_sumWithout_1 : decode cX4_sumWithout 1 = .ok (.istore_n 2, 1) := by decide +kernel
theorem dX4_sumWithout_2 : decode cX4_sumWithout 2 = .ok (.iconst 0, 1) := by decide +kernel
theorem dX4_sumWithout_3 : decode cX4_sumWithout 3 = .ok (.istore_n 3, 1) := by decide +kernel
theorem dX4_sumWithout_4 : decode cX4_sumWithout 4 = .ok (.iload_n 3, 1) := by decide +kernel
theorem dX4_sumWithout_5 : decode cX4_sumWithout 5 = .ok (.bipush 60, 2) := by decide +kernel
theorem dX4_sumWithout_7 : decode cX4_sumWithout 7 = .ok (.if_icmp .ge 37, 3) := by decide +kernel
theorem dX4_sumWithout_10 : decode cX4_sumWithout 10 = .ok (.aload_n 0, 1) := by decide +kernel
theorem dX4_sumWithout_11 : decode cX4_sumWithout 11 = .ok (.iload_n 1, 1) := by decide +kernel
theorem dX4_sumWithout_12 : decode cX4_sumWithout 12 = .ok (.iload_n 3, 1) := by decide +kernel
theorem dX4_sumWithout_13 : decode cX4_sumWithout 13 = .ok (.invokevirtual 81, 3) := by decide +kernel
theorem dX4_sumWithout_16 : decode cX4_sumWithout 16 = .ok (.istore 4, 2) := by decide +kernel
theorem dX4_sumWithout_18 : decode cX4_sumWithout 18 = .ok (.iload 4, 2) := by decide +kernel
theorem dX4_sumWithout_20 : decode cX4_sumWithout 20 = .ok (.bipush (-6), 2) := by decide +kernel
theorem dX4_sumWithout_22 : decode cX4_sumWithout 22 = .ok (.if_icmp .eq 16, 3) := by decide +kernel
theorem dX4_sumWithout_25 : decode cX4_sumWithout 25 = .ok (.iload_n 2, 1) := by decide +kernel
theorem dX4_sumWithout_26 : decode cX4_sumWithout 26 = .ok (.aload_n 0, 1) := by decide +kernel
theorem dX4_sumWithout_27 : decode cX4_sumWithout 27 = .ok (.getfield 11, 3) := by decide +kernel
theorem dX4_sumWithout_30 : decode cX4_sumWithout 30 = .ok (.iload 4, 2) := by decide +kernel
theorem dX4_sumWithout_32 : decode cX4_sumWithout 32 = .ok (.aaload, 1) := by decide +kernel
theorem dX4_sumWithout_33 : decode cX4_sumWithout 33 = .ok (.getfield 66, 3) := by decide +kernel
theorem dX4_sumWithout_36 : decode cX4_sumWithout 36 = .ok (.iadd, 1) := by decide +kernel
theorem dX4_sumWithout_37 : decode cX4_sumWithout 37 = .ok (.istore_n 2, 1) := by decide +kernel
theorem dX4_sumWithout_38 : decode cX4_sumWithout 38 = .ok (.iinc 3 1, 3) := by decide +kernel
theorem dX4_sumWithout_41 : decode cX4_sumWithout 41 = .ok (.goto (-37), 3) := by decide +kernel
theorem dX4_sumWithout_44 : decode cX4_sumWithout 44 = .ok (.iload_n 2, 1) := by decide +kernel
theorem dX4_sumWithout_45 : decode cX4_sumWithout 45 = .ok (.ireturn, 1) := by decide +kernel
theorem dX4_priceAt_0 : decode cX4_priceAt 0 = .ok (.aload_n 0, 1) := by decide +kernel
theorem dX4_priceAt_1 : decode cX4_priceAt 1 = .ok (.iload_n 1, 1) := by decide +kernel
theorem dX4_priceAt_2 : decode cX4_priceAt 2 = .ok (.invokevirtual 56, 3) := by decide +kernel
theorem dX4_priceAt_5 : decode cX4_priceAt 5 = .ok (.istore_n 2, 1) := by decide +kernel
theorem dX4_priceAt_6 : decode cX4_priceAt 6 = .ok (.iload_n 2, 1) := by decide +kernel
theorem dX4_priceAt_7 : decode cX4_priceAt 7 = .ok (.bipush (-6), 2) := by decide +kernel
theorem dX4_priceAt_9 : decode cX4_priceAt 9 = .ok (.if_icmp .ne 8, 3) := by decide +kernel
theorem dX4_priceAt_12 : decode cX4_priceAt 12 = .ok (.bipush (-6), 2) := by decide +kernel
theorem dX4_priceAt_14 : decode cX4_priceAt 14 = .ok (.goto 12, 3) := by decide +kernel
theorem dX4_priceAt_17 : decode cX4_priceAt 17 = .ok (.aload_n 0, 1) := by decide +kernel
theorem dX4_priceAt_18 : decode cX4_priceAt 18 = .ok (.getfield 11, 3) := by decide +kernel
theorem dX4_priceAt_21 : decode cX4_priceAt 21 = .ok (.iload_n 2, 1) := by decide +kernel
theorem dX4_priceAt_22 : decode cX4_priceAt 22 = .ok (.aaload, 1) := by decide +kernel
theorem dX4_priceAt_23 : decode cX4_priceAt 23 = .ok (.getfield 66, 3) := by decide +kernel
theorem dX4_priceAt_26 : decode cX4_priceAt 26 = .ok (.ireturn, 1) := by decide +kernel
theorem dX4_seenVarnishAt_0 : decode cX4_seenVarnishAt 0 = .ok (.aload_n 0, 1) := by decide +kernel
theorem dX4_seenVarnishAt_1 : decode cX4_seenVarnishAt 1 = .ok (.iload_n 1, 1) := by decide +kernel
theorem dX4_seenVarnishAt_2 : decode cX4_seenVarnishAt 2 = .ok (.invokevirtual 56, 3) := by decide +kernel
theorem dX4_seenVarnishAt_5 : decode cX4_seenVarnishAt 5 = .ok (.istore_n 2, 1) := by decide +kernel
theorem dX4_seenVarnishAt_6 : decode cX4_seenVarnishAt 6 = .ok (.iload_n 2, 1) := by decide +kernel
theorem dX4_seenVarnishAt_7 : decode cX4_seenVarnishAt 7 = .ok (.bipush (-6), 2) := by decide +kernel
theorem dX4_seenVarnishAt_9 : decode cX4_seenVarnishAt 9 = .ok (.if_icmp .ne 7, 3) := by decide +kernel
theorem dX4_seenVarnishAt_12 : decode cX4_seenVarnishAt 12 = .ok (.iconst 0, 1) := by decide +kernel
theorem dX4_seenVarnishAt_13 : decode cX4_seenVarnishAt 13 = .ok (.goto 14, 3) := by decide +kernel
theorem dX4_seenVarnishAt_16 : decode cX4_seenVarnishAt 16 = .ok (.aload_n 0, 1) := by decide +kernel
theorem dX4_seenVarnishAt_17 : decode cX4_seenVarnishAt 17 = .ok (.getfield 11, 3) := by decide +kernel
theorem dX4_seenVarnishAt_20 : decode cX4_seenVarnishAt 20 = .ok (.iload_n 2, 1) := by decide +kernel
theorem dX4_seenVarnishAt_21 : decode cX4_seenVarnishAt 21 = .ok (.aaload, 1) := by decide +kernel
theorem dX4_seenVarnishAt_22 : decode cX4_seenVarnishAt 22 = .ok (.getfield 53, 3) := by decide +kernel
theorem dX4_seenVarnishAt_25 : decode cX4_seenVarnishAt 25 = .ok (.iload_n 1, 1) := by decide +kernel
theorem dX4_seenVarnishAt_26 : decode cX4_seenVarnishAt 26 = .ok (.iaload, 1) := by decide +kernel
theorem dX4_seenVarnishAt_27 : decode cX4_seenVarnishAt 27 = .ok (.ireturn, 1) := by decide +kernel
theorem dX4_postersAt_0 : decode cX4_postersAt 0 = .ok (.iconst 0, 1) := by decide +kernel
theorem dX4_postersAt_1 : decode cX4_postersAt 1 = .ok (.istore_n 3, 1) := by decide +kernel
theorem dX4_postersAt_2 : decode cX4_postersAt 2 = .ok (.iconst 0, 1) := by decide +kernel
theorem dX4_postersAt_3 : decode cX4_postersAt 3 = .ok (.istore 4, 2) := by decide +kernel
theorem dX4_postersAt_5 : decode cX4_postersAt 5 = .ok (.iload 4, 2) := by decide +kernel
theorem dX4_postersAt_7 : decode cX4_postersAt 7 = .ok (.aload_n 0, 1) := by decide +kernel
theorem dX4_postersAt_8 : decode cX4_postersAt 8 = .ok (.getfield 22, 3) := by decide +kernel
theorem dX4_postersAt_11 : decode cX4_postersAt 11 = .ok (.if_icmp .ge 27, 3) := by decide +kernel
theorem dX4_postersAt_14 : decode cX4_postersAt 14 = .ok (.aload_n 0, 1) := by decide +kernel
theorem dX4_postersAt_15 : decode cX4_postersAt 15 = .ok (.getfield 11, 3) := by decide +kernel
theorem dX4_postersAt_18 : decode cX4_postersAt 18 = .ok (.iload 4, 2) := by decide +kernel
theorem dX4_postersAt_20 : decode cX4_postersAt 20 = .ok (.aaload, 1) := by decide +kernel
theorem dX4_postersAt_21 : decode cX4_postersAt 21 = .ok (.iload_n 1, 1) := by decide +kernel
theorem dX4_postersAt_22 : decode cX4_postersAt 22 = .ok (.iload_n 2, 1) := by decide +kernel
theorem dX4_postersAt_23 : decode cX4_postersAt 23 = .ok (.invokevirtual 84, 3) := by decide +kernel
theorem dX4_postersAt_26 : decode cX4_postersAt 26 = .ok (.ifCond .eq 6, 3) := by decide +kernel
theorem dX4_postersAt_29 : decode cX4_postersAt 29 = .ok (.iinc 3 1, 3) := by decide +kernel
theorem dX4_postersAt_32 : decode cX4_postersAt 32 = .ok (.iinc 4 1, 3) := by decide +kernel
theorem dX4_postersAt_35 : decode cX4_postersAt 35 = .ok (.goto (-30), 3) := by decide +kernel
theorem dX4_postersAt_38 : decode cX4_postersAt 38 = .ok (.iload_n 3, 1) := by decide +kernel
theorem dX4_postersAt_39 : decode cX4_postersAt 39 = .ok (.ireturn, 1) := by decide +kernel
theorem dX4_notClearAt_0 : decode cX4_notClearAt 0 = .ok (.iconst 0, 1) := by decide +kernel
theorem dX4_notClearAt_1 : decode cX4_notClearAt 1 = .ok (.istore_n 2, 1) := by decide +kernel
theorem dX4_notClearAt_2 : decode cX4_notClearAt 2 = .ok (.iconst 0, 1) := by decide +kernel
theorem dX4_notClearAt_3 : decode cX4_notClearAt 3 = .ok (.istore_n 3, 1) := by decide +kernel
theorem dX4_notClearAt_4 : decode cX4_notClearAt 4 = .ok (.iload_n 3, 1) := by decide +kernel
theorem dX4_notClearAt_5 : decode cX4_notClearAt 5 = .ok (.aload_n 0, 1) := by decide +kernel
theorem dX4_notClearAt_6 : decode cX4_notClearAt 6 = .ok (.getfield 22, 3) := by decide +kernel
theorem dX4_notClearAt_9 : decode cX4_notClearAt 9 = .ok (.if_icmp .ge 26, 3) := by decide +kernel
theorem dX4_notClearAt_12 : decode cX4_notClearAt 12 = .ok (.aload_n 0, 1) := by decide +kernel
theorem dX4_notClearAt_13 : decode cX4_notClearAt 13 = .ok (.getfield 11, 3) := by decide +kernel
theorem dX4_notClearAt_16 : decode cX4_notClearAt 16 = .ok (.iload_n 3, 1) := by decide +kernel
theorem dX4_notClearAt_17 : decode cX4_notClearAt 17 = .ok (.aaload, 1) := by decide +kernel
theorem dX4_notClearAt_18 : decode cX4_notClearAt 18 = .ok (.getfield 53, 3) := by decide +kernel
theorem dX4_notClearAt_21 : decode cX4_notClearAt 21 = .ok (.iload_n 1, 1) := by decide +kernel
theorem dX4_notClearAt_22 : decode cX4_notClearAt 22 = .ok (.iaload, 1) := by decide +kernel
theorem dX4_notClearAt_23 : decode cX4_notClearAt 23 = .ok (.ifCond .le 6, 3) := by decide +kernel
theorem dX4_notClearAt_26 : decode cX4_notClearAt 26 = .ok (.iinc 2 1, 3) := by decide +kernel
theorem dX4_notClearAt_29 : decode cX4_notClearAt 29 = .ok (.iinc 3 1, 3) := by decide +kernel
theorem dX4_notClearAt_32 : decode cX4_notClearAt 32 = .ok (.goto (-28), 3) := by decide +kernel
theorem dX4_notClearAt_35 : decode cX4_notClearAt 35 = .ok (.iload_n 2, 1) := by decide +kernel
theorem dX4_notClearAt_36 : decode cX4_notClearAt 36 = .ok (.ireturn, 1) := by decide +kernel
theorem dX4_seenCellsOf_0 : decode cX4_seenCellsOf 0 = .ok (.iconst 0, 1) := by decide +kernel
theorem dX4_seenCellsOf_1 : decode cX4_seenCellsOf 1 = .ok (.istore_n 2, 1) := by decide +kernel
theorem dX4_seenCellsOf_2 : decode cX4_seenCellsOf 2 = .ok (.iconst 0, 1) := by decide +kernel
theorem dX4_seenCellsOf_3 : decode cX4_seenCellsOf 3 = .ok (.istore_n 3, 1) := by decide +kernel
theorem dX4_seenCellsOf_4 : decode cX4_seenCellsOf 4 = .ok (.iload_n 3, 1) := by decide +kernel
theorem dX4_seenCellsOf_5 : decode cX4_seenCellsOf 5 = .ok (.bipush 60, 2) := by decide +kernel
theorem dX4_seenCellsOf_7 : decode cX4_seenCellsOf 7 = .ok (.if_icmp .ge 21, 3) := by decide +kernel
theorem dX4_seenCellsOf_10 : decode cX4_seenCellsOf 10 = .ok (.aload_n 0, 1) := by decide +kernel
theorem dX4_seenCellsOf_11 : decode cX4_seenCellsOf 11 = .ok (.iload_n 3, 1) := by decide +kernel
theorem dX4_seenCellsOf_12 : decode cX4_seenCellsOf 12 = .ok (.invokevirtual 56, 3) := by decide +kernel
theorem dX4_seenCellsOf_15 : decode cX4_seenCellsOf 15 = .ok (.iload_n 1, 1) := by decide +kernel
theorem dX4_seenCellsOf_16 : decode cX4_seenCellsOf 16 = .ok (.if_icmp .ne 6, 3) := by decide +kernel
theorem dX4_seenCellsOf_19 : decode cX4_seenCellsOf 19 = .ok (.iinc 2 1, 3) := by decide +kernel
theorem dX4_seenCellsOf_22 : decode cX4_seenCellsOf 22 = .ok (.iinc 3 1, 3) := by decide +kernel
theorem dX4_seenCellsOf_25 : decode cX4_seenCellsOf 25 = .ok (.goto (-21), 3) := by decide +kernel
theorem dX4_seenCellsOf_28 : decode cX4_seenCellsOf 28 = .ok (.iload_n 2, 1) := by decide +kernel
theorem dX4_seenCellsOf_29 : decode cX4_seenCellsOf 29 = .ok (.ireturn, 1) := by decide +kernel
theorem dX4_cellsWithPrice_0 : decode cX4_cellsWithPrice 0 = .ok (.iconst 0, 1) := by decide +kernel
theorem dX4_cellsWithPrice_1 : decode cX4_cellsWithPrice 1 = .ok (.istore_n 1, 1) := by decide +kernel
theorem dX4_cellsWithPrice_2 : decode cX4_cellsWithPrice 2 = .ok (.iconst 0, 1) := by decide +kernel
theorem dX4_cellsWithPrice_3 : decode cX4_cellsWithPrice 3 = .ok (.istore_n 2, 1) := by decide +kernel
theorem dX4_cellsWithPrice_4 : decode cX4_cellsWithPrice 4 = .ok (.iload_n 2, 1) := by decide +kernel
theorem dX4_cellsWithPrice_5 : decode cX4_cellsWithPrice 5 = .ok (.bipush 60, 2) := by decide +kernel
theorem dX4_cellsWithPrice_7 : decode cX4_cellsWithPrice 7 = .ok (.if_icmp .ge 22, 3) := by decide +kernel
theorem dX4_cellsWithPrice_10 : decode cX4_cellsWithPrice 10 = .ok (.aload_n 0, 1) := by decide +kernel
theorem dX4_cellsWithPrice_11 : decode cX4_cellsWithPrice 11 = .ok (.iload_n 2, 1) := by decide +kernel
theorem dX4_cellsWithPrice_12 : decode cX4_cellsWithPrice 12 = .ok (.invokevirtual 56, 3) := by decide +kernel
theorem dX4_cellsWithPrice_15 : decode cX4_cellsWithPrice 15 = .ok (.bipush (-6), 2) := by decide +kernel
theorem dX4_cellsWithPrice_17 : decode cX4_cellsWithPrice 17 = .ok (.if_icmp .eq 6, 3) := by decide +kernel
theorem dX4_cellsWithPrice_20 : decode cX4_cellsWithPrice 20 = .ok (.iinc 1 1, 3) := by decide +kernel
theorem dX4_cellsWithPrice_23 : decode cX4_cellsWithPrice 23 = .ok (.iinc 2 1, 3) := by decide +kernel
theorem dX4_cellsWithPrice_26 : decode cX4_cellsWithPrice 26 = .ok (.goto (-22), 3) := by decide +kernel
theorem dX4_cellsWithPrice_29 : decode cX4_cellsWithPrice 29 = .ok (.iload_n 1, 1) := by decide +kernel
theorem dX4_cellsWithPrice_30 : decode cX4_cellsWithPrice 30 = .ok (.ireturn, 1) := by decide +kernel
theorem dX4_unlikePrices_0 : decode cX4_unlikePrices 0 = .ok (.iconst 0, 1) := by decide +kernel
theorem dX4_unlikePrices_1 : decode cX4_unlikePrices 1 = .ok (.istore_n 1, 1) := by decide +kernel
theorem dX4_unlikePrices_2 : decode cX4_unlikePrices 2 = .ok (.iconst 0, 1) := by decide +kernel
theorem dX4_unlikePrices_3 : decode cX4_unlikePrices 3 = .ok (.istore_n 2, 1) := by decide +kernel
theorem dX4_unlikePrices_4 : decode cX4_unlikePrices 4 = .ok (.iload_n 2, 1) := by decide +kernel
theorem dX4_unlikePrices_5 : decode cX4_unlikePrices 5 = .ok (.aload_n 0, 1) := by decide +kernel
theorem dX4_unlikePrices_6 : decode cX4_unlikePrices 6 = .ok (.getfield 22, 3) := by decide +kernel
theorem dX4_unlikePrices_9 : decode cX4_unlikePrices 9 = .ok (.if_icmp .ge 28, 3) := by decide +kernel
theorem dX4_unlikePrices_12 : decode cX4_unlikePrices 12 = .ok (.aload_n 0, 1) := by decide +kernel
theorem dX4_unlikePrices_13 : decode cX4_unlikePrices 13 = .ok (.iload_n 2, 1) := by decide +kernel
theorem dX4_unlikePrices_14 : decode cX4_unlikePrices 14 = .ok (.invokevirtual 88, 3) := by decide +kernel
theorem dX4_unlikePrices_17 : decode cX4_unlikePrices 17 = .ok (.ifCond .le 14, 3) := by decide +kernel
theorem dX4_unlikePrices_20 : decode cX4_unlikePrices 20 = .ok (.aload_n 0, 1) := by decide +kernel
theorem dX4_unlikePrices_21 : decode cX4_unlikePrices 21 = .ok (.iload_n 2, 1) := by decide +kernel
theorem dX4_unlikePrices_22 : decode cX4_unlikePrices 22 = .ok (.invokevirtual 91, 3) := by decide +kernel
theorem dX4_unlikePrices_25 : decode cX4_unlikePrices 25 = .ok (.ifCond .ne 6, 3) := by decide +kernel
theorem dX4_unlikePrices_28 : decode cX4_unlikePrices 28 = .ok (.iinc 1 1, 3) := by decide +kernel
theorem dX4_unlikePrices_31 : decode cX4_unlikePrices 31 = .ok (.iinc 2 1, 3) := by decide +kernel
theorem dX4_unlikePrices_34 : decode cX4_unlikePrices 34 = .ok (.goto (-30), 3) := by decide +kernel
theorem dX4_unlikePrices_37 : decode cX4_unlikePrices 37 = .ok (.iload_n 1, 1) := by decide +kernel
theorem dX4_unlikePrices_38 : decode cX4_unlikePrices 38 = .ok (.ireturn, 1) := by decide +kernel
theorem dX4_isPriceSeenBelow_0 : decode cX4_isPriceSeenBelow 0 = .ok (.iconst 0, 1) := by decide +kernel
theorem dX4_isPriceSeenBelow_1 : decode cX4_isPriceSeenBelow 1 = .ok (.istore_n 2, 1) := by decide +kernel
theorem dX4_isPriceSeenBelow_2 : decode cX4_isPriceSeenBelow 2 = .ok (.iload_n 2, 1) := by decide +kernel
theorem dX4_isPriceSeenBelow_3 : decode cX4_isPriceSeenBelow 3 = .ok (.iload_n 1, 1) := by decide +kernel
theorem dX4_isPriceSeenBelow_4 : decode cX4_isPriceSeenBelow 4 = .ok (.if_icmp .ge 40, 3) := by decide +kernel
theorem dX4_isPriceSeenBelow_7 : decode cX4_isPriceSeenBelow 7 = .ok (.aload_n 0, 1) := by decide +kernel
theorem dX4_isPriceSeenBelow_8 : decode cX4_isPriceSeenBelow 8 = .ok (.getfield 11, 3) := by decide +kernel
theorem dX4_isPriceSeenBelow_11 : decode cX4_isPriceSeenBelow 11 = .ok (.iload_n 2, 1) := by decide +kernel
theorem dX4_isPriceSeenBelow_12 : decode cX4_isPriceSeenBelow 12 = .ok (.aaload, 1) := by decide +kernel
theorem dX4_isPriceSeenBelow_13 : decode cX4_isPriceSeenBelow 13 = .ok (.getfield 66, 3) := by decide +kernel
theorem dX4_isPriceSeenBelow_16 : decode cX4_isPriceSeenBelow 16 = .ok (.aload_n 0, 1) := by decide +kernel
theorem dX4_isPriceSeenBelow_17 : decode cX4_isPriceSeenBelow 17 = .ok (.getfield 11, 3) := by decide +kernel
theorem dX4_isPriceSeenBelow_20 : decode cX4_isPriceSeenBelow 20 = .ok (.iload_n 1, 1) := by decide +kernel
theorem dX4_isPriceSeenBelow_21 : decode cX4_isPriceSeenBelow 21 = .ok (.aaload, 1) := by decide +kernel
theorem dX4_isPriceSeenBelow_22 : decode cX4_isPriceSeenBelow 22 = .ok (.getfield 66, 3) := by decide +kernel
theorem dX4_isPriceSeenBelow_25 : decode cX4_isPriceSeenBelow 25 = .ok (.if_icmp .ne 13, 3) := by decide +kernel
theorem dX4_isPriceSeenBelow_28 : decode cX4_isPriceSeenBelow 28 = .ok (.aload_n 0, 1) := by decide +kernel
theorem dX4_isPriceSeenBelow_29 : decode cX4_isPriceSeenBelow 29 = .ok (.iload_n 2, 1) := by decide +kernel
theorem dX4_isPriceSeenBelow_30 : decode cX4_isPriceSeenBelow 30 = .ok (.invokevirtual 88, 3) := by decide +kernel
theorem dX4_isPriceSeenBelow_33 : decode cX4_isPriceSeenBelow 33 = .ok (.ifCond .le 5, 3) := by decide +kernel
theorem dX4_isPriceSeenBelow_36 : decode cX4_isPriceSeenBelow 36 = .ok (.iconst 1, 1) := by decide +kernel
theorem dX4_isPriceSeenBelow_37 : decode cX4_isPriceSeenBelow 37 = .ok (.ireturn, 1) := by decide +kernel
theorem dX4_isPriceSeenBelow_38 : decode cX4_isPriceSeenBelow 38 = .ok (.iinc 2 1, 3) := by decide +kernel
theorem dX4_isPriceSeenBelow_41 : decode cX4_isPriceSeenBelow 41 = .ok (.goto (-39), 3) := by decide +kernel
theorem dX4_isPriceSeenBelow_44 : decode cX4_isPriceSeenBelow 44 = .ok (.iconst 0, 1) := by decide +kernel
theorem dX4_isPriceSeenBelow_45 : decode cX4_isPriceSeenBelow 45 = .ok (.ireturn, 1) := by decide +kernel
theorem dX4_greatestPrice_0 : decode cX4_greatestPrice 0 = .ok (.bipush (-6), 2) := by decide +kernel
theorem dX4_greatestPrice_2 : decode cX4_greatestPrice 2 = .ok (.istore_n 1, 1) := by decide +kernel
theorem dX4_greatestPrice_3 : decode cX4_greatestPrice 3 = .ok (.iconst 0, 1) := by decide +kernel
theorem dX4_greatestPrice_4 : decode cX4_greatestPrice 4 = .ok (.istore_n 2, 1) := by decide +kernel
theorem dX4_greatestPrice_5 : decode cX4_greatestPrice 5 = .ok (.iload_n 2, 1) := by decide +kernel
theorem dX4_greatestPrice_6 : decode cX4_greatestPrice 6 = .ok (.bipush 60, 2) := by decide +kernel
theorem dX4_greatestPrice_8 : decode cX4_greatestPrice 8 = .ok (.if_icmp .ge 19, 3) := by decide +kernel
theorem dX4_greatestPrice_11 : decode cX4_greatestPrice 11 = .ok (.iload_n 1, 1) := by decide +kernel
theorem dX4_greatestPrice_12 : decode cX4_greatestPrice 12 = .ok (.aload_n 0, 1) := by decide +kernel
theorem dX4_greatestPrice_13 : decode cX4_greatestPrice 13 = .ok (.iload_n 2, 1) := by decide +kernel
theorem dX4_greatestPrice_14 : decode cX4_greatestPrice 14 = .ok (.invokevirtual 78, 3) := by decide +kernel
theorem dX4_greatestPrice_17 : decode cX4_greatestPrice 17 = .ok (.invokestatic 95, 3) := by decide +kernel
theorem dX4_greatestPrice_20 : decode cX4_greatestPrice 20 = .ok (.istore_n 1, 1) := by decide +kernel
theorem dX4_greatestPrice_21 : decode cX4_greatestPrice 21 = .ok (.iinc 2 1, 3) := by decide +kernel
theorem dX4_greatestPrice_24 : decode cX4_greatestPrice 24 = .ok (.goto (-19), 3) := by decide +kernel
theorem dX4_greatestPrice_27 : decode cX4_greatestPrice 27 = .ok (.iload_n 1, 1) := by decide +kernel
theorem dX4_greatestPrice_28 : decode cX4_greatestPrice 28 = .ok (.ireturn, 1) := by decide +kernel
theorem dX4_postersUnseen_0 : decode cX4_postersUnseen 0 = .ok (.iconst 0, 1) := by decide +kernel
theorem dX4_postersUnseen_1 : decode cX4_postersUnseen 1 = .ok (.istore_n 1, 1) := by decide +kernel
theorem dX4_postersUnseen_2 : decode cX4_postersUnseen 2 = .ok (.iconst 0, 1) := by decide +kernel
theorem dX4_postersUnseen_3 : decode cX4_postersUnseen 3 = .ok (.istore_n 2, 1) := by decide +kernel
theorem dX4_postersUnseen_4 : decode cX4_postersUnseen 4 = .ok (.iload_n 2, 1) := by decide +kernel
theorem dX4_postersUnseen_5 : decode cX4_postersUnseen 5 = .ok (.aload_n 0, 1) := by decide +kernel
theorem dX4_postersUnseen_6 : decode cX4_postersUnseen 6 = .ok (.getfield 22, 3) := by decide +kernel
theorem dX4_postersUnseen_9 : decode cX4_postersUnseen 9 = .ok (.if_icmp .ge 20, 3) := by decide +kernel
theorem dX4_postersUnseen_12 : decode cX4_postersUnseen 12 = .ok (.aload_n 0, 1) := by decide +kernel
theorem dX4_postersUnseen_13 : decode cX4_postersUnseen 13 = .ok (.iload_n 2, 1) := by decide +kernel
theorem dX4_postersUnseen_14 : decode cX4_postersUnseen 14 = .ok (.invokevirtual 88, 3) := by decide +kernel
theorem dX4_postersUnseen_17 : decode cX4_postersUnseen 17 = .ok (.ifCond .ne 6, 3) := by decide +kernel
theorem dX4_postersUnseen_20 : decode cX4_postersUnseen 20 = .ok (.iinc 1 1, 3) := by decide +kernel
theorem dX4_postersUnseen_23 : decode cX4_postersUnseen 23 = .ok (.iinc 2 1, 3) := by decide +kernel
theorem dX4_postersUnseen_26 : decode cX4_postersUnseen 26 = .ok (.goto (-22), 3) := by decide +kernel
theorem dX4_postersUnseen_29 : decode cX4_postersUnseen 29 = .ok (.iload_n 1, 1) := by decide +kernel
theorem dX4_postersUnseen_30 : decode cX4_postersUnseen 30 = .ok (.ireturn, 1) := by decide +kernel
theorem dX4_postersAllClear_0 : decode cX4_postersAllClear 0 = .ok (.iconst 0, 1) := by decide +kernel
theorem dX4_postersAllClear_1 : decode cX4_postersAllClear 1 = .ok (.istore_n 1, 1) := by decide +kernel
theorem dX4_postersAllClear_2 : decode cX4_postersAllClear 2 = .ok (.iconst 0, 1) := by decide +kernel
theorem dX4_postersAllClear_3 : decode cX4_postersAllClear 3 = .ok (.istore_n 2, 1) := by decide +kernel
theorem dX4_postersAllClear_4 : decode cX4_postersAllClear 4 = .ok (.iload_n 2, 1) := by decide +kernel
theorem dX4_postersAllClear_5 : decode cX4_postersAllClear 5 = .ok (.aload_n 0, 1) := by decide +kernel
theorem dX4_postersAllClear_6 : decode cX4_postersAllClear 6 = .ok (.getfield 22, 3) := by decide +kernel
theorem dX4_postersAllClear_9 : decode cX4_postersAllClear 9 = .ok (.if_icmp .ge 24, 3) := by decide +kernel
theorem dX4_postersAllClear_12 : decode cX4_postersAllClear 12 = .ok (.aload_n 0, 1) := by decide +kernel
theorem dX4_postersAllClear_13 : decode cX4_postersAllClear 13 = .ok (.getfield 11, 3) := by decide +kernel
theorem dX4_postersAllClear_16 : decode cX4_postersAllClear 16 = .ok (.iload_n 2, 1) := by decide +kernel
theorem dX4_postersAllClear_17 : decode cX4_postersAllClear 17 = .ok (.aaload, 1) := by decide +kernel
theorem dX4_postersAllClear_18 : decode cX4_postersAllClear 18 = .ok (.invokevirtual 98, 3) := by decide +kernel
theorem dX4_postersAllClear_21 : decode cX4_postersAllClear 21 = .ok (.ifCond .ne 6, 3) := by decide +kernel
theorem dX4_postersAllClear_24 : decode cX4_postersAllClear 24 = .ok (.iinc 1 1, 3) := by decide +kernel
theorem dX4_postersAllClear_27 : decode cX4_postersAllClear 27 = .ok (.iinc 2 1, 3) := by decide +kernel
theorem dX4_postersAllClear_30 : decode cX4_postersAllClear 30 = .ok (.goto (-26), 3) := by decide +kernel
theorem dX4_postersAllClear_33 : decode cX4_postersAllClear 33 = .ok (.iload_n 1, 1) := by decide +kernel
theorem dX4_postersAllClear_34 : decode cX4_postersAllClear 34 = .ok (.ireturn, 1) := by decide +kernel
theorem dX4_pricesUnlike_0 : decode cX4_pricesUnlike 0 = .ok (.iconst 0, 1) := by decide +kernel
theorem dX4_pricesUnlike_1 : decode cX4_pricesUnlike 1 = .ok (.istore_n 2, 1) := by decide +kernel
theorem dX4_pricesUnlike_2 : decode cX4_pricesUnlike 2 = .ok (.iconst 0, 1) := by decide +kernel
theorem dX4_pricesUnlike_3 : decode cX4_pricesUnlike 3 = .ok (.istore_n 3, 1) := by decide +kernel
theorem dX4_pricesUnlike_4 : decode cX4_pricesUnlike 4 = .ok (.iload_n 3, 1) := by decide +kernel
theorem dX4_pricesUnlike_5 : decode cX4_pricesUnlike 5 = .ok (.bipush 60, 2) := by decide +kernel
theorem dX4_pricesUnlike_7 : decode cX4_pricesUnlike 7 = .ok (.if_icmp .ge 25, 3) := by decide +kernel
theorem dX4_pricesUnlike_10 : decode cX4_pricesUnlike 10 = .ok (.aload_n 0, 1) := by decide +kernel
theorem dX4_pricesUnlike_11 : decode cX4_pricesUnlike 11 = .ok (.iload_n 3, 1) := by decide +kernel
theorem dX4_pricesUnlike_12 : decode cX4_pricesUnlike 12 = .ok (.invokevirtual 78, 3) := by decide +kernel
theorem dX4_pricesUnlike_15 : decode cX4_pricesUnlike 15 = .ok (.aload_n 1, 1) := by decide +kernel
theorem dX4_pricesUnlike_16 : decode cX4_pricesUnlike 16 = .ok (.iload_n 3, 1) := by decide +kernel
theorem dX4_pricesUnlike_17 : decode cX4_pricesUnlike 17 = .ok (.invokevirtual 78, 3) := by decide +kernel
theorem dX4_pricesUnlike_20 : decode cX4_pricesUnlike 20 = .ok (.if_icmp .eq 6, 3) := by decide +kernel
theorem dX4_pricesUnlike_23 : decode cX4_pricesUnlike 23 = .ok (.iinc 2 1, 3) := by decide +kernel
theorem dX4_pricesUnlike_26 : decode cX4_pricesUnlike 26 = .ok (.iinc 3 1, 3) := by decide +kernel
theorem dX4_pricesUnlike_29 : decode cX4_pricesUnlike 29 = .ok (.goto (-25), 3) := by decide +kernel
theorem dX4_pricesUnlike_32 : decode cX4_pricesUnlike 32 = .ok (.iload_n 2, 1) := by decide +kernel
theorem dX4_pricesUnlike_33 : decode cX4_pricesUnlike 33 = .ok (.ireturn, 1) := by decide +kernel
theorem dX5_init_0 : decode cX5_init 0 = .ok (.aload_n 0, 1) := by decide +kernel
theorem dX5_init_1 : decode cX5_init 1 = .ok (.invokespecial 3, 3) := by decide +kernel
theorem dX5_init_4 : decode cX5_init 4 = .ok (.aload_n 0, 1) := by decide +kernel
theorem dX5_init_5 : decode cX5_init 5 = .ok (.new 9, 3) := by decide +kernel
theorem dX5_init_8 : decode cX5_init 8 = .ok (.dup, 1) := by decide +kernel
theorem dX5_init_9 : decode cX5_init 9 = .ok (.invokespecial 11, 3) := by decide +kernel
theorem dX5_init_12 : decode cX5_init 12 = .ok (.putfield 12, 3) := by decide +kernel
theorem dX5_init_15 : decode cX5_init 15 = .ok (.aload_n 0, 1) := by decide +kernel
theorem dX5_init_16 : decode cX5_init 16 = .ok (.new 9, 3) := by decide +kernel
theorem dX5_init_19 : decode cX5_init 19 = .ok (.dup, 1) := by decide +kernel
theorem dX5_init_20 : decode cX5_init 20 = .ok (.invokespecial 11, 3) := by decide +kernel
theorem dX5_init_23 : decode cX5_init 23 = .ok (.putfield 16, 3) := by decide +kernel
theorem dX5_init_26 : decode cX5_init 26 = .ok (.aload_n 0, 1) := by decide +kernel
theorem dX5_init_27 : decode cX5_init 27 = .ok (.new 19, 3) := by decide +kernel
theorem dX5_init_30 : decode cX5_init 30 = .ok (.dup, 1) := by decide +kernel
theorem dX5_init_31 : decode cX5_init 31 = .ok (.invokespecial 21, 3) := by decide +kernel
theorem dX5_init_34 : decode cX5_init 34 = .ok (.putfield 22, 3) := by decide +kernel
theorem dX5_init_37 : decode cX5_init 37 = .ok (.aload_n 0, 1) := by decide +kernel
theorem dX5_init_38 : decode cX5_init 38 = .ok (.iconst 2, 1) := by decide +kernel
theorem dX5_init_39 : decode cX5_init 39 = .ok (.anewarray 9, 3) := by decide +kernel
theorem dX5_init_42 : decode cX5_init 42 = .ok (.putfield 26, 3) := by decide +kernel
theorem dX5_init_45 : decode cX5_init 45 = .ok (.iconst 0, 1) := by decide +kernel
theorem dX5_init_46 : decode cX5_init 46 = .ok (.istore_n 1, 1) := by decide +kernel
theorem dX5_init_47 : decode cX5_init 47 = .ok (.iload_n 1, 1) := by decide +kernel
theorem dX5_init_48 : decode cX5_init 48 = .ok (.iconst 2, 1) := by decide +kernel
theorem dX5_init_49 : decode cX5_init 49 = .ok (.if_icmp .ge 22, 3) := by decide +kernel
theorem dX5_init_52 : decode cX5_init 52 = .ok (.aload_n 0, 1) := by decide +kernel
theorem dX5_init_53 : decode cX5_init 53 = .ok (.getfield 26, 3) := by decide +kernel
theorem dX5_init_56 : decode cX5_init 56 = .ok (.iload_n 1, 1) := by decide +kernel
theorem dX5_init_57 : decode cX5_init 57 = .ok (.new 9, 3) := by decide +kernel
theorem dX5_init_60 : decode cX5_init 60 = .ok (.dup, 1) := by decide +kernel
theorem dX5_init_61 : decode cX5_init 61 = .ok (.invokespecial 11, 3) := by decide +kernel
theorem dX5_init_64 : decode cX5_init 64 = .ok (.aastore, 1) := by decide +kernel
theorem dX5_init_65 : decode cX5_init 65 = .ok (.iinc 1 1, 3) := by decide +kernel
theorem dX5_init_68 : decode cX5_init 68 = .ok (.goto (-21), 3) := by decide +kernel
theorem dX5_init_71 : decode cX5_init 71 = .ok (.aload_n 0, 1) := by decide +kernel
theorem dX5_init_72 : decode cX5_init 72 = .ok (.iconst 2, 1) := by decide +kernel
theorem dX5_init_73 : decode cX5_init 73 = .ok (.newarray .boolean, 2) := by decide +kernel
theorem dX5_init_75 : decode cX5_init 75 = .ok (.putfield 30, 3) := by decide +kernel
theorem dX5_init_78 : decode cX5_init 78 = .ok (.aload_n 0, 1) := by decide +kernel
theorem dX5_init_79 : decode cX5_init 79 = .ok (.new 34, 3) := by decide +kernel
theorem dX5_init_82 : decode cX5_init 82 = .ok (.dup, 1) := by decide +kernel
theorem dX5_init_83 : decode cX5_init 83 = .ok (.invokespecial 36, 3) := by decide +kernel
theorem dX5_init_86 : decode cX5_init 86 = .ok (.putfield 37, 3) := by decide +kernel
theorem dX5_init_89 : decode cX5_init 89 = .ok (.return_, 1) := by decide +kernel
theorem dX5_paste_0 : decode cX5_paste 0 = .ok (.iload_n 1, 1) := by decide +kernel
theorem dX5_paste_1 : decode cX5_paste 1 = .ok (.iload_n 2, 1) := by decide +kernel
theorem dX5_paste_2 : decode cX5_paste 2 = .ok (.invokestatic 41, 3) := by decide +kernel
theorem dX5_paste_5 : decode cX5_paste 5 = .ok (.ifCond .eq 28, 3) := by decide +kernel
theorem dX5_paste_8 : decode cX5_paste 8 = .ok (.iload_n 3, 1) := by decide +kernel
theorem dX5_paste_9 : decode cX5_paste 9 = .ok (.iconst 1, 1) := by decide +kernel
theorem dX5_paste_10 : decode cX5_paste 10 = .ok (.bipush 10, 2) := by decide +kernel
theorem dX5_paste_12 : decode cX5_paste 12 = .ok (.iload_n 1, 1) := by decide +kernel
theorem dX5_paste_13 : decode cX5_paste 13 = .ok (.isub, 1) := by decide +kernel
theorem dX5_paste_14 : decode cX5_paste 14 = .ok (.invokestatic 45, 3) := by decide +kernel
theorem dX5_paste_17 : decode cX5_paste 17 = .ok (.ifCond .eq 16, 3) := by decide +kernel
theorem dX5_paste_20 : decode cX5_paste 20 = .ok (.iload 4, 2) := by decide +kernel
theorem dX5_paste_22 : decode cX5_paste 22 = .ok (.iconst 1, 1) := by decide +kernel
theorem dX5_paste_23 : decode cX5_paste 23 = .ok (.bipush 6, 2) := by decide +kernel
theorem dX5_paste_25 : decode cX5_paste 25 = .ok (.iload_n 2, 1) := by decide +kernel
theorem dX5_paste_26 : decode cX5_paste 26 = .ok (.isub, 1) := by decide +kernel
theorem dX5_paste_27 : decode cX5_paste 27 = .ok (.invokestatic 45, 3) := by decide +kernel
theorem dX5_paste_30 : decode cX5_paste 30 = .ok (.ifCond .ne 5, 3) := by decide +kernel
theorem dX5_paste_33 : decode cX5_paste 33 = .ok (.iconst (-1), 1) := by decide +kernel
theorem dX5_paste_34 : decode cX5_paste 34 = .ok (.ireturn, 1) := by decide +kernel
theorem dX5_paste_35 : decode cX5_paste 35 = .ok (.iload 5, 2) := by decide +kernel
theorem dX5_paste_37 : decode cX5_paste 37 = .ok (.iconst 1, 1) := by decide +kernel
theorem dX5_paste_38 : decode cX5_paste 38 = .ok (.sipush 999, 3) := by decide +kernel
theorem dX5_paste_41 : decode cX5_paste 41 = .ok (.invokestatic 45, 3) := by decide +kernel
theorem dX5_paste_44 : decode cX5_paste 44 = .ok (.ifCond .eq 14, 3) := by decide +kernel
theorem dX5_paste_47 : decode cX5_paste 47 = .ok (.iload 6, 2) := by decide +kernel
theorem dX5_paste_49 : decode cX5_paste 49 = .ok (.iconst 1, 1) := by decide +kernel
theorem dX5_paste_50 : decode cX5_paste 50 = .ok (.bipush 99, 2) := by decide +kernel
theorem dX5_paste_52 : decode cX5_paste 52 = .ok (.invokestatic 45, 3) := by decide +kernel
theorem dX5_paste_55 : decode cX5_paste 55 = .ok (.ifCond .ne 6, 3) := by decide +kernel
theorem dX5_paste_58 : decode cX5_paste 58 = .ok (.bipush (-2), 2) := by decide +kernel
theorem dX5_paste_60 : decode cX5_paste 60 = .ok (.ireturn, 1) := by decide +kernel
theorem dX5_paste_61 : decode cX5_paste 61 = .ok (.aload_n 0, 1) := by decide +kernel
theorem dX5_paste_62 : decode cX5_paste 62 = .ok (.getfield 12, 3) := by decide +kernel
theorem dX5_paste_65 : decode cX5_paste 65 = .ok (.getfield 49, 3) := by decide +kernel
theorem dX5_paste_68 : decode cX5_paste 68 = .ok (.bipush 12, 2) := by decide +kernel
theorem dX5_paste_70 : decode cX5_paste 70 = .ok (.if_icmp .lt 6, 3) := by decide +kernel
theorem dX5_paste_73 : decode cX5_paste 73 = .ok (.bipush (-4), 2) := by decide +kernel
theorem dX5_paste_75 : decode cX5_paste 75 = .ok (.ireturn, 1) := by decide +kernel
theorem dX5_paste_76 : decode cX5_paste 76 = .ok (.aload_n 0, 1) := by decide +kernel
theorem dX5_paste_77 : decode cX5_paste 77 = .ok (.getfield 22, 3) := by decide +kernel
theorem dX5_paste_80 : decode cX5_paste 80 = .ok (.aload_n 0, 1) := by decide +kernel
theorem dX5_paste_81 : decode cX5_paste 81 = .ok (.getfield 12, 3) := by decide +kernel
theorem dX5_paste_84 : decode cX5_paste 84 = .ok (.invokevirtual 53, 3) := by decide +kernel
theorem dX5_paste_87 : decode cX5_paste 87 = .ok (.aload_n 0, 1) := by decide +kernel
theorem dX5_paste_88 : decode cX5_paste 88 = .ok (.getfield 12, 3) := by decide +kernel
theorem dX5_paste_91 : decode cX5_paste 91 = .ok (.iload_n 1, 1) := by decide +kernel
theorem dX5_paste_92 : decode cX5_paste 92 = .ok (.iload_n 2, 1) := by decide +kernel
theorem dX5_paste_93 : decode cX5_paste 93 = .ok (.iload_n 3, 1) := by decide +kernel
theorem dX5_paste_94 : decode cX5_paste 94 = .ok (.iload 4, 2) := by decide +kernel
theorem dX5_paste_96 : decode cX5_paste 96 = .ok (.iload 5, 2) := by decide +kernel
theorem dX5_paste_98 : decode cX5_paste 98 = .ok (.iload 6, 2) := by decide +kernel
theorem dX5_paste_100 : decode cX5_paste 100 = .ok (.invokevirtual 57, 3) := by decide +kernel
theorem dX5_paste_103 : decode cX5_paste 103 = .ok (.ireturn, 1) := by decide +kernel
theorem dX5_tear_0 : decode cX5_tear 0 = .ok (.aload_n 0, 1) := by decide +kernel
theorem dX5_tear_1 : decode cX5_tear 1 = .ok (.iload_n 1, 1) := by decide +kernel
theorem dX5_tear_2 : decode cX5_tear 2 = .ok (.invokevirtual 61, 3) := by decide +kernel
theorem dX5_tear_5 : decode cX5_tear 5 = .ok (.ifCond .ne 5, 3) := by decide +kernel
theorem dX5_tear_8 : decode cX5_tear 8 = .ok (.iconst (-1), 1) := by decide +kernel
theorem dX5_tear_9 : decode cX5_tear 9 = .ok (.ireturn, 1) := by decide +kernel
theorem dX5_tear_10 : decode cX5_tear 10 = .ok (.aload_n 0, 1) := by decide +kernel
theorem dX5_tear_11 : decode cX5_tear 11 = .ok (.getfield 22, 3) := by decide +kernel
theorem dX5_tear_14 : decode cX5_tear 14 = .ok (.aload_n 0, 1) := by decide +kernel
theorem dX5_tear_15 : decode cX5_tear 15 = .ok (.getfield 12, 3) := by decide +kernel
theorem dX5_tear_18 : decode cX5_tear 18 = .ok (.invokevirtual 53, 3) := by decide +kernel
theorem dX5_tear_21 : decode cX5_tear 21 = .ok (.aload_n 0, 1) := by decide +kernel
theorem dX5_tear_22 : decode cX5_tear 22 = .ok (.getfield 12, 3) := by decide +kernel
theorem dX5_tear_25 : decode cX5_tear 25 = .ok (.iload_n 1, 1) := by decide +kernel
theorem dX5_tear_26 : decode cX5_tear 26 = .ok (.invokevirtual 65, 3) := by decide +kernel
theorem dX5_tear_29 : decode cX5_tear 29 = .ok (.istore_n 2, 1) := by decide +kernel
theorem dX5_tear_30 : decode cX5_tear 30 = .ok (.aload_n 0, 1) := by decide +kernel
theorem dX5_tear_31 : decode cX5_tear 31 = .ok (.getfield 12, 3) := by decide +kernel
theorem dX5_tear_34 : decode cX5_tear 34 = .ok (.iload_n 1, 1) := by decide +kernel
theorem dX5_tear_35 : decode cX5_tear 35 = .ok (.invokevirtual 69, 3) := by decide +kernel
theorem dX5_tear_38 : decode cX5_tear 38 = .ok (.iload_n 2, 1) := by decide +kernel
theorem dX5_tear_39 : decode cX5_tear 39 = .ok (.ireturn, 1) := by decide +kernel
theorem dX5_coat_0 : decode cX5_coat 0 = .ok (.aload_n 0, 1) := by decide +kernel
theorem dX5_coat_1 : decode cX5_coat 1 = .ok (.iload_n 1, 1) := by decide +kernel
theorem dX5_coat_2 : decode cX5_coat 2 = .ok (.invokevirtual 61, 3) := by decide +kernel
theorem dX5_coat_5 : decode cX5_coat 5 = .ok (.ifCond .ne 5, 3) := by decide +kernel
theorem dX5_coat_8 : decode cX5_coat 8 = .ok (.iconst (-1), 1) := by decide +kernel
theorem dX5_coat_9 : decode cX5_coat 9 = .ok (.ireturn, 1) := by decide +kernel
theorem dX5_coat_10 : decode cX5_coat 10 = .ok (.iload_n 2, 1) := by decide +kernel
theorem dX5_coat_11 : decode cX5_coat 11 = .ok (.iconst 1, 1) := by decide +kernel
theorem dX5_coat_12 : decode cX5_coat 12 = .ok (.bipush 99, 2) := by decide +kernel
theorem dX5_coat_14 : decode cX5_coat 14 = .ok (.invokestatic 45, 3) := by decide +kernel
theorem dX5_coat_17 : decode cX5_coat 17 = .ok (.ifCond .ne 6, 3) := by decide +kernel
theorem dX5_coat_20 : decode cX5_coat 20 = .ok (.bipush (-2), 2) := by decide +kernel
theorem dX5_coat_22 : decode cX5_coat 22 = .ok (.ireturn, 1) := by decide +kernel
theorem dX5_coat_23 : decode cX5_coat 23 = .ok (.aload_n 0, 1) := by decide +kernel
theorem dX5_coat_24 : decode cX5_coat 24 = .ok (.getfield 22, 3) := by decide +kernel
theorem dX5_coat_27 : decode cX5_coat 27 = .ok (.aload_n 0, 1) := by decide +kernel
theorem dX5_coat_28 : decode cX5_coat 28 = .ok (.getfield 12, 3) := by decide +kernel
theorem dX5_coat_31 : decode cX5_coat 31 = .ok (.invokevirtual 53, 3) := by decide +kernel
theorem dX5_coat_34 : decode cX5_coat 34 = .ok (.aload_n 0, 1) := by decide +kernel
theorem dX5_coat_35 : decode cX5_coat 35 = .ok (.getfield 12, 3) := by decide +kernel
theorem dX5_coat_38 : decode cX5_coat 38 = .ok (.iload_n 1, 1) := by decide +kernel
theorem dX5_coat_39 : decode cX5_coat 39 = .ok (.iload_n 2, 1) := by decide +kernel
theorem dX5_coat_40 : decode cX5_coat 40 = .ok (.invokevirtual 73, 3) := by decide +kernel
theorem dX5_coat_43 : decode cX5_coat 43 = .ok (.ireturn, 1) := by decide +kernel
theorem dX5_scrape_0 : decode cX5_scrape 0 = .ok (.iload_n 1, 1) := by decide +kernel
theorem dX5_scrape_1 : decode cX5_scrape 1 = .ok (.iload_n 2, 1) := by decide +kernel
theorem dX5_scrape_2 : decode cX5_scrape 2 = .ok (.invokestatic 41, 3) := by decide +kernel
theorem dX5_scrape_5 : decode cX5_scrape 5 = .ok (.ifCond .ne 5, 3) := by decide +kernel
theorem dX5_scrape_8 : decode cX5_scrape 8 = .ok (.iconst (-1), 1) := by decide +kernel
theorem dX5_scrape_9 : decode cX5_scrape 9 = .ok (.ireturn, 1) := by decide +kernel
theorem dX5_scrape_10 : decode cX5_scrape 10 = .ok (.iload_n 3, 1) := by decide +kernel
theorem dX5_scrape_11 : decode cX5_scrape 11 = .ok (.iconst 1, 1) := by decide +kernel
theorem dX5_scrape_12 : decode cX5_scrape 12 = .ok (.sipush 300, 3) := by decide +kernel
theorem dX5_scrape_15 : decode cX5_scrape 15 = .ok (.invokestatic 45, 3) := by decide +kernel
theorem dX5_scrape_18 : decode cX5_scrape 18 = .ok (.ifCond .ne 6, 3) := by decide +kernel
theorem dX5_scrape_21 : decode cX5_scrape 21 = .ok (.bipush (-2), 2) := by decide +kernel
theorem dX5_scrape_23 : decode cX5_scrape 23 = .ok (.ireturn, 1) := by decide +kernel
theorem dX5_scrape_24 : decode cX5_scrape 24 = .ok (.iload_n 1, 1) := by decide +kernel
theorem dX5_scrape_25 : decode cX5_scrape 25 = .ok (.iload_n 2, 1) := by decide +kernel
theorem dX5_scrape_26 : decode cX5_scrape 26 = .ok (.invokestatic 77, 3) := by decide +kernel
theorem dX5_scrape_29 : decode cX5_scrape 29 = .ok (.istore 4, 2) := by decide +kernel
theorem dX5_scrape_31 : decode cX5_scrape 31 = .ok (.aload_n 0, 1) := by decide +kernel
theorem dX5_scrape_32 : decode cX5_scrape 32 = .ok (.getfield 12, 3) := by decide +kernel
theorem dX5_scrape_35 : decode cX5_scrape 35 = .ok (.iload 4, 2) := by decide +kernel
theorem dX5_scrape_37 : decode cX5_scrape 37 = .ok (.invokevirtual 80, 3) := by decide +kernel
theorem dX5_scrape_40 : decode cX5_scrape 40 = .ok (.bipush (-6), 2) := by decide +kernel
theorem dX5_scrape_42 : decode cX5_scrape 42 = .ok (.if_icmp .ne 6, 3) := by decide +kernel
theorem dX5_scrape_45 : decode cX5_scrape 45 = .ok (.bipush (-5), 2) := by decide +kernel
theorem dX5_scrape_47 : decode cX5_scrape 47 = .ok (.ireturn, 1) := by decide +kernel
theorem dX5_scrape_48 : decode cX5_scrape 48 = .ok (.aload_n 0, 1) := by decide +kernel
theorem dX5_scrape_49 : decode cX5_scrape 49 = .ok (.getfield 22, 3) := by decide +kernel
theorem dX5_scrape_52 : decode cX5_scrape 52 = .ok (.aload_n 0, 1) := by decide +kernel
theorem dX5_scrape_53 : decode cX5_scrape 53 = .ok (.getfield 12, 3) := by decide +kernel
theorem dX5_scrape_56 : decode cX5_scrape 56 = .ok (.invokevirtual 53, 3) := by decide +kernel
theorem dX5_scrape_59 : decode cX5_scrape 59 = .ok (.aload_n 0, 1) := by decide +kernel
theorem dX5_scrape_60 : decode cX5_scrape 60 = .ok (.getfield 12, 3) := by decide +kernel
theorem dX5_scrape_63 : decode cX5_scrape 63 = .ok (.iload 4, 2) := by decide +kernel
theorem dX5_scrape_65 : decode cX5_scrape 65 = .ok (.iload_n 3, 1) := by decide +kernel
theorem dX5_scrape_66 : decode cX5_scrape 66 = .ok (.invokevirtual 83, 3) := by decide +kernel
theorem dX5_scrape_69 : decode cX5_scrape 69 = .ok (.ireturn, 1) := by decide +kernel
theorem dX5_sun_0 : decode cX5_sun 0 = .ok (.iload_n 1, 1) := by decide +kernel
theorem dX5_sun_1 : decode cX5_sun 1 = .ok (.invokestatic 86, 3) := by decide +kernel
theorem dX5_sun_4 : decode cX5_sun 4 = .ok (.ifCond .ne 5, 3) := by decide +kernel
theorem dX5_sun_7 : decode cX5_sun 7 = .ok (.iconst (-1), 1) := by decide +kernel
theorem dX5_sun_8 : decode cX5_sun 8 = .ok (.ireturn, 1) := by decide +kernel
theorem dX5_sun_9 : decode cX5_sun 9 = .ok (.iload_n 2, 1) := by decide +kernel
theorem dX5_sun_10 : decode cX5_sun 10 = .ok (.iconst 0, 1) := by decide +kernel
theorem dX5_sun_11 : decode cX5_sun 11 = .ok (.bipush 9, 2) := by decide +kernel
theorem dX5_sun_13 : decode cX5_sun 13 = .ok (.invokestatic 45, 3) := by decide +kernel
theorem dX5_sun_16 : decode cX5_sun 16 = .ok (.ifCond .ne 6, 3) := by decide +kernel
theorem dX5_sun_19 : decode cX5_sun 19 = .ok (.bipush (-2), 2) := by decide +kernel
theorem dX5_sun_21 : decode cX5_sun 21 = .ok (.ireturn, 1) := by decide +kernel
theorem dX5_sun_22 : decode cX5_sun 22 = .ok (.aload_n 0, 1) := by decide +kernel
theorem dX5_sun_23 : decode cX5_sun 23 = .ok (.getfield 22, 3) := by decide +kernel
theorem dX5_sun_26 : decode cX5_sun 26 = .ok (.aload_n 0, 1) := by decide +kernel
theorem dX5_sun_27 : decode cX5_sun 27 = .ok (.getfield 12, 3) := by decide +kernel
theorem dX5_sun_30 : decode cX5_sun 30 = .ok (.invokevirtual 53, 3) := by decide +kernel
theorem dX5_sun_33 : decode cX5_sun 33 = .ok (.aload_n 0, 1) := by decide +kernel
theorem dX5_sun_34 : decode cX5_sun 34 = .ok (.getfield 12, 3) := by decide +kernel
theorem dX5_sun_37 : decode cX5_sun 37 = .ok (.getfield 89, 3) := by decide +kernel
theorem dX5_sun_40 : decode cX5_sun 40 = .ok (.iload_n 1, 1) := by decide +kernel
theorem dX5_sun_41 : decode cX5_sun 41 = .ok (.iaload, 1) := by decide +kernel
theorem dX5_sun_42 : decode cX5_sun 42 = .ok (.istore_n 3, 1) := by decide +kernel
theorem dX5_sun_43 : decode cX5_sun 43 = .ok (.aload_n 0, 1) := by decide +kernel
theorem dX5_sun_44 : decode cX5_sun 44 = .ok (.getfield 12, 3) := by decide +kernel
theorem dX5_sun_47 : decode cX5_sun 47 = .ok (.getfield 89, 3) := by decide +kernel
theorem dX5_sun_50 : decode cX5_sun 50 = .ok (.iload_n 1, 1) := by decide +kernel
theorem dX5_sun_51 : decode cX5_sun 51 = .ok (.iload_n 2, 1) := by decide +kernel
theorem dX5_sun_52 : decode cX5_sun 52 = .ok (.iastore, 1) := by decide +kernel
theorem dX5_sun_53 : decode cX5_sun 53 = .ok (.iload_n 3, 1) := by decide +kernel
theorem dX5_sun_54 : decode cX5_sun 54 = .ok (.ireturn, 1) := by decide +kernel
theorem dX5_buy_0 : decode cX5_buy 0 = .ok (.iload_n 1, 1) := by decide +kernel
theorem dX5_buy_1 : decode cX5_buy 1 = .ok (.iload_n 2, 1) := by decide +kernel
theorem dX5_buy_2 : decode cX5_buy 2 = .ok (.invokestatic 41, 3) := by decide +kernel
theorem dX5_buy_5 : decode cX5_buy 5 = .ok (.ifCond .ne 5, 3) := by decide +kernel
theorem dX5_buy_8 : decode cX5_buy 8 = .ok (.iconst (-1), 1) := by decide +kernel
theorem dX5_buy_9 : decode cX5_buy 9 = .ok (.ireturn, 1) := by decide +kernel
theorem dX5_buy_10 : decode cX5_buy 10 = .ok (.iload_n 3, 1) := by decide +kernel
theorem dX5_buy_11 : decode cX5_buy 11 = .ok (.iconst 0, 1) := by decide +kernel
theorem dX5_buy_12 : decode cX5_buy 12 = .ok (.sipush 999, 3) := by decide +kernel
theorem dX5_buy_15 : decode cX5_buy 15 = .ok (.invokestatic 45, 3) := by decide +kernel
theorem dX5_buy_18 : decode cX5_buy 18 = .ok (.ifCond .ne 6, 3) := by decide +kernel
theorem dX5_buy_21 : decode cX5_buy 21 = .ok (.bipush (-2), 2) := by decide +kernel
theorem dX5_buy_23 : decode cX5_buy 23 = .ok (.ireturn, 1) := by decide +kernel
theorem dX5_buy_24 : decode cX5_buy 24 = .ok (.iload_n 1, 1) := by decide +kernel
theorem dX5_buy_25 : decode cX5_buy 25 = .ok (.iload_n 2, 1) := by decide +kernel
theorem dX5_buy_26 : decode cX5_buy 26 = .ok (.invokestatic 77, 3) := by decide +kernel
theorem dX5_buy_29 : decode cX5_buy 29 = .ok (.istore 4, 2) := by decide +kernel
theorem dX5_buy_31 : decode cX5_buy 31 = .ok (.aload_n 0, 1) := by decide +kernel
theorem dX5_buy_32 : decode cX5_buy 32 = .ok (.getfield 12, 3) := by decide +kernel
theorem dX5_buy_35 : decode cX5_buy 35 = .ok (.iload 4, 2) := by decide +kernel
theorem dX5_buy_37 : decode cX5_buy 37 = .ok (.invokevirtual 80, 3) := by decide +kernel
theorem dX5_buy_40 : decode cX5_buy 40 = .ok (.istore 5, 2) := by decide +kernel
theorem dX5_buy_42 : decode cX5_buy 42 = .ok (.iload 5, 2) := by decide +kernel
theorem dX5_buy_44 : decode cX5_buy 44 = .ok (.bipush (-6), 2) := by decide +kernel
theorem dX5_buy_46 : decode cX5_buy 46 = .ok (.if_icmp .eq 9, 3) := by decide +kernel
theorem dX5_buy_49 : decode cX5_buy 49 = .ok (.iload 5, 2) := by decide +kernel
theorem dX5_buy_51 : decode cX5_buy 51 = .ok (.iload_n 3, 1) := by decide +kernel
theorem dX5_buy_52 : decode cX5_buy 52 = .ok (.if_icmp .le 6, 3) := by decide +kernel
theorem dX5_buy_55 : decode cX5_buy 55 = .ok (.bipush (-5), 2) := by decide +kernel
theorem dX5_buy_57 : decode cX5_buy 57 = .ok (.ireturn, 1) := by decide +kernel
theorem dX5_buy_58 : decode cX5_buy 58 = .ok (.aload_n 0, 1) := by decide +kernel
theorem dX5_buy_59 : decode cX5_buy 59 = .ok (.getfield 22, 3) := by decide +kernel
theorem dX5_buy_62 : decode cX5_buy 62 = .ok (.aload_n 0, 1) := by decide +kernel
theorem dX5_buy_63 : decode cX5_buy 63 = .ok (.getfield 12, 3) := by decide +kernel
theorem dX5_buy_66 : decode cX5_buy 66 = .ok (.invokevirtual 53, 3) := by decide +kernel
theorem dX5_buy_69 : decode cX5_buy 69 = .ok (.aload_n 0, 1) := by decide +kernel
theorem dX5_buy_70 : decode cX5_buy 70 = .ok (.getfield 12, 3) := by decide +kernel
theorem dX5_buy_73 : decode cX5_buy 73 = .ok (.iload 4, 2) := by decide +kernel
theorem dX5_buy_75 : decode cX5_buy 75 = .ok (.iload_n 3, 1) := by decide +kernel
theorem dX5_buy_76 : decode cX5_buy 76 = .ok (.invokevirtual 93, 3) := by decide +kernel
theorem dX5_buy_79 : decode cX5_buy 79 = .ok (.pop, 1) := by decide +kernel
theorem dX5_buy_80 : decode cX5_buy 80 = .ok (.iload 5, 2) := by decide +kernel
theorem dX5_buy_82 : decode cX5_buy 82 = .ok (.ireturn, 1) := by decide +kernel
theorem dX5_buyAll_0 : decode cX5_buyAll 0 = .ok (.aload_n 0, 1) := by decide +kernel
theorem dX5_buyAll_1 : decode cX5_buyAll 1 = .ok (.getfield 37, 3) := by decide +kernel
theorem dX5_buyAll_4 : decode cX5_buyAll 4 = .ok (.invokevirtual 96, 3) := by decide +kernel
theorem dX5_buyAll_7 : decode cX5_buyAll 7 = .ok (.bipush (-6), 2) := by decide +kernel
theorem dX5_buyAll_9 : decode cX5_buyAll 9 = .ok (.if_icmp .eq 6, 3) := by decide +kernel
theorem dX5_buyAll_12 : decode cX5_buyAll 12 = .ok (.bipush (-3), 2) := by decide +kernel
theorem dX5_buyAll_14 : decode cX5_buyAll 14 = .ok (.ireturn, 1) := by decide +kernel
theorem dX5_buyAll_15 : decode cX5_buyAll 15 = .ok (.aload_n 0, 1) := by decide +kernel
theorem dX5_buyAll_16 : decode cX5_buyAll 16 = .ok (.getfield 22, 3) := by decide +kernel
theorem dX5_buyAll_19 : decode cX5_buyAll 19 = .ok (.aload_n 0, 1) := by decide +kernel
theorem dX5_buyAll_20 : decode cX5_buyAll 20 = .ok (.getfield 12, 3) := by decide +kernel
theorem dX5_buyAll_23 : decode cX5_buyAll 23 = .ok (.invokevirtual 53, 3) := by decide +kernel
theorem dX5_buyAll_26 : decode cX5_buyAll 26 = .ok (.aload_n 0, 1) := by decide +kernel
theorem dX5_buyAll_27 : decode cX5_buyAll 27 = .ok (.getfield 37, 3) := by decide +kernel
theorem dX5_buyAll_30 : decode cX5_buyAll 30 = .ok (.aload_n 0, 1) := by decide +kernel
theorem dX5_buyAll_31 : decode cX5_buyAll 31 = .ok (.getfield 12, 3) := by decide +kernel
theorem dX5_buyAll_34 : decode cX5_buyAll 34 = .ok (.invokevirtual 100, 3) := by decide +kernel
theorem dX5_buyAll_37 : decode cX5_buyAll 37 = .ok (.istore_n 1, 1) := by decide +kernel
theorem dX5_buyAll_38 : decode cX5_buyAll 38 = .ok (.aload_n 0, 1) := by decide +kernel
theorem dX5_buyAll_39 : decode cX5_buyAll 39 = .ok (.getfield 37, 3) := by decide +kernel
theorem dX5_buyAll_42 : decode cX5_buyAll 42 = .ok (.iconst 0, 1) := by decide +kernel
theorem dX5_buyAll_43 : decode cX5_buyAll 43 = .ok (.putfield 104, 3) := by decide +kernel
theorem dX5_buyAll_46 : decode cX5_buyAll 46 = .ok (.iload_n 1, 1) := by decide +kernel
theorem dX5_buyAll_47 : decode cX5_buyAll 47 = .ok (.ireturn, 1) := by decide +kernel
theorem dX5_pass_0 : decode cX5_pass 0 = .ok (.iload_n 1, 1) := by decide +kernel
theorem dX5_pass_1 : decode cX5_pass 1 = .ok (.iconst 1, 1) := by decide +kernel
theorem dX5_pass_2 : decode cX5_pass 2 = .ok (.bipush 100, 2) := by decide +kernel
theorem dX5_pass_4 : decode cX5_pass 4 = .ok (.invokestatic 45, 3) := by decide +kernel
theorem dX5_pass_7 : decode cX5_pass 7 = .ok (.ifCond .ne 6, 3) := by decide +kernel
theorem dX5_pass_10 : decode cX5_pass 10 = .ok (.bipush (-2), 2) := by decide +kernel
theorem dX5_pass_12 : decode cX5_pass 12 = .ok (.ireturn, 1) := by decide +kernel
theorem dX5_pass_13 : decode cX5_pass 13 = .ok (.aload_n 0, 1) := by decide +kernel
theorem dX5_pass_14 : decode cX5_pass 14 = .ok (.getfield 12, 3) := by decide +kernel
theorem dX5_pass_17 : decode cX5_pass 17 = .ok (.getfield 107, 3) := by decide +kernel
theorem dX5_pass_20 : decode cX5_pass 20 = .ok (.iload_n 1, 1) := by decide +kernel
theorem dX5_pass_21 : decode cX5_pass 21 = .ok (.iadd, 1) := by decide +kernel
theorem dX5_pass_22 : decode cX5_pass 22 = .ok (.sipush 9999, 3) := by decide +kernel
theorem dX5_pass_25 : decode cX5_pass 25 = .ok (.if_icmp .le 6, 3) := by decide +kernel
theorem dX5_pass_28 : decode cX5_pass 28 = .ok (.bipush (-4), 2) := by decide +kernel
theorem dX5_pass_30 : decode cX5_pass 30 = .ok (.ireturn, 1) := by decide +kernel
theorem dX5_pass_31 : decode cX5_pass 31 = .ok (.aload_n 0, 1) := by decide +kernel
theorem dX5_pass_32 : decode cX5_pass 32 = .ok (.getfield 22, 3) := by decide +kernel
theorem dX5_pass_35 : decode cX5_pass 35 = .ok (.aload_n 0, 1) := by decide +kernel
theorem dX5_pass_36 : decode cX5_pass 36 = .ok (.getfield 12, 3) := by decide +kernel
theorem dX5_pass_39 : decode cX5_pass 39 = .ok (.invokevirtual 53, 3) := by decide +kernel
theorem dX5_pass_42 : decode cX5_pass 42 = .ok (.aload_n 0, 1) := by decide +kernel
theorem dX5_pass_43 : decode cX5_pass 43 = .ok (.getfield 12, 3) := by decide +kernel
theorem dX5_pass_46 : decode cX5_pass 46 = .ok (.dup, 1) := by decide +kernel
theorem dX5_pass_47 : decode cX5_pass 47 = .ok (.getfield 107, 3) := by decide +kernel
theorem dX5_pass_50 : decode cX5_pass 50 = .ok (.iload_n 1, 1) := by decide +kernel
theorem dX5_pass_51 : decode cX5_pass 51 = .ok (.iadd, 1) := by decide +kernel
theorem dX5_pass_52 : decode cX5_pass 52 = .ok (.putfield 107, 3) := by decide +kernel
theorem dX5_pass_55 : decode cX5_pass 55 = .ok (.aload_n 0, 1) := by decide +kernel
theorem dX5_pass_56 : decode cX5_pass 56 = .ok (.getfield 12, 3) := by decide +kernel
theorem dX5_pass_59 : decode cX5_pass 59 = .ok (.iload_n 1, 1) := by decide +kernel
theorem dX5_pass_60 : decode cX5_pass 60 = .ok (.invokevirtual 110, 3) := by decide +kernel
theorem dX5_pass_63 : decode cX5_pass 63 = .ok (.ireturn, 1) := by decide +kernel
theorem dX5_cell_0 : decode cX5_cell 0 = .ok (.iload_n 1, 1) := by decide +kernel
theorem dX5_cell_1 : decode cX5_cell 1 = .ok (.iload_n 2, 1) := by decide +kernel
theorem dX5_cell_2 : decode cX5_cell 2 = .ok (.invokestatic 41, 3) := by decide +kernel
theorem dX5_cell_5 : decode cX5_cell 5 = .ok (.ifCond .ne 5, 3) := by decide +kernel
theorem dX5_cell_8 : decode cX5_cell 8 = .ok (.iconst (-1), 1) := by decide +kernel
theorem dX5_cell_9 : decode cX5_cell 9 = .ok (.ireturn, 1) := by decide +kernel
theorem dX5_cell_10 : decode cX5_cell 10 = .ok (.iload_n 1, 1) := by decide +kernel
theorem dX5_cell_11 : decode cX5_cell 11 = .ok (.iload_n 2, 1) := by decide +kernel
theorem dX5_cell_12 : decode cX5_cell 12 = .ok (.invokestatic 77, 3) := by decide +kernel
theorem dX5_cell_15 : decode cX5_cell 15 = .ok (.istore 4, 2) := by decide +kernel
theorem dX5_cell_17 : decode cX5_cell 17 = .ok (.iload_n 3, 1) := by decide +kernel
theorem dX5_cell_18 : decode cX5_cell 18 = .ok (.tableswitch 84 0 4 #[34, 44, 54, 64, 74], 34) := by decide +kernel
theorem dX5_cell_52 : decode cX5_cell 52 = .ok (.aload_n 0, 1) := by decide +kernel
theorem dX5_cell_53 : decode cX5_cell 53 = .ok (.getfield 12, 3) := by decide +kernel
theorem dX5_cell_56 : decode cX5_cell 56 = .ok (.iload 4, 2) := by decide +kernel
theorem dX5_cell_58 : decode cX5_cell 58 = .ok (.invokevirtual 80, 3) := by decide +kernel
theorem dX5_cell_61 : decode cX5_cell 61 = .ok (.ireturn, 1) := by decide +kernel
theorem dX5_cell_62 : decode cX5_cell 62 = .ok (.aload_n 0, 1) := by decide +kernel
theorem dX5_cell_63 : decode cX5_cell 63 = .ok (.getfield 12, 3) := by decide +kernel
theorem dX5_cell_66 : decode cX5_cell 66 = .ok (.iload 4, 2) := by decide +kernel
theorem dX5_cell_68 : decode cX5_cell 68 = .ok (.invokevirtual 113, 3) := by decide +kernel
theorem dX5_cell_71 : decode cX5_cell 71 = .ok (.ireturn, 1) := by decide +kernel
theorem dX5_cell_72 : decode cX5_cell 72 = .ok (.aload_n 0, 1) := by decide +kernel
theorem dX5_cell_73 : decode cX5_cell 73 = .ok (.getfield 12, 3) := by decide +kernel
theorem dX5_cell_76 : decode cX5_cell 76 = .ok (.iload 4, 2) := by decide +kernel
theorem dX5_cell_78 : decode cX5_cell 78 = .ok (.invokevirtual 116, 3) := by decide +kernel
theorem dX5_cell_81 : decode cX5_cell 81 = .ok (.ireturn, 1) := by decide +kernel
theorem dX5_cell_82 : decode cX5_cell 82 = .ok (.aload_n 0, 1) := by decide +kernel
theorem dX5_cell_83 : decode cX5_cell 83 = .ok (.getfield 12, 3) := by decide +kernel
theorem dX5_cell_86 : decode cX5_cell 86 = .ok (.iload_n 1, 1) := by decide +kernel
theorem dX5_cell_87 : decode cX5_cell 87 = .ok (.iload_n 2, 1) := by decide +kernel
theorem dX5_cell_88 : decode cX5_cell 88 = .ok (.invokevirtual 119, 3) := by decide +kernel
theorem dX5_cell_91 : decode cX5_cell 91 = .ok (.ireturn, 1) := by decide +kernel
theorem dX5_cell_92 : decode cX5_cell 92 = .ok (.aload_n 0, 1) := by decide +kernel
theorem dX5_cell_93 : decode cX5_cell 93 = .ok (.getfield 12, 3) := by decide +kernel
theorem dX5_cell_96 : decode cX5_cell 96 = .ok (.iload 4, 2) := by decide +kernel
theorem dX5_cell_98 : decode cX5_cell 98 = .ok (.invokevirtual 122, 3) := by decide +kernel
theorem dX5_cell_101 : decode cX5_cell 101 = .ok (.ireturn, 1) := by decide +kernel
theorem dX5_cell_102 : decode cX5_cell 102 = .ok (.bipush (-2), 2) := by decide +kernel
theorem dX5_cell_104 : decode cX5_cell 104 = .ok (.ireturn, 1) := by decide +kernel
theorem dX5_poster_0 : decode cX5_poster 0 = .ok (.aload_n 0, 1) := by decide +kernel
theorem dX5_poster_1 : decode cX5_poster 1 = .ok (.iload_n 1, 1) := by decide +kernel
theorem dX5_poster_2 : decode cX5_poster 2 = .ok (.invokevirtual 61, 3) := by decide +kernel
theorem dX5_poster_5 : decode cX5_poster 5 = .ok (.ifCond .ne 5, 3) := by decide +kernel
theorem dX5_poster_8 : decode cX5_poster 8 = .ok (.iconst (-1), 1) := by decide +kernel
theorem dX5_poster_9 : decode cX5_poster 9 = .ok (.ireturn, 1) := by decide +kernel
theorem dX5_poster_10 : decode cX5_poster 10 = .ok (.aload_n 0, 1) := by decide +kernel
theorem dX5_poster_11 : decode cX5_poster 11 = .ok (.getfield 12, 3) := by decide +kernel
theorem dX5_poster_14 : decode cX5_poster 14 = .ok (.getfield 125, 3) := by decide +kernel
theorem dX5_poster_17 : decode cX5_poster 17 = .ok (.iload_n 1, 1) := by decide +kernel
theorem dX5_poster_18 : decode cX5_poster 18 = .ok (.aaload, 1) := by decide +kernel
theorem dX5_poster_19 : decode cX5_poster 19 = .ok (.astore_n 3, 1) := by decide +kernel
theorem dX5_poster_20 : decode cX5_poster 20 = .ok (.iload_n 2, 1) := by decide +kernel
theorem dX5_poster_21 : decode cX5_poster 21 = .ok (.tableswitch 127 0 10 #[59, 64, 69, 74, 79, 84, 93, 98, 112, 117, 122], 59) := by decide +kernel
theorem dX5_poster_80 : decode cX5_poster 80 = .ok (.aload_n 3, 1) := by decide +kernel
theorem dX5_poster_81 : decode cX5_poster 81 = .ok (.getfield 129, 3) := by decide +kernel
theorem dX5_poster_84 : decode cX5_poster 84 = .ok (.ireturn, 1) := by decide +kernel
theorem dX5_poster_85 : decode cX5_poster 85 = .ok (.aload_n 3, 1) := by decide +kernel
theorem dX5_poster_86 : decode cX5_poster 86 = .ok (.getfield 134, 3) := by decide +kernel
theorem dX5_poster_89 : decode cX5_poster 89 = .ok (.ireturn, 1) := by decide +kernel
theorem dX5_poster_90 : decode cX5_poster 90 = .ok (.aload_n 3, 1) := by decide +kernel
theorem dX5_poster_91 : decode cX5_poster 91 = .ok (.getfield 137, 3) := by decide +kernel
theorem dX5_poster_94 : decode cX5_poster 94 = .ok (.ireturn, 1) := by decide +kernel
theorem dX5_poster_95 : decode cX5_poster 95 = .ok (.aload_n 3, 1) := by decide +kernel
theorem dX5_poster_96 : decode cX5_poster 96 = .ok (.getfield 140, 3) := by decide +kernel
theorem dX5_poster_99 : decode cX5_poster 99 = .ok (.ireturn, 1) := by decide +kernel
theorem dX5_poster_100 : decode cX5_poster 100 = .ok (.aload_n 3, 1) := by decide +kernel
theorem dX5_poster_101 : decode cX5_poster 101 = .ok (.getfield 143, 3) := by decide +kernel
theorem dX5_poster_104 : decode cX5_poster 104 = .ok (.ireturn, 1) := by decide +kernel
theorem dX5_poster_105 : decode cX5_poster 105 = .ok (.aload_n 0, 1) := by decide +kernel
theorem dX5_poster_106 : decode cX5_poster 106 = .ok (.getfield 12, 3) := by decide +kernel
theorem dX5_poster_109 : decode cX5_poster 109 = .ok (.iload_n 1, 1) := by decide +kernel
theorem dX5_poster_110 : decode cX5_poster 110 = .ok (.invokevirtual 65, 3) := by decide +kernel
theorem dX5_poster_113 : decode cX5_poster 113 = .ok (.ireturn, 1) := by decide +kernel
theorem dX5_poster_114 : decode cX5_poster 114 = .ok (.aload_n 3, 1) := by decide +kernel
theorem dX5_poster_115 : decode cX5_poster 115 = .ok (.invokevirtual 146, 3) := by decide +kernel
theorem dX5_poster_118 : decode cX5_poster 118 = .ok (.ireturn, 1) := by decide +kernel
theorem dX5_poster_119 : decode cX5_poster 119 = .ok (.aload_n 3, 1) := by decide +kernel
theorem dX5_poster_120 : decode cX5_poster 120 = .ok (.invokevirtual 149, 3) := by decide +kernel
theorem dX5_poster_123 : decode cX5_poster 123 = .ok (.aload_n 0, 1) := by decide +kernel
theorem dX5_poster_124 : decode cX5_poster 124 = .ok (.getfield 12, 3) := by decide +kernel
theorem dX5_poster_127 : decode cX5_poster 127 = .ok (.iload_n 1, 1) := by decide +kernel
theorem dX5_poster_128 : decode cX5_poster 128 = .ok (.invokevirtual 65, 3) := by decide +kernel
theorem dX5_poster_131 : decode cX5_poster 131 = .ok (.isub, 1) := by decide +kernel
theorem dX5_poster_132 : decode cX5_poster 132 = .ok (.ireturn, 1) := by decide +kernel
theorem dX5_poster_133 : decode cX5_poster 133 = .ok (.aload_n 3, 1) := by decide +kernel
theorem dX5_poster_134 : decode cX5_poster 134 = .ok (.getfield 152, 3) := by decide +kernel
theorem dX5_poster_137 : decode cX5_poster 137 = .ok (.ireturn, 1) := by decide +kernel
theorem dX5_poster_138 : decode cX5_poster 138 = .ok (.aload_n 3, 1) := by decide +kernel
theorem dX5_poster_139 : decode cX5_poster 139 = .ok (.getfield 155, 3) := by decide +kernel
theorem dX5_poster_142 : decode cX5_poster 142 = .ok (.ireturn, 1) := by decide +kernel
theorem dX5_poster_143 : decode cX5_poster 143 = .ok (.aload_n 3, 1) := by decide +kernel
theorem dX5_poster_144 : decode cX5_poster 144 = .ok (.invokevirtual 158, 3) := by decide +kernel
theorem dX5_poster_147 : decode cX5_poster 147 = .ok (.ireturn, 1) := by decide +kernel
theorem dX5_poster_148 : decode cX5_poster 148 = .ok (.bipush (-2), 2) := by decide +kernel
theorem dX5_poster_150 : decode cX5_poster 150 = .ok (.ireturn, 1) := by decide +kernel
theorem dX5_varnish_0 : decode cX5_varnish 0 = .ok (.aload_n 0, 1) := by decide +kernel
theorem dX5_varnish_1 : decode cX5_varnish 1 = .ok (.iload_n 1, 1) := by decide +kernel
theorem dX5_varnish_2 : decode cX5_varnish 2 = .ok (.invokevirtual 61, 3) := by decide +kernel
theorem dX5_varnish_5 : decode cX5_varnish 5 = .ok (.ifCond .eq 11, 3) := by decide +kernel
theorem dX5_varnish_8 : decode cX5_varnish 8 = .ok (.iload_n 2, 1) := by decide +kernel
theorem dX5_varnish_9 : decode cX5_varnish 9 = .ok (.iload_n 3, 1) := by decide +kernel
theorem dX5_varnish_10 : decode cX5_varnish 10 = .ok (.invokestatic 41, 3) := by decide +kernel
theorem dX5_varnish_13 : decode cX5_varnish 13 = .ok (.ifCond .ne 5, 3) := by decide +kernel
theorem dX5_varnish_16 : decode cX5_varnish 16 = .ok (.iconst (-1), 1) := by decide +kernel
theorem dX5_varnish_17 : decode cX5_varnish 17 = .ok (.ireturn, 1) := by decide +kernel
theorem dX5_varnish_18 : decode cX5_varnish 18 = .ok (.aload_n 0, 1) := by decide +kernel
theorem dX5_varnish_19 : decode cX5_varnish 19 = .ok (.getfield 12, 3) := by decide +kernel
theorem dX5_varnish_22 : decode cX5_varnish 22 = .ok (.getfield 125, 3) := by decide +kernel
theorem dX5_varnish_25 : decode cX5_varnish 25 = .ok (.iload_n 1, 1) := by decide +kernel
theorem dX5_varnish_26 : decode cX5_varnish 26 = .ok (.aaload, 1) := by decide +kernel
theorem dX5_varnish_27 : decode cX5_varnish 27 = .ok (.astore 4, 2) := by decide +kernel
theorem dX5_varnish_29 : decode cX5_varnish 29 = .ok (.aload 4, 2) := by decide +kernel
theorem dX5_varnish_31 : decode cX5_varnish 31 = .ok (.iload_n 2, 1) := by decide +kernel
theorem dX5_varnish_32 : decode cX5_varnish 32 = .ok (.iload_n 3, 1) := by decide +kernel
theorem dX5_varnish_33 : decode cX5_varnish 33 = .ok (.invokevirtual 161, 3) := by decide +kernel
theorem dX5_varnish_36 : decode cX5_varnish 36 = .ok (.ifCond .eq 17, 3) := by decide +kernel
theorem dX5_varnish_39 : decode cX5_varnish 39 = .ok (.aload 4, 2) := by decide +kernel
theorem dX5_varnish_41 : decode cX5_varnish 41 = .ok (.getfield 164, 3) := by decide +kernel
theorem dX5_varnish_44 : decode cX5_varnish 44 = .ok (.iload_n 2, 1) := by decide +kernel
theorem dX5_varnish_45 : decode cX5_varnish 45 = .ok (.iload_n 3, 1) := by decide +kernel
theorem dX5_varnish_46 : decode cX5_varnish 46 = .ok (.invokestatic 77, 3) := by decide +kernel
theorem dX5_varnish_49 : decode cX5_varnish 49 = .ok (.iaload, 1) := by decide +kernel
theorem dX5_varnish_50 : decode cX5_varnish 50 = .ok (.goto 5, 3) := by decide +kernel
theorem dX5_varnish_53 : decode cX5_varnish 53 = .ok (.bipush (-6), 2) := by decide +kernel
theorem dX5_varnish_55 : decode cX5_varnish 55 = .ok (.ireturn, 1) := by decide +kernel
theorem dX5_count_0 : decode cX5_count 0 = .ok (.iload_n 1, 1) := by decide +kernel
theorem dX5_count_1 : decode cX5_count 1 = .ok (.tableswitch 161 0 11 #[63, 71, 79, 87, 95, 103, 113, 121, 129, 137, 145, 153], 63) := by decide +kernel
theorem dX5_count_64 : decode cX5_count 64 = .ok (.aload_n 0, 1) := by decide +kernel
theorem dX5_count_65 : decode cX5_count 65 = .ok (.getfield 12, 3) := by decide +kernel
theorem dX5_count_68 : decode cX5_count 68 = .ok (.getfield 49, 3) := by decide +kernel
theorem dX5_count_71 : decode cX5_count 71 = .ok (.ireturn, 1) := by decide +kernel
theorem dX5_count_72 : decode cX5_count 72 = .ok (.aload_n 0, 1) := by decide +kernel
theorem dX5_count_73 : decode cX5_count 73 = .ok (.getfield 12, 3) := by decide +kernel
theorem dX5_count_76 : decode cX5_count 76 = .ok (.getfield 107, 3) := by decide +kernel
theorem dX5_count_79 : decode cX5_count 79 = .ok (.ireturn, 1) := by decide +kernel
theorem dX5_count_80 : decode cX5_count 80 = .ok (.aload_n 0, 1) := by decide +kernel
theorem dX5_count_81 : decode cX5_count 81 = .ok (.getfield 12, 3) := by decide +kernel
theorem dX5_count_84 : decode cX5_count 84 = .ok (.invokevirtual 167, 3) := by decide +kernel
theorem dX5_count_87 : decode cX5_count 87 = .ok (.ireturn, 1) := by decide +kernel
theorem dX5_count_88 : decode cX5_count 88 = .ok (.aload_n 0, 1) := by decide +kernel
theorem dX5_count_89 : decode cX5_count 89 = .ok (.getfield 12, 3) := by decide +kernel
theorem dX5_count_92 : decode cX5_count 92 = .ok (.invokevirtual 170, 3) := by decide +kernel
theorem dX5_count_95 : decode cX5_count 95 = .ok (.ireturn, 1) := by decide +kernel
theorem dX5_count_96 : decode cX5_count 96 = .ok (.aload_n 0, 1) := by decide +kernel
theorem dX5_count_97 : decode cX5_count 97 = .ok (.getfield 12, 3) := by decide +kernel
theorem dX5_count_100 : decode cX5_count 100 = .ok (.invokevirtual 173, 3) := by decide +kernel
theorem dX5_count_103 : decode cX5_count 103 = .ok (.ireturn, 1) := by decide +kernel
theorem dX5_count_104 : decode cX5_count 104 = .ok (.aload_n 0, 1) := by decide +kernel
theorem dX5_count_105 : decode cX5_count 105 = .ok (.getfield 12, 3) := by decide +kernel
theorem dX5_count_108 : decode cX5_count 108 = .ok (.bipush (-6), 2) := by decide +kernel
theorem dX5_count_110 : decode cX5_count 110 = .ok (.invokevirtual 176, 3) := by decide +kernel
theorem dX5_count_113 : decode cX5_count 113 = .ok (.ireturn, 1) := by decide +kernel
theorem dX5_count_114 : decode cX5_count 114 = .ok (.aload_n 0, 1) := by decide +kernel
theorem dX5_count_115 : decode cX5_count 115 = .ok (.getfield 12, 3) := by decide +kernel
theorem dX5_count_118 : decode cX5_count 118 = .ok (.invokevirtual 179, 3) := by decide +kernel
theorem dX5_count_121 : decode cX5_count 121 = .ok (.ireturn, 1) := by decide +kernel
theorem dX5_count_122 : decode cX5_count 122 = .ok (.aload_n 0, 1) := by decide +kernel
theorem dX5_count_123 : decode cX5_count 123 = .ok (.getfield 12, 3) := by decide +kernel
theorem dX5_count_126 : decode cX5_count 126 = .ok (.invokevirtual 182, 3) := by decide +kernel
theorem dX5_count_129 : decode cX5_count 129 = .ok (.ireturn, 1) := by decide +kernel
theorem dX5_count_130 : decode cX5_count 130 = .ok (.aload_n 0, 1) := by decide +kernel
theorem dX5_count_131 : decode cX5_count 131 = .ok (.getfield 12, 3) := by decide +kernel
theorem dX5_count_134 : decode cX5_count 134 = .ok (.getfield 185, 3) := by decide +kernel
theorem dX5_count_137 : decode cX5_count 137 = .ok (.ireturn, 1) := by decide +kernel
theorem dX5_count_138 : decode cX5_count 138 = .ok (.aload_n 0, 1) := by decide +kernel
theorem dX5_count_139 : decode cX5_count 139 = .ok (.getfield 12, 3) := by decide +kernel
theorem dX5_count_142 : decode cX5_count 142 = .ok (.getfield 186, 3) := by decide +kernel
theorem dX5_count_145 : decode cX5_count 145 = .ok (.ireturn, 1) := by decide +kernel
theorem dX5_count_146 : decode cX5_count 146 = .ok (.aload_n 0, 1) := by decide +kernel
theorem dX5_count_147 : decode cX5_count 147 = .ok (.getfield 37, 3) := by decide +kernel
theorem dX5_count_150 : decode cX5_count 150 = .ok (.getfield 104, 3) := by decide +kernel
theorem dX5_count_153 : decode cX5_count 153 = .ok (.ireturn, 1) := by decide +kernel
theorem dX5_count_154 : decode cX5_count 154 = .ok (.aload_n 0, 1) := by decide +kernel
theorem dX5_count_155 : decode cX5_count 155 = .ok (.getfield 22, 3) := by decide +kernel
theorem dX5_count_158 : decode cX5_count 158 = .ok (.getfield 187, 3) := by decide +kernel
theorem dX5_count_161 : decode cX5_count 161 = .ok (.ireturn, 1) := by decide +kernel
theorem dX5_count_162 : decode cX5_count 162 = .ok (.bipush (-2), 2) := by decide +kernel
theorem dX5_count_164 : decode cX5_count 164 = .ok (.ireturn, 1) := by decide +kernel
theorem dX5_sunOf_0 : decode cX5_sunOf 0 = .ok (.iload_n 1, 1) := by decide +kernel
theorem dX5_sunOf_1 : decode cX5_sunOf 1 = .ok (.invokestatic 86, 3) := by decide +kernel
theorem dX5_sunOf_4 : decode cX5_sunOf 4 = .ok (.ifCond .eq 15, 3) := by decide +kernel
theorem dX5_sunOf_7 : decode cX5_sunOf 7 = .ok (.aload_n 0, 1) := by decide +kernel
theorem dX5_sunOf_8 : decode cX5_sunOf 8 = .ok (.getfield 12, 3) := by decide +kernel
theorem dX5_sunOf_11 : decode cX5_sunOf 11 = .ok (.getfield 89, 3) := by decide +kernel
theorem dX5_sunOf_14 : decode cX5_sunOf 14 = .ok (.iload_n 1, 1) := by decide +kernel
theorem dX5_sunOf_15 : decode cX5_sunOf 15 = .ok (.iaload, 1) := by decide +kernel
theorem dX5_sunOf_16 : decode cX5_sunOf 16 = .ok (.goto 4, 3) := by decide +kernel
theorem dX5_sunOf_19 : decode cX5_sunOf 19 = .ok (.iconst (-1), 1) := by decide +kernel
theorem dX5_sunOf_20 : decode cX5_sunOf 20 = .ok (.ireturn, 1) := by decide +kernel
theorem dX5_ifPassed_0 : decode cX5_ifPassed 0 = .ok (.iload_n 1, 1) := by decide +kernel
theorem dX5_ifPassed_1 : decode cX5_ifPassed 1 = .ok (.iconst 1, 1) := by decide +kernel
theorem dX5_ifPassed_2 : decode cX5_ifPassed 2 = .ok (.bipush 100, 2) := by decide +kernel
theorem dX5_ifPassed_4 : decode cX5_ifPassed 4 = .ok (.invokestatic 45, 3) := by decide +kernel
theorem dX5_ifPassed_7 : decode cX5_ifPassed 7 = .ok (.ifCond .eq 12, 3) := by decide +kernel
theorem dX5_ifPassed_10 : decode cX5_ifPassed 10 = .ok (.iload_n 2, 1) := by decide +kernel
theorem dX5_ifPassed_11 : decode cX5_ifPassed 11 = .ok (.iconst 0, 1) := by decide +kernel
theorem dX5_ifPassed_12 : decode cX5_ifPassed 12 = .ok (.iconst 2, 1) := by decide +kernel
theorem dX5_ifPassed_13 : decode cX5_ifPassed 13 = .ok (.invokestatic 45, 3) := by decide +kernel
theorem dX5_ifPassed_16 : decode cX5_ifPassed 16 = .ok (.ifCond .ne 6, 3) := by decide +kernel
theorem dX5_ifPassed_19 : decode cX5_ifPassed 19 = .ok (.bipush (-2), 2) := by decide +kernel
theorem dX5_ifPassed_21 : decode cX5_ifPassed 21 = .ok (.ireturn, 1) := by decide +kernel
theorem dX5_ifPassed_22 : decode cX5_ifPassed 22 = .ok (.aload_n 0, 1) := by decide +kernel
theorem dX5_ifPassed_23 : decode cX5_ifPassed 23 = .ok (.getfield 16, 3) := by decide +kernel
theorem dX5_ifPassed_26 : decode cX5_ifPassed 26 = .ok (.aload_n 0, 1) := by decide +kernel
theorem dX5_ifPassed_27 : decode cX5_ifPassed 27 = .ok (.getfield 12, 3) := by decide +kernel
theorem dX5_ifPassed_30 : decode cX5_ifPassed 30 = .ok (.invokevirtual 190, 3) := by decide +kernel
theorem dX5_ifPassed_33 : decode cX5_ifPassed 33 = .ok (.aload_n 0, 1) := by decide +kernel
theorem dX5_ifPassed_34 : decode cX5_ifPassed 34 = .ok (.getfield 16, 3) := by decide +kernel
theorem dX5_ifPassed_37 : decode cX5_ifPassed 37 = .ok (.iload_n 1, 1) := by decide +kernel
theorem dX5_ifPassed_38 : decode cX5_ifPassed 38 = .ok (.invokevirtual 110, 3) := by decide +kernel
theorem dX5_ifPassed_41 : decode cX5_ifPassed 41 = .ok (.istore_n 3, 1) := by decide +kernel
theorem dX5_ifPassed_42 : decode cX5_ifPassed 42 = .ok (.iload_n 2, 1) := by decide +kernel
theorem dX5_ifPassed_43 : decode cX5_ifPassed 43 = .ok (.lookupswitch 39 #[(0, 25), (1, 27)], 25) := by decide +kernel
theorem dX5_ifPassed_68 : decode cX5_ifPassed 68 = .ok (.iload_n 3, 1) := by decide +kernel
theorem dX5_ifPassed_69 : decode cX5_ifPassed 69 = .ok (.ireturn, 1) := by decide +kernel
theorem dX5_ifPassed_70 : decode cX5_ifPassed 70 = .ok (.aload_n 0, 1) := by decide +kernel
theorem dX5_ifPassed_71 : decode cX5_ifPassed 71 = .ok (.getfield 16, 3) := by decide +kernel
theorem dX5_ifPassed_74 : decode cX5_ifPassed 74 = .ok (.aload_n 0, 1) := by decide +kernel
theorem dX5_ifPassed_75 : decode cX5_ifPassed 75 = .ok (.getfield 12, 3) := by decide +kernel
theorem dX5_ifPassed_78 : decode cX5_ifPassed 78 = .ok (.invokevirtual 193, 3) := by decide +kernel
theorem dX5_ifPassed_81 : decode cX5_ifPassed 81 = .ok (.ireturn, 1) := by decide +kernel
theorem dX5_ifPassed_82 : decode cX5_ifPassed 82 = .ok (.aload_n 0, 1) := by decide +kernel
theorem dX5_ifPassed_83 : decode cX5_ifPassed 83 = .ok (.getfield 16, 3) := by decide +kernel
theorem dX5_ifPassed_86 : decode cX5_ifPassed 86 = .ok (.bipush (-6), 2) := by decide +kernel
theorem dX5_ifPassed_88 : decode cX5_ifPassed 88 = .ok (.invokevirtual 176, 3) := by decide +kernel
theorem dX5_ifPassed_91 : decode cX5_ifPassed 91 = .ok (.ireturn, 1) := by decide +kernel
theorem dX5_willShow_0 : decode cX5_willShow 0 = .ok (.iload_n 1, 1) := by decide +kernel
theorem dX5_willShow_1 : decode cX5_willShow 1 = .ok (.iload_n 2, 1) := by decide +kernel
theorem dX5_willShow_2 : decode cX5_willShow 2 = .ok (.invokestatic 41, 3) := by decide +kernel
theorem dX5_willShow_5 : decode cX5_willShow 5 = .ok (.ifCond .ne 5, 3) := by decide +kernel
theorem dX5_willShow_8 : decode cX5_willShow 8 = .ok (.iconst (-1), 1) := by decide +kernel
theorem dX5_willShow_9 : decode cX5_willShow 9 = .ok (.ireturn, 1) := by decide +kernel
theorem dX5_willShow_10 : decode cX5_willShow 10 = .ok (.iload_n 3, 1) := by decide +kernel
theorem dX5_willShow_11 : decode cX5_willShow 11 = .ok (.iconst 1, 1) := by decide +kernel
theorem dX5_willShow_12 : decode cX5_willShow 12 = .ok (.sipush 200, 3) := by decide +kernel
theorem dX5_willShow_15 : decode cX5_willShow 15 = .ok (.invokestatic 45, 3) := by decide +kernel
theorem dX5_willShow_18 : decode cX5_willShow 18 = .ok (.ifCond .ne 6, 3) := by decide +kernel
theorem dX5_willShow_21 : decode cX5_willShow 21 = .ok (.bipush (-2), 2) := by decide +kernel
theorem dX5_willShow_23 : decode cX5_willShow 23 = .ok (.ireturn, 1) := by decide +kernel
theorem dX5_willShow_24 : decode cX5_willShow 24 = .ok (.iload_n 1, 1) := by decide +kernel
theorem dX5_willShow_25 : decode cX5_willShow 25 = .ok (.iload_n 2, 1) := by decide +kernel
theorem dX5_willShow_26 : decode cX5_willShow 26 = .ok (.invokestatic 77, 3) := by decide +kernel
theorem dX5_willShow_29 : decode cX5_willShow 29 = .ok (.istore 4, 2) := by decide +kernel
theorem dX5_willShow_31 : decode cX5_willShow 31 = .ok (.aload_n 0, 1) := by decide +kernel
theorem dX5_willShow_32 : decode cX5_willShow 32 = .ok (.getfield 16, 3) := by decide +kernel
theorem dX5_willShow_35 : decode cX5_willShow 35 = .ok (.aload_n 0, 1) := by decide +kernel
theorem dX5_willShow_36 : decode cX5_willShow 36 = .ok (.getfield 12, 3) := by decide +kernel
theorem dX5_willShow_39 : decode cX5_willShow 39 = .ok (.invokevirtual 190, 3) := by decide +kernel
theorem dX5_willShow_42 : decode cX5_willShow 42 = .ok (.aload_n 0, 1) := by decide +kernel
theorem dX5_willShow_43 : decode cX5_willShow 43 = .ok (.getfield 16, 3) := by decide +kernel
theorem dX5_willShow_46 : decode cX5_willShow 46 = .ok (.iload 4, 2) := by decide +kernel
theorem dX5_willShow_48 : decode cX5_willShow 48 = .ok (.iload_n 3, 1) := by decide +kernel
theorem dX5_willShow_49 : decode cX5_willShow 49 = .ok (.invokevirtual 196, 3) := by decide +kernel
theorem dX5_willShow_52 : decode cX5_willShow 52 = .ok (.pop, 1) := by decide +kernel
theorem dX5_willShow_53 : decode cX5_willShow 53 = .ok (.aload_n 0, 1) := by decide +kernel
theorem dX5_willShow_54 : decode cX5_willShow 54 = .ok (.getfield 16, 3) := by decide +kernel
theorem dX5_willShow_57 : decode cX5_willShow 57 = .ok (.iload 4, 2) := by decide +kernel
theorem dX5_willShow_59 : decode cX5_willShow 59 = .ok (.invokevirtual 80, 3) := by decide +kernel
theorem dX5_willShow_62 : decode cX5_willShow 62 = .ok (.ireturn, 1) := by decide +kernel
theorem dX5_nextChange_0 : decode cX5_nextChange 0 = .ok (.ldc 199, 2) := by decide +kernel
theorem dX5_nextChange_2 : decode cX5_nextChange 2 = .ok (.istore_n 1, 1) := by decide +kernel
theorem dX5_nextChange_3 : decode cX5_nextChange 3 = .ok (.iconst 0, 1) := by decide +kernel
theorem dX5_nextChange_4 : decode cX5_nextChange 4 = .ok (.istore_n 2, 1) := by decide +kernel
theorem dX5_nextChange_5 : decode cX5_nextChange 5 = .ok (.iload_n 2, 1) := by decide +kernel
theorem dX5_nextChange_6 : decode cX5_nextChange 6 = .ok (.bipush 60, 2) := by decide +kernel
theorem dX5_nextChange_8 : decode cX5_nextChange 8 = .ok (.if_icmp .ge 22, 3) := by decide +kernel
theorem dX5_nextChange_11 : decode cX5_nextChange 11 = .ok (.iload_n 1, 1) := by decide +kernel
theorem dX5_nextChange_12 : decode cX5_nextChange 12 = .ok (.aload_n 0, 1) := by decide +kernel
theorem dX5_nextChange_13 : decode cX5_nextChange 13 = .ok (.getfield 12, 3) := by decide +kernel
theorem dX5_nextChange_16 : decode cX5_nextChange 16 = .ok (.iload_n 2, 1) := by decide +kernel
theorem dX5_nextChange_17 : decode cX5_nextChange 17 = .ok (.invokevirtual 200, 3) := by decide +kernel
theorem dX5_nextChange_20 : decode cX5_nextChange 20 = .ok (.invokestatic 203, 3) := by decide +kernel
theorem dX5_nextChange_23 : decode cX5_nextChange 23 = .ok (.istore_n 1, 1) := by decide +kernel
theorem dX5_nextChange_24 : decode cX5_nextChange 24 = .ok (.iinc 2 1, 3) := by decide +kernel
theorem dX5_nextChange_27 : decode cX5_nextChange 27 = .ok (.goto (-22), 3) := by decide +kernel
theorem dX5_nextChange_30 : decode cX5_nextChange 30 = .ok (.iload_n 1, 1) := by decide +kernel
theorem dX5_nextChange_31 : decode cX5_nextChange 31 = .ok (.sipush 300, 3) := by decide +kernel
theorem dX5_nextChange_34 : decode cX5_nextChange 34 = .ok (.if_icmp .gt 7, 3) := by decide +kernel
theorem dX5_nextChange_37 : decode cX5_nextChange 37 = .ok (.iload_n 1, 1) := by decide +kernel
theorem dX5_nextChange_38 : decode cX5_nextChange 38 = .ok (.goto 5, 3) := by decide +kernel
theorem dX5_nextChange_41 : decode cX5_nextChange 41 = .ok (.bipush (-6), 2) := by decide +kernel
theorem dX5_nextChange_43 : decode cX5_nextChange 43 = .ok (.ireturn, 1) := by decide +kernel
theorem dX5_comesToLight_0 : decode cX5_comesToLight 0 = .ok (.aload_n 0, 1) := by decide +kernel
theorem dX5_comesToLight_1 : decode cX5_comesToLight 1 = .ok (.iload_n 1, 1) := by decide +kernel
theorem dX5_comesToLight_2 : decode cX5_comesToLight 2 = .ok (.invokevirtual 61, 3) := by decide +kernel
theorem dX5_comesToLight_5 : decode cX5_comesToLight 5 = .ok (.ifCond .ne 5, 3) := by decide +kernel
theorem dX5_comesToLight_8 : decode cX5_comesToLight 8 = .ok (.iconst (-1), 1) := by decide +kernel
theorem dX5_comesToLight_9 : decode cX5_comesToLight 9 = .ok (.ireturn, 1) := by decide +kernel
theorem dX5_comesToLight_10 : decode cX5_comesToLight 10 = .ok (.ldc 199, 2) := by decide +kernel
theorem dX5_comesToLight_12 : decode cX5_comesToLight 12 = .ok (.istore_n 2, 1) := by decide +kernel
theorem dX5_comesToLight_13 : decode cX5_comesToLight 13 = .ok (.iconst 0, 1) := by decide +kernel
theorem dX5_comesToLight_14 : decode cX5_comesToLight 14 = .ok (.istore_n 3, 1) := by decide +kernel
theorem dX5_comesToLight_15 : decode cX5_comesToLight 15 = .ok (.iload_n 3, 1) := by decide +kernel
theorem dX5_comesToLight_16 : decode cX5_comesToLight 16 = .ok (.bipush 60, 2) := by decide +kernel
theorem dX5_comesToLight_18 : decode cX5_comesToLight 18 = .ok (.if_icmp .ge 23, 3) := by decide +kernel
theorem dX5_comesToLight_21 : decode cX5_comesToLight 21 = .ok (.iload_n 2, 1) := by decide +kernel
theorem dX5_comesToLight_22 : decode cX5_comesToLight 22 = .ok (.aload_n 0, 1) := by decide +kernel
theorem dX5_comesToLight_23 : decode cX5_comesToLight 23 = .ok (.getfield 12, 3) := by decide +kernel
theorem dX5_comesToLight_26 : decode cX5_comesToLight 26 = .ok (.iload_n 1, 1) := by decide +kernel
theorem dX5_comesToLight_27 : decode cX5_comesToLight 27 = .ok (.iload_n 3, 1) := by decide +kernel
theorem dX5_comesToLight_28 : decode cX5_comesToLight 28 = .ok (.invokevirtual 208, 3) := by decide +kernel
theorem dX5_comesToLight_31 : decode cX5_comesToLight 31 = .ok (.invokestatic 203, 3) := by decide +kernel
theorem dX5_comesToLight_34 : decode cX5_comesToLight 34 = .ok (.istore_n 2, 1) := by decide +kernel
theorem dX5_comesToLight_35 : decode cX5_comesToLight 35 = .ok (.iinc 3 1, 3) := by decide +kernel
theorem dX5_comesToLight_38 : decode cX5_comesToLight 38 = .ok (.goto (-23), 3) := by decide +kernel
theorem dX5_comesToLight_41 : decode cX5_comesToLight 41 = .ok (.iload_n 2, 1) := by decide +kernel
theorem dX5_comesToLight_42 : decode cX5_comesToLight 42 = .ok (.sipush 300, 3) := by decide +kernel
theorem dX5_comesToLight_45 : decode cX5_comesToLight 45 = .ok (.if_icmp .gt 7, 3) := by decide +kernel
theorem dX5_comesToLight_48 : decode cX5_comesToLight 48 = .ok (.iload_n 2, 1) := by decide +kernel
theorem dX5_comesToLight_49 : decode cX5_comesToLight 49 = .ok (.goto 5, 3) := by decide +kernel
theorem dX5_comesToLight_52 : decode cX5_comesToLight 52 = .ok (.bipush (-6), 2) := by decide +kernel
theorem dX5_comesToLight_54 : decode cX5_comesToLight 54 = .ok (.ireturn, 1) := by decide +kernel
theorem dX5_bestTorn_0 : decode cX5_bestTorn 0 = .ok (.iload_n 1, 1) := by decide +kernel
theorem dX5_bestTorn_1 : decode cX5_bestTorn 1 = .ok (.iconst 0, 1) := by decide +kernel
theorem dX5_bestTorn_2 : decode cX5_bestTorn 2 = .ok (.iconst 1, 1) := by decide +kernel
theorem dX5_bestTorn_3 : decode cX5_bestTorn 3 = .ok (.invokestatic 45, 3) := by decide +kernel
theorem dX5_bestTorn_6 : decode cX5_bestTorn 6 = .ok (.ifCond .ne 6, 3) := by decide +kernel
theorem dX5_bestTorn_9 : decode cX5_bestTorn 9 = .ok (.bipush (-2), 2) := by decide +kernel
theorem dX5_bestTorn_11 : decode cX5_bestTorn 11 = .ok (.ireturn, 1) := by decide +kernel
theorem dX5_bestTorn_12 : decode cX5_bestTorn 12 = .ok (.bipush (-6), 2) := by decide +kernel
theorem dX5_bestTorn_14 : decode cX5_bestTorn 14 = .ok (.istore_n 2, 1) := by decide +kernel
theorem dX5_bestTorn_15 : decode cX5_bestTorn 15 = .ok (.bipush (-6), 2) := by decide +kernel
theorem dX5_bestTorn_17 : decode cX5_bestTorn 17 = .ok (.istore_n 3, 1) := by decide +kernel
theorem dX5_bestTorn_18 : decode cX5_bestTorn 18 = .ok (.iconst 0, 1) := by decide +kernel
theorem dX5_bestTorn_19 : decode cX5_bestTorn 19 = .ok (.istore 4, 2) := by decide +kernel
theorem dX5_bestTorn_21 : decode cX5_bestTorn 21 = .ok (.iload 4, 2) := by decide +kernel
theorem dX5_bestTorn_23 : decode cX5_bestTorn 23 = .ok (.aload_n 0, 1) := by decide +kernel
theorem dX5_bestTorn_24 : decode cX5_bestTorn 24 = .ok (.getfield 12, 3) := by decide +kernel
theorem dX5_bestTorn_27 : decode cX5_bestTorn 27 = .ok (.getfield 49, 3) := by decide +kernel
theorem dX5_bestTorn_30 : decode cX5_bestTorn 30 = .ok (.if_icmp .ge 32, 3) := by decide +kernel
theorem dX5_bestTorn_33 : decode cX5_bestTorn 33 = .ok (.aload_n 0, 1) := by decide +kernel
theorem dX5_bestTorn_34 : decode cX5_bestTorn 34 = .ok (.getfield 12, 3) := by decide +kernel
theorem dX5_bestTorn_37 : decode cX5_bestTorn 37 = .ok (.iload 4, 2) := by decide +kernel
theorem dX5_bestTorn_39 : decode cX5_bestTorn 39 = .ok (.invokevirtual 176, 3) := by decide +kernel
theorem dX5_bestTorn_42 : decode cX5_bestTorn 42 = .ok (.istore 5, 2) := by decide +kernel
theorem dX5_bestTorn_44 : decode cX5_bestTorn 44 = .ok (.iload 5, 2) := by decide +kernel
theorem dX5_bestTorn_46 : decode cX5_bestTorn 46 = .ok (.iload_n 3, 1) := by decide +kernel
theorem dX5_bestTorn_47 : decode cX5_bestTorn 47 = .ok (.if_icmp .le 9, 3) := by decide +kernel
theorem dX5_bestTorn_50 : decode cX5_bestTorn 50 = .ok (.iload 4, 2) := by decide +kernel
theorem dX5_bestTorn_52 : decode cX5_bestTorn 52 = .ok (.istore_n 2, 1) := by decide +kernel
theorem dX5_bestTorn_53 : decode cX5_bestTorn 53 = .ok (.iload 5, 2) := by decide +kernel
theorem dX5_bestTorn_55 : decode cX5_bestTorn 55 = .ok (.istore_n 3, 1) := by decide +kernel
theorem dX5_bestTorn_56 : decode cX5_bestTorn 56 = .ok (.iinc 4 1, 3) := by decide +kernel
theorem dX5_bestTorn_59 : decode cX5_bestTorn 59 = .ok (.goto (-38), 3) := by decide +kernel
theorem dX5_bestTorn_62 : decode cX5_bestTorn 62 = .ok (.iload_n 1, 1) := by decide +kernel
theorem dX5_bestTorn_63 : decode cX5_bestTorn 63 = .ok (.ifCond .ne 7, 3) := by decide +kernel
theorem dX5_bestTorn_66 : decode cX5_bestTorn 66 = .ok (.iload_n 2, 1) := by decide +kernel
theorem dX5_bestTorn_67 : decode cX5_bestTorn 67 = .ok (.goto 4, 3) := by decide +kernel
theorem dX5_bestTorn_70 : decode cX5_bestTorn 70 = .ok (.iload_n 3, 1) := by decide +kernel
theorem dX5_bestTorn_71 : decode cX5_bestTorn 71 = .ok (.ireturn, 1) := by decide +kernel
theorem dX5_put_0 : decode cX5_put 0 = .ok (.lload_n 1, 1) := by decide +kernel
theorem dX5_put_1 : decode cX5_put 1 = .ok (.invokestatic 211, 3) := by decide +kernel
theorem dX5_put_4 : decode cX5_put 4 = .ok (.istore_n 3, 1) := by decide +kernel
theorem dX5_put_5 : decode cX5_put 5 = .ok (.iload_n 3, 1) := by decide +kernel
theorem dX5_put_6 : decode cX5_put 6 = .ok (.ifCond .ne 6, 3) := by decide +kernel
theorem dX5_put_9 : decode cX5_put 9 = .ok (.bipush (-2), 2) := by decide +kernel
theorem dX5_put_11 : decode cX5_put 11 = .ok (.ireturn, 1) := by decide +kernel
theorem dX5_put_12 : decode cX5_put 12 = .ok (.iload_n 3, 1) := by decide +kernel
theorem dX5_put_13 : decode cX5_put 13 = .ok (.bipush 60, 2) := by decide +kernel
theorem dX5_put_15 : decode cX5_put 15 = .ok (.aload_n 0, 1) := by decide +kernel
theorem dX5_put_16 : decode cX5_put 16 = .ok (.getfield 37, 3) := by decide +kernel
theorem dX5_put_19 : decode cX5_put 19 = .ok (.getfield 104, 3) := by decide +kernel
theorem dX5_put_22 : decode cX5_put 22 = .ok (.isub, 1) := by decide +kernel
theorem dX5_put_23 : decode cX5_put 23 = .ok (.if_icmp .le 6, 3) := by decide +kernel
theorem dX5_put_26 : decode cX5_put 26 = .ok (.bipush (-4), 2) := by decide +kernel
theorem dX5_put_28 : decode cX5_put 28 = .ok (.ireturn, 1) := by decide +kernel
theorem dX5_put_29 : decode cX5_put 29 = .ok (.aload_n 0, 1) := by decide +kernel
theorem dX5_put_30 : decode cX5_put 30 = .ok (.getfield 37, 3) := by decide +kernel
theorem dX5_put_33 : decode cX5_put 33 = .ok (.lload_n 1, 1) := by decide +kernel
theorem dX5_put_34 : decode cX5_put 34 = .ok (.iload_n 3, 1) := by decide +kernel
theorem dX5_put_35 : decode cX5_put 35 = .ok (.invokevirtual 215, 3) := by decide +kernel
theorem dX5_put_38 : decode cX5_put 38 = .ok (.aload_n 0, 1) := by decide +kernel
theorem dX5_put_39 : decode cX5_put 39 = .ok (.getfield 37, 3) := by decide +kernel
theorem dX5_put_42 : decode cX5_put 42 = .ok (.getfield 104, 3) := by decide +kernel
theorem dX5_put_45 : decode cX5_put 45 = .ok (.ireturn, 1) := by decide +kernel
theorem dX5_wipe_0 : decode cX5_wipe 0 = .ok (.aload_n 0, 1) := by decide +kernel
theorem dX5_wipe_1 : decode cX5_wipe 1 = .ok (.getfield 37, 3) := by decide +kernel
theorem dX5_wipe_4 : decode cX5_wipe 4 = .ok (.getfield 104, 3) := by decide +kernel
theorem dX5_wipe_7 : decode cX5_wipe 7 = .ok (.istore_n 1, 1) := by decide +kernel
theorem dX5_wipe_8 : decode cX5_wipe 8 = .ok (.aload_n 0, 1) := by decide +kernel
theorem dX5_wipe_9 : decode cX5_wipe 9 = .ok (.getfield 37, 3) := by decide +kernel
theorem dX5_wipe_12 : decode cX5_wipe 12 = .ok (.iconst 0, 1) := by decide +kernel
theorem dX5_wipe_13 : decode cX5_wipe 13 = .ok (.putfield 104, 3) := by decide +kernel
theorem dX5_wipe_16 : decode cX5_wipe 16 = .ok (.iload_n 1, 1) := by decide +kernel
theorem dX5_wipe_17 : decode cX5_wipe 17 = .ok (.ireturn, 1) := by decide +kernel
theorem dX5_fault_0 : decode cX5_fault 0 = .ok (.aload_n 0, 1) := by decide +kernel
theorem dX5_fault_1 : decode cX5_fault 1 = .ok (.getfield 37, 3) := by decide +kernel
theorem dX5_fault_4 : decode cX5_fault 4 = .ok (.invokevirtual 96, 3) := by decide +kernel
theorem dX5_fault_7 : decode cX5_fault 7 = .ok (.ireturn, 1) := by decide +kernel
theorem dX5_undo_0 : decode cX5_undo 0 = .ok (.aload_n 0, 1) := by decide +kernel
theorem dX5_undo_1 : decode cX5_undo 1 = .ok (.getfield 22, 3) := by decide +kernel
theorem dX5_undo_4 : decode cX5_undo 4 = .ok (.getfield 187, 3) := by decide +kernel
theorem dX5_undo_7 : decode cX5_undo 7 = .ok (.ifCond .ne 6, 3) := by decide +kernel
theorem dX5_undo_10 : decode cX5_undo 10 = .ok (.bipush (-5), 2) := by decide +kernel
theorem dX5_undo_12 : decode cX5_undo 12 = .ok (.ireturn, 1) := by decide +kernel
theorem dX5_undo_13 : decode cX5_undo 13 = .ok (.aload_n 0, 1) := by decide +kernel
theorem dX5_undo_14 : decode cX5_undo 14 = .ok (.getfield 22, 3) := by decide +kernel
theorem dX5_undo_17 : decode cX5_undo 17 = .ok (.aload_n 0, 1) := by decide +kernel
theorem dX5_undo_18 : decode cX5_undo 18 = .ok (.getfield 12, 3) := by decide +kernel
theorem dX5_undo_21 : decode cX5_undo 21 = .ok (.invokevirtual 219, 3) := by decide +kernel
theorem dX5_undo_24 : decode cX5_undo 24 = .ok (.aload_n 0, 1) := by decide +kernel
theorem dX5_undo_25 : decode cX5_undo 25 = .ok (.getfield 22, 3) := by decide +kernel
theorem dX5_undo_28 : decode cX5_undo 28 = .ok (.getfield 187, 3) := by decide +kernel
theorem dX5_undo_31 : decode cX5_undo 31 = .ok (.ireturn, 1) := by decide +kernel
theorem dX5_save_0 : decode cX5_save 0 = .ok (.iload_n 1, 1) := by decide +kernel
theorem dX5_save_1 : decode cX5_save 1 = .ok (.iconst 0, 1) := by decide +kernel
theorem dX5_save_2 : decode cX5_save 2 = .ok (.iconst 1, 1) := by decide +kernel
theorem dX5_save_3 : decode cX5_save 3 = .ok (.invokestatic 45, 3) := by decide +kernel
theorem dX5_save_6 : decode cX5_save 6 = .ok (.ifCond .ne 6, 3) := by decide +kernel
theorem dX5_save_9 : decode cX5_save 9 = .ok (.bipush (-2), 2) := by decide +kernel
theorem dX5_save_11 : decode cX5_save 11 = .ok (.ireturn, 1) := by decide +kernel
theorem dX5_save_12 : decode cX5_save 12 = .ok (.aload_n 0, 1) := by decide +kernel
theorem dX5_save_13 : decode cX5_save 13 = .ok (.getfield 26, 3) := by decide +kernel
theorem dX5_save_16 : decode cX5_save 16 = .ok (.iload_n 1, 1) := by decide +kernel
theorem dX5_save_17 : decode cX5_save 17 = .ok (.aaload, 1) := by decide +kernel
theorem dX5_save_18 : decode cX5_save 18 = .ok (.aload_n 0, 1) := by decide +kernel
theorem dX5_save_19 : decode cX5_save 19 = .ok (.getfield 12, 3) := by decide +kernel
theorem dX5_save_22 : decode cX5_save 22 = .ok (.invokevirtual 190, 3) := by decide +kernel
theorem dX5_save_25 : decode cX5_save 25 = .ok (.aload_n 0, 1) := by decide +kernel
theorem dX5_save_26 : decode cX5_save 26 = .ok (.getfield 30, 3) := by decide +kernel
theorem dX5_save_29 : decode cX5_save 29 = .ok (.iload_n 1, 1) := by decide +kernel
theorem dX5_save_30 : decode cX5_save 30 = .ok (.iconst 1, 1) := by decide +kernel
theorem dX5_save_31 : decode cX5_save 31 = .ok (.bastore, 1) := by decide +kernel
theorem dX5_save_32 : decode cX5_save 32 = .ok (.aload_n 0, 1) := by decide +kernel
theorem dX5_save_33 : decode cX5_save 33 = .ok (.getfield 12, 3) := by decide +kernel
theorem dX5_save_36 : decode cX5_save 36 = .ok (.getfield 49, 3) := by decide +kernel
theorem dX5_save_39 : decode cX5_save 39 = .ok (.ireturn, 1) := by decide +kernel
theorem dX5_restore_0 : decode cX5_restore 0 = .ok (.iload_n 1, 1) := by decide +kernel
theorem dX5_restore_1 : decode cX5_restore 1 = .ok (.iconst 0, 1) := by decide +kernel
theorem dX5_restore_2 : decode cX5_restore 2 = .ok (.iconst 1, 1) := by decide +kernel
theorem dX5_restore_3 : decode cX5_restore 3 = .ok (.invokestatic 45, 3) := by decide +kernel
theorem dX5_restore_6 : decode cX5_restore 6 = .ok (.ifCond .ne 6, 3) := by decide +kernel
theorem dX5_restore_9 : decode cX5_restore 9 = .ok (.bipush (-2), 2) := by decide +kernel
theorem dX5_restore_11 : decode cX5_restore 11 = .ok (.ireturn, 1) := by decide +kernel
theorem dX5_restore_12 : decode cX5_restore 12 = .ok (.aload_n 0, 1) := by decide +kernel
theorem dX5_restore_13 : decode cX5_restore 13 = .ok (.getfield 30, 3) := by decide +kernel
theorem dX5_restore_16 : decode cX5_restore 16 = .ok (.iload_n 1, 1) := by decide +kernel
theorem dX5_restore_17 : decode cX5_restore 17 = .ok (.baload, 1) := by decide +kernel
theorem dX5_restore_18 : decode cX5_restore 18 = .ok (.ifCond .ne 6, 3) := by decide +kernel
theorem dX5_restore_21 : decode cX5_restore 21 = .ok (.bipush (-5), 2) := by decide +kernel
theorem dX5_restore_23 : decode cX5_restore 23 = .ok (.ireturn, 1) := by decide +kernel
theorem dX5_restore_24 : decode cX5_restore 24 = .ok (.aload_n 0, 1) := by decide +kernel
theorem dX5_restore_25 : decode cX5_restore 25 = .ok (.getfield 22, 3) := by decide +kernel
theorem dX5_restore_28 : decode cX5_restore 28 = .ok (.aload_n 0, 1) := by decide +kernel
theorem dX5_restore_29 : decode cX5_restore 29 = .ok (.getfield 12, 3) := by decide +kernel
theorem dX5_restore_32 : decode cX5_restore 32 = .ok (.invokevirtual 53, 3) := by decide +kernel
theorem dX5_restore_35 : decode cX5_restore 35 = .ok (.aload_n 0, 1) := by decide +kernel
theorem dX5_restore_36 : decode cX5_restore 36 = .ok (.getfield 12, 3) := by decide +kernel
theorem dX5_restore_39 : decode cX5_restore 39 = .ok (.aload_n 0, 1) := by decide +kernel
theorem dX5_restore_40 : decode cX5_restore 40 = .ok (.getfield 26, 3) := by decide +kernel
theorem dX5_restore_43 : decode cX5_restore 43 = .ok (.iload_n 1, 1) := by decide +kernel
theorem dX5_restore_44 : decode cX5_restore 44 = .ok (.aaload, 1) := by decide +kernel
theorem dX5_restore_45 : decode cX5_restore 45 = .ok (.invokevirtual 190, 3) := by decide +kernel
theorem dX5_restore_48 : decode cX5_restore 48 = .ok (.aload_n 0, 1) := by decide +kernel
theorem dX5_restore_49 : decode cX5_restore 49 = .ok (.getfield 12, 3) := by decide +kernel
theorem dX5_restore_52 : decode cX5_restore 52 = .ok (.getfield 49, 3) := by decide +kernel
theorem dX5_restore_55 : decode cX5_restore 55 = .ok (.ireturn, 1) := by decide +kernel
theorem dX5_isPoster_0 : decode cX5_isPoster 0 = .ok (.iload_n 1, 1) := by decide +kernel
theorem dX5_isPoster_1 : decode cX5_isPoster 1 = .ok (.iconst 0, 1) := by decide +kernel
theorem dX5_isPoster_2 : decode cX5_isPoster 2 = .ok (.aload_n 0, 1) := by decide +kernel
theorem dX5_isPoster_3 : decode cX5_isPoster 3 = .ok (.getfield 12, 3) := by decide +kernel
theorem dX5_isPoster_6 : decode cX5_isPoster 6 = .ok (.getfield 49, 3) := by decide +kernel
theorem dX5_isPoster_9 : decode cX5_isPoster 9 = .ok (.iconst 1, 1) := by decide +kernel
theorem dX5_isPoster_10 : decode cX5_isPoster 10 = .ok (.isub, 1) := by decide +kernel
theorem dX5_isPoster_11 : decode cX5_isPoster 11 = .ok (.invokestatic 45, 3) := by decide +kernel
theorem dX5_isPoster_14 : decode cX5_isPoster 14 = .ok (.ireturn, 1) := by decide +kernel
theorem dX5_isColumn_0 : decode cX5_isColumn 0 = .ok (.iload_n 0, 1) := by decide +kernel
theorem dX5_isColumn_1 : decode cX5_isColumn 1 = .ok (.iconst 0, 1) := by decide +kernel
theorem dX5_isColumn_2 : decode cX5_isColumn 2 = .ok (.bipush 9, 2) := by decide +kernel
theorem dX5_isColumn_4 : decode cX5_isColumn 4 = .ok (.invokestatic 45, 3) := by decide +kernel
theorem dX5_isColumn_7 : decode cX5_isColumn 7 = .ok (.ireturn, 1) := by decide +kernel
theorem dX5_isCell_0 : decode cX5_isCell 0 = .ok (.iload_n 0, 1) := by decide +kernel
theorem dX5_isCell_1 : decode cX5_isCell 1 = .ok (.invokestatic 86, 3) := by decide +kernel
theorem dX5_isCell_4 : decode cX5_isCell 4 = .ok (.ifCond .eq 16, 3) := by decide +kernel
theorem dX5_isCell_7 : decode cX5_isCell 7 = .ok (.iload_n 1, 1) := by decide +kernel
theorem dX5_isCell_8 : decode cX5_isCell 8 = .ok (.iconst 0, 1) := by decide +kernel
theorem dX5_isCell_9 : decode cX5_isCell 9 = .ok (.iconst 5, 1) := by decide +kernel
theorem dX5_isCell_10 : decode cX5_isCell 10 = .ok (.invokestatic 45, 3) := by decide +kernel
theorem dX5_isCell_13 : decode cX5_isCell 13 = .ok (.ifCond .eq 7, 3) := by decide +kernel
theorem dX5_isCell_16 : decode cX5_isCell 16 = .ok (.iconst 1, 1) := by decide +kernel
theorem dX5_isCell_17 : decode cX5_isCell 17 = .ok (.goto 4, 3) := by decide +kernel
theorem dX5_isCell_20 : decode cX5_isCell 20 = .ok (.iconst 0, 1) := by decide +kernel
theorem dX5_isCell_21 : decode cX5_isCell 21 = .ok (.ireturn, 1) := by decide +kernel
theorem dX5_isWithin_0 : decode cX5_isWithin 0 = .ok (.iload_n 0, 1) := by decide +kernel
theorem dX5_isWithin_1 : decode cX5_isWithin 1 = .ok (.iload_n 1, 1) := by decide +kernel
theorem dX5_isWithin_2 : decode cX5_isWithin 2 = .ok (.if_icmp .lt 12, 3) := by decide +kernel
theorem dX5_isWithin_5 : decode cX5_isWithin 5 = .ok (.iload_n 0, 1) := by decide +kernel
theorem dX5_isWithin_6 : decode cX5_isWithin 6 = .ok (.iload_n 2, 1) := by decide +kernel
theorem dX5_isWithin_7 : decode cX5_isWithin 7 = .ok (.if_icmp .gt 7, 3) := by decide +kernel
theorem dX5_isWithin_10 : decode cX5_isWithin 10 = .ok (.iconst 1, 1) := by decide +kernel
theorem dX5_isWithin_11 : decode cX5_isWithin 11 = .ok (.goto 4, 3) := by decide +kernel
theorem dX5_isWithin_14 : decode cX5_isWithin 14 = .ok (.iconst 0, 1) := by decide +kernel
theorem dX5_isWithin_15 : decode cX5_isWithin 15 = .ok (.ireturn, 1) := by decide +kernel
theorem dX5_cellAt_0 : decode cX5_cellAt 0 = .ok (.iload_n 1, 1) := by decide +kernel
theorem dX5_cellAt_1 : decode cX5_cellAt 1 = .ok (.bipush 10, 2) := by decide +kernel
theorem dX5_cellAt_3 : decode cX5_cellAt 3 = .ok (.imul, 1) := by decide +kernel
theorem dX5_cellAt_4 : decode cX5_cellAt 4 = .ok (.iload_n 0, 1) := by decide +kernel
theorem dX5_cellAt_5 : decode cX5_cellAt 5 = .ok (.iadd, 1) := by decide +kernel
theorem dX5_cellAt_6 : decode cX5_cellAt 6 = .ok (.ireturn, 1) := by decide +kernel
theorem dX6_init_0 : decode cX6_init 0 = .ok (.aload_n 0, 1) := by decide +kernel
theorem dX6_init_1 : decode cX6_init 1 = .ok (.invokespecial 1, 3) := by decide +kernel
theorem dX6_init_4 : decode cX6_init 4 = .ok (.aload_n 0, 1) := by decide +kernel
theorem dX6_init_5 : decode cX6_init 5 = .ok (.sipush 818, 3) := by decide +kernel
theorem dX6_init_8 : decode cX6_init 8 = .ok (.newarray .int, 2) := by decide +kernel
theorem dX6_init_10 : decode cX6_init 10 = .ok (.putfield 7, 3) := by decide +kernel
theorem dX6_init_13 : decode cX6_init 13 = .ok (.aload_n 0, 1) := by decide +kernel
theorem dX6_init_14 : decode cX6_init 14 = .ok (.sipush 818, 3) := by decide +kernel
theorem dX6_init_17 : decode cX6_init 17 = .ok (.newarray .int, 2) := by decide +kernel
theorem dX6_init_19 : decode cX6_init 19 = .ok (.putfield 13, 3) := by decide +kernel
theorem dX6_init_22 : decode cX6_init 22 = .ok (.aload_n 0, 1) := by decide +kernel
theorem dX6_init_23 : decode cX6_init 23 = .ok (.sipush 4908, 3) := by decide +kernel
theorem dX6_init_26 : decode cX6_init 26 = .ok (.newarray .int, 2) := by decide +kernel
theorem dX6_init_28 : decode cX6_init 28 = .ok (.putfield 16, 3) := by decide +kernel
theorem dX6_init_31 : decode cX6_init 31 = .ok (.aload_n 0, 1) := by decide +kernel
theorem dX6_init_32 : decode cX6_init 32 = .ok (.sipush 1636, 3) := by decide +kernel
theorem dX6_init_35 : decode cX6_init 35 = .ok (.newarray .int, 2) := by decide +kernel
theorem dX6_init_37 : decode cX6_init 37 = .ok (.putfield 19, 3) := by decide +kernel
theorem dX6_init_40 : decode cX6_init 40 = .ok (.aload_n 0, 1) := by decide +kernel
theorem dX6_init_41 : decode cX6_init 41 = .ok (.iconst 2, 1) := by decide +kernel
theorem dX6_init_42 : decode cX6_init 42 = .ok (.newarray .boolean, 2) := by decide +kernel
theorem dX6_init_44 : decode cX6_init 44 = .ok (.putfield 22, 3) := by decide +kernel
theorem dX6_init_47 : decode cX6_init 47 = .ok (.aload_n 0, 1) := by decide +kernel
theorem dX6_init_48 : decode cX6_init 48 = .ok (.bipush 60, 2) := by decide +kernel
theorem dX6_init_50 : decode cX6_init 50 = .ok (.newarray .int, 2) := by decide +kernel
theorem dX6_init_52 : decode cX6_init 52 = .ok (.putfield 26, 3) := by decide +kernel
theorem dX6_init_55 : decode cX6_init 55 = .ok (.aload_n 0, 1) := by decide +kernel
theorem dX6_init_56 : decode cX6_init 56 = .ok (.bipush 60, 2) := by decide +kernel
theorem dX6_init_58 : decode cX6_init 58 = .ok (.newarray .int, 2) := by decide +kernel
theorem dX6_init_60 : decode cX6_init 60 = .ok (.putfield 29, 3) := by decide +kernel
theorem dX6_init_63 : decode cX6_init 63 = .ok (.aload_n 0, 1) := by decide +kernel
theorem dX6_init_64 : decode cX6_init 64 = .ok (.bipush 60, 2) := by decide +kernel
theorem dX6_init_66 : decode cX6_init 66 = .ok (.newarray .int, 2) := by decide +kernel
theorem dX6_init_68 : decode cX6_init 68 = .ok (.putfield 32, 3) := by decide +kernel
theorem dX6_init_71 : decode cX6_init 71 = .ok (.aload_n 0, 1) := by decide +kernel
theorem dX6_init_72 : decode cX6_init 72 = .ok (.bipush 64, 2) := by decide +kernel
theorem dX6_init_74 : decode cX6_init 74 = .ok (.newarray .int, 2) := by decide +kernel
theorem dX6_init_76 : decode cX6_init 76 = .ok (.putfield 35, 3) := by decide +kernel
theorem dX6_init_79 : decode cX6_init 79 = .ok (.aload_n 0, 1) := by decide +kernel
theorem dX6_init_80 : decode cX6_init 80 = .ok (.iconst 0, 1) := by decide +kernel
theorem dX6_init_81 : decode cX6_init 81 = .ok (.putfield 38, 3) := by decide +kernel
theorem dX6_init_84 : decode cX6_init 84 = .ok (.iconst 0, 1) := by decide +kernel
theorem dX6_init_85 : decode cX6_init 85 = .ok (.istore_n 1, 1) := by decide +kernel
theorem dX6_init_86 : decode cX6_init 86 = .ok (.iload_n 1, 1) := by decide +kernel
theorem dX6_init_87 : decode cX6_init 87 = .ok (.bipush 10, 2) := by decide +kernel
theorem dX6_init_89 : decode cX6_init 89 = .ok (.if_icmp .ge 18, 3) := by decide +kernel
theorem dX6_init_92 : decode cX6_init 92 = .ok (.aload_n 0, 1) := by decide +kernel
theorem dX6_init_93 : decode cX6_init 93 = .ok (.getfield 7, 3) := by decide +kernel
theorem dX6_init_96 : decode cX6_init 96 = .ok (.iconst 4, 1) := by decide +kernel
theorem dX6_init_97 : decode cX6_init 97 = .ok (.iload_n 1, 1) := by decide +kernel
theorem dX6_init_98 : decode cX6_init 98 = .ok (.iadd, 1) := by decide +kernel
theorem dX6_init_99 : decode cX6_init 99 = .ok (.iconst 1, 1) := by decide +kernel
theorem dX6_init_100 : decode cX6_init 100 = .ok (.iastore, 1) := by decide +kernel
theorem dX6_init_101 : decode cX6_init 101 = .ok (.iinc 1 1, 3) := by decide +kernel
theorem dX6_init_104 : decode cX6_init 104 = .ok (.goto (-18), 3) := by decide +kernel
theorem dX6_init_107 : decode cX6_init 107 = .ok (.return_, 1) := by decide +kernel
theorem dX6_in_0 : decode cX6_in 0 = .ok (.iload_n 0, 1) := by decide +kernel
theorem dX6_in_1 : decode cX6_in 1 = .ok (.iload_n 1, 1) := by decide +kernel
theorem dX6_in_2 : decode cX6_in 2 = .ok (.if_icmp .lt 12, 3) := by decide +kernel
theorem dX6_in_5 : decode cX6_in 5 = .ok (.iload_n 0, 1) := by decide +kernel
theorem dX6_in_6 : decode cX6_in 6 = .ok (.iload_n 2, 1) := by decide +kernel
theorem dX6_in_7 : decode cX6_in 7 = .ok (.if_icmp .gt 7, 3) := by decide +kernel
theorem dX6_in_10 : decode cX6_in 10 = .ok (.iconst 1, 1) := by decide +kernel
theorem dX6_in_11 : decode cX6_in 11 = .ok (.goto 4, 3) := by decide +kernel
theorem dX6_in_14 : decode cX6_in 14 = .ok (.iconst 0, 1) := by decide +kernel
theorem dX6_in_15 : decode cX6_in 15 = .ok (.ireturn, 1) := by decide +kernel
theorem dX6_of_0 : decode cX6_of 0 = .ok (.aload_n 0, 1) := by decide +kernel
theorem dX6_of_1 : decode cX6_of 1 = .ok (.getfield 7, 3) := by decide +kernel
theorem dX6_of_4 : decode cX6_of 4 = .ok (.bipush 14, 2) := by decide +kernel
theorem dX6_of_6 : decode cX6_of 6 = .ok (.bipush 7, 2) := by decide +kernel
theorem dX6_of_8 : decode cX6_of 8 = .ok (.iload_n 1, 1) := by decide +kernel
theorem dX6_of_9 : decode cX6_of 9 = .ok (.imul, 1) := by decide +kernel
theorem dX6_of_10 : decode cX6_of 10 = .ok (.iadd, 1) := by decide +kernel
theorem dX6_of_11 : decode cX6_of 11 = .ok (.iload_n 2, 1) := by decide +kernel
theorem dX6_of_12 : decode cX6_of 12 = .ok (.iadd, 1) := by decide +kernel
theorem dX6_of_13 : decode cX6_of 13 = .ok (.iaload, 1) := by decide +kernel
theorem dX6_of_14 : decode cX6_of 14 = .ok (.ireturn, 1) := by decide +kernel
theorem dX6_adds_0 : decode cX6_adds 0 = .ok (.aload_n 0, 1) := by decide +kernel
theorem dX6_adds_1 : decode cX6_adds 1 = .ok (.getfield 7, 3) := by decide +kernel
theorem dX6_adds_4 : decode cX6_adds 4 = .ok (.bipush 14, 2) := by decide +kernel
theorem dX6_adds_6 : decode cX6_adds 6 = .ok (.bipush 7, 2) := by decide +kernel
theorem dX6_adds_8 : decode cX6_adds 8 = .ok (.iload_n 1, 1) := by decide +kernel
theorem dX6_adds_9 : decode cX6_adds 9 = .ok (.imul, 1) := by decide +kernel
theorem dX6_adds_10 : decode cX6_adds 10 = .ok (.iadd, 1) := by decide +kernel
theorem dX6_adds_11 : decode cX6_adds 11 = .ok (.iload_n 2, 1) := by decide +kernel
theorem dX6_adds_12 : decode cX6_adds 12 = .ok (.iadd, 1) := by decide +kernel
theorem dX6_adds_13 : decode cX6_adds 13 = .ok (.dup2, 1) := by decide +kernel
theorem dX6_adds_14 : decode cX6_adds 14 = .ok (.iaload, 1) := by decide +kernel
theorem dX6_adds_15 : decode cX6_adds 15 = .ok (.iload_n 3, 1) := by decide +kernel
theorem dX6_adds_16 : decode cX6_adds 16 = .ok (.iadd, 1) := by decide +kernel
theorem dX6_adds_17 : decode cX6_adds 17 = .ok (.iastore, 1) := by decide +kernel
theorem dX6_adds_18 : decode cX6_adds 18 = .ok (.return_, 1) := by decide +kernel
theorem dX6_isPoster_0 : decode cX6_isPoster 0 = .ok (.iload_n 1, 1) := by decide +kernel
theorem dX6_isPoster_1 : decode cX6_isPoster 1 = .ok (.iconst 0, 1) := by decide +kernel
theorem dX6_isPoster_2 : decode cX6_isPoster 2 = .ok (.aload_n 0, 1) := by decide +kernel
theorem dX6_isPoster_3 : decode cX6_isPoster 3 = .ok (.getfield 7, 3) := by decide +kernel
theorem dX6_isPoster_6 : decode cX6_isPoster 6 = .ok (.iconst 0, 1) := by decide +kernel
theorem dX6_isPoster_7 : decode cX6_isPoster 7 = .ok (.iaload, 1) := by decide +kernel
theorem dX6_isPoster_8 : decode cX6_isPoster 8 = .ok (.iconst 1, 1) := by decide +kernel
theorem dX6_isPoster_9 : decode cX6_isPoster 9 = .ok (.isub, 1) := by decide +kernel
theorem dX6_isPoster_10 : decode cX6_isPoster 10 = .ok (.invokestatic 42, 3) := by decide +kernel
theorem dX6_isPoster_13 : decode cX6_isPoster 13 = .ok (.ireturn, 1) := by decide +kernel
theorem dX6_isCell_0 : decode cX6_isCell 0 = .ok (.iload_n 0, 1) := by decide +kernel
theorem dX6_isCell_1 : decode cX6_isCell 1 = .ok (.iconst 0, 1) := by decide +kernel
theorem dX6_isCell_2 : decode cX6_isCell 2 = .ok (.bipush 9, 2) := by decide +kernel
theorem dX6_isCell_4 : decode cX6_isCell 4 = .ok (.invokestatic 42, 3) := by decide +kernel
theorem dX6_isCell_7 : decode cX6_isCell 7 = .ok (.ifCond .eq 16, 3) := by decide +kernel
theorem dX6_isCell_10 : decode cX6_isCell 10 = .ok (.iload_n 1, 1) := by decide +kernel
theorem dX6_isCell_11 : decode cX6_isCell 11 = .ok (.iconst 0, 1) := by decide +kernel
theorem dX6_isCell_12 : decode cX6_isCell 12 = .ok (.iconst 5, 1) := by decide +kernel
theorem dX6_isCell_13 : decode cX6_isCell 13 = .ok (.invokestatic 42, 3) := by decide +kernel
theorem dX6_isCell_16 : decode cX6_isCell 16 = .ok (.ifCond .eq 7, 3) := by decide +kernel
theorem dX6_isCell_19 : decode cX6_isCell 19 = .ok (.iconst 1, 1) := by decide +kernel
theorem dX6_isCell_20 : decode cX6_isCell 20 = .ok (.goto 4, 3) := by decide +kernel
theorem dX6_isCell_23 : decode cX6_isCell 23 = .ok (.iconst 0, 1) := by decide +kernel
theorem dX6_isCell_24 : decode cX6_isCell 24 = .ok (.ireturn, 1) := by decide +kernel
theorem dX6_has_0 : decode cX6_has 0 = .ok (.aload_n 0, 1) := by decide +kernel
theorem dX6_has_1 : decode cX6_has 1 = .ok (.getfield 7, 3) := by decide +kernel
theorem dX6_has_4 : decode cX6_has 4 = .ok (.bipush 98, 2) := by decide +kernel
theorem dX6_has_6 : decode cX6_has 6 = .ok (.bipush 60, 2) := by decide +kernel
theorem dX6_has_8 : decode cX6_has 8 = .ok (.iload_n 1, 1) := by decide +kernel
theorem dX6_has_9 : decode cX6_has 9 = .ok (.imul, 1) := by decide +kernel
theorem dX6_has_10 : decode cX6_has 10 = .ok (.iadd, 1) := by decide +kernel
theorem dX6_has_11 : decode cX6_has 11 = .ok (.iload_n 2, 1) := by decide +kernel
theorem dX6_has_12 : decode cX6_has 12 = .ok (.iadd, 1) := by decide +kernel
theorem dX6_has_13 : decode cX6_has 13 = .ok (.iaload, 1) := by decide +kernel
theorem dX6_has_14 : decode cX6_has 14 = .ok (.ireturn, 1) := by decide +kernel
theorem dX6_lays_0 : decode cX6_lays 0 = .ok (.aload_n 0, 1) := by decide +kernel
theorem dX6_lays_1 : decode cX6_lays 1 = .ok (.getfield 7, 3) := by decide +kernel
theorem dX6_lays_4 : decode cX6_lays 4 = .ok (.bipush 98, 2) := by decide +kernel
theorem dX6_lays_6 : decode cX6_lays 6 = .ok (.bipush 60, 2) := by decide +kernel
theorem dX6_lays_8 : decode cX6_lays 8 = .ok (.iload_n 1, 1) := by decide +kernel
theorem dX6_lays_9 : decode cX6_lays 9 = .ok (.imul, 1) := by decide +kernel
theorem dX6_lays_10 : decode cX6_lays 10 = .ok (.iadd, 1) := by decide +kernel
theorem dX6_lays_11 : decode cX6_lays 11 = .ok (.iload_n 2, 1) := by decide +kernel
theorem dX6_lays_12 : decode cX6_lays 12 = .ok (.iadd, 1) := by decide +kernel
theorem dX6_lays_13 : decode cX6_lays 13 = .ok (.iload_n 3, 1) := by decide +kernel
theorem dX6_lays_14 : decode cX6_lays 14 = .ok (.iastore, 1) := by decide +kernel
theorem dX6_lays_15 : decode cX6_lays 15 = .ok (.return_, 1) := by decide +kernel
theorem dX6_lies_0 : decode cX6_lies 0 = .ok (.iload_n 2, 1) := by decide +kernel
theorem dX6_lies_1 : decode cX6_lies 1 = .ok (.bipush 10, 2) := by decide +kernel
theorem dX6_lies_3 : decode cX6_lies 3 = .ok (.irem, 1) := by decide +kernel
theorem dX6_lies_4 : decode cX6_lies 4 = .ok (.aload_n 0, 1) := by decide +kernel
theorem dX6_lies_5 : decode cX6_lies 5 = .ok (.iload_n 1, 1) := by decide +kernel
theorem dX6_lies_6 : decode cX6_lies 6 = .ok (.iconst 0, 1) := by decide +kernel
theorem dX6_lies_7 : decode cX6_lies 7 = .ok (.invokevirtual 46, 3) := by decide +kernel
theorem dX6_lies_10 : decode cX6_lies 10 = .ok (.isub, 1) := by decide +kernel
theorem dX6_lies_11 : decode cX6_lies 11 = .ok (.istore_n 3, 1) := by decide +kernel
theorem dX6_lies_12 : decode cX6_lies 12 = .ok (.iload_n 2, 1) := by decide +kernel
theorem dX6_lies_13 : decode cX6_lies 13 = .ok (.bipush 10, 2) := by decide +kernel
theorem dX6_lies_15 : decode cX6_lies 15 = .ok (.idiv, 1) := by decide +kernel
theorem dX6_lies_16 : decode cX6_lies 16 = .ok (.aload_n 0, 1) := by decide +kernel
theorem dX6_lies_17 : decode cX6_lies 17 = .ok (.iload_n 1, 1) := by decide +kernel
theorem dX6_lies_18 : decode cX6_lies 18 = .ok (.iconst 1, 1) := by decide +kernel
theorem dX6_lies_19 : decode cX6_lies 19 = .ok (.invokevirtual 46, 3) := by decide +kernel
theorem dX6_lies_22 : decode cX6_lies 22 = .ok (.isub, 1) := by decide +kernel
theorem dX6_lies_23 : decode cX6_lies 23 = .ok (.istore 4, 2) := by decide +kernel
theorem dX6_lies_25 : decode cX6_lies 25 = .ok (.iload_n 3, 1) := by decide +kernel
theorem dX6_lies_26 : decode cX6_lies 26 = .ok (.iconst 0, 1) := by decide +kernel
theorem dX6_lies_27 : decode cX6_lies 27 = .ok (.aload_n 0, 1) := by decide +kernel
theorem dX6_lies_28 : decode cX6_lies 28 = .ok (.iload_n 1, 1) := by decide +kernel
theorem dX6_lies_29 : decode cX6_lies 29 = .ok (.iconst 2, 1) := by decide +kernel
theorem dX6_lies_30 : decode cX6_lies 30 = .ok (.invokevirtual 46, 3) := by decide +kernel
theorem dX6_lies_33 : decode cX6_lies 33 = .ok (.iconst 1, 1) := by decide +kernel
theorem dX6_lies_34 : decode cX6_lies 34 = .ok (.isub, 1) := by decide +kernel
theorem dX6_lies_35 : decode cX6_lies 35 = .ok (.invokestatic 42, 3) := by decide +kernel
theorem dX6_lies_38 : decode cX6_lies 38 = .ok (.ifCond .eq 24, 3) := by decide +kernel
theorem dX6_lies_41 : decode cX6_lies 41 = .ok (.iload 4, 2) := by decide +kernel
theorem dX6_lies_43 : decode cX6_lies 43 = .ok (.iconst 0, 1) := by decide +kernel
theorem dX6_lies_44 : decode cX6_lies 44 = .ok (.aload_n 0, 1) := by decide +kernel
theorem dX6_lies_45 : decode cX6_lies 45 = .ok (.iload_n 1, 1) := by decide +kernel
theorem dX6_lies_46 : decode cX6_lies 46 = .ok (.iconst 3, 1) := by decide +kernel
theorem dX6_lies_47 : decode cX6_lies 47 = .ok (.invokevirtual 46, 3) := by decide +kernel
theorem dX6_lies_50 : decode cX6_lies 50 = .ok (.iconst 1, 1) := by decide +kernel
theorem dX6_lies_51 : decode cX6_lies 51 = .ok (.isub, 1) := by decide +kernel
theorem dX6_lies_52 : decode cX6_lies 52 = .ok (.invokestatic 42, 3) := by decide +kernel
theorem dX6_lies_55 : decode cX6_lies 55 = .ok (.ifCond .eq 7, 3) := by decide +kernel
theorem dX6_lies_58 : decode cX6_lies 58 = .ok (.iconst 1, 1) := by decide +kernel
theorem dX6_lies_59 : decode cX6_lies 59 = .ok (.goto 4, 3) := by decide +kernel
theorem dX6_lies_62 : decode cX6_lies 62 = .ok (.iconst 0, 1) := by decide +kernel
theorem dX6_lies_63 : decode cX6_lies 63 = .ok (.ireturn, 1) := by decide +kernel
theorem dX6_records_0 : decode cX6_records 0 = .ok (.aload_n 0, 1) := by decide +kernel
theorem dX6_records_1 : decode cX6_records 1 = .ok (.getfield 50, 3) := by decide +kernel
theorem dX6_records_4 : decode cX6_records 4 = .ok (.bipush 6, 2) := by decide +kernel
theorem dX6_records_6 : decode cX6_records 6 = .ok (.if_icmp .ne 44, 3) := by decide +kernel
theorem dX6_records_9 : decode cX6_records 9 = .ok (.iconst 0, 1) := by decide +kernel
theorem dX6_records_10 : decode cX6_records 10 = .ok (.istore_n 1, 1) := by decide +kernel
theorem dX6_records_11 : decode cX6_records 11 = .ok (.iload_n 1, 1) := by decide +kernel
theorem dX6_records_12 : decode cX6_records 12 = .ok (.sipush 4090, 3) := by decide +kernel
theorem dX6_records_15 : decode cX6_records 15 = .ok (.if_icmp .ge 25, 3) := by decide +kernel
theorem dX6_records_18 : decode cX6_records 18 = .ok (.aload_n 0, 1) := by decide +kernel
theorem dX6_records_19 : decode cX6_records 19 = .ok (.getfield 16, 3) := by decide +kernel
theorem dX6_records_22 : decode cX6_records 22 = .ok (.iload_n 1, 1) := by decide +kernel
theorem dX6_records_23 : decode cX6_records 23 = .ok (.aload_n 0, 1) := by decide +kernel
theorem dX6_records_24 : decode cX6_records 24 = .ok (.getfield 16, 3) := by decide +kernel
theorem dX6_records_27 : decode cX6_records 27 = .ok (.iload_n 1, 1) := by decide +kernel
theorem dX6_records_28 : decode cX6_records 28 = .ok (.sipush 818, 3) := by decide +kernel
theorem dX6_records_31 : decode cX6_records 31 = .ok (.iadd, 1) := by decide +kernel
theorem dX6_records_32 : decode cX6_records 32 = .ok (.iaload, 1) := by decide +kernel
theorem dX6_records_33 : decode cX6_records 33 = .ok (.iastore, 1) := by decide +kernel
theorem dX6_records_34 : decode cX6_records 34 = .ok (.iinc 1 1, 3) := by decide +kernel
theorem dX6_records_37 : decode cX6_records 37 = .ok (.goto (-26), 3) := by decide +kernel
theorem dX6_records_40 : decode cX6_records 40 = .ok (.aload_n 0, 1) := by decide +kernel
theorem dX6_records_41 : decode cX6_records 41 = .ok (.dup, 1) := by decide +kernel
theorem dX6_records_42 : decode cX6_records 42 = .ok (.getfield 50, 3) := by decide +kernel
theorem dX6_records_45 : decode cX6_records 45 = .ok (.iconst 1, 1) := by decide +kernel
theorem dX6_records_46 : decode cX6_records 46 = .ok (.isub, 1) := by decide +kernel
theorem dX6_records_47 : decode cX6_records 47 = .ok (.putfield 50, 3) := by decide +kernel
theorem dX6_records_50 : decode cX6_records 50 = .ok (.iconst 0, 1) := by decide +kernel
theorem dX6_records_51 : decode cX6_records 51 = .ok (.istore_n 1, 1) := by decide +kernel
theorem dX6_records_52 : decode cX6_records 52 = .ok (.iload_n 1, 1) := by decide +kernel
theorem dX6_records_53 : decode cX6_records 53 = .ok (.sipush 818, 3) := by decide +kernel
theorem dX6_records_56 : decode cX6_records 56 = .ok (.if_icmp .ge 30, 3) := by decide +kernel
theorem dX6_records_59 : decode cX6_records 59 = .ok (.aload_n 0, 1) := by decide +kernel
theorem dX6_records_60 : decode cX6_records 60 = .ok (.getfield 16, 3) := by decide +kernel
theorem dX6_records_63 : decode cX6_records 63 = .ok (.sipush 818, 3) := by decide +kernel
theorem dX6_records_66 : decode cX6_records 66 = .ok (.aload_n 0, 1) := by decide +kernel
theorem dX6_records_67 : decode cX6_records 67 = .ok (.getfield 50, 3) := by decide +kernel
theorem dX6_records_70 : decode cX6_records 70 = .ok (.imul, 1) := by decide +kernel
theorem dX6_records_71 : decode cX6_records 71 = .ok (.iload_n 1, 1) := by decide +kernel
theorem dX6_records_72 : decode cX6_records 72 = .ok (.iadd, 1) := by decide +kernel
theorem dX6_records_73 : decode cX6_records 73 = .ok (.aload_n 0, 1) := by decide +kernel
theorem dX6_records_74 : decode cX6_records 74 = .ok (.getfield 7, 3) := by decide +kernel
theorem dX6_records_77 : decode cX6_records 77 = .ok (.iload_n 1, 1) := by decide +kernel
theorem dX6_records_78 : decode cX6_records 78 = .ok (.iaload, 1) := by decide +kernel
theorem dX6_records_79 : decode cX6_records 79 = .ok (.iastore, 1) := by decide +kernel
theorem dX6_records_80 : decode cX6_records 80 = .ok (.iinc 1 1, 3) := by decide +kernel
theorem dX6_records_83 : decode cX6_records 83 = .ok (.goto (-31), 3) := by decide +kernel
theorem dX6_records_86 : decode cX6_records 86 = .ok (.aload_n 0, 1) := by decide +kernel
theorem dX6_records_87 : decode cX6_records 87 = .ok (.dup, 1) := by decide +kernel
theorem dX6_records_88 : decode cX6_records 88 = .ok (.getfield 50, 3) := by decide +kernel
theorem dX6_records_91 : decode cX6_records 91 = .ok (.iconst 1, 1) := by decide +kernel
theorem dX6_records_92 : decode cX6_records 92 = .ok (.iadd, 1) := by decide +kernel
theorem dX6_records_93 : decode cX6_records 93 = .ok (.putfield 50, 3) := by decide +kernel
theorem dX6_records_96 : decode cX6_records 96 = .ok (.return_, 1) := by decide +kernel
theorem dX6_putAside_0 : decode cX6_putAside 0 = .ok (.iconst 0, 1) := by decide +kernel
theorem dX6_putAside_1 : decode cX6_putAside 1 = .ok (.istore_n 1, 1) := by decide +kernel
theorem dX6_putAside_2 : decode cX6_putAside 2 = .ok (.iload_n 1, 1) := by decide +kernel
theorem dX6_putAside_3 : decode cX6_putAside 3 = .ok (.sipush 818, 3) := by decide +kernel
theorem dX6_putAside_6 : decode cX6_putAside 6 = .ok (.if_icmp .ge 21, 3) := by decide +kernel
theorem dX6_putAside_9 : decode cX6_putAside 9 = .ok (.aload_n 0, 1) := by decide +kernel
theorem dX6_putAside_10 : decode cX6_putAside 10 = .ok (.getfield 13, 3) := by decide +kernel
theorem dX6_putAside_13 : decode cX6_putAside 13 = .ok (.iload_n 1, 1) := by decide +kernel
theorem dX6_putAside_14 : decode cX6_putAside 14 = .ok (.aload_n 0, 1) := by decide +kernel
theorem dX6_putAside_15 : decode cX6_putAside 15 = .ok (.getfield 7, 3) := by decide +kernel
theorem dX6_putAside_18 : decode cX6_putAside 18 = .ok (.iload_n 1, 1) := by decide +kernel
theorem dX6_putAside_19 : decode cX6_putAside 19 = .ok (.iaload, 1) := by decide +kernel
theorem dX6_putAside_20 : decode cX6_putAside 20 = .ok (.iastore, 1) := by decide +kernel
theorem dX6_putAside_21 : decode cX6_putAside 21 = .ok (.iinc 1 1, 3) := by decide +kernel
theorem dX6_putAside_24 : decode cX6_putAside 24 = .ok (.goto (-22), 3) := by decide +kernel
theorem dX6_putAside_27 : decode cX6_putAside 27 = .ok (.return_, 1) := by decide +kernel
theorem dX6_takeBack_0 : decode cX6_takeBack 0 = .ok (.iconst 0, 1) := by decide +kernel
theorem dX6_takeBack_1 : decode cX6_takeBack 1 = .ok (.istore_n 1, 1) := by decide +kernel
theorem dX6_takeBack_2 : decode cX6_takeBack 2 = .ok (.iload_n 1, 1) := by decide +kernel
theorem dX6_takeBack_3 : decode cX6_takeBack 3 = .ok (.sipush 818, 3) := by decide +kernel
theorem dX6_takeBack_6 : decode cX6_takeBack 6 = .ok (.if_icmp .ge 21, 3) := by decide +kernel
theorem dX6_takeBack_9 : decode cX6_takeBack 9 = .ok (.aload_n 0, 1) := by decide +kernel
theorem dX6_takeBack_10 : decode cX6_takeBack 10 = .ok (.getfield 7, 3) := by decide +kernel
theorem dX6_takeBack_13 : decode cX6_takeBack 13 = .ok (.iload_n 1, 1) := by decide +kernel
theorem dX6_takeBack_14 : decode cX6_takeBack 14 = .ok (.aload_n 0, 1) := by decide +kernel
theorem dX6_takeBack_15 : decode cX6_takeBack 15 = .ok (.getfield 13, 3) := by decide +kernel
theorem dX6_takeBack_18 : decode cX6_takeBack 18 = .ok (.iload_n 1, 1) := by decide +kernel
theorem dX6_takeBack_19 : decode cX6_takeBack 19 = .ok (.iaload, 1) := by decide +kernel
theorem dX6_takeBack_20 : decode cX6_takeBack 20 = .ok (.iastore, 1) := by decide +kernel
theorem dX6_takeBack_21 : decode cX6_takeBack 21 = .ok (.iinc 1 1, 3) := by decide +kernel
theorem dX6_takeBack_24 : decode cX6_takeBack 24 = .ok (.goto (-22), 3) := by decide +kernel
theorem dX6_takeBack_27 : decode cX6_takeBack 27 = .ok (.return_, 1) := by decide +kernel
theorem dX6_seenAt_0 : decode cX6_seenAt 0 = .ok (.aload_n 0, 1) := by decide +kernel
theorem dX6_seenAt_1 : decode cX6_seenAt 1 = .ok (.getfield 7, 3) := by decide +kernel
theorem dX6_seenAt_4 : decode cX6_seenAt 4 = .ok (.iconst 0, 1) := by decide +kernel
theorem dX6_seenAt_5 : decode cX6_seenAt 5 = .ok (.iaload, 1) := by decide +kernel
theorem dX6_seenAt_6 : decode cX6_seenAt 6 = .ok (.iconst 1, 1) := by decide +kernel
theorem dX6_seenAt_7 : decode cX6_seenAt 7 = .ok (.isub, 1) := by decide +kernel
theorem dX6_seenAt_8 : decode cX6_seenAt 8 = .ok (.istore_n 3, 1) := by decide +kernel
theorem dX6_seenAt_9 : decode cX6_seenAt 9 = .ok (.iload_n 3, 1) := by decide +kernel
theorem dX6_seenAt_10 : decode cX6_seenAt 10 = .ok (.ifCond .lt 34, 3) := by decide +kernel
theorem dX6_seenAt_13 : decode cX6_seenAt 13 = .ok (.iload_n 3, 1) := by decide +kernel
theorem dX6_seenAt_14 : decode cX6_seenAt 14 = .ok (.iload_n 2, 1) := by decide +kernel
theorem dX6_seenAt_15 : decode cX6_seenAt 15 = .ok (.if_icmp .eq 23, 3) := by decide +kernel
theorem dX6_seenAt_18 : decode cX6_seenAt 18 = .ok (.aload_n 0, 1) := by decide +kernel
theorem dX6_seenAt_19 : decode cX6_seenAt 19 = .ok (.iload_n 3, 1) := by decide +kernel
theorem dX6_seenAt_20 : decode cX6_seenAt 20 = .ok (.iload_n 1, 1) := by decide +kernel
theorem dX6_seenAt_21 : decode cX6_seenAt 21 = .ok (.invokevirtual 53, 3) := by decide +kernel
theorem dX6_seenAt_24 : decode cX6_seenAt 24 = .ok (.ifCond .eq 14, 3) := by decide +kernel
theorem dX6_seenAt_27 : decode cX6_seenAt 27 = .ok (.aload_n 0, 1) := by decide +kernel
theorem dX6_seenAt_28 : decode cX6_seenAt 28 = .ok (.iload_n 3, 1) := by decide +kernel
theorem dX6_seenAt_29 : decode cX6_seenAt 29 = .ok (.iload_n 1, 1) := by decide +kernel
theorem dX6_seenAt_30 : decode cX6_seenAt 30 = .ok (.invokevirtual 57, 3) := by decide +kernel
theorem dX6_seenAt_33 : decode cX6_seenAt 33 = .ok (.ifCond .le 5, 3) := by decide +kernel
theorem dX6_seenAt_36 : decode cX6_seenAt 36 = .ok (.iload_n 3, 1) := by decide +kernel
theorem dX6_seenAt_37 : decode cX6_seenAt 37 = .ok (.ireturn, 1) := by decide +kernel
theorem dX6_seenAt_38 : decode cX6_seenAt 38 = .ok (.iinc 3 (-1), 3) := by decide +kernel
theorem dX6_seenAt_41 : decode cX6_seenAt 41 = .ok (.goto (-32), 3) := by decide +kernel
theorem dX6_seenAt_44 : decode cX6_seenAt 44 = .ok (.bipush (-6), 2) := by decide +kernel
theorem dX6_seenAt_46 : decode cX6_seenAt 46 = .ok (.ireturn, 1) := by decide +kernel
theorem dX6_priceAt_0 : decode cX6_priceAt 0 = .ok (.aload_n 0, 1) := by decide +kernel
theorem dX6_priceAt_1 : decode cX6_priceAt 1 = .ok (.iload_n 1, 1) := by decide +kernel
theorem dX6_priceAt_2 : decode cX6_priceAt 2 = .ok (.bipush (-6), 2) := by decide +kernel
theorem dX6_priceAt_4 : decode cX6_priceAt 4 = .ok (.invokevirtual 60, 3) := by decide +kernel
theorem dX6_priceAt_7 : decode cX6_priceAt 7 = .ok (.istore_n 2, 1) := by decide +kernel
theorem dX6_priceAt_8 : decode cX6_priceAt 8 = .ok (.iload_n 2, 1) := by decide +kernel
theorem dX6_priceAt_9 : decode cX6_priceAt 9 = .ok (.bipush (-6), 2) := by decide +kernel
theorem dX6_priceAt_11 : decode cX6_priceAt 11 = .ok (.if_icmp .ne 8, 3) := by decide +kernel
theorem dX6_priceAt_14 : decode cX6_priceAt 14 = .ok (.bipush (-6), 2) := by decide +kernel
theorem dX6_priceAt_16 : decode cX6_priceAt 16 = .ok (.goto 9, 3) := by decide +kernel
theorem dX6_priceAt_19 : decode cX6_priceAt 19 = .ok (.aload_n 0, 1) := by decide +kernel
theorem dX6_priceAt_20 : decode cX6_priceAt 20 = .ok (.iload_n 2, 1) := by decide +kernel
theorem dX6_priceAt_21 : decode cX6_priceAt 21 = .ok (.iconst 4, 1) := by decide +kernel
theorem dX6_priceAt_22 : decode cX6_priceAt 22 = .ok (.invokevirtual 46, 3) := by decide +kernel
theorem dX6_priceAt_25 : decode cX6_priceAt 25 = .ok (.ireturn, 1) := by decide +kernel
theorem dX6_loses_0 : decode cX6_loses 0 = .ok (.aload_n 0, 1) := by decide +kernel
theorem dX6_loses_1 : decode cX6_loses 1 = .ok (.iload_n 1, 1) := by decide +kernel
theorem dX6_loses_2 : decode cX6_loses 2 = .ok (.iload_n 2, 1) := by decide +kernel
theorem dX6_loses_3 : decode cX6_loses 3 = .ok (.invokevirtual 57, 3) := by decide +kernel
theorem dX6_loses_6 : decode cX6_loses 6 = .ok (.iload_n 3, 1) := by decide +kernel
theorem dX6_loses_7 : decode cX6_loses 7 = .ok (.isub, 1) := by decide +kernel
theorem dX6_loses_8 : decode cX6_loses 8 = .ok (.istore 4, 2) := by decide +kernel
theorem dX6_loses_10 : decode cX6_loses 10 = .ok (.aload_n 0, 1) := by decide +kernel
theorem dX6_loses_11 : decode cX6_loses 11 = .ok (.iload_n 1, 1) := by decide +kernel
theorem dX6_loses_12 : decode cX6_loses 12 = .ok (.iload_n 2, 1) := by decide +kernel
theorem dX6_loses_13 : decode cX6_loses 13 = .ok (.iload 4, 2) := by decide +kernel
theorem dX6_loses_15 : decode cX6_loses 15 = .ok (.ifCond .ge 7, 3) := by decide +kernel
theorem dX6_loses_18 : decode cX6_loses 18 = .ok (.iconst 0, 1) := by decide +kernel
theorem dX6_loses_19 : decode cX6_loses 19 = .ok (.goto 5, 3) := by decide +kernel
theorem dX6_loses_22 : decode cX6_loses 22 = .ok (.iload 4, 2) := by decide +kernel
theorem dX6_loses_24 : decode cX6_loses 24 = .ok (.invokevirtual 63, 3) := by decide +kernel
theorem dX6_loses_27 : decode cX6_loses 27 = .ok (.iload 4, 2) := by decide +kernel
theorem dX6_loses_29 : decode cX6_loses 29 = .ok (.ifCond .gt 7, 3) := by decide +kernel
theorem dX6_loses_32 : decode cX6_loses 32 = .ok (.iconst 1, 1) := by decide +kernel
theorem dX6_loses_33 : decode cX6_loses 33 = .ok (.goto 4, 3) := by decide +kernel
theorem dX6_loses_36 : decode cX6_loses 36 = .ok (.iconst 0, 1) := by decide +kernel
theorem dX6_loses_37 : decode cX6_loses 37 = .ok (.ireturn, 1) := by decide +kernel
theorem dX6_day_0 : decode cX6_day 0 = .ok (.iconst 0, 1) := by decide +kernel
theorem dX6_day_1 : decode cX6_day 1 = .ok (.istore_n 1, 1) := by decide +kernel
theorem dX6_day_2 : decode cX6_day 2 = .ok (.iconst 0, 1) := by decide +kernel
theorem dX6_day_3 : decode cX6_day 3 = .ok (.istore_n 2, 1) := by decide +kernel
theorem dX6_day_4 : decode cX6_day 4 = .ok (.iload_n 2, 1) := by decide +kernel
theorem dX6_day_5 : decode cX6_day 5 = .ok (.bipush 60, 2) := by decide +kernel
theorem dX6_day_7 : decode cX6_day 7 = .ok (.if_icmp .ge 22, 3) := by decide +kernel
theorem dX6_day_10 : decode cX6_day 10 = .ok (.aload_n 0, 1) := by decide +kernel
theorem dX6_day_11 : decode cX6_day 11 = .ok (.getfield 29, 3) := by decide +kernel
theorem dX6_day_14 : decode cX6_day 14 = .ok (.iload_n 2, 1) := by decide +kernel
theorem dX6_day_15 : decode cX6_day 15 = .ok (.aload_n 0, 1) := by decide +kernel
theorem dX6_day_16 : decode cX6_day 16 = .ok (.iload_n 2, 1) := by decide +kernel
theorem dX6_day_17 : decode cX6_day 17 = .ok (.bipush (-6), 2) := by decide +kernel
theorem dX6_day_19 : decode cX6_day 19 = .ok (.invokevirtual 60, 3) := by decide +kernel
theorem dX6_day_22 : decode cX6_day 22 = .ok (.iastore, 1) := by decide +kernel
theorem dX6_day_23 : decode cX6_day 23 = .ok (.iinc 2 1, 3) := by decide +kernel
theorem dX6_day_26 : decode cX6_day 26 = .ok (.goto (-22), 3) := by decide +kernel
theorem dX6_day_29 : decode cX6_day 29 = .ok (.iconst 0, 1) := by decide +kernel
theorem dX6_day_30 : decode cX6_day 30 = .ok (.istore_n 2, 1) := by decide +kernel
theorem dX6_day_31 : decode cX6_day 31 = .ok (.iload_n 2, 1) := by decide +kernel
theorem dX6_day_32 : decode cX6_day 32 = .ok (.bipush 60, 2) := by decide +kernel
theorem dX6_day_34 : decode cX6_day 34 = .ok (.if_icmp .ge 53, 3) := by decide +kernel
theorem dX6_day_37 : decode cX6_day 37 = .ok (.iload_n 1, 1) := by decide +kernel
theorem dX6_day_38 : decode cX6_day 38 = .ok (.aload_n 0, 1) := by decide +kernel
theorem dX6_day_39 : decode cX6_day 39 = .ok (.getfield 29, 3) := by decide +kernel
theorem dX6_day_42 : decode cX6_day 42 = .ok (.iload_n 2, 1) := by decide +kernel
theorem dX6_day_43 : decode cX6_day 43 = .ok (.iaload, 1) := by decide +kernel
theorem dX6_day_44 : decode cX6_day 44 = .ok (.bipush (-6), 2) := by decide +kernel
theorem dX6_day_46 : decode cX6_day 46 = .ok (.if_icmp .eq 32, 3) := by decide +kernel
theorem dX6_day_49 : decode cX6_day 49 = .ok (.aload_n 0, 1) := by decide +kernel
theorem dX6_day_50 : decode cX6_day 50 = .ok (.aload_n 0, 1) := by decide +kernel
theorem dX6_day_51 : decode cX6_day 51 = .ok (.getfield 29, 3) := by decide +kernel
theorem dX6_day_54 : decode cX6_day 54 = .ok (.iload_n 2, 1) := by decide +kernel
theorem dX6_day_55 : decode cX6_day 55 = .ok (.iaload, 1) := by decide +kernel
theorem dX6_day_56 : decode cX6_day 56 = .ok (.iload_n 2, 1) := by decide +kernel
theorem dX6_day_57 : decode cX6_day 57 = .ok (.aload_n 0, 1) := by decide +kernel
theorem dX6_day_58 : decode cX6_day 58 = .ok (.getfield 7, 3) := by decide +kernel
theorem dX6_day_61 : decode cX6_day 61 = .ok (.iconst 4, 1) := by decide +kernel
theorem dX6_day_62 : decode cX6_day 62 = .ok (.iload_n 2, 1) := by decide +kernel
theorem dX6_day_63 : decode cX6_day 63 = .ok (.bipush 10, 2) := by decide +kernel
theorem dX6_day_65 : decode cX6_day 65 = .ok (.irem, 1) := by decide +kernel
theorem dX6_day_66 : decode cX6_day 66 = .ok (.iadd, 1) := by decide +kernel
theorem dX6_day_67 : decode cX6_day 67 = .ok (.iaload, 1) := by decide +kernel
theorem dX6_day_68 : decode cX6_day 68 = .ok (.invokevirtual 67, 3) := by decide +kernel
theorem dX6_day_71 : decode cX6_day 71 = .ok (.ifCond .eq 7, 3) := by decide +kernel
theorem dX6_day_74 : decode cX6_day 74 = .ok (.iconst 1, 1) := by decide +kernel
theorem dX6_day_75 : decode cX6_day 75 = .ok (.goto 4, 3) := by decide +kernel
theorem dX6_day_78 : decode cX6_day 78 = .ok (.iconst 0, 1) := by decide +kernel
theorem dX6_day_79 : decode cX6_day 79 = .ok (.iadd, 1) := by decide +kernel
theorem dX6_day_80 : decode cX6_day 80 = .ok (.istore_n 1, 1) := by decide +kernel
theorem dX6_day_81 : decode cX6_day 81 = .ok (.iinc 2 1, 3) := by decide +kernel
theorem dX6_day_84 : decode cX6_day 84 = .ok (.goto (-53), 3) := by decide +kernel
theorem dX6_day_87 : decode cX6_day 87 = .ok (.aload_n 0, 1) := by decide +kernel
theorem dX6_day_88 : decode cX6_day 88 = .ok (.getfield 7, 3) := by decide +kernel
theorem dX6_day_91 : decode cX6_day 91 = .ok (.iconst 1, 1) := by decide +kernel
theorem dX6_day_92 : decode cX6_day 92 = .ok (.dup2, 1) := by decide +kernel
theorem dX6_day_93 : decode cX6_day 93 = .ok (.iaload, 1) := by decide +kernel
theorem dX6_day_94 : decode cX6_day 94 = .ok (.iconst 1, 1) := by decide +kernel
theorem dX6_day_95 : decode cX6_day 95 = .ok (.iadd, 1) := by decide +kernel
theorem dX6_day_96 : decode cX6_day 96 = .ok (.iastore, 1) := by decide +kernel
theorem dX6_day_97 : decode cX6_day 97 = .ok (.iload_n 1, 1) := by decide +kernel
theorem dX6_day_98 : decode cX6_day 98 = .ok (.ireturn, 1) := by decide +kernel
theorem dX6_days_0 : decode cX6_days 0 = .ok (.iconst 0, 1) := by decide +kernel
theorem dX6_days_1 : decode cX6_days 1 = .ok (.istore_n 2, 1) := by decide +kernel
theorem dX6_days_2 : decode cX6_days 2 = .ok (.iconst 0, 1) := by decide +kernel
theorem dX6_days_3 : decode cX6_days 3 = .ok (.istore_n 3, 1) := by decide +kernel
theorem dX6_days_4 : decode cX6_days 4 = .ok (.iload_n 3, 1) := by decide +kernel
theorem dX6_days_5 : decode cX6_days 5 = .ok (.iload_n 1, 1) := by decide +kernel
theorem dX6_days_6 : decode cX6_days 6 = .ok (.if_icmp .ge 16, 3) := by decide +kernel
theorem dX6_days_9 : decode cX6_days 9 = .ok (.iload_n 2, 1) := by decide +kernel
theorem dX6_days_10 : decode cX6_days 10 = .ok (.aload_n 0, 1) := by decide +kernel
theorem dX6_days_11 : decode cX6_days 11 = .ok (.invokevirtual 70, 3) := by decide +kernel
theorem dX6_days_14 : decode cX6_days 14 = .ok (.iadd, 1) := by decide +kernel
theorem dX6_days_15 : decode cX6_days 15 = .ok (.istore_n 2, 1) := by decide +kernel
theorem dX6_days_16 : decode cX6_days 16 = .ok (.iinc 3 1, 3) := by decide +kernel
theorem dX6_days_19 : decode cX6_days 19 = .ok (.goto (-15), 3) := by decide +kernel
theorem dX6_days_22 : decode cX6_days 22 = .ok (.iload_n 2, 1) := by decide +kernel
theorem dX6_days_23 : decode cX6_days 23 = .ok (.ireturn, 1) := by decide +kernel
theorem dX6_sumBut_0 : decode cX6_sumBut 0 = .ok (.iconst 0, 1) := by decide +kernel
theorem dX6_sumBut_1 : decode cX6_sumBut 1 = .ok (.istore_n 2, 1) := by decide +kernel
theorem dX6_sumBut_2 : decode cX6_sumBut 2 = .ok (.iconst 0, 1) := by decide +kernel
theorem dX6_sumBut_3 : decode cX6_sumBut 3 = .ok (.istore_n 3, 1) := by decide +kernel
theorem dX6_sumBut_4 : decode cX6_sumBut 4 = .ok (.iload_n 3, 1) := by decide +kernel
theorem dX6_sumBut_5 : decode cX6_sumBut 5 = .ok (.bipush 60, 2) := by decide +kernel
theorem dX6_sumBut_7 : decode cX6_sumBut 7 = .ok (.if_icmp .ge 38, 3) := by decide +kernel
theorem dX6_sumBut_10 : decode cX6_sumBut 10 = .ok (.aload_n 0, 1) := by decide +kernel
theorem dX6_sumBut_11 : decode cX6_sumBut 11 = .ok (.iload_n 3, 1) := by decide +kernel
theorem dX6_sumBut_12 : decode cX6_sumBut 12 = .ok (.iload_n 1, 1) := by decide +kernel
theorem dX6_sumBut_13 : decode cX6_sumBut 13 = .ok (.invokevirtual 60, 3) := by decide +kernel
theorem dX6_sumBut_16 : decode cX6_sumBut 16 = .ok (.istore 4, 2) := by decide +kernel
theorem dX6_sumBut_18 : decode cX6_sumBut 18 = .ok (.iload_n 2, 1) := by decide +kernel
theorem dX6_sumBut_19 : decode cX6_sumBut 19 = .ok (.iload 4, 2) := by decide +kernel
theorem dX6_sumBut_21 : decode cX6_sumBut 21 = .ok (.bipush (-6), 2) := by decide +kernel
theorem dX6_sumBut_23 : decode cX6_sumBut 23 = .ok (.if_icmp .ne 7, 3) := by decide +kernel
theorem dX6_sumBut_26 : decode cX6_sumBut 26 = .ok (.iconst 0, 1) := by decide +kernel
theorem dX6_sumBut_27 : decode cX6_sumBut 27 = .ok (.goto 10, 3) := by decide +kernel
theorem dX6_sumBut_30 : decode cX6_sumBut 30 = .ok (.aload_n 0, 1) := by decide +kernel
theorem dX6_sumBut_31 : decode cX6_sumBut 31 = .ok (.iload 4, 2) := by decide +kernel
theorem dX6_sumBut_33 : decode cX6_sumBut 33 = .ok (.iconst 4, 1) := by decide +kernel
theorem dX6_sumBut_34 : decode cX6_sumBut 34 = .ok (.invokevirtual 46, 3) := by decide +kernel
theorem dX6_sumBut_37 : decode cX6_sumBut 37 = .ok (.iadd, 1) := by decide +kernel
theorem dX6_sumBut_38 : decode cX6_sumBut 38 = .ok (.istore_n 2, 1) := by decide +kernel
theorem dX6_sumBut_39 : decode cX6_sumBut 39 = .ok (.iinc 3 1, 3) := by decide +kernel
theorem dX6_sumBut_42 : decode cX6_sumBut 42 = .ok (.goto (-38), 3) := by decide +kernel
theorem dX6_sumBut_45 : decode cX6_sumBut 45 = .ok (.iload_n 2, 1) := by decide +kernel
theorem dX6_sumBut_46 : decode cX6_sumBut 46 = .ok (.ireturn, 1) := by decide +kernel
theorem dX6_laysShown_0 : decode cX6_laysShown 0 = .ok (.iconst 0, 1) := by decide +kernel
theorem dX6_laysShown_1 : decode cX6_laysShown 1 = .ok (.istore_n 1, 1) := by decide +kernel
theorem dX6_laysShown_2 : decode cX6_laysShown 2 = .ok (.iload_n 1, 1) := by decide +kernel
theorem dX6_laysShown_3 : decode cX6_laysShown 3 = .ok (.bipush 60, 2) := by decide +kernel
theorem dX6_laysShown_5 : decode cX6_laysShown 5 = .ok (.if_icmp .ge 20, 3) := by decide +kernel
theorem dX6_laysShown_8 : decode cX6_laysShown 8 = .ok (.aload_n 0, 1) := by decide +kernel
theorem dX6_laysShown_9 : decode cX6_laysShown 9 = .ok (.getfield 32, 3) := by decide +kernel
theorem dX6_laysShown_12 : decode cX6_laysShown 12 = .ok (.iload_n 1, 1) := by decide +kernel
theorem dX6_laysShown_13 : decode cX6_laysShown 13 = .ok (.aload_n 0, 1) := by decide +kernel
theorem dX6_laysShown_14 : decode cX6_laysShown 14 = .ok (.iload_n 1, 1) := by decide +kernel
theorem dX6_laysShown_15 : decode cX6_laysShown 15 = .ok (.invokevirtual 74, 3) := by decide +kernel
theorem dX6_laysShown_18 : decode cX6_laysShown 18 = .ok (.iastore, 1) := by decide +kernel
theorem dX6_laysShown_19 : decode cX6_laysShown 19 = .ok (.iinc 1 1, 3) := by decide +kernel
theorem dX6_laysShown_22 : decode cX6_laysShown 22 = .ok (.goto (-20), 3) := by decide +kernel
theorem dX6_laysShown_25 : decode cX6_laysShown 25 = .ok (.return_, 1) := by decide +kernel
theorem dX6_others_0 : decode cX6_others 0 = .ok (.iconst 0, 1) := by decide +kernel
theorem dX6_others_1 : decode cX6_others 1 = .ok (.istore_n 1, 1) := by decide +kernel
theorem dX6_others_2 : decode cX6_others 2 = .ok (.iconst 0, 1) := by decide +kernel
theorem dX6_others_3 : decode cX6_others 3 = .ok (.istore_n 2, 1) := by decide +kernel
theorem dX6_others_4 : decode cX6_others 4 = .ok (.iload_n 2, 1) := by decide +kernel
theorem dX6_others_5 : decode cX6_others 5 = .ok (.bipush 60, 2) := by decide +kernel
theorem dX6_others_7 : decode cX6_others 7 = .ok (.if_icmp .ge 31, 3) := by decide +kernel
theorem dX6_others_10 : decode cX6_others 10 = .ok (.iload_n 1, 1) := by decide +kernel
theorem dX6_others_11 : decode cX6_others 11 = .ok (.aload_n 0, 1) := by decide +kernel
theorem dX6_others_12 : decode cX6_others 12 = .ok (.iload_n 2, 1) := by decide +kernel
theorem dX6_others_13 : decode cX6_others 13 = .ok (.invokevirtual 74, 3) := by decide +kernel
theorem dX6_others_16 : decode cX6_others 16 = .ok (.aload_n 0, 1) := by decide +kernel
theorem dX6_others_17 : decode cX6_others 17 = .ok (.getfield 32, 3) := by decide +kernel
theorem dX6_others_20 : decode cX6_others 20 = .ok (.iload_n 2, 1) := by decide +kernel
theorem dX6_others_21 : decode cX6_others 21 = .ok (.iaload, 1) := by decide +kernel
theorem dX6_others_22 : decode cX6_others 22 = .ok (.if_icmp .ne 7, 3) := by decide +kernel
theorem dX6_others_25 : decode cX6_others 25 = .ok (.iconst 0, 1) := by decide +kernel
theorem dX6_others_26 : decode cX6_others 26 = .ok (.goto 4, 3) := by decide +kernel
theorem dX6_others_29 : decode cX6_others 29 = .ok (.iconst 1, 1) := by decide +kernel
theorem dX6_others_30 : decode cX6_others 30 = .ok (.iadd, 1) := by decide +kernel
theorem dX6_others_31 : decode cX6_others 31 = .ok (.istore_n 1, 1) := by decide +kernel
theorem dX6_others_32 : decode cX6_others 32 = .ok (.iinc 2 1, 3) := by decide +kernel
theorem dX6_others_35 : decode cX6_others 35 = .ok (.goto (-31), 3) := by decide +kernel
theorem dX6_others_38 : decode cX6_others 38 = .ok (.iload_n 1, 1) := by decide +kernel
theorem dX6_others_39 : decode cX6_others 39 = .ok (.ireturn, 1) := by decide +kernel
theorem dX6_overCells_0 : decode cX6_overCells 0 = .ok (.iconst 0, 1) := by decide +kernel
theorem dX6_overCells_1 : decode cX6_overCells 1 = .ok (.istore_n 3, 1) := by decide +kernel
theorem dX6_overCells_2 : decode cX6_overCells 2 = .ok (.iconst 0, 1) := by decide +kernel
theorem dX6_overCells_3 : decode cX6_overCells 3 = .ok (.istore 4, 2) := by decide +kernel
theorem dX6_overCells_5 : decode cX6_overCells 5 = .ok (.iload 4, 2) := by decide +kernel
theorem dX6_overCells_7 : decode cX6_overCells 7 = .ok (.bipush 60, 2) := by decide +kernel
theorem dX6_overCells_9 : decode cX6_overCells 9 = .ok (.if_icmp .ge 96, 3) := by decide +kernel
theorem dX6_overCells_12 : decode cX6_overCells 12 = .ok (.iload_n 2, 1) := by decide +kernel
theorem dX6_overCells_13 : decode cX6_overCells 13 = .ok (.iconst 5, 1) := by decide +kernel
theorem dX6_overCells_14 : decode cX6_overCells 14 = .ok (.if_icmp .ne 23, 3) := by decide +kernel
theorem dX6_overCells_17 : decode cX6_overCells 17 = .ok (.aload_n 0, 1) := by decide +kernel
theorem dX6_overCells_18 : decode cX6_overCells 18 = .ok (.iload 4, 2) := by decide +kernel
theorem dX6_overCells_20 : decode cX6_overCells 20 = .ok (.bipush (-6), 2) := by decide +kernel
theorem dX6_overCells_22 : decode cX6_overCells 22 = .ok (.invokevirtual 60, 3) := by decide +kernel
theorem dX6_overCells_25 : decode cX6_overCells 25 = .ok (.iload_n 1, 1) := by decide +kernel
theorem dX6_overCells_26 : decode cX6_overCells 26 = .ok (.if_icmp .ne 7, 3) := by decide +kernel
theorem dX6_overCells_29 : decode cX6_overCells 29 = .ok (.iconst 1, 1) := by decide +kernel
theorem dX6_overCells_30 : decode cX6_overCells 30 = .ok (.goto 48, 3) := by decide +kernel
theorem dX6_overCells_33 : decode cX6_overCells 33 = .ok (.iconst 0, 1) := by decide +kernel
theorem dX6_overCells_34 : decode cX6_overCells 34 = .ok (.goto 44, 3) := by decide +kernel
theorem dX6_overCells_37 : decode cX6_overCells 37 = .ok (.iload_n 2, 1) := by decide +kernel
theorem dX6_overCells_38 : decode cX6_overCells 38 = .ok (.bipush 6, 2) := by decide +kernel
theorem dX6_overCells_40 : decode cX6_overCells 40 = .ok (.if_icmp .ne 21, 3) := by decide +kernel
theorem dX6_overCells_43 : decode cX6_overCells 43 = .ok (.aload_n 0, 1) := by decide +kernel
theorem dX6_overCells_44 : decode cX6_overCells 44 = .ok (.iload_n 1, 1) := by decide +kernel
theorem dX6_overCells_45 : decode cX6_overCells 45 = .ok (.iload 4, 2) := by decide +kernel
theorem dX6_overCells_47 : decode cX6_overCells 47 = .ok (.invokevirtual 57, 3) := by decide +kernel
theorem dX6_overCells_50 : decode cX6_overCells 50 = .ok (.ifCond .ne 7, 3) := by decide +kernel
theorem dX6_overCells_53 : decode cX6_overCells 53 = .ok (.iconst 1, 1) := by decide +kernel
theorem dX6_overCells_54 : decode cX6_overCells 54 = .ok (.goto 24, 3) := by decide +kernel
theorem dX6_overCells_57 : decode cX6_overCells 57 = .ok (.iconst 0, 1) := by decide +kernel
theorem dX6_overCells_58 : decode cX6_overCells 58 = .ok (.goto 20, 3) := by decide +kernel
theorem dX6_overCells_61 : decode cX6_overCells 61 = .ok (.iload_n 2, 1) := by decide +kernel
theorem dX6_overCells_62 : decode cX6_overCells 62 = .ok (.bipush 7, 2) := by decide +kernel
theorem dX6_overCells_64 : decode cX6_overCells 64 = .ok (.if_icmp .ne 7, 3) := by decide +kernel
theorem dX6_overCells_67 : decode cX6_overCells 67 = .ok (.iconst 1, 1) := by decide +kernel
theorem dX6_overCells_68 : decode cX6_overCells 68 = .ok (.goto 10, 3) := by decide +kernel
theorem dX6_overCells_71 : decode cX6_overCells 71 = .ok (.aload_n 0, 1) := by decide +kernel
theorem dX6_overCells_72 : decode cX6_overCells 72 = .ok (.iload_n 1, 1) := by decide +kernel
theorem dX6_overCells_73 : decode cX6_overCells 73 = .ok (.iload 4, 2) := by decide +kernel
theorem dX6_overCells_75 : decode cX6_overCells 75 = .ok (.invokevirtual 57, 3) := by decide +kernel
theorem dX6_overCells_78 : decode cX6_overCells 78 = .ok (.istore 5, 2) := by decide +kernel
theorem dX6_overCells_80 : decode cX6_overCells 80 = .ok (.iload_n 3, 1) := by decide +kernel
theorem dX6_overCells_81 : decode cX6_overCells 81 = .ok (.aload_n 0, 1) := by decide +kernel
theorem dX6_overCells_82 : decode cX6_overCells 82 = .ok (.iload_n 1, 1) := by decide +kernel
theorem dX6_overCells_83 : decode cX6_overCells 83 = .ok (.iload 4, 2) := by decide +kernel
theorem dX6_overCells_85 : decode cX6_overCells 85 = .ok (.invokevirtual 53, 3) := by decide +kernel
theorem dX6_overCells_88 : decode cX6_overCells 88 = .ok (.ifCond .eq 8, 3) := by decide +kernel
theorem dX6_overCells_91 : decode cX6_overCells 91 = .ok (.iload 5, 2) := by decide +kernel
theorem dX6_overCells_93 : decode cX6_overCells 93 = .ok (.goto 4, 3) := by decide +kernel
theorem dX6_overCells_96 : decode cX6_overCells 96 = .ok (.iconst 0, 1) := by decide +kernel
theorem dX6_overCells_97 : decode cX6_overCells 97 = .ok (.iadd, 1) := by decide +kernel
theorem dX6_overCells_98 : decode cX6_overCells 98 = .ok (.istore_n 3, 1) := by decide +kernel
theorem dX6_overCells_99 : decode cX6_overCells 99 = .ok (.iinc 4 1, 3) := by decide +kernel
theorem dX6_overCells_102 : decode cX6_overCells 102 = .ok (.goto (-97), 3) := by decide +kernel
theorem dX6_overCells_105 : decode cX6_overCells 105 = .ok (.iload_n 3, 1) := by decide +kernel
theorem dX6_overCells_106 : decode cX6_overCells 106 = .ok (.ireturn, 1) := by decide +kernel
theorem dX6_paste_0 : decode cX6_paste 0 = .ok (.aload_n 0, 1) := by decide +kernel
theorem dX6_paste_1 : decode cX6_paste 1 = .ok (.iconst 0, 1) := by decide +kernel
theorem dX6_paste_2 : decode cX6_paste 2 = .ok (.putfield 38, 3) := by decide +kernel
theorem dX6_paste_5 : decode cX6_paste 5 = .ok (.iload_n 1, 1) := by decide +kernel
theorem dX6_paste_6 : decode cX6_paste 6 = .ok (.iload_n 2, 1) := by decide +kernel
theorem dX6_paste_7 : decode cX6_paste 7 = .ok (.invokestatic 78, 3) := by decide +kernel
theorem dX6_paste_10 : decode cX6_paste 10 = .ok (.ifCond .eq 45, 3) := by decide +kernel
theorem dX6_paste_13 : decode cX6_paste 13 = .ok (.iload_n 3, 1) := by decide +kernel
theorem dX6_paste_14 : decode cX6_paste 14 = .ok (.iconst 1, 1) := by decide +kernel
theorem dX6_paste_15 : decode cX6_paste 15 = .ok (.bipush 10, 2) := by decide +kernel
theorem dX6_paste_17 : decode cX6_paste 17 = .ok (.invokestatic 42, 3) := by decide +kernel
theorem dX6_paste_20 : decode cX6_paste 20 = .ok (.ifCond .eq 35, 3) := by decide +kernel
theorem dX6_paste_23 : decode cX6_paste 23 = .ok (.iload 4, 2) := by decide +kernel
theorem dX6_paste_25 : decode cX6_paste 25 = .ok (.iconst 1, 1) := by decide +kernel
theorem dX6_paste_26 : decode cX6_paste 26 = .ok (.bipush 6, 2) := by decide +kernel
theorem dX6_paste_28 : decode cX6_paste 28 = .ok (.invokestatic 42, 3) := by decide +kernel
theorem dX6_paste_31 : decode cX6_paste 31 = .ok (.ifCond .eq 24, 3) := by decide +kernel
theorem dX6_paste_34 : decode cX6_paste 34 = .ok (.iload_n 1, 1) := by decide +kernel
theorem dX6_paste_35 : decode cX6_paste 35 = .ok (.iload_n 3, 1) := by decide +kernel
theorem dX6_paste_36 : decode cX6_paste 36 = .ok (.iadd, 1) := by decide +kernel
theorem dX6_paste_37 : decode cX6_paste 37 = .ok (.bipush 10, 2) := by decide +kernel
theorem dX6_paste_39 : decode cX6_paste 39 = .ok (.if_icmp .gt 16, 3) := by decide +kernel
theorem dX6_paste_42 : decode cX6_paste 42 = .ok (.iload_n 2, 1) := by decide +kernel
theorem dX6_paste_43 : decode cX6_paste 43 = .ok (.iload 4, 2) := by decide +kernel
theorem dX6_paste_45 : decode cX6_paste 45 = .ok (.iadd, 1) := by decide +kernel
theorem dX6_paste_46 : decode cX6_paste 46 = .ok (.bipush 6, 2) := by decide +kernel
theorem dX6_paste_48 : decode cX6_paste 48 = .ok (.if_icmp .gt 7, 3) := by decide +kernel
theorem dX6_paste_51 : decode cX6_paste 51 = .ok (.iconst 1, 1) := by decide +kernel
theorem dX6_paste_52 : decode cX6_paste 52 = .ok (.goto 4, 3) := by decide +kernel
theorem dX6_paste_55 : decode cX6_paste 55 = .ok (.iconst 0, 1) := by decide +kernel
theorem dX6_paste_56 : decode cX6_paste 56 = .ok (.istore 7, 2) := by decide +kernel
theorem dX6_paste_58 : decode cX6_paste 58 = .ok (.iload 7, 2) := by decide +kernel
theorem dX6_paste_60 : decode cX6_paste 60 = .ok (.ifCond .ne 5, 3) := by decide +kernel
theorem dX6_paste_63 : decode cX6_paste 63 = .ok (.iconst (-1), 1) := by decide +kernel
theorem dX6_paste_64 : decode cX6_paste 64 = .ok (.ireturn, 1) := by decide +kernel
theorem dX6_paste_65 : decode cX6_paste 65 = .ok (.iload 5, 2) := by decide +kernel
theorem dX6_paste_67 : decode cX6_paste 67 = .ok (.iconst 1, 1) := by decide +kernel
theorem dX6_paste_68 : decode cX6_paste 68 = .ok (.sipush 999, 3) := by decide +kernel
theorem dX6_paste_71 : decode cX6_paste 71 = .ok (.invokestatic 42, 3) := by decide +kernel
theorem dX6_paste_74 : decode cX6_paste 74 = .ok (.ifCond .eq 14, 3) := by decide +kernel
theorem dX6_paste_77 : decode cX6_paste 77 = .ok (.iload 6, 2) := by decide +kernel
theorem dX6_paste_79 : decode cX6_paste 79 = .ok (.iconst 1, 1) := by decide +kernel
theorem dX6_paste_80 : decode cX6_paste 80 = .ok (.bipush 99, 2) := by decide +kernel
theorem dX6_paste_82 : decode cX6_paste 82 = .ok (.invokestatic 42, 3) := by decide +kernel
theorem dX6_paste_85 : decode cX6_paste 85 = .ok (.ifCond .ne 6, 3) := by decide +kernel
theorem dX6_paste_88 : decode cX6_paste 88 = .ok (.bipush (-2), 2) := by decide +kernel
theorem dX6_paste_90 : decode cX6_paste 90 = .ok (.ireturn, 1) := by decide +kernel
theorem dX6_paste_91 : decode cX6_paste 91 = .ok (.aload_n 0, 1) := by decide +kernel
theorem dX6_paste_92 : decode cX6_paste 92 = .ok (.getfield 7, 3) := by decide +kernel
theorem dX6_paste_95 : decode cX6_paste 95 = .ok (.iconst 0, 1) := by decide +kernel
theorem dX6_paste_96 : decode cX6_paste 96 = .ok (.iaload, 1) := by decide +kernel
theorem dX6_paste_97 : decode cX6_paste 97 = .ok (.bipush 12, 2) := by decide +kernel
theorem dX6_paste_99 : decode cX6_paste 99 = .ok (.if_icmp .ne 6, 3) := by decide +kernel
theorem dX6_paste_102 : decode cX6_paste 102 = .ok (.bipush (-4), 2) := by decide +kernel
theorem dX6_paste_104 : decode cX6_paste 104 = .ok (.ireturn, 1) := by decide +kernel
theorem dX6_paste_105 : decode cX6_paste 105 = .ok (.aload_n 0, 1) := by decide +kernel
theorem dX6_paste_106 : decode cX6_paste 106 = .ok (.invokevirtual 81, 3) := by decide +kernel
theorem dX6_paste_109 : decode cX6_paste 109 = .ok (.aload_n 0, 1) := by decide +kernel
theorem dX6_paste_110 : decode cX6_paste 110 = .ok (.getfield 7, 3) := by decide +kernel
theorem dX6_paste_113 : decode cX6_paste 113 = .ok (.iconst 0, 1) := by decide +kernel
theorem dX6_paste_114 : decode cX6_paste 114 = .ok (.iaload, 1) := by decide +kernel
theorem dX6_paste_115 : decode cX6_paste 115 = .ok (.istore 8, 2) := by decide +kernel
theorem dX6_paste_117 : decode cX6_paste 117 = .ok (.aload_n 0, 1) := by decide +kernel
theorem dX6_paste_118 : decode cX6_paste 118 = .ok (.getfield 7, 3) := by decide +kernel
theorem dX6_paste_121 : decode cX6_paste 121 = .ok (.iconst 0, 1) := by decide +kernel
theorem dX6_paste_122 : decode cX6_paste 122 = .ok (.dup2, 1) := by decide +kernel
theorem dX6_paste_123 : decode cX6_paste 123 = .ok (.iaload, 1) := by decide +kernel
theorem dX6_paste_124 : decode cX6_paste 124 = .ok (.iconst 1, 1) := by decide +kernel
theorem dX6_paste_125 : decode cX6_paste 125 = .ok (.iadd, 1) := by decide +kernel
theorem dX6_paste_126 : decode cX6_paste 126 = .ok (.iastore, 1) := by decide +kernel
theorem dX6_paste_127 : decode cX6_paste 127 = .ok (.bipush 14, 2) := by decide +kernel
theorem dX6_paste_129 : decode cX6_paste 129 = .ok (.bipush 7, 2) := by decide +kernel
theorem dX6_paste_131 : decode cX6_paste 131 = .ok (.iload 8, 2) := by decide +kernel
theorem dX6_paste_133 : decode cX6_paste 133 = .ok (.imul, 1) := by decide +kernel
theorem dX6_paste_134 : decode cX6_paste 134 = .ok (.iadd, 1) := by decide +kernel
theorem dX6_paste_135 : decode cX6_paste 135 = .ok (.istore 9, 2) := by decide +kernel
theorem dX6_paste_137 : decode cX6_paste 137 = .ok (.aload_n 0, 1) := by decide +kernel
theorem dX6_paste_138 : decode cX6_paste 138 = .ok (.getfield 7, 3) := by decide +kernel
theorem dX6_paste_141 : decode cX6_paste 141 = .ok (.iload 9, 2) := by decide +kernel
theorem dX6_paste_143 : decode cX6_paste 143 = .ok (.iconst 0, 1) := by decide +kernel
theorem dX6_paste_144 : decode cX6_paste 144 = .ok (.iadd, 1) := by decide +kernel
theorem dX6_paste_145 : decode cX6_paste 145 = .ok (.iload_n 1, 1) := by decide +kernel
theorem dX6_paste_146 : decode cX6_paste 146 = .ok (.iastore, 1) := by decide +kernel
theorem dX6_paste_147 : decode cX6_paste 147 = .ok (.aload_n 0, 1) := by decide +kernel
theorem dX6_paste_148 : decode cX6_paste 148 = .ok (.getfield 7, 3) := by decide +kernel
theorem dX6_paste_151 : decode cX6_paste 151 = .ok (.iload 9, 2) := by decide +kernel
theorem dX6_paste_153 : decode cX6_paste 153 = .ok (.iconst 1, 1) := by decide +kernel
theorem dX6_paste_154 : decode cX6_paste 154 = .ok (.iadd, 1) := by decide +kernel
theorem dX6_paste_155 : decode cX6_paste 155 = .ok (.iload_n 2, 1) := by decide +kernel
theorem dX6_paste_156 : decode cX6_paste 156 = .ok (.iastore, 1) := by decide +kernel
theorem dX6_paste_157 : decode cX6_paste 157 = .ok (.aload_n 0, 1) := by decide +kernel
theorem dX6_paste_158 : decode cX6_paste 158 = .ok (.getfield 7, 3) := by decide +kernel
theorem dX6_paste_161 : decode cX6_paste 161 = .ok (.iload 9, 2) := by decide +kernel
theorem dX6_paste_163 : decode cX6_paste 163 = .ok (.iconst 2, 1) := by decide +kernel
theorem dX6_paste_164 : decode cX6_paste 164 = .ok (.iadd, 1) := by decide +kernel
theorem dX6_paste_165 : decode cX6_paste 165 = .ok (.iload_n 3, 1) := by decide +kernel
theorem dX6_paste_166 : decode cX6_paste 166 = .ok (.iastore, 1) := by decide +kernel
theorem dX6_paste_167 : decode cX6_paste 167 = .ok (.aload_n 0, 1) := by decide +kernel
theorem dX6_paste_168 : decode cX6_paste 168 = .ok (.getfield 7, 3) := by decide +kernel
theorem dX6_paste_171 : decode cX6_paste 171 = .ok (.iload 9, 2) := by decide +kernel
theorem dX6_paste_173 : decode cX6_paste 173 = .ok (.iconst 3, 1) := by decide +kernel
theorem dX6_paste_174 : decode cX6_paste 174 = .ok (.iadd, 1) := by decide +kernel
theorem dX6_paste_175 : decode cX6_paste 175 = .ok (.iload 4, 2) := by decide +kernel
theorem dX6_paste_177 : decode cX6_paste 177 = .ok (.iastore, 1) := by decide +kernel
theorem dX6_paste_178 : decode cX6_paste 178 = .ok (.aload_n 0, 1) := by decide +kernel
theorem dX6_paste_179 : decode cX6_paste 179 = .ok (.getfield 7, 3) := by decide +kernel
theorem dX6_paste_182 : decode cX6_paste 182 = .ok (.iload 9, 2) := by decide +kernel
theorem dX6_paste_184 : decode cX6_paste 184 = .ok (.iconst 4, 1) := by decide +kernel
theorem dX6_paste_185 : decode cX6_paste 185 = .ok (.iadd, 1) := by decide +kernel
theorem dX6_paste_186 : decode cX6_paste 186 = .ok (.iload 5, 2) := by decide +kernel
theorem dX6_paste_188 : decode cX6_paste 188 = .ok (.iastore, 1) := by decide +kernel
theorem dX6_paste_189 : decode cX6_paste 189 = .ok (.aload_n 0, 1) := by decide +kernel
theorem dX6_paste_190 : decode cX6_paste 190 = .ok (.getfield 7, 3) := by decide +kernel
theorem dX6_paste_193 : decode cX6_paste 193 = .ok (.iload 9, 2) := by decide +kernel
theorem dX6_paste_195 : decode cX6_paste 195 = .ok (.iconst 5, 1) := by decide +kernel
theorem dX6_paste_196 : decode cX6_paste 196 = .ok (.iadd, 1) := by decide +kernel
theorem dX6_paste_197 : decode cX6_paste 197 = .ok (.iconst 0, 1) := by decide +kernel
theorem dX6_paste_198 : decode cX6_paste 198 = .ok (.iastore, 1) := by decide +kernel
theorem dX6_paste_199 : decode cX6_paste 199 = .ok (.aload_n 0, 1) := by decide +kernel
theorem dX6_paste_200 : decode cX6_paste 200 = .ok (.getfield 7, 3) := by decide +kernel
theorem dX6_paste_203 : decode cX6_paste 203 = .ok (.iload 9, 2) := by decide +kernel
theorem dX6_paste_205 : decode cX6_paste 205 = .ok (.bipush 6, 2) := by decide +kernel
theorem dX6_paste_207 : decode cX6_paste 207 = .ok (.iadd, 1) := by decide +kernel
theorem dX6_paste_208 : decode cX6_paste 208 = .ok (.iconst 0, 1) := by decide +kernel
theorem dX6_paste_209 : decode cX6_paste 209 = .ok (.iastore, 1) := by decide +kernel
theorem dX6_paste_210 : decode cX6_paste 210 = .ok (.iconst 0, 1) := by decide +kernel
theorem dX6_paste_211 : decode cX6_paste 211 = .ok (.istore 10, 2) := by decide +kernel
theorem dX6_paste_213 : decode cX6_paste 213 = .ok (.iload 10, 2) := by decide +kernel
theorem dX6_paste_215 : decode cX6_paste 215 = .ok (.bipush 60, 2) := by decide +kernel
theorem dX6_paste_217 : decode cX6_paste 217 = .ok (.if_icmp .ge 34, 3) := by decide +kernel
theorem dX6_paste_220 : decode cX6_paste 220 = .ok (.aload_n 0, 1) := by decide +kernel
theorem dX6_paste_221 : decode cX6_paste 221 = .ok (.iload 8, 2) := by decide +kernel
theorem dX6_paste_223 : decode cX6_paste 223 = .ok (.iload 10, 2) := by decide +kernel
theorem dX6_paste_225 : decode cX6_paste 225 = .ok (.aload_n 0, 1) := by decide +kernel
theorem dX6_paste_226 : decode cX6_paste 226 = .ok (.iload 8, 2) := by decide +kernel
theorem dX6_paste_228 : decode cX6_paste 228 = .ok (.iload 10, 2) := by decide +kernel
theorem dX6_paste_230 : decode cX6_paste 230 = .ok (.invokevirtual 53, 3) := by decide +kernel
theorem dX6_paste_233 : decode cX6_paste 233 = .ok (.ifCond .eq 8, 3) := by decide +kernel
theorem dX6_paste_236 : decode cX6_paste 236 = .ok (.iload 6, 2) := by decide +kernel
theorem dX6_paste_238 : decode cX6_paste 238 = .ok (.goto 4, 3) := by decide +kernel
theorem dX6_paste_241 : decode cX6_paste 241 = .ok (.iconst 0, 1) := by decide +kernel
theorem dX6_paste_242 : decode cX6_paste 242 = .ok (.invokevirtual 63, 3) := by decide +kernel
theorem dX6_paste_245 : decode cX6_paste 245 = .ok (.iinc 10 1, 3) := by decide +kernel
theorem dX6_paste_248 : decode cX6_paste 248 = .ok (.goto (-35), 3) := by decide +kernel
theorem dX6_paste_251 : decode cX6_paste 251 = .ok (.iload 8, 2) := by decide +kernel
theorem dX6_paste_253 : decode cX6_paste 253 = .ok (.ireturn, 1) := by decide +kernel
theorem dX6_drops_0 : decode cX6_drops 0 = .ok (.aload_n 0, 1) := by decide +kernel
theorem dX6_drops_1 : decode cX6_drops 1 = .ok (.getfield 7, 3) := by decide +kernel
theorem dX6_drops_4 : decode cX6_drops 4 = .ok (.iconst 0, 1) := by decide +kernel
theorem dX6_drops_5 : decode cX6_drops 5 = .ok (.dup2, 1) := by decide +kernel
theorem dX6_drops_6 : decode cX6_drops 6 = .ok (.iaload, 1) := by decide +kernel
theorem dX6_drops_7 : decode cX6_drops 7 = .ok (.iconst 1, 1) := by decide +kernel
theorem dX6_drops_8 : decode cX6_drops 8 = .ok (.isub, 1) := by decide +kernel
theorem dX6_drops_9 : decode cX6_drops 9 = .ok (.iastore, 1) := by decide +kernel
theorem dX6_drops_10 : decode cX6_drops 10 = .ok (.bipush 7, 2) := by decide +kernel
theorem dX6_drops_12 : decode cX6_drops 12 = .ok (.iload_n 1, 1) := by decide +kernel
theorem dX6_drops_13 : decode cX6_drops 13 = .ok (.imul, 1) := by decide +kernel
theorem dX6_drops_14 : decode cX6_drops 14 = .ok (.istore_n 2, 1) := by decide +kernel
theorem dX6_drops_15 : decode cX6_drops 15 = .ok (.iload_n 2, 1) := by decide +kernel
theorem dX6_drops_16 : decode cX6_drops 16 = .ok (.bipush 7, 2) := by decide +kernel
theorem dX6_drops_18 : decode cX6_drops 18 = .ok (.aload_n 0, 1) := by decide +kernel
theorem dX6_drops_19 : decode cX6_drops 19 = .ok (.getfield 7, 3) := by decide +kernel
theorem dX6_drops_22 : decode cX6_drops 22 = .ok (.iconst 0, 1) := by decide +kernel
theorem dX6_drops_23 : decode cX6_drops 23 = .ok (.iaload, 1) := by decide +kernel
theorem dX6_drops_24 : decode cX6_drops 24 = .ok (.imul, 1) := by decide +kernel
theorem dX6_drops_25 : decode cX6_drops 25 = .ok (.if_icmp .ge 30, 3) := by decide +kernel
theorem dX6_drops_28 : decode cX6_drops 28 = .ok (.aload_n 0, 1) := by decide +kernel
theorem dX6_drops_29 : decode cX6_drops 29 = .ok (.getfield 7, 3) := by decide +kernel
theorem dX6_drops_32 : decode cX6_drops 32 = .ok (.bipush 14, 2) := by decide +kernel
theorem dX6_drops_34 : decode cX6_drops 34 = .ok (.iload_n 2, 1) := by decide +kernel
theorem dX6_drops_35 : decode cX6_drops 35 = .ok (.iadd, 1) := by decide +kernel
theorem dX6_drops_36 : decode cX6_drops 36 = .ok (.aload_n 0, 1) := by decide +kernel
theorem dX6_drops_37 : decode cX6_drops 37 = .ok (.getfield 7, 3) := by decide +kernel
theorem dX6_drops_40 : decode cX6_drops 40 = .ok (.bipush 14, 2) := by decide +kernel
theorem dX6_drops_42 : decode cX6_drops 42 = .ok (.iload_n 2, 1) := by decide +kernel
theorem dX6_drops_43 : decode cX6_drops 43 = .ok (.iadd, 1) := by decide +kernel
theorem dX6_drops_44 : decode cX6_drops 44 = .ok (.bipush 7, 2) := by decide +kernel
theorem dX6_drops_46 : decode cX6_drops 46 = .ok (.iadd, 1) := by decide +kernel
theorem dX6_drops_47 : decode cX6_drops 47 = .ok (.iaload, 1) := by decide +kernel
theorem dX6_drops_48 : decode cX6_drops 48 = .ok (.iastore, 1) := by decide +kernel
theorem dX6_drops_49 : decode cX6_drops 49 = .ok (.iinc 2 1, 3) := by decide +kernel
theorem dX6_drops_52 : decode cX6_drops 52 = .ok (.goto (-37), 3) := by decide +kernel
theorem dX6_drops_55 : decode cX6_drops 55 = .ok (.bipush 60, 2) := by decide +kernel
theorem dX6_drops_57 : decode cX6_drops 57 = .ok (.iload_n 1, 1) := by decide +kernel
theorem dX6_drops_58 : decode cX6_drops 58 = .ok (.imul, 1) := by decide +kernel
theorem dX6_drops_59 : decode cX6_drops 59 = .ok (.istore_n 2, 1) := by decide +kernel
theorem dX6_drops_60 : decode cX6_drops 60 = .ok (.iload_n 2, 1) := by decide +kernel
theorem dX6_drops_61 : decode cX6_drops 61 = .ok (.bipush 60, 2) := by decide +kernel
theorem dX6_drops_63 : decode cX6_drops 63 = .ok (.aload_n 0, 1) := by decide +kernel
theorem dX6_drops_64 : decode cX6_drops 64 = .ok (.getfield 7, 3) := by decide +kernel
theorem dX6_drops_67 : decode cX6_drops 67 = .ok (.iconst 0, 1) := by decide +kernel
theorem dX6_drops_68 : decode cX6_drops 68 = .ok (.iaload, 1) := by decide +kernel
theorem dX6_drops_69 : decode cX6_drops 69 = .ok (.imul, 1) := by decide +kernel
theorem dX6_drops_70 : decode cX6_drops 70 = .ok (.if_icmp .ge 30, 3) := by decide +kernel
theorem dX6_drops_73 : decode cX6_drops 73 = .ok (.aload_n 0, 1) := by decide +kernel
theorem dX6_drops_74 : decode cX6_drops 74 = .ok (.getfield 7, 3) := by decide +kernel
theorem dX6_drops_77 : decode cX6_drops 77 = .ok (.bipush 98, 2) := by decide +kernel
theorem dX6_drops_79 : decode cX6_drops 79 = .ok (.iload_n 2, 1) := by decide +kernel
theorem dX6_drops_80 : decode cX6_drops 80 = .ok (.iadd, 1) := by decide +kernel
theorem dX6_drops_81 : decode cX6_drops 81 = .ok (.aload_n 0, 1) := by decide +kernel
theorem dX6_drops_82 : decode cX6_drops 82 = .ok (.getfield 7, 3) := by decide +kernel
theorem dX6_drops_85 : decode cX6_drops 85 = .ok (.bipush 98, 2) := by decide +kernel
theorem dX6_drops_87 : decode cX6_drops 87 = .ok (.iload_n 2, 1) := by decide +kernel
theorem dX6_drops_88 : decode cX6_drops 88 = .ok (.iadd, 1) := by decide +kernel
theorem dX6_drops_89 : decode cX6_drops 89 = .ok (.bipush 60, 2) := by decide +kernel
theorem dX6_drops_91 : decode cX6_drops 91 = .ok (.iadd, 1) := by decide +kernel
theorem dX6_drops_92 : decode cX6_drops 92 = .ok (.iaload, 1) := by decide +kernel
theorem dX6_drops_93 : decode cX6_drops 93 = .ok (.iastore, 1) := by decide +kernel
theorem dX6_drops_94 : decode cX6_drops 94 = .ok (.iinc 2 1, 3) := by decide +kernel
theorem dX6_drops_97 : decode cX6_drops 97 = .ok (.goto (-37), 3) := by decide +kernel
theorem dX6_drops_100 : decode cX6_drops 100 = .ok (.iconst 0, 1) := by decide +kernel
theorem dX6_drops_101 : decode cX6_drops 101 = .ok (.istore_n 2, 1) := by decide +kernel
theorem dX6_drops_102 : decode cX6_drops 102 = .ok (.iload_n 2, 1) := by decide +kernel
theorem dX6_drops_103 : decode cX6_drops 103 = .ok (.bipush 7, 2) := by decide +kernel
theorem dX6_drops_105 : decode cX6_drops 105 = .ok (.if_icmp .ge 29, 3) := by decide +kernel
theorem dX6_drops_108 : decode cX6_drops 108 = .ok (.aload_n 0, 1) := by decide +kernel
theorem dX6_drops_109 : decode cX6_drops 109 = .ok (.getfield 7, 3) := by decide +kernel
theorem dX6_drops_112 : decode cX6_drops 112 = .ok (.bipush 14, 2) := by decide +kernel
theorem dX6_drops_114 : decode cX6_drops 114 = .ok (.bipush 7, 2) := by decide +kernel
theorem dX6_drops_116 : decode cX6_drops 116 = .ok (.aload_n 0, 1) := by decide +kernel
theorem dX6_drops_117 : decode cX6_drops 117 = .ok (.getfield 7, 3) := by decide +kernel
theorem dX6_drops_120 : decode cX6_drops 120 = .ok (.iconst 0, 1) := by decide +kernel
theorem dX6_drops_121 : decode cX6_drops 121 = .ok (.iaload, 1) := by decide +kernel
theorem dX6_drops_122 : decode cX6_drops 122 = .ok (.imul, 1) := by decide +kernel
theorem dX6_drops_123 : decode cX6_drops 123 = .ok (.iadd, 1) := by decide +kernel
theorem dX6_drops_124 : decode cX6_drops 124 = .ok (.iload_n 2, 1) := by decide +kernel
theorem dX6_drops_125 : decode cX6_drops 125 = .ok (.iadd, 1) := by decide +kernel
theorem dX6_drops_126 : decode cX6_drops 126 = .ok (.iconst 0, 1) := by decide +kernel
theorem dX6_drops_127 : decode cX6_drops 127 = .ok (.iastore, 1) := by decide +kernel
theorem dX6_drops_128 : decode cX6_drops 128 = .ok (.iinc 2 1, 3) := by decide +kernel
theorem dX6_drops_131 : decode cX6_drops 131 = .ok (.goto (-29), 3) := by decide +kernel
theorem dX6_drops_134 : decode cX6_drops 134 = .ok (.iconst 0, 1) := by decide +kernel
theorem dX6_drops_135 : decode cX6_drops 135 = .ok (.istore_n 2, 1) := by decide +kernel
theorem dX6_drops_136 : decode cX6_drops 136 = .ok (.iload_n 2, 1) := by decide +kernel
theorem dX6_drops_137 : decode cX6_drops 137 = .ok (.bipush 60, 2) := by decide +kernel
theorem dX6_drops_139 : decode cX6_drops 139 = .ok (.if_icmp .ge 21, 3) := by decide +kernel
theorem dX6_drops_142 : decode cX6_drops 142 = .ok (.aload_n 0, 1) := by decide +kernel
theorem dX6_drops_143 : decode cX6_drops 143 = .ok (.aload_n 0, 1) := by decide +kernel
theorem dX6_drops_144 : decode cX6_drops 144 = .ok (.getfield 7, 3) := by decide +kernel
theorem dX6_drops_147 : decode cX6_drops 147 = .ok (.iconst 0, 1) := by decide +kernel
theorem dX6_drops_148 : decode cX6_drops 148 = .ok (.iaload, 1) := by decide +kernel
theorem dX6_drops_149 : decode cX6_drops 149 = .ok (.iload_n 2, 1) := by decide +kernel
theorem dX6_drops_150 : decode cX6_drops 150 = .ok (.iconst 0, 1) := by decide +kernel
theorem dX6_drops_151 : decode cX6_drops 151 = .ok (.invokevirtual 63, 3) := by decide +kernel
theorem dX6_drops_154 : decode cX6_drops 154 = .ok (.iinc 2 1, 3) := by decide +kernel
theorem dX6_drops_157 : decode cX6_drops 157 = .ok (.goto (-21), 3) := by decide +kernel
theorem dX6_drops_160 : decode cX6_drops 160 = .ok (.return_, 1) := by decide +kernel
theorem dX6_tear_0 : decode cX6_tear 0 = .ok (.aload_n 0, 1) := by decide +kernel
theorem dX6_tear_1 : decode cX6_tear 1 = .ok (.iconst 0, 1) := by decide +kernel
theorem dX6_tear_2 : decode cX6_tear 2 = .ok (.putfield 38, 3) := by decide +kernel
theorem dX6_tear_5 : decode cX6_tear 5 = .ok (.aload_n 0, 1) := by decide +kernel
theorem dX6_tear_6 : decode cX6_tear 6 = .ok (.iload_n 1, 1) := by decide +kernel
theorem dX6_tear_7 : decode cX6_tear 7 = .ok (.invokevirtual 84, 3) := by decide +kernel
theorem dX6_tear_10 : decode cX6_tear 10 = .ok (.ifCond .ne 5, 3) := by decide +kernel
theorem dX6_tear_13 : decode cX6_tear 13 = .ok (.iconst (-1), 1) := by decide +kernel
theorem dX6_tear_14 : decode cX6_tear 14 = .ok (.ireturn, 1) := by decide +kernel
theorem dX6_tear_15 : decode cX6_tear 15 = .ok (.aload_n 0, 1) := by decide +kernel
theorem dX6_tear_16 : decode cX6_tear 16 = .ok (.invokevirtual 81, 3) := by decide +kernel
theorem dX6_tear_19 : decode cX6_tear 19 = .ok (.aload_n 0, 1) := by decide +kernel
theorem dX6_tear_20 : decode cX6_tear 20 = .ok (.iload_n 1, 1) := by decide +kernel
theorem dX6_tear_21 : decode cX6_tear 21 = .ok (.iconst 5, 1) := by decide +kernel
theorem dX6_tear_22 : decode cX6_tear 22 = .ok (.invokevirtual 88, 3) := by decide +kernel
theorem dX6_tear_25 : decode cX6_tear 25 = .ok (.istore_n 2, 1) := by decide +kernel
theorem dX6_tear_26 : decode cX6_tear 26 = .ok (.aload_n 0, 1) := by decide +kernel
theorem dX6_tear_27 : decode cX6_tear 27 = .ok (.iload_n 1, 1) := by decide +kernel
theorem dX6_tear_28 : decode cX6_tear 28 = .ok (.invokevirtual 91, 3) := by decide +kernel
theorem dX6_tear_31 : decode cX6_tear 31 = .ok (.iload_n 2, 1) := by decide +kernel
theorem dX6_tear_32 : decode cX6_tear 32 = .ok (.ireturn, 1) := by decide +kernel
theorem dX6_coat_0 : decode cX6_coat 0 = .ok (.aload_n 0, 1) := by decide +kernel
theorem dX6_coat_1 : decode cX6_coat 1 = .ok (.iconst 0, 1) := by decide +kernel
theorem dX6_coat_2 : decode cX6_coat 2 = .ok (.putfield 38, 3) := by decide +kernel
theorem dX6_coat_5 : decode cX6_coat 5 = .ok (.aload_n 0, 1) := by decide +kernel
theorem dX6_coat_6 : decode cX6_coat 6 = .ok (.iload_n 1, 1) := by decide +kernel
theorem dX6_coat_7 : decode cX6_coat 7 = .ok (.invokevirtual 84, 3) := by decide +kernel
theorem dX6_coat_10 : decode cX6_coat 10 = .ok (.ifCond .ne 5, 3) := by decide +kernel
theorem dX6_coat_13 : decode cX6_coat 13 = .ok (.iconst (-1), 1) := by decide +kernel
theorem dX6_coat_14 : decode cX6_coat 14 = .ok (.ireturn, 1) := by decide +kernel
theorem dX6_coat_15 : decode cX6_coat 15 = .ok (.iload_n 2, 1) := by decide +kernel
theorem dX6_coat_16 : decode cX6_coat 16 = .ok (.iconst 1, 1) := by decide +kernel
theorem dX6_coat_17 : decode cX6_coat 17 = .ok (.bipush 99, 2) := by decide +kernel
theorem dX6_coat_19 : decode cX6_coat 19 = .ok (.invokestatic 42, 3) := by decide +kernel
theorem dX6_coat_22 : decode cX6_coat 22 = .ok (.ifCond .ne 6, 3) := by decide +kernel
theorem dX6_coat_25 : decode cX6_coat 25 = .ok (.bipush (-2), 2) := by decide +kernel
theorem dX6_coat_27 : decode cX6_coat 27 = .ok (.ireturn, 1) := by decide +kernel
theorem dX6_coat_28 : decode cX6_coat 28 = .ok (.aload_n 0, 1) := by decide +kernel
theorem dX6_coat_29 : decode cX6_coat 29 = .ok (.invokevirtual 81, 3) := by decide +kernel
theorem dX6_coat_32 : decode cX6_coat 32 = .ok (.iconst 0, 1) := by decide +kernel
theorem dX6_coat_33 : decode cX6_coat 33 = .ok (.istore_n 3, 1) := by decide +kernel
theorem dX6_coat_34 : decode cX6_coat 34 = .ok (.iconst 0, 1) := by decide +kernel
theorem dX6_coat_35 : decode cX6_coat 35 = .ok (.istore 4, 2) := by decide +kernel
theorem dX6_coat_37 : decode cX6_coat 37 = .ok (.iload 4, 2) := by decide +kernel
theorem dX6_coat_39 : decode cX6_coat 39 = .ok (.bipush 60, 2) := by decide +kernel
theorem dX6_coat_41 : decode cX6_coat 41 = .ok (.if_icmp .ge 56, 3) := by decide +kernel
theorem dX6_coat_44 : decode cX6_coat 44 = .ok (.aload_n 0, 1) := by decide +kernel
theorem dX6_coat_45 : decode cX6_coat 45 = .ok (.iload 4, 2) := by decide +kernel
theorem dX6_coat_47 : decode cX6_coat 47 = .ok (.bipush (-6), 2) := by decide +kernel
theorem dX6_coat_49 : decode cX6_coat 49 = .ok (.invokevirtual 60, 3) := by decide +kernel
theorem dX6_coat_52 : decode cX6_coat 52 = .ok (.iload_n 1, 1) := by decide +kernel
theorem dX6_coat_53 : decode cX6_coat 53 = .ok (.if_icmp .ne 38, 3) := by decide +kernel
theorem dX6_coat_56 : decode cX6_coat 56 = .ok (.aload_n 0, 1) := by decide +kernel
theorem dX6_coat_57 : decode cX6_coat 57 = .ok (.iload_n 1, 1) := by decide +kernel
theorem dX6_coat_58 : decode cX6_coat 58 = .ok (.iload 4, 2) := by decide +kernel
theorem dX6_coat_60 : decode cX6_coat 60 = .ok (.invokevirtual 57, 3) := by decide +kernel
theorem dX6_coat_63 : decode cX6_coat 63 = .ok (.iload_n 2, 1) := by decide +kernel
theorem dX6_coat_64 : decode cX6_coat 64 = .ok (.iadd, 1) := by decide +kernel
theorem dX6_coat_65 : decode cX6_coat 65 = .ok (.istore 5, 2) := by decide +kernel
theorem dX6_coat_67 : decode cX6_coat 67 = .ok (.aload_n 0, 1) := by decide +kernel
theorem dX6_coat_68 : decode cX6_coat 68 = .ok (.iload_n 1, 1) := by decide +kernel
theorem dX6_coat_69 : decode cX6_coat 69 = .ok (.iload 4, 2) := by decide +kernel
theorem dX6_coat_71 : decode cX6_coat 71 = .ok (.iload 5, 2) := by decide +kernel
theorem dX6_coat_73 : decode cX6_coat 73 = .ok (.bipush 99, 2) := by decide +kernel
theorem dX6_coat_75 : decode cX6_coat 75 = .ok (.if_icmp .le 8, 3) := by decide +kernel
theorem dX6_coat_78 : decode cX6_coat 78 = .ok (.bipush 99, 2) := by decide +kernel
theorem dX6_coat_80 : decode cX6_coat 80 = .ok (.goto 5, 3) := by decide +kernel
theorem dX6_coat_83 : decode cX6_coat 83 = .ok (.iload 5, 2) := by decide +kernel
theorem dX6_coat_85 : decode cX6_coat 85 = .ok (.invokevirtual 63, 3) := by decide +kernel
theorem dX6_coat_88 : decode cX6_coat 88 = .ok (.iinc 3 1, 3) := by decide +kernel
theorem dX6_coat_91 : decode cX6_coat 91 = .ok (.iinc 4 1, 3) := by decide +kernel
theorem dX6_coat_94 : decode cX6_coat 94 = .ok (.goto (-57), 3) := by decide +kernel
theorem dX6_coat_97 : decode cX6_coat 97 = .ok (.iload_n 3, 1) := by decide +kernel
theorem dX6_coat_98 : decode cX6_coat 98 = .ok (.ireturn, 1) := by decide +kernel
theorem dX6_scrape_0 : decode cX6_scrape 0 = .ok (.aload_n 0, 1) := by decide +kernel
theorem dX6_scrape_1 : decode cX6_scrape 1 = .ok (.iconst 0, 1) := by decide +kernel
theorem dX6_scrape_2 : decode cX6_scrape 2 = .ok (.putfield 38, 3) := by decide +kernel
theorem dX6_scrape_5 : decode cX6_scrape 5 = .ok (.iload_n 1, 1) := by decide +kernel
theorem dX6_scrape_6 : decode cX6_scrape 6 = .ok (.iload_n 2, 1) := by decide +kernel
theorem dX6_scrape_7 : decode cX6_scrape 7 = .ok (.invokestatic 78, 3) := by decide +kernel
theorem dX6_scrape_10 : decode cX6_scrape 10 = .ok (.ifCond .ne 5, 3) := by decide +kernel
theorem dX6_scrape_13 : decode cX6_scrape 13 = .ok (.iconst (-1), 1) := by decide +kernel
theorem dX6_scrape_14 : decode cX6_scrape 14 = .ok (.ireturn, 1) := by decide +kernel
theorem dX6_scrape_15 : decode cX6_scrape 15 = .ok (.iload_n 3, 1) := by decide +kernel
theorem dX6_scrape_16 : decode cX6_scrape 16 = .ok (.iconst 1, 1) := by decide +kernel
theorem dX6_scrape_17 : decode cX6_scrape 17 = .ok (.sipush 300, 3) := by decide +kernel
theorem dX6_scrape_20 : decode cX6_scrape 20 = .ok (.invokestatic 42, 3) := by decide +kernel
theorem dX6_scrape_23 : decode cX6_scrape 23 = .ok (.ifCond .ne 6, 3) := by decide +kernel
theorem dX6_scrape_26 : decode cX6_scrape 26 = .ok (.bipush (-2), 2) := by decide +kernel
theorem dX6_scrape_28 : decode cX6_scrape 28 = .ok (.ireturn, 1) := by decide +kernel
theorem dX6_scrape_29 : decode cX6_scrape 29 = .ok (.bipush 10, 2) := by decide +kernel
theorem dX6_scrape_31 : decode cX6_scrape 31 = .ok (.iload_n 2, 1) := by decide +kernel
theorem dX6_scrape_32 : decode cX6_scrape 32 = .ok (.imul, 1) := by decide +kernel
theorem dX6_scrape_33 : decode cX6_scrape 33 = .ok (.iload_n 1, 1) := by decide +kernel
theorem dX6_scrape_34 : decode cX6_scrape 34 = .ok (.iadd, 1) := by decide +kernel
theorem dX6_scrape_35 : decode cX6_scrape 35 = .ok (.istore 4, 2) := by decide +kernel
theorem dX6_scrape_37 : decode cX6_scrape 37 = .ok (.aload_n 0, 1) := by decide +kernel
theorem dX6_scrape_38 : decode cX6_scrape 38 = .ok (.iload 4, 2) := by decide +kernel
theorem dX6_scrape_40 : decode cX6_scrape 40 = .ok (.bipush (-6), 2) := by decide +kernel
theorem dX6_scrape_42 : decode cX6_scrape 42 = .ok (.invokevirtual 60, 3) := by decide +kernel
theorem dX6_scrape_45 : decode cX6_scrape 45 = .ok (.istore 5, 2) := by decide +kernel
theorem dX6_scrape_47 : decode cX6_scrape 47 = .ok (.iload 5, 2) := by decide +kernel
theorem dX6_scrape_49 : decode cX6_scrape 49 = .ok (.bipush (-6), 2) := by decide +kernel
theorem dX6_scrape_51 : decode cX6_scrape 51 = .ok (.if_icmp .ne 6, 3) := by decide +kernel
theorem dX6_scrape_54 : decode cX6_scrape 54 = .ok (.bipush (-5), 2) := by decide +kernel
theorem dX6_scrape_56 : decode cX6_scrape 56 = .ok (.ireturn, 1) := by decide +kernel
theorem dX6_scrape_57 : decode cX6_scrape 57 = .ok (.aload_n 0, 1) := by decide +kernel
theorem dX6_scrape_58 : decode cX6_scrape 58 = .ok (.invokevirtual 81, 3) := by decide +kernel
theorem dX6_scrape_61 : decode cX6_scrape 61 = .ok (.iload_n 3, 1) := by decide +kernel
theorem dX6_scrape_62 : decode cX6_scrape 62 = .ok (.istore 6, 2) := by decide +kernel
theorem dX6_scrape_64 : decode cX6_scrape 64 = .ok (.iconst 0, 1) := by decide +kernel
theorem dX6_scrape_65 : decode cX6_scrape 65 = .ok (.istore 7, 2) := by decide +kernel
theorem dX6_scrape_67 : decode cX6_scrape 67 = .ok (.iload 5, 2) := by decide +kernel
theorem dX6_scrape_69 : decode cX6_scrape 69 = .ok (.bipush (-6), 2) := by decide +kernel
theorem dX6_scrape_71 : decode cX6_scrape 71 = .ok (.if_icmp .eq 73, 3) := by decide +kernel
theorem dX6_scrape_74 : decode cX6_scrape 74 = .ok (.iload 6, 2) := by decide +kernel
theorem dX6_scrape_76 : decode cX6_scrape 76 = .ok (.ifCond .le 68, 3) := by decide +kernel
theorem dX6_scrape_79 : decode cX6_scrape 79 = .ok (.aload_n 0, 1) := by decide +kernel
theorem dX6_scrape_80 : decode cX6_scrape 80 = .ok (.iload 5, 2) := by decide +kernel
theorem dX6_scrape_82 : decode cX6_scrape 82 = .ok (.iload 4, 2) := by decide +kernel
theorem dX6_scrape_84 : decode cX6_scrape 84 = .ok (.invokevirtual 57, 3) := by decide +kernel
theorem dX6_scrape_87 : decode cX6_scrape 87 = .ok (.istore 8, 2) := by decide +kernel
theorem dX6_scrape_89 : decode cX6_scrape 89 = .ok (.iload 7, 2) := by decide +kernel
theorem dX6_scrape_91 : decode cX6_scrape 91 = .ok (.aload_n 0, 1) := by decide +kernel
theorem dX6_scrape_92 : decode cX6_scrape 92 = .ok (.iload 5, 2) := by decide +kernel
theorem dX6_scrape_94 : decode cX6_scrape 94 = .ok (.iload 4, 2) := by decide +kernel
theorem dX6_scrape_96 : decode cX6_scrape 96 = .ok (.iload 6, 2) := by decide +kernel
theorem dX6_scrape_98 : decode cX6_scrape 98 = .ok (.invokevirtual 67, 3) := by decide +kernel
theorem dX6_scrape_101 : decode cX6_scrape 101 = .ok (.ifCond .eq 7, 3) := by decide +kernel
theorem dX6_scrape_104 : decode cX6_scrape 104 = .ok (.iconst 1, 1) := by decide +kernel
theorem dX6_scrape_105 : decode cX6_scrape 105 = .ok (.goto 4, 3) := by decide +kernel
theorem dX6_scrape_108 : decode cX6_scrape 108 = .ok (.iconst 0, 1) := by decide +kernel
theorem dX6_scrape_109 : decode cX6_scrape 109 = .ok (.iadd, 1) := by decide +kernel
theorem dX6_scrape_110 : decode cX6_scrape 110 = .ok (.istore 7, 2) := by decide +kernel
theorem dX6_scrape_112 : decode cX6_scrape 112 = .ok (.iload 6, 2) := by decide +kernel
theorem dX6_scrape_114 : decode cX6_scrape 114 = .ok (.iload 8, 2) := by decide +kernel
theorem dX6_scrape_116 : decode cX6_scrape 116 = .ok (.iload 6, 2) := by decide +kernel
theorem dX6_scrape_118 : decode cX6_scrape 118 = .ok (.if_icmp .ge 8, 3) := by decide +kernel
theorem dX6_scrape_121 : decode cX6_scrape 121 = .ok (.iload 8, 2) := by decide +kernel
theorem dX6_scrape_123 : decode cX6_scrape 123 = .ok (.goto 5, 3) := by decide +kernel
theorem dX6_scrape_126 : decode cX6_scrape 126 = .ok (.iload 6, 2) := by decide +kernel
theorem dX6_scrape_128 : decode cX6_scrape 128 = .ok (.isub, 1) := by decide +kernel
theorem dX6_scrape_129 : decode cX6_scrape 129 = .ok (.istore 6, 2) := by decide +kernel
theorem dX6_scrape_131 : decode cX6_scrape 131 = .ok (.aload_n 0, 1) := by decide +kernel
theorem dX6_scrape_132 : decode cX6_scrape 132 = .ok (.iload 4, 2) := by decide +kernel
theorem dX6_scrape_134 : decode cX6_scrape 134 = .ok (.bipush (-6), 2) := by decide +kernel
theorem dX6_scrape_136 : decode cX6_scrape 136 = .ok (.invokevirtual 60, 3) := by decide +kernel
theorem dX6_scrape_139 : decode cX6_scrape 139 = .ok (.istore 5, 2) := by decide +kernel
theorem dX6_scrape_141 : decode cX6_scrape 141 = .ok (.goto (-74), 3) := by decide +kernel
theorem dX6_scrape_144 : decode cX6_scrape 144 = .ok (.iload 7, 2) := by decide +kernel
theorem dX6_scrape_146 : decode cX6_scrape 146 = .ok (.ireturn, 1) := by decide +kernel
theorem dX6_sun_0 : decode cX6_sun 0 = .ok (.aload_n 0, 1) := by decide +kernel
theorem dX6_sun_1 : decode cX6_sun 1 = .ok (.iconst 0, 1) := by decide +kernel
theorem dX6_sun_2 : decode cX6_sun 2 = .ok (.putfield 38, 3) := by decide +kernel
theorem dX6_sun_5 : decode cX6_sun 5 = .ok (.iload_n 1, 1) := by decide +kernel
theorem dX6_sun_6 : decode cX6_sun 6 = .ok (.iconst 0, 1) := by decide +kernel
theorem dX6_sun_7 : decode cX6_sun 7 = .ok (.bipush 9, 2) := by decide +kernel
theorem dX6_sun_9 : decode cX6_sun 9 = .ok (.invokestatic 42, 3) := by decide +kernel
theorem dX6_sun_12 : decode cX6_sun 12 = .ok (.ifCond .ne 5, 3) := by decide +kernel
theorem dX6_sun_15 : decode cX6_sun 15 = .ok (.iconst (-1), 1) := by decide +kernel
theorem dX6_sun_16 : decode cX6_sun 16 = .ok (.ireturn, 1) := by decide +kernel
theorem dX6_sun_17 : decode cX6_sun 17 = .ok (.iload_n 2, 1) := by decide +kernel
theorem dX6_sun_18 : decode cX6_sun 18 = .ok (.iconst 0, 1) := by decide +kernel
theorem dX6_sun_19 : decode cX6_sun 19 = .ok (.bipush 9, 2) := by decide +kernel
theorem dX6_sun_21 : decode cX6_sun 21 = .ok (.invokestatic 42, 3) := by decide +kernel
theorem dX6_sun_24 : decode cX6_sun 24 = .ok (.ifCond .ne 6, 3) := by decide +kernel
theorem dX6_sun_27 : decode cX6_sun 27 = .ok (.bipush (-2), 2) := by decide +kernel
theorem dX6_sun_29 : decode cX6_sun 29 = .ok (.ireturn, 1) := by decide +kernel
theorem dX6_sun_30 : decode cX6_sun 30 = .ok (.aload_n 0, 1) := by decide +kernel
theorem dX6_sun_31 : decode cX6_sun 31 = .ok (.invokevirtual 81, 3) := by decide +kernel
theorem dX6_sun_34 : decode cX6_sun 34 = .ok (.aload_n 0, 1) := by decide +kernel
theorem dX6_sun_35 : decode cX6_sun 35 = .ok (.getfield 7, 3) := by decide +kernel
theorem dX6_sun_38 : decode cX6_sun 38 = .ok (.iconst 4, 1) := by decide +kernel
theorem dX6_sun_39 : decode cX6_sun 39 = .ok (.iload_n 1, 1) := by decide +kernel
theorem dX6_sun_40 : decode cX6_sun 40 = .ok (.iadd, 1) := by decide +kernel
theorem dX6_sun_41 : decode cX6_sun 41 = .ok (.iaload, 1) := by decide +kernel
theorem dX6_sun_42 : decode cX6_sun 42 = .ok (.istore_n 3, 1) := by decide +kernel
theorem dX6_sun_43 : decode cX6_sun 43 = .ok (.aload_n 0, 1) := by decide +kernel
theorem dX6_sun_44 : decode cX6_sun 44 = .ok (.getfield 7, 3) := by decide +kernel
theorem dX6_sun_47 : decode cX6_sun 47 = .ok (.iconst 4, 1) := by decide +kernel
theorem dX6_sun_48 : decode cX6_sun 48 = .ok (.iload_n 1, 1) := by decide +kernel
theorem dX6_sun_49 : decode cX6_sun 49 = .ok (.iadd, 1) := by decide +kernel
theorem dX6_sun_50 : decode cX6_sun 50 = .ok (.iload_n 2, 1) := by decide +kernel
theorem dX6_sun_51 : decode cX6_sun 51 = .ok (.iastore, 1) := by decide +kernel
theorem dX6_sun_52 : decode cX6_sun 52 = .ok (.iload_n 3, 1) := by decide +kernel
theorem dX6_sun_53 : decode cX6_sun 53 = .ok (.ireturn, 1) := by decide +kernel
theorem dX6_pays_0 : decode cX6_pays 0 = .ok (.aload_n 0, 1) := by decide +kernel
theorem dX6_pays_1 : decode cX6_pays 1 = .ok (.iload_n 1, 1) := by decide +kernel
theorem dX6_pays_2 : decode cX6_pays 2 = .ok (.bipush (-6), 2) := by decide +kernel
theorem dX6_pays_4 : decode cX6_pays 4 = .ok (.invokevirtual 60, 3) := by decide +kernel
theorem dX6_pays_7 : decode cX6_pays 7 = .ok (.istore_n 3, 1) := by decide +kernel
theorem dX6_pays_8 : decode cX6_pays 8 = .ok (.iload_n 3, 1) := by decide +kernel
theorem dX6_pays_9 : decode cX6_pays 9 = .ok (.bipush (-6), 2) := by decide +kernel
theorem dX6_pays_11 : decode cX6_pays 11 = .ok (.if_icmp .eq 13, 3) := by decide +kernel
theorem dX6_pays_14 : decode cX6_pays 14 = .ok (.aload_n 0, 1) := by decide +kernel
theorem dX6_pays_15 : decode cX6_pays 15 = .ok (.iload_n 3, 1) := by decide +kernel
theorem dX6_pays_16 : decode cX6_pays 16 = .ok (.iconst 4, 1) := by decide +kernel
theorem dX6_pays_17 : decode cX6_pays 17 = .ok (.invokevirtual 46, 3) := by decide +kernel
theorem dX6_pays_20 : decode cX6_pays 20 = .ok (.iload_n 2, 1) := by decide +kernel
theorem dX6_pays_21 : decode cX6_pays 21 = .ok (.if_icmp .le 5, 3) := by decide +kernel
theorem dX6_pays_24 : decode cX6_pays 24 = .ok (.iconst 0, 1) := by decide +kernel
theorem dX6_pays_25 : decode cX6_pays 25 = .ok (.ireturn, 1) := by decide +kernel
theorem dX6_pays_26 : decode cX6_pays 26 = .ok (.aload_n 0, 1) := by decide +kernel
theorem dX6_pays_27 : decode cX6_pays 27 = .ok (.iload_n 3, 1) := by decide +kernel
theorem dX6_pays_28 : decode cX6_pays 28 = .ok (.iconst 4, 1) := by decide +kernel
theorem dX6_pays_29 : decode cX6_pays 29 = .ok (.invokevirtual 46, 3) := by decide +kernel
theorem dX6_pays_32 : decode cX6_pays 32 = .ok (.istore 4, 2) := by decide +kernel
theorem dX6_pays_34 : decode cX6_pays 34 = .ok (.aload_n 0, 1) := by decide +kernel
theorem dX6_pays_35 : decode cX6_pays 35 = .ok (.iload_n 3, 1) := by decide +kernel
theorem dX6_pays_36 : decode cX6_pays 36 = .ok (.iconst 5, 1) := by decide +kernel
theorem dX6_pays_37 : decode cX6_pays 37 = .ok (.iconst 1, 1) := by decide +kernel
theorem dX6_pays_38 : decode cX6_pays 38 = .ok (.invokevirtual 95, 3) := by decide +kernel
theorem dX6_pays_41 : decode cX6_pays 41 = .ok (.aload_n 0, 1) := by decide +kernel
theorem dX6_pays_42 : decode cX6_pays 42 = .ok (.iload_n 3, 1) := by decide +kernel
theorem dX6_pays_43 : decode cX6_pays 43 = .ok (.bipush 6, 2) := by decide +kernel
theorem dX6_pays_45 : decode cX6_pays 45 = .ok (.iload 4, 2) := by decide +kernel
theorem dX6_pays_47 : decode cX6_pays 47 = .ok (.invokevirtual 95, 3) := by decide +kernel
theorem dX6_pays_50 : decode cX6_pays 50 = .ok (.aload_n 0, 1) := by decide +kernel
theorem dX6_pays_51 : decode cX6_pays 51 = .ok (.getfield 7, 3) := by decide +kernel
theorem dX6_pays_54 : decode cX6_pays 54 = .ok (.iconst 2, 1) := by decide +kernel
theorem dX6_pays_55 : decode cX6_pays 55 = .ok (.dup2, 1) := by decide +kernel
theorem dX6_pays_56 : decode cX6_pays 56 = .ok (.iaload, 1) := by decide +kernel
theorem dX6_pays_57 : decode cX6_pays 57 = .ok (.iconst 1, 1) := by decide +kernel
theorem dX6_pays_58 : decode cX6_pays 58 = .ok (.iadd, 1) := by decide +kernel
theorem dX6_pays_59 : decode cX6_pays 59 = .ok (.iastore, 1) := by decide +kernel
theorem dX6_pays_60 : decode cX6_pays 60 = .ok (.aload_n 0, 1) := by decide +kernel
theorem dX6_pays_61 : decode cX6_pays 61 = .ok (.getfield 7, 3) := by decide +kernel
theorem dX6_pays_64 : decode cX6_pays 64 = .ok (.iconst 3, 1) := by decide +kernel
theorem dX6_pays_65 : decode cX6_pays 65 = .ok (.dup2, 1) := by decide +kernel
theorem dX6_pays_66 : decode cX6_pays 66 = .ok (.iaload, 1) := by decide +kernel
theorem dX6_pays_67 : decode cX6_pays 67 = .ok (.iload 4, 2) := by decide +kernel
theorem dX6_pays_69 : decode cX6_pays 69 = .ok (.iadd, 1) := by decide +kernel
theorem dX6_pays_70 : decode cX6_pays 70 = .ok (.iastore, 1) := by decide +kernel
theorem dX6_pays_71 : decode cX6_pays 71 = .ok (.iconst 1, 1) := by decide +kernel
theorem dX6_pays_72 : decode cX6_pays 72 = .ok (.ireturn, 1) := by decide +kernel
theorem dX6_buy_0 : decode cX6_buy 0 = .ok (.aload_n 0, 1) := by decide +kernel
theorem dX6_buy_1 : decode cX6_buy 1 = .ok (.iconst 0, 1) := by decide +kernel
theorem dX6_buy_2 : decode cX6_buy 2 = .ok (.putfield 38, 3) := by decide +kernel
theorem dX6_buy_5 : decode cX6_buy 5 = .ok (.iload_n 1, 1) := by decide +kernel
theorem dX6_buy_6 : decode cX6_buy 6 = .ok (.iload_n 2, 1) := by decide +kernel
theorem dX6_buy_7 : decode cX6_buy 7 = .ok (.invokestatic 78, 3) := by decide +kernel
theorem dX6_buy_10 : decode cX6_buy 10 = .ok (.ifCond .ne 5, 3) := by decide +kernel
theorem dX6_buy_13 : decode cX6_buy 13 = .ok (.iconst (-1), 1) := by decide +kernel
theorem dX6_buy_14 : decode cX6_buy 14 = .ok (.ireturn, 1) := by decide +kernel
theorem dX6_buy_15 : decode cX6_buy 15 = .ok (.iload_n 3, 1) := by decide +kernel
theorem dX6_buy_16 : decode cX6_buy 16 = .ok (.iconst 0, 1) := by decide +kernel
theorem dX6_buy_17 : decode cX6_buy 17 = .ok (.sipush 999, 3) := by decide +kernel
theorem dX6_buy_20 : decode cX6_buy 20 = .ok (.invokestatic 42, 3) := by decide +kernel
theorem dX6_buy_23 : decode cX6_buy 23 = .ok (.ifCond .ne 6, 3) := by decide +kernel
theorem dX6_buy_26 : decode cX6_buy 26 = .ok (.bipush (-2), 2) := by decide +kernel
theorem dX6_buy_28 : decode cX6_buy 28 = .ok (.ireturn, 1) := by decide +kernel
theorem dX6_buy_29 : decode cX6_buy 29 = .ok (.bipush 10, 2) := by decide +kernel
theorem dX6_buy_31 : decode cX6_buy 31 = .ok (.iload_n 2, 1) := by decide +kernel
theorem dX6_buy_32 : decode cX6_buy 32 = .ok (.imul, 1) := by decide +kernel
theorem dX6_buy_33 : decode cX6_buy 33 = .ok (.iload_n 1, 1) := by decide +kernel
theorem dX6_buy_34 : decode cX6_buy 34 = .ok (.iadd, 1) := by decide +kernel
theorem dX6_buy_35 : decode cX6_buy 35 = .ok (.istore 4, 2) := by decide +kernel
theorem dX6_buy_37 : decode cX6_buy 37 = .ok (.aload_n 0, 1) := by decide +kernel
theorem dX6_buy_38 : decode cX6_buy 38 = .ok (.iload 4, 2) := by decide +kernel
theorem dX6_buy_40 : decode cX6_buy 40 = .ok (.invokevirtual 74, 3) := by decide +kernel
theorem dX6_buy_43 : decode cX6_buy 43 = .ok (.istore 5, 2) := by decide +kernel
theorem dX6_buy_45 : decode cX6_buy 45 = .ok (.iload 5, 2) := by decide +kernel
theorem dX6_buy_47 : decode cX6_buy 47 = .ok (.bipush (-6), 2) := by decide +kernel
theorem dX6_buy_49 : decode cX6_buy 49 = .ok (.if_icmp .eq 9, 3) := by decide +kernel
theorem dX6_buy_52 : decode cX6_buy 52 = .ok (.iload 5, 2) := by decide +kernel
theorem dX6_buy_54 : decode cX6_buy 54 = .ok (.iload_n 3, 1) := by decide +kernel
theorem dX6_buy_55 : decode cX6_buy 55 = .ok (.if_icmp .le 6, 3) := by decide +kernel
theorem dX6_buy_58 : decode cX6_buy 58 = .ok (.bipush (-5), 2) := by decide +kernel
theorem dX6_buy_60 : decode cX6_buy 60 = .ok (.ireturn, 1) := by decide +kernel
theorem dX6_buy_61 : decode cX6_buy 61 = .ok (.aload_n 0, 1) := by decide +kernel
theorem dX6_buy_62 : decode cX6_buy 62 = .ok (.invokevirtual 81, 3) := by decide +kernel
theorem dX6_buy_65 : decode cX6_buy 65 = .ok (.aload_n 0, 1) := by decide +kernel
theorem dX6_buy_66 : decode cX6_buy 66 = .ok (.iload 4, 2) := by decide +kernel
theorem dX6_buy_68 : decode cX6_buy 68 = .ok (.iload_n 3, 1) := by decide +kernel
theorem dX6_buy_69 : decode cX6_buy 69 = .ok (.invokevirtual 98, 3) := by decide +kernel
theorem dX6_buy_72 : decode cX6_buy 72 = .ok (.pop, 1) := by decide +kernel
theorem dX6_buy_73 : decode cX6_buy 73 = .ok (.iload 5, 2) := by decide +kernel
theorem dX6_buy_75 : decode cX6_buy 75 = .ok (.ireturn, 1) := by decide +kernel
theorem dX6_buyAll_0 : decode cX6_buyAll 0 = .ok (.aload_n 0, 1) := by decide +kernel
theorem dX6_buyAll_1 : decode cX6_buyAll 1 = .ok (.iconst 0, 1) := by decide +kernel
theorem dX6_buyAll_2 : decode cX6_buyAll 2 = .ok (.putfield 38, 3) := by decide +kernel
theorem dX6_buyAll_5 : decode cX6_buyAll 5 = .ok (.aload_n 0, 1) := by decide +kernel
theorem dX6_buyAll_6 : decode cX6_buyAll 6 = .ok (.invokevirtual 101, 3) := by decide +kernel
theorem dX6_buyAll_9 : decode cX6_buyAll 9 = .ok (.bipush (-6), 2) := by decide +kernel
theorem dX6_buyAll_11 : decode cX6_buyAll 11 = .ok (.if_icmp .eq 6, 3) := by decide +kernel
theorem dX6_buyAll_14 : decode cX6_buyAll 14 = .ok (.bipush (-3), 2) := by decide +kernel
theorem dX6_buyAll_16 : decode cX6_buyAll 16 = .ok (.ireturn, 1) := by decide +kernel
theorem dX6_buyAll_17 : decode cX6_buyAll 17 = .ok (.aload_n 0, 1) := by decide +kernel
theorem dX6_buyAll_18 : decode cX6_buyAll 18 = .ok (.invokevirtual 81, 3) := by decide +kernel
theorem dX6_buyAll_21 : decode cX6_buyAll 21 = .ok (.aload_n 0, 1) := by decide +kernel
theorem dX6_buyAll_22 : decode cX6_buyAll 22 = .ok (.iconst 0, 1) := by decide +kernel
theorem dX6_buyAll_23 : decode cX6_buyAll 23 = .ok (.putfield 104, 3) := by decide +kernel
theorem dX6_buyAll_26 : decode cX6_buyAll 26 = .ok (.iconst 0, 1) := by decide +kernel
theorem dX6_buyAll_27 : decode cX6_buyAll 27 = .ok (.istore_n 1, 1) := by decide +kernel
theorem dX6_buyAll_28 : decode cX6_buyAll 28 = .ok (.iconst 0, 1) := by decide +kernel
theorem dX6_buyAll_29 : decode cX6_buyAll 29 = .ok (.istore_n 2, 1) := by decide +kernel
theorem dX6_buyAll_30 : decode cX6_buyAll 30 = .ok (.iload_n 2, 1) := by decide +kernel
theorem dX6_buyAll_31 : decode cX6_buyAll 31 = .ok (.aload_n 0, 1) := by decide +kernel
theorem dX6_buyAll_32 : decode cX6_buyAll 32 = .ok (.getfield 107, 3) := by decide +kernel
theorem dX6_buyAll_35 : decode cX6_buyAll 35 = .ok (.if_icmp .ge 42, 3) := by decide +kernel
theorem dX6_buyAll_38 : decode cX6_buyAll 38 = .ok (.iload_n 1, 1) := by decide +kernel
theorem dX6_buyAll_39 : decode cX6_buyAll 39 = .ok (.aload_n 0, 1) := by decide +kernel
theorem dX6_buyAll_40 : decode cX6_buyAll 40 = .ok (.aload_n 0, 1) := by decide +kernel
theorem dX6_buyAll_41 : decode cX6_buyAll 41 = .ok (.getfield 35, 3) := by decide +kernel
theorem dX6_buyAll_44 : decode cX6_buyAll 44 = .ok (.iconst 2, 1) := by decide +kernel
theorem dX6_buyAll_45 : decode cX6_buyAll 45 = .ok (.iload_n 2, 1) := by decide +kernel
theorem dX6_buyAll_46 : decode cX6_buyAll 46 = .ok (.imul, 1) := by decide +kernel
theorem dX6_buyAll_47 : decode cX6_buyAll 47 = .ok (.iaload, 1) := by decide +kernel
theorem dX6_buyAll_48 : decode cX6_buyAll 48 = .ok (.aload_n 0, 1) := by decide +kernel
theorem dX6_buyAll_49 : decode cX6_buyAll 49 = .ok (.getfield 35, 3) := by decide +kernel
theorem dX6_buyAll_52 : decode cX6_buyAll 52 = .ok (.iconst 2, 1) := by decide +kernel
theorem dX6_buyAll_53 : decode cX6_buyAll 53 = .ok (.iload_n 2, 1) := by decide +kernel
theorem dX6_buyAll_54 : decode cX6_buyAll 54 = .ok (.imul, 1) := by decide +kernel
theorem dX6_buyAll_55 : decode cX6_buyAll 55 = .ok (.iconst 1, 1) := by decide +kernel
theorem dX6_buyAll_56 : decode cX6_buyAll 56 = .ok (.iadd, 1) := by decide +kernel
theorem dX6_buyAll_57 : decode cX6_buyAll 57 = .ok (.iaload, 1) := by decide +kernel
theorem dX6_buyAll_58 : decode cX6_buyAll 58 = .ok (.invokevirtual 98, 3) := by decide +kernel
theorem dX6_buyAll_61 : decode cX6_buyAll 61 = .ok (.ifCond .eq 7, 3) := by decide +kernel
theorem dX6_buyAll_64 : decode cX6_buyAll 64 = .ok (.iconst 1, 1) := by decide +kernel
theorem dX6_buyAll_65 : decode cX6_buyAll 65 = .ok (.goto 4, 3) := by decide +kernel
theorem dX6_buyAll_68 : decode cX6_buyAll 68 = .ok (.iconst 0, 1) := by decide +kernel
theorem dX6_buyAll_69 : decode cX6_buyAll 69 = .ok (.iadd, 1) := by decide +kernel
theorem dX6_buyAll_70 : decode cX6_buyAll 70 = .ok (.istore_n 1, 1) := by decide +kernel
theorem dX6_buyAll_71 : decode cX6_buyAll 71 = .ok (.iinc 2 1, 3) := by decide +kernel
theorem dX6_buyAll_74 : decode cX6_buyAll 74 = .ok (.goto (-44), 3) := by decide +kernel
theorem dX6_buyAll_77 : decode cX6_buyAll 77 = .ok (.iload_n 1, 1) := by decide +kernel
theorem dX6_buyAll_78 : decode cX6_buyAll 78 = .ok (.ireturn, 1) := by decide +kernel
theorem dX6_pass_0 : decode cX6_pass 0 = .ok (.aload_n 0, 1) := by decide +kernel
theorem dX6_pass_1 : decode cX6_pass 1 = .ok (.iconst 0, 1) := by decide +kernel
theorem dX6_pass_2 : decode cX6_pass 2 = .ok (.putfield 38, 3) := by decide +kernel
theorem dX6_pass_5 : decode cX6_pass 5 = .ok (.iload_n 1, 1) := by decide +kernel
theorem dX6_pass_6 : decode cX6_pass 6 = .ok (.iconst 1, 1) := by decide +kernel
theorem dX6_pass_7 : decode cX6_pass 7 = .ok (.bipush 100, 2) := by decide +kernel
theorem dX6_pass_9 : decode cX6_pass 9 = .ok (.invokestatic 42, 3) := by decide +kernel
theorem dX6_pass_12 : decode cX6_pass 12 = .ok (.ifCond .ne 6, 3) := by decide +kernel
theorem dX6_pass_15 : decode cX6_pass 15 = .ok (.bipush (-2), 2) := by decide +kernel
theorem dX6_pass_17 : decode cX6_pass 17 = .ok (.ireturn, 1) := by decide +kernel
theorem dX6_pass_18 : decode cX6_pass 18 = .ok (.aload_n 0, 1) := by decide +kernel
theorem dX6_pass_19 : decode cX6_pass 19 = .ok (.getfield 7, 3) := by decide +kernel
theorem dX6_pass_22 : decode cX6_pass 22 = .ok (.iconst 1, 1) := by decide +kernel
theorem dX6_pass_23 : decode cX6_pass 23 = .ok (.iaload, 1) := by decide +kernel
theorem dX6_pass_24 : decode cX6_pass 24 = .ok (.iload_n 1, 1) := by decide +kernel
theorem dX6_pass_25 : decode cX6_pass 25 = .ok (.iadd, 1) := by decide +kernel
theorem dX6_pass_26 : decode cX6_pass 26 = .ok (.sipush 9999, 3) := by decide +kernel
theorem dX6_pass_29 : decode cX6_pass 29 = .ok (.if_icmp .le 6, 3) := by decide +kernel
theorem dX6_pass_32 : decode cX6_pass 32 = .ok (.bipush (-4), 2) := by decide +kernel
theorem dX6_pass_34 : decode cX6_pass 34 = .ok (.ireturn, 1) := by decide +kernel
theorem dX6_pass_35 : decode cX6_pass 35 = .ok (.aload_n 0, 1) := by decide +kernel
theorem dX6_pass_36 : decode cX6_pass 36 = .ok (.invokevirtual 81, 3) := by decide +kernel
theorem dX6_pass_39 : decode cX6_pass 39 = .ok (.aload_n 0, 1) := by decide +kernel
theorem dX6_pass_40 : decode cX6_pass 40 = .ok (.iload_n 1, 1) := by decide +kernel
theorem dX6_pass_41 : decode cX6_pass 41 = .ok (.invokevirtual 110, 3) := by decide +kernel
theorem dX6_pass_44 : decode cX6_pass 44 = .ok (.ireturn, 1) := by decide +kernel
theorem dX6_cell_0 : decode cX6_cell 0 = .ok (.aload_n 0, 1) := by decide +kernel
theorem dX6_cell_1 : decode cX6_cell 1 = .ok (.iconst 0, 1) := by decide +kernel
theorem dX6_cell_2 : decode cX6_cell 2 = .ok (.putfield 38, 3) := by decide +kernel
theorem dX6_cell_5 : decode cX6_cell 5 = .ok (.iload_n 1, 1) := by decide +kernel
theorem dX6_cell_6 : decode cX6_cell 6 = .ok (.iload_n 2, 1) := by decide +kernel
theorem dX6_cell_7 : decode cX6_cell 7 = .ok (.invokestatic 78, 3) := by decide +kernel
theorem dX6_cell_10 : decode cX6_cell 10 = .ok (.ifCond .ne 5, 3) := by decide +kernel
theorem dX6_cell_13 : decode cX6_cell 13 = .ok (.iconst (-1), 1) := by decide +kernel
theorem dX6_cell_14 : decode cX6_cell 14 = .ok (.ireturn, 1) := by decide +kernel
theorem dX6_cell_15 : decode cX6_cell 15 = .ok (.bipush 10, 2) := by decide +kernel
theorem dX6_cell_17 : decode cX6_cell 17 = .ok (.iload_n 2, 1) := by decide +kernel
theorem dX6_cell_18 : decode cX6_cell 18 = .ok (.imul, 1) := by decide +kernel
theorem dX6_cell_19 : decode cX6_cell 19 = .ok (.iload_n 1, 1) := by decide +kernel
theorem dX6_cell_20 : decode cX6_cell 20 = .ok (.iadd, 1) := by decide +kernel
theorem dX6_cell_21 : decode cX6_cell 21 = .ok (.istore 4, 2) := by decide +kernel
theorem dX6_cell_23 : decode cX6_cell 23 = .ok (.aload_n 0, 1) := by decide +kernel
theorem dX6_cell_24 : decode cX6_cell 24 = .ok (.iload 4, 2) := by decide +kernel
theorem dX6_cell_26 : decode cX6_cell 26 = .ok (.bipush (-6), 2) := by decide +kernel
theorem dX6_cell_28 : decode cX6_cell 28 = .ok (.invokevirtual 60, 3) := by decide +kernel
theorem dX6_cell_31 : decode cX6_cell 31 = .ok (.istore 5, 2) := by decide +kernel
theorem dX6_cell_33 : decode cX6_cell 33 = .ok (.iload_n 3, 1) := by decide +kernel
theorem dX6_cell_34 : decode cX6_cell 34 = .ok (.tableswitch 81 0 4 #[34, 41, 44, 64, 64], 34) := by decide +kernel
theorem dX6_cell_68 : decode cX6_cell 68 = .ok (.aload_n 0, 1) := by decide +kernel
theorem dX6_cell_69 : decode cX6_cell 69 = .ok (.iload 4, 2) := by decide +kernel
theorem dX6_cell_71 : decode cX6_cell 71 = .ok (.invokevirtual 74, 3) := by decide +kernel
theorem dX6_cell_74 : decode cX6_cell 74 = .ok (.ireturn, 1) := by decide +kernel
theorem dX6_cell_75 : decode cX6_cell 75 = .ok (.iload 5, 2) := by decide +kernel
theorem dX6_cell_77 : decode cX6_cell 77 = .ok (.ireturn, 1) := by decide +kernel
theorem dX6_cell_78 : decode cX6_cell 78 = .ok (.iload 5, 2) := by decide +kernel
theorem dX6_cell_80 : decode cX6_cell 80 = .ok (.bipush (-6), 2) := by decide +kernel
theorem dX6_cell_82 : decode cX6_cell 82 = .ok (.if_icmp .ne 7, 3) := by decide +kernel
theorem dX6_cell_85 : decode cX6_cell 85 = .ok (.iconst 0, 1) := by decide +kernel
theorem dX6_cell_86 : decode cX6_cell 86 = .ok (.goto 11, 3) := by decide +kernel
theorem dX6_cell_89 : decode cX6_cell 89 = .ok (.aload_n 0, 1) := by decide +kernel
theorem dX6_cell_90 : decode cX6_cell 90 = .ok (.iload 5, 2) := by decide +kernel
theorem dX6_cell_92 : decode cX6_cell 92 = .ok (.iload 4, 2) := by decide +kernel
theorem dX6_cell_94 : decode cX6_cell 94 = .ok (.invokevirtual 57, 3) := by decide +kernel
theorem dX6_cell_97 : decode cX6_cell 97 = .ok (.ireturn, 1) := by decide +kernel
theorem dX6_cell_98 : decode cX6_cell 98 = .ok (.aload_n 0, 1) := by decide +kernel
theorem dX6_cell_99 : decode cX6_cell 99 = .ok (.iload 4, 2) := by decide +kernel
theorem dX6_cell_101 : decode cX6_cell 101 = .ok (.iload_n 3, 1) := by decide +kernel
theorem dX6_cell_102 : decode cX6_cell 102 = .ok (.iconst 4, 1) := by decide +kernel
theorem dX6_cell_103 : decode cX6_cell 103 = .ok (.if_icmp .ne 7, 3) := by decide +kernel
theorem dX6_cell_106 : decode cX6_cell 106 = .ok (.iconst 1, 1) := by decide +kernel
theorem dX6_cell_107 : decode cX6_cell 107 = .ok (.goto 4, 3) := by decide +kernel
theorem dX6_cell_110 : decode cX6_cell 110 = .ok (.iconst 0, 1) := by decide +kernel
theorem dX6_cell_111 : decode cX6_cell 111 = .ok (.invokevirtual 113, 3) := by decide +kernel
theorem dX6_cell_114 : decode cX6_cell 114 = .ok (.ireturn, 1) := by decide +kernel
theorem dX6_cell_115 : decode cX6_cell 115 = .ok (.bipush (-2), 2) := by decide +kernel
theorem dX6_cell_117 : decode cX6_cell 117 = .ok (.ireturn, 1) := by decide +kernel
theorem dX6_lyingAt_0 : decode cX6_lyingAt 0 = .ok (.iconst 0, 1) := by decide +kernel
theorem dX6_lyingAt_1 : decode cX6_lyingAt 1 = .ok (.istore_n 3, 1) := by decide +kernel
theorem dX6_lyingAt_2 : decode cX6_lyingAt 2 = .ok (.iconst 0, 1) := by decide +kernel
theorem dX6_lyingAt_3 : decode cX6_lyingAt 3 = .ok (.istore 4, 2) := by decide +kernel
theorem dX6_lyingAt_5 : decode cX6_lyingAt 5 = .ok (.iload 4, 2) := by decide +kernel
theorem dX6_lyingAt_7 : decode cX6_lyingAt 7 = .ok (.aload_n 0, 1) := by decide +kernel
theorem dX6_lyingAt_8 : decode cX6_lyingAt 8 = .ok (.getfield 7, 3) := by decide +kernel
theorem dX6_lyingAt_11 : decode cX6_lyingAt 11 = .ok (.iconst 0, 1) := by decide +kernel
theorem dX6_lyingAt_12 : decode cX6_lyingAt 12 = .ok (.iaload, 1) := by decide +kernel
theorem dX6_lyingAt_13 : decode cX6_lyingAt 13 = .ok (.if_icmp .ge 41, 3) := by decide +kernel
theorem dX6_lyingAt_16 : decode cX6_lyingAt 16 = .ok (.iload_n 3, 1) := by decide +kernel
theorem dX6_lyingAt_17 : decode cX6_lyingAt 17 = .ok (.aload_n 0, 1) := by decide +kernel
theorem dX6_lyingAt_18 : decode cX6_lyingAt 18 = .ok (.iload 4, 2) := by decide +kernel
theorem dX6_lyingAt_20 : decode cX6_lyingAt 20 = .ok (.iload_n 1, 1) := by decide +kernel
theorem dX6_lyingAt_21 : decode cX6_lyingAt 21 = .ok (.invokevirtual 53, 3) := by decide +kernel
theorem dX6_lyingAt_24 : decode cX6_lyingAt 24 = .ok (.ifCond .eq 21, 3) := by decide +kernel
theorem dX6_lyingAt_27 : decode cX6_lyingAt 27 = .ok (.iload_n 2, 1) := by decide +kernel
theorem dX6_lyingAt_28 : decode cX6_lyingAt 28 = .ok (.ifCond .eq 13, 3) := by decide +kernel
theorem dX6_lyingAt_31 : decode cX6_lyingAt 31 = .ok (.aload_n 0, 1) := by decide +kernel
theorem dX6_lyingAt_32 : decode cX6_lyingAt 32 = .ok (.iload 4, 2) := by decide +kernel
theorem dX6_lyingAt_34 : decode cX6_lyingAt 34 = .ok (.iload_n 1, 1) := by decide +kernel
theorem dX6_lyingAt_35 : decode cX6_lyingAt 35 = .ok (.invokevirtual 57, 3) := by decide +kernel
theorem dX6_lyingAt_38 : decode cX6_lyingAt 38 = .ok (.ifCond .le 7, 3) := by decide +kernel
theorem dX6_lyingAt_41 : decode cX6_lyingAt 41 = .ok (.iconst 1, 1) := by decide +kernel
theorem dX6_lyingAt_42 : decode cX6_lyingAt 42 = .ok (.goto 4, 3) := by decide +kernel
theorem dX6_lyingAt_45 : decode cX6_lyingAt 45 = .ok (.iconst 0, 1) := by decide +kernel
theorem dX6_lyingAt_46 : decode cX6_lyingAt 46 = .ok (.iadd, 1) := by decide +kernel
theorem dX6_lyingAt_47 : decode cX6_lyingAt 47 = .ok (.istore_n 3, 1) := by decide +kernel
theorem dX6_lyingAt_48 : decode cX6_lyingAt 48 = .ok (.iinc 4 1, 3) := by decide +kernel
theorem dX6_lyingAt_51 : decode cX6_lyingAt 51 = .ok (.goto (-46), 3) := by decide +kernel
theorem dX6_lyingAt_54 : decode cX6_lyingAt 54 = .ok (.iload_n 3, 1) := by decide +kernel
theorem dX6_lyingAt_55 : decode cX6_lyingAt 55 = .ok (.ireturn, 1) := by decide +kernel
theorem dX6_poster_0 : decode cX6_poster 0 = .ok (.aload_n 0, 1) := by decide +kernel
theorem dX6_poster_1 : decode cX6_poster 1 = .ok (.iconst 0, 1) := by decide +kernel
theorem dX6_poster_2 : decode cX6_poster 2 = .ok (.putfield 38, 3) := by decide +kernel
theorem dX6_poster_5 : decode cX6_poster 5 = .ok (.aload_n 0, 1) := by decide +kernel
theorem dX6_poster_6 : decode cX6_poster 6 = .ok (.iload_n 1, 1) := by decide +kernel
theorem dX6_poster_7 : decode cX6_poster 7 = .ok (.invokevirtual 84, 3) := by decide +kernel
theorem dX6_poster_10 : decode cX6_poster 10 = .ok (.ifCond .ne 5, 3) := by decide +kernel
theorem dX6_poster_13 : decode cX6_poster 13 = .ok (.iconst (-1), 1) := by decide +kernel
theorem dX6_poster_14 : decode cX6_poster 14 = .ok (.ireturn, 1) := by decide +kernel
theorem dX6_poster_15 : decode cX6_poster 15 = .ok (.iload_n 2, 1) := by decide +kernel
theorem dX6_poster_16 : decode cX6_poster 16 = .ok (.tableswitch 106 0 10 #[60, 60, 60, 60, 60, 67, 67, 74, 97, 97, 67], 60) := by decide +kernel
theorem dX6_poster_76 : decode cX6_poster 76 = .ok (.aload_n 0, 1) := by decide +kernel
theorem dX6_poster_77 : decode cX6_poster 77 = .ok (.iload_n 1, 1) := by decide +kernel
theorem dX6_poster_78 : decode cX6_poster 78 = .ok (.iload_n 2, 1) := by decide +kernel
theorem dX6_poster_79 : decode cX6_poster 79 = .ok (.invokevirtual 46, 3) := by decide +kernel
theorem dX6_poster_82 : decode cX6_poster 82 = .ok (.ireturn, 1) := by decide +kernel
theorem dX6_poster_83 : decode cX6_poster 83 = .ok (.aload_n 0, 1) := by decide +kernel
theorem dX6_poster_84 : decode cX6_poster 84 = .ok (.iload_n 1, 1) := by decide +kernel
theorem dX6_poster_85 : decode cX6_poster 85 = .ok (.iload_n 2, 1) := by decide +kernel
theorem dX6_poster_86 : decode cX6_poster 86 = .ok (.invokevirtual 88, 3) := by decide +kernel
theorem dX6_poster_89 : decode cX6_poster 89 = .ok (.ireturn, 1) := by decide +kernel
theorem dX6_poster_90 : decode cX6_poster 90 = .ok (.aload_n 0, 1) := by decide +kernel
theorem dX6_poster_91 : decode cX6_poster 91 = .ok (.iload_n 1, 1) := by decide +kernel
theorem dX6_poster_92 : decode cX6_poster 92 = .ok (.bipush 7, 2) := by decide +kernel
theorem dX6_poster_94 : decode cX6_poster 94 = .ok (.invokevirtual 88, 3) := by decide +kernel
theorem dX6_poster_97 : decode cX6_poster 97 = .ok (.aload_n 0, 1) := by decide +kernel
theorem dX6_poster_98 : decode cX6_poster 98 = .ok (.iload_n 1, 1) := by decide +kernel
theorem dX6_poster_99 : decode cX6_poster 99 = .ok (.iconst 5, 1) := by decide +kernel
theorem dX6_poster_100 : decode cX6_poster 100 = .ok (.invokevirtual 88, 3) := by decide +kernel
theorem dX6_poster_103 : decode cX6_poster 103 = .ok (.isub, 1) := by decide +kernel
theorem dX6_poster_104 : decode cX6_poster 104 = .ok (.aload_n 0, 1) := by decide +kernel
theorem dX6_poster_105 : decode cX6_poster 105 = .ok (.iload_n 1, 1) := by decide +kernel
theorem dX6_poster_106 : decode cX6_poster 106 = .ok (.bipush 6, 2) := by decide +kernel
theorem dX6_poster_108 : decode cX6_poster 108 = .ok (.invokevirtual 88, 3) := by decide +kernel
theorem dX6_poster_111 : decode cX6_poster 111 = .ok (.isub, 1) := by decide +kernel
theorem dX6_poster_112 : decode cX6_poster 112 = .ok (.ireturn, 1) := by decide +kernel
theorem dX6_poster_113 : decode cX6_poster 113 = .ok (.aload_n 0, 1) := by decide +kernel
theorem dX6_poster_114 : decode cX6_poster 114 = .ok (.iload_n 1, 1) := by decide +kernel
theorem dX6_poster_115 : decode cX6_poster 115 = .ok (.iload_n 2, 1) := by decide +kernel
theorem dX6_poster_116 : decode cX6_poster 116 = .ok (.iconst 3, 1) := by decide +kernel
theorem dX6_poster_117 : decode cX6_poster 117 = .ok (.isub, 1) := by decide +kernel
theorem dX6_poster_118 : decode cX6_poster 118 = .ok (.invokevirtual 46, 3) := by decide +kernel
theorem dX6_poster_121 : decode cX6_poster 121 = .ok (.ireturn, 1) := by decide +kernel
theorem dX6_poster_122 : decode cX6_poster 122 = .ok (.bipush (-2), 2) := by decide +kernel
theorem dX6_poster_124 : decode cX6_poster 124 = .ok (.ireturn, 1) := by decide +kernel
theorem dX6_varnish_0 : decode cX6_varnish 0 = .ok (.aload_n 0, 1) := by decide +kernel
theorem dX6_varnish_1 : decode cX6_varnish 1 = .ok (.iconst 0, 1) := by decide +kernel
theorem dX6_varnish_2 : decode cX6_varnish 2 = .ok (.putfield 38, 3) := by decide +kernel
theorem dX6_varnish_5 : decode cX6_varnish 5 = .ok (.aload_n 0, 1) := by decide +kernel
theorem dX6_varnish_6 : decode cX6_varnish 6 = .ok (.iload_n 1, 1) := by decide +kernel
theorem dX6_varnish_7 : decode cX6_varnish 7 = .ok (.invokevirtual 84, 3) := by decide +kernel
theorem dX6_varnish_10 : decode cX6_varnish 10 = .ok (.ifCond .eq 11, 3) := by decide +kernel
theorem dX6_varnish_13 : decode cX6_varnish 13 = .ok (.iload_n 2, 1) := by decide +kernel
theorem dX6_varnish_14 : decode cX6_varnish 14 = .ok (.iload_n 3, 1) := by decide +kernel
theorem dX6_varnish_15 : decode cX6_varnish 15 = .ok (.invokestatic 78, 3) := by decide +kernel
theorem dX6_varnish_18 : decode cX6_varnish 18 = .ok (.ifCond .ne 5, 3) := by decide +kernel
theorem dX6_varnish_21 : decode cX6_varnish 21 = .ok (.iconst (-1), 1) := by decide +kernel
theorem dX6_varnish_22 : decode cX6_varnish 22 = .ok (.ireturn, 1) := by decide +kernel
theorem dX6_varnish_23 : decode cX6_varnish 23 = .ok (.aload_n 0, 1) := by decide +kernel
theorem dX6_varnish_24 : decode cX6_varnish 24 = .ok (.iload_n 1, 1) := by decide +kernel
theorem dX6_varnish_25 : decode cX6_varnish 25 = .ok (.bipush 10, 2) := by decide +kernel
theorem dX6_varnish_27 : decode cX6_varnish 27 = .ok (.iload_n 3, 1) := by decide +kernel
theorem dX6_varnish_28 : decode cX6_varnish 28 = .ok (.imul, 1) := by decide +kernel
theorem dX6_varnish_29 : decode cX6_varnish 29 = .ok (.iload_n 2, 1) := by decide +kernel
theorem dX6_varnish_30 : decode cX6_varnish 30 = .ok (.iadd, 1) := by decide +kernel
theorem dX6_varnish_31 : decode cX6_varnish 31 = .ok (.invokevirtual 53, 3) := by decide +kernel
theorem dX6_varnish_34 : decode cX6_varnish 34 = .ok (.ifCond .eq 17, 3) := by decide +kernel
theorem dX6_varnish_37 : decode cX6_varnish 37 = .ok (.aload_n 0, 1) := by decide +kernel
theorem dX6_varnish_38 : decode cX6_varnish 38 = .ok (.iload_n 1, 1) := by decide +kernel
theorem dX6_varnish_39 : decode cX6_varnish 39 = .ok (.bipush 10, 2) := by decide +kernel
theorem dX6_varnish_41 : decode cX6_varnish 41 = .ok (.iload_n 3, 1) := by decide +kernel
theorem dX6_varnish_42 : decode cX6_varnish 42 = .ok (.imul, 1) := by decide +kernel
theorem dX6_varnish_43 : decode cX6_varnish 43 = .ok (.iload_n 2, 1) := by decide +kernel
theorem dX6_varnish_44 : decode cX6_varnish 44 = .ok (.iadd, 1) := by decide +kernel
theorem dX6_varnish_45 : decode cX6_varnish 45 = .ok (.invokevirtual 57, 3) := by decide +kernel
theorem dX6_varnish_48 : decode cX6_varnish 48 = .ok (.goto 5, 3) := by decide +kernel
theorem dX6_varnish_51 : decode cX6_varnish 51 = .ok (.bipush (-6), 2) := by decide +kernel
theorem dX6_varnish_53 : decode cX6_varnish 53 = .ok (.ireturn, 1) := by decide +kernel
theorem dX6_overWall_0 : decode cX6_overWall 0 = .ok (.aload_n 0, 1) := by decide +kernel
theorem dX6_overWall_1 : decode cX6_overWall 1 = .ok (.invokevirtual 117, 3) := by decide +kernel
theorem dX6_overWall_4 : decode cX6_overWall 4 = .ok (.iconst 0, 1) := by decide +kernel
theorem dX6_overWall_5 : decode cX6_overWall 5 = .ok (.istore_n 2, 1) := by decide +kernel
theorem dX6_overWall_6 : decode cX6_overWall 6 = .ok (.bipush (-6), 2) := by decide +kernel
theorem dX6_overWall_8 : decode cX6_overWall 8 = .ok (.istore_n 3, 1) := by decide +kernel
theorem dX6_overWall_9 : decode cX6_overWall 9 = .ok (.iconst 0, 1) := by decide +kernel
theorem dX6_overWall_10 : decode cX6_overWall 10 = .ok (.istore 4, 2) := by decide +kernel
theorem dX6_overWall_12 : decode cX6_overWall 12 = .ok (.iload 4, 2) := by decide +kernel
theorem dX6_overWall_14 : decode cX6_overWall 14 = .ok (.bipush 60, 2) := by decide +kernel
theorem dX6_overWall_16 : decode cX6_overWall 16 = .ok (.if_icmp .ge 110, 3) := by decide +kernel
theorem dX6_overWall_19 : decode cX6_overWall 19 = .ok (.iconst 1, 1) := by decide +kernel
theorem dX6_overWall_20 : decode cX6_overWall 20 = .ok (.istore 5, 2) := by decide +kernel
theorem dX6_overWall_22 : decode cX6_overWall 22 = .ok (.iconst 0, 1) := by decide +kernel
theorem dX6_overWall_23 : decode cX6_overWall 23 = .ok (.istore 6, 2) := by decide +kernel
theorem dX6_overWall_25 : decode cX6_overWall 25 = .ok (.iload 6, 2) := by decide +kernel
theorem dX6_overWall_27 : decode cX6_overWall 27 = .ok (.iload 4, 2) := by decide +kernel
theorem dX6_overWall_29 : decode cX6_overWall 29 = .ok (.if_icmp .ge 38, 3) := by decide +kernel
theorem dX6_overWall_32 : decode cX6_overWall 32 = .ok (.iload 5, 2) := by decide +kernel
theorem dX6_overWall_34 : decode cX6_overWall 34 = .ok (.ifCond .eq 24, 3) := by decide +kernel
theorem dX6_overWall_37 : decode cX6_overWall 37 = .ok (.aload_n 0, 1) := by decide +kernel
theorem dX6_overWall_38 : decode cX6_overWall 38 = .ok (.getfield 32, 3) := by decide +kernel
theorem dX6_overWall_41 : decode cX6_overWall 41 = .ok (.iload 6, 2) := by decide +kernel
theorem dX6_overWall_43 : decode cX6_overWall 43 = .ok (.iaload, 1) := by decide +kernel
theorem dX6_overWall_44 : decode cX6_overWall 44 = .ok (.aload_n 0, 1) := by decide +kernel
theorem dX6_overWall_45 : decode cX6_overWall 45 = .ok (.getfield 32, 3) := by decide +kernel
theorem dX6_overWall_48 : decode cX6_overWall 48 = .ok (.iload 4, 2) := by decide +kernel
theorem dX6_overWall_50 : decode cX6_overWall 50 = .ok (.iaload, 1) := by decide +kernel
theorem dX6_overWall_51 : decode cX6_overWall 51 = .ok (.if_icmp .eq 7, 3) := by decide +kernel
theorem dX6_overWall_54 : decode cX6_overWall 54 = .ok (.iconst 1, 1) := by decide +kernel
theorem dX6_overWall_55 : decode cX6_overWall 55 = .ok (.goto 4, 3) := by decide +kernel
theorem dX6_overWall_58 : decode cX6_overWall 58 = .ok (.iconst 0, 1) := by decide +kernel
theorem dX6_overWall_59 : decode cX6_overWall 59 = .ok (.istore 5, 2) := by decide +kernel
theorem dX6_overWall_61 : decode cX6_overWall 61 = .ok (.iinc 6 1, 3) := by decide +kernel
theorem dX6_overWall_64 : decode cX6_overWall 64 = .ok (.goto (-39), 3) := by decide +kernel
theorem dX6_overWall_67 : decode cX6_overWall 67 = .ok (.iload_n 2, 1) := by decide +kernel
theorem dX6_overWall_68 : decode cX6_overWall 68 = .ok (.aload_n 0, 1) := by decide +kernel
theorem dX6_overWall_69 : decode cX6_overWall 69 = .ok (.getfield 32, 3) := by decide +kernel
theorem dX6_overWall_72 : decode cX6_overWall 72 = .ok (.iload 4, 2) := by decide +kernel
theorem dX6_overWall_74 : decode cX6_overWall 74 = .ok (.iaload, 1) := by decide +kernel
theorem dX6_overWall_75 : decode cX6_overWall 75 = .ok (.bipush (-6), 2) := by decide +kernel
theorem dX6_overWall_77 : decode cX6_overWall 77 = .ok (.if_icmp .eq 17, 3) := by decide +kernel
theorem dX6_overWall_80 : decode cX6_overWall 80 = .ok (.iload_n 1, 1) := by decide +kernel
theorem dX6_overWall_81 : decode cX6_overWall 81 = .ok (.iconst 2, 1) := by decide +kernel
theorem dX6_overWall_82 : decode cX6_overWall 82 = .ok (.if_icmp .eq 8, 3) := by decide +kernel
theorem dX6_overWall_85 : decode cX6_overWall 85 = .ok (.iload 5, 2) := by decide +kernel
theorem dX6_overWall_87 : decode cX6_overWall 87 = .ok (.ifCond .eq 7, 3) := by decide +kernel
theorem dX6_overWall_90 : decode cX6_overWall 90 = .ok (.iconst 1, 1) := by decide +kernel
theorem dX6_overWall_91 : decode cX6_overWall 91 = .ok (.goto 4, 3) := by decide +kernel
theorem dX6_overWall_94 : decode cX6_overWall 94 = .ok (.iconst 0, 1) := by decide +kernel
theorem dX6_overWall_95 : decode cX6_overWall 95 = .ok (.iadd, 1) := by decide +kernel
theorem dX6_overWall_96 : decode cX6_overWall 96 = .ok (.istore_n 2, 1) := by decide +kernel
theorem dX6_overWall_97 : decode cX6_overWall 97 = .ok (.aload_n 0, 1) := by decide +kernel
theorem dX6_overWall_98 : decode cX6_overWall 98 = .ok (.getfield 32, 3) := by decide +kernel
theorem dX6_overWall_101 : decode cX6_overWall 101 = .ok (.iload 4, 2) := by decide +kernel
theorem dX6_overWall_103 : decode cX6_overWall 103 = .ok (.iaload, 1) := by decide +kernel
theorem dX6_overWall_104 : decode cX6_overWall 104 = .ok (.iload_n 3, 1) := by decide +kernel
theorem dX6_overWall_105 : decode cX6_overWall 105 = .ok (.if_icmp .le 13, 3) := by decide +kernel
theorem dX6_overWall_108 : decode cX6_overWall 108 = .ok (.aload_n 0, 1) := by decide +kernel
theorem dX6_overWall_109 : decode cX6_overWall 109 = .ok (.getfield 32, 3) := by decide +kernel
theorem dX6_overWall_112 : decode cX6_overWall 112 = .ok (.iload 4, 2) := by decide +kernel
theorem dX6_overWall_114 : decode cX6_overWall 114 = .ok (.iaload, 1) := by decide +kernel
theorem dX6_overWall_115 : decode cX6_overWall 115 = .ok (.goto 4, 3) := by decide +kernel
theorem dX6_overWall_118 : decode cX6_overWall 118 = .ok (.iload_n 3, 1) := by decide +kernel
theorem dX6_overWall_119 : decode cX6_overWall 119 = .ok (.istore_n 3, 1) := by decide +kernel
theorem dX6_overWall_120 : decode cX6_overWall 120 = .ok (.iinc 4 1, 3) := by decide +kernel
theorem dX6_overWall_123 : decode cX6_overWall 123 = .ok (.goto (-111), 3) := by decide +kernel
theorem dX6_overWall_126 : decode cX6_overWall 126 = .ok (.iload_n 1, 1) := by decide +kernel
theorem dX6_overWall_127 : decode cX6_overWall 127 = .ok (.iconst 4, 1) := by decide +kernel
theorem dX6_overWall_128 : decode cX6_overWall 128 = .ok (.if_icmp .ne 7, 3) := by decide +kernel
theorem dX6_overWall_131 : decode cX6_overWall 131 = .ok (.iload_n 3, 1) := by decide +kernel
theorem dX6_overWall_132 : decode cX6_overWall 132 = .ok (.goto 4, 3) := by decide +kernel
theorem dX6_overWall_135 : decode cX6_overWall 135 = .ok (.iload_n 2, 1) := by decide +kernel
theorem dX6_overWall_136 : decode cX6_overWall 136 = .ok (.ireturn, 1) := by decide +kernel
theorem dX6_overPosters_0 : decode cX6_overPosters 0 = .ok (.iconst 0, 1) := by decide +kernel
theorem dX6_overPosters_1 : decode cX6_overPosters 1 = .ok (.istore_n 2, 1) := by decide +kernel
theorem dX6_overPosters_2 : decode cX6_overPosters 2 = .ok (.iconst 0, 1) := by decide +kernel
theorem dX6_overPosters_3 : decode cX6_overPosters 3 = .ok (.istore_n 3, 1) := by decide +kernel
theorem dX6_overPosters_4 : decode cX6_overPosters 4 = .ok (.iload_n 3, 1) := by decide +kernel
theorem dX6_overPosters_5 : decode cX6_overPosters 5 = .ok (.aload_n 0, 1) := by decide +kernel
theorem dX6_overPosters_6 : decode cX6_overPosters 6 = .ok (.getfield 7, 3) := by decide +kernel
theorem dX6_overPosters_9 : decode cX6_overPosters 9 = .ok (.iconst 0, 1) := by decide +kernel
theorem dX6_overPosters_10 : decode cX6_overPosters 10 = .ok (.iaload, 1) := by decide +kernel
theorem dX6_overPosters_11 : decode cX6_overPosters 11 = .ok (.if_icmp .ge 50, 3) := by decide +kernel
theorem dX6_overPosters_14 : decode cX6_overPosters 14 = .ok (.iload_n 2, 1) := by decide +kernel
theorem dX6_overPosters_15 : decode cX6_overPosters 15 = .ok (.iload_n 1, 1) := by decide +kernel
theorem dX6_overPosters_16 : decode cX6_overPosters 16 = .ok (.bipush 6, 2) := by decide +kernel
theorem dX6_overPosters_18 : decode cX6_overPosters 18 = .ok (.if_icmp .ne 20, 3) := by decide +kernel
theorem dX6_overPosters_21 : decode cX6_overPosters 21 = .ok (.aload_n 0, 1) := by decide +kernel
theorem dX6_overPosters_22 : decode cX6_overPosters 22 = .ok (.iload_n 3, 1) := by decide +kernel
theorem dX6_overPosters_23 : decode cX6_overPosters 23 = .ok (.iconst 5, 1) := by decide +kernel
theorem dX6_overPosters_24 : decode cX6_overPosters 24 = .ok (.invokevirtual 88, 3) := by decide +kernel
theorem dX6_overPosters_27 : decode cX6_overPosters 27 = .ok (.ifCond .ne 7, 3) := by decide +kernel
theorem dX6_overPosters_30 : decode cX6_overPosters 30 = .ok (.iconst 1, 1) := by decide +kernel
theorem dX6_overPosters_31 : decode cX6_overPosters 31 = .ok (.goto 22, 3) := by decide +kernel
theorem dX6_overPosters_34 : decode cX6_overPosters 34 = .ok (.iconst 0, 1) := by decide +kernel
theorem dX6_overPosters_35 : decode cX6_overPosters 35 = .ok (.goto 18, 3) := by decide +kernel
theorem dX6_overPosters_38 : decode cX6_overPosters 38 = .ok (.aload_n 0, 1) := by decide +kernel
theorem dX6_overPosters_39 : decode cX6_overPosters 39 = .ok (.iload_n 3, 1) := by decide +kernel
theorem dX6_overPosters_40 : decode cX6_overPosters 40 = .ok (.bipush 10, 2) := by decide +kernel
theorem dX6_overPosters_42 : decode cX6_overPosters 42 = .ok (.invokevirtual 88, 3) := by decide +kernel
theorem dX6_overPosters_45 : decode cX6_overPosters 45 = .ok (.ifCond .ne 7, 3) := by decide +kernel
theorem dX6_overPosters_48 : decode cX6_overPosters 48 = .ok (.iconst 1, 1) := by decide +kernel
theorem dX6_overPosters_49 : decode cX6_overPosters 49 = .ok (.goto 4, 3) := by decide +kernel
theorem dX6_overPosters_52 : decode cX6_overPosters 52 = .ok (.iconst 0, 1) := by decide +kernel
theorem dX6_overPosters_53 : decode cX6_overPosters 53 = .ok (.iadd, 1) := by decide +kernel
theorem dX6_overPosters_54 : decode cX6_overPosters 54 = .ok (.istore_n 2, 1) := by decide +kernel
theorem dX6_overPosters_55 : decode cX6_overPosters 55 = .ok (.iinc 3 1, 3) := by decide +kernel
theorem dX6_overPosters_58 : decode cX6_overPosters 58 = .ok (.goto (-54), 3) := by decide +kernel
theorem dX6_overPosters_61 : decode cX6_overPosters 61 = .ok (.iload_n 2, 1) := by decide +kernel
theorem dX6_overPosters_62 : decode cX6_overPosters 62 = .ok (.ireturn, 1) := by decide +kernel
theorem dX6_count_0 : decode cX6_count 0 = .ok (.aload_n 0, 1) := by decide +kernel
theorem dX6_count_1 : decode cX6_count 1 = .ok (.iconst 0, 1) := by decide +kernel
theorem dX6_count_2 : decode cX6_count 2 = .ok (.putfield 38, 3) := by decide +kernel
theorem dX6_count_5 : decode cX6_count 5 = .ok (.iload_n 1, 1) := by decide +kernel
theorem dX6_count_6 : decode cX6_count 6 = .ok (.tableswitch 112 0 11 #[62, 62, 69, 69, 69, 75, 82, 82, 88, 95, 102, 107], 62) := by decide +kernel
theorem dX6_count_68 : decode cX6_count 68 = .ok (.aload_n 0, 1) := by decide +kernel
theorem dX6_count_69 : decode cX6_count 69 = .ok (.getfield 7, 3) := by decide +kernel
theorem dX6_count_72 : decode cX6_count 72 = .ok (.iload_n 1, 1) := by decide +kernel
theorem dX6_count_73 : decode cX6_count 73 = .ok (.iaload, 1) := by decide +kernel
theorem dX6_count_74 : decode cX6_count 74 = .ok (.ireturn, 1) := by decide +kernel
theorem dX6_count_75 : decode cX6_count 75 = .ok (.aload_n 0, 1) := by decide +kernel
theorem dX6_count_76 : decode cX6_count 76 = .ok (.iload_n 1, 1) := by decide +kernel
theorem dX6_count_77 : decode cX6_count 77 = .ok (.invokevirtual 120, 3) := by decide +kernel
theorem dX6_count_80 : decode cX6_count 80 = .ok (.ireturn, 1) := by decide +kernel
theorem dX6_count_81 : decode cX6_count 81 = .ok (.aload_n 0, 1) := by decide +kernel
theorem dX6_count_82 : decode cX6_count 82 = .ok (.bipush (-6), 2) := by decide +kernel
theorem dX6_count_84 : decode cX6_count 84 = .ok (.invokevirtual 123, 3) := by decide +kernel
theorem dX6_count_87 : decode cX6_count 87 = .ok (.ireturn, 1) := by decide +kernel
theorem dX6_count_88 : decode cX6_count 88 = .ok (.aload_n 0, 1) := by decide +kernel
theorem dX6_count_89 : decode cX6_count 89 = .ok (.iload_n 1, 1) := by decide +kernel
theorem dX6_count_90 : decode cX6_count 90 = .ok (.invokevirtual 126, 3) := by decide +kernel
theorem dX6_count_93 : decode cX6_count 93 = .ok (.ireturn, 1) := by decide +kernel
theorem dX6_count_94 : decode cX6_count 94 = .ok (.aload_n 0, 1) := by decide +kernel
theorem dX6_count_95 : decode cX6_count 95 = .ok (.getfield 7, 3) := by decide +kernel
theorem dX6_count_98 : decode cX6_count 98 = .ok (.iconst 2, 1) := by decide +kernel
theorem dX6_count_99 : decode cX6_count 99 = .ok (.iaload, 1) := by decide +kernel
theorem dX6_count_100 : decode cX6_count 100 = .ok (.ireturn, 1) := by decide +kernel
theorem dX6_count_101 : decode cX6_count 101 = .ok (.aload_n 0, 1) := by decide +kernel
theorem dX6_count_102 : decode cX6_count 102 = .ok (.getfield 7, 3) := by decide +kernel
theorem dX6_count_105 : decode cX6_count 105 = .ok (.iconst 3, 1) := by decide +kernel
theorem dX6_count_106 : decode cX6_count 106 = .ok (.iaload, 1) := by decide +kernel
theorem dX6_count_107 : decode cX6_count 107 = .ok (.ireturn, 1) := by decide +kernel
theorem dX6_count_108 : decode cX6_count 108 = .ok (.aload_n 0, 1) := by decide +kernel
theorem dX6_count_109 : decode cX6_count 109 = .ok (.getfield 104, 3) := by decide +kernel
theorem dX6_count_112 : decode cX6_count 112 = .ok (.ireturn, 1) := by decide +kernel
theorem dX6_count_113 : decode cX6_count 113 = .ok (.aload_n 0, 1) := by decide +kernel
theorem dX6_count_114 : decode cX6_count 114 = .ok (.getfield 50, 3) := by decide +kernel
theorem dX6_count_117 : decode cX6_count 117 = .ok (.ireturn, 1) := by decide +kernel
theorem dX6_count_118 : decode cX6_count 118 = .ok (.bipush (-2), 2) := by decide +kernel
theorem dX6_count_120 : decode cX6_count 120 = .ok (.ireturn, 1) := by decide +kernel
theorem dX6_sunOf_0 : decode cX6_sunOf 0 = .ok (.aload_n 0, 1) := by decide +kernel
theorem dX6_sunOf_1 : decode cX6_sunOf 1 = .ok (.iconst 0, 1) := by decide +kernel
theorem dX6_sunOf_2 : decode cX6_sunOf 2 = .ok (.putfield 38, 3) := by decide +kernel
theorem dX6_sunOf_5 : decode cX6_sunOf 5 = .ok (.iload_n 1, 1) := by decide +kernel
theorem dX6_sunOf_6 : decode cX6_sunOf 6 = .ok (.iconst 0, 1) := by decide +kernel
theorem dX6_sunOf_7 : decode cX6_sunOf 7 = .ok (.bipush 9, 2) := by decide +kernel
theorem dX6_sunOf_9 : decode cX6_sunOf 9 = .ok (.invokestatic 42, 3) := by decide +kernel
theorem dX6_sunOf_12 : decode cX6_sunOf 12 = .ok (.ifCond .eq 14, 3) := by decide +kernel
theorem dX6_sunOf_15 : decode cX6_sunOf 15 = .ok (.aload_n 0, 1) := by decide +kernel
theorem dX6_sunOf_16 : decode cX6_sunOf 16 = .ok (.getfield 7, 3) := by decide +kernel
theorem dX6_sunOf_19 : decode cX6_sunOf 19 = .ok (.iconst 4, 1) := by decide +kernel
theorem dX6_sunOf_20 : decode cX6_sunOf 20 = .ok (.iload_n 1, 1) := by decide +kernel
theorem dX6_sunOf_21 : decode cX6_sunOf 21 = .ok (.iadd, 1) := by decide +kernel
theorem dX6_sunOf_22 : decode cX6_sunOf 22 = .ok (.iaload, 1) := by decide +kernel
theorem dX6_sunOf_23 : decode cX6_sunOf 23 = .ok (.goto 4, 3) := by decide +kernel
theorem dX6_sunOf_26 : decode cX6_sunOf 26 = .ok (.iconst (-1), 1) := by decide +kernel
theorem dX6_sunOf_27 : decode cX6_sunOf 27 = .ok (.ireturn, 1) := by decide +kernel
theorem dX6_ifPassed_0 : decode cX6_ifPassed 0 = .ok (.aload_n 0, 1) := by decide +kernel
theorem dX6_ifPassed_1 : decode cX6_ifPassed 1 = .ok (.iconst 0, 1) := by decide +kernel
theorem dX6_ifPassed_2 : decode cX6_ifPassed 2 = .ok (.putfield 38, 3) := by decide +kernel
theorem dX6_ifPassed_5 : decode cX6_ifPassed 5 = .ok (.iload_n 1, 1) := by decide +kernel
theorem dX6_ifPassed_6 : decode cX6_ifPassed 6 = .ok (.iconst 1, 1) := by decide +kernel
theorem dX6_ifPassed_7 : decode cX6_ifPassed 7 = .ok (.bipush 100, 2) := by decide +kernel
theorem dX6_ifPassed_9 : decode cX6_ifPassed 9 = .ok (.invokestatic 42, 3) := by decide +kernel
theorem dX6_ifPassed_12 : decode cX6_ifPassed 12 = .ok (.ifCond .eq 12, 3) := by decide +kernel
theorem dX6_ifPassed_15 : decode cX6_ifPassed 15 = .ok (.iload_n 2, 1) := by decide +kernel
theorem dX6_ifPassed_16 : decode cX6_ifPassed 16 = .ok (.iconst 0, 1) := by decide +kernel
theorem dX6_ifPassed_17 : decode cX6_ifPassed 17 = .ok (.iconst 2, 1) := by decide +kernel
theorem dX6_ifPassed_18 : decode cX6_ifPassed 18 = .ok (.invokestatic 42, 3) := by decide +kernel
theorem dX6_ifPassed_21 : decode cX6_ifPassed 21 = .ok (.ifCond .ne 6, 3) := by decide +kernel
theorem dX6_ifPassed_24 : decode cX6_ifPassed 24 = .ok (.bipush (-2), 2) := by decide +kernel
theorem dX6_ifPassed_26 : decode cX6_ifPassed 26 = .ok (.ireturn, 1) := by decide +kernel
theorem dX6_ifPassed_27 : decode cX6_ifPassed 27 = .ok (.aload_n 0, 1) := by decide +kernel
theorem dX6_ifPassed_28 : decode cX6_ifPassed 28 = .ok (.invokevirtual 129, 3) := by decide +kernel
theorem dX6_ifPassed_31 : decode cX6_ifPassed 31 = .ok (.aload_n 0, 1) := by decide +kernel
theorem dX6_ifPassed_32 : decode cX6_ifPassed 32 = .ok (.invokevirtual 117, 3) := by decide +kernel
theorem dX6_ifPassed_35 : decode cX6_ifPassed 35 = .ok (.aload_n 0, 1) := by decide +kernel
theorem dX6_ifPassed_36 : decode cX6_ifPassed 36 = .ok (.iload_n 1, 1) := by decide +kernel
theorem dX6_ifPassed_37 : decode cX6_ifPassed 37 = .ok (.invokevirtual 110, 3) := by decide +kernel
theorem dX6_ifPassed_40 : decode cX6_ifPassed 40 = .ok (.istore_n 3, 1) := by decide +kernel
theorem dX6_ifPassed_41 : decode cX6_ifPassed 41 = .ok (.iload_n 2, 1) := by decide +kernel
theorem dX6_ifPassed_42 : decode cX6_ifPassed 42 = .ok (.ifCond .ne 7, 3) := by decide +kernel
theorem dX6_ifPassed_45 : decode cX6_ifPassed 45 = .ok (.iload_n 3, 1) := by decide +kernel
theorem dX6_ifPassed_46 : decode cX6_ifPassed 46 = .ok (.goto 21, 3) := by decide +kernel
theorem dX6_ifPassed_49 : decode cX6_ifPassed 49 = .ok (.iload_n 2, 1) := by decide +kernel
theorem dX6_ifPassed_50 : decode cX6_ifPassed 50 = .ok (.iconst 1, 1) := by decide +kernel
theorem dX6_ifPassed_51 : decode cX6_ifPassed 51 = .ok (.if_icmp .ne 10, 3) := by decide +kernel
theorem dX6_ifPassed_54 : decode cX6_ifPassed 54 = .ok (.aload_n 0, 1) := by decide +kernel
theorem dX6_ifPassed_55 : decode cX6_ifPassed 55 = .ok (.invokevirtual 132, 3) := by decide +kernel
theorem dX6_ifPassed_58 : decode cX6_ifPassed 58 = .ok (.goto 9, 3) := by decide +kernel
theorem dX6_ifPassed_61 : decode cX6_ifPassed 61 = .ok (.aload_n 0, 1) := by decide +kernel
theorem dX6_ifPassed_62 : decode cX6_ifPassed 62 = .ok (.bipush (-6), 2) := by decide +kernel
theorem dX6_ifPassed_64 : decode cX6_ifPassed 64 = .ok (.invokevirtual 123, 3) := by decide +kernel
theorem dX6_ifPassed_67 : decode cX6_ifPassed 67 = .ok (.istore 4, 2) := by decide +kernel
theorem dX6_ifPassed_69 : decode cX6_ifPassed 69 = .ok (.aload_n 0, 1) := by decide +kernel
theorem dX6_ifPassed_70 : decode cX6_ifPassed 70 = .ok (.invokevirtual 135, 3) := by decide +kernel
theorem dX6_ifPassed_73 : decode cX6_ifPassed 73 = .ok (.iload 4, 2) := by decide +kernel
theorem dX6_ifPassed_75 : decode cX6_ifPassed 75 = .ok (.ireturn, 1) := by decide +kernel
theorem dX6_willShow_0 : decode cX6_willShow 0 = .ok (.aload_n 0, 1) := by decide +kernel
theorem dX6_willShow_1 : decode cX6_willShow 1 = .ok (.iconst 0, 1) := by decide +kernel
theorem dX6_willShow_2 : decode cX6_willShow 2 = .ok (.putfield 38, 3) := by decide +kernel
theorem dX6_willShow_5 : decode cX6_willShow 5 = .ok (.iload_n 1, 1) := by decide +kernel
theorem dX6_willShow_6 : decode cX6_willShow 6 = .ok (.iload_n 2, 1) := by decide +kernel
theorem dX6_willShow_7 : decode cX6_willShow 7 = .ok (.invokestatic 78, 3) := by decide +kernel
theorem dX6_willShow_10 : decode cX6_willShow 10 = .ok (.ifCond .ne 5, 3) := by decide +kernel
theorem dX6_willShow_13 : decode cX6_willShow 13 = .ok (.iconst (-1), 1) := by decide +kernel
theorem dX6_willShow_14 : decode cX6_willShow 14 = .ok (.ireturn, 1) := by decide +kernel
theorem dX6_willShow_15 : decode cX6_willShow 15 = .ok (.iload_n 3, 1) := by decide +kernel
theorem dX6_willShow_16 : decode cX6_willShow 16 = .ok (.iconst 1, 1) := by decide +kernel
theorem dX6_willShow_17 : decode cX6_willShow 17 = .ok (.sipush 200, 3) := by decide +kernel
theorem dX6_willShow_20 : decode cX6_willShow 20 = .ok (.invokestatic 42, 3) := by decide +kernel
theorem dX6_willShow_23 : decode cX6_willShow 23 = .ok (.ifCond .ne 6, 3) := by decide +kernel
theorem dX6_willShow_26 : decode cX6_willShow 26 = .ok (.bipush (-2), 2) := by decide +kernel
theorem dX6_willShow_28 : decode cX6_willShow 28 = .ok (.ireturn, 1) := by decide +kernel
theorem dX6_willShow_29 : decode cX6_willShow 29 = .ok (.aload_n 0, 1) := by decide +kernel
theorem dX6_willShow_30 : decode cX6_willShow 30 = .ok (.invokevirtual 129, 3) := by decide +kernel
theorem dX6_willShow_33 : decode cX6_willShow 33 = .ok (.aload_n 0, 1) := by decide +kernel
theorem dX6_willShow_34 : decode cX6_willShow 34 = .ok (.iload_n 3, 1) := by decide +kernel
theorem dX6_willShow_35 : decode cX6_willShow 35 = .ok (.invokevirtual 110, 3) := by decide +kernel
theorem dX6_willShow_38 : decode cX6_willShow 38 = .ok (.pop, 1) := by decide +kernel
theorem dX6_willShow_39 : decode cX6_willShow 39 = .ok (.aload_n 0, 1) := by decide +kernel
theorem dX6_willShow_40 : decode cX6_willShow 40 = .ok (.bipush 10, 2) := by decide +kernel
theorem dX6_willShow_42 : decode cX6_willShow 42 = .ok (.iload_n 2, 1) := by decide +kernel
theorem dX6_willShow_43 : decode cX6_willShow 43 = .ok (.imul, 1) := by decide +kernel
theorem dX6_willShow_44 : decode cX6_willShow 44 = .ok (.iload_n 1, 1) := by decide +kernel
theorem dX6_willShow_45 : decode cX6_willShow 45 = .ok (.iadd, 1) := by decide +kernel
theorem dX6_willShow_46 : decode cX6_willShow 46 = .ok (.invokevirtual 74, 3) := by decide +kernel
theorem dX6_willShow_49 : decode cX6_willShow 49 = .ok (.istore 4, 2) := by decide +kernel
theorem dX6_willShow_51 : decode cX6_willShow 51 = .ok (.aload_n 0, 1) := by decide +kernel
theorem dX6_willShow_52 : decode cX6_willShow 52 = .ok (.invokevirtual 135, 3) := by decide +kernel
theorem dX6_willShow_55 : decode cX6_willShow 55 = .ok (.iload 4, 2) := by decide +kernel
theorem dX6_willShow_57 : decode cX6_willShow 57 = .ok (.ireturn, 1) := by decide +kernel
theorem dX6_nextChange_0 : decode cX6_nextChange 0 = .ok (.aload_n 0, 1) := by decide +kernel
theorem dX6_nextChange_1 : decode cX6_nextChange 1 = .ok (.iconst 0, 1) := by decide +kernel
theorem dX6_nextChange_2 : decode cX6_nextChange 2 = .ok (.putfield 38, 3) := by decide +kernel
theorem dX6_nextChange_5 : decode cX6_nextChange 5 = .ok (.aload_n 0, 1) := by decide +kernel
theorem dX6_nextChange_6 : decode cX6_nextChange 6 = .ok (.invokevirtual 129, 3) := by decide +kernel
theorem dX6_nextChange_9 : decode cX6_nextChange 9 = .ok (.aload_n 0, 1) := by decide +kernel
theorem dX6_nextChange_10 : decode cX6_nextChange 10 = .ok (.invokevirtual 117, 3) := by decide +kernel
theorem dX6_nextChange_13 : decode cX6_nextChange 13 = .ok (.iconst 0, 1) := by decide +kernel
theorem dX6_nextChange_14 : decode cX6_nextChange 14 = .ok (.istore_n 1, 1) := by decide +kernel
theorem dX6_nextChange_15 : decode cX6_nextChange 15 = .ok (.iconst 0, 1) := by decide +kernel
theorem dX6_nextChange_16 : decode cX6_nextChange 16 = .ok (.istore_n 2, 1) := by decide +kernel
theorem dX6_nextChange_17 : decode cX6_nextChange 17 = .ok (.iload_n 1, 1) := by decide +kernel
theorem dX6_nextChange_18 : decode cX6_nextChange 18 = .ok (.sipush 300, 3) := by decide +kernel
theorem dX6_nextChange_21 : decode cX6_nextChange 21 = .ok (.if_icmp .ge 31, 3) := by decide +kernel
theorem dX6_nextChange_24 : decode cX6_nextChange 24 = .ok (.iload_n 2, 1) := by decide +kernel
theorem dX6_nextChange_25 : decode cX6_nextChange 25 = .ok (.ifCond .ne 27, 3) := by decide +kernel
theorem dX6_nextChange_28 : decode cX6_nextChange 28 = .ok (.aload_n 0, 1) := by decide +kernel
theorem dX6_nextChange_29 : decode cX6_nextChange 29 = .ok (.invokevirtual 70, 3) := by decide +kernel
theorem dX6_nextChange_32 : decode cX6_nextChange 32 = .ok (.pop, 1) := by decide +kernel
theorem dX6_nextChange_33 : decode cX6_nextChange 33 = .ok (.iinc 1 1, 3) := by decide +kernel
theorem dX6_nextChange_36 : decode cX6_nextChange 36 = .ok (.aload_n 0, 1) := by decide +kernel
theorem dX6_nextChange_37 : decode cX6_nextChange 37 = .ok (.invokevirtual 132, 3) := by decide +kernel
theorem dX6_nextChange_40 : decode cX6_nextChange 40 = .ok (.ifCond .le 7, 3) := by decide +kernel
theorem dX6_nextChange_43 : decode cX6_nextChange 43 = .ok (.iconst 1, 1) := by decide +kernel
theorem dX6_nextChange_44 : decode cX6_nextChange 44 = .ok (.goto 4, 3) := by decide +kernel
theorem dX6_nextChange_47 : decode cX6_nextChange 47 = .ok (.iconst 0, 1) := by decide +kernel
theorem dX6_nextChange_48 : decode cX6_nextChange 48 = .ok (.istore_n 2, 1) := by decide +kernel
theorem dX6_nextChange_49 : decode cX6_nextChange 49 = .ok (.goto (-32), 3) := by decide +kernel
theorem dX6_nextChange_52 : decode cX6_nextChange 52 = .ok (.aload_n 0, 1) := by decide +kernel
theorem dX6_nextChange_53 : decode cX6_nextChange 53 = .ok (.invokevirtual 135, 3) := by decide +kernel
theorem dX6_nextChange_56 : decode cX6_nextChange 56 = .ok (.iload_n 2, 1) := by decide +kernel
theorem dX6_nextChange_57 : decode cX6_nextChange 57 = .ok (.ifCond .eq 7, 3) := by decide +kernel
theorem dX6_nextChange_60 : decode cX6_nextChange 60 = .ok (.iload_n 1, 1) := by decide +kernel
theorem dX6_nextChange_61 : decode cX6_nextChange 61 = .ok (.goto 5, 3) := by decide +kernel
theorem dX6_nextChange_64 : decode cX6_nextChange 64 = .ok (.bipush (-6), 2) := by decide +kernel
theorem dX6_nextChange_66 : decode cX6_nextChange 66 = .ok (.ireturn, 1) := by decide +kernel
theorem dX6_comesToLight_0 : decode cX6_comesToLight 0 = .ok (.aload_n 0, 1) := by decide +kernel
theorem dX6_comesToLight_1 : decode cX6_comesToLight 1 = .ok (.iconst 0, 1) := by decide +kernel
theorem dX6_comesToLight_2 : decode cX6_comesToLight 2 = .ok (.putfield 38, 3) := by decide +kernel
theorem dX6_comesToLight_5 : decode cX6_comesToLight 5 = .ok (.aload_n 0, 1) := by decide +kernel
theorem dX6_comesToLight_6 : decode cX6_comesToLight 6 = .ok (.iload_n 1, 1) := by decide +kernel
theorem dX6_comesToLight_7 : decode cX6_comesToLight 7 = .ok (.invokevirtual 84, 3) := by decide +kernel
theorem dX6_comesToLight_10 : decode cX6_comesToLight 10 = .ok (.ifCond .ne 5, 3) := by decide +kernel
theorem dX6_comesToLight_13 : decode cX6_comesToLight 13 = .ok (.iconst (-1), 1) := by decide +kernel
theorem dX6_comesToLight_14 : decode cX6_comesToLight 14 = .ok (.ireturn, 1) := by decide +kernel
theorem dX6_comesToLight_15 : decode cX6_comesToLight 15 = .ok (.aload_n 0, 1) := by decide +kernel
theorem dX6_comesToLight_16 : decode cX6_comesToLight 16 = .ok (.invokevirtual 129, 3) := by decide +kernel
theorem dX6_comesToLight_19 : decode cX6_comesToLight 19 = .ok (.iconst 0, 1) := by decide +kernel
theorem dX6_comesToLight_20 : decode cX6_comesToLight 20 = .ok (.istore_n 2, 1) := by decide +kernel
theorem dX6_comesToLight_21 : decode cX6_comesToLight 21 = .ok (.aload_n 0, 1) := by decide +kernel
theorem dX6_comesToLight_22 : decode cX6_comesToLight 22 = .ok (.iload_n 1, 1) := by decide +kernel
theorem dX6_comesToLight_23 : decode cX6_comesToLight 23 = .ok (.iconst 5, 1) := by decide +kernel
theorem dX6_comesToLight_24 : decode cX6_comesToLight 24 = .ok (.invokevirtual 88, 3) := by decide +kernel
theorem dX6_comesToLight_27 : decode cX6_comesToLight 27 = .ok (.ifCond .le 7, 3) := by decide +kernel
theorem dX6_comesToLight_30 : decode cX6_comesToLight 30 = .ok (.iconst 1, 1) := by decide +kernel
theorem dX6_comesToLight_31 : decode cX6_comesToLight 31 = .ok (.goto 4, 3) := by decide +kernel
theorem dX6_comesToLight_34 : decode cX6_comesToLight 34 = .ok (.iconst 0, 1) := by decide +kernel
theorem dX6_comesToLight_35 : decode cX6_comesToLight 35 = .ok (.istore_n 3, 1) := by decide +kernel
theorem dX6_comesToLight_36 : decode cX6_comesToLight 36 = .ok (.iload_n 2, 1) := by decide +kernel
theorem dX6_comesToLight_37 : decode cX6_comesToLight 37 = .ok (.sipush 300, 3) := by decide +kernel
theorem dX6_comesToLight_40 : decode cX6_comesToLight 40 = .ok (.if_icmp .ge 33, 3) := by decide +kernel
theorem dX6_comesToLight_43 : decode cX6_comesToLight 43 = .ok (.iload_n 3, 1) := by decide +kernel
theorem dX6_comesToLight_44 : decode cX6_comesToLight 44 = .ok (.ifCond .ne 29, 3) := by decide +kernel
theorem dX6_comesToLight_47 : decode cX6_comesToLight 47 = .ok (.aload_n 0, 1) := by decide +kernel
theorem dX6_comesToLight_48 : decode cX6_comesToLight 48 = .ok (.invokevirtual 70, 3) := by decide +kernel
theorem dX6_comesToLight_51 : decode cX6_comesToLight 51 = .ok (.pop, 1) := by decide +kernel
theorem dX6_comesToLight_52 : decode cX6_comesToLight 52 = .ok (.iinc 2 1, 3) := by decide +kernel
theorem dX6_comesToLight_55 : decode cX6_comesToLight 55 = .ok (.aload_n 0, 1) := by decide +kernel
theorem dX6_comesToLight_56 : decode cX6_comesToLight 56 = .ok (.iload_n 1, 1) := by decide +kernel
theorem dX6_comesToLight_57 : decode cX6_comesToLight 57 = .ok (.iconst 5, 1) := by decide +kernel
theorem dX6_comesToLight_58 : decode cX6_comesToLight 58 = .ok (.invokevirtual 88, 3) := by decide +kernel
theorem dX6_comesToLight_61 : decode cX6_comesToLight 61 = .ok (.ifCond .le 7, 3) := by decide +kernel
theorem dX6_comesToLight_64 : decode cX6_comesToLight 64 = .ok (.iconst 1, 1) := by decide +kernel
theorem dX6_comesToLight_65 : decode cX6_comesToLight 65 = .ok (.goto 4, 3) := by decide +kernel
theorem dX6_comesToLight_68 : decode cX6_comesToLight 68 = .ok (.iconst 0, 1) := by decide +kernel
theorem dX6_comesToLight_69 : decode cX6_comesToLight 69 = .ok (.istore_n 3, 1) := by decide +kernel
theorem dX6_comesToLight_70 : decode cX6_comesToLight 70 = .ok (.goto (-34), 3) := by decide +kernel
theorem dX6_comesToLight_73 : decode cX6_comesToLight 73 = .ok (.aload_n 0, 1) := by decide +kernel
theorem dX6_comesToLight_74 : decode cX6_comesToLight 74 = .ok (.invokevirtual 135, 3) := by decide +kernel
theorem dX6_comesToLight_77 : decode cX6_comesToLight 77 = .ok (.iload_n 3, 1) := by decide +kernel
theorem dX6_comesToLight_78 : decode cX6_comesToLight 78 = .ok (.ifCond .eq 7, 3) := by decide +kernel
theorem dX6_comesToLight_81 : decode cX6_comesToLight 81 = .ok (.iload_n 2, 1) := by decide +kernel
theorem dX6_comesToLight_82 : decode cX6_comesToLight 82 = .ok (.goto 5, 3) := by decide +kernel
theorem dX6_comesToLight_85 : decode cX6_comesToLight 85 = .ok (.bipush (-6), 2) := by decide +kernel
theorem dX6_comesToLight_87 : decode cX6_comesToLight 87 = .ok (.ireturn, 1) := by decide +kernel
theorem dX6_bestTorn_0 : decode cX6_bestTorn 0 = .ok (.aload_n 0, 1) := by decide +kernel
theorem dX6_bestTorn_1 : decode cX6_bestTorn 1 = .ok (.iconst 0, 1) := by decide +kernel
theorem dX6_bestTorn_2 : decode cX6_bestTorn 2 = .ok (.putfield 38, 3) := by decide +kernel
theorem dX6_bestTorn_5 : decode cX6_bestTorn 5 = .ok (.iload_n 1, 1) := by decide +kernel
theorem dX6_bestTorn_6 : decode cX6_bestTorn 6 = .ok (.iconst 0, 1) := by decide +kernel
theorem dX6_bestTorn_7 : decode cX6_bestTorn 7 = .ok (.iconst 1, 1) := by decide +kernel
theorem dX6_bestTorn_8 : decode cX6_bestTorn 8 = .ok (.invokestatic 42, 3) := by decide +kernel
theorem dX6_bestTorn_11 : decode cX6_bestTorn 11 = .ok (.ifCond .ne 6, 3) := by decide +kernel
theorem dX6_bestTorn_14 : decode cX6_bestTorn 14 = .ok (.bipush (-2), 2) := by decide +kernel
theorem dX6_bestTorn_16 : decode cX6_bestTorn 16 = .ok (.ireturn, 1) := by decide +kernel
theorem dX6_bestTorn_17 : decode cX6_bestTorn 17 = .ok (.bipush (-6), 2) := by decide +kernel
theorem dX6_bestTorn_19 : decode cX6_bestTorn 19 = .ok (.istore_n 2, 1) := by decide +kernel
theorem dX6_bestTorn_20 : decode cX6_bestTorn 20 = .ok (.bipush (-6), 2) := by decide +kernel
theorem dX6_bestTorn_22 : decode cX6_bestTorn 22 = .ok (.istore_n 3, 1) := by decide +kernel
theorem dX6_bestTorn_23 : decode cX6_bestTorn 23 = .ok (.iconst 0, 1) := by decide +kernel
theorem dX6_bestTorn_24 : decode cX6_bestTorn 24 = .ok (.istore 4, 2) := by decide +kernel
theorem dX6_bestTorn_26 : decode cX6_bestTorn 26 = .ok (.iload 4, 2) := by decide +kernel
theorem dX6_bestTorn_28 : decode cX6_bestTorn 28 = .ok (.aload_n 0, 1) := by decide +kernel
theorem dX6_bestTorn_29 : decode cX6_bestTorn 29 = .ok (.getfield 7, 3) := by decide +kernel
theorem dX6_bestTorn_32 : decode cX6_bestTorn 32 = .ok (.iconst 0, 1) := by decide +kernel
theorem dX6_bestTorn_33 : decode cX6_bestTorn 33 = .ok (.iaload, 1) := by decide +kernel
theorem dX6_bestTorn_34 : decode cX6_bestTorn 34 = .ok (.if_icmp .ge 43, 3) := by decide +kernel
theorem dX6_bestTorn_37 : decode cX6_bestTorn 37 = .ok (.aload_n 0, 1) := by decide +kernel
theorem dX6_bestTorn_38 : decode cX6_bestTorn 38 = .ok (.iload 4, 2) := by decide +kernel
theorem dX6_bestTorn_40 : decode cX6_bestTorn 40 = .ok (.invokevirtual 123, 3) := by decide +kernel
theorem dX6_bestTorn_43 : decode cX6_bestTorn 43 = .ok (.istore 5, 2) := by decide +kernel
theorem dX6_bestTorn_45 : decode cX6_bestTorn 45 = .ok (.iload 5, 2) := by decide +kernel
theorem dX6_bestTorn_47 : decode cX6_bestTorn 47 = .ok (.iload_n 3, 1) := by decide +kernel
theorem dX6_bestTorn_48 : decode cX6_bestTorn 48 = .ok (.if_icmp .le 8, 3) := by decide +kernel
theorem dX6_bestTorn_51 : decode cX6_bestTorn 51 = .ok (.iload 4, 2) := by decide +kernel
theorem dX6_bestTorn_53 : decode cX6_bestTorn 53 = .ok (.goto 4, 3) := by decide +kernel
theorem dX6_bestTorn_56 : decode cX6_bestTorn 56 = .ok (.iload_n 2, 1) := by decide +kernel
theorem dX6_bestTorn_57 : decode cX6_bestTorn 57 = .ok (.istore_n 2, 1) := by decide +kernel
theorem dX6_bestTorn_58 : decode cX6_bestTorn 58 = .ok (.iload 5, 2) := by decide +kernel
theorem dX6_bestTorn_60 : decode cX6_bestTorn 60 = .ok (.iload_n 3, 1) := by decide +kernel
theorem dX6_bestTorn_61 : decode cX6_bestTorn 61 = .ok (.if_icmp .le 8, 3) := by decide +kernel
theorem dX6_bestTorn_64 : decode cX6_bestTorn 64 = .ok (.iload 5, 2) := by decide +kernel
theorem dX6_bestTorn_66 : decode cX6_bestTorn 66 = .ok (.goto 4, 3) := by decide +kernel
theorem dX6_bestTorn_69 : decode cX6_bestTorn 69 = .ok (.iload_n 3, 1) := by decide +kernel
theorem dX6_bestTorn_70 : decode cX6_bestTorn 70 = .ok (.istore_n 3, 1) := by decide +kernel
theorem dX6_bestTorn_71 : decode cX6_bestTorn 71 = .ok (.iinc 4 1, 3) := by decide +kernel
theorem dX6_bestTorn_74 : decode cX6_bestTorn 74 = .ok (.goto (-48), 3) := by decide +kernel
theorem dX6_bestTorn_77 : decode cX6_bestTorn 77 = .ok (.iload_n 1, 1) := by decide +kernel
theorem dX6_bestTorn_78 : decode cX6_bestTorn 78 = .ok (.ifCond .ne 7, 3) := by decide +kernel
theorem dX6_bestTorn_81 : decode cX6_bestTorn 81 = .ok (.iload_n 2, 1) := by decide +kernel
theorem dX6_bestTorn_82 : decode cX6_bestTorn 82 = .ok (.goto 4, 3) := by decide +kernel
theorem dX6_bestTorn_85 : decode cX6_bestTorn 85 = .ok (.iload_n 3, 1) := by decide +kernel
theorem dX6_bestTorn_86 : decode cX6_bestTorn 86 = .ok (.ireturn, 1) := by decide +kernel
theorem dX6_put_0 : decode cX6_put 0 = .ok (.aload_n 0, 1) := by decide +kernel
theorem dX6_put_1 : decode cX6_put 1 = .ok (.iconst 0, 1) := by decide +kernel
theorem dX6_put_2 : decode cX6_put 2 = .ok (.putfield 38, 3) := by decide +kernel
theorem dX6_put_5 : decode cX6_put 5 = .ok (.iconst 0, 1) := by decide +kernel
theorem dX6_put_6 : decode cX6_put 6 = .ok (.istore_n 3, 1) := by decide +kernel
theorem dX6_put_7 : decode cX6_put 7 = .ok (.lload_n 1, 1) := by decide +kernel
theorem dX6_put_8 : decode cX6_put 8 = .ok (.lstore 4, 2) := by decide +kernel
theorem dX6_put_10 : decode cX6_put 10 = .ok (.iconst 1, 1) := by decide +kernel
theorem dX6_put_11 : decode cX6_put 11 = .ok (.istore 6, 2) := by decide +kernel
theorem dX6_put_13 : decode cX6_put 13 = .ok (.iload_n 3, 1) := by decide +kernel
theorem dX6_put_14 : decode cX6_put 14 = .ok (.bipush 8, 2) := by decide +kernel
theorem dX6_put_16 : decode cX6_put 16 = .ok (.if_icmp .ge 56, 3) := by decide +kernel
theorem dX6_put_19 : decode cX6_put 19 = .ok (.lload 4, 2) := by decide +kernel
theorem dX6_put_21 : decode cX6_put 21 = .ok (.ldc2_w 138, 3) := by decide +kernel
theorem dX6_put_24 : decode cX6_put 24 = .ok (.land, 1) := by decide +kernel
theorem dX6_put_25 : decode cX6_put 25 = .ok (.lconst 0, 1) := by decide +kernel
theorem dX6_put_26 : decode cX6_put 26 = .ok (.lcmp, 1) := by decide +kernel
theorem dX6_put_27 : decode cX6_put 27 = .ok (.ifCond .eq 45, 3) := by decide +kernel
theorem dX6_put_30 : decode cX6_put 30 = .ok (.iload 6, 2) := by decide +kernel
theorem dX6_put_32 : decode cX6_put 32 = .ok (.ifCond .eq 24, 3) := by decide +kernel
theorem dX6_put_35 : decode cX6_put 35 = .ok (.lload 4, 2) := by decide +kernel
theorem dX6_put_37 : decode cX6_put 37 = .ok (.ldc2_w 138, 3) := by decide +kernel
theorem dX6_put_40 : decode cX6_put 40 = .ok (.land, 1) := by decide +kernel
theorem dX6_put_41 : decode cX6_put 41 = .ok (.l2i, 1) := by decide +kernel
theorem dX6_put_42 : decode cX6_put 42 = .ok (.bipush 33, 2) := by decide +kernel
theorem dX6_put_44 : decode cX6_put 44 = .ok (.bipush 126, 2) := by decide +kernel
theorem dX6_put_46 : decode cX6_put 46 = .ok (.invokestatic 42, 3) := by decide +kernel
theorem dX6_put_49 : decode cX6_put 49 = .ok (.ifCond .eq 7, 3) := by decide +kernel
theorem dX6_put_52 : decode cX6_put 52 = .ok (.iconst 1, 1) := by decide +kernel
theorem dX6_put_53 : decode cX6_put 53 = .ok (.goto 4, 3) := by decide +kernel
theorem dX6_put_56 : decode cX6_put 56 = .ok (.iconst 0, 1) := by decide +kernel
theorem dX6_put_57 : decode cX6_put 57 = .ok (.istore 6, 2) := by decide +kernel
theorem dX6_put_59 : decode cX6_put 59 = .ok (.lload 4, 2) := by decide +kernel
theorem dX6_put_61 : decode cX6_put 61 = .ok (.bipush 8, 2) := by decide +kernel
theorem dX6_put_63 : decode cX6_put 63 = .ok (.lushr, 1) := by decide +kernel
theorem dX6_put_64 : decode cX6_put 64 = .ok (.lstore 4, 2) := by decide +kernel
theorem dX6_put_66 : decode cX6_put 66 = .ok (.iinc 3 1, 3) := by decide +kernel
theorem dX6_put_69 : decode cX6_put 69 = .ok (.goto (-56), 3) := by decide +kernel
theorem dX6_put_72 : decode cX6_put 72 = .ok (.iload_n 3, 1) := by decide +kernel
theorem dX6_put_73 : decode cX6_put 73 = .ok (.ifCond .eq 15, 3) := by decide +kernel
theorem dX6_put_76 : decode cX6_put 76 = .ok (.iload 6, 2) := by decide +kernel
theorem dX6_put_78 : decode cX6_put 78 = .ok (.ifCond .eq 10, 3) := by decide +kernel
theorem dX6_put_81 : decode cX6_put 81 = .ok (.lload 4, 2) := by decide +kernel
theorem dX6_put_83 : decode cX6_put 83 = .ok (.lconst 0, 1) := by decide +kernel
theorem dX6_put_84 : decode cX6_put 84 = .ok (.lcmp, 1) := by decide +kernel
theorem dX6_put_85 : decode cX6_put 85 = .ok (.ifCond .eq 6, 3) := by decide +kernel
theorem dX6_put_88 : decode cX6_put 88 = .ok (.bipush (-2), 2) := by decide +kernel
theorem dX6_put_90 : decode cX6_put 90 = .ok (.ireturn, 1) := by decide +kernel
theorem dX6_put_91 : decode cX6_put 91 = .ok (.aload_n 0, 1) := by decide +kernel
theorem dX6_put_92 : decode cX6_put 92 = .ok (.getfield 104, 3) := by decide +kernel
theorem dX6_put_95 : decode cX6_put 95 = .ok (.iload_n 3, 1) := by decide +kernel
theorem dX6_put_96 : decode cX6_put 96 = .ok (.iadd, 1) := by decide +kernel
theorem dX6_put_97 : decode cX6_put 97 = .ok (.bipush 60, 2) := by decide +kernel
theorem dX6_put_99 : decode cX6_put 99 = .ok (.if_icmp .le 6, 3) := by decide +kernel
theorem dX6_put_102 : decode cX6_put 102 = .ok (.bipush (-4), 2) := by decide +kernel
theorem dX6_put_104 : decode cX6_put 104 = .ok (.ireturn, 1) := by decide +kernel
theorem dX6_put_105 : decode cX6_put 105 = .ok (.iconst 0, 1) := by decide +kernel
theorem dX6_put_106 : decode cX6_put 106 = .ok (.istore 7, 2) := by decide +kernel
theorem dX6_put_108 : decode cX6_put 108 = .ok (.iload 7, 2) := by decide +kernel
theorem dX6_put_110 : decode cX6_put 110 = .ok (.iload_n 3, 1) := by decide +kernel
theorem dX6_put_111 : decode cX6_put 111 = .ok (.if_icmp .ge 37, 3) := by decide +kernel
theorem dX6_put_114 : decode cX6_put 114 = .ok (.aload_n 0, 1) := by decide +kernel
theorem dX6_put_115 : decode cX6_put 115 = .ok (.getfield 26, 3) := by decide +kernel
theorem dX6_put_118 : decode cX6_put 118 = .ok (.aload_n 0, 1) := by decide +kernel
theorem dX6_put_119 : decode cX6_put 119 = .ok (.getfield 104, 3) := by decide +kernel
theorem dX6_put_122 : decode cX6_put 122 = .ok (.iload 7, 2) := by decide +kernel
theorem dX6_put_124 : decode cX6_put 124 = .ok (.iadd, 1) := by decide +kernel
theorem dX6_put_125 : decode cX6_put 125 = .ok (.lload_n 1, 1) := by decide +kernel
theorem dX6_put_126 : decode cX6_put 126 = .ok (.bipush 8, 2) := by decide +kernel
theorem dX6_put_128 : decode cX6_put 128 = .ok (.iload_n 3, 1) := by decide +kernel
theorem dX6_put_129 : decode cX6_put 129 = .ok (.iconst 1, 1) := by decide +kernel
theorem dX6_put_130 : decode cX6_put 130 = .ok (.isub, 1) := by decide +kernel
theorem dX6_put_131 : decode cX6_put 131 = .ok (.iload 7, 2) := by decide +kernel
theorem dX6_put_133 : decode cX6_put 133 = .ok (.isub, 1) := by decide +kernel
theorem dX6_put_134 : decode cX6_put 134 = .ok (.imul, 1) := by decide +kernel
theorem dX6_put_135 : decode cX6_put 135 = .ok (.lushr, 1) := by decide +kernel
theorem dX6_put_136 : decode cX6_put 136 = .ok (.ldc2_w 138, 3) := by decide +kernel
theorem dX6_put_139 : decode cX6_put 139 = .ok (.land, 1) := by decide +kernel
theorem dX6_put_140 : decode cX6_put 140 = .ok (.l2i, 1) := by decide +kernel
theorem dX6_put_141 : decode cX6_put 141 = .ok (.iastore, 1) := by decide +kernel
theorem dX6_put_142 : decode cX6_put 142 = .ok (.iinc 7 1, 3) := by decide +kernel
theorem dX6_put_145 : decode cX6_put 145 = .ok (.goto (-37), 3) := by decide +kernel
theorem dX6_put_148 : decode cX6_put 148 = .ok (.aload_n 0, 1) := by decide +kernel
theorem dX6_put_149 : decode cX6_put 149 = .ok (.dup, 1) := by decide +kernel
theorem dX6_put_150 : decode cX6_put 150 = .ok (.getfield 104, 3) := by decide +kernel
theorem dX6_put_153 : decode cX6_put 153 = .ok (.iload_n 3, 1) := by decide +kernel
theorem dX6_put_154 : decode cX6_put 154 = .ok (.iadd, 1) := by decide +kernel
theorem dX6_put_155 : decode cX6_put 155 = .ok (.putfield 104, 3) := by decide +kernel
theorem dX6_put_158 : decode cX6_put 158 = .ok (.aload_n 0, 1) := by decide +kernel
theorem dX6_put_159 : decode cX6_put 159 = .ok (.getfield 104, 3) := by decide +kernel
theorem dX6_put_162 : decode cX6_put 162 = .ok (.ireturn, 1) := by decide +kernel
theorem dX6_wipe_0 : decode cX6_wipe 0 = .ok (.aload_n 0, 1) := by decide +kernel
theorem dX6_wipe_1 : decode cX6_wipe 1 = .ok (.iconst 0, 1) := by decide +kernel
theorem dX6_wipe_2 : decode cX6_wipe 2 = .ok (.putfield 38, 3) := by decide +kernel
theorem dX6_wipe_5 : decode cX6_wipe 5 = .ok (.aload_n 0, 1) := by decide +kernel
theorem dX6_wipe_6 : decode cX6_wipe 6 = .ok (.getfield 104, 3) := by decide +kernel
theorem dX6_wipe_9 : decode cX6_wipe 9 = .ok (.istore_n 1, 1) := by decide +kernel
theorem dX6_wipe_10 : decode cX6_wipe 10 = .ok (.aload_n 0, 1) := by decide +kernel
theorem dX6_wipe_11 : decode cX6_wipe 11 = .ok (.iconst 0, 1) := by decide +kernel
theorem dX6_wipe_12 : decode cX6_wipe 12 = .ok (.putfield 104, 3) := by decide +kernel
theorem dX6_wipe_15 : decode cX6_wipe 15 = .ok (.iload_n 1, 1) := by decide +kernel
theorem dX6_wipe_16 : decode cX6_wipe 16 = .ok (.ireturn, 1) := by decide +kernel
theorem dX6_sign_0 : decode cX6_sign 0 = .ok (.aload_n 0, 1) := by decide +kernel
theorem dX6_sign_1 : decode cX6_sign 1 = .ok (.getfield 140, 3) := by decide +kernel
theorem dX6_sign_4 : decode cX6_sign 4 = .ok (.aload_n 0, 1) := by decide +kernel
theorem dX6_sign_5 : decode cX6_sign 5 = .ok (.getfield 104, 3) := by decide +kernel
theorem dX6_sign_8 : decode cX6_sign 8 = .ok (.if_icmp .ge 15, 3) := by decide +kernel
theorem dX6_sign_11 : decode cX6_sign 11 = .ok (.aload_n 0, 1) := by decide +kernel
theorem dX6_sign_12 : decode cX6_sign 12 = .ok (.getfield 26, 3) := by decide +kernel
theorem dX6_sign_15 : decode cX6_sign 15 = .ok (.aload_n 0, 1) := by decide +kernel
theorem dX6_sign_16 : decode cX6_sign 16 = .ok (.getfield 140, 3) := by decide +kernel
theorem dX6_sign_19 : decode cX6_sign 19 = .ok (.iaload, 1) := by decide +kernel
theorem dX6_sign_20 : decode cX6_sign 20 = .ok (.goto 4, 3) := by decide +kernel
theorem dX6_sign_23 : decode cX6_sign 23 = .ok (.iconst 0, 1) := by decide +kernel
theorem dX6_sign_24 : decode cX6_sign 24 = .ok (.ireturn, 1) := by decide +kernel
theorem dX6_wants_0 : decode cX6_wants 0 = .ok (.aload_n 0, 1) := by decide +kernel
theorem dX6_wants_1 : decode cX6_wants 1 = .ok (.aload_n 0, 1) := by decide +kernel
theorem dX6_wants_2 : decode cX6_wants 2 = .ok (.getfield 143, 3) := by decide +kernel
theorem dX6_wants_5 : decode cX6_wants 5 = .ok (.ifCond .eq 15, 3) := by decide +kernel
theorem dX6_wants_8 : decode cX6_wants 8 = .ok (.aload_n 0, 1) := by decide +kernel
theorem dX6_wants_9 : decode cX6_wants 9 = .ok (.invokevirtual 147, 3) := by decide +kernel
theorem dX6_wants_12 : decode cX6_wants 12 = .ok (.iload_n 1, 1) := by decide +kernel
theorem dX6_wants_13 : decode cX6_wants 13 = .ok (.if_icmp .ne 7, 3) := by decide +kernel
theorem dX6_wants_16 : decode cX6_wants 16 = .ok (.iconst 1, 1) := by decide +kernel
theorem dX6_wants_17 : decode cX6_wants 17 = .ok (.goto 4, 3) := by decide +kernel
theorem dX6_wants_20 : decode cX6_wants 20 = .ok (.iconst 0, 1) := by decide +kernel
theorem dX6_wants_21 : decode cX6_wants 21 = .ok (.putfield 143, 3) := by decide +kernel
theorem dX6_wants_24 : decode cX6_wants 24 = .ok (.aload_n 0, 1) := by decide +kernel
theorem dX6_wants_25 : decode cX6_wants 25 = .ok (.dup, 1) := by decide +kernel
theorem dX6_wants_26 : decode cX6_wants 26 = .ok (.getfield 140, 3) := by decide +kernel
theorem dX6_wants_29 : decode cX6_wants 29 = .ok (.aload_n 0, 1) := by decide +kernel
theorem dX6_wants_30 : decode cX6_wants 30 = .ok (.getfield 143, 3) := by decide +kernel
theorem dX6_wants_33 : decode cX6_wants 33 = .ok (.ifCond .eq 7, 3) := by decide +kernel
theorem dX6_wants_36 : decode cX6_wants 36 = .ok (.iconst 1, 1) := by decide +kernel
theorem dX6_wants_37 : decode cX6_wants 37 = .ok (.goto 4, 3) := by decide +kernel
theorem dX6_wants_40 : decode cX6_wants 40 = .ok (.iconst 0, 1) := by decide +kernel
theorem dX6_wants_41 : decode cX6_wants 41 = .ok (.iadd, 1) := by decide +kernel
theorem dX6_wants_42 : decode cX6_wants 42 = .ok (.putfield 140, 3) := by decide +kernel
theorem dX6_wants_45 : decode cX6_wants 45 = .ok (.return_, 1) := by decide +kernel
theorem dX6_digit_0 : decode cX6_digit 0 = .ok (.aload_n 0, 1) := by decide +kernel
theorem dX6_digit_1 : decode cX6_digit 1 = .ok (.aload_n 0, 1) := by decide +kernel
theorem dX6_digit_2 : decode cX6_digit 2 = .ok (.getfield 143, 3) := by decide +kernel
theorem dX6_digit_5 : decode cX6_digit 5 = .ok (.ifCond .eq 23, 3) := by decide +kernel
theorem dX6_digit_8 : decode cX6_digit 8 = .ok (.aload_n 0, 1) := by decide +kernel
theorem dX6_digit_9 : decode cX6_digit 9 = .ok (.invokevirtual 147, 3) := by decide +kernel
theorem dX6_digit_12 : decode cX6_digit 12 = .ok (.bipush 48, 2) := by decide +kernel
theorem dX6_digit_14 : decode cX6_digit 14 = .ok (.bipush 48, 2) := by decide +kernel
theorem dX6_digit_16 : decode cX6_digit 16 = .ok (.iload_n 1, 1) := by decide +kernel
theorem dX6_digit_17 : decode cX6_digit 17 = .ok (.iadd, 1) := by decide +kernel
theorem dX6_digit_18 : decode cX6_digit 18 = .ok (.invokestatic 42, 3) := by decide +kernel
theorem dX6_digit_21 : decode cX6_digit 21 = .ok (.ifCond .eq 7, 3) := by decide +kernel
theorem dX6_digit_24 : decode cX6_digit 24 = .ok (.iconst 1, 1) := by decide +kernel
theorem dX6_digit_25 : decode cX6_digit 25 = .ok (.goto 4, 3) := by decide +kernel
theorem dX6_digit_28 : decode cX6_digit 28 = .ok (.iconst 0, 1) := by decide +kernel
theorem dX6_digit_29 : decode cX6_digit 29 = .ok (.putfield 143, 3) := by decide +kernel
theorem dX6_digit_32 : decode cX6_digit 32 = .ok (.aload_n 0, 1) := by decide +kernel
theorem dX6_digit_33 : decode cX6_digit 33 = .ok (.invokevirtual 147, 3) := by decide +kernel
theorem dX6_digit_36 : decode cX6_digit 36 = .ok (.bipush 48, 2) := by decide +kernel
theorem dX6_digit_38 : decode cX6_digit 38 = .ok (.isub, 1) := by decide +kernel
theorem dX6_digit_39 : decode cX6_digit 39 = .ok (.istore_n 2, 1) := by decide +kernel
theorem dX6_digit_40 : decode cX6_digit 40 = .ok (.aload_n 0, 1) := by decide +kernel
theorem dX6_digit_41 : decode cX6_digit 41 = .ok (.dup, 1) := by decide +kernel
theorem dX6_digit_42 : decode cX6_digit 42 = .ok (.getfield 140, 3) := by decide +kernel
theorem dX6_digit_45 : decode cX6_digit 45 = .ok (.aload_n 0, 1) := by decide +kernel
theorem dX6_digit_46 : decode cX6_digit 46 = .ok (.getfield 143, 3) := by decide +kernel
theorem dX6_digit_49 : decode cX6_digit 49 = .ok (.ifCond .eq 7, 3) := by decide +kernel
theorem dX6_digit_52 : decode cX6_digit 52 = .ok (.iconst 1, 1) := by decide +kernel
theorem dX6_digit_53 : decode cX6_digit 53 = .ok (.goto 4, 3) := by decide +kernel
theorem dX6_digit_56 : decode cX6_digit 56 = .ok (.iconst 0, 1) := by decide +kernel
theorem dX6_digit_57 : decode cX6_digit 57 = .ok (.iadd, 1) := by decide +kernel
theorem dX6_digit_58 : decode cX6_digit 58 = .ok (.putfield 140, 3) := by decide +kernel
theorem dX6_digit_61 : decode cX6_digit 61 = .ok (.iload_n 2, 1) := by decide +kernel
theorem dX6_digit_62 : decode cX6_digit 62 = .ok (.ireturn, 1) := by decide +kernel
theorem dX6_readsBuyer_0 : decode cX6_readsBuyer 0 = .ok (.aload_n 0, 1) := by decide +kernel
theorem dX6_readsBuyer_1 : decode cX6_readsBuyer 1 = .ok (.bipush 9, 2) := by decide +kernel
theorem dX6_readsBuyer_3 : decode cX6_readsBuyer 3 = .ok (.invokevirtual 150, 3) := by decide +kernel
theorem dX6_readsBuyer_6 : decode cX6_readsBuyer 6 = .ok (.istore_n 1, 1) := by decide +kernel
theorem dX6_readsBuyer_7 : decode cX6_readsBuyer 7 = .ok (.aload_n 0, 1) := by decide +kernel
theorem dX6_readsBuyer_8 : decode cX6_readsBuyer 8 = .ok (.iconst 5, 1) := by decide +kernel
theorem dX6_readsBuyer_9 : decode cX6_readsBuyer 9 = .ok (.invokevirtual 150, 3) := by decide +kernel
theorem dX6_readsBuyer_12 : decode cX6_readsBuyer 12 = .ok (.istore_n 2, 1) := by decide +kernel
theorem dX6_readsBuyer_13 : decode cX6_readsBuyer 13 = .ok (.aload_n 0, 1) := by decide +kernel
theorem dX6_readsBuyer_14 : decode cX6_readsBuyer 14 = .ok (.bipush 58, 2) := by decide +kernel
theorem dX6_readsBuyer_16 : decode cX6_readsBuyer 16 = .ok (.invokevirtual 153, 3) := by decide +kernel
theorem dX6_readsBuyer_19 : decode cX6_readsBuyer 19 = .ok (.aload_n 0, 1) := by decide +kernel
theorem dX6_readsBuyer_20 : decode cX6_readsBuyer 20 = .ok (.bipush 9, 2) := by decide +kernel
theorem dX6_readsBuyer_22 : decode cX6_readsBuyer 22 = .ok (.invokevirtual 150, 3) := by decide +kernel
theorem dX6_readsBuyer_25 : decode cX6_readsBuyer 25 = .ok (.istore_n 3, 1) := by decide +kernel
theorem dX6_readsBuyer_26 : decode cX6_readsBuyer 26 = .ok (.iconst 1, 1) := by decide +kernel
theorem dX6_readsBuyer_27 : decode cX6_readsBuyer 27 = .ok (.istore 4, 2) := by decide +kernel
theorem dX6_readsBuyer_29 : decode cX6_readsBuyer 29 = .ok (.iload 4, 2) := by decide +kernel
theorem dX6_readsBuyer_31 : decode cX6_readsBuyer 31 = .ok (.iconst 3, 1) := by decide +kernel
theorem dX6_readsBuyer_32 : decode cX6_readsBuyer 32 = .ok (.if_icmp .ge 57, 3) := by decide +kernel
theorem dX6_readsBuyer_35 : decode cX6_readsBuyer 35 = .ok (.aload_n 0, 1) := by decide +kernel
theorem dX6_readsBuyer_36 : decode cX6_readsBuyer 36 = .ok (.getfield 143, 3) := by decide +kernel
theorem dX6_readsBuyer_39 : decode cX6_readsBuyer 39 = .ok (.ifCond .eq 50, 3) := by decide +kernel
theorem dX6_readsBuyer_42 : decode cX6_readsBuyer 42 = .ok (.iload_n 3, 1) := by decide +kernel
theorem dX6_readsBuyer_43 : decode cX6_readsBuyer 43 = .ok (.ifCond .le 46, 3) := by decide +kernel
theorem dX6_readsBuyer_46 : decode cX6_readsBuyer 46 = .ok (.aload_n 0, 1) := by decide +kernel
theorem dX6_readsBuyer_47 : decode cX6_readsBuyer 47 = .ok (.invokevirtual 147, 3) := by decide +kernel
theorem dX6_readsBuyer_50 : decode cX6_readsBuyer 50 = .ok (.bipush 48, 2) := by decide +kernel
theorem dX6_readsBuyer_52 : decode cX6_readsBuyer 52 = .ok (.bipush 57, 2) := by decide +kernel
theorem dX6_readsBuyer_54 : decode cX6_readsBuyer 54 = .ok (.invokestatic 42, 3) := by decide +kernel
theorem dX6_readsBuyer_57 : decode cX6_readsBuyer 57 = .ok (.ifCond .eq 32, 3) := by decide +kernel
theorem dX6_readsBuyer_60 : decode cX6_readsBuyer 60 = .ok (.bipush 10, 2) := by decide +kernel
theorem dX6_readsBuyer_62 : decode cX6_readsBuyer 62 = .ok (.iload_n 3, 1) := by decide +kernel
theorem dX6_readsBuyer_63 : decode cX6_readsBuyer 63 = .ok (.imul, 1) := by decide +kernel
theorem dX6_readsBuyer_64 : decode cX6_readsBuyer 64 = .ok (.aload_n 0, 1) := by decide +kernel
theorem dX6_readsBuyer_65 : decode cX6_readsBuyer 65 = .ok (.invokevirtual 147, 3) := by decide +kernel
theorem dX6_readsBuyer_68 : decode cX6_readsBuyer 68 = .ok (.iadd, 1) := by decide +kernel
theorem dX6_readsBuyer_69 : decode cX6_readsBuyer 69 = .ok (.bipush 48, 2) := by decide +kernel
theorem dX6_readsBuyer_71 : decode cX6_readsBuyer 71 = .ok (.isub, 1) := by decide +kernel
theorem dX6_readsBuyer_72 : decode cX6_readsBuyer 72 = .ok (.istore_n 3, 1) := by decide +kernel
theorem dX6_readsBuyer_73 : decode cX6_readsBuyer 73 = .ok (.aload_n 0, 1) := by decide +kernel
theorem dX6_readsBuyer_74 : decode cX6_readsBuyer 74 = .ok (.dup, 1) := by decide +kernel
theorem dX6_readsBuyer_75 : decode cX6_readsBuyer 75 = .ok (.getfield 140, 3) := by decide +kernel
theorem dX6_readsBuyer_78 : decode cX6_readsBuyer 78 = .ok (.iconst 1, 1) := by decide +kernel
theorem dX6_readsBuyer_79 : decode cX6_readsBuyer 79 = .ok (.iadd, 1) := by decide +kernel
theorem dX6_readsBuyer_80 : decode cX6_readsBuyer 80 = .ok (.putfield 140, 3) := by decide +kernel
theorem dX6_readsBuyer_83 : decode cX6_readsBuyer 83 = .ok (.iinc 4 1, 3) := by decide +kernel
theorem dX6_readsBuyer_86 : decode cX6_readsBuyer 86 = .ok (.goto (-57), 3) := by decide +kernel
theorem dX6_readsBuyer_89 : decode cX6_readsBuyer 89 = .ok (.aload_n 0, 1) := by decide +kernel
theorem dX6_readsBuyer_90 : decode cX6_readsBuyer 90 = .ok (.getfield 35, 3) := by decide +kernel
theorem dX6_readsBuyer_93 : decode cX6_readsBuyer 93 = .ok (.iconst 2, 1) := by decide +kernel
theorem dX6_readsBuyer_94 : decode cX6_readsBuyer 94 = .ok (.aload_n 0, 1) := by decide +kernel
theorem dX6_readsBuyer_95 : decode cX6_readsBuyer 95 = .ok (.getfield 107, 3) := by decide +kernel
theorem dX6_readsBuyer_98 : decode cX6_readsBuyer 98 = .ok (.imul, 1) := by decide +kernel
theorem dX6_readsBuyer_99 : decode cX6_readsBuyer 99 = .ok (.bipush 10, 2) := by decide +kernel
theorem dX6_readsBuyer_101 : decode cX6_readsBuyer 101 = .ok (.iload_n 2, 1) := by decide +kernel
theorem dX6_readsBuyer_102 : decode cX6_readsBuyer 102 = .ok (.imul, 1) := by decide +kernel
theorem dX6_readsBuyer_103 : decode cX6_readsBuyer 103 = .ok (.iload_n 1, 1) := by decide +kernel
theorem dX6_readsBuyer_104 : decode cX6_readsBuyer 104 = .ok (.iadd, 1) := by decide +kernel
theorem dX6_readsBuyer_105 : decode cX6_readsBuyer 105 = .ok (.iastore, 1) := by decide +kernel
theorem dX6_readsBuyer_106 : decode cX6_readsBuyer 106 = .ok (.aload_n 0, 1) := by decide +kernel
theorem dX6_readsBuyer_107 : decode cX6_readsBuyer 107 = .ok (.getfield 35, 3) := by decide +kernel
theorem dX6_readsBuyer_110 : decode cX6_readsBuyer 110 = .ok (.iconst 2, 1) := by decide +kernel
theorem dX6_readsBuyer_111 : decode cX6_readsBuyer 111 = .ok (.aload_n 0, 1) := by decide +kernel
theorem dX6_readsBuyer_112 : decode cX6_readsBuyer 112 = .ok (.getfield 107, 3) := by decide +kernel
theorem dX6_readsBuyer_115 : decode cX6_readsBuyer 115 = .ok (.imul, 1) := by decide +kernel
theorem dX6_readsBuyer_116 : decode cX6_readsBuyer 116 = .ok (.iconst 1, 1) := by decide +kernel
theorem dX6_readsBuyer_117 : decode cX6_readsBuyer 117 = .ok (.iadd, 1) := by decide +kernel
theorem dX6_readsBuyer_118 : decode cX6_readsBuyer 118 = .ok (.iload_n 3, 1) := by decide +kernel
theorem dX6_readsBuyer_119 : decode cX6_readsBuyer 119 = .ok (.iastore, 1) := by decide +kernel
theorem dX6_readsBuyer_120 : decode cX6_readsBuyer 120 = .ok (.aload_n 0, 1) := by decide +kernel
theorem dX6_readsBuyer_121 : decode cX6_readsBuyer 121 = .ok (.dup, 1) := by decide +kernel
theorem dX6_readsBuyer_122 : decode cX6_readsBuyer 122 = .ok (.getfield 107, 3) := by decide +kernel
theorem dX6_readsBuyer_125 : decode cX6_readsBuyer 125 = .ok (.aload_n 0, 1) := by decide +kernel
theorem dX6_readsBuyer_126 : decode cX6_readsBuyer 126 = .ok (.getfield 143, 3) := by decide +kernel
theorem dX6_readsBuyer_129 : decode cX6_readsBuyer 129 = .ok (.ifCond .eq 7, 3) := by decide +kernel
theorem dX6_readsBuyer_132 : decode cX6_readsBuyer 132 = .ok (.iconst 1, 1) := by decide +kernel
theorem dX6_readsBuyer_133 : decode cX6_readsBuyer 133 = .ok (.goto 4, 3) := by decide +kernel
theorem dX6_readsBuyer_136 : decode cX6_readsBuyer 136 = .ok (.iconst 0, 1) := by decide +kernel
theorem dX6_readsBuyer_137 : decode cX6_readsBuyer 137 = .ok (.iadd, 1) := by decide +kernel
theorem dX6_readsBuyer_138 : decode cX6_readsBuyer 138 = .ok (.putfield 107, 3) := by decide +kernel
theorem dX6_readsBuyer_141 : decode cX6_readsBuyer 141 = .ok (.return_, 1) := by decide +kernel
theorem dX6_reads_0 : decode cX6_reads 0 = .ok (.aload_n 0, 1) := by decide +kernel
theorem dX6_reads_1 : decode cX6_reads 1 = .ok (.iconst 0, 1) := by decide +kernel
theorem dX6_reads_2 : decode cX6_reads 2 = .ok (.putfield 140, 3) := by decide +kernel
theorem dX6_reads_5 : decode cX6_reads 5 = .ok (.aload_n 0, 1) := by decide +kernel
theorem dX6_reads_6 : decode cX6_reads 6 = .ok (.iconst 1, 1) := by decide +kernel
theorem dX6_reads_7 : decode cX6_reads 7 = .ok (.putfield 143, 3) := by decide +kernel
theorem dX6_reads_10 : decode cX6_reads 10 = .ok (.aload_n 0, 1) := by decide +kernel
theorem dX6_reads_11 : decode cX6_reads 11 = .ok (.iconst 0, 1) := by decide +kernel
theorem dX6_reads_12 : decode cX6_reads 12 = .ok (.putfield 107, 3) := by decide +kernel
theorem dX6_reads_15 : decode cX6_reads 15 = .ok (.aload_n 0, 1) := by decide +kernel
theorem dX6_reads_16 : decode cX6_reads 16 = .ok (.invokevirtual 156, 3) := by decide +kernel
theorem dX6_reads_19 : decode cX6_reads 19 = .ok (.aload_n 0, 1) := by decide +kernel
theorem dX6_reads_20 : decode cX6_reads 20 = .ok (.getfield 143, 3) := by decide +kernel
theorem dX6_reads_23 : decode cX6_reads 23 = .ok (.ifCond .eq 34, 3) := by decide +kernel
theorem dX6_reads_26 : decode cX6_reads 26 = .ok (.aload_n 0, 1) := by decide +kernel
theorem dX6_reads_27 : decode cX6_reads 27 = .ok (.getfield 140, 3) := by decide +kernel
theorem dX6_reads_30 : decode cX6_reads 30 = .ok (.aload_n 0, 1) := by decide +kernel
theorem dX6_reads_31 : decode cX6_reads 31 = .ok (.getfield 104, 3) := by decide +kernel
theorem dX6_reads_34 : decode cX6_reads 34 = .ok (.if_icmp .ge 23, 3) := by decide +kernel
theorem dX6_reads_37 : decode cX6_reads 37 = .ok (.aload_n 0, 1) := by decide +kernel
theorem dX6_reads_38 : decode cX6_reads 38 = .ok (.bipush 59, 2) := by decide +kernel
theorem dX6_reads_40 : decode cX6_reads 40 = .ok (.invokevirtual 153, 3) := by decide +kernel
theorem dX6_reads_43 : decode cX6_reads 43 = .ok (.aload_n 0, 1) := by decide +kernel
theorem dX6_reads_44 : decode cX6_reads 44 = .ok (.getfield 143, 3) := by decide +kernel
theorem dX6_reads_47 : decode cX6_reads 47 = .ok (.ifCond .eq (-28), 3) := by decide +kernel
theorem dX6_reads_50 : decode cX6_reads 50 = .ok (.aload_n 0, 1) := by decide +kernel
theorem dX6_reads_51 : decode cX6_reads 51 = .ok (.invokevirtual 156, 3) := by decide +kernel
theorem dX6_reads_54 : decode cX6_reads 54 = .ok (.goto (-35), 3) := by decide +kernel
theorem dX6_reads_57 : decode cX6_reads 57 = .ok (.aload_n 0, 1) := by decide +kernel
theorem dX6_reads_58 : decode cX6_reads 58 = .ok (.getfield 143, 3) := by decide +kernel
theorem dX6_reads_61 : decode cX6_reads 61 = .ok (.ifCond .eq 8, 3) := by decide +kernel
theorem dX6_reads_64 : decode cX6_reads 64 = .ok (.bipush (-6), 2) := by decide +kernel
theorem dX6_reads_66 : decode cX6_reads 66 = .ok (.goto 7, 3) := by decide +kernel
theorem dX6_reads_69 : decode cX6_reads 69 = .ok (.aload_n 0, 1) := by decide +kernel
theorem dX6_reads_70 : decode cX6_reads 70 = .ok (.getfield 140, 3) := by decide +kernel
theorem dX6_reads_73 : decode cX6_reads 73 = .ok (.ireturn, 1) := by decide +kernel
theorem dX6_fault_0 : decode cX6_fault 0 = .ok (.aload_n 0, 1) := by decide +kernel
theorem dX6_fault_1 : decode cX6_fault 1 = .ok (.iconst 0, 1) := by decide +kernel
theorem dX6_fault_2 : decode cX6_fault 2 = .ok (.putfield 38, 3) := by decide +kernel
theorem dX6_fault_5 : decode cX6_fault 5 = .ok (.aload_n 0, 1) := by decide +kernel
theorem dX6_fault_6 : decode cX6_fault 6 = .ok (.invokevirtual 101, 3) := by decide +kernel
theorem dX6_fault_9 : decode cX6_fault 9 = .ok (.ireturn, 1) := by decide +kernel
theorem dX6_undo_0 : decode cX6_undo 0 = .ok (.aload_n 0, 1) := by decide +kernel
theorem dX6_undo_1 : decode cX6_undo 1 = .ok (.iconst 0, 1) := by decide +kernel
theorem dX6_undo_2 : decode cX6_undo 2 = .ok (.putfield 38, 3) := by decide +kernel
theorem dX6_undo_5 : decode cX6_undo 5 = .ok (.aload_n 0, 1) := by decide +kernel
theorem dX6_undo_6 : decode cX6_undo 6 = .ok (.getfield 50, 3) := by decide +kernel
theorem dX6_undo_9 : decode cX6_undo 9 = .ok (.ifCond .ne 6, 3) := by decide +kernel
theorem dX6_undo_12 : decode cX6_undo 12 = .ok (.bipush (-5), 2) := by decide +kernel
theorem dX6_undo_14 : decode cX6_undo 14 = .ok (.ireturn, 1) := by decide +kernel
theorem dX6_undo_15 : decode cX6_undo 15 = .ok (.aload_n 0, 1) := by decide +kernel
theorem dX6_undo_16 : decode cX6_undo 16 = .ok (.dup, 1) := by decide +kernel
theorem dX6_undo_17 : decode cX6_undo 17 = .ok (.getfield 50, 3) := by decide +kernel
theorem dX6_undo_20 : decode cX6_undo 20 = .ok (.iconst 1, 1) := by decide +kernel
theorem dX6_undo_21 : decode cX6_undo 21 = .ok (.isub, 1) := by decide +kernel
theorem dX6_undo_22 : decode cX6_undo 22 = .ok (.putfield 50, 3) := by decide +kernel
theorem dX6_undo_25 : decode cX6_undo 25 = .ok (.iconst 0, 1) := by decide +kernel
theorem dX6_undo_26 : decode cX6_undo 26 = .ok (.istore_n 1, 1) := by decide +kernel
theorem dX6_undo_27 : decode cX6_undo 27 = .ok (.iload_n 1, 1) := by decide +kernel
theorem dX6_undo_28 : decode cX6_undo 28 = .ok (.sipush 818, 3) := by decide +kernel
theorem dX6_undo_31 : decode cX6_undo 31 = .ok (.if_icmp .ge 30, 3) := by decide +kernel
theorem dX6_undo_34 : decode cX6_undo 34 = .ok (.aload_n 0, 1) := by decide +kernel
theorem dX6_undo_35 : decode cX6_undo 35 = .ok (.getfield 7, 3) := by decide +kernel
theorem dX6_undo_38 : decode cX6_undo 38 = .ok (.iload_n 1, 1) := by decide +kernel
theorem dX6_undo_39 : decode cX6_undo 39 = .ok (.aload_n 0, 1) := by decide +kernel
theorem dX6_undo_40 : decode cX6_undo 40 = .ok (.getfield 16, 3) := by decide +kernel
theorem dX6_undo_43 : decode cX6_undo 43 = .ok (.sipush 818, 3) := by decide +kernel
theorem dX6_undo_46 : decode cX6_undo 46 = .ok (.aload_n 0, 1) := by decide +kernel
theorem dX6_undo_47 : decode cX6_undo 47 = .ok (.getfield 50, 3) := by decide +kernel
theorem dX6_undo_50 : decode cX6_undo 50 = .ok (.imul, 1) := by decide +kernel
theorem dX6_undo_51 : decode cX6_undo 51 = .ok (.iload_n 1, 1) := by decide +kernel
theorem dX6_undo_52 : decode cX6_undo 52 = .ok (.iadd, 1) := by decide +kernel
theorem dX6_undo_53 : decode cX6_undo 53 = .ok (.iaload, 1) := by decide +kernel
theorem dX6_undo_54 : decode cX6_undo 54 = .ok (.iastore, 1) := by decide +kernel
theorem dX6_undo_55 : decode cX6_undo 55 = .ok (.iinc 1 1, 3) := by decide +kernel
theorem dX6_undo_58 : decode cX6_undo 58 = .ok (.goto (-31), 3) := by decide +kernel
theorem dX6_undo_61 : decode cX6_undo 61 = .ok (.aload_n 0, 1) := by decide +kernel
theorem dX6_undo_62 : decode cX6_undo 62 = .ok (.getfield 50, 3) := by decide +kernel
theorem dX6_undo_65 : decode cX6_undo 65 = .ok (.ireturn, 1) := by decide +kernel
theorem dX6_save_0 : decode cX6_save 0 = .ok (.aload_n 0, 1) := by decide +kernel
theorem dX6_save_1 : decode cX6_save 1 = .ok (.iconst 0, 1) := by decide +kernel
theorem dX6_save_2 : decode cX6_save 2 = .ok (.putfield 38, 3) := by decide +kernel
theorem dX6_save_5 : decode cX6_save 5 = .ok (.iload_n 1, 1) := by decide +kernel
theorem dX6_save_6 : decode cX6_save 6 = .ok (.iconst 0, 1) := by decide +kernel
theorem dX6_save_7 : decode cX6_save 7 = .ok (.iconst 1, 1) := by decide +kernel
theorem dX6_save_8 : decode cX6_save 8 = .ok (.invokestatic 42, 3) := by decide +kernel
theorem dX6_save_11 : decode cX6_save 11 = .ok (.ifCond .ne 6, 3) := by decide +kernel
theorem dX6_save_14 : decode cX6_save 14 = .ok (.bipush (-2), 2) := by decide +kernel
theorem dX6_save_16 : decode cX6_save 16 = .ok (.ireturn, 1) := by decide +kernel
theorem dX6_save_17 : decode cX6_save 17 = .ok (.iconst 0, 1) := by decide +kernel
theorem dX6_save_18 : decode cX6_save 18 = .ok (.istore_n 2, 1) := by decide +kernel
theorem dX6_save_19 : decode cX6_save 19 = .ok (.iload_n 2, 1) := by decide +kernel
theorem dX6_save_20 : decode cX6_save 20 = .ok (.sipush 818, 3) := by decide +kernel
theorem dX6_save_23 : decode cX6_save 23 = .ok (.if_icmp .ge 27, 3) := by decide +kernel
theorem dX6_save_26 : decode cX6_save 26 = .ok (.aload_n 0, 1) := by decide +kernel
theorem dX6_save_27 : decode cX6_save 27 = .ok (.getfield 19, 3) := by decide +kernel
theorem dX6_save_30 : decode cX6_save 30 = .ok (.sipush 818, 3) := by decide +kernel
theorem dX6_save_33 : decode cX6_save 33 = .ok (.iload_n 1, 1) := by decide +kernel
theorem dX6_save_34 : decode cX6_save 34 = .ok (.imul, 1) := by decide +kernel
theorem dX6_save_35 : decode cX6_save 35 = .ok (.iload_n 2, 1) := by decide +kernel
theorem dX6_save_36 : decode cX6_save 36 = .ok (.iadd, 1) := by decide +kernel
theorem dX6_save_37 : decode cX6_save 37 = .ok (.aload_n 0, 1) := by decide +kernel
theorem dX6_save_38 : decode cX6_save 38 = .ok (.getfield 7, 3) := by decide +kernel
theorem dX6_save_41 : decode cX6_save 41 = .ok (.iload_n 2, 1) := by decide +kernel
theorem dX6_save_42 : decode cX6_save 42 = .ok (.iaload, 1) := by decide +kernel
theorem dX6_save_43 : decode cX6_save 43 = .ok (.iastore, 1) := by decide +kernel
theorem dX6_save_44 : decode cX6_save 44 = .ok (.iinc 2 1, 3) := by decide +kernel
theorem dX6_save_47 : decode cX6_save 47 = .ok (.goto (-28), 3) := by decide +kernel
theorem dX6_save_50 : decode cX6_save 50 = .ok (.aload_n 0, 1) := by decide +kernel
theorem dX6_save_51 : decode cX6_save 51 = .ok (.getfield 22, 3) := by decide +kernel
theorem dX6_save_54 : decode cX6_save 54 = .ok (.iload_n 1, 1) := by decide +kernel
theorem dX6_save_55 : decode cX6_save 55 = .ok (.iconst 1, 1) := by decide +kernel
theorem dX6_save_56 : decode cX6_save 56 = .ok (.bastore, 1) := by decide +kernel
theorem dX6_save_57 : decode cX6_save 57 = .ok (.aload_n 0, 1) := by decide +kernel
theorem dX6_save_58 : decode cX6_save 58 = .ok (.getfield 7, 3) := by decide +kernel
theorem dX6_save_61 : decode cX6_save 61 = .ok (.iconst 0, 1) := by decide +kernel
theorem dX6_save_62 : decode cX6_save 62 = .ok (.iaload, 1) := by decide +kernel
theorem dX6_save_63 : decode cX6_save 63 = .ok (.ireturn, 1) := by decide +kernel
theorem dX6_restore_0 : decode cX6_restore 0 = .ok (.aload_n 0, 1) := by decide +kernel
theorem dX6_restore_1 : decode cX6_restore 1 = .ok (.iconst 0, 1) := by decide +kernel
theorem dX6_restore_2 : decode cX6_restore 2 = .ok (.putfield 38, 3) := by decide +kernel
theorem dX6_restore_5 : decode cX6_restore 5 = .ok (.iload_n 1, 1) := by decide +kernel
theorem dX6_restore_6 : decode cX6_restore 6 = .ok (.iconst 0, 1) := by decide +kernel
theorem dX6_restore_7 : decode cX6_restore 7 = .ok (.iconst 1, 1) := by decide +kernel
theorem dX6_restore_8 : decode cX6_restore 8 = .ok (.invokestatic 42, 3) := by decide +kernel
theorem dX6_restore_11 : decode cX6_restore 11 = .ok (.ifCond .ne 6, 3) := by decide +kernel
theorem dX6_restore_14 : decode cX6_restore 14 = .ok (.bipush (-2), 2) := by decide +kernel
theorem dX6_restore_16 : decode cX6_restore 16 = .ok (.ireturn, 1) := by decide +kernel
theorem dX6_restore_17 : decode cX6_restore 17 = .ok (.aload_n 0, 1) := by decide +kernel
theorem dX6_restore_18 : decode cX6_restore 18 = .ok (.getfield 22, 3) := by decide +kernel
theorem dX6_restore_21 : decode cX6_restore 21 = .ok (.iload_n 1, 1) := by decide +kernel
theorem dX6_restore_22 : decode cX6_restore 22 = .ok (.baload, 1) := by decide +kernel
theorem dX6_restore_23 : decode cX6_restore 23 = .ok (.ifCond .ne 6, 3) := by decide +kernel
theorem dX6_restore_26 : decode cX6_restore 26 = .ok (.bipush (-5), 2) := by decide +kernel
theorem dX6_restore_28 : decode cX6_restore 28 = .ok (.ireturn, 1) := by decide +kernel
theorem dX6_restore_29 : decode cX6_restore 29 = .ok (.aload_n 0, 1) := by decide +kernel
theorem dX6_restore_30 : decode cX6_restore 30 = .ok (.invokevirtual 81, 3) := by decide +kernel
theorem dX6_restore_33 : decode cX6_restore 33 = .ok (.iconst 0, 1) := by decide +kernel
theorem dX6_restore_34 : decode cX6_restore 34 = .ok (.istore_n 2, 1) := by decide +kernel
theorem dX6_restore_35 : decode cX6_restore 35 = .ok (.iload_n 2, 1) := by decide +kernel
theorem dX6_restore_36 : decode cX6_restore 36 = .ok (.sipush 818, 3) := by decide +kernel
theorem dX6_restore_39 : decode cX6_restore 39 = .ok (.if_icmp .ge 27, 3) := by decide +kernel
theorem dX6_restore_42 : decode cX6_restore 42 = .ok (.aload_n 0, 1) := by decide +kernel
theorem dX6_restore_43 : decode cX6_restore 43 = .ok (.getfield 7, 3) := by decide +kernel
theorem dX6_restore_46 : decode cX6_restore 46 = .ok (.iload_n 2, 1) := by decide +kernel
theorem dX6_restore_47 : decode cX6_restore 47 = .ok (.aload_n 0, 1) := by decide +kernel
theorem dX6_restore_48 : decode cX6_restore 48 = .ok (.getfield 19, 3) := by decide +kernel
theorem dX6_restore_51 : decode cX6_restore 51 = .ok (.sipush 818, 3) := by decide +kernel
theorem dX6_restore_54 : decode cX6_restore 54 = .ok (.iload_n 1, 1) := by decide +kernel
theorem dX6_restore_55 : decode cX6_restore 55 = .ok (.imul, 1) := by decide +kernel
theorem dX6_restore_56 : decode cX6_restore 56 = .ok (.iload_n 2, 1) := by decide +kernel
theorem dX6_restore_57 : decode cX6_restore 57 = .ok (.iadd, 1) := by decide +kernel
theorem dX6_restore_58 : decode cX6_restore 58 = .ok (.iaload, 1) := by decide +kernel
theorem dX6_restore_59 : decode cX6_restore 59 = .ok (.iastore, 1) := by decide +kernel
theorem dX6_restore_60 : decode cX6_restore 60 = .ok (.iinc 2 1, 3) := by decide +kernel
theorem dX6_restore_63 : decode cX6_restore 63 = .ok (.goto (-28), 3) := by decide +kernel
theorem dX6_restore_66 : decode cX6_restore 66 = .ok (.aload_n 0, 1) := by decide +kernel
theorem dX6_restore_67 : decode cX6_restore 67 = .ok (.getfield 7, 3) := by decide +kernel
theorem dX6_restore_70 : decode cX6_restore 70 = .ok (.iconst 0, 1) := by decide +kernel
theorem dX6_restore_71 : decode cX6_restore 71 = .ok (.iaload, 1) := by decide +kernel
theorem dX6_restore_72 : decode cX6_restore 72 = .ok (.ireturn, 1) := by decide +kernel
theorem dJ9_max_7cf53_0 : decode cJ9_max_7cf53 0 = .ok (.iload_n 0, 1) := by decide +kernel
theorem dJ9_max_7cf53_1 : decode cJ9_max_7cf53 1 = .ok (.iload_n 1, 1) := by decide +kernel
theorem dJ9_max_7cf53_2 : decode cJ9_max_7cf53 2 = .ok (.if_icmp .lt 7, 3) := by decide +kernel
theorem dJ9_max_7cf53_5 : decode cJ9_max_7cf53 5 = .ok (.iload_n 0, 1) := by decide +kernel
theorem dJ9_max_7cf53_6 : decode cJ9_max_7cf53 6 = .ok (.goto 4, 3) := by decide +kernel
theorem dJ9_max_7cf53_9 : decode cJ9_max_7cf53 9 = .ok (.iload_n 1, 1) := by decide +kernel
theorem dJ9_max_7cf53_10 : decode cJ9_max_7cf53 10 = .ok (.ireturn, 1) := by decide +kernel
theorem dJ9_min_7cf53_0 : decode cJ9_min_7cf53 0 = .ok (.iload_n 0, 1) := by decide +kernel
theorem dJ9_min_7cf53_1 : decode cJ9_min_7cf53 1 = .ok (.iload_n 1, 1) := by decide +kernel
theorem dJ9_min_7cf53_2 : decode cJ9_min_7cf53 2 = .ok (.if_icmp .gt 7, 3) := by decide +kernel
theorem dJ9_min_7cf53_5 : decode cJ9_min_7cf53 5 = .ok (.iload_n 0, 1) := by decide +kernel
theorem dJ9_min_7cf53_6 : decode cJ9_min_7cf53 6 = .ok (.goto 4, 3) := by decide +kernel
theorem dJ9_min_7cf53_9 : decode cJ9_min_7cf53 9 = .ok (.iload_n 1, 1) := by decide +kernel
theorem dJ9_min_7cf53_10 : decode cJ9_min_7cf53 10 = .ok (.ireturn, 1) := by decide +kernel
theorem dL_law_0 : decode cL_law 0 = .ok (.new 7, 3) := by decide +kernel
theorem dL_law_3 : decode cL_law 3 = .ok (.dup, 1) := by decide +kernel
theorem dL_law_4 : decode cL_law 4 = .ok (.invokespecial 9, 3) := by decide +kernel
theorem dL_law_7 : decode cL_law 7 = .ok (.astore_n 1, 1) := by decide +kernel
theorem dL_law_8 : decode cL_law 8 = .ok (.new 10, 3) := by decide +kernel
theorem dL_law_11 : decode cL_law 11 = .ok (.dup, 1) := by decide +kernel
theorem dL_law_12 : decode cL_law 12 = .ok (.invokespecial 12, 3) := by decide +kernel
theorem dL_law_15 : decode cL_law 15 = .ok (.astore_n 2, 1) := by decide +kernel
theorem dL_law_16 : decode cL_law 16 = .ok (.iconst 0, 1) := by decide +kernel
theorem dL_law_17 : decode cL_law 17 = .ok (.istore_n 3, 1) := by decide +kernel
theorem dL_law_18 : decode cL_law 18 = .ok (.iload_n 3, 1) := by decide +kernel
theorem dL_law_19 : decode cL_law 19 = .ok (.aload_n 0, 1) := by decide +kernel
theorem dL_law_20 : decode cL_law 20 = .ok (.arraylength, 1) := by decide +kernel
theorem dL_law_21 : decode cL_law 21 = .ok (.bipush 7, 2) := by decide +kernel
theorem dL_law_23 : decode cL_law 23 = .ok (.isub, 1) := by decide +kernel
theorem dL_law_24 : decode cL_law 24 = .ok (.if_icmp .gt 850, 3) := by decide +kernel
theorem dL_law_27 : decode cL_law 27 = .ok (.aload_n 0, 1) := by decide +kernel
theorem dL_law_28 : decode cL_law 28 = .ok (.iload_n 3, 1) := by decide +kernel
theorem dL_law_29 : decode cL_law 29 = .ok (.iaload, 1) := by decide +kernel
theorem dL_law_30 : decode cL_law 30 = .ok (.bipush 31, 2) := by decide +kernel
theorem dL_law_32 : decode cL_law 32 = .ok (.iand, 1) := by decide +kernel
theorem dL_law_33 : decode cL_law 33 = .ok (.tableswitch 835 0 23 #[111, 186, 209, 242, 285, 318, 361, 374, 397, 440, 473, 516, 539, 562, 595, 638, 651, 674, 697, 750, 763, 776, 789, 812], 111) := by decide +kernel
theorem dL_law_144 : decode cL_law 144 = .ok (.aload_n 1, 1) := by decide +kernel
theorem dL_law_145 : decode cL_law 145 = .ok (.aload_n 0, 1) := by decide +kernel
theorem dL_law_146 : decode cL_law 146 = .ok (.iload_n 3, 1) := by decide +kernel
theorem dL_law_147 : decode cL_law 147 = .ok (.iconst 1, 1) := by decide +kernel
theorem dL_law_148 : decode cL_law 148 = .ok (.iadd, 1) := by decide +kernel
theorem dL_law_149 : decode cL_law 149 = .ok (.iaload, 1) := by decide +kernel
theorem dL_law_150 : decode cL_law 150 = .ok (.aload_n 0, 1) := by decide +kernel
theorem dL_law_151 : decode cL_law 151 = .ok (.iload_n 3, 1) := by decide +kernel
theorem dL_law_152 : decode cL_law 152 = .ok (.iconst 2, 1) := by decide +kernel
theorem dL_law_153 : decode cL_law 153 = .ok (.iadd, 1) := by decide +kernel
theorem dL_law_154 : decode cL_law 154 = .ok (.iaload, 1) := by decide +kernel
theorem dL_law_155 : decode cL_law 155 = .ok (.aload_n 0, 1) := by decide +kernel
theorem dL_law_156 : decode cL_law 156 = .ok (.iload_n 3, 1) := by decide +kernel
theorem dL_law_157 : decode cL_law 157 = .ok (.iconst 3, 1) := by decide +kernel
theorem dL_law_158 : decode cL_law 158 = .ok (.iadd, 1) := by decide +kernel
theorem dL_law_159 : decode cL_law 159 = .ok (.iaload, 1) := by decide +kernel
theorem dL_law_160 : decode cL_law 160 = .ok (.aload_n 0, 1) := by decide +kernel
theorem dL_law_161 : decode cL_law 161 = .ok (.iload_n 3, 1) := by decide +kernel
theorem dL_law_162 : decode cL_law 162 = .ok (.iconst 4, 1) := by decide +kernel
theorem dL_law_163 : decode cL_law 163 = .ok (.iadd, 1) := by decide +kernel
theorem dL_law_164 : decode cL_law 164 = .ok (.iaload, 1) := by decide +kernel
theorem dL_law_165 : decode cL_law 165 = .ok (.aload_n 0, 1) := by decide +kernel
theorem dL_law_166 : decode cL_law 166 = .ok (.iload_n 3, 1) := by decide +kernel
theorem dL_law_167 : decode cL_law 167 = .ok (.iconst 5, 1) := by decide +kernel
theorem dL_law_168 : decode cL_law 168 = .ok (.iadd, 1) := by decide +kernel
theorem dL_law_169 : decode cL_law 169 = .ok (.iaload, 1) := by decide +kernel
theorem dL_law_170 : decode cL_law 170 = .ok (.aload_n 0, 1) := by decide +kernel
theorem dL_law_171 : decode cL_law 171 = .ok (.iload_n 3, 1) := by decide +kernel
theorem dL_law_172 : decode cL_law 172 = .ok (.bipush 6, 2) := by decide +kernel
theorem dL_law_174 : decode cL_law 174 = .ok (.iadd, 1) := by decide +kernel
theorem dL_law_175 : decode cL_law 175 = .ok (.iaload, 1) := by decide +kernel
theorem dL_law_176 : decode cL_law 176 = .ok (.invokevirtual 13, 3) := by decide +kernel
theorem dL_law_179 : decode cL_law 179 = .ok (.aload_n 2, 1) := by decide +kernel
theorem dL_law_180 : decode cL_law 180 = .ok (.aload_n 0, 1) := by decide +kernel
theorem dL_law_181 : decode cL_law 181 = .ok (.iload_n 3, 1) := by decide +kernel
theorem dL_law_182 : decode cL_law 182 = .ok (.iconst 1, 1) := by decide +kernel
theorem dL_law_183 : decode cL_law 183 = .ok (.iadd, 1) := by decide +kernel
theorem dL_law_184 : decode cL_law 184 = .ok (.iaload, 1) := by decide +kernel
theorem dL_law_185 : decode cL_law 185 = .ok (.aload_n 0, 1) := by decide +kernel
theorem dL_law_186 : decode cL_law 186 = .ok (.iload_n 3, 1) := by decide +kernel
theorem dL_law_187 : decode cL_law 187 = .ok (.iconst 2, 1) := by decide +kernel
theorem dL_law_188 : decode cL_law 188 = .ok (.iadd, 1) := by decide +kernel
theorem dL_law_189 : decode cL_law 189 = .ok (.iaload, 1) := by decide +kernel
theorem dL_law_190 : decode cL_law 190 = .ok (.aload_n 0, 1) := by decide +kernel
theorem dL_law_191 : decode cL_law 191 = .ok (.iload_n 3, 1) := by decide +kernel
theorem dL_law_192 : decode cL_law 192 = .ok (.iconst 3, 1) := by decide +kernel
theorem dL_law_193 : decode cL_law 193 = .ok (.iadd, 1) := by decide +kernel
theorem dL_law_194 : decode cL_law 194 = .ok (.iaload, 1) := by decide +kernel
theorem dL_law_195 : decode cL_law 195 = .ok (.aload_n 0, 1) := by decide +kernel
theorem dL_law_196 : decode cL_law 196 = .ok (.iload_n 3, 1) := by decide +kernel
theorem dL_law_197 : decode cL_law 197 = .ok (.iconst 4, 1) := by decide +kernel
theorem dL_law_198 : decode cL_law 198 = .ok (.iadd, 1) := by decide +kernel
theorem dL_law_199 : decode cL_law 199 = .ok (.iaload, 1) := by decide +kernel
theorem dL_law_200 : decode cL_law 200 = .ok (.aload_n 0, 1) := by decide +kernel
theorem dL_law_201 : decode cL_law 201 = .ok (.iload_n 3, 1) := by decide +kernel
theorem dL_law_202 : decode cL_law 202 = .ok (.iconst 5, 1) := by decide +kernel
theorem dL_law_203 : decode cL_law 203 = .ok (.iadd, 1) := by decide +kernel
theorem dL_law_204 : decode cL_law 204 = .ok (.iaload, 1) := by decide +kernel
theorem dL_law_205 : decode cL_law 205 = .ok (.aload_n 0, 1) := by decide +kernel
theorem dL_law_206 : decode cL_law 206 = .ok (.iload_n 3, 1) := by decide +kernel
theorem dL_law_207 : decode cL_law 207 = .ok (.bipush 6, 2) := by decide +kernel
theorem dL_law_209 : decode cL_law 209 = .ok (.iadd, 1) := by decide +kernel
theorem dL_law_210 : decode cL_law 210 = .ok (.iaload, 1) := by decide +kernel
theorem dL_law_211 : decode cL_law 211 = .ok (.invokevirtual 17, 3) := by decide +kernel
theorem dL_law_214 : decode cL_law 214 = .ok (.if_icmp .eq 654, 3) := by decide +kernel
theorem dL_law_217 : decode cL_law 217 = .ok (.iconst 0, 1) := by decide +kernel
theorem dL_law_218 : decode cL_law 218 = .ok (.ireturn, 1) := by decide +kernel
theorem dL_law_219 : decode cL_law 219 = .ok (.aload_n 1, 1) := by decide +kernel
theorem dL_law_220 : decode cL_law 220 = .ok (.aload_n 0, 1) := by decide +kernel
theorem dL_law_221 : decode cL_law 221 = .ok (.iload_n 3, 1) := by decide +kernel
theorem dL_law_222 : decode cL_law 222 = .ok (.iconst 1, 1) := by decide +kernel
theorem dL_law_223 : decode cL_law 223 = .ok (.iadd, 1) := by decide +kernel
theorem dL_law_224 : decode cL_law 224 = .ok (.iaload, 1) := by decide +kernel
theorem dL_law_225 : decode cL_law 225 = .ok (.invokevirtual 18, 3) := by decide +kernel
theorem dL_law_228 : decode cL_law 228 = .ok (.aload_n 2, 1) := by decide +kernel
theorem dL_law_229 : decode cL_law 229 = .ok (.aload_n 0, 1) := by decide +kernel
theorem dL_law_230 : decode cL_law 230 = .ok (.iload_n 3, 1) := by decide +kernel
theorem dL_law_231 : decode cL_law 231 = .ok (.iconst 1, 1) := by decide +kernel
theorem dL_law_232 : decode cL_law 232 = .ok (.iadd, 1) := by decide +kernel
theorem dL_law_233 : decode cL_law 233 = .ok (.iaload, 1) := by decide +kernel
theorem dL_law_234 : decode cL_law 234 = .ok (.invokevirtual 22, 3) := by decide +kernel
theorem dL_law_237 : decode cL_law 237 = .ok (.if_icmp .eq 631, 3) := by decide +kernel
theorem dL_law_240 : decode cL_law 240 = .ok (.iconst 0, 1) := by decide +kernel
theorem dL_law_241 : decode cL_law 241 = .ok (.ireturn, 1) := by decide +kernel
theorem dL_law_242 : decode cL_law 242 = .ok (.aload_n 1, 1) := by decide +kernel
theorem dL_law_243 : decode cL_law 243 = .ok (.aload_n 0, 1) := by decide +kernel
theorem dL_law_244 : decode cL_law 244 = .ok (.iload_n 3, 1) := by decide +kernel
theorem dL_law_245 : decode cL_law 245 = .ok (.iconst 1, 1) := by decide +kernel
theorem dL_law_246 : decode cL_law 246 = .ok (.iadd, 1) := by decide +kernel
theorem dL_law_247 : decode cL_law 247 = .ok (.iaload, 1) := by decide +kernel
theorem dL_law_248 : decode cL_law 248 = .ok (.aload_n 0, 1) := by decide +kernel
theorem dL_law_249 : decode cL_law 249 = .ok (.iload_n 3, 1) := by decide +kernel
theorem dL_law_250 : decode cL_law 250 = .ok (.iconst 2, 1) := by decide +kernel
theorem dL_law_251 : decode cL_law 251 = .ok (.iadd, 1) := by decide +kernel
theorem dL_law_252 : decode cL_law 252 = .ok (.iaload, 1) := by decide +kernel
theorem dL_law_253 : decode cL_law 253 = .ok (.invokevirtual 23, 3) := by decide +kernel
theorem dL_law_256 : decode cL_law 256 = .ok (.aload_n 2, 1) := by decide +kernel
theorem dL_law_257 : decode cL_law 257 = .ok (.aload_n 0, 1) := by decide +kernel
theorem dL_law_258 : decode cL_law 258 = .ok (.iload_n 3, 1) := by decide +kernel
theorem dL_law_259 : decode cL_law 259 = .ok (.iconst 1, 1) := by decide +kernel
theorem dL_law_260 : decode cL_law 260 = .ok (.iadd, 1) := by decide +kernel
theorem dL_law_261 : decode cL_law 261 = .ok (.iaload, 1) := by decide +kernel
theorem dL_law_262 : decode cL_law 262 = .ok (.aload_n 0, 1) := by decide +kernel
theorem dL_law_263 : decode cL_law 263 = .ok (.iload_n 3, 1) := by decide +kernel
theorem dL_law_264 : decode cL_law 264 = .ok (.iconst 2, 1) := by decide +kernel
theorem dL_law_265 : decode cL_law 265 = .ok (.iadd, 1) := by decide +kernel
theorem dL_law_266 : decode cL_law 266 = .ok (.iaload, 1) := by decide +kernel
theorem dL_law_267 : decode cL_law 267 = .ok (.invokevirtual 27, 3) := by decide +kernel
theorem dL_law_270 : decode cL_law 270 = .ok (.if_icmp .eq 598, 3) := by decide +kernel
theorem dL_law_273 : decode cL_law 273 = .ok (.iconst 0, 1) := by decide +kernel
theorem dL_law_274 : decode cL_law 274 = .ok (.ireturn, 1) := by decide +kernel
theorem dL_law_275 : decode cL_law 275 = .ok (.aload_n 1, 1) := by decide +kernel
theorem dL_law_276 : decode cL_law 276 = .ok (.aload_n 0, 1) := by decide +kernel
theorem dL_law_277 : decode cL_law 277 = .ok (.iload_n 3, 1) := by decide +kernel
theorem dL_law_278 : decode cL_law 278 = .ok (.iconst 1, 1) := by decide +kernel
theorem dL_law_279 : decode cL_law 279 = .ok (.iadd, 1) := by decide +kernel
theorem dL_law_280 : decode cL_law 280 = .ok (.iaload, 1) := by decide +kernel
theorem dL_law_281 : decode cL_law 281 = .ok (.aload_n 0, 1) := by decide +kernel
theorem dL_law_282 : decode cL_law 282 = .ok (.iload_n 3, 1) := by decide +kernel
theorem dL_law_283 : decode cL_law 283 = .ok (.iconst 2, 1) := by decide +kernel
theorem dL_law_284 : decode cL_law 284 = .ok (.iadd, 1) := by decide +kernel
theorem dL_law_285 : decode cL_law 285 = .ok (.iaload, 1) := by decide +kernel
theorem dL_law_286 : decode cL_law 286 = .ok (.aload_n 0, 1) := by decide +kernel
theorem dL_law_287 : decode cL_law 287 = .ok (.iload_n 3, 1) := by decide +kernel
theorem dL_law_288 : decode cL_law 288 = .ok (.iconst 3, 1) := by decide +kernel
theorem dL_law_289 : decode cL_law 289 = .ok (.iadd, 1) := by decide +kernel
theorem dL_law_290 : decode cL_law 290 = .ok (.iaload, 1) := by decide +kernel
theorem dL_law_291 : decode cL_law 291 = .ok (.invokevirtual 28, 3) := by decide +kernel
theorem dL_law_294 : decode cL_law 294 = .ok (.aload_n 2, 1) := by decide +kernel
theorem dL_law_295 : decode cL_law 295 = .ok (.aload_n 0, 1) := by decide +kernel
theorem dL_law_296 : decode cL_law 296 = .ok (.iload_n 3, 1) := by decide +kernel
theorem dL_law_297 : decode cL_law 297 = .ok (.iconst 1, 1) := by decide +kernel
theorem dL_law_298 : decode cL_law 298 = .ok (.iadd, 1) := by decide +kernel
theorem dL_law_299 : decode cL_law 299 = .ok (.iaload, 1) := by decide +kernel
theorem dL_law_300 : decode cL_law 300 = .ok (.aload_n 0, 1) := by decide +kernel
theorem dL_law_301 : decode cL_law 301 = .ok (.iload_n 3, 1) := by decide +kernel
theorem dL_law_302 : decode cL_law 302 = .ok (.iconst 2, 1) := by decide +kernel
theorem dL_law_303 : decode cL_law 303 = .ok (.iadd, 1) := by decide +kernel
theorem dL_law_304 : decode cL_law 304 = .ok (.iaload, 1) := by decide +kernel
theorem dL_law_305 : decode cL_law 305 = .ok (.aload_n 0, 1) := by decide +kernel
theorem dL_law_306 : decode cL_law 306 = .ok (.iload_n 3, 1) := by decide +kernel
theorem dL_law_307 : decode cL_law 307 = .ok (.iconst 3, 1) := by decide +kernel
theorem dL_law_308 : decode cL_law 308 = .ok (.iadd, 1) := by decide +kernel
theorem dL_law_309 : decode cL_law 309 = .ok (.iaload, 1) := by decide +kernel
theorem dL_law_310 : decode cL_law 310 = .ok (.invokevirtual 32, 3) := by decide +kernel
theorem dL_law_313 : decode cL_law 313 = .ok (.if_icmp .eq 555, 3) := by decide +kernel
theorem dL_law_316 : decode cL_law 316 = .ok (.iconst 0, 1) := by decide +kernel
theorem dL_law_317 : decode cL_law 317 = .ok (.ireturn, 1) := by decide +kernel
theorem dL_law_318 : decode cL_law 318 = .ok (.aload_n 1, 1) := by decide +kernel
theorem dL_law_319 : decode cL_law 319 = .ok (.aload_n 0, 1) := by decide +kernel
theorem dL_law_320 : decode cL_law 320 = .ok (.iload_n 3, 1) := by decide +kernel
theorem dL_law_321 : decode cL_law 321 = .ok (.iconst 1, 1) := by decide +kernel
theorem dL_law_322 : decode cL_law 322 = .ok (.iadd, 1) := by decide +kernel
theorem dL_law_323 : decode cL_law 323 = .ok (.iaload, 1) := by decide +kernel
theorem dL_law_324 : decode cL_law 324 = .ok (.aload_n 0, 1) := by decide +kernel
theorem dL_law_325 : decode cL_law 325 = .ok (.iload_n 3, 1) := by decide +kernel
theorem dL_law_326 : decode cL_law 326 = .ok (.iconst 2, 1) := by decide +kernel
theorem dL_law_327 : decode cL_law 327 = .ok (.iadd, 1) := by decide +kernel
theorem dL_law_328 : decode cL_law 328 = .ok (.iaload, 1) := by decide +kernel
theorem dL_law_329 : decode cL_law 329 = .ok (.invokevirtual 33, 3) := by decide +kernel
theorem dL_law_332 : decode cL_law 332 = .ok (.aload_n 2, 1) := by decide +kernel
theorem dL_law_333 : decode cL_law 333 = .ok (.aload_n 0, 1) := by decide +kernel
theorem dL_law_334 : decode cL_law 334 = .ok (.iload_n 3, 1) := by decide +kernel
theorem dL_law_335 : decode cL_law 335 = .ok (.iconst 1, 1) := by decide +kernel
theorem dL_law_336 : decode cL_law 336 = .ok (.iadd, 1) := by decide +kernel
theorem dL_law_337 : decode cL_law 337 = .ok (.iaload, 1) := by decide +kernel
theorem dL_law_338 : decode cL_law 338 = .ok (.aload_n 0, 1) := by decide +kernel
theorem dL_law_339 : decode cL_law 339 = .ok (.iload_n 3, 1) := by decide +kernel
theorem dL_law_340 : decode cL_law 340 = .ok (.iconst 2, 1) := by decide +kernel
theorem dL_law_341 : decode cL_law 341 = .ok (.iadd, 1) := by decide +kernel
theorem dL_law_342 : decode cL_law 342 = .ok (.iaload, 1) := by decide +kernel
theorem dL_law_343 : decode cL_law 343 = .ok (.invokevirtual 36, 3) := by decide +kernel
theorem dL_law_346 : decode cL_law 346 = .ok (.if_icmp .eq 522, 3) := by decide +kernel
theorem dL_law_349 : decode cL_law 349 = .ok (.iconst 0, 1) := by decide +kernel
theorem dL_law_350 : decode cL_law 350 = .ok (.ireturn, 1) := by decide +kernel
theorem dL_law_351 : decode cL_law 351 = .ok (.aload_n 1, 1) := by decide +kernel
theorem dL_law_352 : decode cL_law 352 = .ok (.aload_n 0, 1) := by decide +kernel
theorem dL_law_353 : decode cL_law 353 = .ok (.iload_n 3, 1) := by decide +kernel
theorem dL_law_354 : decode cL_law 354 = .ok (.iconst 1, 1) := by decide +kernel
theorem dL_law_355 : decode cL_law 355 = .ok (.iadd, 1) := by decide +kernel
theorem dL_law_356 : decode cL_law 356 = .ok (.iaload, 1) := by decide +kernel
theorem dL_law_357 : decode cL_law 357 = .ok (.aload_n 0, 1) := by decide +kernel
theorem dL_law_358 : decode cL_law 358 = .ok (.iload_n 3, 1) := by decide +kernel
theorem dL_law_359 : decode cL_law 359 = .ok (.iconst 2, 1) := by decide +kernel
theorem dL_law_360 : decode cL_law 360 = .ok (.iadd, 1) := by decide +kernel
theorem dL_law_361 : decode cL_law 361 = .ok (.iaload, 1) := by decide +kernel
theorem dL_law_362 : decode cL_law 362 = .ok (.aload_n 0, 1) := by decide +kernel
theorem dL_law_363 : decode cL_law 363 = .ok (.iload_n 3, 1) := by decide +kernel
theorem dL_law_364 : decode cL_law 364 = .ok (.iconst 3, 1) := by decide +kernel
theorem dL_law_365 : decode cL_law 365 = .ok (.iadd, 1) := by decide +kernel
theorem dL_law_366 : decode cL_law 366 = .ok (.iaload, 1) := by decide +kernel
theorem dL_law_367 : decode cL_law 367 = .ok (.invokevirtual 37, 3) := by decide +kernel
theorem dL_law_370 : decode cL_law 370 = .ok (.aload_n 2, 1) := by decide +kernel
theorem dL_law_371 : decode cL_law 371 = .ok (.aload_n 0, 1) := by decide +kernel
theorem dL_law_372 : decode cL_law 372 = .ok (.iload_n 3, 1) := by decide +kernel
theorem dL_law_373 : decode cL_law 373 = .ok (.iconst 1, 1) := by decide +kernel
theorem dL_law_374 : decode cL_law 374 = .ok (.iadd, 1) := by decide +kernel
theorem dL_law_375 : decode cL_law 375 = .ok (.iaload, 1) := by decide +kernel
theorem dL_law_376 : decode cL_law 376 = .ok (.aload_n 0, 1) := by decide +kernel
theorem dL_law_377 : decode cL_law 377 = .ok (.iload_n 3, 1) := by decide +kernel
theorem dL_law_378 : decode cL_law 378 = .ok (.iconst 2, 1) := by decide +kernel
theorem dL_law_379 : decode cL_law 379 = .ok (.iadd, 1) := by decide +kernel
theorem dL_law_380 : decode cL_law 380 = .ok (.iaload, 1) := by decide +kernel
theorem dL_law_381 : decode cL_law 381 = .ok (.aload_n 0, 1) := by decide +kernel
theorem dL_law_382 : decode cL_law 382 = .ok (.iload_n 3, 1) := by decide +kernel
theorem dL_law_383 : decode cL_law 383 = .ok (.iconst 3, 1) := by decide +kernel
theorem dL_law_384 : decode cL_law 384 = .ok (.iadd, 1) := by decide +kernel
theorem dL_law_385 : decode cL_law 385 = .ok (.iaload, 1) := by decide +kernel
theorem dL_law_386 : decode cL_law 386 = .ok (.invokevirtual 40, 3) := by decide +kernel
theorem dL_law_389 : decode cL_law 389 = .ok (.if_icmp .eq 479, 3) := by decide +kernel
theorem dL_law_392 : decode cL_law 392 = .ok (.iconst 0, 1) := by decide +kernel
theorem dL_law_393 : decode cL_law 393 = .ok (.ireturn, 1) := by decide +kernel
theorem dL_law_394 : decode cL_law 394 = .ok (.aload_n 1, 1) := by decide +kernel
theorem dL_law_395 : decode cL_law 395 = .ok (.invokevirtual 41, 3) := by decide +kernel
theorem dL_law_398 : decode cL_law 398 = .ok (.aload_n 2, 1) := by decide +kernel
theorem dL_law_399 : decode cL_law 399 = .ok (.invokevirtual 45, 3) := by decide +kernel
theorem dL_law_402 : decode cL_law 402 = .ok (.if_icmp .eq 466, 3) := by decide +kernel
theorem dL_law_405 : decode cL_law 405 = .ok (.iconst 0, 1) := by decide +kernel
theorem dL_law_406 : decode cL_law 406 = .ok (.ireturn, 1) := by decide +kernel
theorem dL_law_407 : decode cL_law 407 = .ok (.aload_n 1, 1) := by decide +kernel
theorem dL_law_408 : decode cL_law 408 = .ok (.aload_n 0, 1) := by decide +kernel
theorem dL_law_409 : decode cL_law 409 = .ok (.iload_n 3, 1) := by decide +kernel
theorem dL_law_410 : decode cL_law 410 = .ok (.iconst 1, 1) := by decide +kernel
theorem dL_law_411 : decode cL_law 411 = .ok (.iadd, 1) := by decide +kernel
theorem dL_law_412 : decode cL_law 412 = .ok (.iaload, 1) := by decide +kernel
theorem dL_law_413 : decode cL_law 413 = .ok (.invokevirtual 46, 3) := by decide +kernel
theorem dL_law_416 : decode cL_law 416 = .ok (.aload_n 2, 1) := by decide +kernel
theorem dL_law_417 : decode cL_law 417 = .ok (.aload_n 0, 1) := by decide +kernel
theorem dL_law_418 : decode cL_law 418 = .ok (.iload_n 3, 1) := by decide +kernel
theorem dL_law_419 : decode cL_law 419 = .ok (.iconst 1, 1) := by decide +kernel
theorem dL_law_420 : decode cL_law 420 = .ok (.iadd, 1) := by decide +kernel
theorem dL_law_421 : decode cL_law 421 = .ok (.iaload, 1) := by decide +kernel
theorem dL_law_422 : decode cL_law 422 = .ok (.invokevirtual 49, 3) := by decide +kernel
theorem dL_law_425 : decode cL_law 425 = .ok (.if_icmp .eq 443, 3) := by decide +kernel
theorem dL_law_428 : decode cL_law 428 = .ok (.iconst 0, 1) := by decide +kernel
theorem dL_law_429 : decode cL_law 429 = .ok (.ireturn, 1) := by decide +kernel
theorem dL_law_430 : decode cL_law 430 = .ok (.aload_n 1, 1) := by decide +kernel
theorem dL_law_431 : decode cL_law 431 = .ok (.aload_n 0, 1) := by decide +kernel
theorem dL_law_432 : decode cL_law 432 = .ok (.iload_n 3, 1) := by decide +kernel
theorem dL_law_433 : decode cL_law 433 = .ok (.iconst 1, 1) := by decide +kernel
theorem dL_law_434 : decode cL_law 434 = .ok (.iadd, 1) := by decide +kernel
theorem dL_law_435 : decode cL_law 435 = .ok (.iaload, 1) := by decide +kernel
theorem dL_law_436 : decode cL_law 436 = .ok (.aload_n 0, 1) := by decide +kernel
theorem dL_law_437 : decode cL_law 437 = .ok (.iload_n 3, 1) := by decide +kernel
theorem dL_law_438 : decode cL_law 438 = .ok (.iconst 2, 1) := by decide +kernel
theorem dL_law_439 : decode cL_law 439 = .ok (.iadd, 1) := by decide +kernel
theorem dL_law_440 : decode cL_law 440 = .ok (.iaload, 1) := by decide +kernel
theorem dL_law_441 : decode cL_law 441 = .ok (.aload_n 0, 1) := by decide +kernel
theorem dL_law_442 : decode cL_law 442 = .ok (.iload_n 3, 1) := by decide +kernel
theorem dL_law_443 : decode cL_law 443 = .ok (.iconst 3, 1) := by decide +kernel
theorem dL_law_444 : decode cL_law 444 = .ok (.iadd, 1) := by decide +kernel
theorem dL_law_445 : decode cL_law 445 = .ok (.iaload, 1) := by decide +kernel
theorem dL_law_446 : decode cL_law 446 = .ok (.invokevirtual 50, 3) := by decide +kernel
theorem dL_law_449 : decode cL_law 449 = .ok (.aload_n 2, 1) := by decide +kernel
theorem dL_law_450 : decode cL_law 450 = .ok (.aload_n 0, 1) := by decide +kernel
theorem dL_law_451 : decode cL_law 451 = .ok (.iload_n 3, 1) := by decide +kernel
theorem dL_law_452 : decode cL_law 452 = .ok (.iconst 1, 1) := by decide +kernel
theorem dL_law_453 : decode cL_law 453 = .ok (.iadd, 1) := by decide +kernel
theorem dL_law_454 : decode cL_law 454 = .ok (.iaload, 1) := by decide +kernel
theorem dL_law_455 : decode cL_law 455 = .ok (.aload_n 0, 1) := by decide +kernel
theorem dL_law_456 : decode cL_law 456 = .ok (.iload_n 3, 1) := by decide +kernel
theorem dL_law_457 : decode cL_law 457 = .ok (.iconst 2, 1) := by decide +kernel
theorem dL_law_458 : decode cL_law 458 = .ok (.iadd, 1) := by decide +kernel
theorem dL_law_459 : decode cL_law 459 = .ok (.iaload, 1) := by decide +kernel
theorem dL_law_460 : decode cL_law 460 = .ok (.aload_n 0, 1) := by decide +kernel
theorem dL_law_461 : decode cL_law 461 = .ok (.iload_n 3, 1) := by decide +kernel
theorem dL_law_462 : decode cL_law 462 = .ok (.iconst 3, 1) := by decide +kernel
theorem dL_law_463 : decode cL_law 463 = .ok (.iadd, 1) := by decide +kernel
theorem dL_law_464 : decode cL_law 464 = .ok (.iaload, 1) := by decide +kernel
theorem dL_law_465 : decode cL_law 465 = .ok (.invokevirtual 53, 3) := by decide +kernel
theorem dL_law_468 : decode cL_law 468 = .ok (.if_icmp .eq 400, 3) := by decide +kernel
theorem dL_law_471 : decode cL_law 471 = .ok (.iconst 0, 1) := by decide +kernel
theorem dL_law_472 : decode cL_law 472 = .ok (.ireturn, 1) := by decide +kernel
theorem dL_law_473 : decode cL_law 473 = .ok (.aload_n 1, 1) := by decide +kernel
theorem dL_law_474 : decode cL_law 474 = .ok (.aload_n 0, 1) := by decide +kernel
theorem dL_law_475 : decode cL_law 475 = .ok (.iload_n 3, 1) := by decide +kernel
theorem dL_law_476 : decode cL_law 476 = .ok (.iconst 1, 1) := by decide +kernel
theorem dL_law_477 : decode cL_law 477 = .ok (.iadd, 1) := by decide +kernel
theorem dL_law_478 : decode cL_law 478 = .ok (.iaload, 1) := by decide +kernel
theorem dL_law_479 : decode cL_law 479 = .ok (.aload_n 0, 1) := by decide +kernel
theorem dL_law_480 : decode cL_law 480 = .ok (.iload_n 3, 1) := by decide +kernel
theorem dL_law_481 : decode cL_law 481 = .ok (.iconst 2, 1) := by decide +kernel
theorem dL_law_482 : decode cL_law 482 = .ok (.iadd, 1) := by decide +kernel
theorem dL_law_483 : decode cL_law 483 = .ok (.iaload, 1) := by decide +kernel
theorem dL_law_484 : decode cL_law 484 = .ok (.invokevirtual 54, 3) := by decide +kernel
theorem dL_law_487 : decode cL_law 487 = .ok (.aload_n 2, 1) := by decide +kernel
theorem dL_law_488 : decode cL_law 488 = .ok (.aload_n 0, 1) := by decide +kernel
theorem dL_law_489 : decode cL_law 489 = .ok (.iload_n 3, 1) := by decide +kernel
theorem dL_law_490 : decode cL_law 490 = .ok (.iconst 1, 1) := by decide +kernel
theorem dL_law_491 : decode cL_law 491 = .ok (.iadd, 1) := by decide +kernel
theorem dL_law_492 : decode cL_law 492 = .ok (.iaload, 1) := by decide +kernel
theorem dL_law_493 : decode cL_law 493 = .ok (.aload_n 0, 1) := by decide +kernel
theorem dL_law_494 : decode cL_law 494 = .ok (.iload_n 3, 1) := by decide +kernel
theorem dL_law_495 : decode cL_law 495 = .ok (.iconst 2, 1) := by decide +kernel
theorem dL_law_496 : decode cL_law 496 = .ok (.iadd, 1) := by decide +kernel
theorem dL_law_497 : decode cL_law 497 = .ok (.iaload, 1) := by decide +kernel
theorem dL_law_498 : decode cL_law 498 = .ok (.invokevirtual 57, 3) := by decide +kernel
theorem dL_law_501 : decode cL_law 501 = .ok (.if_icmp .eq 367, 3) := by decide +kernel
theorem dL_law_504 : decode cL_law 504 = .ok (.iconst 0, 1) := by decide +kernel
theorem dL_law_505 : decode cL_law 505 = .ok (.ireturn, 1) := by decide +kernel
theorem dL_law_506 : decode cL_law 506 = .ok (.aload_n 1, 1) := by decide +kernel
theorem dL_law_507 : decode cL_law 507 = .ok (.aload_n 0, 1) := by decide +kernel
theorem dL_law_508 : decode cL_law 508 = .ok (.iload_n 3, 1) := by decide +kernel
theorem dL_law_509 : decode cL_law 509 = .ok (.iconst 1, 1) := by decide +kernel
theorem dL_law_510 : decode cL_law 510 = .ok (.iadd, 1) := by decide +kernel
theorem dL_law_511 : decode cL_law 511 = .ok (.iaload, 1) := by decide +kernel
theorem dL_law_512 : decode cL_law 512 = .ok (.aload_n 0, 1) := by decide +kernel
theorem dL_law_513 : decode cL_law 513 = .ok (.iload_n 3, 1) := by decide +kernel
theorem dL_law_514 : decode cL_law 514 = .ok (.iconst 2, 1) := by decide +kernel
theorem dL_law_515 : decode cL_law 515 = .ok (.iadd, 1) := by decide +kernel
theorem dL_law_516 : decode cL_law 516 = .ok (.iaload, 1) := by decide +kernel
theorem dL_law_517 : decode cL_law 517 = .ok (.aload_n 0, 1) := by decide +kernel
theorem dL_law_518 : decode cL_law 518 = .ok (.iload_n 3, 1) := by decide +kernel
theorem dL_law_519 : decode cL_law 519 = .ok (.iconst 3, 1) := by decide +kernel
theorem dL_law_520 : decode cL_law 520 = .ok (.iadd, 1) := by decide +kernel
theorem dL_law_521 : decode cL_law 521 = .ok (.iaload, 1) := by decide +kernel
theorem dL_law_522 : decode cL_law 522 = .ok (.invokevirtual 58, 3) := by decide +kernel
theorem dL_law_525 : decode cL_law 525 = .ok (.aload_n 2, 1) := by decide +kernel
theorem dL_law_526 : decode cL_law 526 = .ok (.aload_n 0, 1) := by decide +kernel
theorem dL_law_527 : decode cL_law 527 = .ok (.iload_n 3, 1) := by decide +kernel
theorem dL_law_528 : decode cL_law 528 = .ok (.iconst 1, 1) := by decide +kernel
theorem dL_law_529 : decode cL_law 529 = .ok (.iadd, 1) := by decide +kernel
theorem dL_law_530 : decode cL_law 530 = .ok (.iaload, 1) := by decide +kernel
theorem dL_law_531 : decode cL_law 531 = .ok (.aload_n 0, 1) := by decide +kernel
theorem dL_law_532 : decode cL_law 532 = .ok (.iload_n 3, 1) := by decide +kernel
theorem dL_law_533 : decode cL_law 533 = .ok (.iconst 2, 1) := by decide +kernel
theorem dL_law_534 : decode cL_law 534 = .ok (.iadd, 1) := by decide +kernel
theorem dL_law_535 : decode cL_law 535 = .ok (.iaload, 1) := by decide +kernel
theorem dL_law_536 : decode cL_law 536 = .ok (.aload_n 0, 1) := by decide +kernel
theorem dL_law_537 : decode cL_law 537 = .ok (.iload_n 3, 1) := by decide +kernel
theorem dL_law_538 : decode cL_law 538 = .ok (.iconst 3, 1) := by decide +kernel
theorem dL_law_539 : decode cL_law 539 = .ok (.iadd, 1) := by decide +kernel
theorem dL_law_540 : decode cL_law 540 = .ok (.iaload, 1) := by decide +kernel
theorem dL_law_541 : decode cL_law 541 = .ok (.invokevirtual 61, 3) := by decide +kernel
theorem dL_law_544 : decode cL_law 544 = .ok (.if_icmp .eq 324, 3) := by decide +kernel
theorem dL_law_547 : decode cL_law 547 = .ok (.iconst 0, 1) := by decide +kernel
theorem dL_law_548 : decode cL_law 548 = .ok (.ireturn, 1) := by decide +kernel
theorem dL_law_549 : decode cL_law 549 = .ok (.aload_n 1, 1) := by decide +kernel
theorem dL_law_550 : decode cL_law 550 = .ok (.aload_n 0, 1) := by decide +kernel
theorem dL_law_551 : decode cL_law 551 = .ok (.iload_n 3, 1) := by decide +kernel
theorem dL_law_552 : decode cL_law 552 = .ok (.iconst 1, 1) := by decide +kernel
theorem dL_law_553 : decode cL_law 553 = .ok (.iadd, 1) := by decide +kernel
theorem dL_law_554 : decode cL_law 554 = .ok (.iaload, 1) := by decide +kernel
theorem dL_law_555 : decode cL_law 555 = .ok (.invokevirtual 62, 3) := by decide +kernel
theorem dL_law_558 : decode cL_law 558 = .ok (.aload_n 2, 1) := by decide +kernel
theorem dL_law_559 : decode cL_law 559 = .ok (.aload_n 0, 1) := by decide +kernel
theorem dL_law_560 : decode cL_law 560 = .ok (.iload_n 3, 1) := by decide +kernel
theorem dL_law_561 : decode cL_law 561 = .ok (.iconst 1, 1) := by decide +kernel
theorem dL_law_562 : decode cL_law 562 = .ok (.iadd, 1) := by decide +kernel
theorem dL_law_563 : decode cL_law 563 = .ok (.iaload, 1) := by decide +kernel
theorem dL_law_564 : decode cL_law 564 = .ok (.invokevirtual 65, 3) := by decide +kernel
theorem dL_law_567 : decode cL_law 567 = .ok (.if_icmp .eq 301, 3) := by decide +kernel
theorem dL_law_570 : decode cL_law 570 = .ok (.iconst 0, 1) := by decide +kernel
theorem dL_law_571 : decode cL_law 571 = .ok (.ireturn, 1) := by decide +kernel
theorem dL_law_572 : decode cL_law 572 = .ok (.aload_n 1, 1) := by decide +kernel
theorem dL_law_573 : decode cL_law 573 = .ok (.aload_n 0, 1) := by decide +kernel
theorem dL_law_574 : decode cL_law 574 = .ok (.iload_n 3, 1) := by decide +kernel
theorem dL_law_575 : decode cL_law 575 = .ok (.iconst 1, 1) := by decide +kernel
theorem dL_law_576 : decode cL_law 576 = .ok (.iadd, 1) := by decide +kernel
theorem dL_law_577 : decode cL_law 577 = .ok (.iaload, 1) := by decide +kernel
theorem dL_law_578 : decode cL_law 578 = .ok (.invokevirtual 66, 3) := by decide +kernel
theorem dL_law_581 : decode cL_law 581 = .ok (.aload_n 2, 1) := by decide +kernel
theorem dL_law_582 : decode cL_law 582 = .ok (.aload_n 0, 1) := by decide +kernel
theorem dL_law_583 : decode cL_law 583 = .ok (.iload_n 3, 1) := by decide +kernel
theorem dL_law_584 : decode cL_law 584 = .ok (.iconst 1, 1) := by decide +kernel
theorem dL_law_585 : decode cL_law 585 = .ok (.iadd, 1) := by decide +kernel
theorem dL_law_586 : decode cL_law 586 = .ok (.iaload, 1) := by decide +kernel
theorem dL_law_587 : decode cL_law 587 = .ok (.invokevirtual 69, 3) := by decide +kernel
theorem dL_law_590 : decode cL_law 590 = .ok (.if_icmp .eq 278, 3) := by decide +kernel
theorem dL_law_593 : decode cL_law 593 = .ok (.iconst 0, 1) := by decide +kernel
theorem dL_law_594 : decode cL_law 594 = .ok (.ireturn, 1) := by decide +kernel
theorem dL_law_595 : decode cL_law 595 = .ok (.aload_n 1, 1) := by decide +kernel
theorem dL_law_596 : decode cL_law 596 = .ok (.aload_n 0, 1) := by decide +kernel
theorem dL_law_597 : decode cL_law 597 = .ok (.iload_n 3, 1) := by decide +kernel
theorem dL_law_598 : decode cL_law 598 = .ok (.iconst 1, 1) := by decide +kernel
theorem dL_law_599 : decode cL_law 599 = .ok (.iadd, 1) := by decide +kernel
theorem dL_law_600 : decode cL_law 600 = .ok (.iaload, 1) := by decide +kernel
theorem dL_law_601 : decode cL_law 601 = .ok (.aload_n 0, 1) := by decide +kernel
theorem dL_law_602 : decode cL_law 602 = .ok (.iload_n 3, 1) := by decide +kernel
theorem dL_law_603 : decode cL_law 603 = .ok (.iconst 2, 1) := by decide +kernel
theorem dL_law_604 : decode cL_law 604 = .ok (.iadd, 1) := by decide +kernel
theorem dL_law_605 : decode cL_law 605 = .ok (.iaload, 1) := by decide +kernel
theorem dL_law_606 : decode cL_law 606 = .ok (.invokevirtual 70, 3) := by decide +kernel
theorem dL_law_609 : decode cL_law 609 = .ok (.aload_n 2, 1) := by decide +kernel
theorem dL_law_610 : decode cL_law 610 = .ok (.aload_n 0, 1) := by decide +kernel
theorem dL_law_611 : decode cL_law 611 = .ok (.iload_n 3, 1) := by decide +kernel
theorem dL_law_612 : decode cL_law 612 = .ok (.iconst 1, 1) := by decide +kernel
theorem dL_law_613 : decode cL_law 613 = .ok (.iadd, 1) := by decide +kernel
theorem dL_law_614 : decode cL_law 614 = .ok (.iaload, 1) := by decide +kernel
theorem dL_law_615 : decode cL_law 615 = .ok (.aload_n 0, 1) := by decide +kernel
theorem dL_law_616 : decode cL_law 616 = .ok (.iload_n 3, 1) := by decide +kernel
theorem dL_law_617 : decode cL_law 617 = .ok (.iconst 2, 1) := by decide +kernel
theorem dL_law_618 : decode cL_law 618 = .ok (.iadd, 1) := by decide +kernel
theorem dL_law_619 : decode cL_law 619 = .ok (.iaload, 1) := by decide +kernel
theorem dL_law_620 : decode cL_law 620 = .ok (.invokevirtual 73, 3) := by decide +kernel
theorem dL_law_623 : decode cL_law 623 = .ok (.if_icmp .eq 245, 3) := by decide +kernel
theorem dL_law_626 : decode cL_law 626 = .ok (.iconst 0, 1) := by decide +kernel
theorem dL_law_627 : decode cL_law 627 = .ok (.ireturn, 1) := by decide +kernel
theorem dL_law_628 : decode cL_law 628 = .ok (.aload_n 1, 1) := by decide +kernel
theorem dL_law_629 : decode cL_law 629 = .ok (.aload_n 0, 1) := by decide +kernel
theorem dL_law_630 : decode cL_law 630 = .ok (.iload_n 3, 1) := by decide +kernel
theorem dL_law_631 : decode cL_law 631 = .ok (.iconst 1, 1) := by decide +kernel
theorem dL_law_632 : decode cL_law 632 = .ok (.iadd, 1) := by decide +kernel
theorem dL_law_633 : decode cL_law 633 = .ok (.iaload, 1) := by decide +kernel
theorem dL_law_634 : decode cL_law 634 = .ok (.aload_n 0, 1) := by decide +kernel
theorem dL_law_635 : decode cL_law 635 = .ok (.iload_n 3, 1) := by decide +kernel
theorem dL_law_636 : decode cL_law 636 = .ok (.iconst 2, 1) := by decide +kernel
theorem dL_law_637 : decode cL_law 637 = .ok (.iadd, 1) := by decide +kernel
theorem dL_law_638 : decode cL_law 638 = .ok (.iaload, 1) := by decide +kernel
theorem dL_law_639 : decode cL_law 639 = .ok (.aload_n 0, 1) := by decide +kernel
theorem dL_law_640 : decode cL_law 640 = .ok (.iload_n 3, 1) := by decide +kernel
theorem dL_law_641 : decode cL_law 641 = .ok (.iconst 3, 1) := by decide +kernel
theorem dL_law_642 : decode cL_law 642 = .ok (.iadd, 1) := by decide +kernel
theorem dL_law_643 : decode cL_law 643 = .ok (.iaload, 1) := by decide +kernel
theorem dL_law_644 : decode cL_law 644 = .ok (.invokevirtual 74, 3) := by decide +kernel
theorem dL_law_647 : decode cL_law 647 = .ok (.aload_n 2, 1) := by decide +kernel
theorem dL_law_648 : decode cL_law 648 = .ok (.aload_n 0, 1) := by decide +kernel
theorem dL_law_649 : decode cL_law 649 = .ok (.iload_n 3, 1) := by decide +kernel
theorem dL_law_650 : decode cL_law 650 = .ok (.iconst 1, 1) := by decide +kernel
theorem dL_law_651 : decode cL_law 651 = .ok (.iadd, 1) := by decide +kernel
theorem dL_law_652 : decode cL_law 652 = .ok (.iaload, 1) := by decide +kernel
theorem dL_law_653 : decode cL_law 653 = .ok (.aload_n 0, 1) := by decide +kernel
theorem dL_law_654 : decode cL_law 654 = .ok (.iload_n 3, 1) := by decide +kernel
theorem dL_law_655 : decode cL_law 655 = .ok (.iconst 2, 1) := by decide +kernel
theorem dL_law_656 : decode cL_law 656 = .ok (.iadd, 1) := by decide +kernel
theorem dL_law_657 : decode cL_law 657 = .ok (.iaload, 1) := by decide +kernel
theorem dL_law_658 : decode cL_law 658 = .ok (.aload_n 0, 1) := by decide +kernel
theorem dL_law_659 : decode cL_law 659 = .ok (.iload_n 3, 1) := by decide +kernel
theorem dL_law_660 : decode cL_law 660 = .ok (.iconst 3, 1) := by decide +kernel
theorem dL_law_661 : decode cL_law 661 = .ok (.iadd, 1) := by decide +kernel
theorem dL_law_662 : decode cL_law 662 = .ok (.iaload, 1) := by decide +kernel
theorem dL_law_663 : decode cL_law 663 = .ok (.invokevirtual 77, 3) := by decide +kernel
theorem dL_law_666 : decode cL_law 666 = .ok (.if_icmp .eq 202, 3) := by decide +kernel
theorem dL_law_669 : decode cL_law 669 = .ok (.iconst 0, 1) := by decide +kernel
theorem dL_law_670 : decode cL_law 670 = .ok (.ireturn, 1) := by decide +kernel
theorem dL_law_671 : decode cL_law 671 = .ok (.aload_n 1, 1) := by decide +kernel
theorem dL_law_672 : decode cL_law 672 = .ok (.invokevirtual 78, 3) := by decide +kernel
theorem dL_law_675 : decode cL_law 675 = .ok (.aload_n 2, 1) := by decide +kernel
theorem dL_law_676 : decode cL_law 676 = .ok (.invokevirtual 81, 3) := by decide +kernel
theorem dL_law_679 : decode cL_law 679 = .ok (.if_icmp .eq 189, 3) := by decide +kernel
theorem dL_law_682 : decode cL_law 682 = .ok (.iconst 0, 1) := by decide +kernel
theorem dL_law_683 : decode cL_law 683 = .ok (.ireturn, 1) := by decide +kernel
theorem dL_law_684 : decode cL_law 684 = .ok (.aload_n 1, 1) := by decide +kernel
theorem dL_law_685 : decode cL_law 685 = .ok (.aload_n 0, 1) := by decide +kernel
theorem dL_law_686 : decode cL_law 686 = .ok (.iload_n 3, 1) := by decide +kernel
theorem dL_law_687 : decode cL_law 687 = .ok (.iconst 1, 1) := by decide +kernel
theorem dL_law_688 : decode cL_law 688 = .ok (.iadd, 1) := by decide +kernel
theorem dL_law_689 : decode cL_law 689 = .ok (.iaload, 1) := by decide +kernel
theorem dL_law_690 : decode cL_law 690 = .ok (.invokevirtual 82, 3) := by decide +kernel
theorem dL_law_693 : decode cL_law 693 = .ok (.aload_n 2, 1) := by decide +kernel
theorem dL_law_694 : decode cL_law 694 = .ok (.aload_n 0, 1) := by decide +kernel
theorem dL_law_695 : decode cL_law 695 = .ok (.iload_n 3, 1) := by decide +kernel
theorem dL_law_696 : decode cL_law 696 = .ok (.iconst 1, 1) := by decide +kernel
theorem dL_law_697 : decode cL_law 697 = .ok (.iadd, 1) := by decide +kernel
theorem dL_law_698 : decode cL_law 698 = .ok (.iaload, 1) := by decide +kernel
theorem dL_law_699 : decode cL_law 699 = .ok (.invokevirtual 85, 3) := by decide +kernel
theorem dL_law_702 : decode cL_law 702 = .ok (.if_icmp .eq 166, 3) := by decide +kernel
theorem dL_law_705 : decode cL_law 705 = .ok (.iconst 0, 1) := by decide +kernel
theorem dL_law_706 : decode cL_law 706 = .ok (.ireturn, 1) := by decide +kernel
theorem dL_law_707 : decode cL_law 707 = .ok (.aload_n 1, 1) := by decide +kernel
theorem dL_law_708 : decode cL_law 708 = .ok (.aload_n 0, 1) := by decide +kernel
theorem dL_law_709 : decode cL_law 709 = .ok (.iload_n 3, 1) := by decide +kernel
theorem dL_law_710 : decode cL_law 710 = .ok (.iconst 1, 1) := by decide +kernel
theorem dL_law_711 : decode cL_law 711 = .ok (.iadd, 1) := by decide +kernel
theorem dL_law_712 : decode cL_law 712 = .ok (.iaload, 1) := by decide +kernel
theorem dL_law_713 : decode cL_law 713 = .ok (.invokevirtual 86, 3) := by decide +kernel
theorem dL_law_716 : decode cL_law 716 = .ok (.aload_n 2, 1) := by decide +kernel
theorem dL_law_717 : decode cL_law 717 = .ok (.aload_n 0, 1) := by decide +kernel
theorem dL_law_718 : decode cL_law 718 = .ok (.iload_n 3, 1) := by decide +kernel
theorem dL_law_719 : decode cL_law 719 = .ok (.iconst 1, 1) := by decide +kernel
theorem dL_law_720 : decode cL_law 720 = .ok (.iadd, 1) := by decide +kernel
theorem dL_law_721 : decode cL_law 721 = .ok (.iaload, 1) := by decide +kernel
theorem dL_law_722 : decode cL_law 722 = .ok (.invokevirtual 89, 3) := by decide +kernel
theorem dL_law_725 : decode cL_law 725 = .ok (.if_icmp .eq 143, 3) := by decide +kernel
theorem dL_law_728 : decode cL_law 728 = .ok (.iconst 0, 1) := by decide +kernel
theorem dL_law_729 : decode cL_law 729 = .ok (.ireturn, 1) := by decide +kernel
theorem dL_law_730 : decode cL_law 730 = .ok (.aload_n 1, 1) := by decide +kernel
theorem dL_law_731 : decode cL_law 731 = .ok (.aload_n 0, 1) := by decide +kernel
theorem dL_law_732 : decode cL_law 732 = .ok (.iload_n 3, 1) := by decide +kernel
theorem dL_law_733 : decode cL_law 733 = .ok (.iconst 1, 1) := by decide +kernel
theorem dL_law_734 : decode cL_law 734 = .ok (.iadd, 1) := by decide +kernel
theorem dL_law_735 : decode cL_law 735 = .ok (.iaload, 1) := by decide +kernel
theorem dL_law_736 : decode cL_law 736 = .ok (.i2l, 1) := by decide +kernel
theorem dL_law_737 : decode cL_law 737 = .ok (.bipush 32, 2) := by decide +kernel
theorem dL_law_739 : decode cL_law 739 = .ok (.lshl, 1) := by decide +kernel
theorem dL_law_740 : decode cL_law 740 = .ok (.aload_n 0, 1) := by decide +kernel
theorem dL_law_741 : decode cL_law 741 = .ok (.iload_n 3, 1) := by decide +kernel
theorem dL_law_742 : decode cL_law 742 = .ok (.iconst 2, 1) := by decide +kernel
theorem dL_law_743 : decode cL_law 743 = .ok (.iadd, 1) := by decide +kernel
theorem dL_law_744 : decode cL_law 744 = .ok (.iaload, 1) := by decide +kernel
theorem dL_law_745 : decode cL_law 745 = .ok (.i2l, 1) := by decide +kernel
theorem dL_law_746 : decode cL_law 746 = .ok (.ldc2_w 90, 3) := by decide +kernel
theorem dL_law_749 : decode cL_law 749 = .ok (.land, 1) := by decide +kernel
theorem dL_law_750 : decode cL_law 750 = .ok (.lor, 1) := by decide +kernel
theorem dL_law_751 : decode cL_law 751 = .ok (.invokevirtual 92, 3) := by decide +kernel
theorem dL_law_754 : decode cL_law 754 = .ok (.aload_n 2, 1) := by decide +kernel
theorem dL_law_755 : decode cL_law 755 = .ok (.aload_n 0, 1) := by decide +kernel
theorem dL_law_756 : decode cL_law 756 = .ok (.iload_n 3, 1) := by decide +kernel
theorem dL_law_757 : decode cL_law 757 = .ok (.iconst 1, 1) := by decide +kernel
theorem dL_law_758 : decode cL_law 758 = .ok (.iadd, 1) := by decide +kernel
theorem dL_law_759 : decode cL_law 759 = .ok (.iaload, 1) := by decide +kernel
theorem dL_law_760 : decode cL_law 760 = .ok (.i2l, 1) := by decide +kernel
theorem dL_law_761 : decode cL_law 761 = .ok (.bipush 32, 2) := by decide +kernel
theorem dL_law_763 : decode cL_law 763 = .ok (.lshl, 1) := by decide +kernel
theorem dL_law_764 : decode cL_law 764 = .ok (.aload_n 0, 1) := by decide +kernel
theorem dL_law_765 : decode cL_law 765 = .ok (.iload_n 3, 1) := by decide +kernel
theorem dL_law_766 : decode cL_law 766 = .ok (.iconst 2, 1) := by decide +kernel
theorem dL_law_767 : decode cL_law 767 = .ok (.iadd, 1) := by decide +kernel
theorem dL_law_768 : decode cL_law 768 = .ok (.iaload, 1) := by decide +kernel
theorem dL_law_769 : decode cL_law 769 = .ok (.i2l, 1) := by decide +kernel
theorem dL_law_770 : decode cL_law 770 = .ok (.ldc2_w 90, 3) := by decide +kernel
theorem dL_law_773 : decode cL_law 773 = .ok (.land, 1) := by decide +kernel
theorem dL_law_774 : decode cL_law 774 = .ok (.lor, 1) := by decide +kernel
theorem dL_law_775 : decode cL_law 775 = .ok (.invokevirtual 96, 3) := by decide +kernel
theorem dL_law_778 : decode cL_law 778 = .ok (.if_icmp .eq 90, 3) := by decide +kernel
theorem dL_law_781 : decode cL_law 781 = .ok (.iconst 0, 1) := by decide +kernel
theorem dL_law_782 : decode cL_law 782 = .ok (.ireturn, 1) := by decide +kernel
theorem dL_law_783 : decode cL_law 783 = .ok (.aload_n 1, 1) := by decide +kernel
theorem dL_law_784 : decode cL_law 784 = .ok (.invokevirtual 97, 3) := by decide +kernel
theorem dL_law_787 : decode cL_law 787 = .ok (.aload_n 2, 1) := by decide +kernel
theorem dL_law_788 : decode cL_law 788 = .ok (.invokevirtual 100, 3) := by decide +kernel
theorem dL_law_791 : decode cL_law 791 = .ok (.if_icmp .eq 77, 3) := by decide +kernel
theorem dL_law_794 : decode cL_law 794 = .ok (.iconst 0, 1) := by decide +kernel
theorem dL_law_795 : decode cL_law 795 = .ok (.ireturn, 1) := by decide +kernel
theorem dL_law_796 : decode cL_law 796 = .ok (.aload_n 1, 1) := by decide +kernel
theorem dL_law_797 : decode cL_law 797 = .ok (.invokevirtual 101, 3) := by decide +kernel
theorem dL_law_800 : decode cL_law 800 = .ok (.aload_n 2, 1) := by decide +kernel
theorem dL_law_801 : decode cL_law 801 = .ok (.invokevirtual 104, 3) := by decide +kernel
theorem dL_law_804 : decode cL_law 804 = .ok (.if_icmp .eq 64, 3) := by decide +kernel
theorem dL_law_807 : decode cL_law 807 = .ok (.iconst 0, 1) := by decide +kernel
theorem dL_law_808 : decode cL_law 808 = .ok (.ireturn, 1) := by decide +kernel
theorem dL_law_809 : decode cL_law 809 = .ok (.aload_n 1, 1) := by decide +kernel
theorem dL_law_810 : decode cL_law 810 = .ok (.invokevirtual 105, 3) := by decide +kernel
theorem dL_law_813 : decode cL_law 813 = .ok (.aload_n 2, 1) := by decide +kernel
theorem dL_law_814 : decode cL_law 814 = .ok (.invokevirtual 108, 3) := by decide +kernel
theorem dL_law_817 : decode cL_law 817 = .ok (.if_icmp .eq 51, 3) := by decide +kernel
theorem dL_law_820 : decode cL_law 820 = .ok (.iconst 0, 1) := by decide +kernel
theorem dL_law_821 : decode cL_law 821 = .ok (.ireturn, 1) := by decide +kernel
theorem dL_law_822 : decode cL_law 822 = .ok (.aload_n 1, 1) := by decide +kernel
theorem dL_law_823 : decode cL_law 823 = .ok (.aload_n 0, 1) := by decide +kernel
theorem dL_law_824 : decode cL_law 824 = .ok (.iload_n 3, 1) := by decide +kernel
theorem dL_law_825 : decode cL_law 825 = .ok (.iconst 1, 1) := by decide +kernel
theorem dL_law_826 : decode cL_law 826 = .ok (.iadd, 1) := by decide +kernel
theorem dL_law_827 : decode cL_law 827 = .ok (.iaload, 1) := by decide +kernel
theorem dL_law_828 : decode cL_law 828 = .ok (.invokevirtual 109, 3) := by decide +kernel
theorem dL_law_831 : decode cL_law 831 = .ok (.aload_n 2, 1) := by decide +kernel
theorem dL_law_832 : decode cL_law 832 = .ok (.aload_n 0, 1) := by decide +kernel
theorem dL_law_833 : decode cL_law 833 = .ok (.iload_n 3, 1) := by decide +kernel
theorem dL_law_834 : decode cL_law 834 = .ok (.iconst 1, 1) := by decide +kernel
theorem dL_law_835 : decode cL_law 835 = .ok (.iadd, 1) := by decide +kernel
theorem dL_law_836 : decode cL_law 836 = .ok (.iaload, 1) := by decide +kernel
theorem dL_law_837 : decode cL_law 837 = .ok (.invokevirtual 112, 3) := by decide +kernel
theorem dL_law_840 : decode cL_law 840 = .ok (.if_icmp .eq 28, 3) := by decide +kernel
theorem dL_law_843 : decode cL_law 843 = .ok (.iconst 0, 1) := by decide +kernel
theorem dL_law_844 : decode cL_law 844 = .ok (.ireturn, 1) := by decide +kernel
theorem dL_law_845 : decode cL_law 845 = .ok (.aload_n 1, 1) := by decide +kernel
theorem dL_law_846 : decode cL_law 846 = .ok (.aload_n 0, 1) := by decide +kernel
theorem dL_law_847 : decode cL_law 847 = .ok (.iload_n 3, 1) := by decide +kernel
theorem dL_law_848 : decode cL_law 848 = .ok (.iconst 1, 1) := by decide +kernel
theorem dL_law_849 : decode cL_law 849 = .ok (.iadd, 1) := by decide +kernel
theorem dL_law_850 : decode cL_law 850 = .ok (.iaload, 1) := by decide +kernel
theorem dL_law_851 : decode cL_law 851 = .ok (.invokevirtual 113, 3) := by decide +kernel
theorem dL_law_854 : decode cL_law 854 = .ok (.aload_n 2, 1) := by decide +kernel
theorem dL_law_855 : decode cL_law 855 = .ok (.aload_n 0, 1) := by decide +kernel
theorem dL_law_856 : decode cL_law 856 = .ok (.iload_n 3, 1) := by decide +kernel
theorem dL_law_857 : decode cL_law 857 = .ok (.iconst 1, 1) := by decide +kernel
theorem dL_law_858 : decode cL_law 858 = .ok (.iadd, 1) := by decide +kernel
theorem dL_law_859 : decode cL_law 859 = .ok (.iaload, 1) := by decide +kernel
theorem dL_law_860 : decode cL_law 860 = .ok (.invokevirtual 116, 3) := by decide +kernel
theorem dL_law_863 : decode cL_law 863 = .ok (.if_icmp .eq 5, 3) := by decide +kernel
theorem dL_law_866 : decode cL_law 866 = .ok (.iconst 0, 1) := by decide +kernel
theorem dL_law_867 : decode cL_law 867 = .ok (.ireturn, 1) := by decide +kernel
theorem dL_law_868 : decode cL_law 868 = .ok (.iinc 3 7, 3) := by decide +kernel
theorem dL_law_871 : decode cL_law 871 = .ok (.goto (-853), 3) := by decide +kernel
theorem dL_law_874 : decode cL_law 874 = .ok (.iconst 1, 1) := by decide +kernel
theorem dL_law_875 : decode cL_law 875 = .ok (.ireturn, 1) := by decide +kernel
abbrev vwCl : List vw_C := [(RX0, TX0, 4), (RX1, TX1, 2), (RX2, TX2, 3), (RX3, TX3, 8), (RX4, TX4, 6), (RX5, TX5, 6), (RX6, TX6, 15)]
end
section
def Tb : List Cond := lw_tbl.filter goodWord
theorem tb_mem {w : Cond} (h : w ∈ lw_tbl) (hg : goodWord w = true) : w ∈ Tb := List.mem_filter.mpr ⟨h, hg⟩
theorem tb_of {w : Cond} {i : Nat} (h : lw_tbl[i]? = some w) (hg : goodWord w = true) : w ∈ Tb := tb_mem (List.mem_of_getElem? h) hg
theorem tb_good {w : Cond} (h : w ∈ Tb) : goodWord w = true := (List.mem_filter.mp h).2
theorem tb_tbl {w : Cond} (h : w ∈ Tb) : w ∈ lw_tbl := (List.mem_filter.mp h).1
/-- a method's words: its own code, and all of the table -/
def Tw (y : MethodName) (b : ByteArray) (n : Nat) (r : Option FieldType) : List Cond := Cond.code y b n r :: Tb
theorem tw_good {y : MethodName} {b : ByteArray} {n : Nat} {r : Option FieldType} (h : Cond.code y b n r ∈ Tb) : GoodIn Tb (Tw y b n r) := by
  intro w hw
  rcases List.mem_cons.mp hw with rfl | hw
  · exact ⟨h, good_of_word (tb_good h)⟩
  · exact ⟨hw, good_of_word (tb_good hw)⟩
theorem ini_L : Cond.initialized RL ∈ Tb := tb_of (i := 35) (by decide +kernel) (by decide +kernel)
theorem ini_X5 : Cond.initialized RX5 ∈ Tb := tb_of (i := 36) (by decide +kernel) (by decide +kernel)
theorem ini_X4 : Cond.initialized RX4 ∈ Tb := tb_of (i := 37) (by decide +kernel) (by decide +kernel)
theorem ini_X3 : Cond.initialized RX3 ∈ Tb := tb_of (i := 38) (by decide +kernel) (by decide +kernel)
theorem ini_X1 : Cond.initialized RX1 ∈ Tb := tb_of (i := 39) (by decide +kernel) (by decide +kernel)
theorem ini_X2 : Cond.initialized RX2 ∈ Tb := tb_of (i := 40) (by decide +kernel) (by decide +kernel)
theorem ini_X0 : Cond.initialized RX0 ∈ Tb := tb_of (i := 41) (by decide +kernel) (by decide +kernel)
theorem ini_X6 : Cond.initialized RX6 ∈ Tb := tb_of (i := 42) (by decide +kernel) (by decide +kernel)
theorem ini_J10 : Cond.initialized RJ10 ∈ Tb := tb_of (i := 43) (by decide +kernel) (by decide +kernel)
theorem ini_J9 : Cond.initialized RJ9 ∈ Tb := tb_of (i := 44) (by decide +kernel) (by decide +kernel)
theorem clL_7 : Cond.classLink RL 7 RX5 ∈ Tb := tb_of (i := 45) (by decide +kernel) (by decide +kernel)
theorem ins_X5 : Cond.instantiable RX5 6 ∈ Tb := tb_of (i := 46) (by decide +kernel) (by decide +kernel)
theorem mkL_9 : Cond.methodLink RL 9 yX5_init ∈ Tb := tb_of (i := 47) (by decide +kernel) (by decide +kernel)
theorem im_X5_init : Cond.instanceMethod yX5_init ∈ Tb := tb_of (i := 48) (by decide +kernel) (by decide +kernel)
theorem co_X5_init : Cond.code yX5_init cX5_init 2 none ∈ Tb := tb_of (i := 49) (by decide +kernel) (by decide +kernel)
theorem mkX5_3 : Cond.methodLink RX5 3 objectInit ∈ Tb := tb_of (i := 50) (by decide +kernel) (by decide +kernel)
theorem im_objectInit : Cond.instanceMethod objectInit ∈ Tb := tb_of (i := 51) (by decide +kernel) (by decide +kernel)
theorem co_objectInit : Cond.code objectInit ⟨#[0xb1]⟩ 1 none ∈ Tb := tb_of (i := 52) (by decide +kernel) (by decide +kernel)
theorem clX5_9 : Cond.classLink RX5 9 RX4 ∈ Tb := tb_of (i := 53) (by decide +kernel) (by decide +kernel)
theorem ins_X4 : Cond.instantiable RX4 6 ∈ Tb := tb_of (i := 54) (by decide +kernel) (by decide +kernel)
theorem mkX5_11 : Cond.methodLink RX5 11 yX4_init ∈ Tb := tb_of (i := 55) (by decide +kernel) (by decide +kernel)
theorem im_X4_init : Cond.instanceMethod yX4_init ∈ Tb := tb_of (i := 56) (by decide +kernel) (by decide +kernel)
theorem co_X4_init : Cond.code yX4_init cX4_init 2 none ∈ Tb := tb_of (i := 57) (by decide +kernel) (by decide +kernel)
theorem mkX4_3 : Cond.methodLink RX4 3 objectInit ∈ Tb := tb_of (i := 58) (by decide +kernel) (by decide +kernel)
theorem clX4_9 : Cond.classLink RX4 9 RX3 ∈ Tb := tb_of (i := 59) (by decide +kernel) (by decide +kernel)
theorem ins_X3 : Cond.instantiable RX3 8 ∈ Tb := tb_of (i := 61) (by decide +kernel) (by decide +kernel)
theorem mkX4_17 : Cond.methodLink RX4 17 yX3_init ∈ Tb := tb_of (i := 62) (by decide +kernel) (by decide +kernel)
theorem im_X3_init : Cond.instanceMethod yX3_init ∈ Tb := tb_of (i := 63) (by decide +kernel) (by decide +kernel)
theorem co_X3_init : Cond.code yX3_init cX3_init 1 none ∈ Tb := tb_of (i := 64) (by decide +kernel) (by decide +kernel)
theorem mkX3_3 : Cond.methodLink RX3 3 objectInit ∈ Tb := tb_of (i := 65) (by decide +kernel) (by decide +kernel)
theorem fkX3_15 : Cond.fieldLink RX3 15 RX3 "x" "I" ∈ Tb := tb_of (i := 66) (by decide +kernel) (by decide +kernel)
theorem fkX5_129 : Cond.fieldLink RX5 129 RX3 "x" "I" ∈ Tb := tb_of (i := 67) (by decide +kernel) (by decide +kernel)
theorem fkX3_19 : Cond.fieldLink RX3 19 RX3 "y" "I" ∈ Tb := tb_of (i := 68) (by decide +kernel) (by decide +kernel)
theorem fkX5_134 : Cond.fieldLink RX5 134 RX3 "y" "I" ∈ Tb := tb_of (i := 69) (by decide +kernel) (by decide +kernel)
theorem fkX3_22 : Cond.fieldLink RX3 22 RX3 "width" "I" ∈ Tb := tb_of (i := 70) (by decide +kernel) (by decide +kernel)
theorem fkX5_137 : Cond.fieldLink RX5 137 RX3 "width" "I" ∈ Tb := tb_of (i := 71) (by decide +kernel) (by decide +kernel)
theorem fkX3_25 : Cond.fieldLink RX3 25 RX3 "height" "I" ∈ Tb := tb_of (i := 72) (by decide +kernel) (by decide +kernel)
theorem fkX5_140 : Cond.fieldLink RX5 140 RX3 "height" "I" ∈ Tb := tb_of (i := 73) (by decide +kernel) (by decide +kernel)
theorem fkX3_28 : Cond.fieldLink RX3 28 RX3 "price" "I" ∈ Tb := tb_of (i := 74) (by decide +kernel) (by decide +kernel)
theorem fkX4_66 : Cond.fieldLink RX4 66 RX3 "price" "I" ∈ Tb := tb_of (i := 75) (by decide +kernel) (by decide +kernel)
theorem fkX5_143 : Cond.fieldLink RX5 143 RX3 "price" "I" ∈ Tb := tb_of (i := 76) (by decide +kernel) (by decide +kernel)
theorem fkX3_31 : Cond.fieldLink RX3 31 RX3 "sales" "I" ∈ Tb := tb_of (i := 77) (by decide +kernel) (by decide +kernel)
theorem fkX4_69 : Cond.fieldLink RX4 69 RX3 "sales" "I" ∈ Tb := tb_of (i := 78) (by decide +kernel) (by decide +kernel)
theorem fkX5_152 : Cond.fieldLink RX5 152 RX3 "sales" "I" ∈ Tb := tb_of (i := 79) (by decide +kernel) (by decide +kernel)
theorem fkX3_34 : Cond.fieldLink RX3 34 RX3 "brought" "I" ∈ Tb := tb_of (i := 80) (by decide +kernel) (by decide +kernel)
theorem fkX4_70 : Cond.fieldLink RX4 70 RX3 "brought" "I" ∈ Tb := tb_of (i := 81) (by decide +kernel) (by decide +kernel)
theorem fkX5_155 : Cond.fieldLink RX5 155 RX3 "brought" "I" ∈ Tb := tb_of (i := 82) (by decide +kernel) (by decide +kernel)
theorem fkX3_9 : Cond.fieldLink RX3 9 RX3 "coats" "[I" ∈ Tb := tb_of (i := 83) (by decide +kernel) (by decide +kernel)
theorem fkX4_53 : Cond.fieldLink RX4 53 RX3 "coats" "[I" ∈ Tb := tb_of (i := 84) (by decide +kernel) (by decide +kernel)
theorem fkX5_164 : Cond.fieldLink RX5 164 RX3 "coats" "[I" ∈ Tb := tb_of (i := 85) (by decide +kernel) (by decide +kernel)
theorem ac_int : Cond.arrayClass .int ∈ Tb := tb_of (i := 103) (by decide +kernel) (by decide +kernel)
theorem fkX4_11 : Cond.fieldLink RX4 11 RX4 "posters" "[LVarnishPrices$Poster;" ∈ Tb := tb_of (i := 104) (by decide +kernel) (by decide +kernel)
theorem fkX5_125 : Cond.fieldLink RX5 125 RX4 "posters" "[LVarnishPrices$Poster;" ∈ Tb := tb_of (i := 105) (by decide +kernel) (by decide +kernel)
theorem fkX4_22 : Cond.fieldLink RX4 22 RX4 "pasted" "I" ∈ Tb := tb_of (i := 106) (by decide +kernel) (by decide +kernel)
theorem fkX5_49 : Cond.fieldLink RX5 49 RX4 "pasted" "I" ∈ Tb := tb_of (i := 107) (by decide +kernel) (by decide +kernel)
theorem fkX4_18 : Cond.fieldLink RX4 18 RX4 "suns" "[I" ∈ Tb := tb_of (i := 108) (by decide +kernel) (by decide +kernel)
theorem fkX5_89 : Cond.fieldLink RX5 89 RX4 "suns" "[I" ∈ Tb := tb_of (i := 109) (by decide +kernel) (by decide +kernel)
theorem fkX4_36 : Cond.fieldLink RX4 36 RX4 "day" "I" ∈ Tb := tb_of (i := 110) (by decide +kernel) (by decide +kernel)
theorem fkX5_107 : Cond.fieldLink RX5 107 RX4 "day" "I" ∈ Tb := tb_of (i := 111) (by decide +kernel) (by decide +kernel)
theorem fkX4_39 : Cond.fieldLink RX4 39 RX4 "sales" "I" ∈ Tb := tb_of (i := 112) (by decide +kernel) (by decide +kernel)
theorem fkX5_185 : Cond.fieldLink RX5 185 RX4 "sales" "I" ∈ Tb := tb_of (i := 113) (by decide +kernel) (by decide +kernel)
theorem fkX4_42 : Cond.fieldLink RX4 42 RX4 "brought" "I" ∈ Tb := tb_of (i := 114) (by decide +kernel) (by decide +kernel)
theorem fkX5_186 : Cond.fieldLink RX5 186 RX4 "brought" "I" ∈ Tb := tb_of (i := 115) (by decide +kernel) (by decide +kernel)
theorem clX5_19 : Cond.classLink RX5 19 RX1 ∈ Tb := tb_of (i := 129) (by decide +kernel) (by decide +kernel)
theorem ins_X1 : Cond.instantiable RX1 2 ∈ Tb := tb_of (i := 130) (by decide +kernel) (by decide +kernel)
theorem mkX5_21 : Cond.methodLink RX5 21 yX1_init ∈ Tb := tb_of (i := 131) (by decide +kernel) (by decide +kernel)
theorem im_X1_init : Cond.instanceMethod yX1_init ∈ Tb := tb_of (i := 132) (by decide +kernel) (by decide +kernel)
theorem co_X1_init : Cond.code yX1_init cX1_init 2 none ∈ Tb := tb_of (i := 133) (by decide +kernel) (by decide +kernel)
theorem mkX1_3 : Cond.methodLink RX1 3 objectInit ∈ Tb := tb_of (i := 134) (by decide +kernel) (by decide +kernel)
theorem clX1_9 : Cond.classLink RX1 9 RX4 ∈ Tb := tb_of (i := 135) (by decide +kernel) (by decide +kernel)
theorem mkX1_17 : Cond.methodLink RX1 17 yX4_init ∈ Tb := tb_of (i := 137) (by decide +kernel) (by decide +kernel)
theorem fkX1_11 : Cond.fieldLink RX1 11 RX1 "states" "[LVarnishPrices$Wall;" ∈ Tb := tb_of (i := 138) (by decide +kernel) (by decide +kernel)
theorem fkX1_18 : Cond.fieldLink RX1 18 RX1 "size" "I" ∈ Tb := tb_of (i := 139) (by decide +kernel) (by decide +kernel)
theorem fkX5_187 : Cond.fieldLink RX5 187 RX1 "size" "I" ∈ Tb := tb_of (i := 140) (by decide +kernel) (by decide +kernel)
theorem clX5_34 : Cond.classLink RX5 34 RX2 ∈ Tb := tb_of (i := 146) (by decide +kernel) (by decide +kernel)
theorem ins_X2 : Cond.instantiable RX2 3 ∈ Tb := tb_of (i := 147) (by decide +kernel) (by decide +kernel)
theorem mkX5_36 : Cond.methodLink RX5 36 yX2_init ∈ Tb := tb_of (i := 148) (by decide +kernel) (by decide +kernel)
theorem im_X2_init : Cond.instanceMethod yX2_init ∈ Tb := tb_of (i := 149) (by decide +kernel) (by decide +kernel)
theorem co_X2_init : Cond.code yX2_init cX2_init 1 none ∈ Tb := tb_of (i := 150) (by decide +kernel) (by decide +kernel)
theorem mkX2_3 : Cond.methodLink RX2 3 objectInit ∈ Tb := tb_of (i := 151) (by decide +kernel) (by decide +kernel)
theorem clX2_15 : Cond.classLink RX2 15 RX0 ∈ Tb := tb_of (i := 152) (by decide +kernel) (by decide +kernel)
theorem ins_X0 : Cond.instantiable RX0 4 ∈ Tb := tb_of (i := 153) (by decide +kernel) (by decide +kernel)
theorem im_X0_init : Cond.instanceMethod yX0_init ∈ Tb := tb_of (i := 155) (by decide +kernel) (by decide +kernel)
theorem co_X0_init : Cond.code yX0_init cX0_init 1 none ∈ Tb := tb_of (i := 156) (by decide +kernel) (by decide +kernel)
theorem mkX0_3 : Cond.methodLink RX0 3 objectInit ∈ Tb := tb_of (i := 157) (by decide +kernel) (by decide +kernel)
theorem fkX0_11 : Cond.fieldLink RX0 11 RX0 "position" "I" ∈ Tb := tb_of (i := 158) (by decide +kernel) (by decide +kernel)
theorem fkX0_15 : Cond.fieldLink RX0 15 RX0 "x" "I" ∈ Tb := tb_of (i := 159) (by decide +kernel) (by decide +kernel)
theorem fkX0_18 : Cond.fieldLink RX0 18 RX0 "y" "I" ∈ Tb := tb_of (i := 160) (by decide +kernel) (by decide +kernel)
theorem fkX0_25 : Cond.fieldLink RX0 25 RX0 "purse" "I" ∈ Tb := tb_of (i := 161) (by decide +kernel) (by decide +kernel)
theorem ac_boolean : Cond.arrayClass .boolean ∈ Tb := tb_of (i := 171) (by decide +kernel) (by decide +kernel)
theorem ac_char : Cond.arrayClass .char ∈ Tb := tb_of (i := 172) (by decide +kernel) (by decide +kernel)
theorem fkX2_9 : Cond.fieldLink RX2 9 RX2 "signs" "[C" ∈ Tb := tb_of (i := 173) (by decide +kernel) (by decide +kernel)
theorem fkX2_24 : Cond.fieldLink RX2 24 RX2 "length" "I" ∈ Tb := tb_of (i := 174) (by decide +kernel) (by decide +kernel)
theorem fkX5_104 : Cond.fieldLink RX5 104 RX2 "length" "I" ∈ Tb := tb_of (i := 175) (by decide +kernel) (by decide +kernel)
theorem fkX2_18 : Cond.fieldLink RX2 18 RX2 "reader" "LVarnishPrices$BuyerReader;" ∈ Tb := tb_of (i := 176) (by decide +kernel) (by decide +kernel)
theorem fkX5_12 : Cond.fieldLink RX5 12 RX5 "wall" "LVarnishPrices$Wall;" ∈ Tb := tb_of (i := 184) (by decide +kernel) (by decide +kernel)
theorem fkX5_16 : Cond.fieldLink RX5 16 RX5 "later" "LVarnishPrices$Wall;" ∈ Tb := tb_of (i := 185) (by decide +kernel) (by decide +kernel)
theorem fkX5_22 : Cond.fieldLink RX5 22 RX5 "history" "LVarnishPrices$History;" ∈ Tb := tb_of (i := 186) (by decide +kernel) (by decide +kernel)
theorem fkX5_26 : Cond.fieldLink RX5 26 RX5 "slots" "[LVarnishPrices$Wall;" ∈ Tb := tb_of (i := 187) (by decide +kernel) (by decide +kernel)
theorem fkX5_30 : Cond.fieldLink RX5 30 RX5 "saved" "[Z" ∈ Tb := tb_of (i := 188) (by decide +kernel) (by decide +kernel)
theorem fkX5_37 : Cond.fieldLink RX5 37 RX5 "pad" "LVarnishPrices$Pad;" ∈ Tb := tb_of (i := 189) (by decide +kernel) (by decide +kernel)
theorem mkL_13 : Cond.methodLink RL 13 yX5_paste ∈ Tb := tb_of (i := 203) (by decide +kernel) (by decide +kernel)
theorem im_X5_paste : Cond.instanceMethod yX5_paste ∈ Tb := tb_of (i := 204) (by decide +kernel) (by decide +kernel)
theorem se_X5_paste : Cond.selects RX5 yX5_paste yX5_paste ∈ Tb := tb_of (i := 205) (by decide +kernel) (by decide +kernel)
theorem co_X5_paste : Cond.code yX5_paste cX5_paste 7 (some .int) ∈ Tb := tb_of (i := 206) (by decide +kernel) (by decide +kernel)
theorem mkX5_41 : Cond.methodLink RX5 41 yX5_isCell ∈ Tb := tb_of (i := 207) (by decide +kernel) (by decide +kernel)
theorem st_X5_isCell : Cond.static yX5_isCell ∈ Tb := tb_of (i := 208) (by decide +kernel) (by decide +kernel)
theorem co_X5_isCell : Cond.code yX5_isCell cX5_isCell 2 (some .boolean) ∈ Tb := tb_of (i := 209) (by decide +kernel) (by decide +kernel)
theorem mkX5_86 : Cond.methodLink RX5 86 yX5_isColumn ∈ Tb := tb_of (i := 210) (by decide +kernel) (by decide +kernel)
theorem st_X5_isColumn : Cond.static yX5_isColumn ∈ Tb := tb_of (i := 211) (by decide +kernel) (by decide +kernel)
theorem co_X5_isColumn : Cond.code yX5_isColumn cX5_isColumn 1 (some .boolean) ∈ Tb := tb_of (i := 212) (by decide +kernel) (by decide +kernel)
theorem mkX5_45 : Cond.methodLink RX5 45 yX5_isWithin ∈ Tb := tb_of (i := 213) (by decide +kernel) (by decide +kernel)
theorem st_X5_isWithin : Cond.static yX5_isWithin ∈ Tb := tb_of (i := 214) (by decide +kernel) (by decide +kernel)
theorem co_X5_isWithin : Cond.code yX5_isWithin cX5_isWithin 3 (some .boolean) ∈ Tb := tb_of (i := 215) (by decide +kernel) (by decide +kernel)
theorem mkX5_53 : Cond.methodLink RX5 53 yX1_keep ∈ Tb := tb_of (i := 216) (by decide +kernel) (by decide +kernel)
theorem im_X1_keep : Cond.instanceMethod yX1_keep ∈ Tb := tb_of (i := 217) (by decide +kernel) (by decide +kernel)
theorem se_X1_keep : Cond.selects RX1 yX1_keep yX1_keep ∈ Tb := tb_of (i := 218) (by decide +kernel) (by decide +kernel)
theorem co_X1_keep : Cond.code yX1_keep cX1_keep 2 none ∈ Tb := tb_of (i := 219) (by decide +kernel) (by decide +kernel)
theorem mkX1_22 : Cond.methodLink RX1 22 yX1_dropOldest ∈ Tb := tb_of (i := 220) (by decide +kernel) (by decide +kernel)
theorem im_X1_dropOldest : Cond.instanceMethod yX1_dropOldest ∈ Tb := tb_of (i := 222) (by decide +kernel) (by decide +kernel)
theorem co_X1_dropOldest : Cond.code yX1_dropOldest cX1_dropOldest 3 none ∈ Tb := tb_of (i := 223) (by decide +kernel) (by decide +kernel)
theorem mkX1_25 : Cond.methodLink RX1 25 yX4_copyFrom ∈ Tb := tb_of (i := 224) (by decide +kernel) (by decide +kernel)
theorem im_X4_copyFrom : Cond.instanceMethod yX4_copyFrom ∈ Tb := tb_of (i := 225) (by decide +kernel) (by decide +kernel)
theorem se_X4_copyFrom : Cond.selects RX4 yX4_copyFrom yX4_copyFrom ∈ Tb := tb_of (i := 226) (by decide +kernel) (by decide +kernel)
theorem co_X4_copyFrom : Cond.code yX4_copyFrom cX4_copyFrom 3 none ∈ Tb := tb_of (i := 227) (by decide +kernel) (by decide +kernel)
theorem mkX4_26 : Cond.methodLink RX4 26 yX3_copyFrom ∈ Tb := tb_of (i := 228) (by decide +kernel) (by decide +kernel)
theorem im_X3_copyFrom : Cond.instanceMethod yX3_copyFrom ∈ Tb := tb_of (i := 229) (by decide +kernel) (by decide +kernel)
theorem se_X3_copyFrom : Cond.selects RX3 yX3_copyFrom yX3_copyFrom ∈ Tb := tb_of (i := 230) (by decide +kernel) (by decide +kernel)
theorem co_X3_copyFrom : Cond.code yX3_copyFrom cX3_copyFrom 2 none ∈ Tb := tb_of (i := 231) (by decide +kernel) (by decide +kernel)
theorem mkX3_41 : Cond.methodLink RX3 41 yX3_cover ∈ Tb := tb_of (i := 232) (by decide +kernel) (by decide +kernel)
theorem im_X3_cover : Cond.instanceMethod yX3_cover ∈ Tb := tb_of (i := 233) (by decide +kernel) (by decide +kernel)
theorem se_X3_cover : Cond.selects RX3 yX3_cover yX3_cover ∈ Tb := tb_of (i := 234) (by decide +kernel) (by decide +kernel)
theorem co_X3_cover : Cond.code yX3_cover cX3_cover 5 none ∈ Tb := tb_of (i := 235) (by decide +kernel) (by decide +kernel)
theorem mkX3_45 : Cond.methodLink RX3 45 arraycopyName ∈ Tb := tb_of (i := 236) (by decide +kernel) (by decide +kernel)
theorem st_arraycopyName : Cond.static arraycopyName ∈ Tb := tb_of (i := 237) (by decide +kernel) (by decide +kernel)
theorem na_arraycopy : Cond.native arraycopyName ∈ Tb := tb_of (i := 238) (by decide +kernel) (by decide +kernel)
theorem mkX4_30 : Cond.methodLink RX4 30 arraycopyName ∈ Tb := tb_of (i := 239) (by decide +kernel) (by decide +kernel)
theorem mkX5_57 : Cond.methodLink RX5 57 yX4_addOnTop ∈ Tb := tb_of (i := 240) (by decide +kernel) (by decide +kernel)
theorem im_X4_addOnTop : Cond.instanceMethod yX4_addOnTop ∈ Tb := tb_of (i := 241) (by decide +kernel) (by decide +kernel)
theorem se_X4_addOnTop : Cond.selects RX4 yX4_addOnTop yX4_addOnTop ∈ Tb := tb_of (i := 242) (by decide +kernel) (by decide +kernel)
theorem co_X4_addOnTop : Cond.code yX4_addOnTop cX4_addOnTop 8 (some .int) ∈ Tb := tb_of (i := 243) (by decide +kernel) (by decide +kernel)
theorem mkX4_45 : Cond.methodLink RX4 45 yX3_cover ∈ Tb := tb_of (i := 244) (by decide +kernel) (by decide +kernel)
theorem mkX4_49 : Cond.methodLink RX4 49 yX3_begin ∈ Tb := tb_of (i := 245) (by decide +kernel) (by decide +kernel)
theorem im_X3_begin : Cond.instanceMethod yX3_begin ∈ Tb := tb_of (i := 246) (by decide +kernel) (by decide +kernel)
theorem se_X3_begin : Cond.selects RX3 yX3_begin yX3_begin ∈ Tb := tb_of (i := 247) (by decide +kernel) (by decide +kernel)
theorem co_X3_begin : Cond.code yX3_begin cX3_begin 4 none ∈ Tb := tb_of (i := 248) (by decide +kernel) (by decide +kernel)
theorem mkX3_37 : Cond.methodLink RX3 37 yX3_liesAt ∈ Tb := tb_of (i := 249) (by decide +kernel) (by decide +kernel)
theorem im_X3_liesAt : Cond.instanceMethod yX3_liesAt ∈ Tb := tb_of (i := 250) (by decide +kernel) (by decide +kernel)
theorem se_X3_liesAt : Cond.selects RX3 yX3_liesAt yX3_liesAt ∈ Tb := tb_of (i := 251) (by decide +kernel) (by decide +kernel)
theorem co_X3_liesAt : Cond.code yX3_liesAt cX3_liesAt 3 (some .boolean) ∈ Tb := tb_of (i := 252) (by decide +kernel) (by decide +kernel)
theorem mkL_18 : Cond.methodLink RL 18 yX5_tear ∈ Tb := tb_of (i := 253) (by decide +kernel) (by decide +kernel)
theorem im_X5_tear : Cond.instanceMethod yX5_tear ∈ Tb := tb_of (i := 254) (by decide +kernel) (by decide +kernel)
theorem se_X5_tear : Cond.selects RX5 yX5_tear yX5_tear ∈ Tb := tb_of (i := 255) (by decide +kernel) (by decide +kernel)
theorem co_X5_tear : Cond.code yX5_tear cX5_tear 3 (some .int) ∈ Tb := tb_of (i := 256) (by decide +kernel) (by decide +kernel)
theorem mkX5_61 : Cond.methodLink RX5 61 yX5_isPoster ∈ Tb := tb_of (i := 257) (by decide +kernel) (by decide +kernel)
theorem im_X5_isPoster : Cond.instanceMethod yX5_isPoster ∈ Tb := tb_of (i := 259) (by decide +kernel) (by decide +kernel)
theorem co_X5_isPoster : Cond.code yX5_isPoster cX5_isPoster 2 (some .boolean) ∈ Tb := tb_of (i := 260) (by decide +kernel) (by decide +kernel)
theorem mkX5_65 : Cond.methodLink RX5 65 yX4_seenCellsOf ∈ Tb := tb_of (i := 261) (by decide +kernel) (by decide +kernel)
theorem im_X4_seenCellsOf : Cond.instanceMethod yX4_seenCellsOf ∈ Tb := tb_of (i := 262) (by decide +kernel) (by decide +kernel)
theorem se_X4_seenCellsOf : Cond.selects RX4 yX4_seenCellsOf yX4_seenCellsOf ∈ Tb := tb_of (i := 263) (by decide +kernel) (by decide +kernel)
theorem co_X4_seenCellsOf : Cond.code yX4_seenCellsOf cX4_seenCellsOf 4 (some .int) ∈ Tb := tb_of (i := 264) (by decide +kernel) (by decide +kernel)
theorem mkX4_56 : Cond.methodLink RX4 56 yX4_seenAt ∈ Tb := tb_of (i := 265) (by decide +kernel) (by decide +kernel)
theorem im_X4_seenAt : Cond.instanceMethod yX4_seenAt ∈ Tb := tb_of (i := 266) (by decide +kernel) (by decide +kernel)
theorem se_X4_seenAt : Cond.selects RX4 yX4_seenAt yX4_seenAt ∈ Tb := tb_of (i := 267) (by decide +kernel) (by decide +kernel)
theorem co_X4_seenAt : Cond.code yX4_seenAt cX4_seenAt 2 (some .int) ∈ Tb := tb_of (i := 268) (by decide +kernel) (by decide +kernel)
theorem mkX4_81 : Cond.methodLink RX4 81 yX4_seenWithout ∈ Tb := tb_of (i := 269) (by decide +kernel) (by decide +kernel)
theorem im_X4_seenWithout : Cond.instanceMethod yX4_seenWithout ∈ Tb := tb_of (i := 271) (by decide +kernel) (by decide +kernel)
theorem co_X4_seenWithout : Cond.code yX4_seenWithout cX4_seenWithout 4 (some .int) ∈ Tb := tb_of (i := 272) (by decide +kernel) (by decide +kernel)
theorem mkX5_69 : Cond.methodLink RX5 69 yX4_takeDown ∈ Tb := tb_of (i := 273) (by decide +kernel) (by decide +kernel)
theorem im_X4_takeDown : Cond.instanceMethod yX4_takeDown ∈ Tb := tb_of (i := 274) (by decide +kernel) (by decide +kernel)
theorem se_X4_takeDown : Cond.selects RX4 yX4_takeDown yX4_takeDown ∈ Tb := tb_of (i := 275) (by decide +kernel) (by decide +kernel)
theorem co_X4_takeDown : Cond.code yX4_takeDown cX4_takeDown 4 none ∈ Tb := tb_of (i := 276) (by decide +kernel) (by decide +kernel)
theorem mkL_23 : Cond.methodLink RL 23 yX5_coat ∈ Tb := tb_of (i := 277) (by decide +kernel) (by decide +kernel)
theorem im_X5_coat : Cond.instanceMethod yX5_coat ∈ Tb := tb_of (i := 278) (by decide +kernel) (by decide +kernel)
theorem se_X5_coat : Cond.selects RX5 yX5_coat yX5_coat ∈ Tb := tb_of (i := 279) (by decide +kernel) (by decide +kernel)
theorem co_X5_coat : Cond.code yX5_coat cX5_coat 3 (some .int) ∈ Tb := tb_of (i := 280) (by decide +kernel) (by decide +kernel)
theorem mkX5_73 : Cond.methodLink RX5 73 yX4_coatSeenCells ∈ Tb := tb_of (i := 281) (by decide +kernel) (by decide +kernel)
theorem im_X4_coatSeenCells : Cond.instanceMethod yX4_coatSeenCells ∈ Tb := tb_of (i := 282) (by decide +kernel) (by decide +kernel)
theorem se_X4_coatSeenCells : Cond.selects RX4 yX4_coatSeenCells yX4_coatSeenCells ∈ Tb := tb_of (i := 283) (by decide +kernel) (by decide +kernel)
theorem co_X4_coatSeenCells : Cond.code yX4_coatSeenCells cX4_coatSeenCells 6 (some .int) ∈ Tb := tb_of (i := 284) (by decide +kernel) (by decide +kernel)
theorem mkX4_60 : Cond.methodLink RX4 60 yJ9_min_7cf53 ∈ Tb := tb_of (i := 285) (by decide +kernel) (by decide +kernel)
theorem st_J9_min_7cf53 : Cond.static yJ9_min_7cf53 ∈ Tb := tb_of (i := 286) (by decide +kernel) (by decide +kernel)
theorem co_J9_min_7cf53 : Cond.code yJ9_min_7cf53 cJ9_min_7cf53 2 (some .int) ∈ Tb := tb_of (i := 287) (by decide +kernel) (by decide +kernel)
theorem mkL_28 : Cond.methodLink RL 28 yX5_scrape ∈ Tb := tb_of (i := 288) (by decide +kernel) (by decide +kernel)
theorem im_X5_scrape : Cond.instanceMethod yX5_scrape ∈ Tb := tb_of (i := 289) (by decide +kernel) (by decide +kernel)
theorem se_X5_scrape : Cond.selects RX5 yX5_scrape yX5_scrape ∈ Tb := tb_of (i := 290) (by decide +kernel) (by decide +kernel)
theorem co_X5_scrape : Cond.code yX5_scrape cX5_scrape 5 (some .int) ∈ Tb := tb_of (i := 291) (by decide +kernel) (by decide +kernel)
theorem mkX5_77 : Cond.methodLink RX5 77 yX5_cellAt ∈ Tb := tb_of (i := 292) (by decide +kernel) (by decide +kernel)
theorem st_X5_cellAt : Cond.static yX5_cellAt ∈ Tb := tb_of (i := 293) (by decide +kernel) (by decide +kernel)
theorem co_X5_cellAt : Cond.code yX5_cellAt cX5_cellAt 2 (some .int) ∈ Tb := tb_of (i := 294) (by decide +kernel) (by decide +kernel)
theorem mkX5_80 : Cond.methodLink RX5 80 yX4_priceAt ∈ Tb := tb_of (i := 295) (by decide +kernel) (by decide +kernel)
theorem im_X4_priceAt : Cond.instanceMethod yX4_priceAt ∈ Tb := tb_of (i := 296) (by decide +kernel) (by decide +kernel)
theorem se_X4_priceAt : Cond.selects RX4 yX4_priceAt yX4_priceAt ∈ Tb := tb_of (i := 297) (by decide +kernel) (by decide +kernel)
theorem co_X4_priceAt : Cond.code yX4_priceAt cX4_priceAt 3 (some .int) ∈ Tb := tb_of (i := 298) (by decide +kernel) (by decide +kernel)
theorem mkX5_83 : Cond.methodLink RX5 83 yX4_scrapeAt ∈ Tb := tb_of (i := 299) (by decide +kernel) (by decide +kernel)
theorem im_X4_scrapeAt : Cond.instanceMethod yX4_scrapeAt ∈ Tb := tb_of (i := 300) (by decide +kernel) (by decide +kernel)
theorem se_X4_scrapeAt : Cond.selects RX4 yX4_scrapeAt yX4_scrapeAt ∈ Tb := tb_of (i := 301) (by decide +kernel) (by decide +kernel)
theorem co_X4_scrapeAt : Cond.code yX4_scrapeAt cX4_scrapeAt 8 (some .int) ∈ Tb := tb_of (i := 302) (by decide +kernel) (by decide +kernel)
theorem mkL_33 : Cond.methodLink RL 33 yX5_sun ∈ Tb := tb_of (i := 303) (by decide +kernel) (by decide +kernel)
theorem im_X5_sun : Cond.instanceMethod yX5_sun ∈ Tb := tb_of (i := 304) (by decide +kernel) (by decide +kernel)
theorem se_X5_sun : Cond.selects RX5 yX5_sun yX5_sun ∈ Tb := tb_of (i := 305) (by decide +kernel) (by decide +kernel)
theorem co_X5_sun : Cond.code yX5_sun cX5_sun 4 (some .int) ∈ Tb := tb_of (i := 306) (by decide +kernel) (by decide +kernel)
theorem mkL_37 : Cond.methodLink RL 37 yX5_buy ∈ Tb := tb_of (i := 307) (by decide +kernel) (by decide +kernel)
theorem im_X5_buy : Cond.instanceMethod yX5_buy ∈ Tb := tb_of (i := 308) (by decide +kernel) (by decide +kernel)
theorem se_X5_buy : Cond.selects RX5 yX5_buy yX5_buy ∈ Tb := tb_of (i := 309) (by decide +kernel) (by decide +kernel)
theorem co_X5_buy : Cond.code yX5_buy cX5_buy 6 (some .int) ∈ Tb := tb_of (i := 310) (by decide +kernel) (by decide +kernel)
theorem mkX5_93 : Cond.methodLink RX5 93 yX4_sellAt ∈ Tb := tb_of (i := 311) (by decide +kernel) (by decide +kernel)
theorem im_X4_sellAt : Cond.instanceMethod yX4_sellAt ∈ Tb := tb_of (i := 312) (by decide +kernel) (by decide +kernel)
theorem se_X4_sellAt : Cond.selects RX4 yX4_sellAt yX4_sellAt ∈ Tb := tb_of (i := 313) (by decide +kernel) (by decide +kernel)
theorem co_X4_sellAt : Cond.code yX4_sellAt cX4_sellAt 5 (some .boolean) ∈ Tb := tb_of (i := 314) (by decide +kernel) (by decide +kernel)
theorem mkL_41 : Cond.methodLink RL 41 yX5_buyAll ∈ Tb := tb_of (i := 315) (by decide +kernel) (by decide +kernel)
theorem im_X5_buyAll : Cond.instanceMethod yX5_buyAll ∈ Tb := tb_of (i := 316) (by decide +kernel) (by decide +kernel)
theorem se_X5_buyAll : Cond.selects RX5 yX5_buyAll yX5_buyAll ∈ Tb := tb_of (i := 317) (by decide +kernel) (by decide +kernel)
theorem co_X5_buyAll : Cond.code yX5_buyAll cX5_buyAll 2 (some .int) ∈ Tb := tb_of (i := 318) (by decide +kernel) (by decide +kernel)
theorem mkX5_96 : Cond.methodLink RX5 96 yX2_firstFault ∈ Tb := tb_of (i := 319) (by decide +kernel) (by decide +kernel)
theorem im_X2_firstFault : Cond.instanceMethod yX2_firstFault ∈ Tb := tb_of (i := 320) (by decide +kernel) (by decide +kernel)
theorem se_X2_firstFault : Cond.selects RX2 yX2_firstFault yX2_firstFault ∈ Tb := tb_of (i := 321) (by decide +kernel) (by decide +kernel)
theorem co_X2_firstFault : Cond.code yX2_firstFault cX2_firstFault 2 (some .int) ∈ Tb := tb_of (i := 322) (by decide +kernel) (by decide +kernel)
theorem mkX2_28 : Cond.methodLink RX2 28 yX0_begin ∈ Tb := tb_of (i := 323) (by decide +kernel) (by decide +kernel)
theorem im_X0_begin : Cond.instanceMethod yX0_begin ∈ Tb := tb_of (i := 324) (by decide +kernel) (by decide +kernel)
theorem se_X0_begin : Cond.selects RX0 yX0_begin yX0_begin ∈ Tb := tb_of (i := 325) (by decide +kernel) (by decide +kernel)
theorem co_X0_begin : Cond.code yX0_begin cX0_begin 1 none ∈ Tb := tb_of (i := 326) (by decide +kernel) (by decide +kernel)
theorem mkX2_31 : Cond.methodLink RX2 31 yX0_takes ∈ Tb := tb_of (i := 327) (by decide +kernel) (by decide +kernel)
theorem im_X0_takes : Cond.instanceMethod yX0_takes ∈ Tb := tb_of (i := 328) (by decide +kernel) (by decide +kernel)
theorem se_X0_takes : Cond.selects RX0 yX0_takes yX0_takes ∈ Tb := tb_of (i := 329) (by decide +kernel) (by decide +kernel)
theorem co_X0_takes : Cond.code yX0_takes cX0_takes 3 (some .boolean) ∈ Tb := tb_of (i := 330) (by decide +kernel) (by decide +kernel)
theorem mkX0_28 : Cond.methodLink RX0 28 yX0_endsBuyer ∈ Tb := tb_of (i := 332) (by decide +kernel) (by decide +kernel)
theorem im_X0_endsBuyer : Cond.instanceMethod yX0_endsBuyer ∈ Tb := tb_of (i := 334) (by decide +kernel) (by decide +kernel)
theorem co_X0_endsBuyer : Cond.code yX0_endsBuyer cX0_endsBuyer 1 (some .boolean) ∈ Tb := tb_of (i := 335) (by decide +kernel) (by decide +kernel)
theorem mkX0_32 : Cond.methodLink RX0 32 yX0_lengthensPurse ∈ Tb := tb_of (i := 336) (by decide +kernel) (by decide +kernel)
theorem im_X0_lengthensPurse : Cond.instanceMethod yX0_lengthensPurse ∈ Tb := tb_of (i := 338) (by decide +kernel) (by decide +kernel)
theorem co_X0_lengthensPurse : Cond.code yX0_lengthensPurse cX0_lengthensPurse 2 (some .boolean) ∈ Tb := tb_of (i := 339) (by decide +kernel) (by decide +kernel)
theorem mkX2_35 : Cond.methodLink RX2 35 yX0_mayEnd ∈ Tb := tb_of (i := 340) (by decide +kernel) (by decide +kernel)
theorem im_X0_mayEnd : Cond.instanceMethod yX0_mayEnd ∈ Tb := tb_of (i := 341) (by decide +kernel) (by decide +kernel)
theorem se_X0_mayEnd : Cond.selects RX0 yX0_mayEnd yX0_mayEnd ∈ Tb := tb_of (i := 342) (by decide +kernel) (by decide +kernel)
theorem co_X0_mayEnd : Cond.code yX0_mayEnd cX0_mayEnd 1 (some .boolean) ∈ Tb := tb_of (i := 343) (by decide +kernel) (by decide +kernel)
theorem mkX5_100 : Cond.methodLink RX5 100 yX2_sendBuyersTo ∈ Tb := tb_of (i := 344) (by decide +kernel) (by decide +kernel)
theorem im_X2_sendBuyersTo : Cond.instanceMethod yX2_sendBuyersTo ∈ Tb := tb_of (i := 345) (by decide +kernel) (by decide +kernel)
theorem se_X2_sendBuyersTo : Cond.selects RX2 yX2_sendBuyersTo yX2_sendBuyersTo ∈ Tb := tb_of (i := 346) (by decide +kernel) (by decide +kernel)
theorem co_X2_sendBuyersTo : Cond.code yX2_sendBuyersTo cX2_sendBuyersTo 5 (some .int) ∈ Tb := tb_of (i := 347) (by decide +kernel) (by decide +kernel)
theorem mkX2_39 : Cond.methodLink RX2 39 yX0_pays ∈ Tb := tb_of (i := 348) (by decide +kernel) (by decide +kernel)
theorem im_X0_pays : Cond.instanceMethod yX0_pays ∈ Tb := tb_of (i := 349) (by decide +kernel) (by decide +kernel)
theorem se_X0_pays : Cond.selects RX0 yX0_pays yX0_pays ∈ Tb := tb_of (i := 350) (by decide +kernel) (by decide +kernel)
theorem co_X0_pays : Cond.code yX0_pays cX0_pays 2 (some .boolean) ∈ Tb := tb_of (i := 351) (by decide +kernel) (by decide +kernel)
theorem mkX0_44 : Cond.methodLink RX0 44 yX4_sellAt ∈ Tb := tb_of (i := 354) (by decide +kernel) (by decide +kernel)
theorem mkL_46 : Cond.methodLink RL 46 yX5_pass ∈ Tb := tb_of (i := 355) (by decide +kernel) (by decide +kernel)
theorem im_X5_pass : Cond.instanceMethod yX5_pass ∈ Tb := tb_of (i := 356) (by decide +kernel) (by decide +kernel)
theorem se_X5_pass : Cond.selects RX5 yX5_pass yX5_pass ∈ Tb := tb_of (i := 357) (by decide +kernel) (by decide +kernel)
theorem co_X5_pass : Cond.code yX5_pass cX5_pass 2 (some .int) ∈ Tb := tb_of (i := 358) (by decide +kernel) (by decide +kernel)
theorem mkX5_110 : Cond.methodLink RX5 110 yX4_fade ∈ Tb := tb_of (i := 359) (by decide +kernel) (by decide +kernel)
theorem im_X4_fade : Cond.instanceMethod yX4_fade ∈ Tb := tb_of (i := 360) (by decide +kernel) (by decide +kernel)
theorem se_X4_fade : Cond.selects RX4 yX4_fade yX4_fade ∈ Tb := tb_of (i := 361) (by decide +kernel) (by decide +kernel)
theorem co_X4_fade : Cond.code yX4_fade cX4_fade 4 (some .int) ∈ Tb := tb_of (i := 362) (by decide +kernel) (by decide +kernel)
theorem mkX4_71 : Cond.methodLink RX4 71 yX4_fadeAt ∈ Tb := tb_of (i := 363) (by decide +kernel) (by decide +kernel)
theorem im_X4_fadeAt : Cond.instanceMethod yX4_fadeAt ∈ Tb := tb_of (i := 364) (by decide +kernel) (by decide +kernel)
theorem se_X4_fadeAt : Cond.selects RX4 yX4_fadeAt yX4_fadeAt ∈ Tb := tb_of (i := 365) (by decide +kernel) (by decide +kernel)
theorem co_X4_fadeAt : Cond.code yX4_fadeAt cX4_fadeAt 8 (some .int) ∈ Tb := tb_of (i := 366) (by decide +kernel) (by decide +kernel)
theorem mkX4_74 : Cond.methodLink RX4 74 yX4_daysToClear ∈ Tb := tb_of (i := 367) (by decide +kernel) (by decide +kernel)
theorem im_X4_daysToClear : Cond.instanceMethod yX4_daysToClear ∈ Tb := tb_of (i := 369) (by decide +kernel) (by decide +kernel)
theorem co_X4_daysToClear : Cond.code yX4_daysToClear cX4_daysToClear 5 (some .int) ∈ Tb := tb_of (i := 370) (by decide +kernel) (by decide +kernel)
theorem kcX4_77 : Cond.constant RX4 77 1000000 ∈ Tb := tb_of (i := 371) (by decide +kernel) (by decide +kernel)
theorem mkL_50 : Cond.methodLink RL 50 yX5_cell ∈ Tb := tb_of (i := 372) (by decide +kernel) (by decide +kernel)
theorem im_X5_cell : Cond.instanceMethod yX5_cell ∈ Tb := tb_of (i := 373) (by decide +kernel) (by decide +kernel)
theorem se_X5_cell : Cond.selects RX5 yX5_cell yX5_cell ∈ Tb := tb_of (i := 374) (by decide +kernel) (by decide +kernel)
theorem co_X5_cell : Cond.code yX5_cell cX5_cell 5 (some .int) ∈ Tb := tb_of (i := 375) (by decide +kernel) (by decide +kernel)
theorem mkX5_113 : Cond.methodLink RX5 113 yX4_seenAt ∈ Tb := tb_of (i := 376) (by decide +kernel) (by decide +kernel)
theorem mkX5_116 : Cond.methodLink RX5 116 yX4_seenVarnishAt ∈ Tb := tb_of (i := 377) (by decide +kernel) (by decide +kernel)
theorem im_X4_seenVarnishAt : Cond.instanceMethod yX4_seenVarnishAt ∈ Tb := tb_of (i := 378) (by decide +kernel) (by decide +kernel)
theorem se_X4_seenVarnishAt : Cond.selects RX4 yX4_seenVarnishAt yX4_seenVarnishAt ∈ Tb := tb_of (i := 379) (by decide +kernel) (by decide +kernel)
theorem co_X4_seenVarnishAt : Cond.code yX4_seenVarnishAt cX4_seenVarnishAt 3 (some .int) ∈ Tb := tb_of (i := 380) (by decide +kernel) (by decide +kernel)
theorem mkX5_119 : Cond.methodLink RX5 119 yX4_postersAt ∈ Tb := tb_of (i := 381) (by decide +kernel) (by decide +kernel)
theorem im_X4_postersAt : Cond.instanceMethod yX4_postersAt ∈ Tb := tb_of (i := 382) (by decide +kernel) (by decide +kernel)
theorem se_X4_postersAt : Cond.selects RX4 yX4_postersAt yX4_postersAt ∈ Tb := tb_of (i := 383) (by decide +kernel) (by decide +kernel)
theorem co_X4_postersAt : Cond.code yX4_postersAt cX4_postersAt 5 (some .int) ∈ Tb := tb_of (i := 384) (by decide +kernel) (by decide +kernel)
theorem mkX4_84 : Cond.methodLink RX4 84 yX3_liesAt ∈ Tb := tb_of (i := 385) (by decide +kernel) (by decide +kernel)
theorem mkX5_122 : Cond.methodLink RX5 122 yX4_notClearAt ∈ Tb := tb_of (i := 386) (by decide +kernel) (by decide +kernel)
theorem im_X4_notClearAt : Cond.instanceMethod yX4_notClearAt ∈ Tb := tb_of (i := 387) (by decide +kernel) (by decide +kernel)
theorem se_X4_notClearAt : Cond.selects RX4 yX4_notClearAt yX4_notClearAt ∈ Tb := tb_of (i := 388) (by decide +kernel) (by decide +kernel)
theorem co_X4_notClearAt : Cond.code yX4_notClearAt cX4_notClearAt 4 (some .int) ∈ Tb := tb_of (i := 389) (by decide +kernel) (by decide +kernel)
theorem mkL_54 : Cond.methodLink RL 54 yX5_poster ∈ Tb := tb_of (i := 390) (by decide +kernel) (by decide +kernel)
theorem im_X5_poster : Cond.instanceMethod yX5_poster ∈ Tb := tb_of (i := 391) (by decide +kernel) (by decide +kernel)
theorem se_X5_poster : Cond.selects RX5 yX5_poster yX5_poster ∈ Tb := tb_of (i := 392) (by decide +kernel) (by decide +kernel)
theorem co_X5_poster : Cond.code yX5_poster cX5_poster 4 (some .int) ∈ Tb := tb_of (i := 393) (by decide +kernel) (by decide +kernel)
theorem mkX5_146 : Cond.methodLink RX5 146 yX3_clearCells ∈ Tb := tb_of (i := 394) (by decide +kernel) (by decide +kernel)
theorem im_X3_clearCells : Cond.instanceMethod yX3_clearCells ∈ Tb := tb_of (i := 395) (by decide +kernel) (by decide +kernel)
theorem se_X3_clearCells : Cond.selects RX3 yX3_clearCells yX3_clearCells ∈ Tb := tb_of (i := 396) (by decide +kernel) (by decide +kernel)
theorem co_X3_clearCells : Cond.code yX3_clearCells cX3_clearCells 1 (some .int) ∈ Tb := tb_of (i := 397) (by decide +kernel) (by decide +kernel)
theorem mkX3_51 : Cond.methodLink RX3 51 yX3_notClearCells ∈ Tb := tb_of (i := 398) (by decide +kernel) (by decide +kernel)
theorem im_X3_notClearCells : Cond.instanceMethod yX3_notClearCells ∈ Tb := tb_of (i := 399) (by decide +kernel) (by decide +kernel)
theorem se_X3_notClearCells : Cond.selects RX3 yX3_notClearCells yX3_notClearCells ∈ Tb := tb_of (i := 400) (by decide +kernel) (by decide +kernel)
theorem co_X3_notClearCells : Cond.code yX3_notClearCells cX3_notClearCells 3 (some .int) ∈ Tb := tb_of (i := 401) (by decide +kernel) (by decide +kernel)
theorem mkX5_149 : Cond.methodLink RX5 149 yX3_notClearCells ∈ Tb := tb_of (i := 402) (by decide +kernel) (by decide +kernel)
theorem mkX5_158 : Cond.methodLink RX5 158 yX3_allVarnish ∈ Tb := tb_of (i := 403) (by decide +kernel) (by decide +kernel)
theorem im_X3_allVarnish : Cond.instanceMethod yX3_allVarnish ∈ Tb := tb_of (i := 404) (by decide +kernel) (by decide +kernel)
theorem se_X3_allVarnish : Cond.selects RX3 yX3_allVarnish yX3_allVarnish ∈ Tb := tb_of (i := 405) (by decide +kernel) (by decide +kernel)
theorem co_X3_allVarnish : Cond.code yX3_allVarnish cX3_allVarnish 3 (some .int) ∈ Tb := tb_of (i := 406) (by decide +kernel) (by decide +kernel)
theorem mkL_58 : Cond.methodLink RL 58 yX5_varnish ∈ Tb := tb_of (i := 407) (by decide +kernel) (by decide +kernel)
theorem im_X5_varnish : Cond.instanceMethod yX5_varnish ∈ Tb := tb_of (i := 408) (by decide +kernel) (by decide +kernel)
theorem se_X5_varnish : Cond.selects RX5 yX5_varnish yX5_varnish ∈ Tb := tb_of (i := 409) (by decide +kernel) (by decide +kernel)
theorem co_X5_varnish : Cond.code yX5_varnish cX5_varnish 5 (some .int) ∈ Tb := tb_of (i := 410) (by decide +kernel) (by decide +kernel)
theorem mkX5_161 : Cond.methodLink RX5 161 yX3_liesAt ∈ Tb := tb_of (i := 411) (by decide +kernel) (by decide +kernel)
theorem mkL_62 : Cond.methodLink RL 62 yX5_count ∈ Tb := tb_of (i := 412) (by decide +kernel) (by decide +kernel)
theorem im_X5_count : Cond.instanceMethod yX5_count ∈ Tb := tb_of (i := 413) (by decide +kernel) (by decide +kernel)
theorem se_X5_count : Cond.selects RX5 yX5_count yX5_count ∈ Tb := tb_of (i := 414) (by decide +kernel) (by decide +kernel)
theorem co_X5_count : Cond.code yX5_count cX5_count 2 (some .int) ∈ Tb := tb_of (i := 415) (by decide +kernel) (by decide +kernel)
theorem mkX5_167 : Cond.methodLink RX5 167 yX4_cellsWithPrice ∈ Tb := tb_of (i := 416) (by decide +kernel) (by decide +kernel)
theorem im_X4_cellsWithPrice : Cond.instanceMethod yX4_cellsWithPrice ∈ Tb := tb_of (i := 417) (by decide +kernel) (by decide +kernel)
theorem se_X4_cellsWithPrice : Cond.selects RX4 yX4_cellsWithPrice yX4_cellsWithPrice ∈ Tb := tb_of (i := 418) (by decide +kernel) (by decide +kernel)
theorem co_X4_cellsWithPrice : Cond.code yX4_cellsWithPrice cX4_cellsWithPrice 3 (some .int) ∈ Tb := tb_of (i := 419) (by decide +kernel) (by decide +kernel)
theorem mkX5_170 : Cond.methodLink RX5 170 yX4_unlikePrices ∈ Tb := tb_of (i := 420) (by decide +kernel) (by decide +kernel)
theorem im_X4_unlikePrices : Cond.instanceMethod yX4_unlikePrices ∈ Tb := tb_of (i := 421) (by decide +kernel) (by decide +kernel)
theorem se_X4_unlikePrices : Cond.selects RX4 yX4_unlikePrices yX4_unlikePrices ∈ Tb := tb_of (i := 422) (by decide +kernel) (by decide +kernel)
theorem co_X4_unlikePrices : Cond.code yX4_unlikePrices cX4_unlikePrices 3 (some .int) ∈ Tb := tb_of (i := 423) (by decide +kernel) (by decide +kernel)
theorem mkX4_88 : Cond.methodLink RX4 88 yX4_seenCellsOf ∈ Tb := tb_of (i := 424) (by decide +kernel) (by decide +kernel)
theorem mkX4_91 : Cond.methodLink RX4 91 yX4_isPriceSeenBelow ∈ Tb := tb_of (i := 425) (by decide +kernel) (by decide +kernel)
theorem im_X4_isPriceSeenBelow : Cond.instanceMethod yX4_isPriceSeenBelow ∈ Tb := tb_of (i := 427) (by decide +kernel) (by decide +kernel)
theorem co_X4_isPriceSeenBelow : Cond.code yX4_isPriceSeenBelow cX4_isPriceSeenBelow 3 (some .boolean) ∈ Tb := tb_of (i := 428) (by decide +kernel) (by decide +kernel)
theorem mkX5_173 : Cond.methodLink RX5 173 yX4_greatestPrice ∈ Tb := tb_of (i := 429) (by decide +kernel) (by decide +kernel)
theorem im_X4_greatestPrice : Cond.instanceMethod yX4_greatestPrice ∈ Tb := tb_of (i := 430) (by decide +kernel) (by decide +kernel)
theorem se_X4_greatestPrice : Cond.selects RX4 yX4_greatestPrice yX4_greatestPrice ∈ Tb := tb_of (i := 431) (by decide +kernel) (by decide +kernel)
theorem co_X4_greatestPrice : Cond.code yX4_greatestPrice cX4_greatestPrice 3 (some .int) ∈ Tb := tb_of (i := 432) (by decide +kernel) (by decide +kernel)
theorem mkX4_78 : Cond.methodLink RX4 78 yX4_priceAt ∈ Tb := tb_of (i := 433) (by decide +kernel) (by decide +kernel)
theorem mkX4_95 : Cond.methodLink RX4 95 yJ9_max_7cf53 ∈ Tb := tb_of (i := 434) (by decide +kernel) (by decide +kernel)
theorem st_J9_max_7cf53 : Cond.static yJ9_max_7cf53 ∈ Tb := tb_of (i := 435) (by decide +kernel) (by decide +kernel)
theorem co_J9_max_7cf53 : Cond.code yJ9_max_7cf53 cJ9_max_7cf53 2 (some .int) ∈ Tb := tb_of (i := 436) (by decide +kernel) (by decide +kernel)
theorem mkX5_176 : Cond.methodLink RX5 176 yX4_sumWithout ∈ Tb := tb_of (i := 437) (by decide +kernel) (by decide +kernel)
theorem im_X4_sumWithout : Cond.instanceMethod yX4_sumWithout ∈ Tb := tb_of (i := 438) (by decide +kernel) (by decide +kernel)
theorem se_X4_sumWithout : Cond.selects RX4 yX4_sumWithout yX4_sumWithout ∈ Tb := tb_of (i := 439) (by decide +kernel) (by decide +kernel)
theorem co_X4_sumWithout : Cond.code yX4_sumWithout cX4_sumWithout 5 (some .int) ∈ Tb := tb_of (i := 440) (by decide +kernel) (by decide +kernel)
theorem mkX5_179 : Cond.methodLink RX5 179 yX4_postersUnseen ∈ Tb := tb_of (i := 441) (by decide +kernel) (by decide +kernel)
theorem im_X4_postersUnseen : Cond.instanceMethod yX4_postersUnseen ∈ Tb := tb_of (i := 442) (by decide +kernel) (by decide +kernel)
theorem se_X4_postersUnseen : Cond.selects RX4 yX4_postersUnseen yX4_postersUnseen ∈ Tb := tb_of (i := 443) (by decide +kernel) (by decide +kernel)
theorem co_X4_postersUnseen : Cond.code yX4_postersUnseen cX4_postersUnseen 3 (some .int) ∈ Tb := tb_of (i := 444) (by decide +kernel) (by decide +kernel)
theorem mkX5_182 : Cond.methodLink RX5 182 yX4_postersAllClear ∈ Tb := tb_of (i := 445) (by decide +kernel) (by decide +kernel)
theorem im_X4_postersAllClear : Cond.instanceMethod yX4_postersAllClear ∈ Tb := tb_of (i := 446) (by decide +kernel) (by decide +kernel)
theorem se_X4_postersAllClear : Cond.selects RX4 yX4_postersAllClear yX4_postersAllClear ∈ Tb := tb_of (i := 447) (by decide +kernel) (by decide +kernel)
theorem co_X4_postersAllClear : Cond.code yX4_postersAllClear cX4_postersAllClear 3 (some .int) ∈ Tb := tb_of (i := 448) (by decide +kernel) (by decide +kernel)
theorem mkX4_98 : Cond.methodLink RX4 98 yX3_notClearCells ∈ Tb := tb_of (i := 449) (by decide +kernel) (by decide +kernel)
theorem mkL_66 : Cond.methodLink RL 66 yX5_sunOf ∈ Tb := tb_of (i := 450) (by decide +kernel) (by decide +kernel)
theorem im_X5_sunOf : Cond.instanceMethod yX5_sunOf ∈ Tb := tb_of (i := 451) (by decide +kernel) (by decide +kernel)
theorem se_X5_sunOf : Cond.selects RX5 yX5_sunOf yX5_sunOf ∈ Tb := tb_of (i := 452) (by decide +kernel) (by decide +kernel)
theorem co_X5_sunOf : Cond.code yX5_sunOf cX5_sunOf 2 (some .int) ∈ Tb := tb_of (i := 453) (by decide +kernel) (by decide +kernel)
theorem mkL_70 : Cond.methodLink RL 70 yX5_ifPassed ∈ Tb := tb_of (i := 454) (by decide +kernel) (by decide +kernel)
theorem im_X5_ifPassed : Cond.instanceMethod yX5_ifPassed ∈ Tb := tb_of (i := 455) (by decide +kernel) (by decide +kernel)
theorem se_X5_ifPassed : Cond.selects RX5 yX5_ifPassed yX5_ifPassed ∈ Tb := tb_of (i := 456) (by decide +kernel) (by decide +kernel)
theorem co_X5_ifPassed : Cond.code yX5_ifPassed cX5_ifPassed 4 (some .int) ∈ Tb := tb_of (i := 457) (by decide +kernel) (by decide +kernel)
theorem mkX5_190 : Cond.methodLink RX5 190 yX4_copyFrom ∈ Tb := tb_of (i := 458) (by decide +kernel) (by decide +kernel)
theorem mkX5_193 : Cond.methodLink RX5 193 yX4_pricesUnlike ∈ Tb := tb_of (i := 459) (by decide +kernel) (by decide +kernel)
theorem im_X4_pricesUnlike : Cond.instanceMethod yX4_pricesUnlike ∈ Tb := tb_of (i := 460) (by decide +kernel) (by decide +kernel)
theorem se_X4_pricesUnlike : Cond.selects RX4 yX4_pricesUnlike yX4_pricesUnlike ∈ Tb := tb_of (i := 461) (by decide +kernel) (by decide +kernel)
theorem co_X4_pricesUnlike : Cond.code yX4_pricesUnlike cX4_pricesUnlike 4 (some .int) ∈ Tb := tb_of (i := 462) (by decide +kernel) (by decide +kernel)
theorem mkL_74 : Cond.methodLink RL 74 yX5_willShow ∈ Tb := tb_of (i := 463) (by decide +kernel) (by decide +kernel)
theorem im_X5_willShow : Cond.instanceMethod yX5_willShow ∈ Tb := tb_of (i := 464) (by decide +kernel) (by decide +kernel)
theorem se_X5_willShow : Cond.selects RX5 yX5_willShow yX5_willShow ∈ Tb := tb_of (i := 465) (by decide +kernel) (by decide +kernel)
theorem co_X5_willShow : Cond.code yX5_willShow cX5_willShow 5 (some .int) ∈ Tb := tb_of (i := 466) (by decide +kernel) (by decide +kernel)
theorem mkX5_196 : Cond.methodLink RX5 196 yX4_fadeAt ∈ Tb := tb_of (i := 467) (by decide +kernel) (by decide +kernel)
theorem mkL_78 : Cond.methodLink RL 78 yX5_nextChange ∈ Tb := tb_of (i := 468) (by decide +kernel) (by decide +kernel)
theorem im_X5_nextChange : Cond.instanceMethod yX5_nextChange ∈ Tb := tb_of (i := 469) (by decide +kernel) (by decide +kernel)
theorem se_X5_nextChange : Cond.selects RX5 yX5_nextChange yX5_nextChange ∈ Tb := tb_of (i := 470) (by decide +kernel) (by decide +kernel)
theorem co_X5_nextChange : Cond.code yX5_nextChange cX5_nextChange 3 (some .int) ∈ Tb := tb_of (i := 471) (by decide +kernel) (by decide +kernel)
theorem kcX5_199 : Cond.constant RX5 199 1000000 ∈ Tb := tb_of (i := 472) (by decide +kernel) (by decide +kernel)
theorem mkX5_200 : Cond.methodLink RX5 200 yX4_daysToOtherPrice ∈ Tb := tb_of (i := 473) (by decide +kernel) (by decide +kernel)
theorem im_X4_daysToOtherPrice : Cond.instanceMethod yX4_daysToOtherPrice ∈ Tb := tb_of (i := 474) (by decide +kernel) (by decide +kernel)
theorem se_X4_daysToOtherPrice : Cond.selects RX4 yX4_daysToOtherPrice yX4_daysToOtherPrice ∈ Tb := tb_of (i := 475) (by decide +kernel) (by decide +kernel)
theorem co_X4_daysToOtherPrice : Cond.code yX4_daysToOtherPrice cX4_daysToOtherPrice 5 (some .int) ∈ Tb := tb_of (i := 476) (by decide +kernel) (by decide +kernel)
theorem mkX5_203 : Cond.methodLink RX5 203 yJ9_min_7cf53 ∈ Tb := tb_of (i := 477) (by decide +kernel) (by decide +kernel)
theorem mkL_82 : Cond.methodLink RL 82 yX5_comesToLight ∈ Tb := tb_of (i := 478) (by decide +kernel) (by decide +kernel)
theorem im_X5_comesToLight : Cond.instanceMethod yX5_comesToLight ∈ Tb := tb_of (i := 479) (by decide +kernel) (by decide +kernel)
theorem se_X5_comesToLight : Cond.selects RX5 yX5_comesToLight yX5_comesToLight ∈ Tb := tb_of (i := 480) (by decide +kernel) (by decide +kernel)
theorem co_X5_comesToLight : Cond.code yX5_comesToLight cX5_comesToLight 4 (some .int) ∈ Tb := tb_of (i := 481) (by decide +kernel) (by decide +kernel)
theorem mkX5_208 : Cond.methodLink RX5 208 yX4_daysToSee ∈ Tb := tb_of (i := 482) (by decide +kernel) (by decide +kernel)
theorem im_X4_daysToSee : Cond.instanceMethod yX4_daysToSee ∈ Tb := tb_of (i := 483) (by decide +kernel) (by decide +kernel)
theorem se_X4_daysToSee : Cond.selects RX4 yX4_daysToSee yX4_daysToSee ∈ Tb := tb_of (i := 484) (by decide +kernel) (by decide +kernel)
theorem co_X4_daysToSee : Cond.code yX4_daysToSee cX4_daysToSee 5 (some .int) ∈ Tb := tb_of (i := 485) (by decide +kernel) (by decide +kernel)
theorem mkL_86 : Cond.methodLink RL 86 yX5_bestTorn ∈ Tb := tb_of (i := 486) (by decide +kernel) (by decide +kernel)
theorem im_X5_bestTorn : Cond.instanceMethod yX5_bestTorn ∈ Tb := tb_of (i := 487) (by decide +kernel) (by decide +kernel)
theorem se_X5_bestTorn : Cond.selects RX5 yX5_bestTorn yX5_bestTorn ∈ Tb := tb_of (i := 488) (by decide +kernel) (by decide +kernel)
theorem co_X5_bestTorn : Cond.code yX5_bestTorn cX5_bestTorn 6 (some .int) ∈ Tb := tb_of (i := 489) (by decide +kernel) (by decide +kernel)
theorem mkL_92 : Cond.methodLink RL 92 yX5_put ∈ Tb := tb_of (i := 490) (by decide +kernel) (by decide +kernel)
theorem im_X5_put : Cond.instanceMethod yX5_put ∈ Tb := tb_of (i := 491) (by decide +kernel) (by decide +kernel)
theorem se_X5_put : Cond.selects RX5 yX5_put yX5_put ∈ Tb := tb_of (i := 492) (by decide +kernel) (by decide +kernel)
theorem co_X5_put : Cond.code yX5_put cX5_put 4 (some .int) ∈ Tb := tb_of (i := 493) (by decide +kernel) (by decide +kernel)
theorem mkX5_211 : Cond.methodLink RX5 211 yX2_signsIn ∈ Tb := tb_of (i := 494) (by decide +kernel) (by decide +kernel)
theorem st_X2_signsIn : Cond.static yX2_signsIn ∈ Tb := tb_of (i := 495) (by decide +kernel) (by decide +kernel)
theorem co_X2_signsIn : Cond.code yX2_signsIn cX2_signsIn 6 (some .int) ∈ Tb := tb_of (i := 496) (by decide +kernel) (by decide +kernel)
theorem kcX2_22 : Cond.constantLong RX2 22 255 ∈ Tb := tb_of (i := 497) (by decide +kernel) (by decide +kernel)
theorem mkX5_215 : Cond.methodLink RX5 215 yX2_append ∈ Tb := tb_of (i := 498) (by decide +kernel) (by decide +kernel)
theorem im_X2_append : Cond.instanceMethod yX2_append ∈ Tb := tb_of (i := 499) (by decide +kernel) (by decide +kernel)
theorem se_X2_append : Cond.selects RX2 yX2_append yX2_append ∈ Tb := tb_of (i := 500) (by decide +kernel) (by decide +kernel)
theorem co_X2_append : Cond.code yX2_append cX2_append 7 none ∈ Tb := tb_of (i := 501) (by decide +kernel) (by decide +kernel)
theorem mkL_97 : Cond.methodLink RL 97 yX5_wipe ∈ Tb := tb_of (i := 502) (by decide +kernel) (by decide +kernel)
theorem im_X5_wipe : Cond.instanceMethod yX5_wipe ∈ Tb := tb_of (i := 503) (by decide +kernel) (by decide +kernel)
theorem se_X5_wipe : Cond.selects RX5 yX5_wipe yX5_wipe ∈ Tb := tb_of (i := 504) (by decide +kernel) (by decide +kernel)
theorem co_X5_wipe : Cond.code yX5_wipe cX5_wipe 2 (some .int) ∈ Tb := tb_of (i := 505) (by decide +kernel) (by decide +kernel)
theorem mkL_101 : Cond.methodLink RL 101 yX5_fault ∈ Tb := tb_of (i := 506) (by decide +kernel) (by decide +kernel)
theorem im_X5_fault : Cond.instanceMethod yX5_fault ∈ Tb := tb_of (i := 507) (by decide +kernel) (by decide +kernel)
theorem se_X5_fault : Cond.selects RX5 yX5_fault yX5_fault ∈ Tb := tb_of (i := 508) (by decide +kernel) (by decide +kernel)
theorem co_X5_fault : Cond.code yX5_fault cX5_fault 1 (some .int) ∈ Tb := tb_of (i := 509) (by decide +kernel) (by decide +kernel)
theorem mkL_105 : Cond.methodLink RL 105 yX5_undo ∈ Tb := tb_of (i := 510) (by decide +kernel) (by decide +kernel)
theorem im_X5_undo : Cond.instanceMethod yX5_undo ∈ Tb := tb_of (i := 511) (by decide +kernel) (by decide +kernel)
theorem se_X5_undo : Cond.selects RX5 yX5_undo yX5_undo ∈ Tb := tb_of (i := 512) (by decide +kernel) (by decide +kernel)
theorem co_X5_undo : Cond.code yX5_undo cX5_undo 1 (some .int) ∈ Tb := tb_of (i := 513) (by decide +kernel) (by decide +kernel)
theorem mkX5_219 : Cond.methodLink RX5 219 yX1_takeBack ∈ Tb := tb_of (i := 514) (by decide +kernel) (by decide +kernel)
theorem im_X1_takeBack : Cond.instanceMethod yX1_takeBack ∈ Tb := tb_of (i := 515) (by decide +kernel) (by decide +kernel)
theorem se_X1_takeBack : Cond.selects RX1 yX1_takeBack yX1_takeBack ∈ Tb := tb_of (i := 516) (by decide +kernel) (by decide +kernel)
theorem co_X1_takeBack : Cond.code yX1_takeBack cX1_takeBack 2 none ∈ Tb := tb_of (i := 517) (by decide +kernel) (by decide +kernel)
theorem mkL_109 : Cond.methodLink RL 109 yX5_save ∈ Tb := tb_of (i := 518) (by decide +kernel) (by decide +kernel)
theorem im_X5_save : Cond.instanceMethod yX5_save ∈ Tb := tb_of (i := 519) (by decide +kernel) (by decide +kernel)
theorem se_X5_save : Cond.selects RX5 yX5_save yX5_save ∈ Tb := tb_of (i := 520) (by decide +kernel) (by decide +kernel)
theorem co_X5_save : Cond.code yX5_save cX5_save 2 (some .int) ∈ Tb := tb_of (i := 521) (by decide +kernel) (by decide +kernel)
theorem mkL_113 : Cond.methodLink RL 113 yX5_restore ∈ Tb := tb_of (i := 522) (by decide +kernel) (by decide +kernel)
theorem im_X5_restore : Cond.instanceMethod yX5_restore ∈ Tb := tb_of (i := 523) (by decide +kernel) (by decide +kernel)
theorem se_X5_restore : Cond.selects RX5 yX5_restore yX5_restore ∈ Tb := tb_of (i := 524) (by decide +kernel) (by decide +kernel)
theorem co_X5_restore : Cond.code yX5_restore cX5_restore 2 (some .int) ∈ Tb := tb_of (i := 525) (by decide +kernel) (by decide +kernel)
theorem clL_10 : Cond.classLink RL 10 RX6 ∈ Tb := tb_of (i := 526) (by decide +kernel) (by decide +kernel)
theorem ins_X6 : Cond.instantiable RX6 15 ∈ Tb := tb_of (i := 527) (by decide +kernel) (by decide +kernel)
theorem mkL_12 : Cond.methodLink RL 12 yX6_init ∈ Tb := tb_of (i := 528) (by decide +kernel) (by decide +kernel)
theorem im_X6_init : Cond.instanceMethod yX6_init ∈ Tb := tb_of (i := 529) (by decide +kernel) (by decide +kernel)
theorem co_X6_init : Cond.code yX6_init cX6_init 2 none ∈ Tb := tb_of (i := 530) (by decide +kernel) (by decide +kernel)
theorem mkX6_1 : Cond.methodLink RX6 1 objectInit ∈ Tb := tb_of (i := 531) (by decide +kernel) (by decide +kernel)
theorem fkX6_38 : Cond.fieldLink RX6 38 RX6 "thrown" "I" ∈ Tb := tb_of (i := 532) (by decide +kernel) (by decide +kernel)
theorem fkX6_7 : Cond.fieldLink RX6 7 RX6 "s" "[I" ∈ Tb := tb_of (i := 533) (by decide +kernel) (by decide +kernel)
theorem fkX6_13 : Cond.fieldLink RX6 13 RX6 "aside" "[I" ∈ Tb := tb_of (i := 534) (by decide +kernel) (by decide +kernel)
theorem fkX6_16 : Cond.fieldLink RX6 16 RX6 "undos" "[I" ∈ Tb := tb_of (i := 535) (by decide +kernel) (by decide +kernel)
theorem fkX6_50 : Cond.fieldLink RX6 50 RX6 "undoMany" "I" ∈ Tb := tb_of (i := 536) (by decide +kernel) (by decide +kernel)
theorem fkX6_19 : Cond.fieldLink RX6 19 RX6 "slots" "[I" ∈ Tb := tb_of (i := 537) (by decide +kernel) (by decide +kernel)
theorem fkX6_22 : Cond.fieldLink RX6 22 RX6 "hasSlot" "[Z" ∈ Tb := tb_of (i := 538) (by decide +kernel) (by decide +kernel)
theorem fkX6_26 : Cond.fieldLink RX6 26 RX6 "pad" "[I" ∈ Tb := tb_of (i := 539) (by decide +kernel) (by decide +kernel)
theorem fkX6_104 : Cond.fieldLink RX6 104 RX6 "length" "I" ∈ Tb := tb_of (i := 540) (by decide +kernel) (by decide +kernel)
theorem fkX6_29 : Cond.fieldLink RX6 29 RX6 "seen" "[I" ∈ Tb := tb_of (i := 541) (by decide +kernel) (by decide +kernel)
theorem fkX6_32 : Cond.fieldLink RX6 32 RX6 "shown" "[I" ∈ Tb := tb_of (i := 542) (by decide +kernel) (by decide +kernel)
theorem fkX6_140 : Cond.fieldLink RX6 140 RX6 "at" "I" ∈ Tb := tb_of (i := 543) (by decide +kernel) (by decide +kernel)
theorem fkX6_143 : Cond.fieldLink RX6 143 RX6 "isWell" "Z" ∈ Tb := tb_of (i := 544) (by decide +kernel) (by decide +kernel)
theorem fkX6_35 : Cond.fieldLink RX6 35 RX6 "buyers" "[I" ∈ Tb := tb_of (i := 545) (by decide +kernel) (by decide +kernel)
theorem fkX6_107 : Cond.fieldLink RX6 107 RX6 "buyerMany" "I" ∈ Tb := tb_of (i := 546) (by decide +kernel) (by decide +kernel)
theorem mkL_17 : Cond.methodLink RL 17 yX6_paste ∈ Tb := tb_of (i := 578) (by decide +kernel) (by decide +kernel)
theorem im_X6_paste : Cond.instanceMethod yX6_paste ∈ Tb := tb_of (i := 579) (by decide +kernel) (by decide +kernel)
theorem se_X6_paste : Cond.selects RX6 yX6_paste yX6_paste ∈ Tb := tb_of (i := 580) (by decide +kernel) (by decide +kernel)
theorem co_X6_paste : Cond.code yX6_paste cX6_paste 11 (some .int) ∈ Tb := tb_of (i := 581) (by decide +kernel) (by decide +kernel)
theorem mkX6_78 : Cond.methodLink RX6 78 yX6_isCell ∈ Tb := tb_of (i := 582) (by decide +kernel) (by decide +kernel)
theorem st_X6_isCell : Cond.static yX6_isCell ∈ Tb := tb_of (i := 583) (by decide +kernel) (by decide +kernel)
theorem co_X6_isCell : Cond.code yX6_isCell cX6_isCell 2 (some .boolean) ∈ Tb := tb_of (i := 584) (by decide +kernel) (by decide +kernel)
theorem mkX6_42 : Cond.methodLink RX6 42 yX6_in ∈ Tb := tb_of (i := 585) (by decide +kernel) (by decide +kernel)
theorem st_X6_in : Cond.static yX6_in ∈ Tb := tb_of (i := 586) (by decide +kernel) (by decide +kernel)
theorem co_X6_in : Cond.code yX6_in cX6_in 3 (some .boolean) ∈ Tb := tb_of (i := 587) (by decide +kernel) (by decide +kernel)
theorem mkX6_81 : Cond.methodLink RX6 81 yX6_records ∈ Tb := tb_of (i := 588) (by decide +kernel) (by decide +kernel)
theorem im_X6_records : Cond.instanceMethod yX6_records ∈ Tb := tb_of (i := 590) (by decide +kernel) (by decide +kernel)
theorem co_X6_records : Cond.code yX6_records cX6_records 2 none ∈ Tb := tb_of (i := 591) (by decide +kernel) (by decide +kernel)
theorem mkX6_53 : Cond.methodLink RX6 53 yX6_lies ∈ Tb := tb_of (i := 592) (by decide +kernel) (by decide +kernel)
theorem im_X6_lies : Cond.instanceMethod yX6_lies ∈ Tb := tb_of (i := 594) (by decide +kernel) (by decide +kernel)
theorem co_X6_lies : Cond.code yX6_lies cX6_lies 5 (some .boolean) ∈ Tb := tb_of (i := 595) (by decide +kernel) (by decide +kernel)
theorem mkX6_46 : Cond.methodLink RX6 46 yX6_of ∈ Tb := tb_of (i := 596) (by decide +kernel) (by decide +kernel)
theorem im_X6_of : Cond.instanceMethod yX6_of ∈ Tb := tb_of (i := 598) (by decide +kernel) (by decide +kernel)
theorem co_X6_of : Cond.code yX6_of cX6_of 3 (some .int) ∈ Tb := tb_of (i := 599) (by decide +kernel) (by decide +kernel)
theorem mkX6_63 : Cond.methodLink RX6 63 yX6_lays ∈ Tb := tb_of (i := 600) (by decide +kernel) (by decide +kernel)
theorem im_X6_lays : Cond.instanceMethod yX6_lays ∈ Tb := tb_of (i := 602) (by decide +kernel) (by decide +kernel)
theorem co_X6_lays : Cond.code yX6_lays cX6_lays 4 none ∈ Tb := tb_of (i := 603) (by decide +kernel) (by decide +kernel)
theorem mkL_22 : Cond.methodLink RL 22 yX6_tear ∈ Tb := tb_of (i := 604) (by decide +kernel) (by decide +kernel)
theorem im_X6_tear : Cond.instanceMethod yX6_tear ∈ Tb := tb_of (i := 605) (by decide +kernel) (by decide +kernel)
theorem se_X6_tear : Cond.selects RX6 yX6_tear yX6_tear ∈ Tb := tb_of (i := 606) (by decide +kernel) (by decide +kernel)
theorem co_X6_tear : Cond.code yX6_tear cX6_tear 3 (some .int) ∈ Tb := tb_of (i := 607) (by decide +kernel) (by decide +kernel)
theorem mkX6_84 : Cond.methodLink RX6 84 yX6_isPoster ∈ Tb := tb_of (i := 608) (by decide +kernel) (by decide +kernel)
theorem im_X6_isPoster : Cond.instanceMethod yX6_isPoster ∈ Tb := tb_of (i := 610) (by decide +kernel) (by decide +kernel)
theorem co_X6_isPoster : Cond.code yX6_isPoster cX6_isPoster 2 (some .boolean) ∈ Tb := tb_of (i := 611) (by decide +kernel) (by decide +kernel)
theorem mkX6_88 : Cond.methodLink RX6 88 yX6_overCells ∈ Tb := tb_of (i := 612) (by decide +kernel) (by decide +kernel)
theorem im_X6_overCells : Cond.instanceMethod yX6_overCells ∈ Tb := tb_of (i := 614) (by decide +kernel) (by decide +kernel)
theorem co_X6_overCells : Cond.code yX6_overCells cX6_overCells 6 (some .int) ∈ Tb := tb_of (i := 615) (by decide +kernel) (by decide +kernel)
theorem mkX6_60 : Cond.methodLink RX6 60 yX6_seenAt ∈ Tb := tb_of (i := 616) (by decide +kernel) (by decide +kernel)
theorem im_X6_seenAt : Cond.instanceMethod yX6_seenAt ∈ Tb := tb_of (i := 618) (by decide +kernel) (by decide +kernel)
theorem co_X6_seenAt : Cond.code yX6_seenAt cX6_seenAt 4 (some .int) ∈ Tb := tb_of (i := 619) (by decide +kernel) (by decide +kernel)
theorem mkX6_57 : Cond.methodLink RX6 57 yX6_has ∈ Tb := tb_of (i := 620) (by decide +kernel) (by decide +kernel)
theorem im_X6_has : Cond.instanceMethod yX6_has ∈ Tb := tb_of (i := 622) (by decide +kernel) (by decide +kernel)
theorem co_X6_has : Cond.code yX6_has cX6_has 3 (some .int) ∈ Tb := tb_of (i := 623) (by decide +kernel) (by decide +kernel)
theorem mkX6_91 : Cond.methodLink RX6 91 yX6_drops ∈ Tb := tb_of (i := 624) (by decide +kernel) (by decide +kernel)
theorem im_X6_drops : Cond.instanceMethod yX6_drops ∈ Tb := tb_of (i := 626) (by decide +kernel) (by decide +kernel)
theorem co_X6_drops : Cond.code yX6_drops cX6_drops 3 none ∈ Tb := tb_of (i := 627) (by decide +kernel) (by decide +kernel)
theorem mkL_27 : Cond.methodLink RL 27 yX6_coat ∈ Tb := tb_of (i := 628) (by decide +kernel) (by decide +kernel)
theorem im_X6_coat : Cond.instanceMethod yX6_coat ∈ Tb := tb_of (i := 629) (by decide +kernel) (by decide +kernel)
theorem se_X6_coat : Cond.selects RX6 yX6_coat yX6_coat ∈ Tb := tb_of (i := 630) (by decide +kernel) (by decide +kernel)
theorem co_X6_coat : Cond.code yX6_coat cX6_coat 6 (some .int) ∈ Tb := tb_of (i := 631) (by decide +kernel) (by decide +kernel)
theorem mkL_32 : Cond.methodLink RL 32 yX6_scrape ∈ Tb := tb_of (i := 632) (by decide +kernel) (by decide +kernel)
theorem im_X6_scrape : Cond.instanceMethod yX6_scrape ∈ Tb := tb_of (i := 633) (by decide +kernel) (by decide +kernel)
theorem se_X6_scrape : Cond.selects RX6 yX6_scrape yX6_scrape ∈ Tb := tb_of (i := 634) (by decide +kernel) (by decide +kernel)
theorem co_X6_scrape : Cond.code yX6_scrape cX6_scrape 9 (some .int) ∈ Tb := tb_of (i := 635) (by decide +kernel) (by decide +kernel)
theorem mkX6_67 : Cond.methodLink RX6 67 yX6_loses ∈ Tb := tb_of (i := 636) (by decide +kernel) (by decide +kernel)
theorem im_X6_loses : Cond.instanceMethod yX6_loses ∈ Tb := tb_of (i := 638) (by decide +kernel) (by decide +kernel)
theorem co_X6_loses : Cond.code yX6_loses cX6_loses 5 (some .boolean) ∈ Tb := tb_of (i := 639) (by decide +kernel) (by decide +kernel)
theorem mkL_36 : Cond.methodLink RL 36 yX6_sun ∈ Tb := tb_of (i := 640) (by decide +kernel) (by decide +kernel)
theorem im_X6_sun : Cond.instanceMethod yX6_sun ∈ Tb := tb_of (i := 641) (by decide +kernel) (by decide +kernel)
theorem se_X6_sun : Cond.selects RX6 yX6_sun yX6_sun ∈ Tb := tb_of (i := 642) (by decide +kernel) (by decide +kernel)
theorem co_X6_sun : Cond.code yX6_sun cX6_sun 4 (some .int) ∈ Tb := tb_of (i := 643) (by decide +kernel) (by decide +kernel)
theorem mkL_40 : Cond.methodLink RL 40 yX6_buy ∈ Tb := tb_of (i := 644) (by decide +kernel) (by decide +kernel)
theorem im_X6_buy : Cond.instanceMethod yX6_buy ∈ Tb := tb_of (i := 645) (by decide +kernel) (by decide +kernel)
theorem se_X6_buy : Cond.selects RX6 yX6_buy yX6_buy ∈ Tb := tb_of (i := 646) (by decide +kernel) (by decide +kernel)
theorem co_X6_buy : Cond.code yX6_buy cX6_buy 6 (some .int) ∈ Tb := tb_of (i := 647) (by decide +kernel) (by decide +kernel)
theorem mkX6_74 : Cond.methodLink RX6 74 yX6_priceAt ∈ Tb := tb_of (i := 648) (by decide +kernel) (by decide +kernel)
theorem im_X6_priceAt : Cond.instanceMethod yX6_priceAt ∈ Tb := tb_of (i := 650) (by decide +kernel) (by decide +kernel)
theorem co_X6_priceAt : Cond.code yX6_priceAt cX6_priceAt 3 (some .int) ∈ Tb := tb_of (i := 651) (by decide +kernel) (by decide +kernel)
theorem mkX6_98 : Cond.methodLink RX6 98 yX6_pays ∈ Tb := tb_of (i := 652) (by decide +kernel) (by decide +kernel)
theorem im_X6_pays : Cond.instanceMethod yX6_pays ∈ Tb := tb_of (i := 654) (by decide +kernel) (by decide +kernel)
theorem co_X6_pays : Cond.code yX6_pays cX6_pays 5 (some .boolean) ∈ Tb := tb_of (i := 655) (by decide +kernel) (by decide +kernel)
theorem mkX6_95 : Cond.methodLink RX6 95 yX6_adds ∈ Tb := tb_of (i := 656) (by decide +kernel) (by decide +kernel)
theorem im_X6_adds : Cond.instanceMethod yX6_adds ∈ Tb := tb_of (i := 658) (by decide +kernel) (by decide +kernel)
theorem co_X6_adds : Cond.code yX6_adds cX6_adds 4 none ∈ Tb := tb_of (i := 659) (by decide +kernel) (by decide +kernel)
theorem mkL_45 : Cond.methodLink RL 45 yX6_buyAll ∈ Tb := tb_of (i := 660) (by decide +kernel) (by decide +kernel)
theorem im_X6_buyAll : Cond.instanceMethod yX6_buyAll ∈ Tb := tb_of (i := 661) (by decide +kernel) (by decide +kernel)
theorem se_X6_buyAll : Cond.selects RX6 yX6_buyAll yX6_buyAll ∈ Tb := tb_of (i := 662) (by decide +kernel) (by decide +kernel)
theorem co_X6_buyAll : Cond.code yX6_buyAll cX6_buyAll 3 (some .int) ∈ Tb := tb_of (i := 663) (by decide +kernel) (by decide +kernel)
theorem mkX6_101 : Cond.methodLink RX6 101 yX6_reads ∈ Tb := tb_of (i := 664) (by decide +kernel) (by decide +kernel)
theorem im_X6_reads : Cond.instanceMethod yX6_reads ∈ Tb := tb_of (i := 666) (by decide +kernel) (by decide +kernel)
theorem co_X6_reads : Cond.code yX6_reads cX6_reads 1 (some .int) ∈ Tb := tb_of (i := 667) (by decide +kernel) (by decide +kernel)
theorem mkX6_156 : Cond.methodLink RX6 156 yX6_readsBuyer ∈ Tb := tb_of (i := 668) (by decide +kernel) (by decide +kernel)
theorem im_X6_readsBuyer : Cond.instanceMethod yX6_readsBuyer ∈ Tb := tb_of (i := 670) (by decide +kernel) (by decide +kernel)
theorem co_X6_readsBuyer : Cond.code yX6_readsBuyer cX6_readsBuyer 5 none ∈ Tb := tb_of (i := 671) (by decide +kernel) (by decide +kernel)
theorem mkX6_150 : Cond.methodLink RX6 150 yX6_digit ∈ Tb := tb_of (i := 672) (by decide +kernel) (by decide +kernel)
theorem im_X6_digit : Cond.instanceMethod yX6_digit ∈ Tb := tb_of (i := 674) (by decide +kernel) (by decide +kernel)
theorem co_X6_digit : Cond.code yX6_digit cX6_digit 3 (some .int) ∈ Tb := tb_of (i := 675) (by decide +kernel) (by decide +kernel)
theorem mkX6_147 : Cond.methodLink RX6 147 yX6_sign ∈ Tb := tb_of (i := 676) (by decide +kernel) (by decide +kernel)
theorem im_X6_sign : Cond.instanceMethod yX6_sign ∈ Tb := tb_of (i := 678) (by decide +kernel) (by decide +kernel)
theorem co_X6_sign : Cond.code yX6_sign cX6_sign 1 (some .int) ∈ Tb := tb_of (i := 679) (by decide +kernel) (by decide +kernel)
theorem mkX6_153 : Cond.methodLink RX6 153 yX6_wants ∈ Tb := tb_of (i := 680) (by decide +kernel) (by decide +kernel)
theorem im_X6_wants : Cond.instanceMethod yX6_wants ∈ Tb := tb_of (i := 682) (by decide +kernel) (by decide +kernel)
theorem co_X6_wants : Cond.code yX6_wants cX6_wants 2 none ∈ Tb := tb_of (i := 683) (by decide +kernel) (by decide +kernel)
theorem mkL_49 : Cond.methodLink RL 49 yX6_pass ∈ Tb := tb_of (i := 684) (by decide +kernel) (by decide +kernel)
theorem im_X6_pass : Cond.instanceMethod yX6_pass ∈ Tb := tb_of (i := 685) (by decide +kernel) (by decide +kernel)
theorem se_X6_pass : Cond.selects RX6 yX6_pass yX6_pass ∈ Tb := tb_of (i := 686) (by decide +kernel) (by decide +kernel)
theorem co_X6_pass : Cond.code yX6_pass cX6_pass 2 (some .int) ∈ Tb := tb_of (i := 687) (by decide +kernel) (by decide +kernel)
theorem mkX6_110 : Cond.methodLink RX6 110 yX6_days ∈ Tb := tb_of (i := 688) (by decide +kernel) (by decide +kernel)
theorem im_X6_days : Cond.instanceMethod yX6_days ∈ Tb := tb_of (i := 690) (by decide +kernel) (by decide +kernel)
theorem co_X6_days : Cond.code yX6_days cX6_days 4 (some .int) ∈ Tb := tb_of (i := 691) (by decide +kernel) (by decide +kernel)
theorem mkX6_70 : Cond.methodLink RX6 70 yX6_day ∈ Tb := tb_of (i := 692) (by decide +kernel) (by decide +kernel)
theorem im_X6_day : Cond.instanceMethod yX6_day ∈ Tb := tb_of (i := 694) (by decide +kernel) (by decide +kernel)
theorem co_X6_day : Cond.code yX6_day cX6_day 3 (some .int) ∈ Tb := tb_of (i := 695) (by decide +kernel) (by decide +kernel)
theorem mkL_53 : Cond.methodLink RL 53 yX6_cell ∈ Tb := tb_of (i := 696) (by decide +kernel) (by decide +kernel)
theorem im_X6_cell : Cond.instanceMethod yX6_cell ∈ Tb := tb_of (i := 697) (by decide +kernel) (by decide +kernel)
theorem se_X6_cell : Cond.selects RX6 yX6_cell yX6_cell ∈ Tb := tb_of (i := 698) (by decide +kernel) (by decide +kernel)
theorem co_X6_cell : Cond.code yX6_cell cX6_cell 6 (some .int) ∈ Tb := tb_of (i := 699) (by decide +kernel) (by decide +kernel)
theorem mkX6_113 : Cond.methodLink RX6 113 yX6_lyingAt ∈ Tb := tb_of (i := 700) (by decide +kernel) (by decide +kernel)
theorem im_X6_lyingAt : Cond.instanceMethod yX6_lyingAt ∈ Tb := tb_of (i := 702) (by decide +kernel) (by decide +kernel)
theorem co_X6_lyingAt : Cond.code yX6_lyingAt cX6_lyingAt 5 (some .int) ∈ Tb := tb_of (i := 703) (by decide +kernel) (by decide +kernel)
theorem mkL_57 : Cond.methodLink RL 57 yX6_poster ∈ Tb := tb_of (i := 704) (by decide +kernel) (by decide +kernel)
theorem im_X6_poster : Cond.instanceMethod yX6_poster ∈ Tb := tb_of (i := 705) (by decide +kernel) (by decide +kernel)
theorem se_X6_poster : Cond.selects RX6 yX6_poster yX6_poster ∈ Tb := tb_of (i := 706) (by decide +kernel) (by decide +kernel)
theorem co_X6_poster : Cond.code yX6_poster cX6_poster 3 (some .int) ∈ Tb := tb_of (i := 707) (by decide +kernel) (by decide +kernel)
theorem mkL_61 : Cond.methodLink RL 61 yX6_varnish ∈ Tb := tb_of (i := 708) (by decide +kernel) (by decide +kernel)
theorem im_X6_varnish : Cond.instanceMethod yX6_varnish ∈ Tb := tb_of (i := 709) (by decide +kernel) (by decide +kernel)
theorem se_X6_varnish : Cond.selects RX6 yX6_varnish yX6_varnish ∈ Tb := tb_of (i := 710) (by decide +kernel) (by decide +kernel)
theorem co_X6_varnish : Cond.code yX6_varnish cX6_varnish 4 (some .int) ∈ Tb := tb_of (i := 711) (by decide +kernel) (by decide +kernel)
theorem mkL_65 : Cond.methodLink RL 65 yX6_count ∈ Tb := tb_of (i := 712) (by decide +kernel) (by decide +kernel)
theorem im_X6_count : Cond.instanceMethod yX6_count ∈ Tb := tb_of (i := 713) (by decide +kernel) (by decide +kernel)
theorem se_X6_count : Cond.selects RX6 yX6_count yX6_count ∈ Tb := tb_of (i := 714) (by decide +kernel) (by decide +kernel)
theorem co_X6_count : Cond.code yX6_count cX6_count 2 (some .int) ∈ Tb := tb_of (i := 715) (by decide +kernel) (by decide +kernel)
theorem mkX6_120 : Cond.methodLink RX6 120 yX6_overWall ∈ Tb := tb_of (i := 716) (by decide +kernel) (by decide +kernel)
theorem im_X6_overWall : Cond.instanceMethod yX6_overWall ∈ Tb := tb_of (i := 718) (by decide +kernel) (by decide +kernel)
theorem co_X6_overWall : Cond.code yX6_overWall cX6_overWall 7 (some .int) ∈ Tb := tb_of (i := 719) (by decide +kernel) (by decide +kernel)
theorem mkX6_117 : Cond.methodLink RX6 117 yX6_laysShown ∈ Tb := tb_of (i := 720) (by decide +kernel) (by decide +kernel)
theorem im_X6_laysShown : Cond.instanceMethod yX6_laysShown ∈ Tb := tb_of (i := 722) (by decide +kernel) (by decide +kernel)
theorem co_X6_laysShown : Cond.code yX6_laysShown cX6_laysShown 2 none ∈ Tb := tb_of (i := 723) (by decide +kernel) (by decide +kernel)
theorem mkX6_123 : Cond.methodLink RX6 123 yX6_sumBut ∈ Tb := tb_of (i := 724) (by decide +kernel) (by decide +kernel)
theorem im_X6_sumBut : Cond.instanceMethod yX6_sumBut ∈ Tb := tb_of (i := 726) (by decide +kernel) (by decide +kernel)
theorem co_X6_sumBut : Cond.code yX6_sumBut cX6_sumBut 5 (some .int) ∈ Tb := tb_of (i := 727) (by decide +kernel) (by decide +kernel)
theorem mkX6_126 : Cond.methodLink RX6 126 yX6_overPosters ∈ Tb := tb_of (i := 728) (by decide +kernel) (by decide +kernel)
theorem im_X6_overPosters : Cond.instanceMethod yX6_overPosters ∈ Tb := tb_of (i := 730) (by decide +kernel) (by decide +kernel)
theorem co_X6_overPosters : Cond.code yX6_overPosters cX6_overPosters 4 (some .int) ∈ Tb := tb_of (i := 731) (by decide +kernel) (by decide +kernel)
theorem mkL_69 : Cond.methodLink RL 69 yX6_sunOf ∈ Tb := tb_of (i := 732) (by decide +kernel) (by decide +kernel)
theorem im_X6_sunOf : Cond.instanceMethod yX6_sunOf ∈ Tb := tb_of (i := 733) (by decide +kernel) (by decide +kernel)
theorem se_X6_sunOf : Cond.selects RX6 yX6_sunOf yX6_sunOf ∈ Tb := tb_of (i := 734) (by decide +kernel) (by decide +kernel)
theorem co_X6_sunOf : Cond.code yX6_sunOf cX6_sunOf 2 (some .int) ∈ Tb := tb_of (i := 735) (by decide +kernel) (by decide +kernel)
theorem mkL_73 : Cond.methodLink RL 73 yX6_ifPassed ∈ Tb := tb_of (i := 736) (by decide +kernel) (by decide +kernel)
theorem im_X6_ifPassed : Cond.instanceMethod yX6_ifPassed ∈ Tb := tb_of (i := 737) (by decide +kernel) (by decide +kernel)
theorem se_X6_ifPassed : Cond.selects RX6 yX6_ifPassed yX6_ifPassed ∈ Tb := tb_of (i := 738) (by decide +kernel) (by decide +kernel)
theorem co_X6_ifPassed : Cond.code yX6_ifPassed cX6_ifPassed 5 (some .int) ∈ Tb := tb_of (i := 739) (by decide +kernel) (by decide +kernel)
theorem mkX6_129 : Cond.methodLink RX6 129 yX6_putAside ∈ Tb := tb_of (i := 740) (by decide +kernel) (by decide +kernel)
theorem im_X6_putAside : Cond.instanceMethod yX6_putAside ∈ Tb := tb_of (i := 742) (by decide +kernel) (by decide +kernel)
theorem co_X6_putAside : Cond.code yX6_putAside cX6_putAside 2 none ∈ Tb := tb_of (i := 743) (by decide +kernel) (by decide +kernel)
theorem mkX6_132 : Cond.methodLink RX6 132 yX6_others ∈ Tb := tb_of (i := 744) (by decide +kernel) (by decide +kernel)
theorem im_X6_others : Cond.instanceMethod yX6_others ∈ Tb := tb_of (i := 746) (by decide +kernel) (by decide +kernel)
theorem co_X6_others : Cond.code yX6_others cX6_others 3 (some .int) ∈ Tb := tb_of (i := 747) (by decide +kernel) (by decide +kernel)
theorem mkX6_135 : Cond.methodLink RX6 135 yX6_takeBack ∈ Tb := tb_of (i := 748) (by decide +kernel) (by decide +kernel)
theorem im_X6_takeBack : Cond.instanceMethod yX6_takeBack ∈ Tb := tb_of (i := 750) (by decide +kernel) (by decide +kernel)
theorem co_X6_takeBack : Cond.code yX6_takeBack cX6_takeBack 2 none ∈ Tb := tb_of (i := 751) (by decide +kernel) (by decide +kernel)
theorem mkL_77 : Cond.methodLink RL 77 yX6_willShow ∈ Tb := tb_of (i := 752) (by decide +kernel) (by decide +kernel)
theorem im_X6_willShow : Cond.instanceMethod yX6_willShow ∈ Tb := tb_of (i := 753) (by decide +kernel) (by decide +kernel)
theorem se_X6_willShow : Cond.selects RX6 yX6_willShow yX6_willShow ∈ Tb := tb_of (i := 754) (by decide +kernel) (by decide +kernel)
theorem co_X6_willShow : Cond.code yX6_willShow cX6_willShow 5 (some .int) ∈ Tb := tb_of (i := 755) (by decide +kernel) (by decide +kernel)
theorem mkL_81 : Cond.methodLink RL 81 yX6_nextChange ∈ Tb := tb_of (i := 756) (by decide +kernel) (by decide +kernel)
theorem im_X6_nextChange : Cond.instanceMethod yX6_nextChange ∈ Tb := tb_of (i := 757) (by decide +kernel) (by decide +kernel)
theorem se_X6_nextChange : Cond.selects RX6 yX6_nextChange yX6_nextChange ∈ Tb := tb_of (i := 758) (by decide +kernel) (by decide +kernel)
theorem co_X6_nextChange : Cond.code yX6_nextChange cX6_nextChange 3 (some .int) ∈ Tb := tb_of (i := 759) (by decide +kernel) (by decide +kernel)
theorem mkL_85 : Cond.methodLink RL 85 yX6_comesToLight ∈ Tb := tb_of (i := 760) (by decide +kernel) (by decide +kernel)
theorem im_X6_comesToLight : Cond.instanceMethod yX6_comesToLight ∈ Tb := tb_of (i := 761) (by decide +kernel) (by decide +kernel)
theorem se_X6_comesToLight : Cond.selects RX6 yX6_comesToLight yX6_comesToLight ∈ Tb := tb_of (i := 762) (by decide +kernel) (by decide +kernel)
theorem co_X6_comesToLight : Cond.code yX6_comesToLight cX6_comesToLight 4 (some .int) ∈ Tb := tb_of (i := 763) (by decide +kernel) (by decide +kernel)
theorem mkL_89 : Cond.methodLink RL 89 yX6_bestTorn ∈ Tb := tb_of (i := 764) (by decide +kernel) (by decide +kernel)
theorem im_X6_bestTorn : Cond.instanceMethod yX6_bestTorn ∈ Tb := tb_of (i := 765) (by decide +kernel) (by decide +kernel)
theorem se_X6_bestTorn : Cond.selects RX6 yX6_bestTorn yX6_bestTorn ∈ Tb := tb_of (i := 766) (by decide +kernel) (by decide +kernel)
theorem co_X6_bestTorn : Cond.code yX6_bestTorn cX6_bestTorn 6 (some .int) ∈ Tb := tb_of (i := 767) (by decide +kernel) (by decide +kernel)
theorem mkL_96 : Cond.methodLink RL 96 yX6_put ∈ Tb := tb_of (i := 768) (by decide +kernel) (by decide +kernel)
theorem im_X6_put : Cond.instanceMethod yX6_put ∈ Tb := tb_of (i := 769) (by decide +kernel) (by decide +kernel)
theorem se_X6_put : Cond.selects RX6 yX6_put yX6_put ∈ Tb := tb_of (i := 770) (by decide +kernel) (by decide +kernel)
theorem co_X6_put : Cond.code yX6_put cX6_put 8 (some .int) ∈ Tb := tb_of (i := 771) (by decide +kernel) (by decide +kernel)
theorem kcX6_138 : Cond.constantLong RX6 138 255 ∈ Tb := tb_of (i := 772) (by decide +kernel) (by decide +kernel)
theorem mkL_100 : Cond.methodLink RL 100 yX6_wipe ∈ Tb := tb_of (i := 773) (by decide +kernel) (by decide +kernel)
theorem im_X6_wipe : Cond.instanceMethod yX6_wipe ∈ Tb := tb_of (i := 774) (by decide +kernel) (by decide +kernel)
theorem se_X6_wipe : Cond.selects RX6 yX6_wipe yX6_wipe ∈ Tb := tb_of (i := 775) (by decide +kernel) (by decide +kernel)
theorem co_X6_wipe : Cond.code yX6_wipe cX6_wipe 2 (some .int) ∈ Tb := tb_of (i := 776) (by decide +kernel) (by decide +kernel)
theorem mkL_104 : Cond.methodLink RL 104 yX6_fault ∈ Tb := tb_of (i := 777) (by decide +kernel) (by decide +kernel)
theorem im_X6_fault : Cond.instanceMethod yX6_fault ∈ Tb := tb_of (i := 778) (by decide +kernel) (by decide +kernel)
theorem se_X6_fault : Cond.selects RX6 yX6_fault yX6_fault ∈ Tb := tb_of (i := 779) (by decide +kernel) (by decide +kernel)
theorem co_X6_fault : Cond.code yX6_fault cX6_fault 1 (some .int) ∈ Tb := tb_of (i := 780) (by decide +kernel) (by decide +kernel)
theorem mkL_108 : Cond.methodLink RL 108 yX6_undo ∈ Tb := tb_of (i := 781) (by decide +kernel) (by decide +kernel)
theorem im_X6_undo : Cond.instanceMethod yX6_undo ∈ Tb := tb_of (i := 782) (by decide +kernel) (by decide +kernel)
theorem se_X6_undo : Cond.selects RX6 yX6_undo yX6_undo ∈ Tb := tb_of (i := 783) (by decide +kernel) (by decide +kernel)
theorem co_X6_undo : Cond.code yX6_undo cX6_undo 2 (some .int) ∈ Tb := tb_of (i := 784) (by decide +kernel) (by decide +kernel)
theorem mkL_112 : Cond.methodLink RL 112 yX6_save ∈ Tb := tb_of (i := 785) (by decide +kernel) (by decide +kernel)
theorem im_X6_save : Cond.instanceMethod yX6_save ∈ Tb := tb_of (i := 786) (by decide +kernel) (by decide +kernel)
theorem se_X6_save : Cond.selects RX6 yX6_save yX6_save ∈ Tb := tb_of (i := 787) (by decide +kernel) (by decide +kernel)
theorem co_X6_save : Cond.code yX6_save cX6_save 3 (some .int) ∈ Tb := tb_of (i := 788) (by decide +kernel) (by decide +kernel)
theorem mkL_116 : Cond.methodLink RL 116 yX6_restore ∈ Tb := tb_of (i := 789) (by decide +kernel) (by decide +kernel)
theorem im_X6_restore : Cond.instanceMethod yX6_restore ∈ Tb := tb_of (i := 790) (by decide +kernel) (by decide +kernel)
theorem se_X6_restore : Cond.selects RX6 yX6_restore yX6_restore ∈ Tb := tb_of (i := 791) (by decide +kernel) (by decide +kernel)
theorem co_X6_restore : Cond.code yX6_restore cX6_restore 3 (some .int) ∈ Tb := tb_of (i := 792) (by decide +kernel) (by decide +kernel)
theorem kcL_90 : Cond.constantLong RL 90 4294967295 ∈ Tb := tb_of (i := 793) (by decide +kernel) (by decide +kernel)
theorem se_X1_dropOldest : Cond.selects RX1 yX1_dropOldest yX1_dropOldest ∈ Tb := tb_of (i := 0) (by decide +kernel) (by decide +kernel)
theorem se_X5_isPoster : Cond.selects RX5 yX5_isPoster yX5_isPoster ∈ Tb := tb_of (i := 1) (by decide +kernel) (by decide +kernel)
theorem se_X4_seenWithout : Cond.selects RX4 yX4_seenWithout yX4_seenWithout ∈ Tb := tb_of (i := 2) (by decide +kernel) (by decide +kernel)
theorem se_X0_endsBuyer : Cond.selects RX0 yX0_endsBuyer yX0_endsBuyer ∈ Tb := tb_of (i := 3) (by decide +kernel) (by decide +kernel)
theorem se_X0_lengthensPurse : Cond.selects RX0 yX0_lengthensPurse yX0_lengthensPurse ∈ Tb := tb_of (i := 4) (by decide +kernel) (by decide +kernel)
theorem se_X4_daysToClear : Cond.selects RX4 yX4_daysToClear yX4_daysToClear ∈ Tb := tb_of (i := 5) (by decide +kernel) (by decide +kernel)
theorem se_X4_isPriceSeenBelow : Cond.selects RX4 yX4_isPriceSeenBelow yX4_isPriceSeenBelow ∈ Tb := tb_of (i := 6) (by decide +kernel) (by decide +kernel)
theorem se_X6_records : Cond.selects RX6 yX6_records yX6_records ∈ Tb := tb_of (i := 7) (by decide +kernel) (by decide +kernel)
theorem se_X6_lies : Cond.selects RX6 yX6_lies yX6_lies ∈ Tb := tb_of (i := 8) (by decide +kernel) (by decide +kernel)
theorem se_X6_of : Cond.selects RX6 yX6_of yX6_of ∈ Tb := tb_of (i := 9) (by decide +kernel) (by decide +kernel)
theorem se_X6_lays : Cond.selects RX6 yX6_lays yX6_lays ∈ Tb := tb_of (i := 10) (by decide +kernel) (by decide +kernel)
theorem se_X6_isPoster : Cond.selects RX6 yX6_isPoster yX6_isPoster ∈ Tb := tb_of (i := 11) (by decide +kernel) (by decide +kernel)
theorem se_X6_overCells : Cond.selects RX6 yX6_overCells yX6_overCells ∈ Tb := tb_of (i := 12) (by decide +kernel) (by decide +kernel)
theorem se_X6_seenAt : Cond.selects RX6 yX6_seenAt yX6_seenAt ∈ Tb := tb_of (i := 13) (by decide +kernel) (by decide +kernel)
theorem se_X6_has : Cond.selects RX6 yX6_has yX6_has ∈ Tb := tb_of (i := 14) (by decide +kernel) (by decide +kernel)
theorem se_X6_drops : Cond.selects RX6 yX6_drops yX6_drops ∈ Tb := tb_of (i := 15) (by decide +kernel) (by decide +kernel)
theorem se_X6_loses : Cond.selects RX6 yX6_loses yX6_loses ∈ Tb := tb_of (i := 16) (by decide +kernel) (by decide +kernel)
theorem se_X6_priceAt : Cond.selects RX6 yX6_priceAt yX6_priceAt ∈ Tb := tb_of (i := 17) (by decide +kernel) (by decide +kernel)
theorem se_X6_pays : Cond.selects RX6 yX6_pays yX6_pays ∈ Tb := tb_of (i := 18) (by decide +kernel) (by decide +kernel)
theorem se_X6_adds : Cond.selects RX6 yX6_adds yX6_adds ∈ Tb := tb_of (i := 19) (by decide +kernel) (by decide +kernel)
theorem se_X6_reads : Cond.selects RX6 yX6_reads yX6_reads ∈ Tb := tb_of (i := 20) (by decide +kernel) (by decide +kernel)
theorem se_X6_readsBuyer : Cond.selects RX6 yX6_readsBuyer yX6_readsBuyer ∈ Tb := tb_of (i := 21) (by decide +kernel) (by decide +kernel)
theorem se_X6_digit : Cond.selects RX6 yX6_digit yX6_digit ∈ Tb := tb_of (i := 22) (by decide +kernel) (by decide +kernel)
theorem se_X6_sign : Cond.selects RX6 yX6_sign yX6_sign ∈ Tb := tb_of (i := 23) (by decide +kernel) (by decide +kernel)
theorem se_X6_wants : Cond.selects RX6 yX6_wants yX6_wants ∈ Tb := tb_of (i := 24) (by decide +kernel) (by decide +kernel)
theorem se_X6_days : Cond.selects RX6 yX6_days yX6_days ∈ Tb := tb_of (i := 25) (by decide +kernel) (by decide +kernel)
theorem se_X6_day : Cond.selects RX6 yX6_day yX6_day ∈ Tb := tb_of (i := 26) (by decide +kernel) (by decide +kernel)
theorem se_X6_lyingAt : Cond.selects RX6 yX6_lyingAt yX6_lyingAt ∈ Tb := tb_of (i := 27) (by decide +kernel) (by decide +kernel)
theorem se_X6_overWall : Cond.selects RX6 yX6_overWall yX6_overWall ∈ Tb := tb_of (i := 28) (by decide +kernel) (by decide +kernel)
theorem se_X6_laysShown : Cond.selects RX6 yX6_laysShown yX6_laysShown ∈ Tb := tb_of (i := 29) (by decide +kernel) (by decide +kernel)
theorem se_X6_sumBut : Cond.selects RX6 yX6_sumBut yX6_sumBut ∈ Tb := tb_of (i := 30) (by decide +kernel) (by decide +kernel)
theorem se_X6_overPosters : Cond.selects RX6 yX6_overPosters yX6_overPosters ∈ Tb := tb_of (i := 31) (by decide +kernel) (by decide +kernel)
theorem se_X6_putAside : Cond.selects RX6 yX6_putAside yX6_putAside ∈ Tb := tb_of (i := 32) (by decide +kernel) (by decide +kernel)
theorem se_X6_others : Cond.selects RX6 yX6_others yX6_others ∈ Tb := tb_of (i := 33) (by decide +kernel) (by decide +kernel)
theorem se_X6_takeBack : Cond.selects RX6 yX6_takeBack yX6_takeBack ∈ Tb := tb_of (i := 34) (by decide +kernel) (by decide +kernel)
theorem uw_X0 : ∀ w ∈ u_ws RX0 TX0 4, w ∈ Tb := by
  have h1 : ∀ w ∈ u_ws RX0 TX0 4, w ∈ lw_tbl := by decide +kernel
  have h2 : ∀ w ∈ u_ws RX0 TX0 4, goodWord w = true := by decide +kernel
  exact fun w h => tb_mem (h1 w h) (h2 w h)
theorem uw_X1 : ∀ w ∈ u_ws RX1 TX1 2, w ∈ Tb := by
  have h1 : ∀ w ∈ u_ws RX1 TX1 2, w ∈ lw_tbl := by decide +kernel
  have h2 : ∀ w ∈ u_ws RX1 TX1 2, goodWord w = true := by decide +kernel
  exact fun w h => tb_mem (h1 w h) (h2 w h)
theorem uw_X2 : ∀ w ∈ u_ws RX2 TX2 3, w ∈ Tb := by
  have h1 : ∀ w ∈ u_ws RX2 TX2 3, w ∈ lw_tbl := by decide +kernel
  have h2 : ∀ w ∈ u_ws RX2 TX2 3, goodWord w = true := by decide +kernel
  exact fun w h => tb_mem (h1 w h) (h2 w h)
theorem uw_X3 : ∀ w ∈ u_ws RX3 TX3 8, w ∈ Tb := by
  have h1 : ∀ w ∈ u_ws RX3 TX3 8, w ∈ lw_tbl := by decide +kernel
  have h2 : ∀ w ∈ u_ws RX3 TX3 8, goodWord w = true := by decide +kernel
  exact fun w h => tb_mem (h1 w h) (h2 w h)
theorem uw_X4 : ∀ w ∈ u_ws RX4 TX4 6, w ∈ Tb := by
  have h1 : ∀ w ∈ u_ws RX4 TX4 6, w ∈ lw_tbl := by decide +kernel
  have h2 : ∀ w ∈ u_ws RX4 TX4 6, goodWord w = true := by decide +kernel
  exact fun w h => tb_mem (h1 w h) (h2 w h)
theorem uw_X5 : ∀ w ∈ u_ws RX5 TX5 6, w ∈ Tb := by
  have h1 : ∀ w ∈ u_ws RX5 TX5 6, w ∈ lw_tbl := by decide +kernel
  have h2 : ∀ w ∈ u_ws RX5 TX5 6, goodWord w = true := by decide +kernel
  exact fun w h => tb_mem (h1 w h) (h2 w h)
theorem uw_X6 : ∀ w ∈ u_ws RX6 TX6 15, w ∈ Tb := by
  have h1 : ∀ w ∈ u_ws RX6 TX6 15, w ∈ lw_tbl := by decide +kernel
  have h2 : ∀ w ∈ u_ws RX6 TX6 15, goodWord w = true := by decide +kernel
  exact fun w h => tb_mem (h1 w h) (h2 w h)
end
section
abbrev Mm : Type := Nat → Option va_E
abbrev zG : Type := va_G × (Nat → ClassId)
abbrev zTy (G : zG) : List (ClassId × FieldType) := [(G.2 0, .int), (G.2 1, .object RX3), (G.2 2, .object RX4), (G.2 3, .boolean), (G.2 4, .char)]
def zK (G : zG) (U : State) : Prop := va_K G.1 vwCl (zTy G) U ∧ va_AO RX3 U ∧ va_AO RX4 U ∧ va_Nw (.methodLinkNest RX2 17 yX0_init RX5) U ∧ va_Nw (.methodLinkNest RX0 21 yX5_isWithin RX5) U ∧ va_Nw (.methodLinkNest RX0 36 yX5_isCell RX5) U ∧ va_Nw (.methodLinkNest RX0 40 yX5_cellAt RX5) U
theorem zK.warm {G : zG} {s U : State} (hW : s.WarmedH U.vm) (h : zK G s) : zK G U :=
  ⟨va_K.moved hW.alike h.1, va_AO.moved hW.alike h.2.1, va_AO.moved hW.alike h.2.2.1, va_Nw.warmM hW h.2.2.2.1, va_Nw.warmM hW h.2.2.2.2.1, va_Nw.warmM hW h.2.2.2.2.2.1, va_Nw.warmM hW h.2.2.2.2.2.2⟩
/-- the heap holds what the map says -/
def zH (G : zG) (M : Mm) (H : Heap) : Prop := ∀ (a : Nat) (e : va_E), M a = some e → va_at G.1 vwCl (a, e) H
def zset (M : Mm) (a : Nat) (e : va_E) : Mm := fun q => if q = a then some e else M q
theorem zset_self (M : Mm) (a : Nat) (e : va_E) : zset M a e a = some e := by simp [zset]
theorem zset_ne (M : Mm) (a : Nat) (e : va_E) : ∀ q : Nat, q ≠ a → zset M a e q = M q := fun q h => by simp [zset, h]
theorem zH.set {G : zG} {M : Mm} {H H1 : Heap} {a : Nat} {e : va_E} (h : zH G M H) (he : va_at G.1 vwCl (a, e) H1) (oq : ∀ q : Nat, q ≠ a → H1[q]? = H[q]?) : zH G (zset M a e) H1 := by
  intro b e' hb
  by_cases hba : b = a
  · subst hba
    rw [zset_self] at hb
    cases hb
    exact he
  · rw [zset_ne _ _ _ _ hba] at hb
    exact (h b e' hb).kept (oq b hba)
theorem zH.one {G : zG} {M : Mm} {H : Heap} {a : Nat} {e : va_E} (h : zH G M H) (hM : M a = some e) : va_P G.1 vwCl [(a, e)] H := by
  intro k q hk
  have hz : k < 1 := (List.getElem?_eq_some_iff.mp hk).1
  rw [show k = 0 by omega] at hk
  cases hk
  exact h a e hM
/-- written so far: from B0 on, and n cells made -/
def zS (n B0 : Nat) (H0 H : Heap) (locs : List Loc) : Prop := va_S (fun q => B0 ≤ q) H0 H locs ∧ H.size = H0.size + n
theorem zS.rf {B0 : Nat} {H : Heap} : zS 0 B0 H H [] := ⟨va_S.rf, rfl⟩
theorem zS.put {n B0 : Nat} {H0 H H1 : Heap} {locs : List Loc} {a k : Nat} (h : zS n B0 H0 H locs) (z : H1.size = H.size) (oq : ∀ q : Nat, q ≠ a → H1[q]? = H[q]?) (ha : B0 ≤ a) : zS n B0 H0 H1 (locs ++ [⟨a, k⟩]) := ⟨h.1.put z oq ha, z.trans h.2⟩
def zR (k mc ms : Nat) : Room := { frames := k, cells := mc, slots := ms, locals := 32 * k }
def zP (G : zG) (M : Mm) (sz : Nat) (av : List Value) : Array Value → State → Prop := fun v U => v = av.toArray ∧ zH G M U.heap ∧ zK G U ∧ U.heap.size = sz
def zQ (G : zG) (B0 sz n : Nat) (v : Option Value) (post : Mm → Prop) : Array Value → State → Outcome → State → Prop := fun _ st o t =>
  o = .returned v ∧ (∃ M1, zH G M1 t.heap ∧ post M1) ∧ t.heap.size = sz + n ∧ ∀ q : Nat, q < st.heap.size → q < B0 → t.heap[q]? = st.heap[q]?
/-- a method's contract: from a heap that the map M tells, with these arguments, it returns v, and the heap is told by a map with post -/
def zMet (l : Launch) (y : MethodName) (cc : ByteArray) (nL : Nat) (ret : Option FieldType) (k mc ms : Nat) (G : zG) (B0 : Nat) (M : Mm) (av : List Value) (v : Option Value) (post : Mm → Prop) : Prop :=
  ∀ sz : Nat, B0 ≤ sz → Met l y (Tw y cc nL ret) (zR k mc ms) (zP G M sz av) (zQ G B0 sz mc v post) mc ms (fun q => B0 ≤ q)
def zE (p : Program) (s : State) (m : MethodId) (args : Array Value) (meth : Method) (c : Code) (G : zG) (own : String) (cc : ByteArray) (nL : Nat) (ret : Option FieldType) : Prop :=
  p.tables.exec = Jvm.exec ∧ c.code = cc ∧ c.maxLocals = nL ∧ s.vm.findClass own = some m.cls ∧ (∀ w ∈ Tb, w.before args s = true) ∧ meth.sig.returnType = ret ∧ meth.locks = false ∧ zK G s
theorem zP.blind {G : zG} {M : Mm} {sz : Nat} {av : List Value} : FrameBlind (zP G M sz av) := fun a U g mk q => ⟨q.1, q.2.1, zK.warm (s := U) (U := U.calling g mk a) (State.WarmedH.refl U) q.2.2.1, q.2.2.2⟩
theorem z_met {l : Launch} {y : MethodName} {cc : ByteArray} {nL : Nat} {ret : Option FieldType} {k mc ms : Nat} {G : zG} {B0 : Nat} {M : Mm} {av : List Value} {v : Option Value} {post : Mm → Prop} (own : String) (lv : List (Nat × Value)) (hy : plainName y.cls = true) (ho : y.cls = own) (hn : (lg_sl av).length ≤ nL) (hlv : lv_args 0 av = lv)
    (body : ∀ (p : Program) (e : Env) (s : State) (m : MethodId) (below : List Frame) (meth : Method) (c : Code) (ls : Array Slot), zE p s m av.toArray meth c G own cc nL ret → meth.name = y.name → B0 ≤ s.heap.size → zH G M s.heap → lv_has ls nL lv →
      W p l e (zR k mc ms) s m av.toArray below meth c s.heap [] 0 0 (MQ below (zQ G B0 s.heap.size mc v post) av.toArray s mc ms (fun q => B0 ≤ q)) (F0 m 0 ls [])) : zMet l y cc nL ret k mc ms G B0 M av v post := by
  intro sz hsz
  refine Met.ofW (cc := cc) (maxL := nL) (ret := ret) hy rfl ?_
  intro p e s m args below meth c s₁ B hml hv
  obtain ⟨rfl, hH, hK, hz⟩ := hv
  subst hz
  rw [lg_entry_eq]
  have hts := atoms_spec (ws := Tw y cc nL ret) B.pre
  exact body p e s m below meth c _ ⟨B.exec, B.bytes, hml, ho ▸ findClass_of_methodNamed B.named, fun w hw => hts w (List.mem_cons_of_mem _ hw), B.returns, B.notSynchronized, hK⟩ (name_of_methodNamed B.named B.method).1 hsz hH (hlv ▸ lv_entry av hn)
def zb (b : Bool) : Int32 := if b then 1 else 0
theorem zb_narrow (b : Bool) : narrow .boolean (.int (zb b)) = .int (zb b) := by cases b <;> rfl
section ZR
variable {p : Program} {l : Launch} {e : Env} {R : Room} {s : State} {m : MethodId} {args : Array Value} {below : List Frame} {meth : Method} {c : Code} {H : Heap} {locs : List Loc} {cells slots : Nat} {Q : State → Prop}
variable {cc : ByteArray} {pc nL : Nat} {ls : Array Slot} {rest : List Value} {G : zG} {M : Mm} {a n B0 : Nat} {H0 : Heap} {own : String} {ret : Option FieldType}
theorem zQ.of {v : Option Value} {post : Mm → Prop} (hH : zH G M H) (hS : zS n B0 s.heap H locs) (hp : post M) : ∀ t : State, t.heap = H → s.WarmedH t.vm → zQ G B0 s.heap.size n v post args s (.returned v) t := by
  intro t ht _
  refine ⟨rfl, ⟨M, by rw [ht]; exact hH, hp⟩, by rw [ht]; exact hS.2, fun q h1 h2 => ?_⟩
  rw [ht]
  exact hS.1.2.1 q h1 (Nat.not_le.mpr h2)
theorem z_iret {mc ms : Nat} {post : Mm → Prop} {r r0 : Int32} (hE : zE p s m args meth c G own cc nL (some .int)) (hH : zH G M H) (hS : zS mc B0 s.heap H locs) (hv : r = r0) (hp : post M) (hdg : decode cc pc = .ok (.ireturn, 1)) :
    W p l e R s m args below meth c H locs mc ms (MQ below (zQ G B0 s.heap.size mc (some (.int r0)) post) args s mc ms (fun q => B0 ≤ q)) (F0 m pc ls [.int r]) := by
  subst hv
  have hlocks := hE.2.2.2.2.2.2.1
  exact W.iret (v := r) hE.1 hE.2.1 hE.2.2.2.2.2.1 (zQ.of hH hS hp) hS.1.2.2 hdg
theorem z_zret {mc ms : Nat} {post : Mm → Prop} {r : Int32} {b : Bool} (hE : zE p s m args meth c G own cc nL (some .boolean)) (hH : zH G M H) (hS : zS mc B0 s.heap H locs) (hv : r = zb b) (hp : post M) (hdg : decode cc pc = .ok (.ireturn, 1)) :
    W p l e R s m args below meth c H locs mc ms (MQ below (zQ G B0 s.heap.size mc (some (.int (zb b))) post) args s mc ms (fun q => B0 ≤ q)) (F0 m pc ls [.int r]) := by
  subst hv
  have hlocks := hE.2.2.2.2.2.2.1
  exact W.zret (v := zb b) (ty := .boolean) hE.1 hE.2.1 hE.2.2.2.2.2.1 (zb_narrow b) (zQ.of hH hS hp) hS.1.2.2 hdg
theorem z_vret {mc ms : Nat} {post : Mm → Prop} (hE : zE p s m args meth c G own cc nL none) (hH : zH G M H) (hS : zS mc B0 s.heap H locs) (hp : post M) (hdg : decode cc pc = .ok (.return_, 1)) :
    W p l e R s m args below meth c H locs mc ms (MQ below (zQ G B0 s.heap.size mc none post) args s mc ms (fun q => B0 ≤ q)) (F0 m pc ls []) := by
  have hlocks := hE.2.2.2.2.2.2.1
  exact W.vret hE.1 hE.2.1 hE.2.2.2.2.2.1 (zQ.of hH hS hp) hS.1.2.2 hdg
theorem z_get (hE : zE p s m args meth c G own cc nL ret) (hH : zH G M H) {ci : Nat} {fs : List Value} (hM : M a = some (.inr (ci, fs))) {C : String} {T : u_T} {N index : Nat} (hc : vwCl[ci]? = some (C, T, N)) (hin : ∀ w ∈ u_ws C T N, w ∈ Tb) (k : Nat) (hk : k < N) (hlink : Cond.fieldLink own index (T k).1 (T k).2.1 (T k).2.2.1 ∈ Tb) {v : Value} (hv : fs[k]? = some v) (hdg : decode cc pc = .ok (.getfield index, 3))
    (kk : W p l e R s m args below meth c H locs cells slots Q (F0 m (pc + 3) ls (v :: rest))) : W p l e R s m args below meth c H locs cells slots Q (F0 m pc ls (.ref a :: rest)) :=
  va_get (D := G.1) (cl := vwCl) (ci := ci) (Ts := Tb) hE.1 hE.2.1 hE.2.2.2.2.1 hin hE.2.2.2.1 hE.2.2.2.2.2.2.2.1 (hH.one hM) 0 rfl hc k hk (hE.2.2.2.2.1 _ hlink) (fun _ h => h) hv hdg kk
theorem z_put (hE : zE p s m args meth c G own cc nL ret) (hH : zH G M H) (hS0 : zS n B0 H0 H locs) {ci : Nat} {fs : List Value} (hM : M a = some (.inr (ci, fs))) {C : String} {T : u_T} {N index : Nat} (hc : vwCl[ci]? = some (C, T, N)) (hin : ∀ w ∈ u_ws C T N, w ∈ Tb) (ty0 : Nat → FieldType) (hty : ∀ k, k < N → parseFieldDescriptor (T k).2.2.1 = some (ty0 k)) (hnm : ∀ a, a < N → ∀ b, b < N → a ≠ b → (T a).2.1 ≠ (T b).2.1) (k : Nat) (hk : k < N) (hlink : Cond.fieldLink own index (T k).1 (T k).2.1 (T k).2.2.1 ∈ Tb) (hfin : (T k).2.2.2 = false) {v : Value} (hn : narrow (ty0 k) v = v) (hfit : fits (ty0 k) v = true) (hl : k < fs.length) (hB : B0 ≤ a) (hdg : decode cc pc = .ok (.putfield index, 3))
    (kk : ∀ (H1 : Heap) (locs1 : List Loc) (M1 : Mm), zH G M1 H1 → zS n B0 H0 H1 locs1 → M1 a = some (.inr (ci, fs.set k v)) → (∀ q : Nat, q ≠ a → M1 q = M q) → W p l e R s m args below meth c H1 locs1 cells slots Q (F0 m (pc + 3) ls rest)) : W p l e R s m args below meth c H locs cells slots Q (F0 m pc ls (v :: .ref a :: rest)) := by
  have hts := hE.2.2.2.2.1
  have hK := hE.2.2.2.2.2.2.2.1
  have hap := va_apart (own := own) hts hin ty0 hty hnm hK hc
  obtain ⟨r, h1, cell, q1, q2, q3, q4⟩ := hH _ _ hM
  have hr : r = (C, T, N) := Option.some.inj (h1.symm.trans hc)
  subst hr
  obtain ⟨hS, hfc, kC, hkC, hkind⟩ := hK.1 ci _ hc
  obtain ⟨cf, kf, fi, f, hi, hsl⟩ := hS k hk
  have hlay := hts _ (hin _ (u_in_lay hk))
  unfold u_lay at hlay
  rw [if_neg (by rw [hfin]; decide)] at hlay
  have hst := (u_facts hfc hkC (u_lays hts hin hk) hi).1
  have h6 := u_store hfc hkC hkind hlay hi (hty k hk) hn hfit
  refine W.putK hE.1 hE.2.1 (f := f) ⟨hE.2.2.2.1, hts _ hlink, ⟨_, _, _, hi⟩, hst⟩ (by rw [q2]; exact h6) q1 q3 (by rw [hsl]; exact k2_hasslot (q4 k hk)) rfl rfl hdg fun H' e1 e2 e3 => ?_
  rw [hsl] at e1 ⊢
  exact kk H' _ (zset M a (.inr (ci, fs.set k v))) (hH.set ⟨_, hc, t_OB.to (V := updV (vp_V fs) k v) ⟨_, e1, q2, q3, t_set q4 hap hk v⟩ (fun j _ => vp_updV_set hl v j)⟩ e3) (hS0.put e2 e3 hB) (zset_self _ _ _) (zset_ne _ _ _)
theorem z_putF (hE : zE p s m args meth c G own cc nL ret) (hin2 : meth.name = "<init>") (hH : zH G M H) (hS0 : zS n B0 H0 H locs) {ci : Nat} {fs : List Value} (hM : M a = some (.inr (ci, fs))) {C : String} {T : u_T} {N index : Nat} (hc : vwCl[ci]? = some (C, T, N)) (hin : ∀ w ∈ u_ws C T N, w ∈ Tb) (ty0 : Nat → FieldType) (hty : ∀ k, k < N → parseFieldDescriptor (T k).2.2.1 = some (ty0 k)) (hnm : ∀ a, a < N → ∀ b, b < N → a ≠ b → (T a).2.1 ≠ (T b).2.1) (k : Nat) (hk : k < N) (hlink : Cond.fieldLink own index (T k).1 (T k).2.1 (T k).2.2.1 ∈ Tb) (hfin : (T k).2.2.2 = true) (hdecl : (T k).1 = own) {v : Value} (hn : narrow (ty0 k) v = v) (hfit : fits (ty0 k) v = true) (hl : k < fs.length) (hB : B0 ≤ a) (hdg : decode cc pc = .ok (.putfield index, 3))
    (kk : ∀ (H1 : Heap) (locs1 : List Loc) (M1 : Mm), zH G M1 H1 → zS n B0 H0 H1 locs1 → M1 a = some (.inr (ci, fs.set k v)) → (∀ q : Nat, q ≠ a → M1 q = M q) → W p l e R s m args below meth c H1 locs1 cells slots Q (F0 m (pc + 3) ls rest)) : W p l e R s m args below meth c H locs cells slots Q (F0 m pc ls (v :: .ref a :: rest)) := by
  have hts := hE.2.2.2.2.1
  have hK := hE.2.2.2.2.2.2.2.1
  have hown := hE.2.2.2.1
  have hap := va_apart (own := own) hts hin ty0 hty hnm hK hc
  obtain ⟨r, h1, cell, q1, q2, q3, q4⟩ := hH _ _ hM
  have hr : r = (C, T, N) := Option.some.inj (h1.symm.trans hc)
  subst hr
  obtain ⟨hS, hfc, kC, hkC, hkind⟩ := hK.1 ci _ hc
  obtain ⟨cf, kf, fi, f, hi, hsl⟩ := hS k hk
  have hlay := hts _ (hin _ (u_in_lay hk))
  unfold u_lay at hlay
  rw [if_pos hfin] at hlay
  have hst := (u_facts hfc hkC (u_lays hts hin hk) hi).1
  have hcf : m.cls = cf := by
    obtain ⟨_, _, c', _, _, _, -, -, hf', -, -, -, hown2, -⟩ := Cond.laysFinal_spec hlay
    have e1 : c' = cf := by have := hi.symm.trans hf'; simp at this; exact this.1.symm
    rw [hdecl] at hown2
    rw [← e1]; exact Option.some.inj (hown.symm.trans hown2)
  have h6 := u_fits hfc hkC hkind (Or.inr hlay) hi (hty k hk) hn hfit
  refine W.putFinK hE.1 hE.2.1 hown (hts _ hlink) hi hst hcf hin2 (by rw [q2]; exact h6) q1 q3 (by rw [hsl]; exact k2_hasslot (q4 k hk)) rfl rfl hdg fun H' e1 e2 e3 => ?_
  rw [hsl] at e1 ⊢
  exact kk H' _ (zset M a (.inr (ci, fs.set k v))) (hH.set ⟨_, hc, t_OB.to (V := updV (vp_V fs) k v) ⟨_, e1, q2, q3, t_set q4 hap hk v⟩ (fun j _ => vp_updV_set hl v j)⟩ e3) (hS0.put e2 e3 hB) (zset_self _ _ _) (zset_ne _ _ _)
/-- an array of ints (t: its kind's place in zTy) by what it holds at its places -/
def zArr (G : zG) (t : Nat) (M : Mm) (a n : Nat) (g : Nat → Int32) : Prop := ∃ h : Nat → Int32, M a = some (.inl (G.2 t, n, .inl h)) ∧ ∀ k, k < n → h k = g k
def zRef (G : zG) (t : Nat) (M : Mm) (a n : Nat) (r : Nat → Nat) : Prop := ∃ h : Nat → Option Nat, M a = some (.inl (G.2 t, n, .inr (.inr (.inr (.inr h))))) ∧ ∀ k, k < n → h k = some (r k)
theorem zArr.kept {t : Nat} {M1 : Mm} {k : Nat} {g : Nat → Int32} (h : zArr G t M a k g) (hq : M1 a = M a) : zArr G t M1 a k g := by
  obtain ⟨f, h1, h2⟩ := h
  exact ⟨f, by rw [hq]; exact h1, h2⟩
theorem zRef.kept {t : Nat} {M1 : Mm} {k : Nat} {g : Nat → Nat} (h : zRef G t M a k g) (hq : M1 a = M a) : zRef G t M1 a k g := by
  obtain ⟨f, h1, h2⟩ := h
  exact ⟨f, by rw [hq]; exact h1, h2⟩
theorem zArr.to {t : Nat} {k : Nat} {g g' : Nat → Int32} (h : zArr G t M a k g) (hg : ∀ i, i < k → g i = g' i) : zArr G t M a k g' := by
  obtain ⟨f, h1, h2⟩ := h
  exact ⟨f, h1, fun i hi => (h2 i hi).trans (hg i hi)⟩
theorem zRef.to {t : Nat} {k : Nat} {g g' : Nat → Nat} (h : zRef G t M a k g) (hg : ∀ i, i < k → g i = g' i) : zRef G t M a k g' := by
  obtain ⟨f, h1, h2⟩ := h
  exact ⟨f, h1, fun i hi => (h2 i hi).trans (congrArg some (hg i hi))⟩
theorem nI_vin {k N : Nat} (h : k < N) (hN : N < 2 ^ 31) : vp_in (nI k) N := nI_in h hN
theorem z_iald {N : Nat} {g : Nat → Int32} (hE : zE p s m args meth c G own cc nL ret) (hH : zH G M H) (hA : zArr G 0 M a N g) {k : Nat} (hk : k < N) (hN : N < 2 ^ 31) (hdg : decode cc pc = .ok (.iaload, 1))
    (kk : W p l e R s m args below meth c H locs cells slots Q (F0 m (pc + 1) ls (.int (g k) :: rest))) : W p l e R s m args below meth c H locs cells slots Q (F0 m pc ls (.int (nI k) :: .ref a :: rest)) := by
  obtain ⟨f, h1, h2⟩ := hA
  refine va_iald hE.1 hE.2.1 hE.2.2.2.2.2.2.2.1 (hH.one h1) 0 0 rfl rfl (nI_vin hk hN) hdg ?_
  rw [nI_clamp (by omega), h2 k hk]
  exact kk
theorem z_zald {N : Nat} {g : Nat → Int32} (hE : zE p s m args meth c G own cc nL ret) (hH : zH G M H) (hA : zArr G 3 M a N g) {k : Nat} (hk : k < N) (hN : N < 2 ^ 31) (hdg : decode cc pc = .ok (.baload, 1))
    (kk : W p l e R s m args below meth c H locs cells slots Q (F0 m (pc + 1) ls (.int (g k) :: rest))) : W p l e R s m args below meth c H locs cells slots Q (F0 m pc ls (.int (nI k) :: .ref a :: rest)) := by
  obtain ⟨f, h1, h2⟩ := hA
  refine va_zald hE.1 hE.2.1 hE.2.2.2.2.2.2.2.1 (hH.one h1) 0 3 rfl rfl (nI_vin hk hN) hdg ?_
  rw [nI_clamp (by omega), h2 k hk]
  exact kk
theorem z_cald {N : Nat} {g : Nat → Int32} (hE : zE p s m args meth c G own cc nL ret) (hH : zH G M H) (hA : zArr G 4 M a N g) {k : Nat} (hk : k < N) (hN : N < 2 ^ 31) (hdg : decode cc pc = .ok (.caload, 1))
    (kk : W p l e R s m args below meth c H locs cells slots Q (F0 m (pc + 1) ls (.int (g k) :: rest))) : W p l e R s m args below meth c H locs cells slots Q (F0 m pc ls (.int (nI k) :: .ref a :: rest)) := by
  obtain ⟨f, h1, h2⟩ := hA
  refine va_cald hE.1 hE.2.1 hE.2.2.2.2.2.2.2.1 (hH.one h1) 0 4 rfl rfl (nI_vin hk hN) hdg ?_
  rw [nI_clamp (by omega), h2 k hk]
  exact kk
theorem z_aald {N t : Nat} {C : String} {r : Nat → Nat} (hE : zE p s m args meth c G own cc nL ret) (hH : zH G M H) (hA : zRef G t M a N r) (ht : (zTy G)[t]? = some (G.2 t, .object C)) {k : Nat} (hk : k < N) (hN : N < 2 ^ 31) (hdg : decode cc pc = .ok (.aaload, 1))
    (kk : W p l e R s m args below meth c H locs cells slots Q (F0 m (pc + 1) ls (.ref (r k) :: rest))) : W p l e R s m args below meth c H locs cells slots Q (F0 m pc ls (.int (nI k) :: .ref a :: rest)) := by
  obtain ⟨f, h1, h2⟩ := hA
  refine va_aldq hE.1 hE.2.1 hE.2.2.2.2.2.2.2.1 (hH.one h1) 0 t rfl ht (nI_vin hk hN) hdg ?_
  rw [nI_clamp (by omega), h2 k hk]
  exact kk
theorem z_iast {N : Nat} {g : Nat → Int32} (hE : zE p s m args meth c G own cc nL ret) (hH : zH G M H) (hS : zS n B0 H0 H locs) (hA : zArr G 0 M a N g) {k : Nat} {x : Int32} (hk : k < N) (hN : N < 2 ^ 31) (hB : B0 ≤ a) (hdg : decode cc pc = .ok (.iastore, 1))
    (kk : ∀ (H1 : Heap) (locs1 : List Loc) (M1 : Mm), zH G M1 H1 → zS n B0 H0 H1 locs1 → zArr G 0 M1 a N (fun i => if i = k then x else g i) → (∀ q : Nat, q ≠ a → M1 q = M q) → W p l e R s m args below meth c H1 locs1 cells slots Q (F0 m (pc + 1) ls rest)) : W p l e R s m args below meth c H locs cells slots Q (F0 m pc ls (.int x :: .int (nI k) :: .ref a :: rest)) := by
  obtain ⟨f, h1, h2⟩ := hA
  have hc : (nI k).toNatClampNeg = k := nI_clamp (by omega)
  refine W.iast hE.1 hE.2.1 (hH _ _ h1) ((hE.2.2.2.2.2.2.2.1.2 0 _ rfl).1 N (fun j => .int (f j))) (fun q => by cases q) (by show ¬ (nI k < 0 ∨ (arrV _ _ _).slots.size ≤ _); rw [arrV_size]; exact nI_vin hk hN) rfl rfl hdg fun H1 e z oq => ?_
  rw [hc] at e ⊢
  refine kk H1 _ (zset M a (.inl (G.2 0, N, .inl (fun i => if i = k then x else f i)))) (hH.set ?_ oq) (hS.put z oq hB) ⟨_, zset_self _ _ _, fun i hi => ?_⟩ (zset_ne _ _ _)
  · show H1[a]? = some (vp_cell _ _)
    rw [e, vp_cell_i, vp_cell_i, arrV_store]
    congr 2
    funext q
    by_cases hq : q = k
    · subst hq
      simp [updV]
    · simp [updV, hq]
  · by_cases hq : i = k
    · simp [hq]
    · simp [hq, h2 i hi]
theorem z_zast {N : Nat} {g : Nat → Int32} (hE : zE p s m args meth c G own cc nL ret) (hH : zH G M H) (hS : zS n B0 H0 H locs) (hA : zArr G 3 M a N g) {k : Nat} {x : Int32} (hx : narrow .boolean (.int x) = .int x) (hk : k < N) (hN : N < 2 ^ 31) (hB : B0 ≤ a) (hdg : decode cc pc = .ok (.bastore, 1))
    (kk : ∀ (H1 : Heap) (locs1 : List Loc) (M1 : Mm), zH G M1 H1 → zS n B0 H0 H1 locs1 → zArr G 3 M1 a N (fun i => if i = k then x else g i) → (∀ q : Nat, q ≠ a → M1 q = M q) → W p l e R s m args below meth c H1 locs1 cells slots Q (F0 m (pc + 1) ls rest)) : W p l e R s m args below meth c H locs cells slots Q (F0 m pc ls (.int x :: .int (nI k) :: .ref a :: rest)) := by
  obtain ⟨f, h1, h2⟩ := hA
  have hc : (nI k).toNatClampNeg = k := nI_clamp (by omega)
  refine W.zast hE.1 hE.2.1 (hH _ _ h1) ((hE.2.2.2.2.2.2.2.1.2 3 _ rfl).1 N (fun j => .int (f j))) (fun q => by cases q) (by show ¬ (nI k < 0 ∨ (arrV _ _ _).slots.size ≤ _); rw [arrV_size]; exact nI_vin hk hN) rfl rfl hdg fun H1 e z oq => ?_
  rw [hc, hx] at e
  rw [hc]
  refine kk H1 _ (zset M a (.inl (G.2 3, N, .inl (fun i => if i = k then x else f i)))) (hH.set ?_ oq) (hS.put z oq hB) ⟨_, zset_self _ _ _, fun i hi => ?_⟩ (zset_ne _ _ _)
  · show H1[a]? = some (vp_cell _ _)
    rw [e, vp_cell_i, vp_cell_i, arrV_store]
    congr 2
    funext q
    by_cases hq : q = k
    · subst hq
      simp [updV]
    · simp [updV, hq]
  · by_cases hq : i = k
    · simp [hq]
    · simp [hq, h2 i hi]
theorem z_cast {N : Nat} {g : Nat → Int32} (hE : zE p s m args meth c G own cc nL ret) (hH : zH G M H) (hS : zS n B0 H0 H locs) (hA : zArr G 4 M a N g) {k : Nat} {x : Int32} (hx : narrow .char (.int x) = .int x) (hk : k < N) (hN : N < 2 ^ 31) (hB : B0 ≤ a) (hdg : decode cc pc = .ok (.castore, 1))
    (kk : ∀ (H1 : Heap) (locs1 : List Loc) (M1 : Mm), zH G M1 H1 → zS n B0 H0 H1 locs1 → zArr G 4 M1 a N (fun i => if i = k then x else g i) → (∀ q : Nat, q ≠ a → M1 q = M q) → W p l e R s m args below meth c H1 locs1 cells slots Q (F0 m (pc + 1) ls rest)) : W p l e R s m args below meth c H locs cells slots Q (F0 m pc ls (.int x :: .int (nI k) :: .ref a :: rest)) := by
  obtain ⟨f, h1, h2⟩ := hA
  have hc : (nI k).toNatClampNeg = k := nI_clamp (by omega)
  refine W.cast hE.1 hE.2.1 (hH _ _ h1) ((hE.2.2.2.2.2.2.2.1.2 4 _ rfl).1 N (fun j => .int (f j))) (fun q => by cases q) (by show ¬ (nI k < 0 ∨ (arrV _ _ _).slots.size ≤ _); rw [arrV_size]; exact nI_vin hk hN) rfl rfl hdg fun H1 e z oq => ?_
  rw [hc, hx] at e
  rw [hc]
  refine kk H1 _ (zset M a (.inl (G.2 4, N, .inl (fun i => if i = k then x else f i)))) (hH.set ?_ oq) (hS.put z oq hB) ⟨_, zset_self _ _ _, fun i hi => ?_⟩ (zset_ne _ _ _)
  · show H1[a]? = some (vp_cell _ _)
    rw [e, vp_cell_i, vp_cell_i, arrV_store]
    congr 2
    funext q
    by_cases hq : q = k
    · subst hq
      simp [updV]
    · simp [updV, hq]
  · by_cases hq : i = k
    · simp [hq]
    · simp [hq, h2 i hi]
theorem z_aast {N t ci : Nat} {rq : vw_C} {r : Nat → Option Nat} {vs : List Value} {b : Nat} (hE : zE p s m args meth c G own cc nL ret) (hH : zH G M H) (hS : zS n B0 H0 H locs) (hA : M a = some (.inl (G.2 t, N, .inr (.inr (.inr (.inr r)))))) (ht : (zTy G)[t]? = some (G.2 t, .object rq.1)) (hb : M b = some (.inr (ci, vs))) (hc : vwCl[ci]? = some rq) {k : Nat} (hk : k < N) (hN : N < 2 ^ 31) (hB : B0 ≤ a) (hdg : decode cc pc = .ok (.aastore, 1))
    (kk : ∀ (H1 : Heap) (locs1 : List Loc) (M1 : Mm), zH G M1 H1 → zS n B0 H0 H1 locs1 → M1 a = some (.inl (G.2 t, N, .inr (.inr (.inr (.inr (fun i => if i = k then some b else r i)))))) → (∀ q : Nat, q ≠ a → M1 q = M q) → W p l e R s m args below meth c H1 locs1 cells slots Q (F0 m (pc + 1) ls rest)) : W p l e R s m args below meth c H locs cells slots Q (F0 m pc ls (.ref b :: .int (nI k) :: .ref a :: rest)) := by
  have hcl : (nI k).toNatClampNeg = k := nI_clamp (by omega)
  have hK := hE.2.2.2.2.2.2.2.1
  obtain ⟨r', hr', cellV, g1, g2, g3, -⟩ := hH _ _ hb
  have hcls := (hK.1 ci rq hc).2
  obtain ⟨kA, comp, k1, k2, k3, -⟩ := (hK.2 t _ ht).2
  have hcomp : comp = G.1.1 ci := Option.some.inj (k3.symm.trans hcls.1)
  subst hcomp
  obtain ⟨kC, hkC, -⟩ := hcls.2
  have hin := nI_vin hk hN
  refine W.aast hE.1 hE.2.1 (hH _ _ hA) (fun q h => by cases h) (fun h => by cases h) k1 k2 rfl hkC ⟨fun q => hin (Or.inl q), by show _ < (arrV _ _ _).slots.size; rw [arrV_size, hcl]; exact hk⟩ g1 (fun q h => by rw [g3] at h; cases h) (by rw [g2]; exact hkC) (by rw [g2]; exact va_assign hcls) rfl rfl hdg fun H1 e z oq => ?_
  rw [hcl] at e ⊢
  refine kk H1 _ (zset M a (.inl (G.2 t, N, .inr (.inr (.inr (.inr (fun i => if i = k then some b else r i))))))) (hH.set ?_ oq) (hS.put z oq hB) (zset_self _ _ _) (zset_ne _ _ _)
  show H1[a]? = some (vp_cell _ _)
  rw [e, vp_cell_q, vp_cell_q, arrV_store]
  congr 2
  funext q
  by_cases hq : q = k
  · subst hq
    simp [updV, va_rf]
  · simp [updV, hq]
end ZR
end
section
def zD (y : MethodName) (n : Nat) : Prop := y.cls ≠ "java/lang/invoke/MethodHandle" ∧ y.cls ≠ "java/lang/invoke/VarHandle" ∧ (parseMethodDescriptor y.desc).map (fun d => d.parameters.length) = some n
/-- what the table says of an instance method of n arguments -/
def zCal (y : MethodName) (cc : ByteArray) (nL : Nat) (ret : Option FieldType) (n : Nat) : Prop :=
  Cond.code y cc nL ret ∈ Tb ∧ Cond.instanceMethod y ∈ Tb ∧ Cond.selects y.cls y y ∈ Tb ∧ Cond.initialized y.cls ∈ Tb ∧ zD y n
def zCas (y : MethodName) (cc : ByteArray) (nL : Nat) (ret : Option FieldType) (n : Nat) : Prop :=
  Cond.code y cc nL ret ∈ Tb ∧ Cond.static y ∈ Tb ∧ Cond.initialized y.cls ∈ Tb ∧ zD y n
def zCai (y : MethodName) (cc : ByteArray) (nL : Nat) (n : Nat) : Prop :=
  Cond.code y cc nL none ∈ Tb ∧ Cond.instanceMethod y ∈ Tb ∧ Cond.initialized y.cls ∈ Tb ∧ y.name = "<init>" ∧ zD y n
section ZC
variable {p : Program} {l : Launch} {e : Env} {R : Room} {s : State} {m : MethodId} {args : Array Value} {below : List Frame} {meth : Method} {c : Code} {H : Heap} {locs : List Loc} {cells slots : Nat} {Q : State → Prop}
variable {cc cc' : ByteArray} {pc nL nL' k' mc ms n nd idx : Nat} {ls : Array Slot} {rest st As : List Value} {lv : List (Nat × Value)} {G : zG} {M : Mm} {b B0 : Nat} {own : String} {ret ret' : Option FieldType} {y : MethodName} {v : Option Value} {post : Mm → Prop}
theorem z_run {a : Array Value} (hr : va_Run p l e R s m args below meth c H locs cells slots mc ms (F0 m pc ls st) rest (zQ G B0 H.size mc v post a) (fun q => B0 ≤ q)) (hS : zS n B0 s.heap H locs)
    (kk : ∀ (H1 : Heap) (locs1 : List Loc) (M1 : Mm), zH G M1 H1 → post M1 → zS (n + mc) B0 s.heap H1 locs1 → W p l e R s m args below meth c H1 locs1 (cells + mc) (slots + ms) Q (F0 m (pc + 3) ls (v.toList ++ rest))) : W p l e R s m args below meth c H locs cells slots Q (F0 m pc ls st) := by
  intro T hT X
  obtain ⟨v', st₀, t, T', L, h0, X', hL, e1, e2, ⟨hv, ⟨M1, hM1, hp⟩, hz, hk⟩, st⟩ := hr T hT X
  cases hv
  rw [h0] at hk
  obtain ⟨t2, a1, b1⟩ := kk T'.heap (locs ++ L) M1 (by rw [e1]; exact hM1) hp ⟨⟨by rw [e1, hz]; have := hS.1.1; omega, fun q h1 h2 => by
      rw [e1, hk q (Nat.lt_of_lt_of_le h1 hS.1.1) (Nat.not_le.mp h2)]; exact hS.1.2.1 q h1 h2, fun q hq => by
      rcases List.mem_append.mp hq with h | h
      · exact hS.1.2.2 q h
      · exact hL q h⟩, by rw [e1, hz, hS.2]; omega⟩ T' rfl X'
  exact ⟨t2, st t2 a1, b1⟩
theorem z_pay (hts : ∀ w ∈ Tb, w.before args s = true) (hco : Cond.code y cc' nL' ret' ∈ Tb) : ∀ w ∈ Tw y cc' nL' ret', ∀ (a' : Array Value) (U : State), s.WarmedH U.vm → w.before a' U = true := pay_in hts (tw_good hco)
theorem z_callB (hE : zE p s m args meth c G own cc nL ret) (hco : Cond.code y cc' nL' ret' ∈ Tb) (hini : Cond.initialized y.cls ∈ Tb) (hd : zD y nd) (hli : Cond.methodLink own idx y ∈ Tb) (hr : k' + 1 ≤ R.frames ∧ 19 + nL' + 32 * k' ≤ R.locals) : CallB R s args own idx y cc' nL' ret' (Tw y cc' nL' ret') (zR k' mc ms) mc ms nd := by
  have hts := hE.2.2.2.2.1
  refine ⟨rfl, rfl, hr.1, by show 8 + (nL' + 11) + 32 * k' ≤ _; omega, z_pay hts hco, List.mem_cons_self, hts _ hco, hts _ hini, ⟨hd.1, hd.2.1⟩, fun sig h => ?_, hts _ hli⟩
  have h2 := hd.2.2
  rw [h] at h2
  exact (Option.some.inj h2).symm
theorem z_callV (hE : zE p s m args meth c G own cc nL ret) (hH : zH G M H) (hS : zS n B0 s.heap H locs) (hB0 : B0 ≤ s.heap.size) (hl : lv_has ls nL lv) (ca : zCal y cc' nL' ret' nd) (hli : Cond.methodLink own idx y ∈ Tb) (hM : zMet l y cc' nL' ret' k' mc ms G B0 M (.ref b :: As) v post) {ci : Nat} {fs : List Value} {rq : vw_C} (hrec : M b = some (.inr (ci, fs))) (hci : vwCl[ci]? = some rq) (hC : rq.1 = y.cls) {st2 : List Value} (h2 : v.toList ++ rest = st2) (hn : As.length = nd) (hst : st = As.reverse ++ .ref b :: rest) (hr : k' + 1 ≤ R.frames ∧ 19 + nL' + 32 * k' ≤ R.locals) (hcat : (rest.map fun v => v.category).sum ≤ 8) (hcs : cells + mc ≤ R.cells ∧ slots + ms ≤ R.slots) (hdg : decode cc pc = .ok (.invokevirtual idx, 3))
    (kk : ∀ (H1 : Heap) (locs1 : List Loc) (M1 : Mm), zH G M1 H1 → post M1 → zS (n + mc) B0 s.heap H1 locs1 → W p l e R s m args below meth c H1 locs1 (cells + mc) (slots + ms) Q (F0 m (pc + 3) ls st2)) : W p l e R s m args below meth c H locs cells slots Q (F0 m pc ls st) := by
  have hts := hE.2.2.2.2.1
  have hK := hE.2.2.2.2.2.2.2
  subst hst
  subst h2
  have hB := z_callB (R := R) (mc := mc) (ms := ms) hE ca.1 ca.2.2.2.1 ca.2.2.2.2 hli hr
  refine z_run (va_runV (Ts := Tb) (As := As) (rest := rest) (C := y.cls) ⟨hE.1, hE.2.1, hE.2.2.1, hE.2.2.2.1, hts⟩ (hM H.size (by rw [hS.2]; omega)) ⟨hB, hts _ ca.2.1, hts _ ca.2.2.1⟩ ⟨zP.blind, ?_, fun U hU hW => ⟨rfl, by rw [hU]; exact hH, hK.warm hW, by rw [hU]⟩⟩ rfl hn hl.1 rfl (lv_room hcat) hdg hcs) hS kk
  have := va_recv hK.1 (hH.one hrec) hci (q0 := 0) rfl
  rw [hC] at this
  exact this
theorem z_callS (hE : zE p s m args meth c G own cc nL ret) (hH : zH G M H) (hS : zS n B0 s.heap H locs) (hB0 : B0 ≤ s.heap.size) (hl : lv_has ls nL lv) (ca : zCas y cc' nL' ret' nd) (hli : Cond.methodLink own idx y ∈ Tb) (hM : zMet l y cc' nL' ret' k' mc ms G B0 M As v post) {st2 : List Value} (h2 : v.toList ++ rest = st2) (hn : As.length = nd) (hst : st = As.reverse ++ rest) (hr : k' + 1 ≤ R.frames ∧ 19 + nL' + 32 * k' ≤ R.locals) (hcat : (rest.map fun v => v.category).sum ≤ 8) (hcs : cells + mc ≤ R.cells ∧ slots + ms ≤ R.slots) (hdg : decode cc pc = .ok (.invokestatic idx, 3))
    (kk : ∀ (H1 : Heap) (locs1 : List Loc) (M1 : Mm), zH G M1 H1 → post M1 → zS (n + mc) B0 s.heap H1 locs1 → W p l e R s m args below meth c H1 locs1 (cells + mc) (slots + ms) Q (F0 m (pc + 3) ls st2)) : W p l e R s m args below meth c H locs cells slots Q (F0 m pc ls st) := by
  have hts := hE.2.2.2.2.1
  have hK := hE.2.2.2.2.2.2.2
  subst hst
  subst h2
  have hB := z_callB (R := R) (mc := mc) (ms := ms) hE ca.1 ca.2.2.1 ca.2.2.2 hli hr
  exact z_run (va_runS (Ts := Tb) (As := As) (rest := rest) ⟨hE.1, hE.2.1, hE.2.2.1, hE.2.2.2.1, hts⟩ (hM H.size (by rw [hS.2]; omega)) ⟨hB, hts _ ca.2.1⟩ ⟨zP.blind, fun U hU hW => ⟨rfl, by rw [hU]; exact hH, hK.warm hW, by rw [hU]⟩⟩ rfl hn hl.1 rfl (lv_room hcat) hdg hcs) hS kk
theorem z_callI (hE : zE p s m args meth c G own cc nL ret) (hH : zH G M H) (hS : zS n B0 s.heap H locs) (hB0 : B0 ≤ s.heap.size) (hl : lv_has ls nL lv) (ca : zCai y cc' nL' nd) (hli : Cond.methodLink own idx y ∈ Tb) (hM : zMet l y cc' nL' none k' mc ms G B0 M (.ref b :: As) v post) {st2 : List Value} (h2 : v.toList ++ rest = st2) (hn : As.length = nd) (hst : st = As.reverse ++ .ref b :: rest) (hr : k' + 1 ≤ R.frames ∧ 19 + nL' + 32 * k' ≤ R.locals) (hcat : (rest.map fun v => v.category).sum ≤ 8) (hcs : cells + mc ≤ R.cells ∧ slots + ms ≤ R.slots) (hdg : decode cc pc = .ok (.invokespecial idx, 3))
    (kk : ∀ (H1 : Heap) (locs1 : List Loc) (M1 : Mm), zH G M1 H1 → post M1 → zS (n + mc) B0 s.heap H1 locs1 → W p l e R s m args below meth c H1 locs1 (cells + mc) (slots + ms) Q (F0 m (pc + 3) ls st2)) : W p l e R s m args below meth c H locs cells slots Q (F0 m pc ls st) := by
  have hts := hE.2.2.2.2.1
  have hK := hE.2.2.2.2.2.2.2
  subst hst
  subst h2
  have hB := z_callB (R := R) (mc := mc) (ms := ms) hE ca.1 ca.2.2.1 ca.2.2.2.2 hli hr
  exact z_run (va_runI (Ts := Tb) (As := As) (rest := rest) ⟨hE.1, hE.2.1, hE.2.2.1, hE.2.2.2.1, hts⟩ (hM H.size (by rw [hS.2]; omega)) ⟨hB, ca.2.2.2.1, hts _ ca.2.1⟩ ⟨zP.blind, fun U hU hW => ⟨rfl, by rw [hU]; exact hH, hK.warm hW, by rw [hU]⟩⟩ rfl hn hl.1 rfl (lv_room hcat) hdg hcs) hS kk
theorem z_cn {host : String} (hE : zE p s m args meth c G own cc nL ret) (hco : Cond.code y cc' nL' ret' ∈ Tb) (hini : Cond.initialized y.cls ∈ Tb) (hd : zD y nd) (hli : va_Nw (.methodLinkNest own idx y host) s) (hr : k' + 1 ≤ R.frames ∧ 19 + nL' + 32 * k' ≤ R.locals) : va_CN R s args own idx y host cc' nL' ret' (Tw y cc' nL' ret') (zR k' mc ms) mc ms nd := by
  have hts := hE.2.2.2.2.1
  refine ⟨⟨rfl, rfl, hr.1, by show 8 + (nL' + 11) + 32 * k' ≤ _; omega, z_pay hts hco, List.mem_cons_self⟩, hts _ hco, hts _ hini, ⟨hd.1, hd.2.1⟩, fun sig h => ?_, va_Nw.use rfl hli⟩
  have h2 := hd.2.2
  rw [h] at h2
  exact (Option.some.inj h2).symm
theorem z_callSN {host : String} (hE : zE p s m args meth c G own cc nL ret) (hH : zH G M H) (hS : zS n B0 s.heap H locs) (hB0 : B0 ≤ s.heap.size) (hl : lv_has ls nL lv) (ca : zCas y cc' nL' ret' nd) (hli : va_Nw (.methodLinkNest own idx y host) s) (hM : zMet l y cc' nL' ret' k' mc ms G B0 M As v post) {st2 : List Value} (h2 : v.toList ++ rest = st2) (hn : As.length = nd) (hst : st = As.reverse ++ rest) (hr : k' + 1 ≤ R.frames ∧ 19 + nL' + 32 * k' ≤ R.locals) (hcat : (rest.map fun v => v.category).sum ≤ 8) (hcs : cells + mc ≤ R.cells ∧ slots + ms ≤ R.slots) (hdg : decode cc pc = .ok (.invokestatic idx, 3))
    (kk : ∀ (H1 : Heap) (locs1 : List Loc) (M1 : Mm), zH G M1 H1 → post M1 → zS (n + mc) B0 s.heap H1 locs1 → W p l e R s m args below meth c H1 locs1 (cells + mc) (slots + ms) Q (F0 m (pc + 3) ls st2)) : W p l e R s m args below meth c H locs cells slots Q (F0 m pc ls st) := by
  have hts := hE.2.2.2.2.1
  have hK := hE.2.2.2.2.2.2.2
  subst hst
  subst h2
  have hB := z_cn (R := R) (mc := mc) (ms := ms) hE ca.1 ca.2.2.1 ca.2.2.2 hli hr
  exact z_run (va_runSN (Ts := Tb) (As := As) (rest := rest) ⟨hE.1, hE.2.1, hE.2.2.1, hE.2.2.2.1, hts⟩ (hM H.size (by rw [hS.2]; omega)) ⟨hB, hts _ ca.2.1, trivial⟩ ⟨zP.blind, fun U hU hW => ⟨rfl, by rw [hU]; exact hH, hK.warm hW, by rw [hU]⟩⟩ rfl hn hl.1 rfl (lv_room hcat) hdg hcs) hS kk
theorem z_callIN {host : String} (hE : zE p s m args meth c G own cc nL ret) (hH : zH G M H) (hS : zS n B0 s.heap H locs) (hB0 : B0 ≤ s.heap.size) (hl : lv_has ls nL lv) (ca : zCai y cc' nL' nd) (hli : va_Nw (.methodLinkNest own idx y host) s) (hM : zMet l y cc' nL' none k' mc ms G B0 M (.ref b :: As) v post) {st2 : List Value} (h2 : v.toList ++ rest = st2) (hn : As.length = nd) (hst : st = As.reverse ++ .ref b :: rest) (hr : k' + 1 ≤ R.frames ∧ 19 + nL' + 32 * k' ≤ R.locals) (hcat : (rest.map fun v => v.category).sum ≤ 8) (hcs : cells + mc ≤ R.cells ∧ slots + ms ≤ R.slots) (hdg : decode cc pc = .ok (.invokespecial idx, 3))
    (kk : ∀ (H1 : Heap) (locs1 : List Loc) (M1 : Mm), zH G M1 H1 → post M1 → zS (n + mc) B0 s.heap H1 locs1 → W p l e R s m args below meth c H1 locs1 (cells + mc) (slots + ms) Q (F0 m (pc + 3) ls st2)) : W p l e R s m args below meth c H locs cells slots Q (F0 m pc ls st) := by
  have hts := hE.2.2.2.2.1
  have hK := hE.2.2.2.2.2.2.2
  subst hst
  subst h2
  have hB := z_cn (R := R) (mc := mc) (ms := ms) hE ca.1 ca.2.2.1 ca.2.2.2.2 hli hr
  exact z_run (va_runIN (Ts := Tb) (As := As) (rest := rest) ⟨hE.1, hE.2.1, hE.2.2.1, hE.2.2.2.1, hts⟩ (hM H.size (by rw [hS.2]; omega)) ⟨hB, ca.2.2.2.1, hts _ ca.2.1⟩ ⟨zP.blind, fun U hU hW => ⟨rfl, by rw [hU]; exact hH, hK.warm hW, by rw [hU]⟩⟩ rfl hn hl.1 rfl (lv_room hcat) hdg hcs) hS kk
end ZC
/-! natural numbers as ints -/
theorem nI_mul (a b : Nat) : nI a * nI b = nI (a * b) := by
  unfold nI; exact (Int32.ofNat_mul a b).symm
theorem nI_sub {a b : Nat} (h : b ≤ a) : nI a - nI b = nI (a - b) := by
  have : nI (a - b) + nI b = nI a := by rw [nI_add, Nat.sub_add_cancel h]
  rw [← this, Int32.add_sub_cancel]
theorem nI_lit (n : Nat) : Int32.ofNat n = nI n := rfl
theorem nI_inj {a b : Nat} (ha : a < 2 ^ 31) (hb : b < 2 ^ 31) : nI a = nI b ↔ a = b := by
  constructor
  · intro h
    have h1 := congrArg Int32.toInt h
    rw [nI_toInt ha, nI_toInt hb] at h1
    omega
  · intro h; rw [h]
theorem nI_lt_iff {a b : Nat} (ha : a < 2 ^ 31) (hb : b < 2 ^ 31) : nI a < nI b ↔ a < b := by
  rw [Int32.lt_iff_toInt_lt, nI_toInt ha, nI_toInt hb]; omega
theorem nI_le_iff {a b : Nat} (ha : a < 2 ^ 31) (hb : b < 2 ^ 31) : nI a ≤ nI b ↔ a ≤ b := by
  rw [Int32.le_iff_toInt_le, nI_toInt ha, nI_toInt hb]; omega
theorem nI_ofB {x : Int32} (h0 : 0 ≤ x) {b : Nat} (hb : b < 2 ^ 31) (h1 : x ≤ nI b) : ∃ k, x = nI k ∧ k ≤ b := by
  refine ⟨x.toInt.toNat, ?_, ?_⟩
  · have h2 : 0 ≤ x.toInt := by simpa using Int32.le_iff_toInt_le.mp h0
    apply Int32.toInt_inj.mp
    have h3 := Int32.le_iff_toInt_le.mp h1
    rw [nI_toInt hb] at h3
    rw [nI_toInt (by omega)]
    omega
  · have h3 := Int32.le_iff_toInt_le.mp h1
    rw [nI_toInt hb] at h3
    omega
theorem nI_inc (k : Nat) : nI k + Int32.ofInt 1 = nI (k + 1) := (nI_succ k).symm
theorem nI_dec (k : Nat) : nI (k + 1) + Int32.ofInt (-1) = nI k := by
  rw [← nI_pred k, nI_succ]
  rw [Int32.sub_eq_add_neg]; rfl
section ZN
variable {p : Program} {l : Launch} {e : Env} {R : Room} {s : State} {m : MethodId} {args : Array Value} {below : List Frame} {meth : Method} {c : Code} {H : Heap} {locs : List Loc} {cells slots : Nat} {Q : State → Prop}
variable {cc : ByteArray} {pc tgt : Nat} {off : Int} {ls : Array Slot} {rest : List Value} {a b : Nat}
theorem n_iconst (hx : p.tables.exec = Jvm.exec) (hb : c.code = cc) (k : Nat) {z : Int} (hdg : decode cc pc = .ok (.iconst z, 1)) (hz : Int32.ofInt z = nI k) (kk : W p l e R s m args below meth c H locs cells slots Q (F0 m (pc + 1) ls (.int (nI k) :: rest))) : W p l e R s m args below meth c H locs cells slots Q (F0 m pc ls rest) := lv_iconst hx hb hdg hz kk
theorem n_bipush (hx : p.tables.exec = Jvm.exec) (hb : c.code = cc) (k : Nat) {z : Int} (hdg : decode cc pc = .ok (.bipush z, 2)) (hz : (Int8.ofInt z).toInt32 = nI k) (kk : W p l e R s m args below meth c H locs cells slots Q (F0 m (pc + 2) ls (.int (nI k) :: rest))) : W p l e R s m args below meth c H locs cells slots Q (F0 m pc ls rest) := lv_bipush hx hb hdg hz kk
theorem n_sipush (hx : p.tables.exec = Jvm.exec) (hb : c.code = cc) (k : Nat) {z : Int} (hdg : decode cc pc = .ok (.sipush z, 3)) (hz : (Int16.ofInt z).toInt32 = nI k) (kk : W p l e R s m args below meth c H locs cells slots Q (F0 m (pc + 3) ls (.int (nI k) :: rest))) : W p l e R s m args below meth c H locs cells slots Q (F0 m pc ls rest) := lv_sipush hx hb hdg hz kk
theorem n_iadd (hx : p.tables.exec = Jvm.exec) (hb : c.code = cc) (hdg : decode cc pc = .ok (.iadd, 1)) (kk : W p l e R s m args below meth c H locs cells slots Q (F0 m (pc + 1) ls (.int (nI (a + b)) :: rest))) : W p l e R s m args below meth c H locs cells slots Q (F0 m pc ls (.int (nI b) :: .int (nI a) :: rest)) := lv_iadd hx hb hdg (by rw [nI_add]; exact kk)
theorem n_imul (hx : p.tables.exec = Jvm.exec) (hb : c.code = cc) (hdg : decode cc pc = .ok (.imul, 1)) (kk : W p l e R s m args below meth c H locs cells slots Q (F0 m (pc + 1) ls (.int (nI (a * b)) :: rest))) : W p l e R s m args below meth c H locs cells slots Q (F0 m pc ls (.int (nI b) :: .int (nI a) :: rest)) := lv_imul hx hb hdg (by rw [nI_mul]; exact kk)
theorem n_isub (hx : p.tables.exec = Jvm.exec) (hb : c.code = cc) (hab : b ≤ a) (hdg : decode cc pc = .ok (.isub, 1)) (kk : W p l e R s m args below meth c H locs cells slots Q (F0 m (pc + 1) ls (.int (nI (a - b)) :: rest))) : W p l e R s m args below meth c H locs cells slots Q (F0 m pc ls (.int (nI b) :: .int (nI a) :: rest)) := lv_isub hx hb hdg (by rw [nI_sub hab]; exact kk)
theorem nI_div {a b : Nat} (ha : a < 2 ^ 31) (hb : b < 2 ^ 31) : nI a / nI b = nI (a / b) := by
  apply Int32.toInt_inj.mp
  have h1 : a / b ≤ a := Nat.div_le_self a b
  rw [nI_toInt (by omega)]
  by_cases hb0 : b = 0
  · subst hb0
    simp [nI_0]
  · rw [Int32.toInt_div_of_ne_left]
    · rw [nI_toInt ha, nI_toInt hb]
      exact (Int.ofNat_tdiv a b).symm
    · intro h
      have h2 := congrArg Int32.toInt h
      rw [nI_toInt ha] at h2
      have h3 : (Int32.minValue).toInt = -2147483648 := by decide
      omega
theorem nI_z {b : Nat} (hb : b < 2 ^ 31) : nI b = 0 ↔ b = 0 := by rw [← nI_0, nI_inj hb (by decide)]
theorem n_idiv (hx : p.tables.exec = Jvm.exec) (hb : c.code = cc) (ha : a < 2 ^ 31) (hbb : b < 2 ^ 31) (h0 : 0 < b) (hdg : decode cc pc = .ok (.idiv, 1)) (kk : W p l e R s m args below meth c H locs cells slots Q (F0 m (pc + 1) ls (.int (nI (a / b)) :: rest))) : W p l e R s m args below meth c H locs cells slots Q (F0 m pc ls (.int (nI b) :: .int (nI a) :: rest)) := lv_idiv hx hb hdg (by rw [nI_z hbb]; omega) (by rw [nI_div ha hbb]; exact kk)
theorem n_irem (hx : p.tables.exec = Jvm.exec) (hb : c.code = cc) (ha : a < 2 ^ 31) (hbb : b < 2 ^ 31) (h0 : 0 < b) (hdg : decode cc pc = .ok (.irem, 1)) (kk : W p l e R s m args below meth c H locs cells slots Q (F0 m (pc + 1) ls (.int (nI (a % b)) :: rest))) : W p l e R s m args below meth c H locs cells slots Q (F0 m pc ls (.int (nI b) :: .int (nI a) :: rest)) := by
  refine lv_irem hx hb hdg (by rw [nI_z hbb]; omega) ?_
  have h1 : a / b * b ≤ a := Nat.div_mul_le_self a b
  rw [nI_div ha hbb, nI_mul, nI_sub h1]
  have h2 : a - a / b * b = a % b := by rw [Nat.mul_comm]; exact (Nat.mod_eq_sub_mul_div).symm
  rw [h2]
  exact kk
theorem n_cmp_eq (hx : p.tables.exec = Jvm.exec) (hb : c.code = cc) (ha : a < 2 ^ 31) (hbb : b < 2 ^ 31) (hdg : decode cc pc = .ok (.if_icmp .eq off, 3)) (ht : (pc : Int) + off = (tgt : Int)) (kt : a = b → W p l e R s m args below meth c H locs cells slots Q (F0 m tgt ls rest)) (kf : a ≠ b → W p l e R s m args below meth c H locs cells slots Q (F0 m (pc + 3) ls rest)) : W p l e R s m args below meth c H locs cells slots Q (F0 m pc ls (.int (nI b) :: .int (nI a) :: rest)) := lv_icmp_eq hx hb hdg ht (fun h => kt ((nI_inj ha hbb).mp h)) (fun h => kf (fun q => h ((nI_inj ha hbb).mpr q)))
theorem n_cmp_ne (hx : p.tables.exec = Jvm.exec) (hb : c.code = cc) (ha : a < 2 ^ 31) (hbb : b < 2 ^ 31) (hdg : decode cc pc = .ok (.if_icmp .ne off, 3)) (ht : (pc : Int) + off = (tgt : Int)) (kt : a ≠ b → W p l e R s m args below meth c H locs cells slots Q (F0 m tgt ls rest)) (kf : a = b → W p l e R s m args below meth c H locs cells slots Q (F0 m (pc + 3) ls rest)) : W p l e R s m args below meth c H locs cells slots Q (F0 m pc ls (.int (nI b) :: .int (nI a) :: rest)) := lv_icmp_ne hx hb hdg ht (fun h => kt (fun q => h ((nI_inj ha hbb).mpr q))) (fun h => kf ((nI_inj ha hbb).mp h))
theorem n_cmp_lt (hx : p.tables.exec = Jvm.exec) (hb : c.code = cc) (ha : a < 2 ^ 31) (hbb : b < 2 ^ 31) (hdg : decode cc pc = .ok (.if_icmp .lt off, 3)) (ht : (pc : Int) + off = (tgt : Int)) (kt : a < b → W p l e R s m args below meth c H locs cells slots Q (F0 m tgt ls rest)) (kf : b ≤ a → W p l e R s m args below meth c H locs cells slots Q (F0 m (pc + 3) ls rest)) : W p l e R s m args below meth c H locs cells slots Q (F0 m pc ls (.int (nI b) :: .int (nI a) :: rest)) := lv_icmp_lt hx hb hdg ht (fun h => kt ((nI_lt_iff ha hbb).mp h)) (fun h => kf (Nat.not_lt.mp (fun q => h ((nI_lt_iff ha hbb).mpr q))))
theorem n_cmp_ge (hx : p.tables.exec = Jvm.exec) (hb : c.code = cc) (ha : a < 2 ^ 31) (hbb : b < 2 ^ 31) (hdg : decode cc pc = .ok (.if_icmp .ge off, 3)) (ht : (pc : Int) + off = (tgt : Int)) (kt : b ≤ a → W p l e R s m args below meth c H locs cells slots Q (F0 m tgt ls rest)) (kf : a < b → W p l e R s m args below meth c H locs cells slots Q (F0 m (pc + 3) ls rest)) : W p l e R s m args below meth c H locs cells slots Q (F0 m pc ls (.int (nI b) :: .int (nI a) :: rest)) := lv_icmp_ge hx hb hdg ht (fun h => kt ((nI_le_iff hbb ha).mp h)) (fun h => kf (Nat.not_le.mp (fun q => h ((nI_le_iff hbb ha).mpr q))))
theorem n_cmp_gt (hx : p.tables.exec = Jvm.exec) (hb : c.code = cc) (ha : a < 2 ^ 31) (hbb : b < 2 ^ 31) (hdg : decode cc pc = .ok (.if_icmp .gt off, 3)) (ht : (pc : Int) + off = (tgt : Int)) (kt : b < a → W p l e R s m args below meth c H locs cells slots Q (F0 m tgt ls rest)) (kf : a ≤ b → W p l e R s m args below meth c H locs cells slots Q (F0 m (pc + 3) ls rest)) : W p l e R s m args below meth c H locs cells slots Q (F0 m pc ls (.int (nI b) :: .int (nI a) :: rest)) := lv_icmp_gt hx hb hdg ht (fun h => kt ((nI_lt_iff hbb ha).mp h)) (fun h => kf (Nat.not_lt.mp (fun q => h ((nI_lt_iff hbb ha).mpr q))))
theorem n_cmp_le (hx : p.tables.exec = Jvm.exec) (hb : c.code = cc) (ha : a < 2 ^ 31) (hbb : b < 2 ^ 31) (hdg : decode cc pc = .ok (.if_icmp .le off, 3)) (ht : (pc : Int) + off = (tgt : Int)) (kt : a ≤ b → W p l e R s m args below meth c H locs cells slots Q (F0 m tgt ls rest)) (kf : b < a → W p l e R s m args below meth c H locs cells slots Q (F0 m (pc + 3) ls rest)) : W p l e R s m args below meth c H locs cells slots Q (F0 m pc ls (.int (nI b) :: .int (nI a) :: rest)) := lv_icmp_le hx hb hdg ht (fun h => kt ((nI_le_iff ha hbb).mp h)) (fun h => kf (Nat.not_le.mp (fun q => h ((nI_le_iff ha hbb).mpr q))))
theorem n_if_eq (hx : p.tables.exec = Jvm.exec) (hb : c.code = cc) (ha : a < 2 ^ 31) (hdg : decode cc pc = .ok (.ifCond .eq off, 3)) (ht : (pc : Int) + off = (tgt : Int)) (kt : a = 0 → W p l e R s m args below meth c H locs cells slots Q (F0 m tgt ls rest)) (kf : 0 < a → W p l e R s m args below meth c H locs cells slots Q (F0 m (pc + 3) ls rest)) : W p l e R s m args below meth c H locs cells slots Q (F0 m pc ls (.int (nI a) :: rest)) := lv_if_eq hx hb hdg ht (fun h => kt ((nI_z ha).mp h)) (fun h => kf (Nat.pos_of_ne_zero (fun q => h ((nI_z ha).mpr q))))
theorem n_if_ne (hx : p.tables.exec = Jvm.exec) (hb : c.code = cc) (ha : a < 2 ^ 31) (hdg : decode cc pc = .ok (.ifCond .ne off, 3)) (ht : (pc : Int) + off = (tgt : Int)) (kt : 0 < a → W p l e R s m args below meth c H locs cells slots Q (F0 m tgt ls rest)) (kf : a = 0 → W p l e R s m args below meth c H locs cells slots Q (F0 m (pc + 3) ls rest)) : W p l e R s m args below meth c H locs cells slots Q (F0 m pc ls (.int (nI a) :: rest)) := lv_if_ne hx hb hdg ht (fun h => kt (Nat.pos_of_ne_zero (fun q => h ((nI_z ha).mpr q)))) (fun h => kf ((nI_z ha).mp h))
theorem n_if_le (hx : p.tables.exec = Jvm.exec) (hb : c.code = cc) (ha : a < 2 ^ 31) (hdg : decode cc pc = .ok (.ifCond .le off, 3)) (ht : (pc : Int) + off = (tgt : Int)) (kt : a = 0 → W p l e R s m args below meth c H locs cells slots Q (F0 m tgt ls rest)) (kf : 0 < a → W p l e R s m args below meth c H locs cells slots Q (F0 m (pc + 3) ls rest)) : W p l e R s m args below meth c H locs cells slots Q (F0 m pc ls (.int (nI a) :: rest)) := lv_if_le hx hb hdg ht (fun h => kt (Nat.le_zero.mp ((nI_le_iff ha (by decide)).mp (by rw [nI_0]; exact h)))) (fun h => kf (Nat.not_le.mp (fun q => h (by rw [← nI_0]; exact (nI_le_iff ha (by decide)).mpr q))))
theorem n_if_gt (hx : p.tables.exec = Jvm.exec) (hb : c.code = cc) (ha : a < 2 ^ 31) (hdg : decode cc pc = .ok (.ifCond .gt off, 3)) (ht : (pc : Int) + off = (tgt : Int)) (kt : 0 < a → W p l e R s m args below meth c H locs cells slots Q (F0 m tgt ls rest)) (kf : a = 0 → W p l e R s m args below meth c H locs cells slots Q (F0 m (pc + 3) ls rest)) : W p l e R s m args below meth c H locs cells slots Q (F0 m pc ls (.int (nI a) :: rest)) := lv_if_gt hx hb hdg ht (fun h => kt ((nI_lt_iff (by decide) ha).mp (by rw [nI_0]; exact h))) (fun h => kf (Nat.le_zero.mp (Nat.not_lt.mp (fun q => h (by rw [← nI_0]; exact (nI_lt_iff (by decide) ha).mpr q)))))
theorem n_if_lt (hx : p.tables.exec = Jvm.exec) (hb : c.code = cc) (ha : a < 2 ^ 31) (hdg : decode cc pc = .ok (.ifCond .lt off, 3)) (kf : W p l e R s m args below meth c H locs cells slots Q (F0 m (pc + 3) ls rest)) (ht : (pc : Int) + off = (tgt : Int)) : W p l e R s m args below meth c H locs cells slots Q (F0 m pc ls (.int (nI a) :: rest)) := lv_if_lt hx hb hdg ht (fun h => absurd h (nI_pos ha)) (fun _ => kf)
theorem n_if_ge (hx : p.tables.exec = Jvm.exec) (hb : c.code = cc) (ha : a < 2 ^ 31) (hdg : decode cc pc = .ok (.ifCond .ge off, 3)) (ht : (pc : Int) + off = (tgt : Int)) (kt : W p l e R s m args below meth c H locs cells slots Q (F0 m tgt ls rest)) : W p l e R s m args below meth c H locs cells slots Q (F0 m pc ls (.int (nI a) :: rest)) := lv_if_ge hx hb hdg ht (fun _ => kt) (fun h => absurd (nI_pos' ha) h)
/-- a count that goes down to -1: its value at j is nI j - 1 -/
theorem n_down_lt (hx : p.tables.exec = Jvm.exec) (hb : c.code = cc) (ha : a < 2 ^ 31) (hdg : decode cc pc = .ok (.ifCond .lt off, 3)) (ht : (pc : Int) + off = (tgt : Int)) (kt : a = 0 → W p l e R s m args below meth c H locs cells slots Q (F0 m tgt ls rest)) (kf : ∀ j, a = j + 1 → W p l e R s m args below meth c H locs cells slots Q (F0 m (pc + 3) ls rest)) : W p l e R s m args below meth c H locs cells slots Q (F0 m pc ls (.int (nI a - nI 1) :: rest)) := by
  cases a with
  | zero => exact lv_if_lt hx hb hdg ht (fun _ => kt rfl) (fun h => absurd (by decide) h)
  | succ j =>
    have e1 : nI (j + 1) - nI 1 = nI j := nI_pred j
    rw [e1]
    exact lv_if_lt hx hb hdg ht (fun h => absurd h (nI_pos (by omega))) (fun _ => kf j rfl)
theorem b_if_eq (hx : p.tables.exec = Jvm.exec) (hb : c.code = cc) {t : Bool} (hdg : decode cc pc = .ok (.ifCond .eq off, 3)) (ht : (pc : Int) + off = (tgt : Int)) (kt : t = false → W p l e R s m args below meth c H locs cells slots Q (F0 m tgt ls rest)) (kf : t = true → W p l e R s m args below meth c H locs cells slots Q (F0 m (pc + 3) ls rest)) : W p l e R s m args below meth c H locs cells slots Q (F0 m pc ls (.int (zb t) :: rest)) := by
  cases t with
  | true => exact lv_if_eq hx hb hdg ht (fun h => absurd h (by decide)) (fun _ => kf rfl)
  | false => exact lv_if_eq hx hb hdg ht (fun _ => kt rfl) (fun h => absurd rfl h)
theorem b_if_ne (hx : p.tables.exec = Jvm.exec) (hb : c.code = cc) {t : Bool} (hdg : decode cc pc = .ok (.ifCond .ne off, 3)) (ht : (pc : Int) + off = (tgt : Int)) (kt : t = true → W p l e R s m args below meth c H locs cells slots Q (F0 m tgt ls rest)) (kf : t = false → W p l e R s m args below meth c H locs cells slots Q (F0 m (pc + 3) ls rest)) : W p l e R s m args below meth c H locs cells slots Q (F0 m pc ls (.int (zb t) :: rest)) := by
  cases t with
  | true => exact lv_if_ne hx hb hdg ht (fun _ => kt rfl) (fun h => absurd h (by decide))
  | false => exact lv_if_ne hx hb hdg ht (fun h => absurd rfl h) (fun _ => kf rfl)
end ZN
end
section
abbrev zW (p : Program) (l : Launch) (e : Env) (k mc ms : Nat) (s : State) (m : MethodId) (av : List Value) (below : List Frame) (meth : Method) (cd : Code) (H : Heap) (locs : List Loc) (cells slots : Nat) (G : zG) (B0 : Nat) (v : Option Value) (post : Mm → Prop) (g : JFrame) : Prop :=
  W p l e (zR k mc ms) s m av.toArray below meth cd H locs cells slots (MQ below (zQ G B0 s.heap.size mc v post) av.toArray s mc ms (fun q => B0 ≤ q)) g
theorem z_gen {p : Program} {l : Launch} {e : Env} {R : Room} {s : State} {m : MethodId} {args : Array Value} {below : List Frame} {meth : Method} {c : Code} {Q : State → Prop} {g : JFrame} {G : zG} {M : Mm} (B0 : Nat) (k : ∀ (H : Heap) (locs : List Loc), zH G M H → zS 0 B0 s.heap H locs → W p l e R s m args below meth c H locs 0 0 Q g) (hH : zH G M s.heap) : W p l e R s m args below meth c s.heap [] 0 0 Q g := k _ _ hH zS.rf
theorem nI_down (j : Nat) : nI (j + 1) - nI 1 = nI j := nI_pred j
theorem nI_dec1 (j : Nat) : nI j + Int32.ofInt (-1) = nI j - nI 1 := by
  rw [Int32.sub_eq_add_neg]
  have h : Int32.ofInt (-1) = -nI 1 := by decide
  rw [h]
def oI : Option Nat → Int32
  | none => -6
  | some j => nI j
theorem oI_none {o : Option Nat} (ho : ∀ j, o = some j → j < 2 ^ 31) : oI o = -6 ↔ o = none := by
  cases o with
  | none => exact ⟨fun _ => rfl, fun _ => rfl⟩
  | some j =>
    refine ⟨fun h => ?_, fun h => by cases h⟩
    have h1 : nI j = -6 := h
    have h2 := congrArg Int32.toInt h1
    rw [nI_toInt (ho j rfl)] at h2
    have h3 : ((-6 : Int32)).toInt = -6 := by decide
    omega
theorem oI_some {o : Option Nat} {b : Nat} (ho : ∀ j, o = some j → j < 2 ^ 31) (hb : b < 2 ^ 31) : oI o = nI b ↔ o = some b := by
  cases o with
  | none =>
    refine ⟨fun h => ?_, fun h => by cases h⟩
    have h1 : (-6 : Int32) = nI b := h
    have h2 := congrArg Int32.toInt h1
    rw [nI_toInt hb] at h2
    have h3 : ((-6 : Int32)).toInt = -6 := by decide
    omega
  | some j =>
    have h0 := nI_inj (ho j rfl) hb
    exact ⟨fun h => congrArg some (h0.mp h), fun h => h0.mpr (Option.some.inj h)⟩
section ZO
variable {p : Program} {l : Launch} {e : Env} {R : Room} {s : State} {m : MethodId} {args : Array Value} {below : List Frame} {meth : Method} {c : Code} {H : Heap} {locs : List Loc} {cells slots : Nat} {Q : State → Prop}
variable {cc : ByteArray} {pc tgt : Nat} {off : Int} {ls : Array Slot} {rest : List Value} {b : Nat} {o : Option Nat}
theorem o_cmp_eq (hx : p.tables.exec = Jvm.exec) (hb : c.code = cc) (ho : ∀ j, o = some j → j < 2 ^ 31) (hdg : decode cc pc = .ok (.if_icmp .eq off, 3)) (ht : (pc : Int) + off = (tgt : Int)) (kt : o = none → W p l e R s m args below meth c H locs cells slots Q (F0 m tgt ls rest)) (kf : ∀ j, o = some j → W p l e R s m args below meth c H locs cells slots Q (F0 m (pc + 3) ls rest)) : W p l e R s m args below meth c H locs cells slots Q (F0 m pc ls (.int (-6) :: .int (oI o) :: rest)) :=
  lv_icmp_eq hx hb hdg ht (fun h => kt ((oI_none ho).mp h)) (fun h => by
    cases o with
    | none => exact absurd rfl h
    | some j => exact kf j rfl)
theorem o_cmp_ne (hx : p.tables.exec = Jvm.exec) (hb : c.code = cc) (ho : ∀ j, o = some j → j < 2 ^ 31) (hdg : decode cc pc = .ok (.if_icmp .ne off, 3)) (ht : (pc : Int) + off = (tgt : Int)) (kt : ∀ j, o = some j → W p l e R s m args below meth c H locs cells slots Q (F0 m tgt ls rest)) (kf : o = none → W p l e R s m args below meth c H locs cells slots Q (F0 m (pc + 3) ls rest)) : W p l e R s m args below meth c H locs cells slots Q (F0 m pc ls (.int (-6) :: .int (oI o) :: rest)) :=
  lv_icmp_ne hx hb hdg ht (fun h => by
    cases o with
    | none => exact absurd rfl h
    | some j => exact kt j rfl) (fun h => kf ((oI_none ho).mp h))
theorem on_cmp_eq (hx : p.tables.exec = Jvm.exec) (hb : c.code = cc) (ho : ∀ j, o = some j → j < 2 ^ 31) (hbb : b < 2 ^ 31) (hdg : decode cc pc = .ok (.if_icmp .eq off, 3)) (ht : (pc : Int) + off = (tgt : Int)) (kt : o = some b → W p l e R s m args below meth c H locs cells slots Q (F0 m tgt ls rest)) (kf : o ≠ some b → W p l e R s m args below meth c H locs cells slots Q (F0 m (pc + 3) ls rest)) : W p l e R s m args below meth c H locs cells slots Q (F0 m pc ls (.int (nI b) :: .int (oI o) :: rest)) :=
  lv_icmp_eq hx hb hdg ht (fun h => kt ((oI_some ho hbb).mp h)) (fun h => kf (fun q => h ((oI_some ho hbb).mpr q)))
theorem on_cmp_ne (hx : p.tables.exec = Jvm.exec) (hb : c.code = cc) (ho : ∀ j, o = some j → j < 2 ^ 31) (hbb : b < 2 ^ 31) (hdg : decode cc pc = .ok (.if_icmp .ne off, 3)) (ht : (pc : Int) + off = (tgt : Int)) (kt : o ≠ some b → W p l e R s m args below meth c H locs cells slots Q (F0 m tgt ls rest)) (kf : o = some b → W p l e R s m args below meth c H locs cells slots Q (F0 m (pc + 3) ls rest)) : W p l e R s m args below meth c H locs cells slots Q (F0 m pc ls (.int (nI b) :: .int (oI o) :: rest)) :=
  lv_icmp_ne hx hb hdg ht (fun h => kt (fun q => h ((oI_some ho hbb).mpr q))) (fun h => kf ((oI_some ho hbb).mp h))
end ZO
/-! what a wall is: one map of naturals, as the check's own row of 818 numbers has it -/
abbrev Wv : Type := Nat → Nat
def pv (v : Wv) (j k : Nat) : Nat := v (14 + 7 * j + k)
def cv (v : Wv) (j c : Nat) : Nat := v (98 + 60 * j + c)
def sv (v : Wv) (x : Nat) : Nat := v (4 + x)
def liesN (f : Nat → Nat) (x y : Nat) : Bool := decide (f 0 ≤ x) && decide (x < f 0 + f 2) && decide (f 1 ≤ y) && decide (y < f 1 + f 3)
/-- a poster is as posters are -/
def pOk (f g : Nat → Nat) : Prop := 1 ≤ f 2 ∧ f 0 + f 2 ≤ 10 ∧ 1 ≤ f 3 ∧ f 1 + f 3 ≤ 6 ∧ 1 ≤ f 4 ∧ f 4 ≤ 999 ∧ ∀ c, c < 60 → g c ≤ 99 ∧ (0 < g c → liesN f (c % 10) (c / 10) = true)
def wOk (v : Wv) : Prop := v 0 ≤ 12 ∧ v 1 ≤ 10500 ∧ (∀ x, x < 10 → sv v x ≤ 9) ∧ ∀ j, j < v 0 → pOk (pv v j) (cv v j)
theorem wOk.coat {v : Wv} (h : wOk v) {j c : Nat} (hj : j < v 0) (hc : c < 60) : cv v j c ≤ 99 := ((h.2.2.2 j hj).2.2.2.2.2.2 c hc).1
theorem wOk.price {v : Wv} (h : wOk v) {j : Nat} (hj : j < v 0) : 1 ≤ pv v j 4 ∧ pv v j 4 ≤ 999 := ⟨(h.2.2.2 j hj).2.2.2.2.1, (h.2.2.2 j hj).2.2.2.2.2.1⟩
theorem wOk.rect {v : Wv} (h : wOk v) {j : Nat} (hj : j < v 0) : 1 ≤ pv v j 2 ∧ pv v j 0 + pv v j 2 ≤ 10 ∧ 1 ≤ pv v j 3 ∧ pv v j 1 + pv v j 3 ≤ 6 := ⟨(h.2.2.2 j hj).1, (h.2.2.2 j hj).2.1, (h.2.2.2 j hj).2.2.1, (h.2.2.2 j hj).2.2.2.1⟩
/-! pictures -/
def Pst (G : zG) (a : Nat) (f g : Nat → Nat) (M : Mm) : Prop :=
  M a = some (.inr (3, [.int (nI (f 0)), .int (nI (f 1)), .int (nI (f 2)), .int (nI (f 3)), .int (nI (f 4)), .int (nI (f 5)), .int (nI (f 6)), .ref (a + 1)])) ∧ zArr G 0 M (a + 1) 60 (fun c => nI (g c))
theorem Pst.kept {G : zG} {a : Nat} {f g : Nat → Nat} {M M1 : Mm} (h : Pst G a f g M) (h1 : M1 a = M a) (h2 : M1 (a + 1) = M (a + 1)) : Pst G a f g M1 := ⟨by rw [h1]; exact h.1, h.2.kept h2⟩
def WlR (G : zG) (w : Nat) (r : Nat → Nat) (v : Wv) (M : Mm) : Prop :=
  M w = some (.inr (4, [.ref (w + 1), .int (nI (v 0)), .ref (w + 26), .int (nI (v 1)), .int (nI (v 2)), .int (nI (v 3))])) ∧
  zRef G 1 M (w + 1) 12 (fun j => w + 2 + 2 * r j) ∧ zArr G 0 M (w + 26) 10 (fun x => nI (sv v x)) ∧
  (∀ j, j < 12 → ∃ f g, Pst G (w + 2 + 2 * r j) f g M) ∧ ∀ j, j < v 0 → Pst G (w + 2 + 2 * r j) (pv v j) (cv v j) M
def rOk (r : Nat → Nat) : Prop := (∀ j, j < 12 → r j < 12) ∧ ∀ i j, i < 12 → j < 12 → r i = r j → i = j
def Wl (G : zG) (w : Nat) (v : Wv) (M : Mm) : Prop := ∃ r, rOk r ∧ WlR G w r v M
theorem WlR.kept {G : zG} {w : Nat} {r : Nat → Nat} {v : Wv} {M M1 : Mm} (hr : rOk r) (hn : v 0 ≤ 12) (h : WlR G w r v M) (hq : ∀ q, w ≤ q → q < w + 27 → M1 q = M q) : WlR G w r v M1 := by
  obtain ⟨h1, h2, h3, h4, h5⟩ := h
  refine ⟨by rw [hq w (by omega) (by omega)]; exact h1, h2.kept (hq _ (by omega) (by omega)), h3.kept (hq _ (by omega) (by omega)), fun j hj => ?_, fun j hj => ?_⟩
  · obtain ⟨f, g, h⟩ := h4 j hj
    have := hr.1 j hj
    exact ⟨f, g, h.kept (hq _ (by omega) (by omega)) (hq _ (by omega) (by omega))⟩
  · have := hr.1 j (by omega)
    exact (h5 j hj).kept (hq _ (by omega) (by omega)) (hq _ (by omega) (by omega))
theorem Wl.kept {G : zG} {w : Nat} {v : Wv} {M M1 : Mm} (hn : v 0 ≤ 12) (h : Wl G w v M) (hq : ∀ q, w ≤ q → q < w + 27 → M1 q = M q) : Wl G w v M1 := by
  obtain ⟨r, hr, h⟩ := h
  exact ⟨r, hr, h.kept hr hn hq⟩
/-! what is seen -/
def seenGo (v : Wv) (but : Int32) (c : Nat) : Nat → Option Nat
  | 0 => none
  | j + 1 => if nI j ≠ but ∧ 0 < cv v j c then some j else seenGo v but c j
def seen (v : Wv) (but : Int32) (c : Nat) : Option Nat := seenGo v but c (v 0)
theorem seenGo_some {v : Wv} {but : Int32} {c : Nat} : ∀ {n j : Nat}, seenGo v but c n = some j → j < n ∧ 0 < cv v j c ∧ nI j ≠ but
  | 0, _, h => by cases h
  | n + 1, j, h => by
    unfold seenGo at h
    split at h
    · next h1 => cases h; exact ⟨by omega, h1.2, h1.1⟩
    · have := seenGo_some h; exact ⟨by omega, this.2⟩
theorem seen_lt {v : Wv} {but : Int32} {c j : Nat} (h : seen v but c = some j) : j < v 0 := (seenGo_some h).1
theorem seen_pos {v : Wv} {but : Int32} {c j : Nat} (h : seen v but c = some j) : 0 < cv v j c := (seenGo_some h).2.1
theorem seen_ob {v : Wv} (hv : wOk v) {but : Int32} {c : Nat} : ∀ j, seen v but c = some j → j < 2 ^ 31 := fun j h => by
  have h1 := seen_lt h
  have h2 := hv.1
  omega
/-- the price that a cell shows, with one poster left out -/
def prc (v : Wv) (but : Int32) (c : Nat) : Option Nat := (seen v but c).map (fun j => pv v j 4)
def zsum (f : Nat → Nat) : Nat → Nat
  | 0 => 0
  | k + 1 => zsum f k + f k
def zcnt (f : Nat → Bool) : Nat → Nat
  | 0 => 0
  | k + 1 => zcnt f k + if f k then 1 else 0
theorem zcnt_le (f : Nat → Bool) : ∀ n, zcnt f n ≤ n
  | 0 => Nat.le_refl _
  | n + 1 => by have := zcnt_le f n; unfold zcnt; split <;> omega
theorem zsum_le {f : Nat → Nat} {b : Nat} : ∀ {n : Nat}, (∀ k, k < n → f k ≤ b) → zsum f n ≤ n * b
  | 0, _ => by simp [zsum]
  | n + 1, h => by
    have h1 := zsum_le (f := f) (b := b) (n := n) (fun k hk => h k (by omega))
    have h2 := h n (by omega)
    unfold zsum
    rw [Nat.succ_mul]
    omega
theorem zsum_cong {f g : Nat → Nat} : ∀ {n : Nat}, (∀ k, k < n → f k = g k) → zsum f n = zsum g n
  | 0, _ => rfl
  | n + 1, h => by unfold zsum; rw [zsum_cong (fun k hk => h k (by omega)), h n (by omega)]
theorem zcnt_cong {f g : Nat → Bool} : ∀ {n : Nat}, (∀ k, k < n → f k = g k) → zcnt f n = zcnt g n
  | 0, _ => rfl
  | n + 1, h => by unfold zcnt; rw [zcnt_cong (fun k hk => h k (by omega)), h n (by omega)]
def sumW (v : Wv) (but : Int32) : Nat := zsum (fun c => (prc v but c).getD 0) 60
def seenCnt (v : Wv) (j : Nat) : Nat := zcnt (fun c => decide (seen v (-6) c = some j)) 60
/-! callees -/
theorem ca_X5_init : zCai yX5_init cX5_init 2 0 := ⟨co_X5_init, im_X5_init, ini_X5, rfl, by decide, by decide, by decide +kernel⟩
theorem ca_X4_init : zCai yX4_init cX4_init 2 0 := ⟨co_X4_init, im_X4_init, ini_X4, rfl, by decide, by decide, by decide +kernel⟩
theorem ca_X3_init : zCai yX3_init cX3_init 1 0 := ⟨co_X3_init, im_X3_init, ini_X3, rfl, by decide, by decide, by decide +kernel⟩
theorem ca_X1_init : zCai yX1_init cX1_init 2 0 := ⟨co_X1_init, im_X1_init, ini_X1, rfl, by decide, by decide, by decide +kernel⟩
theorem ca_X2_init : zCai yX2_init cX2_init 1 0 := ⟨co_X2_init, im_X2_init, ini_X2, rfl, by decide, by decide, by decide +kernel⟩
theorem ca_X0_init : zCai yX0_init cX0_init 1 0 := ⟨co_X0_init, im_X0_init, ini_X0, rfl, by decide, by decide, by decide +kernel⟩
theorem ca_X5_paste : zCal yX5_paste cX5_paste 7 (some .int) 6 := ⟨co_X5_paste, im_X5_paste, se_X5_paste, ini_X5, by decide, by decide, by decide +kernel⟩
theorem ca_X5_isCell : zCas yX5_isCell cX5_isCell 2 (some .boolean) 2 := ⟨co_X5_isCell, st_X5_isCell, ini_X5, by decide, by decide, by decide +kernel⟩
theorem ca_X5_isColumn : zCas yX5_isColumn cX5_isColumn 1 (some .boolean) 1 := ⟨co_X5_isColumn, st_X5_isColumn, ini_X5, by decide, by decide, by decide +kernel⟩
theorem ca_X5_isWithin : zCas yX5_isWithin cX5_isWithin 3 (some .boolean) 3 := ⟨co_X5_isWithin, st_X5_isWithin, ini_X5, by decide, by decide, by decide +kernel⟩
theorem ca_X1_keep : zCal yX1_keep cX1_keep 2 none 1 := ⟨co_X1_keep, im_X1_keep, se_X1_keep, ini_X1, by decide, by decide, by decide +kernel⟩
theorem ca_X1_dropOldest : zCal yX1_dropOldest cX1_dropOldest 3 none 0 := ⟨co_X1_dropOldest, im_X1_dropOldest, se_X1_dropOldest, ini_X1, by decide, by decide, by decide +kernel⟩
theorem ca_X4_copyFrom : zCal yX4_copyFrom cX4_copyFrom 3 none 1 := ⟨co_X4_copyFrom, im_X4_copyFrom, se_X4_copyFrom, ini_X4, by decide, by decide, by decide +kernel⟩
theorem ca_X3_copyFrom : zCal yX3_copyFrom cX3_copyFrom 2 none 1 := ⟨co_X3_copyFrom, im_X3_copyFrom, se_X3_copyFrom, ini_X3, by decide, by decide, by decide +kernel⟩
theorem ca_X3_cover : zCal yX3_cover cX3_cover 5 none 4 := ⟨co_X3_cover, im_X3_cover, se_X3_cover, ini_X3, by decide, by decide, by decide +kernel⟩
theorem ca_X4_addOnTop : zCal yX4_addOnTop cX4_addOnTop 8 (some .int) 6 := ⟨co_X4_addOnTop, im_X4_addOnTop, se_X4_addOnTop, ini_X4, by decide, by decide, by decide +kernel⟩
theorem ca_X3_begin : zCal yX3_begin cX3_begin 4 none 2 := ⟨co_X3_begin, im_X3_begin, se_X3_begin, ini_X3, by decide, by decide, by decide +kernel⟩
theorem ca_X3_liesAt : zCal yX3_liesAt cX3_liesAt 3 (some .boolean) 2 := ⟨co_X3_liesAt, im_X3_liesAt, se_X3_liesAt, ini_X3, by decide, by decide, by decide +kernel⟩
theorem ca_X5_tear : zCal yX5_tear cX5_tear 3 (some .int) 1 := ⟨co_X5_tear, im_X5_tear, se_X5_tear, ini_X5, by decide, by decide, by decide +kernel⟩
theorem ca_X5_isPoster : zCal yX5_isPoster cX5_isPoster 2 (some .boolean) 1 := ⟨co_X5_isPoster, im_X5_isPoster, se_X5_isPoster, ini_X5, by decide, by decide, by decide +kernel⟩
theorem ca_X4_seenCellsOf : zCal yX4_seenCellsOf cX4_seenCellsOf 4 (some .int) 1 := ⟨co_X4_seenCellsOf, im_X4_seenCellsOf, se_X4_seenCellsOf, ini_X4, by decide, by decide, by decide +kernel⟩
theorem ca_X4_seenAt : zCal yX4_seenAt cX4_seenAt 2 (some .int) 1 := ⟨co_X4_seenAt, im_X4_seenAt, se_X4_seenAt, ini_X4, by decide, by decide, by decide +kernel⟩
theorem ca_X4_seenWithout : zCal yX4_seenWithout cX4_seenWithout 4 (some .int) 2 := ⟨co_X4_seenWithout, im_X4_seenWithout, se_X4_seenWithout, ini_X4, by decide, by decide, by decide +kernel⟩
theorem ca_X4_takeDown : zCal yX4_takeDown cX4_takeDown 4 none 1 := ⟨co_X4_takeDown, im_X4_takeDown, se_X4_takeDown, ini_X4, by decide, by decide, by decide +kernel⟩
theorem ca_X5_coat : zCal yX5_coat cX5_coat 3 (some .int) 2 := ⟨co_X5_coat, im_X5_coat, se_X5_coat, ini_X5, by decide, by decide, by decide +kernel⟩
theorem ca_X4_coatSeenCells : zCal yX4_coatSeenCells cX4_coatSeenCells 6 (some .int) 2 := ⟨co_X4_coatSeenCells, im_X4_coatSeenCells, se_X4_coatSeenCells, ini_X4, by decide, by decide, by decide +kernel⟩
theorem ca_X5_scrape : zCal yX5_scrape cX5_scrape 5 (some .int) 3 := ⟨co_X5_scrape, im_X5_scrape, se_X5_scrape, ini_X5, by decide, by decide, by decide +kernel⟩
theorem ca_X5_cellAt : zCas yX5_cellAt cX5_cellAt 2 (some .int) 2 := ⟨co_X5_cellAt, st_X5_cellAt, ini_X5, by decide, by decide, by decide +kernel⟩
theorem ca_X4_priceAt : zCal yX4_priceAt cX4_priceAt 3 (some .int) 1 := ⟨co_X4_priceAt, im_X4_priceAt, se_X4_priceAt, ini_X4, by decide, by decide, by decide +kernel⟩
theorem ca_X4_scrapeAt : zCal yX4_scrapeAt cX4_scrapeAt 8 (some .int) 2 := ⟨co_X4_scrapeAt, im_X4_scrapeAt, se_X4_scrapeAt, ini_X4, by decide, by decide, by decide +kernel⟩
theorem ca_X5_sun : zCal yX5_sun cX5_sun 4 (some .int) 2 := ⟨co_X5_sun, im_X5_sun, se_X5_sun, ini_X5, by decide, by decide, by decide +kernel⟩
theorem ca_X5_buy : zCal yX5_buy cX5_buy 6 (some .int) 3 := ⟨co_X5_buy, im_X5_buy, se_X5_buy, ini_X5, by decide, by decide, by decide +kernel⟩
theorem ca_X4_sellAt : zCal yX4_sellAt cX4_sellAt 5 (some .boolean) 2 := ⟨co_X4_sellAt, im_X4_sellAt, se_X4_sellAt, ini_X4, by decide, by decide, by decide +kernel⟩
theorem ca_X5_buyAll : zCal yX5_buyAll cX5_buyAll 2 (some .int) 0 := ⟨co_X5_buyAll, im_X5_buyAll, se_X5_buyAll, ini_X5, by decide, by decide, by decide +kernel⟩
theorem ca_X2_firstFault : zCal yX2_firstFault cX2_firstFault 2 (some .int) 0 := ⟨co_X2_firstFault, im_X2_firstFault, se_X2_firstFault, ini_X2, by decide, by decide, by decide +kernel⟩
theorem ca_X0_begin : zCal yX0_begin cX0_begin 1 none 0 := ⟨co_X0_begin, im_X0_begin, se_X0_begin, ini_X0, by decide, by decide, by decide +kernel⟩
theorem ca_X0_takes : zCal yX0_takes cX0_takes 3 (some .boolean) 1 := ⟨co_X0_takes, im_X0_takes, se_X0_takes, ini_X0, by decide, by decide, by decide +kernel⟩
theorem ca_X0_endsBuyer : zCal yX0_endsBuyer cX0_endsBuyer 1 (some .boolean) 0 := ⟨co_X0_endsBuyer, im_X0_endsBuyer, se_X0_endsBuyer, ini_X0, by decide, by decide, by decide +kernel⟩
theorem ca_X0_lengthensPurse : zCal yX0_lengthensPurse cX0_lengthensPurse 2 (some .boolean) 1 := ⟨co_X0_lengthensPurse, im_X0_lengthensPurse, se_X0_lengthensPurse, ini_X0, by decide, by decide, by decide +kernel⟩
theorem ca_X0_mayEnd : zCal yX0_mayEnd cX0_mayEnd 1 (some .boolean) 0 := ⟨co_X0_mayEnd, im_X0_mayEnd, se_X0_mayEnd, ini_X0, by decide, by decide, by decide +kernel⟩
theorem ca_X2_sendBuyersTo : zCal yX2_sendBuyersTo cX2_sendBuyersTo 5 (some .int) 1 := ⟨co_X2_sendBuyersTo, im_X2_sendBuyersTo, se_X2_sendBuyersTo, ini_X2, by decide, by decide, by decide +kernel⟩
theorem ca_X0_pays : zCal yX0_pays cX0_pays 2 (some .boolean) 1 := ⟨co_X0_pays, im_X0_pays, se_X0_pays, ini_X0, by decide, by decide, by decide +kernel⟩
theorem ca_X5_pass : zCal yX5_pass cX5_pass 2 (some .int) 1 := ⟨co_X5_pass, im_X5_pass, se_X5_pass, ini_X5, by decide, by decide, by decide +kernel⟩
theorem ca_X4_fade : zCal yX4_fade cX4_fade 4 (some .int) 1 := ⟨co_X4_fade, im_X4_fade, se_X4_fade, ini_X4, by decide, by decide, by decide +kernel⟩
theorem ca_X4_fadeAt : zCal yX4_fadeAt cX4_fadeAt 8 (some .int) 2 := ⟨co_X4_fadeAt, im_X4_fadeAt, se_X4_fadeAt, ini_X4, by decide, by decide, by decide +kernel⟩
theorem ca_X4_daysToClear : zCal yX4_daysToClear cX4_daysToClear 5 (some .int) 2 := ⟨co_X4_daysToClear, im_X4_daysToClear, se_X4_daysToClear, ini_X4, by decide, by decide, by decide +kernel⟩
theorem ca_X5_cell : zCal yX5_cell cX5_cell 5 (some .int) 3 := ⟨co_X5_cell, im_X5_cell, se_X5_cell, ini_X5, by decide, by decide, by decide +kernel⟩
theorem ca_X4_seenVarnishAt : zCal yX4_seenVarnishAt cX4_seenVarnishAt 3 (some .int) 1 := ⟨co_X4_seenVarnishAt, im_X4_seenVarnishAt, se_X4_seenVarnishAt, ini_X4, by decide, by decide, by decide +kernel⟩
theorem ca_X4_postersAt : zCal yX4_postersAt cX4_postersAt 5 (some .int) 2 := ⟨co_X4_postersAt, im_X4_postersAt, se_X4_postersAt, ini_X4, by decide, by decide, by decide +kernel⟩
theorem ca_X4_notClearAt : zCal yX4_notClearAt cX4_notClearAt 4 (some .int) 1 := ⟨co_X4_notClearAt, im_X4_notClearAt, se_X4_notClearAt, ini_X4, by decide, by decide, by decide +kernel⟩
theorem ca_X5_poster : zCal yX5_poster cX5_poster 4 (some .int) 2 := ⟨co_X5_poster, im_X5_poster, se_X5_poster, ini_X5, by decide, by decide, by decide +kernel⟩
theorem ca_X3_clearCells : zCal yX3_clearCells cX3_clearCells 1 (some .int) 0 := ⟨co_X3_clearCells, im_X3_clearCells, se_X3_clearCells, ini_X3, by decide, by decide, by decide +kernel⟩
theorem ca_X3_notClearCells : zCal yX3_notClearCells cX3_notClearCells 3 (some .int) 0 := ⟨co_X3_notClearCells, im_X3_notClearCells, se_X3_notClearCells, ini_X3, by decide, by decide, by decide +kernel⟩
theorem ca_X3_allVarnish : zCal yX3_allVarnish cX3_allVarnish 3 (some .int) 0 := ⟨co_X3_allVarnish, im_X3_allVarnish, se_X3_allVarnish, ini_X3, by decide, by decide, by decide +kernel⟩
theorem ca_X5_varnish : zCal yX5_varnish cX5_varnish 5 (some .int) 3 := ⟨co_X5_varnish, im_X5_varnish, se_X5_varnish, ini_X5, by decide, by decide, by decide +kernel⟩
theorem ca_X5_count : zCal yX5_count cX5_count 2 (some .int) 1 := ⟨co_X5_count, im_X5_count, se_X5_count, ini_X5, by decide, by decide, by decide +kernel⟩
theorem ca_X4_cellsWithPrice : zCal yX4_cellsWithPrice cX4_cellsWithPrice 3 (some .int) 0 := ⟨co_X4_cellsWithPrice, im_X4_cellsWithPrice, se_X4_cellsWithPrice, ini_X4, by decide, by decide, by decide +kernel⟩
theorem ca_X4_unlikePrices : zCal yX4_unlikePrices cX4_unlikePrices 3 (some .int) 0 := ⟨co_X4_unlikePrices, im_X4_unlikePrices, se_X4_unlikePrices, ini_X4, by decide, by decide, by decide +kernel⟩
theorem ca_X4_isPriceSeenBelow : zCal yX4_isPriceSeenBelow cX4_isPriceSeenBelow 3 (some .boolean) 1 := ⟨co_X4_isPriceSeenBelow, im_X4_isPriceSeenBelow, se_X4_isPriceSeenBelow, ini_X4, by decide, by decide, by decide +kernel⟩
theorem ca_X4_greatestPrice : zCal yX4_greatestPrice cX4_greatestPrice 3 (some .int) 0 := ⟨co_X4_greatestPrice, im_X4_greatestPrice, se_X4_greatestPrice, ini_X4, by decide, by decide, by decide +kernel⟩
theorem ca_X4_sumWithout : zCal yX4_sumWithout cX4_sumWithout 5 (some .int) 1 := ⟨co_X4_sumWithout, im_X4_sumWithout, se_X4_sumWithout, ini_X4, by decide, by decide, by decide +kernel⟩
theorem ca_X4_postersUnseen : zCal yX4_postersUnseen cX4_postersUnseen 3 (some .int) 0 := ⟨co_X4_postersUnseen, im_X4_postersUnseen, se_X4_postersUnseen, ini_X4, by decide, by decide, by decide +kernel⟩
theorem ca_X4_postersAllClear : zCal yX4_postersAllClear cX4_postersAllClear 3 (some .int) 0 := ⟨co_X4_postersAllClear, im_X4_postersAllClear, se_X4_postersAllClear, ini_X4, by decide, by decide, by decide +kernel⟩
theorem ca_X5_sunOf : zCal yX5_sunOf cX5_sunOf 2 (some .int) 1 := ⟨co_X5_sunOf, im_X5_sunOf, se_X5_sunOf, ini_X5, by decide, by decide, by decide +kernel⟩
theorem ca_X5_ifPassed : zCal yX5_ifPassed cX5_ifPassed 4 (some .int) 2 := ⟨co_X5_ifPassed, im_X5_ifPassed, se_X5_ifPassed, ini_X5, by decide, by decide, by decide +kernel⟩
theorem ca_X4_pricesUnlike : zCal yX4_pricesUnlike cX4_pricesUnlike 4 (some .int) 1 := ⟨co_X4_pricesUnlike, im_X4_pricesUnlike, se_X4_pricesUnlike, ini_X4, by decide, by decide, by decide +kernel⟩
theorem ca_X5_willShow : zCal yX5_willShow cX5_willShow 5 (some .int) 3 := ⟨co_X5_willShow, im_X5_willShow, se_X5_willShow, ini_X5, by decide, by decide, by decide +kernel⟩
theorem ca_X5_nextChange : zCal yX5_nextChange cX5_nextChange 3 (some .int) 0 := ⟨co_X5_nextChange, im_X5_nextChange, se_X5_nextChange, ini_X5, by decide, by decide, by decide +kernel⟩
theorem ca_X4_daysToOtherPrice : zCal yX4_daysToOtherPrice cX4_daysToOtherPrice 5 (some .int) 1 := ⟨co_X4_daysToOtherPrice, im_X4_daysToOtherPrice, se_X4_daysToOtherPrice, ini_X4, by decide, by decide, by decide +kernel⟩
theorem ca_X5_comesToLight : zCal yX5_comesToLight cX5_comesToLight 4 (some .int) 1 := ⟨co_X5_comesToLight, im_X5_comesToLight, se_X5_comesToLight, ini_X5, by decide, by decide, by decide +kernel⟩
theorem ca_X4_daysToSee : zCal yX4_daysToSee cX4_daysToSee 5 (some .int) 2 := ⟨co_X4_daysToSee, im_X4_daysToSee, se_X4_daysToSee, ini_X4, by decide, by decide, by decide +kernel⟩
theorem ca_X5_bestTorn : zCal yX5_bestTorn cX5_bestTorn 6 (some .int) 1 := ⟨co_X5_bestTorn, im_X5_bestTorn, se_X5_bestTorn, ini_X5, by decide, by decide, by decide +kernel⟩
theorem ca_X5_put : zCal yX5_put cX5_put 4 (some .int) 1 := ⟨co_X5_put, im_X5_put, se_X5_put, ini_X5, by decide, by decide, by decide +kernel⟩
theorem ca_X2_signsIn : zCas yX2_signsIn cX2_signsIn 6 (some .int) 1 := ⟨co_X2_signsIn, st_X2_signsIn, ini_X2, by decide, by decide, by decide +kernel⟩
theorem ca_X2_append : zCal yX2_append cX2_append 7 none 2 := ⟨co_X2_append, im_X2_append, se_X2_append, ini_X2, by decide, by decide, by decide +kernel⟩
theorem ca_X5_wipe : zCal yX5_wipe cX5_wipe 2 (some .int) 0 := ⟨co_X5_wipe, im_X5_wipe, se_X5_wipe, ini_X5, by decide, by decide, by decide +kernel⟩
theorem ca_X5_fault : zCal yX5_fault cX5_fault 1 (some .int) 0 := ⟨co_X5_fault, im_X5_fault, se_X5_fault, ini_X5, by decide, by decide, by decide +kernel⟩
theorem ca_X5_undo : zCal yX5_undo cX5_undo 1 (some .int) 0 := ⟨co_X5_undo, im_X5_undo, se_X5_undo, ini_X5, by decide, by decide, by decide +kernel⟩
theorem ca_X1_takeBack : zCal yX1_takeBack cX1_takeBack 2 none 1 := ⟨co_X1_takeBack, im_X1_takeBack, se_X1_takeBack, ini_X1, by decide, by decide, by decide +kernel⟩
theorem ca_X5_save : zCal yX5_save cX5_save 2 (some .int) 1 := ⟨co_X5_save, im_X5_save, se_X5_save, ini_X5, by decide, by decide, by decide +kernel⟩
theorem ca_X5_restore : zCal yX5_restore cX5_restore 2 (some .int) 1 := ⟨co_X5_restore, im_X5_restore, se_X5_restore, ini_X5, by decide, by decide, by decide +kernel⟩
theorem ca_X6_init : zCai yX6_init cX6_init 2 0 := ⟨co_X6_init, im_X6_init, ini_X6, rfl, by decide, by decide, by decide +kernel⟩
theorem ca_X6_paste : zCal yX6_paste cX6_paste 11 (some .int) 6 := ⟨co_X6_paste, im_X6_paste, se_X6_paste, ini_X6, by decide, by decide, by decide +kernel⟩
theorem ca_X6_isCell : zCas yX6_isCell cX6_isCell 2 (some .boolean) 2 := ⟨co_X6_isCell, st_X6_isCell, ini_X6, by decide, by decide, by decide +kernel⟩
theorem ca_X6_in : zCas yX6_in cX6_in 3 (some .boolean) 3 := ⟨co_X6_in, st_X6_in, ini_X6, by decide, by decide, by decide +kernel⟩
theorem ca_X6_records : zCal yX6_records cX6_records 2 none 0 := ⟨co_X6_records, im_X6_records, se_X6_records, ini_X6, by decide, by decide, by decide +kernel⟩
theorem ca_X6_lies : zCal yX6_lies cX6_lies 5 (some .boolean) 2 := ⟨co_X6_lies, im_X6_lies, se_X6_lies, ini_X6, by decide, by decide, by decide +kernel⟩
theorem ca_X6_of : zCal yX6_of cX6_of 3 (some .int) 2 := ⟨co_X6_of, im_X6_of, se_X6_of, ini_X6, by decide, by decide, by decide +kernel⟩
theorem ca_X6_lays : zCal yX6_lays cX6_lays 4 none 3 := ⟨co_X6_lays, im_X6_lays, se_X6_lays, ini_X6, by decide, by decide, by decide +kernel⟩
theorem ca_X6_tear : zCal yX6_tear cX6_tear 3 (some .int) 1 := ⟨co_X6_tear, im_X6_tear, se_X6_tear, ini_X6, by decide, by decide, by decide +kernel⟩
theorem ca_X6_isPoster : zCal yX6_isPoster cX6_isPoster 2 (some .boolean) 1 := ⟨co_X6_isPoster, im_X6_isPoster, se_X6_isPoster, ini_X6, by decide, by decide, by decide +kernel⟩
theorem ca_X6_overCells : zCal yX6_overCells cX6_overCells 6 (some .int) 2 := ⟨co_X6_overCells, im_X6_overCells, se_X6_overCells, ini_X6, by decide, by decide, by decide +kernel⟩
theorem ca_X6_seenAt : zCal yX6_seenAt cX6_seenAt 4 (some .int) 2 := ⟨co_X6_seenAt, im_X6_seenAt, se_X6_seenAt, ini_X6, by decide, by decide, by decide +kernel⟩
theorem ca_X6_has : zCal yX6_has cX6_has 3 (some .int) 2 := ⟨co_X6_has, im_X6_has, se_X6_has, ini_X6, by decide, by decide, by decide +kernel⟩
theorem ca_X6_drops : zCal yX6_drops cX6_drops 3 none 1 := ⟨co_X6_drops, im_X6_drops, se_X6_drops, ini_X6, by decide, by decide, by decide +kernel⟩
theorem ca_X6_coat : zCal yX6_coat cX6_coat 6 (some .int) 2 := ⟨co_X6_coat, im_X6_coat, se_X6_coat, ini_X6, by decide, by decide, by decide +kernel⟩
theorem ca_X6_scrape : zCal yX6_scrape cX6_scrape 9 (some .int) 3 := ⟨co_X6_scrape, im_X6_scrape, se_X6_scrape, ini_X6, by decide, by decide, by decide +kernel⟩
theorem ca_X6_loses : zCal yX6_loses cX6_loses 5 (some .boolean) 3 := ⟨co_X6_loses, im_X6_loses, se_X6_loses, ini_X6, by decide, by decide, by decide +kernel⟩
theorem ca_X6_sun : zCal yX6_sun cX6_sun 4 (some .int) 2 := ⟨co_X6_sun, im_X6_sun, se_X6_sun, ini_X6, by decide, by decide, by decide +kernel⟩
theorem ca_X6_buy : zCal yX6_buy cX6_buy 6 (some .int) 3 := ⟨co_X6_buy, im_X6_buy, se_X6_buy, ini_X6, by decide, by decide, by decide +kernel⟩
theorem ca_X6_priceAt : zCal yX6_priceAt cX6_priceAt 3 (some .int) 1 := ⟨co_X6_priceAt, im_X6_priceAt, se_X6_priceAt, ini_X6, by decide, by decide, by decide +kernel⟩
theorem ca_X6_pays : zCal yX6_pays cX6_pays 5 (some .boolean) 2 := ⟨co_X6_pays, im_X6_pays, se_X6_pays, ini_X6, by decide, by decide, by decide +kernel⟩
theorem ca_X6_adds : zCal yX6_adds cX6_adds 4 none 3 := ⟨co_X6_adds, im_X6_adds, se_X6_adds, ini_X6, by decide, by decide, by decide +kernel⟩
theorem ca_X6_buyAll : zCal yX6_buyAll cX6_buyAll 3 (some .int) 0 := ⟨co_X6_buyAll, im_X6_buyAll, se_X6_buyAll, ini_X6, by decide, by decide, by decide +kernel⟩
theorem ca_X6_reads : zCal yX6_reads cX6_reads 1 (some .int) 0 := ⟨co_X6_reads, im_X6_reads, se_X6_reads, ini_X6, by decide, by decide, by decide +kernel⟩
theorem ca_X6_readsBuyer : zCal yX6_readsBuyer cX6_readsBuyer 5 none 0 := ⟨co_X6_readsBuyer, im_X6_readsBuyer, se_X6_readsBuyer, ini_X6, by decide, by decide, by decide +kernel⟩
theorem ca_X6_digit : zCal yX6_digit cX6_digit 3 (some .int) 1 := ⟨co_X6_digit, im_X6_digit, se_X6_digit, ini_X6, by decide, by decide, by decide +kernel⟩
theorem ca_X6_sign : zCal yX6_sign cX6_sign 1 (some .int) 0 := ⟨co_X6_sign, im_X6_sign, se_X6_sign, ini_X6, by decide, by decide, by decide +kernel⟩
theorem ca_X6_wants : zCal yX6_wants cX6_wants 2 none 1 := ⟨co_X6_wants, im_X6_wants, se_X6_wants, ini_X6, by decide, by decide, by decide +kernel⟩
theorem ca_X6_pass : zCal yX6_pass cX6_pass 2 (some .int) 1 := ⟨co_X6_pass, im_X6_pass, se_X6_pass, ini_X6, by decide, by decide, by decide +kernel⟩
theorem ca_X6_days : zCal yX6_days cX6_days 4 (some .int) 1 := ⟨co_X6_days, im_X6_days, se_X6_days, ini_X6, by decide, by decide, by decide +kernel⟩
theorem ca_X6_day : zCal yX6_day cX6_day 3 (some .int) 0 := ⟨co_X6_day, im_X6_day, se_X6_day, ini_X6, by decide, by decide, by decide +kernel⟩
theorem ca_X6_cell : zCal yX6_cell cX6_cell 6 (some .int) 3 := ⟨co_X6_cell, im_X6_cell, se_X6_cell, ini_X6, by decide, by decide, by decide +kernel⟩
theorem ca_X6_lyingAt : zCal yX6_lyingAt cX6_lyingAt 5 (some .int) 2 := ⟨co_X6_lyingAt, im_X6_lyingAt, se_X6_lyingAt, ini_X6, by decide, by decide, by decide +kernel⟩
theorem ca_X6_poster : zCal yX6_poster cX6_poster 3 (some .int) 2 := ⟨co_X6_poster, im_X6_poster, se_X6_poster, ini_X6, by decide, by decide, by decide +kernel⟩
theorem ca_X6_varnish : zCal yX6_varnish cX6_varnish 4 (some .int) 3 := ⟨co_X6_varnish, im_X6_varnish, se_X6_varnish, ini_X6, by decide, by decide, by decide +kernel⟩
theorem ca_X6_count : zCal yX6_count cX6_count 2 (some .int) 1 := ⟨co_X6_count, im_X6_count, se_X6_count, ini_X6, by decide, by decide, by decide +kernel⟩
theorem ca_X6_overWall : zCal yX6_overWall cX6_overWall 7 (some .int) 1 := ⟨co_X6_overWall, im_X6_overWall, se_X6_overWall, ini_X6, by decide, by decide, by decide +kernel⟩
theorem ca_X6_laysShown : zCal yX6_laysShown cX6_laysShown 2 none 0 := ⟨co_X6_laysShown, im_X6_laysShown, se_X6_laysShown, ini_X6, by decide, by decide, by decide +kernel⟩
theorem ca_X6_sumBut : zCal yX6_sumBut cX6_sumBut 5 (some .int) 1 := ⟨co_X6_sumBut, im_X6_sumBut, se_X6_sumBut, ini_X6, by decide, by decide, by decide +kernel⟩
theorem ca_X6_overPosters : zCal yX6_overPosters cX6_overPosters 4 (some .int) 1 := ⟨co_X6_overPosters, im_X6_overPosters, se_X6_overPosters, ini_X6, by decide, by decide, by decide +kernel⟩
theorem ca_X6_sunOf : zCal yX6_sunOf cX6_sunOf 2 (some .int) 1 := ⟨co_X6_sunOf, im_X6_sunOf, se_X6_sunOf, ini_X6, by decide, by decide, by decide +kernel⟩
theorem ca_X6_ifPassed : zCal yX6_ifPassed cX6_ifPassed 5 (some .int) 2 := ⟨co_X6_ifPassed, im_X6_ifPassed, se_X6_ifPassed, ini_X6, by decide, by decide, by decide +kernel⟩
theorem ca_X6_putAside : zCal yX6_putAside cX6_putAside 2 none 0 := ⟨co_X6_putAside, im_X6_putAside, se_X6_putAside, ini_X6, by decide, by decide, by decide +kernel⟩
theorem ca_X6_others : zCal yX6_others cX6_others 3 (some .int) 0 := ⟨co_X6_others, im_X6_others, se_X6_others, ini_X6, by decide, by decide, by decide +kernel⟩
theorem ca_X6_takeBack : zCal yX6_takeBack cX6_takeBack 2 none 0 := ⟨co_X6_takeBack, im_X6_takeBack, se_X6_takeBack, ini_X6, by decide, by decide, by decide +kernel⟩
theorem ca_X6_willShow : zCal yX6_willShow cX6_willShow 5 (some .int) 3 := ⟨co_X6_willShow, im_X6_willShow, se_X6_willShow, ini_X6, by decide, by decide, by decide +kernel⟩
theorem ca_X6_nextChange : zCal yX6_nextChange cX6_nextChange 3 (some .int) 0 := ⟨co_X6_nextChange, im_X6_nextChange, se_X6_nextChange, ini_X6, by decide, by decide, by decide +kernel⟩
theorem ca_X6_comesToLight : zCal yX6_comesToLight cX6_comesToLight 4 (some .int) 1 := ⟨co_X6_comesToLight, im_X6_comesToLight, se_X6_comesToLight, ini_X6, by decide, by decide, by decide +kernel⟩
theorem ca_X6_bestTorn : zCal yX6_bestTorn cX6_bestTorn 6 (some .int) 1 := ⟨co_X6_bestTorn, im_X6_bestTorn, se_X6_bestTorn, ini_X6, by decide, by decide, by decide +kernel⟩
theorem ca_X6_put : zCal yX6_put cX6_put 8 (some .int) 1 := ⟨co_X6_put, im_X6_put, se_X6_put, ini_X6, by decide, by decide, by decide +kernel⟩
theorem ca_X6_wipe : zCal yX6_wipe cX6_wipe 2 (some .int) 0 := ⟨co_X6_wipe, im_X6_wipe, se_X6_wipe, ini_X6, by decide, by decide, by decide +kernel⟩
theorem ca_X6_fault : zCal yX6_fault cX6_fault 1 (some .int) 0 := ⟨co_X6_fault, im_X6_fault, se_X6_fault, ini_X6, by decide, by decide, by decide +kernel⟩
theorem ca_X6_undo : zCal yX6_undo cX6_undo 2 (some .int) 0 := ⟨co_X6_undo, im_X6_undo, se_X6_undo, ini_X6, by decide, by decide, by decide +kernel⟩
theorem ca_X6_save : zCal yX6_save cX6_save 3 (some .int) 1 := ⟨co_X6_save, im_X6_save, se_X6_save, ini_X6, by decide, by decide, by decide +kernel⟩
theorem ca_X6_restore : zCal yX6_restore cX6_restore 3 (some .int) 1 := ⟨co_X6_restore, im_X6_restore, se_X6_restore, ini_X6, by decide, by decide, by decide +kernel⟩
end
section

def fset (f : Nat → Nat) (k x : Nat) : Nat → Nat := fun i => if i = k then x else f i
theorem fset_self (f : Nat → Nat) (k x : Nat) : fset f k x k = x := by simp [fset]
theorem fset_ne (f : Nat → Nat) {k i : Nat} (x : Nat) (h : i ≠ k) : fset f k x i = f i := by simp [fset, h]
abbrev vset (v : Wv) (i x : Nat) : Wv := fset v i x
theorem Pst.setF {G : zG} {a k x : Nat} {f g : Nat → Nat} {M M1 : Mm} (h : Pst G a f g M) (hk : k < 7) (e : M1 a = some (.inr (3, ([.int (nI (f 0)), .int (nI (f 1)), .int (nI (f 2)), .int (nI (f 3)), .int (nI (f 4)), .int (nI (f 5)), .int (nI (f 6)), .ref (a + 1)] : List Value).set k (.int (nI x))))) (o : ∀ q : Nat, q ≠ a → M1 q = M q) : Pst G a (fset f k x) g M1 := by
  refine ⟨?_, h.2.kept (o _ (by omega))⟩
  rw [e]
  rcases (show k = 0 ∨ k = 1 ∨ k = 2 ∨ k = 3 ∨ k = 4 ∨ k = 5 ∨ k = 6 by omega) with rfl | rfl | rfl | rfl | rfl | rfl | rfl <;> rfl
theorem Pst.setC {G : zG} {a c x : Nat} {f g : Nat → Nat} {M M1 : Mm} (h : Pst G a f g M) (e : zArr G 0 M1 (a + 1) 60 (fun i => if i = c then nI x else nI (g i))) (o : ∀ q : Nat, q ≠ a + 1 → M1 q = M q) : Pst G a f (fset g c x) M1 := by
  refine ⟨by rw [o a (by omega)]; exact h.1, e.to fun i _ => ?_⟩
  unfold fset
  by_cases hi : i = c <;> simp [hi]
theorem Pst.to {G : zG} {a : Nat} {f g f' g' : Nat → Nat} {M : Mm} (h : Pst G a f g M) (hf : ∀ k, k < 7 → f k = f' k) (hg : ∀ c, c < 60 → g c = g' c) : Pst G a f' g' M := by
  refine ⟨?_, h.2.to fun i hi => congrArg nI (hg i hi)⟩
  rw [h.1, hf 0 (by decide), hf 1 (by decide), hf 2 (by decide), hf 3 (by decide), hf 4 (by decide), hf 5 (by decide), hf 6 (by decide)]
def ncCnt (g : Nat → Nat) : Nat := zcnt (fun c => decide (0 < g c)) 60
theorem ncCnt_le (g : Nat → Nat) : ncCnt g ≤ 60 := zcnt_le _ _

set_option maxHeartbeats 4000000 in
set_option maxRecDepth 100000 in
theorem c_X3_liesAt (l : Launch) (G : zG) (B0 : Nat) (M : Mm) (a : Nat) (f g : Nat → Nat) (hP : Pst G a f g M) (hf0 : f 0 + f 2 ≤ 10) (hf1 : f 1 + f 3 ≤ 6) (x y : Nat) (hx9 : x < 10) (hy9 : y < 6) : zMet l yX3_liesAt cX3_liesAt 3 (some .boolean) 1 0 0 G B0 M [.ref a, .int (nI x), .int (nI y)] (some (.int (zb (liesN f x y)))) (fun M1 => M = M1) := by
  refine z_met RX3 [(0, .ref a), (1, .int (nI x)), (2, .int (nI y))] (by decide) rfl (Nat.le_of_ble_eq_true rfl) rfl ?_
  intro pg ev s m below meth cd ls hE hin hB0 hH hl
  have hx := hE.1
  have hb := hE.2.1
  refine z_gen B0 (fun H locs hH hS => ?_) hH
  refine lv_iload_n hx hb dX3_liesAt_0 rfl (lv_at hl 1 rfl) ?_
  refine lv_aload_n hx hb dX3_liesAt_1 rfl (lv_at hl 0 rfl) ?_
  refine z_get (T := TX3) (v := .int (nI (f 0))) hE hH hP.1 rfl uw_X3 0 (by decide) fkX3_15 rfl dX3_liesAt_2 ?_
  refine n_cmp_lt (tgt := 46) hx hb (by omega) (by omega) dX3_liesAt_5 (by decide) (fun h1 => ?_) (fun h1 => ?_)
  · refine n_iconst hx hb 0 dX3_liesAt_46 (by decide) ?_
    exact z_zret hE hH hS (by rw [show liesN f x y = false from by simp [liesN]; omega]; rfl) rfl dX3_liesAt_47
  · refine lv_iload_n hx hb dX3_liesAt_8 rfl (lv_at hl 1 rfl) ?_
    refine lv_aload_n hx hb dX3_liesAt_9 rfl (lv_at hl 0 rfl) ?_
    refine z_get (T := TX3) (v := .int (nI (f 0))) hE hH hP.1 rfl uw_X3 0 (by decide) fkX3_15 rfl dX3_liesAt_10 ?_
    refine lv_aload_n hx hb dX3_liesAt_13 rfl (lv_at hl 0 rfl) ?_
    refine z_get (T := TX3) (v := .int (nI (f 2))) hE hH hP.1 rfl uw_X3 2 (by decide) fkX3_22 rfl dX3_liesAt_14 ?_
    refine n_iadd hx hb dX3_liesAt_17 ?_
    refine n_cmp_ge (tgt := 46) hx hb (by omega) (by omega) dX3_liesAt_18 (by decide) (fun h2 => ?_) (fun h2 => ?_)
    · refine n_iconst hx hb 0 dX3_liesAt_46 (by decide) ?_
      exact z_zret hE hH hS (by rw [show liesN f x y = false from by simp [liesN]; omega]; rfl) rfl dX3_liesAt_47
    · refine lv_iload_n hx hb dX3_liesAt_21 rfl (lv_at hl 2 rfl) ?_
      refine lv_aload_n hx hb dX3_liesAt_22 rfl (lv_at hl 0 rfl) ?_
      refine z_get (T := TX3) (v := .int (nI (f 1))) hE hH hP.1 rfl uw_X3 1 (by decide) fkX3_19 rfl dX3_liesAt_23 ?_
      refine n_cmp_lt (tgt := 46) hx hb (by omega) (by omega) dX3_liesAt_26 (by decide) (fun h3 => ?_) (fun h3 => ?_)
      · refine n_iconst hx hb 0 dX3_liesAt_46 (by decide) ?_
        exact z_zret hE hH hS (by rw [show liesN f x y = false from by simp [liesN]; omega]; rfl) rfl dX3_liesAt_47
      · refine lv_iload_n hx hb dX3_liesAt_29 rfl (lv_at hl 2 rfl) ?_
        refine lv_aload_n hx hb dX3_liesAt_30 rfl (lv_at hl 0 rfl) ?_
        refine z_get (T := TX3) (v := .int (nI (f 1))) hE hH hP.1 rfl uw_X3 1 (by decide) fkX3_19 rfl dX3_liesAt_31 ?_
        refine lv_aload_n hx hb dX3_liesAt_34 rfl (lv_at hl 0 rfl) ?_
        refine z_get (T := TX3) (v := .int (nI (f 3))) hE hH hP.1 rfl uw_X3 3 (by decide) fkX3_25 rfl dX3_liesAt_35 ?_
        refine n_iadd hx hb dX3_liesAt_38 ?_
        refine n_cmp_ge (tgt := 46) hx hb (by omega) (by omega) dX3_liesAt_39 (by decide) (fun h4 => ?_) (fun h4 => ?_)
        · refine n_iconst hx hb 0 dX3_liesAt_46 (by decide) ?_
          exact z_zret hE hH hS (by rw [show liesN f x y = false from by simp [liesN]; omega]; rfl) rfl dX3_liesAt_47
        · refine n_iconst hx hb 1 dX3_liesAt_42 (by decide) ?_
          refine lv_goto (tgt := 47) hx hb dX3_liesAt_43 (by decide) ?_
          exact z_zret hE hH hS (by rw [show liesN f x y = true from by simp [liesN]; omega]; rfl) rfl dX3_liesAt_47

set_option maxHeartbeats 4000000 in
set_option maxRecDepth 100000 in
theorem c_X3_notClearCells (l : Launch) (G : zG) (B0 : Nat) (M : Mm) (a : Nat) (f g : Nat → Nat) (hP : Pst G a f g M) (hg : ∀ c, c < 60 → g c ≤ 99) : zMet l yX3_notClearCells cX3_notClearCells 3 (some .int) 1 0 0 G B0 M [.ref a] (some (.int (nI (ncCnt g)))) (fun M1 => M = M1) := by
  refine z_met RX3 [(0, .ref a)] (by decide) rfl (Nat.le_of_ble_eq_true rfl) rfl ?_
  intro pg ev s m below meth cd ls hE hin hB0 hH hl
  have hx := hE.1
  have hb := hE.2.1
  refine z_gen B0 (fun H locs hH hS => ?_) hH
  refine n_iconst hx hb 0 dX3_notClearCells_0 (by decide) ?_
  refine lv_istore_n (lv' := [(1, .int (nI 0)), (0, .ref a)]) hx hb dX3_notClearCells_1 rfl hl (by decide) rfl (fun ls hl => ?_)
  refine n_iconst hx hb 0 dX3_notClearCells_2 (by decide) ?_
  refine lv_istore_n (lv' := [(2, .int (nI 0)), (1, .int (nI 0)), (0, .ref a)]) hx hb dX3_notClearCells_3 rfl hl (by decide) rfl (fun ls hl => ?_)
  have L4 : ∀ (dd : Nat) (k : Nat) (b : Nat), 60 < k + dd → (k ≤ 60) → (b = zcnt (fun c => decide (0 < g c)) k) → ∀ (H : Heap) (locs : List Loc), zH G M H → zS 0 B0 s.heap H locs → ∀ (ls : Array Slot), lv_has ls 3 [(0, .ref a), (1, .int (nI b)), (2, .int (nI k))] → zW pg l ev 1 0 0 s m [.ref a] below meth cd H locs 0 0 G B0 (some (.int (nI (ncCnt g)))) (fun M1 => M = M1) (F0 m 4 ls []) := by
    intro dd
    induction dd with
    | zero =>
      intro k b hdd hk ha
      exact absurd hdd (by omega)
    | succ dd ih =>
      intro k b hdd hk ha H locs hH hS ls hl
      refine lv_iload_n hx hb dX3_notClearCells_4 rfl (lv_at hl 2 rfl) ?_
      refine n_bipush hx hb 60 dX3_notClearCells_5 (by decide) ?_
      refine n_cmp_ge (tgt := 28) hx hb (by omega) (by decide) dX3_notClearCells_7 (by decide) (fun h1 => ?_) (fun h1 => ?_)
      · refine lv_iload_n hx hb dX3_notClearCells_28 rfl (lv_at hl 1 rfl) ?_
        exact z_iret hE hH hS (by have hkk : k = 60 := (by omega); subst hkk; rw [ha]; first | done | rfl) rfl dX3_notClearCells_29
      · refine lv_aload_n hx hb dX3_notClearCells_10 rfl (lv_at hl 0 rfl) ?_
        refine z_get (T := TX3) (v := .ref (a + 1)) hE hH hP.1 rfl uw_X3 7 (by decide) fkX3_9 rfl dX3_notClearCells_11 ?_
        refine lv_iload_n hx hb dX3_notClearCells_14 rfl (lv_at hl 2 rfl) ?_
        refine z_iald hE hH hP.2 (k := k) (by omega) (by decide) dX3_notClearCells_15 ?_
        have q2 := hg k (by omega)
        refine n_if_le (tgt := 22) hx hb (by omega) dX3_notClearCells_16 (by decide) (fun h3 => ?_) (fun h3 => ?_)
        · refine lv_iinc (v := (nI (k + 1))) (lv' := [(2, .int (nI (k + 1))), (0, .ref a), (1, .int (nI b))]) hx hb dX3_notClearCells_22 hl (k := 2) rfl (nI_inc _) (by decide) rfl (fun ls hl => ?_)
          refine lv_goto (tgt := 4) hx hb dX3_notClearCells_25 (by decide) ?_
          exact ih  (k + 1) b (by omega) (by omega) (by unfold zcnt; rw [← ha]; simp [*]) _ _ hH hS _ (lv_sub hl [1, 2, 0] rfl)
        · refine lv_iinc (v := (nI (b + 1))) (lv' := [(1, .int (nI (b + 1))), (0, .ref a), (2, .int (nI k))]) hx hb dX3_notClearCells_19 hl (k := 1) rfl (nI_inc _) (by decide) rfl (fun ls hl => ?_)
          refine lv_iinc (v := (nI (k + 1))) (lv' := [(2, .int (nI (k + 1))), (1, .int (nI (b + 1))), (0, .ref a)]) hx hb dX3_notClearCells_22 hl (k := 2) rfl (nI_inc _) (by decide) rfl (fun ls hl => ?_)
          refine lv_goto (tgt := 4) hx hb dX3_notClearCells_25 (by decide) ?_
          exact ih  (k + 1) (b + 1) (by omega) (by omega) (by unfold zcnt; rw [← ha]; simp [*]) _ _ hH hS _ (lv_sub hl [2, 1, 0] rfl)
  exact L4 61 0 0 (by omega) (by omega) rfl _ _ hH hS _ (lv_sub hl [2, 1, 0] rfl)

set_option maxHeartbeats 4000000 in
set_option maxRecDepth 100000 in
theorem c_X3_clearCells (l : Launch) (G : zG) (B0 : Nat) (M : Mm) (a : Nat) (f g : Nat → Nat) (hP : Pst G a f g M) (hg : ∀ c, c < 60 → g c ≤ 99) : zMet l yX3_clearCells cX3_clearCells 1 (some .int) 2 0 0 G B0 M [.ref a] (some (.int (nI (f 2 * f 3) - nI (ncCnt g)))) (fun M1 => M = M1) := by
  refine z_met RX3 [(0, .ref a)] (by decide) rfl (Nat.le_of_ble_eq_true rfl) rfl ?_
  intro pg ev s m below meth cd ls hE hin hB0 hH hl
  have hx := hE.1
  have hb := hE.2.1
  refine z_gen B0 (fun H locs hH hS => ?_) hH
  refine lv_aload_n hx hb dX3_clearCells_0 rfl (lv_at hl 0 rfl) ?_
  refine z_get (T := TX3) (v := .int (nI (f 2))) hE hH hP.1 rfl uw_X3 2 (by decide) fkX3_22 rfl dX3_clearCells_1 ?_
  refine lv_aload_n hx hb dX3_clearCells_4 rfl (lv_at hl 0 rfl) ?_
  refine z_get (T := TX3) (v := .int (nI (f 3))) hE hH hP.1 rfl uw_X3 3 (by decide) fkX3_25 rfl dX3_clearCells_5 ?_
  refine n_imul hx hb dX3_clearCells_8 ?_
  refine lv_aload_n hx hb dX3_clearCells_9 rfl (lv_at hl 0 rfl) ?_
  refine z_callV (rest := [.int (nI ((f 2) * (f 3)))]) (st2 := [.int (nI (ncCnt g)), .int (nI ((f 2) * (f 3)))]) hE hH hS hB0 hl ca_X3_notClearCells mkX3_51 (c_X3_notClearCells l G B0 M a f g hP hg) hP.1 rfl rfl rfl rfl rfl ⟨Nat.le_of_ble_eq_true rfl, Nat.le_of_ble_eq_true rfl⟩ (Nat.le_of_ble_eq_true rfl) ⟨Nat.le_refl _, Nat.le_refl _⟩ dX3_clearCells_10 (fun H locs M1 hH hp hS => ?_)
  subst hp
  have q1 := ncCnt_le g
  refine lv_isub hx hb dX3_clearCells_13 ?_
  exact z_iret hE hH hS rfl rfl dX3_clearCells_14

set_option maxHeartbeats 4000000 in
set_option maxRecDepth 100000 in
theorem c_X3_allVarnish (l : Launch) (G : zG) (B0 : Nat) (M : Mm) (a : Nat) (f g : Nat → Nat) (hP : Pst G a f g M) (hg : ∀ c, c < 60 → g c ≤ 99) : zMet l yX3_allVarnish cX3_allVarnish 3 (some .int) 1 0 0 G B0 M [.ref a] (some (.int (nI (zsum g 60)))) (fun M1 => M = M1) := by
  refine z_met RX3 [(0, .ref a)] (by decide) rfl (Nat.le_of_ble_eq_true rfl) rfl ?_
  intro pg ev s m below meth cd ls hE hin hB0 hH hl
  have hx := hE.1
  have hb := hE.2.1
  refine z_gen B0 (fun H locs hH hS => ?_) hH
  refine n_iconst hx hb 0 dX3_allVarnish_0 (by decide) ?_
  refine lv_istore_n (lv' := [(1, .int (nI 0)), (0, .ref a)]) hx hb dX3_allVarnish_1 rfl hl (by decide) rfl (fun ls hl => ?_)
  refine n_iconst hx hb 0 dX3_allVarnish_2 (by decide) ?_
  refine lv_istore_n (lv' := [(2, .int (nI 0)), (1, .int (nI 0)), (0, .ref a)]) hx hb dX3_allVarnish_3 rfl hl (by decide) rfl (fun ls hl => ?_)
  have L4 : ∀ (dd : Nat) (k : Nat) (b : Nat), 60 < k + dd → (k ≤ 60) → (b = zsum g k) → ∀ (H : Heap) (locs : List Loc), zH G M H → zS 0 B0 s.heap H locs → ∀ (ls : Array Slot), lv_has ls 3 [(0, .ref a), (1, .int (nI b)), (2, .int (nI k))] → zW pg l ev 1 0 0 s m [.ref a] below meth cd H locs 0 0 G B0 (some (.int (nI (zsum g 60)))) (fun M1 => M = M1) (F0 m 4 ls []) := by
    intro dd
    induction dd with
    | zero =>
      intro k b hdd hk ha
      exact absurd hdd (by omega)
    | succ dd ih =>
      intro k b hdd hk ha H locs hH hS ls hl
      refine lv_iload_n hx hb dX3_allVarnish_4 rfl (lv_at hl 2 rfl) ?_
      refine n_bipush hx hb 60 dX3_allVarnish_5 (by decide) ?_
      refine n_cmp_ge (tgt := 25) hx hb (by omega) (by decide) dX3_allVarnish_7 (by decide) (fun h1 => ?_) (fun h1 => ?_)
      · refine lv_iload_n hx hb dX3_allVarnish_25 rfl (lv_at hl 1 rfl) ?_
        exact z_iret hE hH hS (by have hkk : k = 60 := (by omega); subst hkk; rw [ha]; first | done | rfl) rfl dX3_allVarnish_26
      · refine lv_iload_n hx hb dX3_allVarnish_10 rfl (lv_at hl 1 rfl) ?_
        refine lv_aload_n hx hb dX3_allVarnish_11 rfl (lv_at hl 0 rfl) ?_
        refine z_get (T := TX3) (v := .ref (a + 1)) hE hH hP.1 rfl uw_X3 7 (by decide) fkX3_9 rfl dX3_allVarnish_12 ?_
        refine lv_iload_n hx hb dX3_allVarnish_15 rfl (lv_at hl 2 rfl) ?_
        refine z_iald hE hH hP.2 (k := k) (by omega) (by decide) dX3_allVarnish_16 ?_
        have q2 := hg k (by omega)
        refine n_iadd hx hb dX3_allVarnish_17 ?_
        refine lv_istore_n (lv' := [(1, .int (nI (b + (g k)))), (0, .ref a), (2, .int (nI k))]) hx hb dX3_allVarnish_18 rfl hl (by decide) rfl (fun ls hl => ?_)
        refine lv_iinc (v := (nI (k + 1))) (lv' := [(2, .int (nI (k + 1))), (1, .int (nI (b + (g k)))), (0, .ref a)]) hx hb dX3_allVarnish_19 hl (k := 2) rfl (nI_inc _) (by decide) rfl (fun ls hl => ?_)
        refine lv_goto (tgt := 4) hx hb dX3_allVarnish_22 (by decide) ?_
        exact ih  (k + 1) (b + (g k)) (by omega) (by omega) (by unfold zsum; rw [← ha]) _ _ hH hS _ (lv_sub hl [2, 1, 0] rfl)
  exact L4 61 0 0 (by omega) (by omega) rfl _ _ hH hS _ (lv_sub hl [2, 1, 0] rfl)

set_option maxHeartbeats 4000000 in
set_option maxRecDepth 100000 in
theorem c_X3_cover (l : Launch) (G : zG) (B0 : Nat) (M : Mm) (a : Nat) (f g : Nat → Nat) (hP : Pst G a f g M) (hBa : B0 ≤ a) (x y wd ht : Nat) : zMet l yX3_cover cX3_cover 5 none 1 0 0 G B0 M [.ref a, .int (nI x), .int (nI y), .int (nI wd), .int (nI ht)] none (fun M1 => Pst G a (fset (fset (fset (fset f 0 x) 1 y) 2 wd) 3 ht) (g) M1 ∧ ∀ q, q ≠ a → q ≠ a + 1 → M1 q = M q) := by
  refine z_met RX3 [(0, .ref a), (1, .int (nI x)), (2, .int (nI y)), (3, .int (nI wd)), (4, .int (nI ht))] (by decide) rfl (Nat.le_of_ble_eq_true rfl) rfl ?_
  intro pg ev s m below meth cd ls hE hin hB0 hH hl
  have hx := hE.1
  have hb := hE.2.1
  have hF : ∀ q, q ≠ a ∧ q ≠ a + 1 → M q = M q := fun _ _ => rfl
  refine z_gen B0 (fun H locs hH hS => ?_) hH
  refine lv_aload_n hx hb dX3_cover_0 rfl (lv_at hl 0 rfl) ?_
  refine lv_iload_n hx hb dX3_cover_1 rfl (lv_at hl 1 rfl) ?_
  refine z_put (T := TX3) hE hH hS hP.1 rfl uw_X3 tyX3 tyX3_ok nmX3 0 (by decide) fkX3_15 rfl rfl rfl (Nat.le_of_ble_eq_true rfl) (by omega) dX3_cover_2 (fun H locs M3 hH hS e1 o2 => ?_)
  have hP4 := Pst.setF (k := 0) hP (by decide) e1 o2
  have hF5 := fun q hq => (o2 q (by omega)).trans (hF q hq)
  refine lv_aload_n hx hb dX3_cover_5 rfl (lv_at hl 0 rfl) ?_
  refine lv_iload_n hx hb dX3_cover_6 rfl (lv_at hl 2 rfl) ?_
  refine z_put (T := TX3) hE hH hS hP4.1 rfl uw_X3 tyX3 tyX3_ok nmX3 1 (by decide) fkX3_19 rfl rfl rfl (Nat.le_of_ble_eq_true rfl) (by omega) dX3_cover_7 (fun H locs M8 hH hS e6 o7 => ?_)
  have hP9 := Pst.setF (k := 1) hP4 (by decide) e6 o7
  have hF10 := fun q hq => (o7 q (by omega)).trans (hF5 q hq)
  refine lv_aload_n hx hb dX3_cover_10 rfl (lv_at hl 0 rfl) ?_
  refine lv_iload_n hx hb dX3_cover_11 rfl (lv_at hl 3 rfl) ?_
  refine z_put (T := TX3) hE hH hS hP9.1 rfl uw_X3 tyX3 tyX3_ok nmX3 2 (by decide) fkX3_22 rfl rfl rfl (Nat.le_of_ble_eq_true rfl) (by omega) dX3_cover_12 (fun H locs M13 hH hS e11 o12 => ?_)
  have hP14 := Pst.setF (k := 2) hP9 (by decide) e11 o12
  have hF15 := fun q hq => (o12 q (by omega)).trans (hF10 q hq)
  refine lv_aload_n hx hb dX3_cover_15 rfl (lv_at hl 0 rfl) ?_
  refine lv_iload hx hb dX3_cover_16 (lv_at hl 4 rfl) ?_
  refine z_put (T := TX3) hE hH hS hP14.1 rfl uw_X3 tyX3 tyX3_ok nmX3 3 (by decide) fkX3_25 rfl rfl rfl (Nat.le_of_ble_eq_true rfl) (by omega) dX3_cover_18 (fun H locs M18 hH hS e16 o17 => ?_)
  have hP19 := Pst.setF (k := 3) hP14 (by decide) e16 o17
  have hF20 := fun q hq => (o17 q (by omega)).trans (hF15 q hq)
  exact z_vret hE hH hS ⟨hP19, fun q h1 h2 => hF20 q ⟨h1, h2⟩⟩ dX3_cover_21

def beginG (f : Nat → Nat) (vn : Nat) (g : Nat → Nat) : Nat → Nat → Nat
  | 0 => g
  | k + 1 => fset (beginG f vn g k) k (if liesN f (k % 10) (k / 10) = true then vn else 0)
theorem beginG_at (f : Nat → Nat) (q : Nat) (g : Nat → Nat) : ∀ (n c : Nat), beginG f q g n c = if c < n then (if liesN f (c % 10) (c / 10) = true then q else 0) else g c
  | 0, c => by simp [beginG]
  | n + 1, c => by
    unfold beginG fset
    by_cases h : c = n
    · subst h; simp
    · rw [if_neg h, beginG_at f q g n c]
      by_cases h2 : c < n
      · have h3 : c < n + 1 := by omega
        simp [h2, h3]
      · have h3 : ¬ c < n + 1 := by omega
        simp [h2, h3]
theorem liesN_fset (f : Nat → Nat) {k x : Nat} (hk : 4 ≤ k) (a b : Nat) : liesN (fset f k x) a b = liesN f a b := by
  unfold liesN
  rw [fset_ne f x (by omega), fset_ne f x (by omega), fset_ne f x (by omega), fset_ne f x (by omega)]

set_option maxHeartbeats 4000000 in
set_option maxRecDepth 100000 in
theorem c_X3_begin (l : Launch) (G : zG) (B0 : Nat) (M : Mm) (a : Nat) (f g : Nat → Nat) (hP : Pst G a f g M) (hBa : B0 ≤ a) (hf0 : f 0 + f 2 ≤ 10) (hf1 : f 1 + f 3 ≤ 6) (p' vn : Nat) : zMet l yX3_begin cX3_begin 4 none 2 0 0 G B0 M [.ref a, .int (nI p'), .int (nI vn)] none (fun M1 => Pst G a (fset (fset (fset f 4 p') 5 0) 6 0) (beginG f vn g 60) M1 ∧ ∀ q, q ≠ a → q ≠ a + 1 → M1 q = M q) := by
  refine z_met RX3 [(0, .ref a), (1, .int (nI p')), (2, .int (nI vn))] (by decide) rfl (Nat.le_of_ble_eq_true rfl) rfl ?_
  intro pg ev s m below meth cd ls hE hin hB0 hH hl
  have hx := hE.1
  have hb := hE.2.1
  have hF : ∀ q, q ≠ a ∧ q ≠ a + 1 → M q = M q := fun _ _ => rfl
  refine z_gen B0 (fun H locs hH hS => ?_) hH
  refine lv_aload_n hx hb dX3_begin_0 rfl (lv_at hl 0 rfl) ?_
  refine lv_iload_n hx hb dX3_begin_1 rfl (lv_at hl 1 rfl) ?_
  refine z_put (T := TX3) hE hH hS hP.1 rfl uw_X3 tyX3 tyX3_ok nmX3 4 (by decide) fkX3_28 rfl rfl rfl (Nat.le_of_ble_eq_true rfl) (by omega) dX3_begin_2 (fun H locs M3 hH hS e1 o2 => ?_)
  have hP4 := Pst.setF (k := 4) hP (by decide) e1 o2
  have hF5 := fun q hq => (o2 q (by omega)).trans (hF q hq)
  refine lv_aload_n hx hb dX3_begin_5 rfl (lv_at hl 0 rfl) ?_
  refine n_iconst hx hb 0 dX3_begin_6 (by decide) ?_
  refine z_put (T := TX3) hE hH hS hP4.1 rfl uw_X3 tyX3 tyX3_ok nmX3 5 (by decide) fkX3_31 rfl rfl rfl (Nat.le_of_ble_eq_true rfl) (by omega) dX3_begin_7 (fun H locs M8 hH hS e6 o7 => ?_)
  have hP9 := Pst.setF (k := 5) hP4 (by decide) e6 o7
  have hF10 := fun q hq => (o7 q (by omega)).trans (hF5 q hq)
  refine lv_aload_n hx hb dX3_begin_10 rfl (lv_at hl 0 rfl) ?_
  refine n_iconst hx hb 0 dX3_begin_11 (by decide) ?_
  refine z_put (T := TX3) hE hH hS hP9.1 rfl uw_X3 tyX3 tyX3_ok nmX3 6 (by decide) fkX3_34 rfl rfl rfl (Nat.le_of_ble_eq_true rfl) (by omega) dX3_begin_12 (fun H locs M13 hH hS e11 o12 => ?_)
  have hP14 := Pst.setF (k := 6) hP9 (by decide) e11 o12
  have hF15 := fun q hq => (o12 q (by omega)).trans (hF10 q hq)
  refine n_iconst hx hb 0 dX3_begin_15 (by decide) ?_
  refine lv_istore_n (lv' := [(3, .int (nI 0)), (0, .ref a), (1, .int (nI p')), (2, .int (nI vn))]) hx hb dX3_begin_16 rfl hl (by decide) rfl (fun ls hl => ?_)
  have L17 : ∀ (dd : Nat) (k : Nat) (M1 : Mm), 60 < k + dd → (k ≤ 60) → (Pst G a (fset (fset (fset f 4 p') 5 0) 6 0) (beginG f vn g k) M1) → (∀ q, q ≠ a ∧ q ≠ a + 1 → M1 q = M q) → ∀ (H : Heap) (locs : List Loc), zH G M1 H → zS 0 B0 s.heap H locs → ∀ (ls : Array Slot), lv_has ls 4 [(0, .ref a), (1, .int (nI p')), (2, .int (nI vn)), (3, .int (nI k))] → zW pg l ev 2 0 0 s m [.ref a, .int (nI p'), .int (nI vn)] below meth cd H locs 0 0 G B0 none (fun M1 => Pst G a (fset (fset (fset f 4 p') 5 0) 6 0) (beginG f vn g 60) M1 ∧ ∀ q, q ≠ a → q ≠ a + 1 → M1 q = M q) (F0 m 17 ls []) := by
    intro dd
    induction dd with
    | zero =>
      intro k M1 hdd hk hP1 hF1
      exact absurd hdd (by omega)
    | succ dd ih =>
      intro k M1 hdd hk hP1 hF1 H locs hH hS ls hl
      refine lv_iload_n hx hb dX3_begin_17 rfl (lv_at hl 3 rfl) ?_
      refine n_bipush hx hb 60 dX3_begin_18 (by decide) ?_
      refine n_cmp_ge (tgt := 55) hx hb (by omega) (by decide) dX3_begin_20 (by decide) (fun h16 => ?_) (fun h16 => ?_)
      · exact z_vret hE hH hS ⟨by have hkk : k = 60 := (by omega); subst hkk; exact hP1, fun q h1 h2 => hF1 q ⟨h1, h2⟩⟩ dX3_begin_55
      · refine lv_aload_n hx hb dX3_begin_23 rfl (lv_at hl 0 rfl) ?_
        refine z_get (T := TX3) (v := .ref (a + 1)) hE hH hP1.1 rfl uw_X3 7 (by decide) fkX3_9 rfl dX3_begin_24 ?_
        refine lv_iload_n hx hb dX3_begin_27 rfl (lv_at hl 3 rfl) ?_
        refine lv_aload_n hx hb dX3_begin_28 rfl (lv_at hl 0 rfl) ?_
        refine lv_iload_n hx hb dX3_begin_29 rfl (lv_at hl 3 rfl) ?_
        refine n_bipush hx hb 10 dX3_begin_30 (by decide) ?_
        refine n_irem hx hb (by omega) (by decide) (by decide) dX3_begin_32 ?_
        refine lv_iload_n hx hb dX3_begin_33 rfl (lv_at hl 3 rfl) ?_
        refine n_bipush hx hb 10 dX3_begin_34 (by decide) ?_
        refine n_idiv hx hb (by omega) (by decide) (by decide) dX3_begin_36 ?_
        refine z_callV (rest := [.int (nI k), .ref (a + 1)]) (st2 := [.int (zb (liesN (fset (fset (fset f 4 p') 5 0) 6 0) (k % 10) (k / 10))), .int (nI k), .ref (a + 1)]) hE hH hS hB0 hl ca_X3_liesAt mkX3_37 (c_X3_liesAt l G B0 M1 a (fset (fset (fset f 4 p') 5 0) 6 0) (beginG f vn g k) hP1 (by simpa [fset] using hf0) (by simpa [fset] using hf1) (k % 10) (k / 10) (by omega) (by omega)) hP1.1 rfl rfl rfl rfl rfl ⟨Nat.le_of_ble_eq_true rfl, Nat.le_of_ble_eq_true rfl⟩ (Nat.le_of_ble_eq_true rfl) ⟨Nat.le_refl _, Nat.le_refl _⟩ dX3_begin_37 (fun H locs M1 hH hp hS => ?_)
        subst hp
        refine b_if_eq (tgt := 47) hx hb dX3_begin_40 (by decide) (fun h17 => ?_) (fun h17 => ?_)
        · refine n_iconst hx hb 0 dX3_begin_47 (by decide) ?_
          refine z_iast hE hH hS hP1.2 (k := k) (by omega) (by decide) (by omega) dX3_begin_48 (fun H locs M20 hH hS e18 o19 => ?_)
          have hP21 := Pst.setC (c := k) hP1 e18 o19
          have hF22 := fun q hq => (o19 q (by omega)).trans (hF1 q hq)
          refine lv_iinc (v := (nI (k + 1))) (lv' := [(3, .int (nI (k + 1))), (0, .ref a), (1, .int (nI p')), (2, .int (nI vn))]) hx hb dX3_begin_49 hl (k := 3) rfl (nI_inc _) (by decide) rfl (fun ls hl => ?_)
          refine lv_goto (tgt := 17) hx hb dX3_begin_52 (by decide) ?_
          exact ih  (k + 1) M20 (by omega) (by omega) (by have hh := h17; simp [liesN_fset] at hh; unfold beginG; rw [hh]; exact hP21) hF22 _ _ hH hS _ (lv_sub hl [1, 2, 3, 0] rfl)
        · refine lv_iload_n hx hb dX3_begin_43 rfl (lv_at hl 2 rfl) ?_
          refine lv_goto (tgt := 48) hx hb dX3_begin_44 (by decide) ?_
          refine z_iast hE hH hS hP1.2 (k := k) (by omega) (by decide) (by omega) dX3_begin_48 (fun H locs M25 hH hS e23 o24 => ?_)
          have hP26 := Pst.setC (c := k) hP1 e23 o24
          have hF27 := fun q hq => (o24 q (by omega)).trans (hF1 q hq)
          refine lv_iinc (v := (nI (k + 1))) (lv' := [(3, .int (nI (k + 1))), (0, .ref a), (1, .int (nI p')), (2, .int (nI vn))]) hx hb dX3_begin_49 hl (k := 3) rfl (nI_inc _) (by decide) rfl (fun ls hl => ?_)
          refine lv_goto (tgt := 17) hx hb dX3_begin_52 (by decide) ?_
          exact ih  (k + 1) M25 (by omega) (by omega) (by have hh := h17; simp [liesN_fset] at hh; unfold beginG; rw [hh]; exact hP26) hF27 _ _ hH hS _ (lv_sub hl [1, 2, 3, 0] rfl)
  exact L17 61 0 M13 (by omega) (by omega) hP14 hF15 _ _ hH hS _ (lv_sub hl [1, 2, 3, 0] rfl)

/-- System.arraycopy of ints, from one array to another -/
theorem z_copy {p : Program} {l : Launch} {e : Env} {R : Room} {s : State} {m : MethodId} {args : Array Value} {below : List Frame} {meth : Method} {c : Code} {H : Heap} {locs : List Loc} {cells slots : Nat} {Q : State → Prop} {cc : ByteArray} {pc nL : Nat} {ls : Array Slot} {lv : List (Nat × Value)} {rest : List Value} {G : zG} {M : Mm} {a a0 n B0 idx : Nat} {H0 : Heap} {own : String} {ret : Option FieldType} {N : Nat} {f g : Nat → Int32}
    (hE : zE p s m args meth c G own cc nL ret) (hH : zH G M H) (hS : zS n B0 H0 H locs) (hl : lv_has ls nL lv) (hli : Cond.methodLink own idx arraycopyName ∈ Tb) (hA0 : zArr G 0 M a0 N f) (hA : zArr G 0 M a N g) (hN : N < 2 ^ 31) (hB : B0 ≤ a) (hr : 1 ≤ R.frames ∧ (rest.map fun v => v.category).sum + (nativeFrameWords "java/lang/System" "arraycopy" 5 + 11) ≤ R.locals) (hdg : decode cc pc = .ok (.invokestatic idx, 3))
    (kk : ∀ (H1 : Heap) (locs1 : List Loc) (M1 : Mm), zH G M1 H1 → zS n B0 H0 H1 locs1 → zArr G 0 M1 a N f → (∀ q : Nat, q ≠ a → M1 q = M q) → W p l e R s m args below meth c H1 locs1 cells slots Q (F0 m (pc + 3) ls rest)) : W p l e R s m args below meth c H locs cells slots Q (F0 m pc ls (.int (nI N) :: .int (nI 0) :: .ref a :: .int (nI 0) :: .ref a0 :: rest)) := by
  have hts := hE.2.2.2.2.1
  have hK := hE.2.2.2.2.2.2.2.1
  obtain ⟨f', hf1, hf2⟩ := hA0
  obtain ⟨g', hg1, hg2⟩ := hA
  have hz : (nI 0).toNatClampNeg = 0 := nI_clamp (by decide)
  have hn : (nI N).toNatClampNeg = N := nI_clamp hN
  intro T hT X
  have hc0 : H[a0]? = some (vp_cell (G.2 0) (N, .inl f')) := hH _ _ hf1
  have hc1 : H[a]? = some (vp_cell (G.2 0) (N, .inl g')) := hH _ _ hg1
  obtain ⟨-, k0, hk0, cm0, hkk0⟩ := (hK.2 0 _ rfl).1 N (fun j => .int (f' j))
  obtain ⟨-, k1, hk1, cm1, hkk1⟩ := (hK.2 0 _ rfl).1 N (fun j => .int (g' j))
  obtain ⟨vm', X', step⟩ := X.arraycopy hE.1 hE.2.2.2.1 (hts _ hli) (hts _ na_arraycopy) (hts _ st_arraycopyName) (hts _ ini_J10) (src := a0) (dst := a) (cs := vp_cell (G.2 0) (N, .inl f')) (cd := vp_cell (G.2 0) (N, .inl g')) (srcPos := nI 0) (destPos := nI 0) (n := nI N) (by rw [hT]; exact hc0) (by rw [hT]; exact hc1)
    (fun _ h => by cases h) (fun _ h => by cases h) (fun h => by cases h) (fun h => by cases h) hk0 hk1 hkk0 hkk1 (by simp [refKind]) (nI_pos (by decide)) (nI_pos (by decide)) (nI_pos hN)
    (by rw [nI_toInt (by decide), nI_toInt hN]; show ¬ _ > ((arrV (G.2 0) N (fun j => .int (f' j))).slots.size : Int); rw [arrV_size]; omega)
    (by rw [nI_toInt (by decide), nI_toInt hN]; show ¬ _ > ((arrV (G.2 0) N (fun j => .int (g' j))).slots.size : Int); rw [arrV_size]; omega)
    (fun vm₁ _ i hi => by
      rw [hn] at hi
      have e : (vp_cell (G.2 0) (N, .inl f')).slots.getD ((nI 0).toNatClampNeg + i) .null = .int (f' i) := by
        rw [hz, Nat.zero_add]
        show (arrV (G.2 0) N (fun j => .int (f' j))).slots.getD _ _ = _
        rw [Array.getD_eq_getD_getElem?, arrV_read _ _ hi]
        rfl
      refine ⟨?_, ?_⟩
      · rw [e]
        rfl
      · rw [e]
        exact trivial)
    (g := F0 m pc ls (.int (nI N) :: .int (nI 0) :: .ref a :: .int (nI 0) :: .ref a0 :: rest)) rfl (by rw [hE.2.2.1]; exact hl.1) (rest := rest) rfl (by rw [hE.2.1]; exact hdg) hr.1 (by have := hr.2; show 2 * 0 + _ + _ ≤ _; omega)
  have e1 : copied (vp_cell (G.2 0) (N, .inl f')) (vp_cell (G.2 0) (N, .inl g')) (nI 0) (nI 0) (nI N) = vp_cell (G.2 0) (N, .inl (va_cpy f' g' (nI 0).toNatClampNeg (nI 0).toNatClampNeg (nI N).toNatClampNeg)) := va_copied (fun z => .int z) (G.2 0) (G.2 0) f' g' (by rw [hz, hn]; omega)
  rw [hz, hn] at e1
  rw [e1] at X' step
  have hl1 : a < H.size := (Array.getElem?_eq_some_iff.mp hc1).1
  have hheap : ((T.setVm vm').setCell a (vp_cell (G.2 0) (N, .inl (va_cpy f' g' 0 0 N)))).heap = H.setIfInBounds a (vp_cell (G.2 0) (N, .inl (va_cpy f' g' 0 0 N))) := by rw [← hT]; rfl
  have oq : ∀ q : Nat, q ≠ a → (H.setIfInBounds a (vp_cell (G.2 0) (N, .inl (va_cpy f' g' 0 0 N))))[q]? = H[q]? := fun q hq => by simp [Array.getElem?_setIfInBounds, Ne.symm hq]
  have hsz : (H.setIfInBounds a (vp_cell (G.2 0) (N, .inl (va_cpy f' g' 0 0 N)))).size = H.size := by simp
  obtain ⟨t, a1, b1⟩ := kk _ _ (zset M a (.inl (G.2 0, N, .inl (va_cpy f' g' 0 0 N)))) (hH.set (show (H.setIfInBounds a _)[a]? = some _ by simp [Array.getElem?_setIfInBounds, hl1]) oq) ⟨⟨by rw [hsz]; exact hS.1.1, fun q g1 g2 => by
      rw [oq q (fun e => g2 (by rw [e]; exact hB))]
      exact hS.1.2.1 q g1 g2, fun q hq => by
      rcases List.mem_append.mp hq with h | h
      · exact hS.1.2.2 q h
      · obtain ⟨z, -, hz⟩ := List.mem_map.mp h
        rw [← hz]
        exact hB⟩, hsz.trans hS.2⟩ ⟨_, zset_self _ _ _, fun i hi => by
          show va_cpy f' g' 0 0 N i = f i
          unfold va_cpy
          rw [if_pos ⟨Nat.zero_le _, by omega⟩, ← hf2 i hi]
          congr 1
          omega⟩ (zset_ne _ _ _) _ hheap X'
  exact ⟨t, step t a1, b1⟩

theorem Pst.setG {G : zG} {a : Nat} {f g g2 : Nat → Nat} {M M1 : Mm} (h : Pst G a f g M) (e : zArr G 0 M1 (a + 1) 60 (fun i => nI (g2 i))) (o : ∀ q : Nat, q ≠ a + 1 → M1 q = M q) : Pst G a f g2 M1 := ⟨by rw [o a (by omega)]; exact h.1, e⟩

set_option maxHeartbeats 4000000 in
set_option maxRecDepth 100000 in
theorem c_X3_copyFrom (l : Launch) (G : zG) (B0 : Nat) (M : Mm) (a : Nat) (f g : Nat → Nat) (hP : Pst G a f g M) (hBa : B0 ≤ a) (b : Nat) (f2 g2 : Nat → Nat) (hO : Pst G b f2 g2 M) (hab : a + 1 < b ∨ b + 1 < a) : zMet l yX3_copyFrom cX3_copyFrom 2 none 2 0 0 G B0 M [.ref a, .ref b] none (fun M1 => Pst G a (f2) (g2) M1 ∧ ∀ q, q ≠ a → q ≠ a + 1 → M1 q = M q) := by
  refine z_met RX3 [(0, .ref a), (1, .ref b)] (by decide) rfl (Nat.le_of_ble_eq_true rfl) rfl ?_
  intro pg ev s m below meth cd ls hE hin hB0 hH hl
  have hx := hE.1
  have hb := hE.2.1
  have hF : ∀ q, q ≠ a ∧ q ≠ a + 1 → M q = M q := fun _ _ => rfl
  refine z_gen B0 (fun H locs hH hS => ?_) hH
  refine lv_aload_n hx hb dX3_copyFrom_0 rfl (lv_at hl 0 rfl) ?_
  refine lv_aload_n hx hb dX3_copyFrom_1 rfl (lv_at hl 1 rfl) ?_
  refine z_get (T := TX3) (v := .int (nI (f2 0))) hE hH hO.1 rfl uw_X3 0 (by decide) fkX3_15 rfl dX3_copyFrom_2 ?_
  refine lv_aload_n hx hb dX3_copyFrom_5 rfl (lv_at hl 1 rfl) ?_
  refine z_get (T := TX3) (v := .int (nI (f2 1))) hE hH hO.1 rfl uw_X3 1 (by decide) fkX3_19 rfl dX3_copyFrom_6 ?_
  refine lv_aload_n hx hb dX3_copyFrom_9 rfl (lv_at hl 1 rfl) ?_
  refine z_get (T := TX3) (v := .int (nI (f2 2))) hE hH hO.1 rfl uw_X3 2 (by decide) fkX3_22 rfl dX3_copyFrom_10 ?_
  refine lv_aload_n hx hb dX3_copyFrom_13 rfl (lv_at hl 1 rfl) ?_
  refine z_get (T := TX3) (v := .int (nI (f2 3))) hE hH hO.1 rfl uw_X3 3 (by decide) fkX3_25 rfl dX3_copyFrom_14 ?_
  refine z_callV (rest := []) (st2 := []) hE hH hS hB0 hl ca_X3_cover mkX3_41 (c_X3_cover l G B0 M a f g hP (by omega) (f2 0) (f2 1) (f2 2) (f2 3)) hP.1 rfl rfl rfl rfl rfl ⟨Nat.le_of_ble_eq_true rfl, Nat.le_of_ble_eq_true rfl⟩ (Nat.le_of_ble_eq_true rfl) ⟨Nat.le_refl _, Nat.le_refl _⟩ dX3_copyFrom_17 (fun H locs M1 hH hp hS => ?_)
  obtain ⟨hP2, hF3⟩ := hp
  have hF4 := fun q hq => (hF3 q (by omega) (by omega)).trans (hF q hq)
  have hO5 := hO.kept (hF3 _ (by omega) (by omega)) (hF3 _ (by omega) (by omega))
  refine lv_aload_n hx hb dX3_copyFrom_20 rfl (lv_at hl 0 rfl) ?_
  refine lv_aload_n hx hb dX3_copyFrom_21 rfl (lv_at hl 1 rfl) ?_
  refine z_get (T := TX3) (v := .int (nI (f2 4))) hE hH hO5.1 rfl uw_X3 4 (by decide) fkX3_28 rfl dX3_copyFrom_22 ?_
  refine z_put (T := TX3) hE hH hS hP2.1 rfl uw_X3 tyX3 tyX3_ok nmX3 4 (by decide) fkX3_28 rfl rfl rfl (Nat.le_of_ble_eq_true rfl) (by omega) dX3_copyFrom_25 (fun H locs M8 hH hS e6 o7 => ?_)
  have hP9 := Pst.setF (k := 4) hP2 (by decide) e6 o7
  have hF10 := fun q hq => (o7 q (by omega)).trans (hF4 q hq)
  have hO11 := hO5.kept (o7 _ (by omega)) (o7 _ (by omega))
  refine lv_aload_n hx hb dX3_copyFrom_28 rfl (lv_at hl 0 rfl) ?_
  refine lv_aload_n hx hb dX3_copyFrom_29 rfl (lv_at hl 1 rfl) ?_
  refine z_get (T := TX3) (v := .int (nI (f2 5))) hE hH hO11.1 rfl uw_X3 5 (by decide) fkX3_31 rfl dX3_copyFrom_30 ?_
  refine z_put (T := TX3) hE hH hS hP9.1 rfl uw_X3 tyX3 tyX3_ok nmX3 5 (by decide) fkX3_31 rfl rfl rfl (Nat.le_of_ble_eq_true rfl) (by omega) dX3_copyFrom_33 (fun H locs M14 hH hS e12 o13 => ?_)
  have hP15 := Pst.setF (k := 5) hP9 (by decide) e12 o13
  have hF16 := fun q hq => (o13 q (by omega)).trans (hF10 q hq)
  have hO17 := hO11.kept (o13 _ (by omega)) (o13 _ (by omega))
  refine lv_aload_n hx hb dX3_copyFrom_36 rfl (lv_at hl 0 rfl) ?_
  refine lv_aload_n hx hb dX3_copyFrom_37 rfl (lv_at hl 1 rfl) ?_
  refine z_get (T := TX3) (v := .int (nI (f2 6))) hE hH hO17.1 rfl uw_X3 6 (by decide) fkX3_34 rfl dX3_copyFrom_38 ?_
  refine z_put (T := TX3) hE hH hS hP15.1 rfl uw_X3 tyX3 tyX3_ok nmX3 6 (by decide) fkX3_34 rfl rfl rfl (Nat.le_of_ble_eq_true rfl) (by omega) dX3_copyFrom_41 (fun H locs M20 hH hS e18 o19 => ?_)
  have hP21 := Pst.setF (k := 6) hP15 (by decide) e18 o19
  have hF22 := fun q hq => (o19 q (by omega)).trans (hF16 q hq)
  have hO23 := hO17.kept (o19 _ (by omega)) (o19 _ (by omega))
  refine lv_aload_n hx hb dX3_copyFrom_44 rfl (lv_at hl 1 rfl) ?_
  refine z_get (T := TX3) (v := .ref (b + 1)) hE hH hO23.1 rfl uw_X3 7 (by decide) fkX3_9 rfl dX3_copyFrom_45 ?_
  refine n_iconst hx hb 0 dX3_copyFrom_48 (by decide) ?_
  refine lv_aload_n hx hb dX3_copyFrom_49 rfl (lv_at hl 0 rfl) ?_
  refine z_get (T := TX3) (v := .ref (a + 1)) hE hH hP21.1 rfl uw_X3 7 (by decide) fkX3_9 rfl dX3_copyFrom_50 ?_
  refine n_iconst hx hb 0 dX3_copyFrom_53 (by decide) ?_
  refine n_bipush hx hb 60 dX3_copyFrom_54 (by decide) ?_
  refine z_copy (rest := []) hE hH hS hl mkX3_45 hO23.2 hP21.2 (by decide) (by omega) ⟨Nat.le_of_ble_eq_true rfl, Nat.le_of_ble_eq_true rfl⟩ dX3_copyFrom_56 (fun H locs M24 hH hS e25 o26 => ?_)
  have hP27 := Pst.setG hP21 e25 o26
  have hF28 := fun q hq => (o26 q (by omega)).trans (hF22 q hq)
  have hO29 := hO23.kept (o26 _ (by omega)) (o26 _ (by omega))
  exact z_vret hE hH hS ⟨hP27.to (fun k hk => by rcases (show k = 0 ∨ k = 1 ∨ k = 2 ∨ k = 3 ∨ k = 4 ∨ k = 5 ∨ k = 6 by omega) with rfl | rfl | rfl | rfl | rfl | rfl | rfl <;> rfl) (fun _ _ => rfl), fun q h1 h2 => hF28 q ⟨h1, h2⟩⟩ dX3_copyFrom_59
end
section
theorem seenGo_succ (v : Wv) (but : Int32) (c j : Nat) : seenGo v but c (j + 1) = if nI j ≠ but ∧ 0 < cv v j c then some j else seenGo v but c j := rfl
theorem oI_lt {o o' : Option Nat} (h : ∀ j, o = some j → j < 2 ^ 31) (h' : ∀ j, o' = some j → j < 2 ^ 31) : oI o = oI o' ↔ o = o' := by
  cases o' with
  | none => exact oI_none h
  | some j => exact oI_some h (h' j rfl)
def omax : Option Nat → Option Nat → Option Nat
  | none, b => b
  | some x, none => some x
  | some x, some y => some (max x y)
theorem oI_max {o o' : Option Nat} (h : ∀ j, o = some j → j < 2 ^ 31) (h' : ∀ j, o' = some j → j < 2 ^ 31) : (if oI o < oI o' then oI o' else oI o) = oI (omax o o') := by
  have e6 : ((-6 : Int32)).toInt = -6 := by decide
  cases o with
  | none =>
    cases o' with
    | none => rfl
    | some y =>
      have hy := h' y rfl
      have : (-6 : Int32) < nI y := by rw [Int32.lt_iff_toInt_lt, nI_toInt hy, e6]; omega
      show (if (-6 : Int32) < nI y then nI y else -6) = nI y
      rw [if_pos this]
  | some x =>
    have hx := h x rfl
    cases o' with
    | none =>
      have : ¬ nI x < (-6 : Int32) := by rw [Int32.lt_iff_toInt_lt, nI_toInt hx, e6]; omega
      show (if nI x < (-6 : Int32) then -6 else nI x) = nI x
      rw [if_neg this]
    | some y =>
      have hy := h' y rfl
      show (if nI x < nI y then nI y else nI x) = nI (max x y)
      by_cases hxy : x < y
      · rw [if_pos ((nI_lt_iff hx hy).mpr hxy), Nat.max_eq_right (by omega)]
      · rw [if_neg (fun q => hxy ((nI_lt_iff hx hy).mp q)), Nat.max_eq_left (by omega)]
section ZM
variable {p : Program} {l : Launch} {e : Env} {R : Room} {s : State} {m : MethodId} {args : Array Value} {below : List Frame} {meth : Method} {c : Code} {H : Heap} {locs : List Loc} {cells slots : Nat} {Q : State → Prop}
variable {cc : ByteArray} {pc tgt nL idx : Nat} {off : Int} {ls : Array Slot} {rest : List Value} {lv : List (Nat × Value)} {a b : Nat} {o o' : Option Nat} {G : zG} {own : String} {ret : Option FieldType}
theorem oo_cmp_eq (hx : p.tables.exec = Jvm.exec) (hb : c.code = cc) (ho : ∀ j, o = some j → j < 2 ^ 31) (ho' : ∀ j, o' = some j → j < 2 ^ 31) (hdg : decode cc pc = .ok (.if_icmp .eq off, 3)) (ht : (pc : Int) + off = (tgt : Int)) (kt : o = o' → W p l e R s m args below meth c H locs cells slots Q (F0 m tgt ls rest)) (kf : o ≠ o' → W p l e R s m args below meth c H locs cells slots Q (F0 m (pc + 3) ls rest)) : W p l e R s m args below meth c H locs cells slots Q (F0 m pc ls (.int (oI o') :: .int (oI o) :: rest)) :=
  lv_icmp_eq hx hb hdg ht (fun h => kt ((oI_lt ho ho').mp h)) (fun h => kf (fun q => h ((oI_lt ho ho').mpr q)))
theorem z_min (hE : zE p s m args meth c G own cc nL ret) (hl : lv_has ls nL lv) (hli : Cond.methodLink own idx yJ9_min_7cf53 ∈ Tb) (ha : a < 2 ^ 31) (hbb : b < 2 ^ 31) (hr : 1 ≤ R.frames ∧ (rest.map fun v => v.category).sum + 13 ≤ R.locals) (hcs : cells ≤ R.cells ∧ slots ≤ R.slots) (hdg : decode cc pc = .ok (.invokestatic idx, 3))
    (kk : W p l e R s m args below meth c H locs cells slots Q (F0 m (pc + 3) ls (.int (nI (min a b)) :: rest))) : W p l e R s m args below meth c H locs cells slots Q (F0 m pc ls (.int (nI b) :: .int (nI a) :: rest)) := by
  have hts := hE.2.2.2.2.1
  refine va_mmin hE.1 hE.2.1 (by rw [hE.2.2.1]; exact hl.1.symm) hE.2.2.2.1 (hts _ hli) (hts _ st_J9_min_7cf53) (hts _ ini_J9) (hts _ co_J9_min_7cf53) hr.1 hr.2 hcs.1 hcs.2 hdg ?_
  have e : (if nI b < nI a then nI b else nI a) = nI (min a b) := by
    by_cases h : b < a
    · rw [if_pos ((nI_lt_iff hbb ha).mpr h), Nat.min_eq_right (by omega)]
    · rw [if_neg (fun q => h ((nI_lt_iff hbb ha).mp q)), Nat.min_eq_left (by omega)]
  rw [e]
  exact kk
theorem o_max (hE : zE p s m args meth c G own cc nL ret) (hl : lv_has ls nL lv) (hli : Cond.methodLink own idx yJ9_max_7cf53 ∈ Tb) (ho : ∀ j, o = some j → j < 2 ^ 31) (ho' : ∀ j, o' = some j → j < 2 ^ 31) (hr : 1 ≤ R.frames ∧ (rest.map fun v => v.category).sum + 13 ≤ R.locals) (hcs : cells ≤ R.cells ∧ slots ≤ R.slots) (hdg : decode cc pc = .ok (.invokestatic idx, 3))
    (kk : W p l e R s m args below meth c H locs cells slots Q (F0 m (pc + 3) ls (.int (oI (omax o o')) :: rest))) : W p l e R s m args below meth c H locs cells slots Q (F0 m pc ls (.int (oI o') :: .int (oI o) :: rest)) := by
  have hts := hE.2.2.2.2.1
  refine va_mmax hE.1 hE.2.1 (by rw [hE.2.2.1]; exact hl.1.symm) hE.2.2.2.1 (hts _ hli) (hts _ st_J9_max_7cf53) (hts _ ini_J9) (hts _ co_J9_max_7cf53) hr.1 hr.2 hcs.1 hcs.2 hdg ?_
  rw [oI_max ho ho']
  exact kk
end ZM
def seenV (v : Wv) (c : Nat) : Nat := (seen v (-6) c).elim 0 (fun j => cv v j c)
def notClear (v : Wv) (c : Nat) : Nat := zcnt (fun j => decide (0 < cv v j c)) (v 0)
def lieCnt (v : Wv) (x y : Nat) : Nat := zcnt (fun j => liesN (pv v j) x y) (v 0)
def pricedCnt (v : Wv) : Nat := zcnt (fun c => (seen v (-6) c).isSome) 60
def unseenCnt (v : Wv) : Nat := zcnt (fun j => decide (seenCnt v j = 0)) (v 0)
def allClr (v : Wv) : Nat := zcnt (fun j => decide (ncCnt (cv v j) = 0)) (v 0)
def zany (p : Nat → Bool) : Nat → Bool
  | 0 => false
  | n + 1 => zany p n || p n
theorem zany_of {p : Nat → Bool} : ∀ {n k : Nat}, k < n → p k = true → zany p n = true
  | n + 1, k, hk, h => by
    unfold zany
    by_cases hkn : k = n
    · subst hkn; simp [h]
    · rw [zany_of (n := n) (k := k) (by omega) h]; rfl
def blw (v : Wv) (j : Nat) : Bool := zany (fun i => decide (pv v i 4 = pv v j 4) && decide (0 < seenCnt v i)) j
def unlikeCnt (v : Wv) : Nat := zcnt (fun j => decide (0 < seenCnt v j) && !(blw v j)) (v 0)
def grtTo (v : Wv) : Nat → Option Nat
  | 0 => none
  | k + 1 => omax (grtTo v k) (prc v (-6) k)
theorem prc_ob {v : Wv} (hv : wOk v) {but : Int32} {c : Nat} : ∀ j, prc v but c = some j → j < 1000 := fun j h => by
  unfold prc at h
  cases hs : seen v but c with
  | none => rw [hs] at h; cases h
  | some i =>
    rw [hs] at h
    have h1 := hv.price (seen_lt hs)
    have h2 : pv v i 4 = j := Option.some.inj h
    omega
theorem prc_ob31 {v : Wv} (hv : wOk v) {but : Int32} {c : Nat} : ∀ j, prc v but c = some j → j < 2 ^ 31 := fun j h => by
  have := prc_ob hv j h; omega
theorem omax_ob {o o' : Option Nat} {b : Nat} (h : ∀ j, o = some j → j < b) (h' : ∀ j, o' = some j → j < b) : ∀ j, omax o o' = some j → j < b := by
  intro j hj
  cases o with
  | none => exact h' j hj
  | some x =>
    cases o' with
    | none => exact h j hj
    | some y =>
      have h1 := h x rfl
      have h2 := h' y rfl
      have h3 : max x y = j := Option.some.inj hj
      omega
theorem grt_ob {v : Wv} (hv : wOk v) : ∀ k j, grtTo v k = some j → j < 2 ^ 31
  | 0, j, h => by cases h
  | k + 1, j, h => omax_ob (grt_ob hv k) (prc_ob31 hv) j h
def unlikeW (v v2 : Wv) : Nat := zcnt (fun c => decide (prc v (-6) c ≠ prc v2 (-6) c)) 60
/-- how many days of its own a cell takes that has x, under a sun of u -/
def dtc (x u : Nat) : Nat := if x = 0 then 0 else if 0 < u then (x + u - 1) / u else 1000000
theorem dtc_le {x u : Nat} (h : x ≤ 99) : dtc x u ≤ 1000000 := by
  unfold dtc
  split
  · omega
  · split
    · have := Nat.div_le_self (x + u - 1) u
      have h2 : (x + u - 1) / u ≤ x := by
        rename_i h0 hu
        have h3 : x + u - 1 < (x + 1) * u := by
          have : (x + 1) * u = x * u + u := by rw [Nat.add_mul, Nat.one_mul]
          have h4 : x * 1 ≤ x * u := Nat.mul_le_mul_left x hu
          omega
        have := Nat.div_lt_of_lt_mul (by rw [Nat.mul_comm]; exact h3 : x + u - 1 < u * (x + 1))
        omega
      omega
    · omega
def dtoGo (v : Wv) (c : Nat) (pr : Nat) : Nat → Nat → Nat
  | 0, d => d
  | j + 1, d => if 0 < cv v j c ∧ pv v j 4 ≠ pr then d else dtoGo v c pr j (d + dtc (cv v j c) (sv v (c % 10)))
def dtOther (v : Wv) (c : Nat) : Nat := (prc v (-6) c).elim 1000000 (fun pr => dtoGo v c pr (v 0) 0)
def dtSee (v : Wv) (j c : Nat) : Nat := if cv v j c = 0 then 1000000 else zsum (fun i => if j + 1 ≤ i then dtc (cv v i c) (sv v (c % 10)) else 0) (v 0)
theorem zsum_zero {f : Nat → Nat} : ∀ {n : Nat}, (∀ k, k < n → f k = 0) → zsum f n = 0
  | 0, _ => rfl
  | n + 1, h => by unfold zsum; rw [zsum_zero (fun k hk => h k (by omega)), h n (by omega)]

set_option maxHeartbeats 4000000 in
set_option maxRecDepth 100000 in
theorem c_X4_seenWithout (l : Launch) (G : zG) (B0 : Nat) (M : Mm) (w : Nat) (r : Nat → Nat) (v : Wv) (hW : WlR G w r v M) (hr : rOk r) (hv : wOk v) (but : Int32) (c : Nat) (hc : c < 60) : zMet l yX4_seenWithout cX4_seenWithout 4 (some .int) 1 0 0 G B0 M [.ref w, .int but, .int (nI c)] (some (.int (oI (seen v but c)))) (fun M1 => M = M1) := by
  refine z_met RX4 [(0, .ref w), (1, .int but), (2, .int (nI c))] (by decide) rfl (Nat.le_of_ble_eq_true rfl) rfl ?_
  intro pg ev s m below meth cd ls hE hin hB0 hH hl
  have hx := hE.1
  have hb := hE.2.1
  have hn := hv.1
  refine z_gen B0 (fun H locs hH hS => ?_) hH
  refine lv_aload_n hx hb dX4_seenWithout_0 rfl (lv_at hl 0 rfl) ?_
  refine z_get (T := TX4) (v := .int (nI (v 0))) hE hH hW.1 rfl uw_X4 1 (by decide) fkX4_22 rfl dX4_seenWithout_1 ?_
  refine n_iconst hx hb 1 dX4_seenWithout_4 (by decide) ?_
  refine lv_isub hx hb dX4_seenWithout_5 ?_
  refine lv_istore_n (lv' := [(3, .int (nI (v 0) - nI 1)), (0, .ref w), (1, .int but), (2, .int (nI c))]) hx hb dX4_seenWithout_6 rfl hl (by decide) rfl (fun ls hl => ?_)
  have L7 : ∀ (dd : Nat) (n : Nat), n < dd → (seenGo v but c n = seen v but c) → (n ≤ v 0) → ∀ (H : Heap) (locs : List Loc), zH G M H → zS 0 B0 s.heap H locs → ∀ (ls : Array Slot), lv_has ls 4 [(0, .ref w), (1, .int but), (2, .int (nI c)), (3, .int (nI n - nI 1))] → zW pg l ev 1 0 0 s m [.ref w, .int but, .int (nI c)] below meth cd H locs 0 0 G B0 (some (.int (oI (seen v but c)))) (fun M1 => M = M1) (F0 m 7 ls []) := by
    intro dd
    induction dd with
    | zero =>
      intro n hdd hs hnn
      exact absurd hdd (by omega)
    | succ dd ih =>
      intro n hdd hs hnn H locs hH hS ls hl
      refine lv_iload_n hx hb dX4_seenWithout_7 rfl (lv_at hl 3 rfl) ?_
      refine n_down_lt (tgt := 38) hx hb (by omega) dX4_seenWithout_8 (by decide) (fun h1 => ?_) (fun j2 h1 => ?_)
      · refine lv_bipush (v := (-6)) hx hb dX4_seenWithout_38 (by decide) ?_
        exact z_iret hE hH hS (by rw [← hs, h1]; rfl) rfl dX4_seenWithout_40
      · subst h1
        rw [nI_down] at hl
        refine lv_iload_n hx hb dX4_seenWithout_11 rfl (lv_at hl 3 rfl) ?_
        refine lv_iload_n hx hb dX4_seenWithout_12 rfl (lv_at hl 1 rfl) ?_
        refine lv_icmp_eq (tgt := 32) hx hb dX4_seenWithout_13 (by decide) (fun h3 => ?_) (fun h3 => ?_)
        · refine lv_iinc (v := (nI j2 - nI 1)) (lv' := [(3, .int (nI j2 - nI 1)), (0, .ref w), (1, .int but), (2, .int (nI c))]) hx hb dX4_seenWithout_32 hl (k := 3) rfl (nI_dec1 _) (by decide) rfl (fun ls hl => ?_)
          refine lv_goto (tgt := 7) hx hb dX4_seenWithout_35 (by decide) ?_
          exact ih  j2 (by omega) (by rw [← hs, seenGo_succ, if_neg (by rintro ⟨q1, q2⟩; first | exact q1 (by assumption) | omega)]) (by omega) _ _ hH hS _ (lv_sub hl [1, 2, 3, 0] rfl)
        · refine lv_aload_n hx hb dX4_seenWithout_16 rfl (lv_at hl 0 rfl) ?_
          refine z_get (T := TX4) (v := .ref (w + 1)) hE hH hW.1 rfl uw_X4 0 (by decide) fkX4_11 rfl dX4_seenWithout_17 ?_
          refine lv_iload_n hx hb dX4_seenWithout_20 rfl (lv_at hl 3 rfl) ?_
          refine z_aald hE hH hW.2.1 rfl (k := j2) (by omega) (by decide) dX4_seenWithout_21 ?_
          refine z_get (T := TX3) (v := .ref (w + 2 + 2 * r j2 + 1)) hE hH (hW.2.2.2.2 j2 (by omega)).1 rfl uw_X3 7 (by decide) fkX4_53 rfl dX4_seenWithout_22 ?_
          refine lv_iload_n hx hb dX4_seenWithout_25 rfl (lv_at hl 2 rfl) ?_
          refine z_iald hE hH (hW.2.2.2.2 j2 (by omega)).2 (k := c) (by omega) (by decide) dX4_seenWithout_26 ?_
          have q4 := hv.coat (j := j2) (c := c) (by omega) (by omega)
          refine n_if_le (tgt := 32) hx hb (by omega) dX4_seenWithout_27 (by decide) (fun h5 => ?_) (fun h5 => ?_)
          · refine lv_iinc (v := (nI j2 - nI 1)) (lv' := [(3, .int (nI j2 - nI 1)), (0, .ref w), (1, .int but), (2, .int (nI c))]) hx hb dX4_seenWithout_32 hl (k := 3) rfl (nI_dec1 _) (by decide) rfl (fun ls hl => ?_)
            refine lv_goto (tgt := 7) hx hb dX4_seenWithout_35 (by decide) ?_
            exact ih  j2 (by omega) (by rw [← hs, seenGo_succ, if_neg (by rintro ⟨q1, q2⟩; first | exact q1 (by assumption) | omega)]) (by omega) _ _ hH hS _ (lv_sub hl [1, 2, 3, 0] rfl)
          · refine lv_iload_n hx hb dX4_seenWithout_30 rfl (lv_at hl 3 rfl) ?_
            exact z_iret hE hH hS (by rw [← hs, seenGo_succ, if_pos ⟨by assumption, by omega⟩]; rfl) rfl dX4_seenWithout_31
  exact L7 (v 0 + 1) (v 0) (by omega) rfl (Nat.le_refl _) _ _ hH hS _ (lv_sub hl [1, 2, 3, 0] rfl)

set_option maxHeartbeats 4000000 in
set_option maxRecDepth 100000 in
theorem c_X4_seenAt (l : Launch) (G : zG) (B0 : Nat) (M : Mm) (w : Nat) (r : Nat → Nat) (v : Wv) (hW : WlR G w r v M) (hr : rOk r) (hv : wOk v) (c : Nat) (hc : c < 60) : zMet l yX4_seenAt cX4_seenAt 2 (some .int) 2 0 0 G B0 M [.ref w, .int (nI c)] (some (.int (oI (seen v (-6) c)))) (fun M1 => M = M1) := by
  refine z_met RX4 [(0, .ref w), (1, .int (nI c))] (by decide) rfl (Nat.le_of_ble_eq_true rfl) rfl ?_
  intro pg ev s m below meth cd ls hE hin hB0 hH hl
  have hx := hE.1
  have hb := hE.2.1
  have hn := hv.1
  refine z_gen B0 (fun H locs hH hS => ?_) hH
  refine lv_aload_n hx hb dX4_seenAt_0 rfl (lv_at hl 0 rfl) ?_
  refine lv_bipush (v := (-6)) hx hb dX4_seenAt_1 (by decide) ?_
  refine lv_iload_n hx hb dX4_seenAt_3 rfl (lv_at hl 1 rfl) ?_
  refine z_callV (rest := []) (st2 := [.int (oI (seen v (-6) c))]) hE hH hS hB0 hl ca_X4_seenWithout mkX4_81 (c_X4_seenWithout l G B0 M w r v hW hr hv (-6) c (by omega)) hW.1 rfl rfl rfl rfl rfl ⟨Nat.le_of_ble_eq_true rfl, Nat.le_of_ble_eq_true rfl⟩ (Nat.le_of_ble_eq_true rfl) ⟨Nat.le_refl _, Nat.le_refl _⟩ dX4_seenAt_4 (fun H locs M1 hH hp hS => ?_)
  subst hp
  exact z_iret hE hH hS rfl rfl dX4_seenAt_7

set_option maxHeartbeats 4000000 in
set_option maxRecDepth 100000 in
theorem c_X4_priceAt (l : Launch) (G : zG) (B0 : Nat) (M : Mm) (w : Nat) (r : Nat → Nat) (v : Wv) (hW : WlR G w r v M) (hr : rOk r) (hv : wOk v) (c : Nat) (hc : c < 60) : zMet l yX4_priceAt cX4_priceAt 3 (some .int) 3 0 0 G B0 M [.ref w, .int (nI c)] (some (.int (oI (prc v (-6) c)))) (fun M1 => M = M1) := by
  refine z_met RX4 [(0, .ref w), (1, .int (nI c))] (by decide) rfl (Nat.le_of_ble_eq_true rfl) rfl ?_
  intro pg ev s m below meth cd ls hE hin hB0 hH hl
  have hx := hE.1
  have hb := hE.2.1
  have hn := hv.1
  refine z_gen B0 (fun H locs hH hS => ?_) hH
  refine lv_aload_n hx hb dX4_priceAt_0 rfl (lv_at hl 0 rfl) ?_
  refine lv_iload_n hx hb dX4_priceAt_1 rfl (lv_at hl 1 rfl) ?_
  refine z_callV (rest := []) (st2 := [.int (oI (seen v (-6) c))]) hE hH hS hB0 hl ca_X4_seenAt mkX4_56 (c_X4_seenAt l G B0 M w r v hW hr hv c (by omega)) hW.1 rfl rfl rfl rfl rfl ⟨Nat.le_of_ble_eq_true rfl, Nat.le_of_ble_eq_true rfl⟩ (Nat.le_of_ble_eq_true rfl) ⟨Nat.le_refl _, Nat.le_refl _⟩ dX4_priceAt_2 (fun H locs M1 hH hp hS => ?_)
  subst hp
  refine lv_istore_n (lv' := [(2, .int (oI (seen v (-6) c))), (0, .ref w), (1, .int (nI c))]) hx hb dX4_priceAt_5 rfl hl (by decide) rfl (fun ls hl => ?_)
  refine lv_iload_n hx hb dX4_priceAt_6 rfl (lv_at hl 0 rfl) ?_
  refine lv_bipush (v := (-6)) hx hb dX4_priceAt_7 (by decide) ?_
  refine o_cmp_ne (tgt := 17) hx hb (seen_ob hv) dX4_priceAt_9 (by decide) (fun j2 h1 => ?_) (fun h1 => ?_)
  · rw [h1] at hl
    replace hl : lv_has ls 3 [(2, .int (nI j2)), (0, .ref w), (1, .int (nI c))] := hl
    have j2_lt := seen_lt h1
    have j2_pos := seen_pos h1
    refine lv_aload_n hx hb dX4_priceAt_17 rfl (lv_at hl 1 rfl) ?_
    refine z_get (T := TX4) (v := .ref (w + 1)) hE hH hW.1 rfl uw_X4 0 (by decide) fkX4_11 rfl dX4_priceAt_18 ?_
    refine lv_iload_n hx hb dX4_priceAt_21 rfl (lv_at hl 0 rfl) ?_
    refine z_aald hE hH hW.2.1 rfl (k := j2) (by omega) (by decide) dX4_priceAt_22 ?_
    have q3 := hv.price (j := j2) (by omega)
    refine z_get (T := TX3) (v := .int (nI (pv v j2 4))) hE hH (hW.2.2.2.2 j2 (by omega)).1 rfl uw_X3 4 (by decide) fkX4_66 rfl dX4_priceAt_23 ?_
    exact z_iret hE hH hS (by simp [prc, *, oI]) rfl dX4_priceAt_26
  · refine lv_bipush (v := (-6)) hx hb dX4_priceAt_12 (by decide) ?_
    refine lv_goto (tgt := 26) hx hb dX4_priceAt_14 (by decide) ?_
    exact z_iret hE hH hS (by simp [prc, *, oI]) rfl dX4_priceAt_26

set_option maxHeartbeats 4000000 in
set_option maxRecDepth 100000 in
theorem c_X4_sumWithout (l : Launch) (G : zG) (B0 : Nat) (M : Mm) (w : Nat) (r : Nat → Nat) (v : Wv) (hW : WlR G w r v M) (hr : rOk r) (hv : wOk v) (but : Int32) : zMet l yX4_sumWithout cX4_sumWithout 5 (some .int) 2 0 0 G B0 M [.ref w, .int but] (some (.int (nI (sumW v but)))) (fun M1 => M = M1) := by
  refine z_met RX4 [(0, .ref w), (1, .int but)] (by decide) rfl (Nat.le_of_ble_eq_true rfl) rfl ?_
  intro pg ev s m below meth cd ls hE hin hB0 hH hl
  have hx := hE.1
  have hb := hE.2.1
  have hn := hv.1
  refine z_gen B0 (fun H locs hH hS => ?_) hH
  refine n_iconst hx hb 0 dX4_sumWithout_0 (by decide) ?_
  refine lv_istore_n (lv' := [(2, .int (nI 0)), (0, .ref w), (1, .int but)]) hx hb dX4_sumWithout_1 rfl hl (by decide) rfl (fun ls hl => ?_)
  refine n_iconst hx hb 0 dX4_sumWithout_2 (by decide) ?_
  refine lv_istore_n (lv' := [(3, .int (nI 0)), (2, .int (nI 0)), (0, .ref w), (1, .int but)]) hx hb dX4_sumWithout_3 rfl hl (by decide) rfl (fun ls hl => ?_)
  have L4 : ∀ (dd : Nat) (k : Nat) (a : Nat), 60 < k + dd → (k ≤ 60) → (a = zsum (fun c => (prc v but c).getD 0) k) → ∀ (H : Heap) (locs : List Loc), zH G M H → zS 0 B0 s.heap H locs → ∀ (ls : Array Slot), lv_has ls 5 [(0, .ref w), (1, .int but), (2, .int (nI a)), (3, .int (nI k))] → zW pg l ev 2 0 0 s m [.ref w, .int but] below meth cd H locs 0 0 G B0 (some (.int (nI (sumW v but)))) (fun M1 => M = M1) (F0 m 4 ls []) := by
    intro dd
    induction dd with
    | zero =>
      intro k a hdd hk ha
      exact absurd hdd (by omega)
    | succ dd ih =>
      intro k a hdd hk ha H locs hH hS ls hl
      refine lv_iload_n hx hb dX4_sumWithout_4 rfl (lv_at hl 3 rfl) ?_
      refine n_bipush hx hb 60 dX4_sumWithout_5 (by decide) ?_
      refine n_cmp_ge (tgt := 44) hx hb (by omega) (by decide) dX4_sumWithout_7 (by decide) (fun h1 => ?_) (fun h1 => ?_)
      · refine lv_iload_n hx hb dX4_sumWithout_44 rfl (lv_at hl 2 rfl) ?_
        exact z_iret hE hH hS (by have hkk : k = 60 := (by omega); subst hkk; rw [ha]; first | done | rfl) rfl dX4_sumWithout_45
      · refine lv_aload_n hx hb dX4_sumWithout_10 rfl (lv_at hl 0 rfl) ?_
        refine lv_iload_n hx hb dX4_sumWithout_11 rfl (lv_at hl 1 rfl) ?_
        refine lv_iload_n hx hb dX4_sumWithout_12 rfl (lv_at hl 3 rfl) ?_
        refine z_callV (rest := []) (st2 := [.int (oI (seen v but k))]) hE hH hS hB0 hl ca_X4_seenWithout mkX4_81 (c_X4_seenWithout l G B0 M w r v hW hr hv but k (by omega)) hW.1 rfl rfl rfl rfl rfl ⟨Nat.le_of_ble_eq_true rfl, Nat.le_of_ble_eq_true rfl⟩ (Nat.le_of_ble_eq_true rfl) ⟨Nat.le_refl _, Nat.le_refl _⟩ dX4_sumWithout_13 (fun H locs M1 hH hp hS => ?_)
        subst hp
        refine lv_istore (lv' := [(4, .int (oI (seen v but k))), (0, .ref w), (1, .int but), (2, .int (nI a)), (3, .int (nI k))]) hx hb dX4_sumWithout_16 hl (by decide) rfl (fun ls hl => ?_)
        refine lv_iload hx hb dX4_sumWithout_18 (lv_at hl 0 rfl) ?_
        refine lv_bipush (v := (-6)) hx hb dX4_sumWithout_20 (by decide) ?_
        refine o_cmp_eq (tgt := 38) hx hb (seen_ob hv) dX4_sumWithout_22 (by decide) (fun h2 => ?_) (fun j3 h2 => ?_)
        · refine lv_iinc (v := (nI (k + 1))) (lv' := [(3, .int (nI (k + 1))), (4, .int (oI (seen v but k))), (0, .ref w), (1, .int but), (2, .int (nI a))]) hx hb dX4_sumWithout_38 hl (k := 4) rfl (nI_inc _) (by decide) rfl (fun ls hl => ?_)
          refine lv_goto (tgt := 4) hx hb dX4_sumWithout_41 (by decide) ?_
          exact ih  (k + 1) a (by omega) (by omega) (by unfold zsum; rw [← ha]; simp [prc, *]) _ _ hH hS _ (lv_sub hl [2, 3, 4, 0] rfl)
        · rw [h2] at hl
          replace hl : lv_has ls 5 [(4, .int (nI j3)), (0, .ref w), (1, .int but), (2, .int (nI a)), (3, .int (nI k))] := hl
          have j3_lt := seen_lt h2
          have j3_pos := seen_pos h2
          refine lv_iload_n hx hb dX4_sumWithout_25 rfl (lv_at hl 3 rfl) ?_
          refine lv_aload_n hx hb dX4_sumWithout_26 rfl (lv_at hl 1 rfl) ?_
          refine z_get (T := TX4) (v := .ref (w + 1)) hE hH hW.1 rfl uw_X4 0 (by decide) fkX4_11 rfl dX4_sumWithout_27 ?_
          refine lv_iload hx hb dX4_sumWithout_30 (lv_at hl 0 rfl) ?_
          refine z_aald hE hH hW.2.1 rfl (k := j3) (by omega) (by decide) dX4_sumWithout_32 ?_
          have q4 := hv.price (j := j3) (by omega)
          refine z_get (T := TX3) (v := .int (nI (pv v j3 4))) hE hH (hW.2.2.2.2 j3 (by omega)).1 rfl uw_X3 4 (by decide) fkX4_66 rfl dX4_sumWithout_33 ?_
          refine n_iadd hx hb dX4_sumWithout_36 ?_
          refine lv_istore_n (lv' := [(2, .int (nI (a + (pv v j3 4)))), (4, .int (nI j3)), (0, .ref w), (1, .int but), (3, .int (nI k))]) hx hb dX4_sumWithout_37 rfl hl (by decide) rfl (fun ls hl => ?_)
          refine lv_iinc (v := (nI (k + 1))) (lv' := [(3, .int (nI (k + 1))), (2, .int (nI (a + (pv v j3 4)))), (4, .int (nI j3)), (0, .ref w), (1, .int but)]) hx hb dX4_sumWithout_38 hl (k := 4) rfl (nI_inc _) (by decide) rfl (fun ls hl => ?_)
          refine lv_goto (tgt := 4) hx hb dX4_sumWithout_41 (by decide) ?_
          exact ih  (k + 1) (a + (pv v j3 4)) (by omega) (by omega) (by unfold zsum; rw [← ha]; simp [prc, *]) _ _ hH hS _ (lv_sub hl [3, 4, 1, 0] rfl)
  exact L4 61 0 0 (by omega) (by omega) rfl _ _ hH hS _ (lv_sub hl [2, 3, 1, 0] rfl)

set_option maxHeartbeats 4000000 in
set_option maxRecDepth 100000 in
theorem c_X4_seenVarnishAt (l : Launch) (G : zG) (B0 : Nat) (M : Mm) (w : Nat) (r : Nat → Nat) (v : Wv) (hW : WlR G w r v M) (hr : rOk r) (hv : wOk v) (c : Nat) (hc : c < 60) : zMet l yX4_seenVarnishAt cX4_seenVarnishAt 3 (some .int) 3 0 0 G B0 M [.ref w, .int (nI c)] (some (.int (nI (seenV v c)))) (fun M1 => M = M1) := by
  refine z_met RX4 [(0, .ref w), (1, .int (nI c))] (by decide) rfl (Nat.le_of_ble_eq_true rfl) rfl ?_
  intro pg ev s m below meth cd ls hE hin hB0 hH hl
  have hx := hE.1
  have hb := hE.2.1
  have hn := hv.1
  refine z_gen B0 (fun H locs hH hS => ?_) hH
  refine lv_aload_n hx hb dX4_seenVarnishAt_0 rfl (lv_at hl 0 rfl) ?_
  refine lv_iload_n hx hb dX4_seenVarnishAt_1 rfl (lv_at hl 1 rfl) ?_
  refine z_callV (rest := []) (st2 := [.int (oI (seen v (-6) c))]) hE hH hS hB0 hl ca_X4_seenAt mkX4_56 (c_X4_seenAt l G B0 M w r v hW hr hv c (by omega)) hW.1 rfl rfl rfl rfl rfl ⟨Nat.le_of_ble_eq_true rfl, Nat.le_of_ble_eq_true rfl⟩ (Nat.le_of_ble_eq_true rfl) ⟨Nat.le_refl _, Nat.le_refl _⟩ dX4_seenVarnishAt_2 (fun H locs M1 hH hp hS => ?_)
  subst hp
  refine lv_istore_n (lv' := [(2, .int (oI (seen v (-6) c))), (0, .ref w), (1, .int (nI c))]) hx hb dX4_seenVarnishAt_5 rfl hl (by decide) rfl (fun ls hl => ?_)
  refine lv_iload_n hx hb dX4_seenVarnishAt_6 rfl (lv_at hl 0 rfl) ?_
  refine lv_bipush (v := (-6)) hx hb dX4_seenVarnishAt_7 (by decide) ?_
  refine o_cmp_ne (tgt := 16) hx hb (seen_ob hv) dX4_seenVarnishAt_9 (by decide) (fun j2 h1 => ?_) (fun h1 => ?_)
  · rw [h1] at hl
    replace hl : lv_has ls 3 [(2, .int (nI j2)), (0, .ref w), (1, .int (nI c))] := hl
    have j2_lt := seen_lt h1
    have j2_pos := seen_pos h1
    refine lv_aload_n hx hb dX4_seenVarnishAt_16 rfl (lv_at hl 1 rfl) ?_
    refine z_get (T := TX4) (v := .ref (w + 1)) hE hH hW.1 rfl uw_X4 0 (by decide) fkX4_11 rfl dX4_seenVarnishAt_17 ?_
    refine lv_iload_n hx hb dX4_seenVarnishAt_20 rfl (lv_at hl 0 rfl) ?_
    refine z_aald hE hH hW.2.1 rfl (k := j2) (by omega) (by decide) dX4_seenVarnishAt_21 ?_
    refine z_get (T := TX3) (v := .ref (w + 2 + 2 * r j2 + 1)) hE hH (hW.2.2.2.2 j2 (by omega)).1 rfl uw_X3 7 (by decide) fkX4_53 rfl dX4_seenVarnishAt_22 ?_
    refine lv_iload_n hx hb dX4_seenVarnishAt_25 rfl (lv_at hl 2 rfl) ?_
    refine z_iald hE hH (hW.2.2.2.2 j2 (by omega)).2 (k := c) (by omega) (by decide) dX4_seenVarnishAt_26 ?_
    have q3 := hv.coat (j := j2) (c := c) (by omega) (by omega)
    exact z_iret hE hH hS (by simp [seenV, *]) rfl dX4_seenVarnishAt_27
  · refine n_iconst hx hb 0 dX4_seenVarnishAt_12 (by decide) ?_
    refine lv_goto (tgt := 27) hx hb dX4_seenVarnishAt_13 (by decide) ?_
    exact z_iret hE hH hS (by simp [seenV, *]) rfl dX4_seenVarnishAt_27

set_option maxHeartbeats 4000000 in
set_option maxRecDepth 100000 in
theorem c_X4_notClearAt (l : Launch) (G : zG) (B0 : Nat) (M : Mm) (w : Nat) (r : Nat → Nat) (v : Wv) (hW : WlR G w r v M) (hr : rOk r) (hv : wOk v) (c : Nat) (hc : c < 60) : zMet l yX4_notClearAt cX4_notClearAt 4 (some .int) 1 0 0 G B0 M [.ref w, .int (nI c)] (some (.int (nI (notClear v c)))) (fun M1 => M = M1) := by
  refine z_met RX4 [(0, .ref w), (1, .int (nI c))] (by decide) rfl (Nat.le_of_ble_eq_true rfl) rfl ?_
  intro pg ev s m below meth cd ls hE hin hB0 hH hl
  have hx := hE.1
  have hb := hE.2.1
  have hn := hv.1
  refine z_gen B0 (fun H locs hH hS => ?_) hH
  refine n_iconst hx hb 0 dX4_notClearAt_0 (by decide) ?_
  refine lv_istore_n (lv' := [(2, .int (nI 0)), (0, .ref w), (1, .int (nI c))]) hx hb dX4_notClearAt_1 rfl hl (by decide) rfl (fun ls hl => ?_)
  refine n_iconst hx hb 0 dX4_notClearAt_2 (by decide) ?_
  refine lv_istore_n (lv' := [(3, .int (nI 0)), (2, .int (nI 0)), (0, .ref w), (1, .int (nI c))]) hx hb dX4_notClearAt_3 rfl hl (by decide) rfl (fun ls hl => ?_)
  have L4 : ∀ (dd : Nat) (k : Nat) (a : Nat), v 0 < k + dd → (k ≤ v 0) → (a = zcnt (fun j => decide (0 < cv v j c)) k) → ∀ (H : Heap) (locs : List Loc), zH G M H → zS 0 B0 s.heap H locs → ∀ (ls : Array Slot), lv_has ls 4 [(0, .ref w), (1, .int (nI c)), (2, .int (nI a)), (3, .int (nI k))] → zW pg l ev 1 0 0 s m [.ref w, .int (nI c)] below meth cd H locs 0 0 G B0 (some (.int (nI (notClear v c)))) (fun M1 => M = M1) (F0 m 4 ls []) := by
    intro dd
    induction dd with
    | zero =>
      intro k a hdd hk ha
      exact absurd hdd (by omega)
    | succ dd ih =>
      intro k a hdd hk ha H locs hH hS ls hl
      refine lv_iload_n hx hb dX4_notClearAt_4 rfl (lv_at hl 3 rfl) ?_
      refine lv_aload_n hx hb dX4_notClearAt_5 rfl (lv_at hl 0 rfl) ?_
      refine z_get (T := TX4) (v := .int (nI (v 0))) hE hH hW.1 rfl uw_X4 1 (by decide) fkX4_22 rfl dX4_notClearAt_6 ?_
      refine n_cmp_ge (tgt := 35) hx hb (by omega) (by omega) dX4_notClearAt_9 (by decide) (fun h1 => ?_) (fun h1 => ?_)
      · refine lv_iload_n hx hb dX4_notClearAt_35 rfl (lv_at hl 2 rfl) ?_
        exact z_iret hE hH hS (by have hkk : k = v 0 := (by omega); subst hkk; rw [ha]; first | done | rfl) rfl dX4_notClearAt_36
      · refine lv_aload_n hx hb dX4_notClearAt_12 rfl (lv_at hl 0 rfl) ?_
        refine z_get (T := TX4) (v := .ref (w + 1)) hE hH hW.1 rfl uw_X4 0 (by decide) fkX4_11 rfl dX4_notClearAt_13 ?_
        refine lv_iload_n hx hb dX4_notClearAt_16 rfl (lv_at hl 3 rfl) ?_
        refine z_aald hE hH hW.2.1 rfl (k := k) (by omega) (by decide) dX4_notClearAt_17 ?_
        refine z_get (T := TX3) (v := .ref (w + 2 + 2 * r k + 1)) hE hH (hW.2.2.2.2 k (by omega)).1 rfl uw_X3 7 (by decide) fkX4_53 rfl dX4_notClearAt_18 ?_
        refine lv_iload_n hx hb dX4_notClearAt_21 rfl (lv_at hl 1 rfl) ?_
        refine z_iald hE hH (hW.2.2.2.2 k (by omega)).2 (k := c) (by omega) (by decide) dX4_notClearAt_22 ?_
        have q2 := hv.coat (j := k) (c := c) (by omega) (by omega)
        refine n_if_le (tgt := 29) hx hb (by omega) dX4_notClearAt_23 (by decide) (fun h3 => ?_) (fun h3 => ?_)
        · refine lv_iinc (v := (nI (k + 1))) (lv' := [(3, .int (nI (k + 1))), (0, .ref w), (1, .int (nI c)), (2, .int (nI a))]) hx hb dX4_notClearAt_29 hl (k := 3) rfl (nI_inc _) (by decide) rfl (fun ls hl => ?_)
          refine lv_goto (tgt := 4) hx hb dX4_notClearAt_32 (by decide) ?_
          exact ih  (k + 1) a (by omega) (by omega) (by unfold zcnt; rw [← ha]; simp [*]) _ _ hH hS _ (lv_sub hl [1, 2, 3, 0] rfl)
        · refine lv_iinc (v := (nI (a + 1))) (lv' := [(2, .int (nI (a + 1))), (0, .ref w), (1, .int (nI c)), (3, .int (nI k))]) hx hb dX4_notClearAt_26 hl (k := 2) rfl (nI_inc _) (by decide) rfl (fun ls hl => ?_)
          refine lv_iinc (v := (nI (k + 1))) (lv' := [(3, .int (nI (k + 1))), (2, .int (nI (a + 1))), (0, .ref w), (1, .int (nI c))]) hx hb dX4_notClearAt_29 hl (k := 3) rfl (nI_inc _) (by decide) rfl (fun ls hl => ?_)
          refine lv_goto (tgt := 4) hx hb dX4_notClearAt_32 (by decide) ?_
          exact ih  (k + 1) (a + 1) (by omega) (by omega) (by unfold zcnt; rw [← ha]; simp [*]) _ _ hH hS _ (lv_sub hl [2, 3, 1, 0] rfl)
  exact L4 (v 0 + 1) 0 0 (by omega) (by omega) rfl _ _ hH hS _ (lv_sub hl [2, 3, 1, 0] rfl)

set_option maxHeartbeats 4000000 in
set_option maxRecDepth 100000 in
theorem c_X4_postersAt (l : Launch) (G : zG) (B0 : Nat) (M : Mm) (w : Nat) (r : Nat → Nat) (v : Wv) (hW : WlR G w r v M) (hr : rOk r) (hv : wOk v) (x y : Nat) (hx9 : x < 10) (hy9 : y < 6) : zMet l yX4_postersAt cX4_postersAt 5 (some .int) 2 0 0 G B0 M [.ref w, .int (nI x), .int (nI y)] (some (.int (nI (lieCnt v x y)))) (fun M1 => M = M1) := by
  refine z_met RX4 [(0, .ref w), (1, .int (nI x)), (2, .int (nI y))] (by decide) rfl (Nat.le_of_ble_eq_true rfl) rfl ?_
  intro pg ev s m below meth cd ls hE hin hB0 hH hl
  have hx := hE.1
  have hb := hE.2.1
  have hn := hv.1
  refine z_gen B0 (fun H locs hH hS => ?_) hH
  refine n_iconst hx hb 0 dX4_postersAt_0 (by decide) ?_
  refine lv_istore_n (lv' := [(3, .int (nI 0)), (0, .ref w), (1, .int (nI x)), (2, .int (nI y))]) hx hb dX4_postersAt_1 rfl hl (by decide) rfl (fun ls hl => ?_)
  refine n_iconst hx hb 0 dX4_postersAt_2 (by decide) ?_
  refine lv_istore (lv' := [(4, .int (nI 0)), (3, .int (nI 0)), (0, .ref w), (1, .int (nI x)), (2, .int (nI y))]) hx hb dX4_postersAt_3 hl (by decide) rfl (fun ls hl => ?_)
  have L5 : ∀ (dd : Nat) (k : Nat) (a : Nat), v 0 < k + dd → (k ≤ v 0) → (a = zcnt (fun j => liesN (pv v j) x y) k) → ∀ (H : Heap) (locs : List Loc), zH G M H → zS 0 B0 s.heap H locs → ∀ (ls : Array Slot), lv_has ls 5 [(0, .ref w), (1, .int (nI x)), (2, .int (nI y)), (3, .int (nI a)), (4, .int (nI k))] → zW pg l ev 2 0 0 s m [.ref w, .int (nI x), .int (nI y)] below meth cd H locs 0 0 G B0 (some (.int (nI (lieCnt v x y)))) (fun M1 => M = M1) (F0 m 5 ls []) := by
    intro dd
    induction dd with
    | zero =>
      intro k a hdd hk ha
      exact absurd hdd (by omega)
    | succ dd ih =>
      intro k a hdd hk ha H locs hH hS ls hl
      refine lv_iload hx hb dX4_postersAt_5 (lv_at hl 4 rfl) ?_
      refine lv_aload_n hx hb dX4_postersAt_7 rfl (lv_at hl 0 rfl) ?_
      refine z_get (T := TX4) (v := .int (nI (v 0))) hE hH hW.1 rfl uw_X4 1 (by decide) fkX4_22 rfl dX4_postersAt_8 ?_
      refine n_cmp_ge (tgt := 38) hx hb (by omega) (by omega) dX4_postersAt_11 (by decide) (fun h1 => ?_) (fun h1 => ?_)
      · refine lv_iload_n hx hb dX4_postersAt_38 rfl (lv_at hl 3 rfl) ?_
        exact z_iret hE hH hS (by have hkk : k = v 0 := (by omega); subst hkk; rw [ha]; first | done | rfl) rfl dX4_postersAt_39
      · refine lv_aload_n hx hb dX4_postersAt_14 rfl (lv_at hl 0 rfl) ?_
        refine z_get (T := TX4) (v := .ref (w + 1)) hE hH hW.1 rfl uw_X4 0 (by decide) fkX4_11 rfl dX4_postersAt_15 ?_
        refine lv_iload hx hb dX4_postersAt_18 (lv_at hl 4 rfl) ?_
        refine z_aald hE hH hW.2.1 rfl (k := k) (by omega) (by decide) dX4_postersAt_20 ?_
        refine lv_iload_n hx hb dX4_postersAt_21 rfl (lv_at hl 1 rfl) ?_
        refine lv_iload_n hx hb dX4_postersAt_22 rfl (lv_at hl 2 rfl) ?_
        refine z_callV (rest := []) (st2 := [.int (zb (liesN (pv v k) x y))]) hE hH hS hB0 hl ca_X3_liesAt mkX4_84 (c_X3_liesAt l G B0 M (w + 2 + 2 * r k) (pv v k) (cv v k) (hW.2.2.2.2 k (by omega)) (hv.rect (j := k) (by omega)).2.1 (hv.rect (j := k) (by omega)).2.2.2 x y (by omega) (by omega)) (hW.2.2.2.2 k (by omega)).1 rfl rfl rfl rfl rfl ⟨Nat.le_of_ble_eq_true rfl, Nat.le_of_ble_eq_true rfl⟩ (Nat.le_of_ble_eq_true rfl) ⟨Nat.le_refl _, Nat.le_refl _⟩ dX4_postersAt_23 (fun H locs M1 hH hp hS => ?_)
        subst hp
        refine b_if_eq (tgt := 32) hx hb dX4_postersAt_26 (by decide) (fun h2 => ?_) (fun h2 => ?_)
        · refine lv_iinc (v := (nI (k + 1))) (lv' := [(4, .int (nI (k + 1))), (0, .ref w), (1, .int (nI x)), (2, .int (nI y)), (3, .int (nI a))]) hx hb dX4_postersAt_32 hl (k := 4) rfl (nI_inc _) (by decide) rfl (fun ls hl => ?_)
          refine lv_goto (tgt := 5) hx hb dX4_postersAt_35 (by decide) ?_
          exact ih  (k + 1) a (by omega) (by omega) (by unfold zcnt; rw [← ha]; simp [*]) _ _ hH hS _ (lv_sub hl [1, 2, 3, 4, 0] rfl)
        · refine lv_iinc (v := (nI (a + 1))) (lv' := [(3, .int (nI (a + 1))), (0, .ref w), (1, .int (nI x)), (2, .int (nI y)), (4, .int (nI k))]) hx hb dX4_postersAt_29 hl (k := 3) rfl (nI_inc _) (by decide) rfl (fun ls hl => ?_)
          refine lv_iinc (v := (nI (k + 1))) (lv' := [(4, .int (nI (k + 1))), (3, .int (nI (a + 1))), (0, .ref w), (1, .int (nI x)), (2, .int (nI y))]) hx hb dX4_postersAt_32 hl (k := 4) rfl (nI_inc _) (by decide) rfl (fun ls hl => ?_)
          refine lv_goto (tgt := 5) hx hb dX4_postersAt_35 (by decide) ?_
          exact ih  (k + 1) (a + 1) (by omega) (by omega) (by unfold zcnt; rw [← ha]; simp [*]) _ _ hH hS _ (lv_sub hl [2, 3, 4, 1, 0] rfl)
  exact L5 (v 0 + 1) 0 0 (by omega) (by omega) rfl _ _ hH hS _ (lv_sub hl [2, 3, 4, 1, 0] rfl)

set_option maxHeartbeats 4000000 in
set_option maxRecDepth 100000 in
theorem c_X4_seenCellsOf (l : Launch) (G : zG) (B0 : Nat) (M : Mm) (w : Nat) (r : Nat → Nat) (v : Wv) (hW : WlR G w r v M) (hr : rOk r) (hv : wOk v) (j : Nat) (hj : j < v 0) : zMet l yX4_seenCellsOf cX4_seenCellsOf 4 (some .int) 3 0 0 G B0 M [.ref w, .int (nI j)] (some (.int (nI (seenCnt v j)))) (fun M1 => M = M1) := by
  refine z_met RX4 [(0, .ref w), (1, .int (nI j))] (by decide) rfl (Nat.le_of_ble_eq_true rfl) rfl ?_
  intro pg ev s m below meth cd ls hE hin hB0 hH hl
  have hx := hE.1
  have hb := hE.2.1
  have hn := hv.1
  refine z_gen B0 (fun H locs hH hS => ?_) hH
  refine n_iconst hx hb 0 dX4_seenCellsOf_0 (by decide) ?_
  refine lv_istore_n (lv' := [(2, .int (nI 0)), (0, .ref w), (1, .int (nI j))]) hx hb dX4_seenCellsOf_1 rfl hl (by decide) rfl (fun ls hl => ?_)
  refine n_iconst hx hb 0 dX4_seenCellsOf_2 (by decide) ?_
  refine lv_istore_n (lv' := [(3, .int (nI 0)), (2, .int (nI 0)), (0, .ref w), (1, .int (nI j))]) hx hb dX4_seenCellsOf_3 rfl hl (by decide) rfl (fun ls hl => ?_)
  have L4 : ∀ (dd : Nat) (k : Nat) (a : Nat), 60 < k + dd → (k ≤ 60) → (a = zcnt (fun c => decide (seen v (-6) c = some j)) k) → ∀ (H : Heap) (locs : List Loc), zH G M H → zS 0 B0 s.heap H locs → ∀ (ls : Array Slot), lv_has ls 4 [(0, .ref w), (1, .int (nI j)), (2, .int (nI a)), (3, .int (nI k))] → zW pg l ev 3 0 0 s m [.ref w, .int (nI j)] below meth cd H locs 0 0 G B0 (some (.int (nI (seenCnt v j)))) (fun M1 => M = M1) (F0 m 4 ls []) := by
    intro dd
    induction dd with
    | zero =>
      intro k a hdd hk ha
      exact absurd hdd (by omega)
    | succ dd ih =>
      intro k a hdd hk ha H locs hH hS ls hl
      refine lv_iload_n hx hb dX4_seenCellsOf_4 rfl (lv_at hl 3 rfl) ?_
      refine n_bipush hx hb 60 dX4_seenCellsOf_5 (by decide) ?_
      refine n_cmp_ge (tgt := 28) hx hb (by omega) (by decide) dX4_seenCellsOf_7 (by decide) (fun h1 => ?_) (fun h1 => ?_)
      · refine lv_iload_n hx hb dX4_seenCellsOf_28 rfl (lv_at hl 2 rfl) ?_
        exact z_iret hE hH hS (by have hkk : k = 60 := (by omega); subst hkk; rw [ha]; first | done | rfl) rfl dX4_seenCellsOf_29
      · refine lv_aload_n hx hb dX4_seenCellsOf_10 rfl (lv_at hl 0 rfl) ?_
        refine lv_iload_n hx hb dX4_seenCellsOf_11 rfl (lv_at hl 3 rfl) ?_
        refine z_callV (rest := []) (st2 := [.int (oI (seen v (-6) k))]) hE hH hS hB0 hl ca_X4_seenAt mkX4_56 (c_X4_seenAt l G B0 M w r v hW hr hv k (by omega)) hW.1 rfl rfl rfl rfl rfl ⟨Nat.le_of_ble_eq_true rfl, Nat.le_of_ble_eq_true rfl⟩ (Nat.le_of_ble_eq_true rfl) ⟨Nat.le_refl _, Nat.le_refl _⟩ dX4_seenCellsOf_12 (fun H locs M1 hH hp hS => ?_)
        subst hp
        refine lv_iload_n hx hb dX4_seenCellsOf_15 rfl (lv_at hl 1 rfl) ?_
        refine on_cmp_ne (tgt := 22) hx hb (seen_ob hv) (by omega) dX4_seenCellsOf_16 (by decide) (fun h2 => ?_) (fun h2 => ?_)
        · refine lv_iinc (v := (nI (k + 1))) (lv' := [(3, .int (nI (k + 1))), (0, .ref w), (1, .int (nI j)), (2, .int (nI a))]) hx hb dX4_seenCellsOf_22 hl (k := 3) rfl (nI_inc _) (by decide) rfl (fun ls hl => ?_)
          refine lv_goto (tgt := 4) hx hb dX4_seenCellsOf_25 (by decide) ?_
          exact ih  (k + 1) a (by omega) (by omega) (by unfold zcnt; rw [← ha]; simp [*]) _ _ hH hS _ (lv_sub hl [1, 2, 3, 0] rfl)
        · refine lv_iinc (v := (nI (a + 1))) (lv' := [(2, .int (nI (a + 1))), (0, .ref w), (1, .int (nI j)), (3, .int (nI k))]) hx hb dX4_seenCellsOf_19 hl (k := 2) rfl (nI_inc _) (by decide) rfl (fun ls hl => ?_)
          refine lv_iinc (v := (nI (k + 1))) (lv' := [(3, .int (nI (k + 1))), (2, .int (nI (a + 1))), (0, .ref w), (1, .int (nI j))]) hx hb dX4_seenCellsOf_22 hl (k := 3) rfl (nI_inc _) (by decide) rfl (fun ls hl => ?_)
          refine lv_goto (tgt := 4) hx hb dX4_seenCellsOf_25 (by decide) ?_
          exact ih  (k + 1) (a + 1) (by omega) (by omega) (by unfold zcnt; rw [← ha]; simp [*]) _ _ hH hS _ (lv_sub hl [2, 3, 1, 0] rfl)
  exact L4 61 0 0 (by omega) (by omega) rfl _ _ hH hS _ (lv_sub hl [2, 3, 1, 0] rfl)

theorem seenCnt_le (v : Wv) (j : Nat) : seenCnt v j ≤ 60 := zcnt_le _ _

set_option maxHeartbeats 4000000 in
set_option maxRecDepth 100000 in
theorem c_X4_cellsWithPrice (l : Launch) (G : zG) (B0 : Nat) (M : Mm) (w : Nat) (r : Nat → Nat) (v : Wv) (hW : WlR G w r v M) (hr : rOk r) (hv : wOk v) : zMet l yX4_cellsWithPrice cX4_cellsWithPrice 3 (some .int) 3 0 0 G B0 M [.ref w] (some (.int (nI (pricedCnt v)))) (fun M1 => M = M1) := by
  refine z_met RX4 [(0, .ref w)] (by decide) rfl (Nat.le_of_ble_eq_true rfl) rfl ?_
  intro pg ev s m below meth cd ls hE hin hB0 hH hl
  have hx := hE.1
  have hb := hE.2.1
  have hn := hv.1
  refine z_gen B0 (fun H locs hH hS => ?_) hH
  refine n_iconst hx hb 0 dX4_cellsWithPrice_0 (by decide) ?_
  refine lv_istore_n (lv' := [(1, .int (nI 0)), (0, .ref w)]) hx hb dX4_cellsWithPrice_1 rfl hl (by decide) rfl (fun ls hl => ?_)
  refine n_iconst hx hb 0 dX4_cellsWithPrice_2 (by decide) ?_
  refine lv_istore_n (lv' := [(2, .int (nI 0)), (1, .int (nI 0)), (0, .ref w)]) hx hb dX4_cellsWithPrice_3 rfl hl (by decide) rfl (fun ls hl => ?_)
  have L4 : ∀ (dd : Nat) (k : Nat) (a : Nat), 60 < k + dd → (k ≤ 60) → (a = zcnt (fun c => (seen v (-6) c).isSome) k) → ∀ (H : Heap) (locs : List Loc), zH G M H → zS 0 B0 s.heap H locs → ∀ (ls : Array Slot), lv_has ls 3 [(0, .ref w), (1, .int (nI a)), (2, .int (nI k))] → zW pg l ev 3 0 0 s m [.ref w] below meth cd H locs 0 0 G B0 (some (.int (nI (pricedCnt v)))) (fun M1 => M = M1) (F0 m 4 ls []) := by
    intro dd
    induction dd with
    | zero =>
      intro k a hdd hk ha
      exact absurd hdd (by omega)
    | succ dd ih =>
      intro k a hdd hk ha H locs hH hS ls hl
      refine lv_iload_n hx hb dX4_cellsWithPrice_4 rfl (lv_at hl 2 rfl) ?_
      refine n_bipush hx hb 60 dX4_cellsWithPrice_5 (by decide) ?_
      refine n_cmp_ge (tgt := 29) hx hb (by omega) (by decide) dX4_cellsWithPrice_7 (by decide) (fun h1 => ?_) (fun h1 => ?_)
      · refine lv_iload_n hx hb dX4_cellsWithPrice_29 rfl (lv_at hl 1 rfl) ?_
        exact z_iret hE hH hS (by have hkk : k = 60 := (by omega); subst hkk; rw [ha]; first | done | rfl) rfl dX4_cellsWithPrice_30
      · refine lv_aload_n hx hb dX4_cellsWithPrice_10 rfl (lv_at hl 0 rfl) ?_
        refine lv_iload_n hx hb dX4_cellsWithPrice_11 rfl (lv_at hl 2 rfl) ?_
        refine z_callV (rest := []) (st2 := [.int (oI (seen v (-6) k))]) hE hH hS hB0 hl ca_X4_seenAt mkX4_56 (c_X4_seenAt l G B0 M w r v hW hr hv k (by omega)) hW.1 rfl rfl rfl rfl rfl ⟨Nat.le_of_ble_eq_true rfl, Nat.le_of_ble_eq_true rfl⟩ (Nat.le_of_ble_eq_true rfl) ⟨Nat.le_refl _, Nat.le_refl _⟩ dX4_cellsWithPrice_12 (fun H locs M1 hH hp hS => ?_)
        subst hp
        refine lv_bipush (v := (-6)) hx hb dX4_cellsWithPrice_15 (by decide) ?_
        refine o_cmp_eq (tgt := 23) hx hb (seen_ob hv) dX4_cellsWithPrice_17 (by decide) (fun h2 => ?_) (fun j3 h2 => ?_)
        · refine lv_iinc (v := (nI (k + 1))) (lv' := [(2, .int (nI (k + 1))), (0, .ref w), (1, .int (nI a))]) hx hb dX4_cellsWithPrice_23 hl (k := 2) rfl (nI_inc _) (by decide) rfl (fun ls hl => ?_)
          refine lv_goto (tgt := 4) hx hb dX4_cellsWithPrice_26 (by decide) ?_
          exact ih  (k + 1) a (by omega) (by omega) (by unfold zcnt; rw [← ha]; simp [*]) _ _ hH hS _ (lv_sub hl [1, 2, 0] rfl)
        · replace hl : lv_has ls 3 [(0, .ref w), (1, .int (nI a)), (2, .int (nI k))] := hl
          have j3_lt := seen_lt h2
          have j3_pos := seen_pos h2
          refine lv_iinc (v := (nI (a + 1))) (lv' := [(1, .int (nI (a + 1))), (0, .ref w), (2, .int (nI k))]) hx hb dX4_cellsWithPrice_20 hl (k := 1) rfl (nI_inc _) (by decide) rfl (fun ls hl => ?_)
          refine lv_iinc (v := (nI (k + 1))) (lv' := [(2, .int (nI (k + 1))), (1, .int (nI (a + 1))), (0, .ref w)]) hx hb dX4_cellsWithPrice_23 hl (k := 2) rfl (nI_inc _) (by decide) rfl (fun ls hl => ?_)
          refine lv_goto (tgt := 4) hx hb dX4_cellsWithPrice_26 (by decide) ?_
          exact ih  (k + 1) (a + 1) (by omega) (by omega) (by unfold zcnt; rw [← ha]; simp [*]) _ _ hH hS _ (lv_sub hl [2, 1, 0] rfl)
  exact L4 61 0 0 (by omega) (by omega) rfl _ _ hH hS _ (lv_sub hl [2, 1, 0] rfl)

set_option maxHeartbeats 4000000 in
set_option maxRecDepth 100000 in
theorem c_X4_postersUnseen (l : Launch) (G : zG) (B0 : Nat) (M : Mm) (w : Nat) (r : Nat → Nat) (v : Wv) (hW : WlR G w r v M) (hr : rOk r) (hv : wOk v) : zMet l yX4_postersUnseen cX4_postersUnseen 3 (some .int) 4 0 0 G B0 M [.ref w] (some (.int (nI (unseenCnt v)))) (fun M1 => M = M1) := by
  refine z_met RX4 [(0, .ref w)] (by decide) rfl (Nat.le_of_ble_eq_true rfl) rfl ?_
  intro pg ev s m below meth cd ls hE hin hB0 hH hl
  have hx := hE.1
  have hb := hE.2.1
  have hn := hv.1
  refine z_gen B0 (fun H locs hH hS => ?_) hH
  refine n_iconst hx hb 0 dX4_postersUnseen_0 (by decide) ?_
  refine lv_istore_n (lv' := [(1, .int (nI 0)), (0, .ref w)]) hx hb dX4_postersUnseen_1 rfl hl (by decide) rfl (fun ls hl => ?_)
  refine n_iconst hx hb 0 dX4_postersUnseen_2 (by decide) ?_
  refine lv_istore_n (lv' := [(2, .int (nI 0)), (1, .int (nI 0)), (0, .ref w)]) hx hb dX4_postersUnseen_3 rfl hl (by decide) rfl (fun ls hl => ?_)
  have L4 : ∀ (dd : Nat) (k : Nat) (a : Nat), v 0 < k + dd → (k ≤ v 0) → (a = zcnt (fun j => decide (seenCnt v j = 0)) k) → ∀ (H : Heap) (locs : List Loc), zH G M H → zS 0 B0 s.heap H locs → ∀ (ls : Array Slot), lv_has ls 3 [(0, .ref w), (1, .int (nI a)), (2, .int (nI k))] → zW pg l ev 4 0 0 s m [.ref w] below meth cd H locs 0 0 G B0 (some (.int (nI (unseenCnt v)))) (fun M1 => M = M1) (F0 m 4 ls []) := by
    intro dd
    induction dd with
    | zero =>
      intro k a hdd hk ha
      exact absurd hdd (by omega)
    | succ dd ih =>
      intro k a hdd hk ha H locs hH hS ls hl
      refine lv_iload_n hx hb dX4_postersUnseen_4 rfl (lv_at hl 2 rfl) ?_
      refine lv_aload_n hx hb dX4_postersUnseen_5 rfl (lv_at hl 0 rfl) ?_
      refine z_get (T := TX4) (v := .int (nI (v 0))) hE hH hW.1 rfl uw_X4 1 (by decide) fkX4_22 rfl dX4_postersUnseen_6 ?_
      refine n_cmp_ge (tgt := 29) hx hb (by omega) (by omega) dX4_postersUnseen_9 (by decide) (fun h1 => ?_) (fun h1 => ?_)
      · refine lv_iload_n hx hb dX4_postersUnseen_29 rfl (lv_at hl 1 rfl) ?_
        exact z_iret hE hH hS (by have hkk : k = v 0 := (by omega); subst hkk; rw [ha]; first | done | rfl) rfl dX4_postersUnseen_30
      · refine lv_aload_n hx hb dX4_postersUnseen_12 rfl (lv_at hl 0 rfl) ?_
        refine lv_iload_n hx hb dX4_postersUnseen_13 rfl (lv_at hl 2 rfl) ?_
        refine z_callV (rest := []) (st2 := [.int (nI (seenCnt v k))]) hE hH hS hB0 hl ca_X4_seenCellsOf mkX4_88 (c_X4_seenCellsOf l G B0 M w r v hW hr hv k (by omega)) hW.1 rfl rfl rfl rfl rfl ⟨Nat.le_of_ble_eq_true rfl, Nat.le_of_ble_eq_true rfl⟩ (Nat.le_of_ble_eq_true rfl) ⟨Nat.le_refl _, Nat.le_refl _⟩ dX4_postersUnseen_14 (fun H locs M1 hH hp hS => ?_)
        subst hp
        have q2 := seenCnt_le v k
        refine n_if_ne (tgt := 23) hx hb (by omega) dX4_postersUnseen_17 (by decide) (fun h3 => ?_) (fun h3 => ?_)
        · refine lv_iinc (v := (nI (k + 1))) (lv' := [(2, .int (nI (k + 1))), (0, .ref w), (1, .int (nI a))]) hx hb dX4_postersUnseen_23 hl (k := 2) rfl (nI_inc _) (by decide) rfl (fun ls hl => ?_)
          refine lv_goto (tgt := 4) hx hb dX4_postersUnseen_26 (by decide) ?_
          exact ih  (k + 1) a (by omega) (by omega) (by unfold zcnt; rw [← ha]; simp [*]; try omega) _ _ hH hS _ (lv_sub hl [1, 2, 0] rfl)
        · refine lv_iinc (v := (nI (a + 1))) (lv' := [(1, .int (nI (a + 1))), (0, .ref w), (2, .int (nI k))]) hx hb dX4_postersUnseen_20 hl (k := 1) rfl (nI_inc _) (by decide) rfl (fun ls hl => ?_)
          refine lv_iinc (v := (nI (k + 1))) (lv' := [(2, .int (nI (k + 1))), (1, .int (nI (a + 1))), (0, .ref w)]) hx hb dX4_postersUnseen_23 hl (k := 2) rfl (nI_inc _) (by decide) rfl (fun ls hl => ?_)
          refine lv_goto (tgt := 4) hx hb dX4_postersUnseen_26 (by decide) ?_
          exact ih  (k + 1) (a + 1) (by omega) (by omega) (by unfold zcnt; rw [← ha]; simp [*]; try omega) _ _ hH hS _ (lv_sub hl [2, 1, 0] rfl)
  exact L4 (v 0 + 1) 0 0 (by omega) (by omega) rfl _ _ hH hS _ (lv_sub hl [2, 1, 0] rfl)

set_option maxHeartbeats 4000000 in
set_option maxRecDepth 100000 in
theorem c_X4_postersAllClear (l : Launch) (G : zG) (B0 : Nat) (M : Mm) (w : Nat) (r : Nat → Nat) (v : Wv) (hW : WlR G w r v M) (hr : rOk r) (hv : wOk v) : zMet l yX4_postersAllClear cX4_postersAllClear 3 (some .int) 2 0 0 G B0 M [.ref w] (some (.int (nI (allClr v)))) (fun M1 => M = M1) := by
  refine z_met RX4 [(0, .ref w)] (by decide) rfl (Nat.le_of_ble_eq_true rfl) rfl ?_
  intro pg ev s m below meth cd ls hE hin hB0 hH hl
  have hx := hE.1
  have hb := hE.2.1
  have hn := hv.1
  refine z_gen B0 (fun H locs hH hS => ?_) hH
  refine n_iconst hx hb 0 dX4_postersAllClear_0 (by decide) ?_
  refine lv_istore_n (lv' := [(1, .int (nI 0)), (0, .ref w)]) hx hb dX4_postersAllClear_1 rfl hl (by decide) rfl (fun ls hl => ?_)
  refine n_iconst hx hb 0 dX4_postersAllClear_2 (by decide) ?_
  refine lv_istore_n (lv' := [(2, .int (nI 0)), (1, .int (nI 0)), (0, .ref w)]) hx hb dX4_postersAllClear_3 rfl hl (by decide) rfl (fun ls hl => ?_)
  have L4 : ∀ (dd : Nat) (k : Nat) (a : Nat), v 0 < k + dd → (k ≤ v 0) → (a = zcnt (fun j => decide (ncCnt (cv v j) = 0)) k) → ∀ (H : Heap) (locs : List Loc), zH G M H → zS 0 B0 s.heap H locs → ∀ (ls : Array Slot), lv_has ls 3 [(0, .ref w), (1, .int (nI a)), (2, .int (nI k))] → zW pg l ev 2 0 0 s m [.ref w] below meth cd H locs 0 0 G B0 (some (.int (nI (allClr v)))) (fun M1 => M = M1) (F0 m 4 ls []) := by
    intro dd
    induction dd with
    | zero =>
      intro k a hdd hk ha
      exact absurd hdd (by omega)
    | succ dd ih =>
      intro k a hdd hk ha H locs hH hS ls hl
      refine lv_iload_n hx hb dX4_postersAllClear_4 rfl (lv_at hl 2 rfl) ?_
      refine lv_aload_n hx hb dX4_postersAllClear_5 rfl (lv_at hl 0 rfl) ?_
      refine z_get (T := TX4) (v := .int (nI (v 0))) hE hH hW.1 rfl uw_X4 1 (by decide) fkX4_22 rfl dX4_postersAllClear_6 ?_
      refine n_cmp_ge (tgt := 33) hx hb (by omega) (by omega) dX4_postersAllClear_9 (by decide) (fun h1 => ?_) (fun h1 => ?_)
      · refine lv_iload_n hx hb dX4_postersAllClear_33 rfl (lv_at hl 1 rfl) ?_
        exact z_iret hE hH hS (by have hkk : k = v 0 := (by omega); subst hkk; rw [ha]; first | done | rfl) rfl dX4_postersAllClear_34
      · refine lv_aload_n hx hb dX4_postersAllClear_12 rfl (lv_at hl 0 rfl) ?_
        refine z_get (T := TX4) (v := .ref (w + 1)) hE hH hW.1 rfl uw_X4 0 (by decide) fkX4_11 rfl dX4_postersAllClear_13 ?_
        refine lv_iload_n hx hb dX4_postersAllClear_16 rfl (lv_at hl 2 rfl) ?_
        refine z_aald hE hH hW.2.1 rfl (k := k) (by omega) (by decide) dX4_postersAllClear_17 ?_
        refine z_callV (rest := []) (st2 := [.int (nI (ncCnt (cv v k)))]) hE hH hS hB0 hl ca_X3_notClearCells mkX4_98 (c_X3_notClearCells l G B0 M (w + 2 + 2 * r k) (pv v k) (cv v k) (hW.2.2.2.2 k (by omega)) (fun c hc => hv.coat (j := k) (by omega) hc)) (hW.2.2.2.2 k (by omega)).1 rfl rfl rfl rfl rfl ⟨Nat.le_of_ble_eq_true rfl, Nat.le_of_ble_eq_true rfl⟩ (Nat.le_of_ble_eq_true rfl) ⟨Nat.le_refl _, Nat.le_refl _⟩ dX4_postersAllClear_18 (fun H locs M1 hH hp hS => ?_)
        subst hp
        have q2 := ncCnt_le (cv v k)
        refine n_if_ne (tgt := 27) hx hb (by omega) dX4_postersAllClear_21 (by decide) (fun h3 => ?_) (fun h3 => ?_)
        · refine lv_iinc (v := (nI (k + 1))) (lv' := [(2, .int (nI (k + 1))), (0, .ref w), (1, .int (nI a))]) hx hb dX4_postersAllClear_27 hl (k := 2) rfl (nI_inc _) (by decide) rfl (fun ls hl => ?_)
          refine lv_goto (tgt := 4) hx hb dX4_postersAllClear_30 (by decide) ?_
          exact ih  (k + 1) a (by omega) (by omega) (by unfold zcnt; rw [← ha]; simp [*]; try omega) _ _ hH hS _ (lv_sub hl [1, 2, 0] rfl)
        · refine lv_iinc (v := (nI (a + 1))) (lv' := [(1, .int (nI (a + 1))), (0, .ref w), (2, .int (nI k))]) hx hb dX4_postersAllClear_24 hl (k := 1) rfl (nI_inc _) (by decide) rfl (fun ls hl => ?_)
          refine lv_iinc (v := (nI (k + 1))) (lv' := [(2, .int (nI (k + 1))), (1, .int (nI (a + 1))), (0, .ref w)]) hx hb dX4_postersAllClear_27 hl (k := 2) rfl (nI_inc _) (by decide) rfl (fun ls hl => ?_)
          refine lv_goto (tgt := 4) hx hb dX4_postersAllClear_30 (by decide) ?_
          exact ih  (k + 1) (a + 1) (by omega) (by omega) (by unfold zcnt; rw [← ha]; simp [*]; try omega) _ _ hH hS _ (lv_sub hl [2, 1, 0] rfl)
  exact L4 (v 0 + 1) 0 0 (by omega) (by omega) rfl _ _ hH hS _ (lv_sub hl [2, 1, 0] rfl)

set_option maxHeartbeats 4000000 in
set_option maxRecDepth 100000 in
theorem c_X4_isPriceSeenBelow (l : Launch) (G : zG) (B0 : Nat) (M : Mm) (w : Nat) (r : Nat → Nat) (v : Wv) (hW : WlR G w r v M) (hr : rOk r) (hv : wOk v) (j : Nat) (hj : j < v 0) : zMet l yX4_isPriceSeenBelow cX4_isPriceSeenBelow 3 (some .boolean) 4 0 0 G B0 M [.ref w, .int (nI j)] (some (.int (zb (blw v j)))) (fun M1 => M = M1) := by
  refine z_met RX4 [(0, .ref w), (1, .int (nI j))] (by decide) rfl (Nat.le_of_ble_eq_true rfl) rfl ?_
  intro pg ev s m below meth cd ls hE hin hB0 hH hl
  have hx := hE.1
  have hb := hE.2.1
  have hn := hv.1
  refine z_gen B0 (fun H locs hH hS => ?_) hH
  refine n_iconst hx hb 0 dX4_isPriceSeenBelow_0 (by decide) ?_
  refine lv_istore_n (lv' := [(2, .int (nI 0)), (0, .ref w), (1, .int (nI j))]) hx hb dX4_isPriceSeenBelow_1 rfl hl (by decide) rfl (fun ls hl => ?_)
  have L2 : ∀ (dd : Nat) (k : Nat), j < k + dd → (k ≤ j) → (zany (fun i => decide (pv v i 4 = pv v j 4) && decide (0 < seenCnt v i)) k = false) → ∀ (H : Heap) (locs : List Loc), zH G M H → zS 0 B0 s.heap H locs → ∀ (ls : Array Slot), lv_has ls 3 [(0, .ref w), (1, .int (nI j)), (2, .int (nI k))] → zW pg l ev 4 0 0 s m [.ref w, .int (nI j)] below meth cd H locs 0 0 G B0 (some (.int (zb (blw v j)))) (fun M1 => M = M1) (F0 m 2 ls []) := by
    intro dd
    induction dd with
    | zero =>
      intro k hdd hk ha
      exact absurd hdd (by omega)
    | succ dd ih =>
      intro k hdd hk ha H locs hH hS ls hl
      refine lv_iload_n hx hb dX4_isPriceSeenBelow_2 rfl (lv_at hl 2 rfl) ?_
      refine lv_iload_n hx hb dX4_isPriceSeenBelow_3 rfl (lv_at hl 1 rfl) ?_
      refine n_cmp_ge (tgt := 44) hx hb (by omega) (by omega) dX4_isPriceSeenBelow_4 (by decide) (fun h1 => ?_) (fun h1 => ?_)
      · refine n_iconst hx hb 0 dX4_isPriceSeenBelow_44 (by decide) ?_
        exact z_zret hE hH hS (by have hkk : k = j := (by omega); subst hkk; rw [show blw v k = false from ha]; rfl) rfl dX4_isPriceSeenBelow_45
      · refine lv_aload_n hx hb dX4_isPriceSeenBelow_7 rfl (lv_at hl 0 rfl) ?_
        refine z_get (T := TX4) (v := .ref (w + 1)) hE hH hW.1 rfl uw_X4 0 (by decide) fkX4_11 rfl dX4_isPriceSeenBelow_8 ?_
        refine lv_iload_n hx hb dX4_isPriceSeenBelow_11 rfl (lv_at hl 2 rfl) ?_
        refine z_aald hE hH hW.2.1 rfl (k := k) (by omega) (by decide) dX4_isPriceSeenBelow_12 ?_
        have q2 := hv.price (j := k) (by omega)
        refine z_get (T := TX3) (v := .int (nI (pv v k 4))) hE hH (hW.2.2.2.2 k (by omega)).1 rfl uw_X3 4 (by decide) fkX4_66 rfl dX4_isPriceSeenBelow_13 ?_
        refine lv_aload_n hx hb dX4_isPriceSeenBelow_16 rfl (lv_at hl 0 rfl) ?_
        refine z_get (T := TX4) (v := .ref (w + 1)) hE hH hW.1 rfl uw_X4 0 (by decide) fkX4_11 rfl dX4_isPriceSeenBelow_17 ?_
        refine lv_iload_n hx hb dX4_isPriceSeenBelow_20 rfl (lv_at hl 1 rfl) ?_
        refine z_aald hE hH hW.2.1 rfl (k := j) (by omega) (by decide) dX4_isPriceSeenBelow_21 ?_
        have q3 := hv.price (j := j) (by omega)
        refine z_get (T := TX3) (v := .int (nI (pv v j 4))) hE hH (hW.2.2.2.2 j (by omega)).1 rfl uw_X3 4 (by decide) fkX4_66 rfl dX4_isPriceSeenBelow_22 ?_
        refine n_cmp_ne (tgt := 38) hx hb (by omega) (by omega) dX4_isPriceSeenBelow_25 (by decide) (fun h4 => ?_) (fun h4 => ?_)
        · refine lv_iinc (v := (nI (k + 1))) (lv' := [(2, .int (nI (k + 1))), (0, .ref w), (1, .int (nI j))]) hx hb dX4_isPriceSeenBelow_38 hl (k := 2) rfl (nI_inc _) (by decide) rfl (fun ls hl => ?_)
          refine lv_goto (tgt := 2) hx hb dX4_isPriceSeenBelow_41 (by decide) ?_
          exact ih  (k + 1) (by omega) (by omega) (by unfold zany; rw [ha]; simp [*]) _ _ hH hS _ (lv_sub hl [1, 2, 0] rfl)
        · refine lv_aload_n hx hb dX4_isPriceSeenBelow_28 rfl (lv_at hl 0 rfl) ?_
          refine lv_iload_n hx hb dX4_isPriceSeenBelow_29 rfl (lv_at hl 2 rfl) ?_
          refine z_callV (rest := []) (st2 := [.int (nI (seenCnt v k))]) hE hH hS hB0 hl ca_X4_seenCellsOf mkX4_88 (c_X4_seenCellsOf l G B0 M w r v hW hr hv k (by omega)) hW.1 rfl rfl rfl rfl rfl ⟨Nat.le_of_ble_eq_true rfl, Nat.le_of_ble_eq_true rfl⟩ (Nat.le_of_ble_eq_true rfl) ⟨Nat.le_refl _, Nat.le_refl _⟩ dX4_isPriceSeenBelow_30 (fun H locs M1 hH hp hS => ?_)
          subst hp
          have q5 := seenCnt_le v k
          refine n_if_le (tgt := 38) hx hb (by omega) dX4_isPriceSeenBelow_33 (by decide) (fun h6 => ?_) (fun h6 => ?_)
          · refine lv_iinc (v := (nI (k + 1))) (lv' := [(2, .int (nI (k + 1))), (0, .ref w), (1, .int (nI j))]) hx hb dX4_isPriceSeenBelow_38 hl (k := 2) rfl (nI_inc _) (by decide) rfl (fun ls hl => ?_)
            refine lv_goto (tgt := 2) hx hb dX4_isPriceSeenBelow_41 (by decide) ?_
            exact ih  (k + 1) (by omega) (by omega) (by unfold zany; rw [ha]; simp [*]) _ _ hH hS _ (lv_sub hl [1, 2, 0] rfl)
          · refine n_iconst hx hb 1 dX4_isPriceSeenBelow_36 (by decide) ?_
            exact z_zret hE hH hS (by rw [show blw v j = true from zany_of (k := k) (by omega) (by simp [*])]; rfl) rfl dX4_isPriceSeenBelow_37
  exact L2 (j + 1) 0 (by omega) (by omega) rfl _ _ hH hS _ (lv_sub hl [1, 2, 0] rfl)

set_option maxHeartbeats 4000000 in
set_option maxRecDepth 100000 in
theorem c_X4_unlikePrices (l : Launch) (G : zG) (B0 : Nat) (M : Mm) (w : Nat) (r : Nat → Nat) (v : Wv) (hW : WlR G w r v M) (hr : rOk r) (hv : wOk v) : zMet l yX4_unlikePrices cX4_unlikePrices 3 (some .int) 5 0 0 G B0 M [.ref w] (some (.int (nI (unlikeCnt v)))) (fun M1 => M = M1) := by
  refine z_met RX4 [(0, .ref w)] (by decide) rfl (Nat.le_of_ble_eq_true rfl) rfl ?_
  intro pg ev s m below meth cd ls hE hin hB0 hH hl
  have hx := hE.1
  have hb := hE.2.1
  have hn := hv.1
  refine z_gen B0 (fun H locs hH hS => ?_) hH
  refine n_iconst hx hb 0 dX4_unlikePrices_0 (by decide) ?_
  refine lv_istore_n (lv' := [(1, .int (nI 0)), (0, .ref w)]) hx hb dX4_unlikePrices_1 rfl hl (by decide) rfl (fun ls hl => ?_)
  refine n_iconst hx hb 0 dX4_unlikePrices_2 (by decide) ?_
  refine lv_istore_n (lv' := [(2, .int (nI 0)), (1, .int (nI 0)), (0, .ref w)]) hx hb dX4_unlikePrices_3 rfl hl (by decide) rfl (fun ls hl => ?_)
  have L4 : ∀ (dd : Nat) (k : Nat) (a : Nat), v 0 < k + dd → (k ≤ v 0) → (a = zcnt (fun j => decide (0 < seenCnt v j) && !(blw v j)) k) → ∀ (H : Heap) (locs : List Loc), zH G M H → zS 0 B0 s.heap H locs → ∀ (ls : Array Slot), lv_has ls 3 [(0, .ref w), (1, .int (nI a)), (2, .int (nI k))] → zW pg l ev 5 0 0 s m [.ref w] below meth cd H locs 0 0 G B0 (some (.int (nI (unlikeCnt v)))) (fun M1 => M = M1) (F0 m 4 ls []) := by
    intro dd
    induction dd with
    | zero =>
      intro k a hdd hk ha
      exact absurd hdd (by omega)
    | succ dd ih =>
      intro k a hdd hk ha H locs hH hS ls hl
      refine lv_iload_n hx hb dX4_unlikePrices_4 rfl (lv_at hl 2 rfl) ?_
      refine lv_aload_n hx hb dX4_unlikePrices_5 rfl (lv_at hl 0 rfl) ?_
      refine z_get (T := TX4) (v := .int (nI (v 0))) hE hH hW.1 rfl uw_X4 1 (by decide) fkX4_22 rfl dX4_unlikePrices_6 ?_
      refine n_cmp_ge (tgt := 37) hx hb (by omega) (by omega) dX4_unlikePrices_9 (by decide) (fun h1 => ?_) (fun h1 => ?_)
      · refine lv_iload_n hx hb dX4_unlikePrices_37 rfl (lv_at hl 1 rfl) ?_
        exact z_iret hE hH hS (by have hkk : k = v 0 := (by omega); subst hkk; rw [ha]; first | done | rfl) rfl dX4_unlikePrices_38
      · refine lv_aload_n hx hb dX4_unlikePrices_12 rfl (lv_at hl 0 rfl) ?_
        refine lv_iload_n hx hb dX4_unlikePrices_13 rfl (lv_at hl 2 rfl) ?_
        refine z_callV (rest := []) (st2 := [.int (nI (seenCnt v k))]) hE hH hS hB0 hl ca_X4_seenCellsOf mkX4_88 (c_X4_seenCellsOf l G B0 M w r v hW hr hv k (by omega)) hW.1 rfl rfl rfl rfl rfl ⟨Nat.le_of_ble_eq_true rfl, Nat.le_of_ble_eq_true rfl⟩ (Nat.le_of_ble_eq_true rfl) ⟨Nat.le_refl _, Nat.le_refl _⟩ dX4_unlikePrices_14 (fun H locs M1 hH hp hS => ?_)
        subst hp
        have q2 := seenCnt_le v k
        refine n_if_le (tgt := 31) hx hb (by omega) dX4_unlikePrices_17 (by decide) (fun h3 => ?_) (fun h3 => ?_)
        · refine lv_iinc (v := (nI (k + 1))) (lv' := [(2, .int (nI (k + 1))), (0, .ref w), (1, .int (nI a))]) hx hb dX4_unlikePrices_31 hl (k := 2) rfl (nI_inc _) (by decide) rfl (fun ls hl => ?_)
          refine lv_goto (tgt := 4) hx hb dX4_unlikePrices_34 (by decide) ?_
          exact ih  (k + 1) a (by omega) (by omega) (by unfold zcnt; rw [← ha]; simp [*]) _ _ hH hS _ (lv_sub hl [1, 2, 0] rfl)
        · refine lv_aload_n hx hb dX4_unlikePrices_20 rfl (lv_at hl 0 rfl) ?_
          refine lv_iload_n hx hb dX4_unlikePrices_21 rfl (lv_at hl 2 rfl) ?_
          refine z_callV (rest := []) (st2 := [.int (zb (blw v k))]) hE hH hS hB0 hl ca_X4_isPriceSeenBelow mkX4_91 (c_X4_isPriceSeenBelow l G B0 M w r v hW hr hv k (by omega)) hW.1 rfl rfl rfl rfl rfl ⟨Nat.le_of_ble_eq_true rfl, Nat.le_of_ble_eq_true rfl⟩ (Nat.le_of_ble_eq_true rfl) ⟨Nat.le_refl _, Nat.le_refl _⟩ dX4_unlikePrices_22 (fun H locs M1 hH hp hS => ?_)
          subst hp
          refine b_if_ne (tgt := 31) hx hb dX4_unlikePrices_25 (by decide) (fun h4 => ?_) (fun h4 => ?_)
          · refine lv_iinc (v := (nI (k + 1))) (lv' := [(2, .int (nI (k + 1))), (0, .ref w), (1, .int (nI a))]) hx hb dX4_unlikePrices_31 hl (k := 2) rfl (nI_inc _) (by decide) rfl (fun ls hl => ?_)
            refine lv_goto (tgt := 4) hx hb dX4_unlikePrices_34 (by decide) ?_
            exact ih  (k + 1) a (by omega) (by omega) (by unfold zcnt; rw [← ha]; simp [*]) _ _ hH hS _ (lv_sub hl [1, 2, 0] rfl)
          · refine lv_iinc (v := (nI (a + 1))) (lv' := [(1, .int (nI (a + 1))), (0, .ref w), (2, .int (nI k))]) hx hb dX4_unlikePrices_28 hl (k := 1) rfl (nI_inc _) (by decide) rfl (fun ls hl => ?_)
            refine lv_iinc (v := (nI (k + 1))) (lv' := [(2, .int (nI (k + 1))), (1, .int (nI (a + 1))), (0, .ref w)]) hx hb dX4_unlikePrices_31 hl (k := 2) rfl (nI_inc _) (by decide) rfl (fun ls hl => ?_)
            refine lv_goto (tgt := 4) hx hb dX4_unlikePrices_34 (by decide) ?_
            exact ih  (k + 1) (a + 1) (by omega) (by omega) (by unfold zcnt; rw [← ha]; simp [*]) _ _ hH hS _ (lv_sub hl [2, 1, 0] rfl)
  exact L4 (v 0 + 1) 0 0 (by omega) (by omega) rfl _ _ hH hS _ (lv_sub hl [2, 1, 0] rfl)

set_option maxHeartbeats 4000000 in
set_option maxRecDepth 100000 in
theorem c_X4_greatestPrice (l : Launch) (G : zG) (B0 : Nat) (M : Mm) (w : Nat) (r : Nat → Nat) (v : Wv) (hW : WlR G w r v M) (hr : rOk r) (hv : wOk v) : zMet l yX4_greatestPrice cX4_greatestPrice 3 (some .int) 4 0 0 G B0 M [.ref w] (some (.int (oI (grtTo v 60)))) (fun M1 => M = M1) := by
  refine z_met RX4 [(0, .ref w)] (by decide) rfl (Nat.le_of_ble_eq_true rfl) rfl ?_
  intro pg ev s m below meth cd ls hE hin hB0 hH hl
  have hx := hE.1
  have hb := hE.2.1
  have hn := hv.1
  refine z_gen B0 (fun H locs hH hS => ?_) hH
  refine lv_bipush (v := (-6)) hx hb dX4_greatestPrice_0 (by decide) ?_
  refine lv_istore_n (lv' := [(1, .int (-6)), (0, .ref w)]) hx hb dX4_greatestPrice_2 rfl hl (by decide) rfl (fun ls hl => ?_)
  refine n_iconst hx hb 0 dX4_greatestPrice_3 (by decide) ?_
  refine lv_istore_n (lv' := [(2, .int (nI 0)), (1, .int (-6)), (0, .ref w)]) hx hb dX4_greatestPrice_4 rfl hl (by decide) rfl (fun ls hl => ?_)
  have L5 : ∀ (dd : Nat) (k : Nat) (o : Option Nat), 60 < k + dd → (k ≤ 60) → (o = grtTo v k) → ∀ (H : Heap) (locs : List Loc), zH G M H → zS 0 B0 s.heap H locs → ∀ (ls : Array Slot), lv_has ls 3 [(0, .ref w), (1, .int (oI o)), (2, .int (nI k))] → zW pg l ev 4 0 0 s m [.ref w] below meth cd H locs 0 0 G B0 (some (.int (oI (grtTo v 60)))) (fun M1 => M = M1) (F0 m 5 ls []) := by
    intro dd
    induction dd with
    | zero =>
      intro k o hdd hk ho
      exact absurd hdd (by omega)
    | succ dd ih =>
      intro k o hdd hk ho H locs hH hS ls hl
      refine lv_iload_n hx hb dX4_greatestPrice_5 rfl (lv_at hl 2 rfl) ?_
      refine n_bipush hx hb 60 dX4_greatestPrice_6 (by decide) ?_
      refine n_cmp_ge (tgt := 27) hx hb (by omega) (by decide) dX4_greatestPrice_8 (by decide) (fun h1 => ?_) (fun h1 => ?_)
      · refine lv_iload_n hx hb dX4_greatestPrice_27 rfl (lv_at hl 1 rfl) ?_
        exact z_iret hE hH hS (by have hkk : k = 60 := (by omega); subst hkk; rw [ho]) rfl dX4_greatestPrice_28
      · refine lv_iload_n hx hb dX4_greatestPrice_11 rfl (lv_at hl 1 rfl) ?_
        refine lv_aload_n hx hb dX4_greatestPrice_12 rfl (lv_at hl 0 rfl) ?_
        refine lv_iload_n hx hb dX4_greatestPrice_13 rfl (lv_at hl 2 rfl) ?_
        refine z_callV (rest := [.int (oI o)]) (st2 := [.int (oI (prc v (-6) k)), .int (oI o)]) hE hH hS hB0 hl ca_X4_priceAt mkX4_78 (c_X4_priceAt l G B0 M w r v hW hr hv k (by omega)) hW.1 rfl rfl rfl rfl rfl ⟨Nat.le_of_ble_eq_true rfl, Nat.le_of_ble_eq_true rfl⟩ (Nat.le_of_ble_eq_true rfl) ⟨Nat.le_refl _, Nat.le_refl _⟩ dX4_greatestPrice_14 (fun H locs M1 hH hp hS => ?_)
        subst hp
        refine o_max (rest := []) hE hl mkX4_95 (by rw [ho]; exact grt_ob hv k) (prc_ob31 hv) ⟨Nat.le_of_ble_eq_true rfl, Nat.le_of_ble_eq_true rfl⟩ ⟨Nat.le_refl _, Nat.le_refl _⟩ dX4_greatestPrice_17 ?_
        refine lv_istore_n (lv' := [(1, .int (oI (omax o (prc v (-6) k)))), (0, .ref w), (2, .int (nI k))]) hx hb dX4_greatestPrice_20 rfl hl (by decide) rfl (fun ls hl => ?_)
        refine lv_iinc (v := (nI (k + 1))) (lv' := [(2, .int (nI (k + 1))), (1, .int (oI (omax o (prc v (-6) k)))), (0, .ref w)]) hx hb dX4_greatestPrice_21 hl (k := 2) rfl (nI_inc _) (by decide) rfl (fun ls hl => ?_)
        refine lv_goto (tgt := 5) hx hb dX4_greatestPrice_24 (by decide) ?_
        exact ih  (k + 1) (omax o (prc v (-6) k)) (by omega) (by omega) (by rw [ho]; rfl) _ _ hH hS _ (lv_sub hl [2, 1, 0] rfl)
  exact L5 61 0 none (by omega) (by omega) rfl _ _ hH hS _ (lv_sub hl [2, 1, 0] rfl)

set_option maxHeartbeats 4000000 in
set_option maxRecDepth 100000 in
theorem c_X4_pricesUnlike (l : Launch) (G : zG) (B0 : Nat) (M : Mm) (w : Nat) (r : Nat → Nat) (v : Wv) (hW : WlR G w r v M) (hr : rOk r) (hv : wOk v) (w2 : Nat) (r2 : Nat → Nat) (v2 : Wv) (hW2 : WlR G w2 r2 v2 M) (hr2 : rOk r2) (hv2 : wOk v2) : zMet l yX4_pricesUnlike cX4_pricesUnlike 4 (some .int) 4 0 0 G B0 M [.ref w, .ref w2] (some (.int (nI (unlikeW v v2)))) (fun M1 => M = M1) := by
  refine z_met RX4 [(0, .ref w), (1, .ref w2)] (by decide) rfl (Nat.le_of_ble_eq_true rfl) rfl ?_
  intro pg ev s m below meth cd ls hE hin hB0 hH hl
  have hx := hE.1
  have hb := hE.2.1
  have hn := hv.1
  refine z_gen B0 (fun H locs hH hS => ?_) hH
  refine n_iconst hx hb 0 dX4_pricesUnlike_0 (by decide) ?_
  refine lv_istore_n (lv' := [(2, .int (nI 0)), (0, .ref w), (1, .ref w2)]) hx hb dX4_pricesUnlike_1 rfl hl (by decide) rfl (fun ls hl => ?_)
  refine n_iconst hx hb 0 dX4_pricesUnlike_2 (by decide) ?_
  refine lv_istore_n (lv' := [(3, .int (nI 0)), (2, .int (nI 0)), (0, .ref w), (1, .ref w2)]) hx hb dX4_pricesUnlike_3 rfl hl (by decide) rfl (fun ls hl => ?_)
  have L4 : ∀ (dd : Nat) (k : Nat) (a : Nat), 60 < k + dd → (k ≤ 60) → (a = zcnt (fun c => decide (prc v (-6) c ≠ prc v2 (-6) c)) k) → ∀ (H : Heap) (locs : List Loc), zH G M H → zS 0 B0 s.heap H locs → ∀ (ls : Array Slot), lv_has ls 4 [(0, .ref w), (1, .ref w2), (2, .int (nI a)), (3, .int (nI k))] → zW pg l ev 4 0 0 s m [.ref w, .ref w2] below meth cd H locs 0 0 G B0 (some (.int (nI (unlikeW v v2)))) (fun M1 => M = M1) (F0 m 4 ls []) := by
    intro dd
    induction dd with
    | zero =>
      intro k a hdd hk ha
      exact absurd hdd (by omega)
    | succ dd ih =>
      intro k a hdd hk ha H locs hH hS ls hl
      refine lv_iload_n hx hb dX4_pricesUnlike_4 rfl (lv_at hl 3 rfl) ?_
      refine n_bipush hx hb 60 dX4_pricesUnlike_5 (by decide) ?_
      refine n_cmp_ge (tgt := 32) hx hb (by omega) (by decide) dX4_pricesUnlike_7 (by decide) (fun h1 => ?_) (fun h1 => ?_)
      · refine lv_iload_n hx hb dX4_pricesUnlike_32 rfl (lv_at hl 2 rfl) ?_
        exact z_iret hE hH hS (by have hkk : k = 60 := (by omega); subst hkk; rw [ha]; first | done | rfl) rfl dX4_pricesUnlike_33
      · refine lv_aload_n hx hb dX4_pricesUnlike_10 rfl (lv_at hl 0 rfl) ?_
        refine lv_iload_n hx hb dX4_pricesUnlike_11 rfl (lv_at hl 3 rfl) ?_
        refine z_callV (rest := []) (st2 := [.int (oI (prc v (-6) k))]) hE hH hS hB0 hl ca_X4_priceAt mkX4_78 (c_X4_priceAt l G B0 M w r v hW hr hv k (by omega)) hW.1 rfl rfl rfl rfl rfl ⟨Nat.le_of_ble_eq_true rfl, Nat.le_of_ble_eq_true rfl⟩ (Nat.le_of_ble_eq_true rfl) ⟨Nat.le_refl _, Nat.le_refl _⟩ dX4_pricesUnlike_12 (fun H locs M1 hH hp hS => ?_)
        subst hp
        refine lv_aload_n hx hb dX4_pricesUnlike_15 rfl (lv_at hl 1 rfl) ?_
        refine lv_iload_n hx hb dX4_pricesUnlike_16 rfl (lv_at hl 3 rfl) ?_
        refine z_callV (rest := [.int (oI (prc v (-6) k))]) (st2 := [.int (oI (prc v2 (-6) k)), .int (oI (prc v (-6) k))]) hE hH hS hB0 hl ca_X4_priceAt mkX4_78 (c_X4_priceAt l G B0 M w2 r2 v2 hW2 hr2 hv2 k (by omega)) hW2.1 rfl rfl rfl rfl rfl ⟨Nat.le_of_ble_eq_true rfl, Nat.le_of_ble_eq_true rfl⟩ (Nat.le_of_ble_eq_true rfl) ⟨Nat.le_refl _, Nat.le_refl _⟩ dX4_pricesUnlike_17 (fun H locs M1 hH hp hS => ?_)
        subst hp
        refine oo_cmp_eq (tgt := 26) hx hb (prc_ob31 hv) (prc_ob31 hv2) dX4_pricesUnlike_20 (by decide) (fun h2 => ?_) (fun h2 => ?_)
        · refine lv_iinc (v := (nI (k + 1))) (lv' := [(3, .int (nI (k + 1))), (0, .ref w), (1, .ref w2), (2, .int (nI a))]) hx hb dX4_pricesUnlike_26 hl (k := 3) rfl (nI_inc _) (by decide) rfl (fun ls hl => ?_)
          refine lv_goto (tgt := 4) hx hb dX4_pricesUnlike_29 (by decide) ?_
          exact ih  (k + 1) a (by omega) (by omega) (by unfold zcnt; rw [← ha]; simp [*]) _ _ hH hS _ (lv_sub hl [1, 2, 3, 0] rfl)
        · refine lv_iinc (v := (nI (a + 1))) (lv' := [(2, .int (nI (a + 1))), (0, .ref w), (1, .ref w2), (3, .int (nI k))]) hx hb dX4_pricesUnlike_23 hl (k := 2) rfl (nI_inc _) (by decide) rfl (fun ls hl => ?_)
          refine lv_iinc (v := (nI (k + 1))) (lv' := [(3, .int (nI (k + 1))), (2, .int (nI (a + 1))), (0, .ref w), (1, .ref w2)]) hx hb dX4_pricesUnlike_26 hl (k := 3) rfl (nI_inc _) (by decide) rfl (fun ls hl => ?_)
          refine lv_goto (tgt := 4) hx hb dX4_pricesUnlike_29 (by decide) ?_
          exact ih  (k + 1) (a + 1) (by omega) (by omega) (by unfold zcnt; rw [← ha]; simp [*]) _ _ hH hS _ (lv_sub hl [2, 3, 1, 0] rfl)
  exact L4 61 0 0 (by omega) (by omega) rfl _ _ hH hS _ (lv_sub hl [2, 3, 1, 0] rfl)

set_option maxHeartbeats 4000000 in
set_option maxRecDepth 100000 in
theorem c_X4_daysToClear (l : Launch) (G : zG) (B0 : Nat) (M : Mm) (w : Nat) (r : Nat → Nat) (v : Wv) (hW : WlR G w r v M) (hr : rOk r) (hv : wOk v) (j c : Nat) (hj : j < v 0) (hc : c < 60) : zMet l yX4_daysToClear cX4_daysToClear 5 (some .int) 1 0 0 G B0 M [.ref w, .int (nI j), .int (nI c)] (some (.int (nI (dtc (cv v j c) (sv v (c % 10)))))) (fun M1 => M = M1) := by
  refine z_met RX4 [(0, .ref w), (1, .int (nI j)), (2, .int (nI c))] (by decide) rfl (Nat.le_of_ble_eq_true rfl) rfl ?_
  intro pg ev s m below meth cd ls hE hin hB0 hH hl
  have hx := hE.1
  have hb := hE.2.1
  have hn := hv.1
  refine z_gen B0 (fun H locs hH hS => ?_) hH
  refine lv_aload_n hx hb dX4_daysToClear_0 rfl (lv_at hl 0 rfl) ?_
  refine z_get (T := TX4) (v := .ref (w + 1)) hE hH hW.1 rfl uw_X4 0 (by decide) fkX4_11 rfl dX4_daysToClear_1 ?_
  refine lv_iload_n hx hb dX4_daysToClear_4 rfl (lv_at hl 1 rfl) ?_
  refine z_aald hE hH hW.2.1 rfl (k := j) (by omega) (by decide) dX4_daysToClear_5 ?_
  refine z_get (T := TX3) (v := .ref (w + 2 + 2 * r j + 1)) hE hH (hW.2.2.2.2 j (by omega)).1 rfl uw_X3 7 (by decide) fkX4_53 rfl dX4_daysToClear_6 ?_
  refine lv_iload_n hx hb dX4_daysToClear_9 rfl (lv_at hl 2 rfl) ?_
  refine z_iald hE hH (hW.2.2.2.2 j (by omega)).2 (k := c) (by omega) (by decide) dX4_daysToClear_10 ?_
  have q1 := hv.coat (j := j) (c := c) (by omega) (by omega)
  refine lv_istore_n (lv' := [(3, .int (nI (cv v j c))), (0, .ref w), (1, .int (nI j)), (2, .int (nI c))]) hx hb dX4_daysToClear_11 rfl hl (by decide) rfl (fun ls hl => ?_)
  refine lv_aload_n hx hb dX4_daysToClear_12 rfl (lv_at hl 1 rfl) ?_
  refine z_get (T := TX4) (v := .ref (w + 26)) hE hH hW.1 rfl uw_X4 2 (by decide) fkX4_18 rfl dX4_daysToClear_13 ?_
  refine lv_iload_n hx hb dX4_daysToClear_16 rfl (lv_at hl 3 rfl) ?_
  refine n_bipush hx hb 10 dX4_daysToClear_17 (by decide) ?_
  refine n_irem hx hb (by omega) (by decide) (by decide) dX4_daysToClear_19 ?_
  refine z_iald hE hH hW.2.2.1 (k := c % 10) (by omega) (by decide) dX4_daysToClear_20 ?_
  have q2 := hv.2.2.1 (c % 10) (by omega)
  refine lv_istore (lv' := [(4, .int (nI (sv v (c % 10)))), (3, .int (nI (cv v j c))), (0, .ref w), (1, .int (nI j)), (2, .int (nI c))]) hx hb dX4_daysToClear_21 hl (by decide) rfl (fun ls hl => ?_)
  refine lv_iload_n hx hb dX4_daysToClear_23 rfl (lv_at hl 1 rfl) ?_
  refine n_if_ne (tgt := 29) hx hb (by omega) dX4_daysToClear_24 (by decide) (fun h3 => ?_) (fun h3 => ?_)
  · refine lv_iload hx hb dX4_daysToClear_29 (lv_at hl 0 rfl) ?_
    refine n_if_le (tgt := 46) hx hb (by omega) dX4_daysToClear_31 (by decide) (fun h4 => ?_) (fun h4 => ?_)
    · refine lv_ldc (v := nI 1000000) hx hb hE.2.2.2.1 (hE.2.2.2.2.1 _ kcX4_77) dX4_daysToClear_46 ?_
      exact z_iret hE hH hS (by congr 1; simp [dtc, *]; try omega) rfl dX4_daysToClear_48
    · refine lv_iload_n hx hb dX4_daysToClear_34 rfl (lv_at hl 1 rfl) ?_
      refine lv_iload hx hb dX4_daysToClear_35 (lv_at hl 0 rfl) ?_
      refine n_iadd hx hb dX4_daysToClear_37 ?_
      refine n_iconst hx hb 1 dX4_daysToClear_38 (by decide) ?_
      refine n_isub hx hb (by omega) dX4_daysToClear_39 ?_
      refine lv_iload hx hb dX4_daysToClear_40 (lv_at hl 0 rfl) ?_
      refine n_idiv hx hb (by omega) (by omega) (by omega) dX4_daysToClear_42 ?_
      refine lv_goto (tgt := 48) hx hb dX4_daysToClear_43 (by decide) ?_
      exact z_iret hE hH hS (by congr 1; simp [dtc, *]; try omega) rfl dX4_daysToClear_48
  · refine n_iconst hx hb 0 dX4_daysToClear_27 (by decide) ?_
    exact z_iret hE hH hS (by congr 1; simp [dtc, *]; try omega) rfl dX4_daysToClear_28

theorem dtoGo_succ (v : Wv) (c pr j d : Nat) : dtoGo v c pr (j + 1) d = if 0 < cv v j c ∧ pv v j 4 ≠ pr then d else dtoGo v c pr j (d + dtc (cv v j c) (sv v (c % 10))) := rfl

set_option maxHeartbeats 4000000 in
set_option maxRecDepth 100000 in
theorem c_X4_daysToOtherPrice (l : Launch) (G : zG) (B0 : Nat) (M : Mm) (w : Nat) (r : Nat → Nat) (v : Wv) (hW : WlR G w r v M) (hr : rOk r) (hv : wOk v) (c : Nat) (hc : c < 60) : zMet l yX4_daysToOtherPrice cX4_daysToOtherPrice 5 (some .int) 4 0 0 G B0 M [.ref w, .int (nI c)] (some (.int (nI (dtOther v c)))) (fun M1 => M = M1) := by
  refine z_met RX4 [(0, .ref w), (1, .int (nI c))] (by decide) rfl (Nat.le_of_ble_eq_true rfl) rfl ?_
  intro pg ev s m below meth cd ls hE hin hB0 hH hl
  have hx := hE.1
  have hb := hE.2.1
  have hn := hv.1
  refine z_gen B0 (fun H locs hH hS => ?_) hH
  refine lv_aload_n hx hb dX4_daysToOtherPrice_0 rfl (lv_at hl 0 rfl) ?_
  refine lv_iload_n hx hb dX4_daysToOtherPrice_1 rfl (lv_at hl 1 rfl) ?_
  refine z_callV (rest := []) (st2 := [.int (oI (prc v (-6) c))]) hE hH hS hB0 hl ca_X4_priceAt mkX4_78 (c_X4_priceAt l G B0 M w r v hW hr hv c (by omega)) hW.1 rfl rfl rfl rfl rfl ⟨Nat.le_of_ble_eq_true rfl, Nat.le_of_ble_eq_true rfl⟩ (Nat.le_of_ble_eq_true rfl) ⟨Nat.le_refl _, Nat.le_refl _⟩ dX4_daysToOtherPrice_2 (fun H locs M1 hH hp hS => ?_)
  subst hp
  refine lv_istore_n (lv' := [(2, .int (oI (prc v (-6) c))), (0, .ref w), (1, .int (nI c))]) hx hb dX4_daysToOtherPrice_5 rfl hl (by decide) rfl (fun ls hl => ?_)
  refine lv_iload_n hx hb dX4_daysToOtherPrice_6 rfl (lv_at hl 0 rfl) ?_
  refine lv_bipush (v := (-6)) hx hb dX4_daysToOtherPrice_7 (by decide) ?_
  refine o_cmp_ne (tgt := 15) hx hb (prc_ob31 hv) dX4_daysToOtherPrice_9 (by decide) (fun j2 h1 => ?_) (fun h1 => ?_)
  · rw [h1] at hl
    replace hl : lv_has ls 5 [(2, .int (nI j2)), (0, .ref w), (1, .int (nI c))] := hl
    have j2_b := prc_ob hv _ h1
    have hpr := h1
    refine n_iconst hx hb 0 dX4_daysToOtherPrice_15 (by decide) ?_
    refine lv_istore_n (lv' := [(3, .int (nI 0)), (2, .int (nI j2)), (0, .ref w), (1, .int (nI c))]) hx hb dX4_daysToOtherPrice_16 rfl hl (by decide) rfl (fun ls hl => ?_)
    refine lv_aload_n hx hb dX4_daysToOtherPrice_17 rfl (lv_at hl 2 rfl) ?_
    refine z_get (T := TX4) (v := .int (nI (v 0))) hE hH hW.1 rfl uw_X4 1 (by decide) fkX4_22 rfl dX4_daysToOtherPrice_18 ?_
    refine n_iconst hx hb 1 dX4_daysToOtherPrice_21 (by decide) ?_
    refine lv_isub hx hb dX4_daysToOtherPrice_22 ?_
    refine lv_istore (lv' := [(4, .int (nI (v 0) - nI 1)), (3, .int (nI 0)), (2, .int (nI j2)), (0, .ref w), (1, .int (nI c))]) hx hb dX4_daysToOtherPrice_23 hl (by decide) rfl (fun ls hl => ?_)
    have L25 : ∀ (dd : Nat) (n : Nat) (d : Nat), n < dd → (dtoGo v c j2 n d = dtoGo v c j2 (v 0) 0) → (n ≤ v 0) → ∀ (H : Heap) (locs : List Loc), zH G M H → zS 0 B0 s.heap H locs → ∀ (ls : Array Slot), lv_has ls 5 [(0, .ref w), (1, .int (nI c)), (2, .int (nI j2)), (3, .int (nI d)), (4, .int (nI n - nI 1))] → zW pg l ev 4 0 0 s m [.ref w, .int (nI c)] below meth cd H locs 0 0 G B0 (some (.int (nI (dtOther v c)))) (fun M1 => M = M1) (F0 m 25 ls []) := by
      intro dd
      induction dd with
      | zero =>
        intro n d hdd hs hnn
        exact absurd hdd (by omega)
      | succ dd ih =>
        intro n d hdd hs hnn H locs hH hS ls hl
        refine lv_iload hx hb dX4_daysToOtherPrice_25 (lv_at hl 4 rfl) ?_
        refine n_down_lt (tgt := 77) hx hb (by omega) dX4_daysToOtherPrice_27 (by decide) (fun h3 => ?_) (fun j4 h3 => ?_)
        · refine lv_iload_n hx hb dX4_daysToOtherPrice_77 rfl (lv_at hl 3 rfl) ?_
          exact z_iret hE hH hS (by simp only [dtOther, hpr, Option.elim]; rw [← hs, h3]; rfl) rfl dX4_daysToOtherPrice_78
        · subst h3
          rw [nI_down] at hl
          refine lv_aload_n hx hb dX4_daysToOtherPrice_30 rfl (lv_at hl 0 rfl) ?_
          refine z_get (T := TX4) (v := .ref (w + 1)) hE hH hW.1 rfl uw_X4 0 (by decide) fkX4_11 rfl dX4_daysToOtherPrice_31 ?_
          refine lv_iload hx hb dX4_daysToOtherPrice_34 (lv_at hl 4 rfl) ?_
          refine z_aald hE hH hW.2.1 rfl (k := j4) (by omega) (by decide) dX4_daysToOtherPrice_36 ?_
          refine z_get (T := TX3) (v := .ref (w + 2 + 2 * r j4 + 1)) hE hH (hW.2.2.2.2 j4 (by omega)).1 rfl uw_X3 7 (by decide) fkX4_53 rfl dX4_daysToOtherPrice_37 ?_
          refine lv_iload_n hx hb dX4_daysToOtherPrice_40 rfl (lv_at hl 1 rfl) ?_
          refine z_iald hE hH (hW.2.2.2.2 j4 (by omega)).2 (k := c) (by omega) (by decide) dX4_daysToOtherPrice_41 ?_
          have q5 := hv.coat (j := j4) (c := c) (by omega) (by omega)
          refine n_if_le (tgt := 61) hx hb (by omega) dX4_daysToOtherPrice_42 (by decide) (fun h6 => ?_) (fun h6 => ?_)
          · refine lv_iload_n hx hb dX4_daysToOtherPrice_61 rfl (lv_at hl 3 rfl) ?_
            refine lv_aload_n hx hb dX4_daysToOtherPrice_62 rfl (lv_at hl 0 rfl) ?_
            refine lv_iload hx hb dX4_daysToOtherPrice_63 (lv_at hl 4 rfl) ?_
            refine lv_iload_n hx hb dX4_daysToOtherPrice_65 rfl (lv_at hl 1 rfl) ?_
            refine z_callV (rest := [.int (nI d)]) (st2 := [.int (nI (dtc (cv v j4 c) (sv v (c % 10)))), .int (nI d)]) hE hH hS hB0 hl ca_X4_daysToClear mkX4_74 (c_X4_daysToClear l G B0 M w r v hW hr hv j4 c (by omega) (by omega)) hW.1 rfl rfl rfl rfl rfl ⟨Nat.le_of_ble_eq_true rfl, Nat.le_of_ble_eq_true rfl⟩ (Nat.le_of_ble_eq_true rfl) ⟨Nat.le_refl _, Nat.le_refl _⟩ dX4_daysToOtherPrice_66 (fun H locs M1 hH hp hS => ?_)
            subst hp
            have q7 := dtc_le (u := sv v (c % 10)) (hv.coat (j := j4) (c := c) (by omega) (by omega))
            refine n_iadd hx hb dX4_daysToOtherPrice_69 ?_
            refine lv_istore_n (lv' := [(3, .int (nI (d + (dtc (cv v j4 c) (sv v (c % 10)))))), (0, .ref w), (1, .int (nI c)), (2, .int (nI j2)), (4, .int (nI j4))]) hx hb dX4_daysToOtherPrice_70 rfl hl (by decide) rfl (fun ls hl => ?_)
            refine lv_iinc (v := (nI j4 - nI 1)) (lv' := [(4, .int (nI j4 - nI 1)), (3, .int (nI (d + (dtc (cv v j4 c) (sv v (c % 10)))))), (0, .ref w), (1, .int (nI c)), (2, .int (nI j2))]) hx hb dX4_daysToOtherPrice_71 hl (k := 4) rfl (nI_dec1 _) (by decide) rfl (fun ls hl => ?_)
            refine lv_goto (tgt := 25) hx hb dX4_daysToOtherPrice_74 (by decide) ?_
            exact ih  j4 (d + (dtc (cv v j4 c) (sv v (c % 10)))) (by omega) (by rw [← hs, dtoGo_succ, if_neg (by rintro ⟨q1, q2⟩; first | exact q2 (by assumption) | omega)]) (by omega) _ _ hH hS _ (lv_sub hl [2, 3, 4, 1, 0] rfl)
          · refine lv_aload_n hx hb dX4_daysToOtherPrice_45 rfl (lv_at hl 0 rfl) ?_
            refine z_get (T := TX4) (v := .ref (w + 1)) hE hH hW.1 rfl uw_X4 0 (by decide) fkX4_11 rfl dX4_daysToOtherPrice_46 ?_
            refine lv_iload hx hb dX4_daysToOtherPrice_49 (lv_at hl 4 rfl) ?_
            refine z_aald hE hH hW.2.1 rfl (k := j4) (by omega) (by decide) dX4_daysToOtherPrice_51 ?_
            have q8 := hv.price (j := j4) (by omega)
            refine z_get (T := TX3) (v := .int (nI (pv v j4 4))) hE hH (hW.2.2.2.2 j4 (by omega)).1 rfl uw_X3 4 (by decide) fkX4_66 rfl dX4_daysToOtherPrice_52 ?_
            refine lv_iload_n hx hb dX4_daysToOtherPrice_55 rfl (lv_at hl 2 rfl) ?_
            refine n_cmp_eq (tgt := 61) hx hb (by omega) (by omega) dX4_daysToOtherPrice_56 (by decide) (fun h9 => ?_) (fun h9 => ?_)
            · refine lv_iload_n hx hb dX4_daysToOtherPrice_61 rfl (lv_at hl 3 rfl) ?_
              refine lv_aload_n hx hb dX4_daysToOtherPrice_62 rfl (lv_at hl 0 rfl) ?_
              refine lv_iload hx hb dX4_daysToOtherPrice_63 (lv_at hl 4 rfl) ?_
              refine lv_iload_n hx hb dX4_daysToOtherPrice_65 rfl (lv_at hl 1 rfl) ?_
              refine z_callV (rest := [.int (nI d)]) (st2 := [.int (nI (dtc (cv v j4 c) (sv v (c % 10)))), .int (nI d)]) hE hH hS hB0 hl ca_X4_daysToClear mkX4_74 (c_X4_daysToClear l G B0 M w r v hW hr hv j4 c (by omega) (by omega)) hW.1 rfl rfl rfl rfl rfl ⟨Nat.le_of_ble_eq_true rfl, Nat.le_of_ble_eq_true rfl⟩ (Nat.le_of_ble_eq_true rfl) ⟨Nat.le_refl _, Nat.le_refl _⟩ dX4_daysToOtherPrice_66 (fun H locs M1 hH hp hS => ?_)
              subst hp
              have q10 := dtc_le (u := sv v (c % 10)) (hv.coat (j := j4) (c := c) (by omega) (by omega))
              refine n_iadd hx hb dX4_daysToOtherPrice_69 ?_
              refine lv_istore_n (lv' := [(3, .int (nI (d + (dtc (cv v j4 c) (sv v (c % 10)))))), (0, .ref w), (1, .int (nI c)), (2, .int (nI j2)), (4, .int (nI j4))]) hx hb dX4_daysToOtherPrice_70 rfl hl (by decide) rfl (fun ls hl => ?_)
              refine lv_iinc (v := (nI j4 - nI 1)) (lv' := [(4, .int (nI j4 - nI 1)), (3, .int (nI (d + (dtc (cv v j4 c) (sv v (c % 10)))))), (0, .ref w), (1, .int (nI c)), (2, .int (nI j2))]) hx hb dX4_daysToOtherPrice_71 hl (k := 4) rfl (nI_dec1 _) (by decide) rfl (fun ls hl => ?_)
              refine lv_goto (tgt := 25) hx hb dX4_daysToOtherPrice_74 (by decide) ?_
              exact ih  j4 (d + (dtc (cv v j4 c) (sv v (c % 10)))) (by omega) (by rw [← hs, dtoGo_succ, if_neg (by rintro ⟨q1, q2⟩; first | exact q2 (by assumption) | omega)]) (by omega) _ _ hH hS _ (lv_sub hl [2, 3, 4, 1, 0] rfl)
            · refine lv_iload_n hx hb dX4_daysToOtherPrice_59 rfl (lv_at hl 3 rfl) ?_
              exact z_iret hE hH hS (by simp only [dtOther, hpr, Option.elim]; rw [← hs, dtoGo_succ, if_pos ⟨by assumption, by assumption⟩]) rfl dX4_daysToOtherPrice_60
    exact L25 (v 0 + 1) (v 0) 0 (by omega) rfl (Nat.le_refl _) _ _ hH hS _ (lv_sub hl [3, 4, 2, 1, 0] rfl)
  · refine lv_ldc (v := nI 1000000) hx hb hE.2.2.2.1 (hE.2.2.2.2.1 _ kcX4_77) dX4_daysToOtherPrice_12 ?_
    exact z_iret hE hH hS (by simp [dtOther, h1]) rfl dX4_daysToOtherPrice_14

set_option maxHeartbeats 4000000 in
set_option maxRecDepth 100000 in
theorem c_X4_daysToSee (l : Launch) (G : zG) (B0 : Nat) (M : Mm) (w : Nat) (r : Nat → Nat) (v : Wv) (hW : WlR G w r v M) (hr : rOk r) (hv : wOk v) (j c : Nat) (hj : j < v 0) (hc : c < 60) : zMet l yX4_daysToSee cX4_daysToSee 5 (some .int) 2 0 0 G B0 M [.ref w, .int (nI j), .int (nI c)] (some (.int (nI (dtSee v j c)))) (fun M1 => M = M1) := by
  refine z_met RX4 [(0, .ref w), (1, .int (nI j)), (2, .int (nI c))] (by decide) rfl (Nat.le_of_ble_eq_true rfl) rfl ?_
  intro pg ev s m below meth cd ls hE hin hB0 hH hl
  have hx := hE.1
  have hb := hE.2.1
  have hn := hv.1
  refine z_gen B0 (fun H locs hH hS => ?_) hH
  refine lv_aload_n hx hb dX4_daysToSee_0 rfl (lv_at hl 0 rfl) ?_
  refine z_get (T := TX4) (v := .ref (w + 1)) hE hH hW.1 rfl uw_X4 0 (by decide) fkX4_11 rfl dX4_daysToSee_1 ?_
  refine lv_iload_n hx hb dX4_daysToSee_4 rfl (lv_at hl 1 rfl) ?_
  refine z_aald hE hH hW.2.1 rfl (k := j) (by omega) (by decide) dX4_daysToSee_5 ?_
  refine z_get (T := TX3) (v := .ref (w + 2 + 2 * r j + 1)) hE hH (hW.2.2.2.2 j (by omega)).1 rfl uw_X3 7 (by decide) fkX4_53 rfl dX4_daysToSee_6 ?_
  refine lv_iload_n hx hb dX4_daysToSee_9 rfl (lv_at hl 2 rfl) ?_
  refine z_iald hE hH (hW.2.2.2.2 j (by omega)).2 (k := c) (by omega) (by decide) dX4_daysToSee_10 ?_
  have q1 := hv.coat (j := j) (c := c) (by omega) (by omega)
  refine n_if_ne (tgt := 17) hx hb (by omega) dX4_daysToSee_11 (by decide) (fun h2 => ?_) (fun h2 => ?_)
  · refine n_iconst hx hb 0 dX4_daysToSee_17 (by decide) ?_
    refine lv_istore_n (lv' := [(3, .int (nI 0)), (0, .ref w), (1, .int (nI j)), (2, .int (nI c))]) hx hb dX4_daysToSee_18 rfl hl (by decide) rfl (fun ls hl => ?_)
    refine lv_iload_n hx hb dX4_daysToSee_19 rfl (lv_at hl 2 rfl) ?_
    refine n_iconst hx hb 1 dX4_daysToSee_20 (by decide) ?_
    refine n_iadd hx hb dX4_daysToSee_21 ?_
    refine lv_istore (lv' := [(4, .int (nI (j + 1))), (3, .int (nI 0)), (0, .ref w), (1, .int (nI j)), (2, .int (nI c))]) hx hb dX4_daysToSee_22 hl (by decide) rfl (fun ls hl => ?_)
    have L24 : ∀ (dd : Nat) (k : Nat) (d : Nat), v 0 < k + dd → (k ≤ v 0) → (j + 1 ≤ k) → (d = zsum (fun i => if j + 1 ≤ i then dtc (cv v i c) (sv v (c % 10)) else 0) k) → ∀ (H : Heap) (locs : List Loc), zH G M H → zS 0 B0 s.heap H locs → ∀ (ls : Array Slot), lv_has ls 5 [(0, .ref w), (1, .int (nI j)), (2, .int (nI c)), (3, .int (nI d)), (4, .int (nI k))] → zW pg l ev 2 0 0 s m [.ref w, .int (nI j), .int (nI c)] below meth cd H locs 0 0 G B0 (some (.int (nI (dtSee v j c)))) (fun M1 => M = M1) (F0 m 24 ls []) := by
      intro dd
      induction dd with
      | zero =>
        intro k d hdd hk hk1 ha
        exact absurd hdd (by omega)
      | succ dd ih =>
        intro k d hdd hk hk1 ha H locs hH hS ls hl
        refine lv_iload hx hb dX4_daysToSee_24 (lv_at hl 4 rfl) ?_
        refine lv_aload_n hx hb dX4_daysToSee_26 rfl (lv_at hl 0 rfl) ?_
        refine z_get (T := TX4) (v := .int (nI (v 0))) hE hH hW.1 rfl uw_X4 1 (by decide) fkX4_22 rfl dX4_daysToSee_27 ?_
        refine n_cmp_ge (tgt := 49) hx hb (by omega) (by omega) dX4_daysToSee_30 (by decide) (fun h3 => ?_) (fun h3 => ?_)
        · refine lv_iload_n hx hb dX4_daysToSee_49 rfl (lv_at hl 3 rfl) ?_
          exact z_iret hE hH hS (by have hkk : k = v 0 := (by omega); subst hkk; unfold dtSee; rw [if_neg (by omega), ha]) rfl dX4_daysToSee_50
        · refine lv_iload_n hx hb dX4_daysToSee_33 rfl (lv_at hl 3 rfl) ?_
          refine lv_aload_n hx hb dX4_daysToSee_34 rfl (lv_at hl 0 rfl) ?_
          refine lv_iload hx hb dX4_daysToSee_35 (lv_at hl 4 rfl) ?_
          refine lv_iload_n hx hb dX4_daysToSee_37 rfl (lv_at hl 2 rfl) ?_
          refine z_callV (rest := [.int (nI d)]) (st2 := [.int (nI (dtc (cv v k c) (sv v (c % 10)))), .int (nI d)]) hE hH hS hB0 hl ca_X4_daysToClear mkX4_74 (c_X4_daysToClear l G B0 M w r v hW hr hv k c (by omega) (by omega)) hW.1 rfl rfl rfl rfl rfl ⟨Nat.le_of_ble_eq_true rfl, Nat.le_of_ble_eq_true rfl⟩ (Nat.le_of_ble_eq_true rfl) ⟨Nat.le_refl _, Nat.le_refl _⟩ dX4_daysToSee_38 (fun H locs M1 hH hp hS => ?_)
          subst hp
          have q4 := dtc_le (u := sv v (c % 10)) (hv.coat (j := k) (c := c) (by omega) (by omega))
          refine n_iadd hx hb dX4_daysToSee_41 ?_
          refine lv_istore_n (lv' := [(3, .int (nI (d + (dtc (cv v k c) (sv v (c % 10)))))), (0, .ref w), (1, .int (nI j)), (2, .int (nI c)), (4, .int (nI k))]) hx hb dX4_daysToSee_42 rfl hl (by decide) rfl (fun ls hl => ?_)
          refine lv_iinc (v := (nI (k + 1))) (lv' := [(4, .int (nI (k + 1))), (3, .int (nI (d + (dtc (cv v k c) (sv v (c % 10)))))), (0, .ref w), (1, .int (nI j)), (2, .int (nI c))]) hx hb dX4_daysToSee_43 hl (k := 4) rfl (nI_inc _) (by decide) rfl (fun ls hl => ?_)
          refine lv_goto (tgt := 24) hx hb dX4_daysToSee_46 (by decide) ?_
          exact ih  (k + 1) (d + (dtc (cv v k c) (sv v (c % 10)))) (by omega) (by omega) (by omega) (by unfold zsum; rw [← ha, if_pos (by omega)]) _ _ hH hS _ (lv_sub hl [2, 3, 4, 1, 0] rfl)
    exact L24 (v 0 + 1) (j + 1) 0 (by omega) (by omega) (by omega) (zsum_zero (fun i hi => if_neg (by omega))).symm _ _ hH hS _ (lv_sub hl [2, 3, 4, 1, 0] rfl)
  · refine lv_ldc (v := nI 1000000) hx hb hE.2.2.2.1 (hE.2.2.2.2.1 _ kcX4_77) dX4_daysToSee_14 ?_
    exact z_iret hE hH hS (by simp [dtSee, h2]) rfl dX4_daysToSee_16
end
section
theorem pv_setC (v : Wv) {i j k c : Nat} (x : Nat) (hi : i < 12) (hk : k < 7) : pv (vset v (98 + 60 * j + c) x) i k = pv v i k := fset_ne _ _ (by omega)
theorem sv_setC (v : Wv) {u j c : Nat} (x : Nat) (hu : u < 10) : sv (vset v (98 + 60 * j + c) x) u = sv v u := fset_ne _ _ (by omega)
theorem v0_setC (v : Wv) {u j c : Nat} (x : Nat) (hu : u < 14) : (vset v (98 + 60 * j + c) x) u = v u := fset_ne _ _ (by omega)
theorem cv_setC (v : Wv) {i j c d : Nat} (x : Nat) (hc : c < 60) (hd : d < 60) : cv (vset v (98 + 60 * j + c) x) i d = if i = j ∧ d = c then x else cv v i d := by
  unfold cv
  by_cases h : i = j ∧ d = c
  · rw [if_pos h, h.1, h.2]; exact fset_self _ _ _
  · rw [if_neg h]; exact fset_ne _ _ (by omega)
theorem cv_setC_self (v : Wv) {j c : Nat} (x : Nat) : cv (vset v (98 + 60 * j + c) x) j c = x := fset_self _ _ _
theorem pv_setP (v : Wv) {i j k d : Nat} (x : Nat) (hk : k < 7) (hd : d < 7) : pv (vset v (14 + 7 * j + k) x) i d = if i = j ∧ d = k then x else pv v i d := by
  unfold pv
  by_cases h : i = j ∧ d = k
  · rw [if_pos h, h.1, h.2]; exact fset_self _ _ _
  · rw [if_neg h]; exact fset_ne _ _ (by omega)
theorem cv_setP (v : Wv) {i j k c : Nat} (x : Nat) (hj : j < 12) (hk : k < 7) : cv (vset v (14 + 7 * j + k) x) i c = cv v i c := fset_ne _ _ (by omega)
theorem sv_setP (v : Wv) {u j k : Nat} (x : Nat) (hu : u < 10) : sv (vset v (14 + 7 * j + k) x) u = sv v u := fset_ne _ _ (by omega)
theorem v0_setP (v : Wv) {u j k : Nat} (x : Nat) (hu : u < 14) : (vset v (14 + 7 * j + k) x) u = v u := fset_ne _ _ (by omega)
theorem pv_setS (v : Wv) {i j k : Nat} (x : Nat) (hi : i < 14) : pv (vset v i x) j k = pv v j k := fset_ne _ _ (by omega)
theorem cv_setS (v : Wv) {i j c : Nat} (x : Nat) (hi : i < 14) : cv (vset v i x) j c = cv v j c := fset_ne _ _ (by omega)
theorem WlR.setS {G : zG} {w i x : Nat} {r : Nat → Nat} {v : Wv} {M M1 : Mm} (h : WlR G w r v M) (hi : i = 1 ∨ i = 2 ∨ i = 3) (e : M1 w = some (.inr (4, ([.ref (w + 1), .int (nI (v 0)), .ref (w + 26), .int (nI (v 1)), .int (nI (v 2)), .int (nI (v 3))] : List Value).set (i + 2) (.int (nI x))))) (o : ∀ q : Nat, q ≠ w → M1 q = M q) : WlR G w r (vset v i x) M1 := by
  obtain ⟨h1, h2, h3, h4, h5⟩ := h
  have hp : ∀ j, pv (vset v i x) j = pv v j := fun j => funext fun k => pv_setS v x (by omega)
  have hc : ∀ j, cv (vset v i x) j = cv v j := fun j => funext fun k => cv_setS v x (by omega)
  refine ⟨?_, h2.kept (o _ (by omega)), (h3.kept (o _ (by omega))).to fun u hu => congrArg nI (show sv v u = sv (vset v i x) u from (fset_ne v x (show 4 + u ≠ i by omega)).symm), fun j hj => ?_, fun j hj => ?_⟩
  · rw [e]
    rcases hi with rfl | rfl | rfl <;> rfl
  · obtain ⟨f, g, h⟩ := h4 j hj
    exact ⟨f, g, h.kept (o _ (by omega)) (o _ (by omega))⟩
  · rw [hp, hc]
    have h0 : (vset v i x) 0 = v 0 := fset_ne _ _ (by omega)
    exact (h5 j (by omega)).kept (o _ (by omega)) (o _ (by omega))
theorem WlR.setU {G : zG} {w x y : Nat} {r : Nat → Nat} {v : Wv} {M M1 : Mm} (hr : rOk r) (h : WlR G w r v M) (hn : v 0 ≤ 12) (hx : x < 10) (e : zArr G 0 M1 (w + 26) 10 (fun i => if i = x then nI y else nI (sv v i))) (o : ∀ q : Nat, q ≠ w + 26 → M1 q = M q) : WlR G w r (vset v (4 + x) y) M1 := by
  obtain ⟨h1, h2, h3, h4, h5⟩ := h
  have hp : ∀ j, pv (vset v (4 + x) y) j = pv v j := fun j => funext fun k => pv_setS v y (by omega)
  have hc : ∀ j, cv (vset v (4 + x) y) j = cv v j := fun j => funext fun k => cv_setS v y (by omega)
  have h0 : ∀ u, u < 4 → (vset v (4 + x) y) u = v u := fun u hu => fset_ne _ _ (by omega)
  refine ⟨by rw [o w (by omega), h1, h0 0 (by decide), h0 1 (by decide), h0 2 (by decide), h0 3 (by decide)], h2.kept (o _ (by omega)), e.to fun u hu => ?_, fun j hj => ?_, fun j hj => ?_⟩
  · show (if u = x then nI y else nI (sv v u)) = nI (fset v (4 + x) y (4 + u))
    by_cases hux : u = x
    · subst hux; rw [if_pos rfl, fset_self]
    · rw [if_neg hux, fset_ne _ _ (by omega)]; rfl
  · have := hr.1 j hj
    obtain ⟨f, g, h⟩ := h4 j hj
    exact ⟨f, g, h.kept (o _ (by omega)) (o _ (by omega))⟩
  · rw [hp, hc]
    have h00 := h0 0 (by decide)
    have := hr.1 j (by omega)
    exact (h5 j (by omega)).kept (o _ (by omega)) (o _ (by omega))
theorem WlR.setP {G : zG} {w j k x : Nat} {r : Nat → Nat} {v : Wv} {M M1 : Mm} (hr : rOk r) (hn : v 0 ≤ 12) (h : WlR G w r v M) (hj : j < v 0) (hk : k < 7) (e : M1 (w + 2 + 2 * r j) = some (.inr (3, ([.int (nI (pv v j 0)), .int (nI (pv v j 1)), .int (nI (pv v j 2)), .int (nI (pv v j 3)), .int (nI (pv v j 4)), .int (nI (pv v j 5)), .int (nI (pv v j 6)), .ref (w + 2 + 2 * r j + 1)] : List Value).set k (.int (nI x))))) (o : ∀ q : Nat, q ≠ w + 2 + 2 * r j → M1 q = M q) : WlR G w r (vset v (14 + 7 * j + k) x) M1 := by
  obtain ⟨h1, h2, h3, h4, h5⟩ := h
  have hjr := hr.1 j (by omega)
  have hS := Pst.setF (h5 j hj) hk e o
  have h0 : ∀ u, u < 14 → (vset v (14 + 7 * j + k) x) u = v u := fun u hu => v0_setP v x hu
  refine ⟨by rw [o w (by omega), h1, h0 0 (by decide), h0 1 (by decide), h0 2 (by decide), h0 3 (by decide)], h2.kept (o _ (by omega)), (h3.kept (o _ (by omega))).to fun u hu => congrArg nI (sv_setP v x hu).symm, fun i hi => ?_, fun i hi => ?_⟩
  · by_cases hij : i = j
    · subst hij; exact ⟨_, _, hS⟩
    · have hne : r i ≠ r j := fun q => hij (hr.2 i j hi (by omega) q)
      have := hr.1 i hi
      obtain ⟨f, g, h⟩ := h4 i hi
      exact ⟨f, g, h.kept (o _ (by omega)) (o _ (by omega))⟩
  · have h00 := h0 0 (by decide)
    by_cases hij : i = j
    · subst hij
      refine hS.to (fun d hd => ?_) (fun c hc => (cv_setP v x (by omega) hk).symm)
      rw [pv_setP v x hk hd]
      unfold fset
      by_cases hdk : d = k <;> simp [hdk]
    · have hne : r i ≠ r j := fun q => hij (hr.2 i j (by omega) (by omega) q)
      have := hr.1 i (by omega)
      refine ((h5 i (by omega)).kept (o _ (by omega)) (o _ (by omega))).to (fun d hd => ?_) (fun c hc => (cv_setP v x (by omega) hk).symm)
      rw [pv_setP v x hk hd, if_neg (fun q => hij q.1)]
theorem WlR.setC {G : zG} {w j c x : Nat} {r : Nat → Nat} {v : Wv} {M M1 : Mm} (hr : rOk r) (hn : v 0 ≤ 12) (h : WlR G w r v M) (hj : j < v 0) (hc : c < 60) (e : zArr G 0 M1 (w + 2 + 2 * r j + 1) 60 (fun i => if i = c then nI x else nI (cv v j i))) (o : ∀ q : Nat, q ≠ w + 2 + 2 * r j + 1 → M1 q = M q) : WlR G w r (vset v (98 + 60 * j + c) x) M1 := by
  obtain ⟨h1, h2, h3, h4, h5⟩ := h
  have hjr := hr.1 j (by omega)
  have hS := Pst.setC (h5 j hj) e o
  have h0 : ∀ u, u < 14 → (vset v (98 + 60 * j + c) x) u = v u := fun u hu => v0_setC v x hu
  refine ⟨by rw [o w (by omega), h1, h0 0 (by decide), h0 1 (by decide), h0 2 (by decide), h0 3 (by decide)], h2.kept (o _ (by omega)), (h3.kept (o _ (by omega))).to fun u hu => congrArg nI (sv_setC v x hu).symm, fun i hi => ?_, fun i hi => ?_⟩
  · by_cases hij : i = j
    · subst hij; exact ⟨_, _, hS⟩
    · have hne : r i ≠ r j := fun q => hij (hr.2 i j hi (by omega) q)
      have := hr.1 i hi
      obtain ⟨f, g, h⟩ := h4 i hi
      exact ⟨f, g, h.kept (o _ (by omega)) (o _ (by omega))⟩
  · have h00 := h0 0 (by decide)
    by_cases hij : i = j
    · subst hij
      refine hS.to (fun d hd => (pv_setC v x (by omega) hd).symm) (fun d hd => ?_)
      rw [cv_setC v x hc hd]
      unfold fset
      by_cases hdk : d = c <;> simp [hdk]
    · have hne : r i ≠ r j := fun q => hij (hr.2 i j (by omega) (by omega) q)
      have := hr.1 i (by omega)
      refine ((h5 i (by omega)).kept (o _ (by omega)) (o _ (by omega))).to (fun d hd => (pv_setC v x (by omega) hd).symm) (fun d hd => ?_)
      rw [cv_setC v x hc hd, if_neg (fun q => hij q.1)]
theorem wOk.setC {v : Wv} (h : wOk v) {j c x : Nat} (hc : c < 60) (hx : x ≤ 99) (hl : 0 < x → liesN (pv v j) (c % 10) (c / 10) = true) : wOk (vset v (98 + 60 * j + c) x) := by
  obtain ⟨h1, h2, h3, h4⟩ := h
  have hz : (vset v (98 + 60 * j + c) x) 0 = v 0 := v0_setC v x (by decide)
  refine ⟨by rw [hz]; exact h1, by rw [v0_setC v x (by decide)]; exact h2, fun u hu => by rw [sv_setC v x hu]; exact h3 u hu, fun i hi => ?_⟩
  rw [hz] at hi
  obtain ⟨a1, a2, a3, a4, a5, a6, a7⟩ := h4 i hi
  have hp : ∀ k, k < 7 → pv (vset v (98 + 60 * j + c) x) i k = pv v i k := fun k hk => pv_setC v x (by omega) hk
  have hl' : ∀ a b, liesN (pv (vset v (98 + 60 * j + c) x) i) a b = liesN (pv v i) a b := fun a b => by
    unfold liesN; rw [hp 0 (by decide), hp 1 (by decide), hp 2 (by decide), hp 3 (by decide)]
  unfold pOk
  rw [hp 0 (by decide), hp 1 (by decide), hp 2 (by decide), hp 3 (by decide), hp 4 (by decide)]
  refine ⟨a1, a2, a3, a4, a5, a6, fun d hd => ?_⟩
  rw [cv_setC v x hc hd, hl']
  by_cases hh : i = j ∧ d = c
  · rw [if_pos hh, hh.1, hh.2]; exact ⟨hx, hl⟩
  · rw [if_neg hh]; exact a7 d hd
theorem wOk.lies {v : Wv} (h : wOk v) {j c : Nat} (hj : j < v 0) (hc : c < 60) (hp : 0 < cv v j c) : liesN (pv v j) (c % 10) (c / 10) = true := ((h.2.2.2 j hj).2.2.2.2.2.2 c hc).2 hp
theorem wOk.decC {v : Wv} (h : wOk v) {j c x : Nat} (hj : j < v 0) (hc : c < 60) (hx : x ≤ cv v j c) : wOk (vset v (98 + 60 * j + c) x) := by
  have := h.coat hj hc
  exact h.setC hc (by omega) (fun q => h.lies hj hc (by omega))
def sellJ (v : Wv) (j : Nat) : Wv :=
  let v1 := vset v (14 + 7 * j + 5) (pv v j 5 + 1)
  let v2 := vset v1 (14 + 7 * j + 6) (pv v1 j 6 + pv v j 4)
  let v3 := vset v2 2 (v2 2 + 1)
  vset v3 3 (v3 3 + pv v j 4)
def sells (v : Wv) (c pu : Nat) : Bool := (prc v (-6) c).elim false (fun p => decide (p ≤ pu))
def sellV (v : Wv) (c pu : Nat) : Wv := (seen v (-6) c).elim v (fun j => if pv v j 4 ≤ pu then sellJ v j else v)
def coatV (v : Wv) (j b : Nat) : Nat → Wv
  | 0 => v
  | k + 1 => if seen (coatV v j b k) (-6) k = some j then vset (coatV v j b k) (98 + 60 * j + k) (min (cv (coatV v j b k) j k + b) 99) else coatV v j b k
def coatN (v : Wv) (j b : Nat) : Nat := zcnt (fun k => decide (seen (coatV v j b k) (-6) k = some j)) 60
theorem coatV_succ (v : Wv) (j b k : Nat) : coatV v j b (k + 1) = if seen (coatV v j b k) (-6) k = some j then vset (coatV v j b k) (98 + 60 * j + k) (min (cv (coatV v j b k) j k + b) 99) else coatV v j b k := rfl
theorem coatV_0 (v : Wv) (j b : Nat) : ∀ k, coatV v j b k 0 = v 0
  | 0 => rfl
  | k + 1 => by
    rw [coatV_succ]
    split
    · rw [v0_setC _ _ (by decide)]; exact coatV_0 v j b k
    · exact coatV_0 v j b k
theorem coatV_ok {v : Wv} (h : wOk v) (j b : Nat) : ∀ k, k ≤ 60 → wOk (coatV v j b k)
  | 0, _ => h
  | k + 1, hk => by
    have hi := coatV_ok h j b k (by omega)
    rw [coatV_succ]
    split
    · next hs => exact hi.setC (by omega) (by omega) (fun _ => hi.lies (seen_lt hs) (by omega) (seen_pos hs))
    · exact hi
def scrV (c : Nat) : Nat → Wv → Nat → Wv
  | 0, v, _ => v
  | j + 1, v, t => if t = 0 then v else scrV c j (vset v (98 + 60 * j + c) (cv v j c - min (cv v j c) t)) (t - min (cv v j c) t)
def scrN (c : Nat) : Nat → Wv → Nat → Nat
  | 0, _, _ => 0
  | j + 1, v, t => if t = 0 then 0 else (if 0 < min (cv v j c) t ∧ cv v j c - min (cv v j c) t = 0 then 1 else 0) + scrN c j (vset v (98 + 60 * j + c) (cv v j c - min (cv v j c) t)) (t - min (cv v j c) t)
theorem scrV_succ (c j : Nat) (v : Wv) (t : Nat) : scrV c (j + 1) v t = if t = 0 then v else scrV c j (vset v (98 + 60 * j + c) (cv v j c - min (cv v j c) t)) (t - min (cv v j c) t) := rfl
theorem scrN_succ (c j : Nat) (v : Wv) (t : Nat) : scrN c (j + 1) v t = if t = 0 then 0 else (if 0 < min (cv v j c) t ∧ cv v j c - min (cv v j c) t = 0 then 1 else 0) + scrN c j (vset v (98 + 60 * j + c) (cv v j c - min (cv v j c) t)) (t - min (cv v j c) t) := rfl
theorem scrV_z (c : Nat) (v : Wv) : ∀ n, scrV c n v 0 = v
  | 0 => rfl
  | n + 1 => by rw [scrV_succ, if_pos rfl]
theorem scrN_z (c : Nat) (v : Wv) : ∀ n, scrN c n v 0 = 0
  | 0 => rfl
  | n + 1 => by rw [scrN_succ, if_pos rfl]
/-- a cell under t days of sun, from the poster j down -/
def fadV (c : Nat) : Nat → Wv → Nat → Wv
  | 0, v, _ => v
  | j + 1, v, t => if t = 0 then v else if t < dtc (cv v j c) (sv v (c % 10)) then vset v (98 + 60 * j + c) (cv v j c - t * sv v (c % 10)) else if 0 < dtc (cv v j c) (sv v (c % 10)) then fadV c j (vset v (98 + 60 * j + c) 0) (t - dtc (cv v j c) (sv v (c % 10))) else fadV c j v t
def fadN (c : Nat) : Nat → Wv → Nat → Nat
  | 0, _, _ => 0
  | j + 1, v, t => if t = 0 then 0 else if t < dtc (cv v j c) (sv v (c % 10)) then 0 else if 0 < dtc (cv v j c) (sv v (c % 10)) then 1 + fadN c j (vset v (98 + 60 * j + c) 0) (t - dtc (cv v j c) (sv v (c % 10))) else fadN c j v t
theorem fadV_succ (c j : Nat) (v : Wv) (t : Nat) : fadV c (j + 1) v t = if t = 0 then v else if t < dtc (cv v j c) (sv v (c % 10)) then vset v (98 + 60 * j + c) (cv v j c - t * sv v (c % 10)) else if 0 < dtc (cv v j c) (sv v (c % 10)) then fadV c j (vset v (98 + 60 * j + c) 0) (t - dtc (cv v j c) (sv v (c % 10))) else fadV c j v t := rfl
theorem fadN_succ (c j : Nat) (v : Wv) (t : Nat) : fadN c (j + 1) v t = if t = 0 then 0 else if t < dtc (cv v j c) (sv v (c % 10)) then 0 else if 0 < dtc (cv v j c) (sv v (c % 10)) then 1 + fadN c j (vset v (98 + 60 * j + c) 0) (t - dtc (cv v j c) (sv v (c % 10))) else fadN c j v t := rfl
theorem fadV_z (c : Nat) (v : Wv) : ∀ n, fadV c n v 0 = v
  | 0 => rfl
  | n + 1 => by rw [fadV_succ, if_pos rfl]
theorem fadN_z (c : Nat) (v : Wv) : ∀ n, fadN c n v 0 = 0
  | 0 => rfl
  | n + 1 => by rw [fadN_succ, if_pos rfl]
theorem dtc_gt {x u t : Nat} (h : t < dtc x u) : t * u ≤ x := by
  unfold dtc at h
  split at h
  · omega
  · split at h
    · next hu =>
      have h1 := (Nat.le_div_iff_mul_le hu).mp (show t + 1 ≤ (x + u - 1) / u from h)
      rw [Nat.add_mul, Nat.one_mul] at h1
      omega
    · next hu =>
      have : u = 0 := by omega
      subst this; omega
/-- a wall behind t days, cell after cell -/
def fadA (v : Wv) (t : Nat) : Nat → Wv
  | 0 => v
  | k + 1 => fadV k (v 0) (fadA v t k) t
def fadS (v : Wv) (t : Nat) : Nat := zsum (fun k => fadN k (v 0) (fadA v t k) t) 60
theorem fadV_keep (c : Nat) (hc : c < 60) : ∀ (n : Nat) (v : Wv) (t : Nat), wOk v → n ≤ v 0 → wOk (fadV c n v t) ∧ (∀ u, u < 14 → fadV c n v t u = v u)
  | 0, v, t, h, _ => ⟨h, fun _ _ => rfl⟩
  | j + 1, v, t, h, hn => by
    rw [fadV_succ]
    split
    · exact ⟨h, fun _ _ => rfl⟩
    · split
      · exact ⟨h.decC (by omega) hc (Nat.sub_le _ _), fun u hu => v0_setC v _ hu⟩
      · split
        · have h1 := h.decC (x := 0) (show j < v 0 by omega) hc (Nat.zero_le _)
          have h2 := fadV_keep c hc j _ (t - dtc (cv v j c) (sv v (c % 10))) h1 (by rw [v0_setC v _ (by decide)]; omega)
          exact ⟨h2.1, fun u hu => (h2.2 u hu).trans (v0_setC v _ hu)⟩
        · exact fadV_keep c hc j v t h (by omega)
theorem fadA_keep {v : Wv} (h : wOk v) (t : Nat) : ∀ k, k ≤ 60 → wOk (fadA v t k) ∧ (∀ u, u < 14 → fadA v t k u = v u)
  | 0, _ => ⟨h, fun _ _ => rfl⟩
  | k + 1, hk => by
    have h1 := fadA_keep h t k (by omega)
    have h2 := fadV_keep k (by omega) (v 0) (fadA v t k) t h1.1 (by rw [h1.2 0 (by decide)]; exact Nat.le_refl _)
    exact ⟨h2.1, fun u hu => (h2.2 u hu).trans (h1.2 u hu)⟩

set_option maxHeartbeats 4000000 in
set_option maxRecDepth 100000 in
theorem c_X4_sellAt (l : Launch) (G : zG) (B0 : Nat) (M : Mm) (w : Nat) (r : Nat → Nat) (v : Wv) (hW : WlR G w r v M) (hr : rOk r) (hv : wOk v) (hBw : B0 ≤ w) (c pu : Nat) (hc : c < 60) (hpu : pu ≤ 999) : zMet l yX4_sellAt cX4_sellAt 5 (some .boolean) 3 0 0 G B0 M [.ref w, .int (nI c), .int (nI pu)] (some (.int (zb (sells v c pu)))) (fun M1 => WlR G w r (sellV v c pu) M1 ∧ ∀ q, (q < w ∨ w + 27 ≤ q) → M1 q = M q) := by
  refine z_met RX4 [(0, .ref w), (1, .int (nI c)), (2, .int (nI pu))] (by decide) rfl (Nat.le_of_ble_eq_true rfl) rfl ?_
  intro pg ev s m below meth cd ls hE hin hB0 hH hl
  have hx := hE.1
  have hb := hE.2.1
  have hn := hv.1
  have hF : ∀ q, (q < w ∨ w + 27 ≤ q) → M q = M q := fun _ _ => rfl
  refine z_gen B0 (fun H locs hH hS => ?_) hH
  refine lv_aload_n hx hb dX4_sellAt_0 rfl (lv_at hl 0 rfl) ?_
  refine lv_iload_n hx hb dX4_sellAt_1 rfl (lv_at hl 1 rfl) ?_
  refine z_callV (rest := []) (st2 := [.int (oI (seen v (-6) c))]) hE hH hS hB0 hl ca_X4_seenAt mkX4_56 (c_X4_seenAt l G B0 M w r v hW hr hv c (by omega)) hW.1 rfl rfl rfl rfl rfl ⟨Nat.le_of_ble_eq_true rfl, Nat.le_of_ble_eq_true rfl⟩ (Nat.le_of_ble_eq_true rfl) ⟨Nat.le_refl _, Nat.le_refl _⟩ dX4_sellAt_2 (fun H locs M1 hH hp hS => ?_)
  subst hp
  refine lv_istore_n (lv' := [(3, .int (oI (seen v (-6) c))), (0, .ref w), (1, .int (nI c)), (2, .int (nI pu))]) hx hb dX4_sellAt_5 rfl hl (by decide) rfl (fun ls hl => ?_)
  refine lv_iload_n hx hb dX4_sellAt_6 rfl (lv_at hl 0 rfl) ?_
  refine lv_bipush (v := (-6)) hx hb dX4_sellAt_7 (by decide) ?_
  refine o_cmp_eq (tgt := 25) hx hb (seen_ob hv) dX4_sellAt_9 (by decide) (fun h1 => ?_) (fun j2 h1 => ?_)
  · refine n_iconst hx hb 0 dX4_sellAt_25 (by decide) ?_
    exact z_zret hE hH hS (by rw [show sells v c pu = false from by simp [sells, prc, *]; try omega]; rfl) ⟨by simp only [sellV, h1, Option.elim]; first | exact hW | (rw [if_neg (by omega)]; exact hW) | (rw [if_pos (by omega)]; exact hW), hF⟩ dX4_sellAt_26
  · rw [h1] at hl
    replace hl : lv_has ls 5 [(3, .int (nI j2)), (0, .ref w), (1, .int (nI c)), (2, .int (nI pu))] := hl
    have j2_lt := seen_lt h1
    have j2_pos := seen_pos h1
    have hrj := hr.1 j2 (by omega)
    refine lv_aload_n hx hb dX4_sellAt_12 rfl (lv_at hl 1 rfl) ?_
    refine z_get (T := TX4) (v := .ref (w + 1)) hE hH hW.1 rfl uw_X4 0 (by decide) fkX4_11 rfl dX4_sellAt_13 ?_
    refine lv_iload_n hx hb dX4_sellAt_16 rfl (lv_at hl 0 rfl) ?_
    refine z_aald hE hH hW.2.1 rfl (k := j2) (by omega) (by decide) dX4_sellAt_17 ?_
    have q3 := hv.price (j := j2) (by omega)
    refine z_get (T := TX3) (v := .int (nI (pv v j2 4))) hE hH (hW.2.2.2.2 j2 (by omega)).1 rfl uw_X3 4 (by decide) fkX4_66 rfl dX4_sellAt_18 ?_
    refine lv_iload_n hx hb dX4_sellAt_21 rfl (lv_at hl 3 rfl) ?_
    refine n_cmp_le (tgt := 27) hx hb (by omega) (by omega) dX4_sellAt_22 (by decide) (fun h4 => ?_) (fun h4 => ?_)
    · refine lv_aload_n hx hb dX4_sellAt_27 rfl (lv_at hl 1 rfl) ?_
      refine z_get (T := TX4) (v := .ref (w + 1)) hE hH hW.1 rfl uw_X4 0 (by decide) fkX4_11 rfl dX4_sellAt_28 ?_
      refine lv_iload_n hx hb dX4_sellAt_31 rfl (lv_at hl 0 rfl) ?_
      refine z_aald hE hH hW.2.1 rfl (k := j2) (by omega) (by decide) dX4_sellAt_32 ?_
      have q5 := hv.price (j := j2) (by omega)
      refine z_get (T := TX3) (v := .int (nI (pv v j2 4))) hE hH (hW.2.2.2.2 j2 (by omega)).1 rfl uw_X3 4 (by decide) fkX4_66 rfl dX4_sellAt_33 ?_
      refine lv_istore (lv' := [(4, .int (nI (pv v j2 4))), (3, .int (nI j2)), (0, .ref w), (1, .int (nI c)), (2, .int (nI pu))]) hx hb dX4_sellAt_36 hl (by decide) rfl (fun ls hl => ?_)
      refine lv_aload_n hx hb dX4_sellAt_38 rfl (lv_at hl 2 rfl) ?_
      refine z_get (T := TX4) (v := .ref (w + 1)) hE hH hW.1 rfl uw_X4 0 (by decide) fkX4_11 rfl dX4_sellAt_39 ?_
      refine lv_iload_n hx hb dX4_sellAt_42 rfl (lv_at hl 1 rfl) ?_
      refine z_aald hE hH hW.2.1 rfl (k := j2) (by omega) (by decide) dX4_sellAt_43 ?_
      refine lv_dup hx hb dX4_sellAt_44 rfl ?_
      refine z_get (T := TX3) (v := .int (nI (pv v j2 5))) hE hH (hW.2.2.2.2 j2 (by omega)).1 rfl uw_X3 5 (by decide) fkX4_69 rfl dX4_sellAt_45 ?_
      refine n_iconst hx hb 1 dX4_sellAt_48 (by decide) ?_
      refine n_iadd hx hb dX4_sellAt_49 ?_
      refine z_put (T := TX3) hE hH hS (hW.2.2.2.2 j2 (by omega)).1 rfl uw_X3 tyX3 tyX3_ok nmX3 5 (by decide) fkX4_69 rfl rfl rfl (Nat.le_of_ble_eq_true rfl) (by omega) dX4_sellAt_50 (fun H locs M9 hH hS e7 o8 => ?_)
      have q10 := hr.1 j2 (by omega)
      have hW11 := WlR.setP (j := j2) (k := 5) hr (by omega) hW (by omega) (by decide) e7 o8
      have z12 : (vset v (14 + 7 * j2 + 5) ((pv v j2 5) + 1)) 0 = v 0 := fset_ne _ _ (by omega)
      have hF13 := fun q hq => (o8 q (by omega)).trans (hF q hq)
      refine lv_aload_n hx hb dX4_sellAt_53 rfl (lv_at hl 2 rfl) ?_
      refine z_get (T := TX4) (v := .ref (w + 1)) hE hH hW11.1 rfl uw_X4 0 (by decide) fkX4_11 rfl dX4_sellAt_54 ?_
      refine lv_iload_n hx hb dX4_sellAt_57 rfl (lv_at hl 1 rfl) ?_
      refine z_aald hE hH hW11.2.1 rfl (k := j2) (by omega) (by decide) dX4_sellAt_58 ?_
      refine lv_dup hx hb dX4_sellAt_59 rfl ?_
      refine z_get (T := TX3) (v := .int (nI (pv (vset v (14 + 7 * j2 + 5) ((pv v j2 5) + 1)) j2 6))) hE hH (hW11.2.2.2.2 j2 (by omega)).1 rfl uw_X3 6 (by decide) fkX4_70 rfl dX4_sellAt_60 ?_
      refine lv_iload hx hb dX4_sellAt_63 (lv_at hl 0 rfl) ?_
      refine n_iadd hx hb dX4_sellAt_65 ?_
      refine z_put (T := TX3) hE hH hS (hW11.2.2.2.2 j2 (by omega)).1 rfl uw_X3 tyX3 tyX3_ok nmX3 6 (by decide) fkX4_70 rfl rfl rfl (Nat.le_of_ble_eq_true rfl) (by omega) dX4_sellAt_66 (fun H locs M17 hH hS e15 o16 => ?_)
      have q18 := hr.1 j2 (by omega)
      have hW19 := WlR.setP (j := j2) (k := 6) hr (by omega) hW11 (by omega) (by decide) e15 o16
      have z20 : (vset (vset v (14 + 7 * j2 + 5) ((pv v j2 5) + 1)) (14 + 7 * j2 + 6) ((pv (vset v (14 + 7 * j2 + 5) ((pv v j2 5) + 1)) j2 6) + (pv v j2 4))) 0 = (vset v (14 + 7 * j2 + 5) ((pv v j2 5) + 1)) 0 := fset_ne _ _ (by omega)
      have hF21 := fun q hq => (o16 q (by omega)).trans (hF13 q hq)
      refine lv_aload_n hx hb dX4_sellAt_69 rfl (lv_at hl 2 rfl) ?_
      refine lv_dup hx hb dX4_sellAt_70 rfl ?_
      refine z_get (T := TX4) (v := .int (nI ((vset (vset v (14 + 7 * j2 + 5) ((pv v j2 5) + 1)) (14 + 7 * j2 + 6) ((pv (vset v (14 + 7 * j2 + 5) ((pv v j2 5) + 1)) j2 6) + (pv v j2 4))) 2))) hE hH hW19.1 rfl uw_X4 4 (by decide) fkX4_39 rfl dX4_sellAt_71 ?_
      refine n_iconst hx hb 1 dX4_sellAt_74 (by decide) ?_
      refine n_iadd hx hb dX4_sellAt_75 ?_
      refine z_put (T := TX4) hE hH hS hW19.1 rfl uw_X4 tyX4 tyX4_ok nmX4 4 (by decide) fkX4_39 rfl rfl rfl (Nat.le_of_ble_eq_true rfl) (by omega) dX4_sellAt_76 (fun H locs M24 hH hS e22 o23 => ?_)
      have hW25 := WlR.setS (i := 2) hW19 (by decide) e22 o23
      have z26 : (vset (vset (vset v (14 + 7 * j2 + 5) ((pv v j2 5) + 1)) (14 + 7 * j2 + 6) ((pv (vset v (14 + 7 * j2 + 5) ((pv v j2 5) + 1)) j2 6) + (pv v j2 4))) 2 (((vset (vset v (14 + 7 * j2 + 5) ((pv v j2 5) + 1)) (14 + 7 * j2 + 6) ((pv (vset v (14 + 7 * j2 + 5) ((pv v j2 5) + 1)) j2 6) + (pv v j2 4))) 2) + 1)) 0 = (vset (vset v (14 + 7 * j2 + 5) ((pv v j2 5) + 1)) (14 + 7 * j2 + 6) ((pv (vset v (14 + 7 * j2 + 5) ((pv v j2 5) + 1)) j2 6) + (pv v j2 4))) 0 := fset_ne _ _ (by omega)
      have hF27 := fun q hq => (o23 q (by omega)).trans (hF21 q hq)
      refine lv_aload_n hx hb dX4_sellAt_79 rfl (lv_at hl 2 rfl) ?_
      refine lv_dup hx hb dX4_sellAt_80 rfl ?_
      refine z_get (T := TX4) (v := .int (nI ((vset (vset (vset v (14 + 7 * j2 + 5) ((pv v j2 5) + 1)) (14 + 7 * j2 + 6) ((pv (vset v (14 + 7 * j2 + 5) ((pv v j2 5) + 1)) j2 6) + (pv v j2 4))) 2 (((vset (vset v (14 + 7 * j2 + 5) ((pv v j2 5) + 1)) (14 + 7 * j2 + 6) ((pv (vset v (14 + 7 * j2 + 5) ((pv v j2 5) + 1)) j2 6) + (pv v j2 4))) 2) + 1)) 3))) hE hH hW25.1 rfl uw_X4 5 (by decide) fkX4_42 rfl dX4_sellAt_81 ?_
      refine lv_iload hx hb dX4_sellAt_84 (lv_at hl 0 rfl) ?_
      refine n_iadd hx hb dX4_sellAt_86 ?_
      refine z_put (T := TX4) hE hH hS hW25.1 rfl uw_X4 tyX4 tyX4_ok nmX4 5 (by decide) fkX4_42 rfl rfl rfl (Nat.le_of_ble_eq_true rfl) (by omega) dX4_sellAt_87 (fun H locs M30 hH hS e28 o29 => ?_)
      have hW31 := WlR.setS (i := 3) hW25 (by decide) e28 o29
      have z32 : (vset (vset (vset (vset v (14 + 7 * j2 + 5) ((pv v j2 5) + 1)) (14 + 7 * j2 + 6) ((pv (vset v (14 + 7 * j2 + 5) ((pv v j2 5) + 1)) j2 6) + (pv v j2 4))) 2 (((vset (vset v (14 + 7 * j2 + 5) ((pv v j2 5) + 1)) (14 + 7 * j2 + 6) ((pv (vset v (14 + 7 * j2 + 5) ((pv v j2 5) + 1)) j2 6) + (pv v j2 4))) 2) + 1)) 3 (((vset (vset (vset v (14 + 7 * j2 + 5) ((pv v j2 5) + 1)) (14 + 7 * j2 + 6) ((pv (vset v (14 + 7 * j2 + 5) ((pv v j2 5) + 1)) j2 6) + (pv v j2 4))) 2 (((vset (vset v (14 + 7 * j2 + 5) ((pv v j2 5) + 1)) (14 + 7 * j2 + 6) ((pv (vset v (14 + 7 * j2 + 5) ((pv v j2 5) + 1)) j2 6) + (pv v j2 4))) 2) + 1)) 3) + (pv v j2 4))) 0 = (vset (vset (vset v (14 + 7 * j2 + 5) ((pv v j2 5) + 1)) (14 + 7 * j2 + 6) ((pv (vset v (14 + 7 * j2 + 5) ((pv v j2 5) + 1)) j2 6) + (pv v j2 4))) 2 (((vset (vset v (14 + 7 * j2 + 5) ((pv v j2 5) + 1)) (14 + 7 * j2 + 6) ((pv (vset v (14 + 7 * j2 + 5) ((pv v j2 5) + 1)) j2 6) + (pv v j2 4))) 2) + 1)) 0 := fset_ne _ _ (by omega)
      have hF33 := fun q hq => (o29 q (by omega)).trans (hF27 q hq)
      refine n_iconst hx hb 1 dX4_sellAt_90 (by decide) ?_
      exact z_zret hE hH hS (by rw [show sells v c pu = true from by simp [sells, prc, h1, *]]; rfl) ⟨by simp only [sellV, h1, Option.elim]; first | exact hW31 | (rw [if_neg (by omega)]; exact hW31) | (rw [if_pos (by omega)]; exact hW31), hF33⟩ dX4_sellAt_91
    · refine n_iconst hx hb 0 dX4_sellAt_25 (by decide) ?_
      exact z_zret hE hH hS (by rw [show sells v c pu = false from by simp [sells, prc, *]; try omega]; rfl) ⟨by simp only [sellV, h1, Option.elim]; first | exact hW | (rw [if_neg (by omega)]; exact hW) | (rw [if_pos (by omega)]; exact hW), hF⟩ dX4_sellAt_26

set_option maxHeartbeats 4000000 in
set_option maxRecDepth 100000 in
theorem c_X4_coatSeenCells (l : Launch) (G : zG) (B0 : Nat) (M : Mm) (w : Nat) (r : Nat → Nat) (v : Wv) (hW : WlR G w r v M) (hr : rOk r) (hv : wOk v) (hBw : B0 ≤ w) (j b : Nat) (hj : j < v 0) (hb99 : b ≤ 99) : zMet l yX4_coatSeenCells cX4_coatSeenCells 6 (some .int) 3 0 0 G B0 M [.ref w, .int (nI j), .int (nI b)] (some (.int (nI (coatN v j b)))) (fun M1 => WlR G w r (coatV v j b 60) M1 ∧ ∀ q, (q < w ∨ w + 27 ≤ q) → M1 q = M q) := by
  refine z_met RX4 [(0, .ref w), (1, .int (nI j)), (2, .int (nI b))] (by decide) rfl (Nat.le_of_ble_eq_true rfl) rfl ?_
  intro pg ev s m below meth cd ls hE hin hB0 hH hl
  have hx := hE.1
  have hb := hE.2.1
  have hn := hv.1
  have hF : ∀ q, (q < w ∨ w + 27 ≤ q) → M q = M q := fun _ _ => rfl
  refine z_gen B0 (fun H locs hH hS => ?_) hH
  refine n_iconst hx hb 0 dX4_coatSeenCells_0 (by decide) ?_
  refine lv_istore_n (lv' := [(3, .int (nI 0)), (0, .ref w), (1, .int (nI j)), (2, .int (nI b))]) hx hb dX4_coatSeenCells_1 rfl hl (by decide) rfl (fun ls hl => ?_)
  refine lv_aload_n hx hb dX4_coatSeenCells_2 rfl (lv_at hl 1 rfl) ?_
  refine z_get (T := TX4) (v := .ref (w + 1)) hE hH hW.1 rfl uw_X4 0 (by decide) fkX4_11 rfl dX4_coatSeenCells_3 ?_
  refine lv_iload_n hx hb dX4_coatSeenCells_6 rfl (lv_at hl 2 rfl) ?_
  refine z_aald hE hH hW.2.1 rfl (k := j) (by omega) (by decide) dX4_coatSeenCells_7 ?_
  refine z_get (T := TX3) (v := .ref (w + 2 + 2 * r j + 1)) hE hH (hW.2.2.2.2 j (by omega)).1 rfl uw_X3 7 (by decide) fkX4_53 rfl dX4_coatSeenCells_8 ?_
  refine lv_astore (lv' := [(4, .ref (w + 2 + 2 * r j + 1)), (3, .int (nI 0)), (0, .ref w), (1, .int (nI j)), (2, .int (nI b))]) hx hb dX4_coatSeenCells_11 hl (by decide) rfl (fun ls hl => ?_)
  refine n_iconst hx hb 0 dX4_coatSeenCells_13 (by decide) ?_
  refine lv_istore (lv' := [(5, .int (nI 0)), (4, .ref (w + 2 + 2 * r j + 1)), (3, .int (nI 0)), (0, .ref w), (1, .int (nI j)), (2, .int (nI b))]) hx hb dX4_coatSeenCells_14 hl (by decide) rfl (fun ls hl => ?_)
  have L16 : ∀ (dd : Nat) (k : Nat) (a : Nat) (u : Wv) (M1 : Mm), 60 < k + dd → (k ≤ 60) → (WlR G w r u M1) → (wOk u) → (∀ q, (q < w ∨ w + 27 ≤ q) → M1 q = M q) → (u = coatV v j b k) → (a = zcnt (fun k => decide (seen (coatV v j b k) (-6) k = some j)) k) → ∀ (H : Heap) (locs : List Loc), zH G M1 H → zS 0 B0 s.heap H locs → ∀ (ls : Array Slot), lv_has ls 6 [(0, .ref w), (1, .int (nI j)), (2, .int (nI b)), (3, .int (nI a)), (4, .ref (w + 2 + 2 * r j + 1)), (5, .int (nI k))] → zW pg l ev 3 0 0 s m [.ref w, .int (nI j), .int (nI b)] below meth cd H locs 0 0 G B0 (some (.int (nI (coatN v j b)))) (fun M1 => WlR G w r (coatV v j b 60) M1 ∧ ∀ q, (q < w ∨ w + 27 ≤ q) → M1 q = M q) (F0 m 16 ls []) := by
    intro dd
    induction dd with
    | zero =>
      intro k a u M1 hdd hk hW1 hv1 hF1 hu ha
      exact absurd hdd (by omega)
    | succ dd ih =>
      intro k a u M1 hdd hk hW1 hv1 hF1 hu ha H locs hH hS ls hl
      have hn1 := hv1.1
      have hu0 : u 0 = v 0 := by rw [hu]; exact coatV_0 v j b k
      refine lv_iload hx hb dX4_coatSeenCells_16 (lv_at hl 5 rfl) ?_
      refine n_bipush hx hb 60 dX4_coatSeenCells_18 (by decide) ?_
      refine n_cmp_ge (tgt := 59) hx hb (by omega) (by decide) dX4_coatSeenCells_20 (by decide) (fun h1 => ?_) (fun h1 => ?_)
      · refine lv_iload_n hx hb dX4_coatSeenCells_59 rfl (lv_at hl 3 rfl) ?_
        exact z_iret hE hH hS (by have hkk : k = 60 := (by omega); subst hkk; rw [ha]; first | done | rfl) ⟨by have hkk : k = 60 := (by omega); subst hkk; rw [← hu]; exact hW1, hF1⟩ dX4_coatSeenCells_60
      · refine lv_aload_n hx hb dX4_coatSeenCells_23 rfl (lv_at hl 0 rfl) ?_
        refine lv_iload hx hb dX4_coatSeenCells_24 (lv_at hl 5 rfl) ?_
        refine z_callV (rest := []) (st2 := [.int (oI (seen u (-6) k))]) hE hH hS hB0 hl ca_X4_seenAt mkX4_56 (c_X4_seenAt l G B0 M1 w r u hW1 hr hv1 k (by omega)) hW1.1 rfl rfl rfl rfl rfl ⟨Nat.le_of_ble_eq_true rfl, Nat.le_of_ble_eq_true rfl⟩ (Nat.le_of_ble_eq_true rfl) ⟨Nat.le_refl _, Nat.le_refl _⟩ dX4_coatSeenCells_26 (fun H locs M1 hH hp hS => ?_)
        subst hp
        refine lv_iload_n hx hb dX4_coatSeenCells_29 rfl (lv_at hl 1 rfl) ?_
        refine on_cmp_ne (tgt := 53) hx hb (seen_ob hv1) (by omega) dX4_coatSeenCells_30 (by decide) (fun h2 => ?_) (fun h2 => ?_)
        · refine lv_iinc (v := (nI (k + 1))) (lv' := [(5, .int (nI (k + 1))), (0, .ref w), (1, .int (nI j)), (2, .int (nI b)), (3, .int (nI a)), (4, .ref (w + 2 + 2 * r j + 1))]) hx hb dX4_coatSeenCells_53 hl (k := 5) rfl (nI_inc _) (by decide) rfl (fun ls hl => ?_)
          refine lv_goto (tgt := 16) hx hb dX4_coatSeenCells_56 (by decide) ?_
          exact ih  (k + 1) a u M1 (by omega) (by omega) hW1 hv1 hF1 (by rw [coatV_succ, ← hu]; simp [h2]) (by unfold zcnt; rw [← ha, ← hu]; simp [h2]) _ _ hH hS _ (lv_sub hl [1, 2, 3, 4, 5, 0] rfl)
        · refine lv_aload hx hb dX4_coatSeenCells_33 (lv_at hl 4 rfl) ?_
          refine lv_iload hx hb dX4_coatSeenCells_35 (lv_at hl 5 rfl) ?_
          refine lv_aload hx hb dX4_coatSeenCells_37 (lv_at hl 4 rfl) ?_
          refine lv_iload hx hb dX4_coatSeenCells_39 (lv_at hl 5 rfl) ?_
          refine z_iald hE hH (hW1.2.2.2.2 j (by omega)).2 (k := k) (by omega) (by decide) dX4_coatSeenCells_41 ?_
          have q3 := hv1.coat (j := j) (c := k) (by omega) (by omega)
          refine lv_iload_n hx hb dX4_coatSeenCells_42 rfl (lv_at hl 2 rfl) ?_
          refine n_iadd hx hb dX4_coatSeenCells_43 ?_
          refine n_bipush hx hb 99 dX4_coatSeenCells_44 (by decide) ?_
          refine z_min (rest := [.int (nI k), .ref (w + 2 + 2 * r j + 1)]) hE hl mkX4_60 (by omega) (by decide) ⟨Nat.le_of_ble_eq_true rfl, Nat.le_of_ble_eq_true rfl⟩ ⟨Nat.le_refl _, Nat.le_refl _⟩ dX4_coatSeenCells_46 ?_
          refine z_iast hE hH hS (hW1.2.2.2.2 j (by omega)).2 (k := k) (by omega) (by decide) (by omega) dX4_coatSeenCells_49 (fun H locs M6 hH hS e4 o5 => ?_)
          have q7 := hr.1 j (by omega)
          have hW8 := WlR.setC (j := j) (c := k) hr (by omega) hW1 (by omega) (by omega) e4 o5
          have q9 := cv_setC_self u (j := j) (c := k) (min ((cv u j k) + b) 99)
          have hv10 : wOk (vset u (98 + 60 * j + k) (min ((cv u j k) + b) 99)) := (hv1.setC (by omega) (by omega) (fun _ => hv1.lies (by omega) (by omega) (seen_pos h2)))
          have z11 : (vset u (98 + 60 * j + k) (min ((cv u j k) + b) 99)) 0 = u 0 := fset_ne _ _ (by omega)
          have hF12 := fun q hq => (o5 q (by omega)).trans (hF1 q hq)
          refine lv_iinc (v := (nI (a + 1))) (lv' := [(3, .int (nI (a + 1))), (0, .ref w), (1, .int (nI j)), (2, .int (nI b)), (4, .ref (w + 2 + 2 * r j + 1)), (5, .int (nI k))]) hx hb dX4_coatSeenCells_50 hl (k := 3) rfl (nI_inc _) (by decide) rfl (fun ls hl => ?_)
          refine lv_iinc (v := (nI (k + 1))) (lv' := [(5, .int (nI (k + 1))), (3, .int (nI (a + 1))), (0, .ref w), (1, .int (nI j)), (2, .int (nI b)), (4, .ref (w + 2 + 2 * r j + 1))]) hx hb dX4_coatSeenCells_53 hl (k := 5) rfl (nI_inc _) (by decide) rfl (fun ls hl => ?_)
          refine lv_goto (tgt := 16) hx hb dX4_coatSeenCells_56 (by decide) ?_
          exact ih  (k + 1) (a + 1) (vset u (98 + 60 * j + k) (min ((cv u j k) + b) 99)) M6 (by omega) (by omega) hW8 hv10 hF12 (by rw [coatV_succ, ← hu]; simp [h2]) (by unfold zcnt; rw [← ha, ← hu]; simp [h2]) _ _ hH hS _ (lv_sub hl [2, 3, 4, 1, 5, 0] rfl)
  exact L16 61 0 0 v M (by omega) (by omega) hW hv hF rfl rfl _ _ hH hS _ (lv_sub hl [3, 4, 5, 2, 1, 0] rfl)

set_option maxHeartbeats 4000000 in
set_option maxRecDepth 100000 in
theorem c_X4_scrapeAt (l : Launch) (G : zG) (B0 : Nat) (M : Mm) (w : Nat) (r : Nat → Nat) (v : Wv) (hW : WlR G w r v M) (hr : rOk r) (hv : wOk v) (hBw : B0 ≤ w) (c b : Nat) (hc : c < 60) (hb3 : b ≤ 300) : zMet l yX4_scrapeAt cX4_scrapeAt 8 (some .int) 1 0 0 G B0 M [.ref w, .int (nI c), .int (nI b)] (some (.int (nI (scrN c (v 0) v b)))) (fun M1 => WlR G w r (scrV c (v 0) v b) M1 ∧ ∀ q, (q < w ∨ w + 27 ≤ q) → M1 q = M q) := by
  refine z_met RX4 [(0, .ref w), (1, .int (nI c)), (2, .int (nI b))] (by decide) rfl (Nat.le_of_ble_eq_true rfl) rfl ?_
  intro pg ev s m below meth cd ls hE hin hB0 hH hl
  have hx := hE.1
  have hb := hE.2.1
  have hn := hv.1
  have hF : ∀ q, (q < w ∨ w + 27 ≤ q) → M q = M q := fun _ _ => rfl
  refine z_gen B0 (fun H locs hH hS => ?_) hH
  refine n_iconst hx hb 0 dX4_scrapeAt_0 (by decide) ?_
  refine lv_istore_n (lv' := [(3, .int (nI 0)), (0, .ref w), (1, .int (nI c)), (2, .int (nI b))]) hx hb dX4_scrapeAt_1 rfl hl (by decide) rfl (fun ls hl => ?_)
  refine lv_iload_n hx hb dX4_scrapeAt_2 rfl (lv_at hl 3 rfl) ?_
  refine lv_istore (lv' := [(4, .int (nI b)), (3, .int (nI 0)), (0, .ref w), (1, .int (nI c)), (2, .int (nI b))]) hx hb dX4_scrapeAt_3 hl (by decide) rfl (fun ls hl => ?_)
  refine lv_aload_n hx hb dX4_scrapeAt_5 rfl (lv_at hl 2 rfl) ?_
  refine z_get (T := TX4) (v := .int (nI (v 0))) hE hH hW.1 rfl uw_X4 1 (by decide) fkX4_22 rfl dX4_scrapeAt_6 ?_
  refine n_iconst hx hb 1 dX4_scrapeAt_9 (by decide) ?_
  refine lv_isub hx hb dX4_scrapeAt_10 ?_
  refine lv_istore (lv' := [(5, .int (nI (v 0) - nI 1)), (4, .int (nI b)), (3, .int (nI 0)), (0, .ref w), (1, .int (nI c)), (2, .int (nI b))]) hx hb dX4_scrapeAt_11 hl (by decide) rfl (fun ls hl => ?_)
  have L13 : ∀ (dd : Nat) (n : Nat) (t : Nat) (a : Nat) (u : Wv) (M1 : Mm), n < dd → (WlR G w r u M1) → (wOk u) → (∀ q, (q < w ∨ w + 27 ≤ q) → M1 q = M q) → (u 0 = v 0) → (n ≤ v 0) → (t ≤ 300) → (scrV c n u t = scrV c (v 0) v b) → (a + scrN c n u t = scrN c (v 0) v b) → ∀ (H : Heap) (locs : List Loc), zH G M1 H → zS 0 B0 s.heap H locs → ∀ (ls : Array Slot), lv_has ls 8 [(0, .ref w), (1, .int (nI c)), (2, .int (nI b)), (3, .int (nI a)), (4, .int (nI t)), (5, .int (nI n - nI 1))] → zW pg l ev 1 0 0 s m [.ref w, .int (nI c), .int (nI b)] below meth cd H locs 0 0 G B0 (some (.int (nI (scrN c (v 0) v b)))) (fun M1 => WlR G w r (scrV c (v 0) v b) M1 ∧ ∀ q, (q < w ∨ w + 27 ≤ q) → M1 q = M q) (F0 m 13 ls []) := by
    intro dd
    induction dd with
    | zero =>
      intro n t a u M1 hdd hW1 hv1 hF1 hu0 hnn ht hs ha
      exact absurd hdd (by omega)
    | succ dd ih =>
      intro n t a u M1 hdd hW1 hv1 hF1 hu0 hnn ht hs ha H locs hH hS ls hl
      have hn1 := hv1.1
      refine lv_iload hx hb dX4_scrapeAt_13 (lv_at hl 5 rfl) ?_
      refine n_down_lt (tgt := 83) hx hb (by omega) dX4_scrapeAt_15 (by decide) (fun h1 => ?_) (fun j2 h1 => ?_)
      · refine lv_iload_n hx hb dX4_scrapeAt_83 rfl (lv_at hl 3 rfl) ?_
        exact z_iret hE hH hS (by rw [← ha]; first | (rw [show t = 0 by omega, scrN_z]; rfl) | (rw [show n = 0 by omega]; rfl)) ⟨by rw [← hs]; first | (rw [show t = 0 by omega, scrV_z]; exact hW1) | (rw [show n = 0 by omega]; exact hW1), hF1⟩ dX4_scrapeAt_84
      · subst h1
        rw [nI_down] at hl
        refine lv_iload hx hb dX4_scrapeAt_18 (lv_at hl 4 rfl) ?_
        refine n_if_le (tgt := 83) hx hb (by omega) dX4_scrapeAt_20 (by decide) (fun h3 => ?_) (fun h3 => ?_)
        · refine lv_iload_n hx hb dX4_scrapeAt_83 rfl (lv_at hl 3 rfl) ?_
          exact z_iret hE hH hS (by rw [← ha]; first | (rw [show t = 0 by omega, scrN_z]; rfl) | (rw [show n = 0 by omega]; rfl)) ⟨by rw [← hs]; first | (rw [show t = 0 by omega, scrV_z]; exact hW1) | (rw [show n = 0 by omega]; exact hW1), hF1⟩ dX4_scrapeAt_84
        · refine lv_aload_n hx hb dX4_scrapeAt_23 rfl (lv_at hl 0 rfl) ?_
          refine z_get (T := TX4) (v := .ref (w + 1)) hE hH hW1.1 rfl uw_X4 0 (by decide) fkX4_11 rfl dX4_scrapeAt_24 ?_
          refine lv_iload hx hb dX4_scrapeAt_27 (lv_at hl 5 rfl) ?_
          refine z_aald hE hH hW1.2.1 rfl (k := j2) (by omega) (by decide) dX4_scrapeAt_29 ?_
          refine z_get (T := TX3) (v := .ref (w + 2 + 2 * r j2 + 1)) hE hH (hW1.2.2.2.2 j2 (by omega)).1 rfl uw_X3 7 (by decide) fkX4_53 rfl dX4_scrapeAt_30 ?_
          refine lv_astore (lv' := [(6, .ref (w + 2 + 2 * r j2 + 1)), (0, .ref w), (1, .int (nI c)), (2, .int (nI b)), (3, .int (nI a)), (4, .int (nI t)), (5, .int (nI j2))]) hx hb dX4_scrapeAt_33 hl (by decide) rfl (fun ls hl => ?_)
          refine lv_aload hx hb dX4_scrapeAt_35 (lv_at hl 0 rfl) ?_
          refine lv_iload_n hx hb dX4_scrapeAt_37 rfl (lv_at hl 2 rfl) ?_
          refine z_iald hE hH (hW1.2.2.2.2 j2 (by omega)).2 (k := c) (by omega) (by decide) dX4_scrapeAt_38 ?_
          have q4 := hv1.coat (j := j2) (c := c) (by omega) (by omega)
          refine lv_iload hx hb dX4_scrapeAt_39 (lv_at hl 5 rfl) ?_
          refine z_min (rest := []) hE hl mkX4_60 (by omega) (by omega) ⟨Nat.le_of_ble_eq_true rfl, Nat.le_of_ble_eq_true rfl⟩ ⟨Nat.le_refl _, Nat.le_refl _⟩ dX4_scrapeAt_41 ?_
          refine lv_istore (lv' := [(7, .int (nI (min (cv u j2 c) t))), (6, .ref (w + 2 + 2 * r j2 + 1)), (0, .ref w), (1, .int (nI c)), (2, .int (nI b)), (3, .int (nI a)), (4, .int (nI t)), (5, .int (nI j2))]) hx hb dX4_scrapeAt_44 hl (by decide) rfl (fun ls hl => ?_)
          refine lv_aload hx hb dX4_scrapeAt_46 (lv_at hl 1 rfl) ?_
          refine lv_iload_n hx hb dX4_scrapeAt_48 rfl (lv_at hl 3 rfl) ?_
          refine lv_dup2_11 hx hb dX4_scrapeAt_49 rfl rfl ?_
          refine z_iald hE hH (hW1.2.2.2.2 j2 (by omega)).2 (k := c) (by omega) (by decide) dX4_scrapeAt_50 ?_
          have q5 := hv1.coat (j := j2) (c := c) (by omega) (by omega)
          refine lv_iload hx hb dX4_scrapeAt_51 (lv_at hl 0 rfl) ?_
          refine n_isub hx hb (by omega) dX4_scrapeAt_53 ?_
          refine z_iast hE hH hS (hW1.2.2.2.2 j2 (by omega)).2 (k := c) (by omega) (by decide) (by omega) dX4_scrapeAt_54 (fun H locs M8 hH hS e6 o7 => ?_)
          have q9 := hr.1 j2 (by omega)
          have hW10 := WlR.setC (j := j2) (c := c) hr (by omega) hW1 (by omega) (by omega) e6 o7
          have q11 := cv_setC_self u (j := j2) (c := c) ((cv u j2 c) - (min (cv u j2 c) t))
          have hv12 : wOk (vset u (98 + 60 * j2 + c) ((cv u j2 c) - (min (cv u j2 c) t))) := (hv1.decC (by omega) (by omega) (by omega))
          have z13 : (vset u (98 + 60 * j2 + c) ((cv u j2 c) - (min (cv u j2 c) t))) 0 = u 0 := fset_ne _ _ (by omega)
          have hF14 := fun q hq => (o7 q (by omega)).trans (hF1 q hq)
          refine lv_iload hx hb dX4_scrapeAt_55 (lv_at hl 6 rfl) ?_
          refine lv_iload hx hb dX4_scrapeAt_57 (lv_at hl 0 rfl) ?_
          refine n_isub hx hb (by omega) dX4_scrapeAt_59 ?_
          refine lv_istore (lv' := [(4, .int (nI (t - (min (cv u j2 c) t)))), (7, .int (nI (min (cv u j2 c) t))), (6, .ref (w + 2 + 2 * r j2 + 1)), (0, .ref w), (1, .int (nI c)), (2, .int (nI b)), (3, .int (nI a)), (5, .int (nI j2))]) hx hb dX4_scrapeAt_60 hl (by decide) rfl (fun ls hl => ?_)
          refine lv_iload hx hb dX4_scrapeAt_62 (lv_at hl 1 rfl) ?_
          refine n_if_le (tgt := 77) hx hb (by omega) dX4_scrapeAt_64 (by decide) (fun h15 => ?_) (fun h15 => ?_)
          · refine lv_iinc (v := (nI j2 - nI 1)) (lv' := [(5, .int (nI j2 - nI 1)), (4, .int (nI (t - (min (cv u j2 c) t)))), (7, .int (nI (min (cv u j2 c) t))), (6, .ref (w + 2 + 2 * r j2 + 1)), (0, .ref w), (1, .int (nI c)), (2, .int (nI b)), (3, .int (nI a))]) hx hb dX4_scrapeAt_77 hl (k := 7) rfl (nI_dec1 _) (by decide) rfl (fun ls hl => ?_)
            refine lv_goto (tgt := 13) hx hb dX4_scrapeAt_80 (by decide) ?_
            exact ih  j2 (t - (min (cv u j2 c) t)) a (vset u (98 + 60 * j2 + c) ((cv u j2 c) - (min (cv u j2 c) t))) M8 (by omega) hW10 hv12 hF14 (by omega) (by omega) (by omega) (by rw [← hs, scrV_succ, if_neg (by omega)]) (by rw [← ha, scrN_succ, if_neg (by omega)]; (first | rw [if_pos (by omega)] | rw [if_neg (by omega)]); omega) _ _ hH hS _ (lv_sub hl [4, 5, 6, 7, 1, 0] rfl)
          · refine lv_aload hx hb dX4_scrapeAt_67 (lv_at hl 2 rfl) ?_
            refine lv_iload_n hx hb dX4_scrapeAt_69 rfl (lv_at hl 4 rfl) ?_
            refine z_iald hE hH (hW10.2.2.2.2 j2 (by omega)).2 (k := c) (by omega) (by decide) dX4_scrapeAt_70 ?_
            have q16 := hv12.coat (j := j2) (c := c) (by omega) (by omega)
            refine n_if_ne (tgt := 77) hx hb (by omega) dX4_scrapeAt_71 (by decide) (fun h17 => ?_) (fun h17 => ?_)
            · refine lv_iinc (v := (nI j2 - nI 1)) (lv' := [(5, .int (nI j2 - nI 1)), (4, .int (nI (t - (min (cv u j2 c) t)))), (7, .int (nI (min (cv u j2 c) t))), (6, .ref (w + 2 + 2 * r j2 + 1)), (0, .ref w), (1, .int (nI c)), (2, .int (nI b)), (3, .int (nI a))]) hx hb dX4_scrapeAt_77 hl (k := 7) rfl (nI_dec1 _) (by decide) rfl (fun ls hl => ?_)
              refine lv_goto (tgt := 13) hx hb dX4_scrapeAt_80 (by decide) ?_
              exact ih  j2 (t - (min (cv u j2 c) t)) a (vset u (98 + 60 * j2 + c) ((cv u j2 c) - (min (cv u j2 c) t))) M8 (by omega) hW10 hv12 hF14 (by omega) (by omega) (by omega) (by rw [← hs, scrV_succ, if_neg (by omega)]) (by rw [← ha, scrN_succ, if_neg (by omega)]; (first | rw [if_pos (by omega)] | rw [if_neg (by omega)]); omega) _ _ hH hS _ (lv_sub hl [4, 5, 6, 7, 1, 0] rfl)
            · refine lv_iinc (v := (nI (a + 1))) (lv' := [(3, .int (nI (a + 1))), (4, .int (nI (t - (min (cv u j2 c) t)))), (7, .int (nI (min (cv u j2 c) t))), (6, .ref (w + 2 + 2 * r j2 + 1)), (0, .ref w), (1, .int (nI c)), (2, .int (nI b)), (5, .int (nI j2))]) hx hb dX4_scrapeAt_74 hl (k := 6) rfl (nI_inc _) (by decide) rfl (fun ls hl => ?_)
              refine lv_iinc (v := (nI j2 - nI 1)) (lv' := [(5, .int (nI j2 - nI 1)), (3, .int (nI (a + 1))), (4, .int (nI (t - (min (cv u j2 c) t)))), (7, .int (nI (min (cv u j2 c) t))), (6, .ref (w + 2 + 2 * r j2 + 1)), (0, .ref w), (1, .int (nI c)), (2, .int (nI b))]) hx hb dX4_scrapeAt_77 hl (k := 7) rfl (nI_dec1 _) (by decide) rfl (fun ls hl => ?_)
              refine lv_goto (tgt := 13) hx hb dX4_scrapeAt_80 (by decide) ?_
              exact ih  j2 (t - (min (cv u j2 c) t)) (a + 1) (vset u (98 + 60 * j2 + c) ((cv u j2 c) - (min (cv u j2 c) t))) M8 (by omega) hW10 hv12 hF14 (by omega) (by omega) (by omega) (by rw [← hs, scrV_succ, if_neg (by omega)]) (by rw [← ha, scrN_succ, if_neg (by omega)]; (first | rw [if_pos (by omega)] | rw [if_neg (by omega)]); omega) _ _ hH hS _ (lv_sub hl [5, 6, 7, 1, 2, 0] rfl)
  exact L13 (v 0 + 1) (v 0) b 0 v M (by omega) hW hv hF rfl (Nat.le_refl _) (by omega) rfl (Nat.zero_add _) _ _ hH hS _ (lv_sub hl [3, 4, 5, 2, 1, 0] rfl)

set_option maxHeartbeats 4000000 in
set_option maxRecDepth 100000 in
theorem c_X4_fadeAt (l : Launch) (G : zG) (B0 : Nat) (M : Mm) (w : Nat) (r : Nat → Nat) (v : Wv) (hW : WlR G w r v M) (hr : rOk r) (hv : wOk v) (hBw : B0 ≤ w) (c b : Nat) (hc : c < 60) (hb3 : b ≤ 300) : zMet l yX4_fadeAt cX4_fadeAt 8 (some .int) 2 0 0 G B0 M [.ref w, .int (nI c), .int (nI b)] (some (.int (nI (fadN c (v 0) v b)))) (fun M1 => WlR G w r (fadV c (v 0) v b) M1 ∧ ∀ q, (q < w ∨ w + 27 ≤ q) → M1 q = M q) := by
  refine z_met RX4 [(0, .ref w), (1, .int (nI c)), (2, .int (nI b))] (by decide) rfl (Nat.le_of_ble_eq_true rfl) rfl ?_
  intro pg ev s m below meth cd ls hE hin hB0 hH hl
  have hx := hE.1
  have hb := hE.2.1
  have hn := hv.1
  have hF : ∀ q, (q < w ∨ w + 27 ≤ q) → M q = M q := fun _ _ => rfl
  refine z_gen B0 (fun H locs hH hS => ?_) hH
  refine n_iconst hx hb 0 dX4_fadeAt_0 (by decide) ?_
  refine lv_istore_n (lv' := [(3, .int (nI 0)), (0, .ref w), (1, .int (nI c)), (2, .int (nI b))]) hx hb dX4_fadeAt_1 rfl hl (by decide) rfl (fun ls hl => ?_)
  refine lv_iload_n hx hb dX4_fadeAt_2 rfl (lv_at hl 3 rfl) ?_
  refine lv_istore (lv' := [(4, .int (nI b)), (3, .int (nI 0)), (0, .ref w), (1, .int (nI c)), (2, .int (nI b))]) hx hb dX4_fadeAt_3 hl (by decide) rfl (fun ls hl => ?_)
  refine lv_aload_n hx hb dX4_fadeAt_5 rfl (lv_at hl 2 rfl) ?_
  refine z_get (T := TX4) (v := .int (nI (v 0))) hE hH hW.1 rfl uw_X4 1 (by decide) fkX4_22 rfl dX4_fadeAt_6 ?_
  refine n_iconst hx hb 1 dX4_fadeAt_9 (by decide) ?_
  refine lv_isub hx hb dX4_fadeAt_10 ?_
  refine lv_istore (lv' := [(5, .int (nI (v 0) - nI 1)), (4, .int (nI b)), (3, .int (nI 0)), (0, .ref w), (1, .int (nI c)), (2, .int (nI b))]) hx hb dX4_fadeAt_11 hl (by decide) rfl (fun ls hl => ?_)
  have L13 : ∀ (dd : Nat) (n : Nat) (t : Nat) (a : Nat) (u : Wv) (M1 : Mm), n < dd → (WlR G w r u M1) → (wOk u) → (∀ q, (q < w ∨ w + 27 ≤ q) → M1 q = M q) → (u 0 = v 0) → (n ≤ v 0) → (t ≤ 300) → (fadV c n u t = fadV c (v 0) v b) → (a + fadN c n u t = fadN c (v 0) v b) → ∀ (H : Heap) (locs : List Loc), zH G M1 H → zS 0 B0 s.heap H locs → ∀ (ls : Array Slot), lv_has ls 8 [(0, .ref w), (1, .int (nI c)), (2, .int (nI b)), (3, .int (nI a)), (4, .int (nI t)), (5, .int (nI n - nI 1))] → zW pg l ev 2 0 0 s m [.ref w, .int (nI c), .int (nI b)] below meth cd H locs 0 0 G B0 (some (.int (nI (fadN c (v 0) v b)))) (fun M1 => WlR G w r (fadV c (v 0) v b) M1 ∧ ∀ q, (q < w ∨ w + 27 ≤ q) → M1 q = M q) (F0 m 13 ls []) := by
    intro dd
    induction dd with
    | zero =>
      intro n t a u M1 hdd hW1 hv1 hF1 hu0 hnn ht hs ha
      exact absurd hdd (by omega)
    | succ dd ih =>
      intro n t a u M1 hdd hW1 hv1 hF1 hu0 hnn ht hs ha H locs hH hS ls hl
      have hn1 := hv1.1
      refine lv_iload hx hb dX4_fadeAt_13 (lv_at hl 5 rfl) ?_
      refine n_down_lt (tgt := 102) hx hb (by omega) dX4_fadeAt_15 (by decide) (fun h1 => ?_) (fun j2 h1 => ?_)
      · refine lv_iload_n hx hb dX4_fadeAt_102 rfl (lv_at hl 3 rfl) ?_
        exact z_iret hE hH hS (by rw [← ha]; first | (rw [show t = 0 by omega, fadN_z]; rfl) | (rw [show n = 0 by omega]; rfl)) ⟨by rw [← hs]; first | (rw [show t = 0 by omega, fadV_z]; exact hW1) | (rw [show n = 0 by omega]; exact hW1), hF1⟩ dX4_fadeAt_103
      · subst h1
        rw [nI_down] at hl
        refine lv_iload hx hb dX4_fadeAt_18 (lv_at hl 4 rfl) ?_
        refine n_if_le (tgt := 102) hx hb (by omega) dX4_fadeAt_20 (by decide) (fun h3 => ?_) (fun h3 => ?_)
        · refine lv_iload_n hx hb dX4_fadeAt_102 rfl (lv_at hl 3 rfl) ?_
          exact z_iret hE hH hS (by rw [← ha]; first | (rw [show t = 0 by omega, fadN_z]; rfl) | (rw [show n = 0 by omega]; rfl)) ⟨by rw [← hs]; first | (rw [show t = 0 by omega, fadV_z]; exact hW1) | (rw [show n = 0 by omega]; exact hW1), hF1⟩ dX4_fadeAt_103
        · refine lv_aload_n hx hb dX4_fadeAt_23 rfl (lv_at hl 0 rfl) ?_
          refine z_get (T := TX4) (v := .ref (w + 1)) hE hH hW1.1 rfl uw_X4 0 (by decide) fkX4_11 rfl dX4_fadeAt_24 ?_
          refine lv_iload hx hb dX4_fadeAt_27 (lv_at hl 5 rfl) ?_
          refine z_aald hE hH hW1.2.1 rfl (k := j2) (by omega) (by decide) dX4_fadeAt_29 ?_
          refine z_get (T := TX3) (v := .ref (w + 2 + 2 * r j2 + 1)) hE hH (hW1.2.2.2.2 j2 (by omega)).1 rfl uw_X3 7 (by decide) fkX4_53 rfl dX4_fadeAt_30 ?_
          refine lv_astore (lv' := [(6, .ref (w + 2 + 2 * r j2 + 1)), (0, .ref w), (1, .int (nI c)), (2, .int (nI b)), (3, .int (nI a)), (4, .int (nI t)), (5, .int (nI j2))]) hx hb dX4_fadeAt_33 hl (by decide) rfl (fun ls hl => ?_)
          refine lv_aload_n hx hb dX4_fadeAt_35 rfl (lv_at hl 1 rfl) ?_
          refine lv_iload hx hb dX4_fadeAt_36 (lv_at hl 6 rfl) ?_
          refine lv_iload_n hx hb dX4_fadeAt_38 rfl (lv_at hl 2 rfl) ?_
          refine z_callV (rest := []) (st2 := [.int (nI (dtc (cv u j2 c) (sv u (c % 10))))]) hE hH hS hB0 hl ca_X4_daysToClear mkX4_74 (c_X4_daysToClear l G B0 M1 w r u hW1 hr hv1 j2 c (by omega) (by omega)) hW1.1 rfl rfl rfl rfl rfl ⟨Nat.le_of_ble_eq_true rfl, Nat.le_of_ble_eq_true rfl⟩ (Nat.le_of_ble_eq_true rfl) ⟨Nat.le_refl _, Nat.le_refl _⟩ dX4_fadeAt_39 (fun H locs M1 hH hp hS => ?_)
          subst hp
          have q4 := dtc_le (u := sv u (c % 10)) (hv1.coat (j := j2) (c := c) (by omega) (by omega))
          refine lv_istore (lv' := [(7, .int (nI (dtc (cv u j2 c) (sv u (c % 10))))), (6, .ref (w + 2 + 2 * r j2 + 1)), (0, .ref w), (1, .int (nI c)), (2, .int (nI b)), (3, .int (nI a)), (4, .int (nI t)), (5, .int (nI j2))]) hx hb dX4_fadeAt_42 hl (by decide) rfl (fun ls hl => ?_)
          refine lv_iload hx hb dX4_fadeAt_44 (lv_at hl 0 rfl) ?_
          refine lv_iload hx hb dX4_fadeAt_46 (lv_at hl 6 rfl) ?_
          refine n_cmp_le (tgt := 76) hx hb (by omega) (by omega) dX4_fadeAt_48 (by decide) (fun h5 => ?_) (fun h5 => ?_)
          · refine lv_iload hx hb dX4_fadeAt_76 (lv_at hl 0 rfl) ?_
            refine n_if_le (tgt := 96) hx hb (by omega) dX4_fadeAt_78 (by decide) (fun h6 => ?_) (fun h6 => ?_)
            · refine lv_iinc (v := (nI j2 - nI 1)) (lv' := [(5, .int (nI j2 - nI 1)), (7, .int (nI (dtc (cv u j2 c) (sv u (c % 10))))), (6, .ref (w + 2 + 2 * r j2 + 1)), (0, .ref w), (1, .int (nI c)), (2, .int (nI b)), (3, .int (nI a)), (4, .int (nI t))]) hx hb dX4_fadeAt_96 hl (k := 7) rfl (nI_dec1 _) (by decide) rfl (fun ls hl => ?_)
              refine lv_goto (tgt := 13) hx hb dX4_fadeAt_99 (by decide) ?_
              exact ih  j2 t a u M1 (by omega) hW1 hv1 hF1 (by omega) (by omega) (by omega) (by rw [← hs, fadV_succ, if_neg (by omega)]; first | rw [if_pos (by omega), fadV_z] | rw [if_neg (by omega), if_pos (by omega)] | rw [if_neg (by omega), if_neg (by omega)]) (by rw [← ha, fadN_succ, if_neg (by omega)]; first | (rw [if_pos (by omega), fadN_z]; done) | (rw [if_neg (by omega), if_pos (by omega)]; omega) | (rw [if_neg (by omega), if_neg (by omega)]; done)) _ _ hH hS _ (lv_sub hl [3, 4, 5, 6, 7, 0] rfl)
            · refine lv_aload hx hb dX4_fadeAt_81 (lv_at hl 1 rfl) ?_
              refine lv_iload_n hx hb dX4_fadeAt_83 rfl (lv_at hl 3 rfl) ?_
              refine n_iconst hx hb 0 dX4_fadeAt_84 (by decide) ?_
              refine z_iast hE hH hS (hW1.2.2.2.2 j2 (by omega)).2 (k := c) (by omega) (by decide) (by omega) dX4_fadeAt_85 (fun H locs M9 hH hS e7 o8 => ?_)
              have q10 := hr.1 j2 (by omega)
              have hW11 := WlR.setC (j := j2) (c := c) hr (by omega) hW1 (by omega) (by omega) e7 o8
              have q12 := cv_setC_self u (j := j2) (c := c) 0
              have hv13 : wOk (vset u (98 + 60 * j2 + c) 0) := (hv1.decC (by omega) (by omega) (by first | exact Nat.zero_le _ | exact Nat.sub_le _ _))
              have z14 : (vset u (98 + 60 * j2 + c) 0) 0 = u 0 := fset_ne _ _ (by omega)
              have hF15 := fun q hq => (o8 q (by omega)).trans (hF1 q hq)
              refine lv_iload hx hb dX4_fadeAt_86 (lv_at hl 6 rfl) ?_
              refine lv_iload hx hb dX4_fadeAt_88 (lv_at hl 0 rfl) ?_
              refine n_isub hx hb (by omega) dX4_fadeAt_90 ?_
              refine lv_istore (lv' := [(4, .int (nI (t - (dtc (cv u j2 c) (sv u (c % 10)))))), (7, .int (nI (dtc (cv u j2 c) (sv u (c % 10))))), (6, .ref (w + 2 + 2 * r j2 + 1)), (0, .ref w), (1, .int (nI c)), (2, .int (nI b)), (3, .int (nI a)), (5, .int (nI j2))]) hx hb dX4_fadeAt_91 hl (by decide) rfl (fun ls hl => ?_)
              refine lv_iinc (v := (nI (a + 1))) (lv' := [(3, .int (nI (a + 1))), (4, .int (nI (t - (dtc (cv u j2 c) (sv u (c % 10)))))), (7, .int (nI (dtc (cv u j2 c) (sv u (c % 10))))), (6, .ref (w + 2 + 2 * r j2 + 1)), (0, .ref w), (1, .int (nI c)), (2, .int (nI b)), (5, .int (nI j2))]) hx hb dX4_fadeAt_93 hl (k := 6) rfl (nI_inc _) (by decide) rfl (fun ls hl => ?_)
              refine lv_iinc (v := (nI j2 - nI 1)) (lv' := [(5, .int (nI j2 - nI 1)), (3, .int (nI (a + 1))), (4, .int (nI (t - (dtc (cv u j2 c) (sv u (c % 10)))))), (7, .int (nI (dtc (cv u j2 c) (sv u (c % 10))))), (6, .ref (w + 2 + 2 * r j2 + 1)), (0, .ref w), (1, .int (nI c)), (2, .int (nI b))]) hx hb dX4_fadeAt_96 hl (k := 7) rfl (nI_dec1 _) (by decide) rfl (fun ls hl => ?_)
              refine lv_goto (tgt := 13) hx hb dX4_fadeAt_99 (by decide) ?_
              exact ih  j2 (t - (dtc (cv u j2 c) (sv u (c % 10)))) (a + 1) (vset u (98 + 60 * j2 + c) 0) M9 (by omega) hW11 hv13 hF15 (by omega) (by omega) (by omega) (by rw [← hs, fadV_succ, if_neg (by omega)]; first | rw [if_pos (by omega), fadV_z] | rw [if_neg (by omega), if_pos (by omega)] | rw [if_neg (by omega), if_neg (by omega)]) (by rw [← ha, fadN_succ, if_neg (by omega)]; first | (rw [if_pos (by omega), fadN_z]; done) | (rw [if_neg (by omega), if_pos (by omega)]; omega) | (rw [if_neg (by omega), if_neg (by omega)]; done)) _ _ hH hS _ (lv_sub hl [5, 6, 7, 1, 2, 0] rfl)
          · refine lv_aload hx hb dX4_fadeAt_51 (lv_at hl 1 rfl) ?_
            refine lv_iload_n hx hb dX4_fadeAt_53 rfl (lv_at hl 3 rfl) ?_
            refine lv_dup2_11 hx hb dX4_fadeAt_54 rfl rfl ?_
            refine z_iald hE hH (hW1.2.2.2.2 j2 (by omega)).2 (k := c) (by omega) (by decide) dX4_fadeAt_55 ?_
            have q16 := hv1.coat (j := j2) (c := c) (by omega) (by omega)
            refine lv_iload hx hb dX4_fadeAt_56 (lv_at hl 6 rfl) ?_
            refine lv_aload_n hx hb dX4_fadeAt_58 rfl (lv_at hl 2 rfl) ?_
            refine z_get (T := TX4) (v := .ref (w + 26)) hE hH hW1.1 rfl uw_X4 2 (by decide) fkX4_18 rfl dX4_fadeAt_59 ?_
            refine lv_iload_n hx hb dX4_fadeAt_62 rfl (lv_at hl 3 rfl) ?_
            refine n_bipush hx hb 10 dX4_fadeAt_63 (by decide) ?_
            refine n_irem hx hb (by omega) (by decide) (by decide) dX4_fadeAt_65 ?_
            refine z_iald hE hH hW1.2.2.1 (k := c % 10) (by omega) (by decide) dX4_fadeAt_66 ?_
            have q17 := hv1.2.2.1 (c % 10) (by omega)
            refine n_imul hx hb dX4_fadeAt_67 ?_
            refine n_isub hx hb (dtc_gt (by assumption)) dX4_fadeAt_68 ?_
            refine z_iast hE hH hS (hW1.2.2.2.2 j2 (by omega)).2 (k := c) (by omega) (by decide) (by omega) dX4_fadeAt_69 (fun H locs M20 hH hS e18 o19 => ?_)
            have q21 := hr.1 j2 (by omega)
            have hW22 := WlR.setC (j := j2) (c := c) hr (by omega) hW1 (by omega) (by omega) e18 o19
            have q23 := cv_setC_self u (j := j2) (c := c) ((cv u j2 c) - (t * (sv u (c % 10))))
            have hv24 : wOk (vset u (98 + 60 * j2 + c) ((cv u j2 c) - (t * (sv u (c % 10))))) := (hv1.decC (by omega) (by omega) (by first | exact Nat.zero_le _ | exact Nat.sub_le _ _))
            have z25 : (vset u (98 + 60 * j2 + c) ((cv u j2 c) - (t * (sv u (c % 10))))) 0 = u 0 := fset_ne _ _ (by omega)
            have hF26 := fun q hq => (o19 q (by omega)).trans (hF1 q hq)
            refine n_iconst hx hb 0 dX4_fadeAt_70 (by decide) ?_
            refine lv_istore (lv' := [(4, .int (nI 0)), (7, .int (nI (dtc (cv u j2 c) (sv u (c % 10))))), (6, .ref (w + 2 + 2 * r j2 + 1)), (0, .ref w), (1, .int (nI c)), (2, .int (nI b)), (3, .int (nI a)), (5, .int (nI j2))]) hx hb dX4_fadeAt_71 hl (by decide) rfl (fun ls hl => ?_)
            refine lv_goto (tgt := 96) hx hb dX4_fadeAt_73 (by decide) ?_
            refine lv_iinc (v := (nI j2 - nI 1)) (lv' := [(5, .int (nI j2 - nI 1)), (4, .int (nI 0)), (7, .int (nI (dtc (cv u j2 c) (sv u (c % 10))))), (6, .ref (w + 2 + 2 * r j2 + 1)), (0, .ref w), (1, .int (nI c)), (2, .int (nI b)), (3, .int (nI a))]) hx hb dX4_fadeAt_96 hl (k := 7) rfl (nI_dec1 _) (by decide) rfl (fun ls hl => ?_)
            refine lv_goto (tgt := 13) hx hb dX4_fadeAt_99 (by decide) ?_
            exact ih  j2 0 a (vset u (98 + 60 * j2 + c) ((cv u j2 c) - (t * (sv u (c % 10))))) M20 (by omega) hW22 hv24 hF26 (by omega) (by omega) (by omega) (by rw [← hs, fadV_succ, if_neg (by omega)]; first | rw [if_pos (by omega), fadV_z] | rw [if_neg (by omega), if_pos (by omega)] | rw [if_neg (by omega), if_neg (by omega)]) (by rw [← ha, fadN_succ, if_neg (by omega)]; first | (rw [if_pos (by omega), fadN_z]; done) | (rw [if_neg (by omega), if_pos (by omega)]; omega) | (rw [if_neg (by omega), if_neg (by omega)]; done)) _ _ hH hS _ (lv_sub hl [4, 5, 6, 7, 1, 0] rfl)
  exact L13 (v 0 + 1) (v 0) b 0 v M (by omega) hW hv hF rfl (Nat.le_refl _) (by omega) rfl (Nat.zero_add _) _ _ hH hS _ (lv_sub hl [3, 4, 5, 2, 1, 0] rfl)

set_option maxHeartbeats 4000000 in
set_option maxRecDepth 100000 in
theorem c_X4_fade (l : Launch) (G : zG) (B0 : Nat) (M : Mm) (w : Nat) (r : Nat → Nat) (v : Wv) (hW : WlR G w r v M) (hr : rOk r) (hv : wOk v) (hBw : B0 ≤ w) (b : Nat) (hb3 : b ≤ 300) : zMet l yX4_fade cX4_fade 4 (some .int) 3 0 0 G B0 M [.ref w, .int (nI b)] (some (.int (nI (fadS v b)))) (fun M1 => WlR G w r (fadA v b 60) M1 ∧ ∀ q, (q < w ∨ w + 27 ≤ q) → M1 q = M q) := by
  refine z_met RX4 [(0, .ref w), (1, .int (nI b))] (by decide) rfl (Nat.le_of_ble_eq_true rfl) rfl ?_
  intro pg ev s m below meth cd ls hE hin hB0 hH hl
  have hx := hE.1
  have hb := hE.2.1
  have hn := hv.1
  have hF : ∀ q, (q < w ∨ w + 27 ≤ q) → M q = M q := fun _ _ => rfl
  refine z_gen B0 (fun H locs hH hS => ?_) hH
  refine n_iconst hx hb 0 dX4_fade_0 (by decide) ?_
  refine lv_istore_n (lv' := [(2, .int (nI 0)), (0, .ref w), (1, .int (nI b))]) hx hb dX4_fade_1 rfl hl (by decide) rfl (fun ls hl => ?_)
  refine n_iconst hx hb 0 dX4_fade_2 (by decide) ?_
  refine lv_istore_n (lv' := [(3, .int (nI 0)), (2, .int (nI 0)), (0, .ref w), (1, .int (nI b))]) hx hb dX4_fade_3 rfl hl (by decide) rfl (fun ls hl => ?_)
  have L4 : ∀ (dd : Nat) (k : Nat) (a : Nat) (u : Wv) (M1 : Mm), 60 < k + dd → (k ≤ 60) → (WlR G w r u M1) → (wOk u) → (∀ q, (q < w ∨ w + 27 ≤ q) → M1 q = M q) → (u = fadA v b k) → (a = zsum (fun k => fadN k (v 0) (fadA v b k) b) k) → ∀ (H : Heap) (locs : List Loc), zH G M1 H → zS 0 B0 s.heap H locs → ∀ (ls : Array Slot), lv_has ls 4 [(0, .ref w), (1, .int (nI b)), (2, .int (nI a)), (3, .int (nI k))] → zW pg l ev 3 0 0 s m [.ref w, .int (nI b)] below meth cd H locs 0 0 G B0 (some (.int (nI (fadS v b)))) (fun M1 => WlR G w r (fadA v b 60) M1 ∧ ∀ q, (q < w ∨ w + 27 ≤ q) → M1 q = M q) (F0 m 4 ls []) := by
    intro dd
    induction dd with
    | zero =>
      intro k a u M1 hdd hk hW1 hv1 hF1 hu ha
      exact absurd hdd (by omega)
    | succ dd ih =>
      intro k a u M1 hdd hk hW1 hv1 hF1 hu ha H locs hH hS ls hl
      have hn1 := hv1.1
      have hu0 : u 0 = v 0 := by rw [hu]; exact (fadA_keep hv b k hk).2 0 (by decide)
      refine lv_iload_n hx hb dX4_fade_4 rfl (lv_at hl 3 rfl) ?_
      refine n_bipush hx hb 60 dX4_fade_5 (by decide) ?_
      refine n_cmp_ge (tgt := 25) hx hb (by omega) (by decide) dX4_fade_7 (by decide) (fun h1 => ?_) (fun h1 => ?_)
      · refine lv_iload_n hx hb dX4_fade_25 rfl (lv_at hl 2 rfl) ?_
        exact z_iret hE hH hS (by have hkk : k = 60 := (by omega); subst hkk; rw [ha]; first | done | rfl) ⟨by have hkk : k = 60 := (by omega); subst hkk; rw [← hu]; exact hW1, hF1⟩ dX4_fade_26
      · refine lv_iload_n hx hb dX4_fade_10 rfl (lv_at hl 2 rfl) ?_
        refine lv_aload_n hx hb dX4_fade_11 rfl (lv_at hl 0 rfl) ?_
        refine lv_iload_n hx hb dX4_fade_12 rfl (lv_at hl 3 rfl) ?_
        refine lv_iload_n hx hb dX4_fade_13 rfl (lv_at hl 1 rfl) ?_
        refine z_callV (rest := [.int (nI a)]) (st2 := [.int (nI (fadN k (u 0) u b)), .int (nI a)]) hE hH hS hB0 hl ca_X4_fadeAt mkX4_71 (c_X4_fadeAt l G B0 M1 w r u hW1 hr hv1 (by omega) k b (by omega) (by omega)) hW1.1 rfl rfl rfl rfl rfl ⟨Nat.le_of_ble_eq_true rfl, Nat.le_of_ble_eq_true rfl⟩ (Nat.le_of_ble_eq_true rfl) ⟨Nat.le_refl _, Nat.le_refl _⟩ dX4_fade_14 (fun H locs M2 hH hp hS => ?_)
        obtain ⟨hW3, hG4⟩ := hp
        have hv5 : wOk (fadV k (u 0) u b) := (fadV_keep k (by omega) _ _ _ hv1 (Nat.le_refl _)).1
        have hF6 := fun q hq => (hG4 q hq).trans (hF1 q hq)
        refine n_iadd hx hb dX4_fade_17 ?_
        refine lv_istore_n (lv' := [(2, .int (nI (a + (fadN k (u 0) u b)))), (0, .ref w), (1, .int (nI b)), (3, .int (nI k))]) hx hb dX4_fade_18 rfl hl (by decide) rfl (fun ls hl => ?_)
        refine lv_iinc (v := (nI (k + 1))) (lv' := [(3, .int (nI (k + 1))), (2, .int (nI (a + (fadN k (u 0) u b)))), (0, .ref w), (1, .int (nI b))]) hx hb dX4_fade_19 hl (k := 3) rfl (nI_inc _) (by decide) rfl (fun ls hl => ?_)
        refine lv_goto (tgt := 4) hx hb dX4_fade_22 (by decide) ?_
        exact ih  (k + 1) (a + (fadN k (u 0) u b)) (fadV k (u 0) u b) M2 (by omega) (by omega) hW3 hv5 hF6 (by rw [hu0, hu]; rfl) (by unfold zsum; rw [← ha, ← hu, hu0]) _ _ hH hS _ (lv_sub hl [2, 3, 1, 0] rfl)
  exact L4 61 0 0 v M (by omega) (by omega) hW hv hF rfl rfl _ _ hH hS _ (lv_sub hl [2, 3, 1, 0] rfl)
end
section
/-- a wall, part by part -/
def WlX (G : zG) (w : Nat) (r : Nat → Nat) (n d sa br : Nat) (U : Nat → Nat) (F C : Nat → Nat → Nat) (M : Mm) : Prop :=
  M w = some (.inr (4, [.ref (w + 1), .int (nI n), .ref (w + 26), .int (nI d), .int (nI sa), .int (nI br)])) ∧
  zRef G 1 M (w + 1) 12 (fun j => w + 2 + 2 * r j) ∧ zArr G 0 M (w + 26) 10 (fun x => nI (U x)) ∧ ∀ j, j < 12 → Pst G (w + 2 + 2 * r j) (F j) (C j) M
theorem WlR.toX {G : zG} {w : Nat} {r : Nat → Nat} {v : Wv} {M : Mm} (h : WlR G w r v M) (hn : v 0 ≤ 12) : ∃ F C, WlX G w r (v 0) (v 1) (v 2) (v 3) (sv v) F C M ∧ ∀ j, j < v 0 → F j = pv v j ∧ C j = cv v j := by
  obtain ⟨h1, h2, h3, h4, h5⟩ := h
  have hc : ∀ j, ∃ f g, j < 12 → Pst G (w + 2 + 2 * r j) f g M ∧ (j < v 0 → f = pv v j ∧ g = cv v j) := by
    intro j
    by_cases hj : j < v 0
    · exact ⟨pv v j, cv v j, fun _ => ⟨h5 j hj, fun _ => ⟨rfl, rfl⟩⟩⟩
    · by_cases hj2 : j < 12
      · obtain ⟨f, g, h⟩ := h4 j hj2
        exact ⟨f, g, fun _ => ⟨h, fun q => absurd q hj⟩⟩
      · exact ⟨fun _ => 0, fun _ => 0, fun q => absurd q hj2⟩
  refine ⟨fun j => Classical.choose (hc j), fun j => Classical.choose (Classical.choose_spec (hc j)), ⟨h1, h2, h3, fun j hj => ?_⟩, fun j hj => ?_⟩
  · exact ((Classical.choose_spec (Classical.choose_spec (hc j))) hj).1
  · exact ((Classical.choose_spec (Classical.choose_spec (hc j))) (by omega)).2 hj
theorem WlX.toR {G : zG} {w n d sa br : Nat} {r : Nat → Nat} {U : Nat → Nat} {F C : Nat → Nat → Nat} {M : Mm} (h : WlX G w r n d sa br U F C M) (v : Wv) (hn : v 0 ≤ 12) (e0 : n = v 0) (e1 : d = v 1) (e2 : sa = v 2) (e3 : br = v 3) (eU : ∀ x, x < 10 → U x = sv v x) (eF : ∀ j, j < v 0 → (∀ k, k < 7 → F j k = pv v j k) ∧ ∀ c, c < 60 → C j c = cv v j c) : WlR G w r v M := by
  obtain ⟨h1, h2, h3, h4⟩ := h
  subst e0; subst e1; subst e2; subst e3
  exact ⟨h1, h2, h3.to fun x hx => congrArg nI (eU x hx), fun j hj => ⟨_, _, h4 j hj⟩, fun j hj => (h4 j (by omega)).to (eF j hj).1 (eF j hj).2⟩
theorem WlX.setO {G : zG} {w n d sa br i x : Nat} {r : Nat → Nat} {U : Nat → Nat} {F C : Nat → Nat → Nat} {M M1 : Mm} (h : WlX G w r n d sa br U F C M) (hr : rOk r) (hi : i = 1 ∨ i = 3 ∨ i = 4 ∨ i = 5) (e : M1 w = some (.inr (4, ([.ref (w + 1), .int (nI n), .ref (w + 26), .int (nI d), .int (nI sa), .int (nI br)] : List Value).set i (.int (nI x))))) (o : ∀ q : Nat, q ≠ w → M1 q = M q) : WlX G w r (if i = 1 then x else n) (if i = 3 then x else d) (if i = 4 then x else sa) (if i = 5 then x else br) U F C M1 := by
  obtain ⟨h1, h2, h3, h4⟩ := h
  refine ⟨?_, h2.kept (o _ (by omega)), h3.kept (o _ (by omega)), fun j hj => ?_⟩
  · rw [e]
    rcases hi with rfl | rfl | rfl | rfl <;> rfl
  · exact (h4 j hj).kept (o _ (by omega)) (o _ (by omega))
theorem WlX.setU {G : zG} {w n d sa br : Nat} {r : Nat → Nat} {U U2 : Nat → Nat} {F C : Nat → Nat → Nat} {M M1 : Mm} (h : WlX G w r n d sa br U F C M) (hr : rOk r) (e : zArr G 0 M1 (w + 26) 10 (fun x => nI (U2 x))) (o : ∀ q : Nat, q ≠ w + 26 → M1 q = M q) : WlX G w r n d sa br U2 F C M1 := by
  obtain ⟨h1, h2, h3, h4⟩ := h
  refine ⟨by rw [o w (by omega)]; exact h1, h2.kept (o _ (by omega)), e, fun j hj => ?_⟩
  have := hr.1 j hj
  exact (h4 j hj).kept (o _ (by omega)) (o _ (by omega))
def upF (F : Nat → Nat → Nat) (j : Nat) (f : Nat → Nat) : Nat → Nat → Nat := fun i => if i = j then f else F i
theorem upF_self (F : Nat → Nat → Nat) (j : Nat) (f : Nat → Nat) : upF F j f j = f := by simp [upF]
theorem upF_ne (F : Nat → Nat → Nat) {i j : Nat} (f : Nat → Nat) (h : i ≠ j) : upF F j f i = F i := by simp [upF, h]
theorem WlX.setP {G : zG} {w n d sa br j : Nat} {r : Nat → Nat} {U : Nat → Nat} {F C : Nat → Nat → Nat} {f g : Nat → Nat} {M M1 : Mm} (h : WlX G w r n d sa br U F C M) (hr : rOk r) (hj : j < 12) (e : Pst G (w + 2 + 2 * r j) f g M1) (o : ∀ q : Nat, q ≠ w + 2 + 2 * r j → q ≠ w + 2 + 2 * r j + 1 → M1 q = M q) : WlX G w r n d sa br U (upF F j f) (upF C j g) M1 := by
  obtain ⟨h1, h2, h3, h4⟩ := h
  have hjr := hr.1 j hj
  refine ⟨by rw [o w (by omega) (by omega)]; exact h1, h2.kept (o _ (by omega) (by omega)), h3.kept (o _ (by omega) (by omega)), fun i hi => ?_⟩
  by_cases hij : i = j
  · subst hij
    rw [upF_self, upF_self]; exact e
  · have hne : r i ≠ r j := fun q => hij (hr.2 i j hi hj q)
    have := hr.1 i hi
    rw [upF_ne _ _ hij, upF_ne _ _ hij]
    exact (h4 i hi).kept (o _ (by omega) (by omega)) (o _ (by omega) (by omega))
def pasteF (x y wd ht p : Nat) : Nat → Nat
  | 0 => x
  | 1 => y
  | 2 => wd
  | 3 => ht
  | 4 => p
  | _ => 0
def pasteV (v : Wv) (x y wd ht p q : Nat) : Wv := fun i =>
  if i = 0 then v 0 + 1 else if 14 + 7 * v 0 ≤ i ∧ i < 21 + 7 * v 0 then pasteF x y wd ht p (i - (14 + 7 * v 0)) else if 98 + 60 * v 0 ≤ i ∧ i < 158 + 60 * v 0 then (if liesN (pasteF x y wd ht p) ((i - (98 + 60 * v 0)) % 10) ((i - (98 + 60 * v 0)) / 10) = true then q else 0) else v i
theorem pasteV_s (v : Wv) (x y wd ht p q : Nat) {i : Nat} (h0 : 0 < i) (h : i < 14) : pasteV v x y wd ht p q i = v i := by
  unfold pasteV
  rw [if_neg (by omega), if_neg (by omega), if_neg (by omega)]
theorem pasteV_p (v : Wv) (x y wd ht p q : Nat) {j k : Nat} (hj : j ≤ v 0) (hv : v 0 < 12) (hk : k < 7) : pv (pasteV v x y wd ht p q) j k = if j = v 0 then pasteF x y wd ht p k else pv v j k := by
  unfold pv pasteV
  rw [if_neg (by omega)]
  by_cases h : j = v 0
  · subst h
    rw [if_pos (by omega), if_pos rfl, Nat.add_sub_cancel_left]
  · rw [if_neg (by omega), if_neg (by omega), if_neg h]
theorem pasteV_c (v : Wv) (x y wd ht p q : Nat) {j c : Nat} (hj : j ≤ v 0) (hv : v 0 < 12) (hc : c < 60) : cv (pasteV v x y wd ht p q) j c = if j = v 0 then (if liesN (pasteF x y wd ht p) (c % 10) (c / 10) = true then q else 0) else cv v j c := by
  unfold cv pasteV
  rw [if_neg (by omega), if_neg (by omega)]
  by_cases h : j = v 0
  · subst h
    rw [if_pos (by omega), if_pos rfl, Nat.add_sub_cancel_left]
  · rw [if_neg (by omega), if_neg h]
def tearV (v : Wv) (p : Nat) : Wv := fun i =>
  if i = 0 then v 0 - 1 else if 14 + 7 * p ≤ i ∧ i < 14 + 7 * (v 0 - 1) then v (i + 7) else if 14 + 7 * (v 0 - 1) ≤ i ∧ i < 14 + 7 * v 0 then 0 else if 98 + 60 * p ≤ i ∧ i < 98 + 60 * (v 0 - 1) then v (i + 60) else if 98 + 60 * (v 0 - 1) ≤ i ∧ i < 98 + 60 * v 0 then 0 else v i
theorem tearV_0 (v : Wv) (p : Nat) : tearV v p 0 = v 0 - 1 := rfl
theorem tearV_s (v : Wv) (p : Nat) {i : Nat} (hp : p < v 0) (h0 : 0 < i) (h : i < 14) : tearV v p i = v i := by
  unfold tearV
  rw [if_neg (by omega), if_neg (by omega), if_neg (by omega), if_neg (by omega), if_neg (by omega)]
theorem tearV_p (v : Wv) {p j k : Nat} (hp : p < v 0) (hv : v 0 ≤ 12) (hj : j + 1 < v 0) (hk : k < 7) : pv (tearV v p) j k = if p ≤ j then pv v (j + 1) k else pv v j k := by
  unfold pv tearV
  rw [if_neg (by omega)]
  by_cases h : p ≤ j
  · rw [if_pos (by omega), if_pos h]
    congr 1
    omega
  · rw [if_neg (by omega), if_neg (by omega), if_neg (by omega), if_neg (by omega), if_neg h]
theorem tearV_c (v : Wv) {p j c : Nat} (hp : p < v 0) (hv : v 0 ≤ 12) (hj : j + 1 < v 0) (hc : c < 60) : cv (tearV v p) j c = if p ≤ j then cv v (j + 1) c else cv v j c := by
  unfold cv tearV
  rw [if_neg (by omega), if_neg (by omega), if_neg (by omega)]
  by_cases h : p ≤ j
  · rw [if_pos (by omega), if_pos h]
    congr 1
    omega
  · rw [if_neg (by omega), if_neg (by omega), if_neg h]
theorem WlR.ext {G : zG} {w : Nat} {r : Nat → Nat} {v v2 : Wv} {M : Mm} (h : WlR G w r v M) (hn : v 0 ≤ 12) (e : ∀ i, i < 818 → v i = v2 i) : WlR G w r v2 M := by
  obtain ⟨h1, h2, h3, h4, h5⟩ := h
  refine ⟨by rw [h1, e 0 (by decide), e 1 (by decide), e 2 (by decide), e 3 (by decide)], h2, h3.to fun x hx => congrArg nI (e (4 + x) (by omega)), h4, fun j hj => ?_⟩
  rw [← e 0 (by decide)] at hj
  exact (h5 j hj).to (fun k hk => e _ (by omega)) (fun c hc => e _ (by omega))
/-- the references of a wall while a poster is taken down, those below k moved -/
def tdR (r : Nat → Nat) (p k : Nat) : Nat → Nat := fun i => if p ≤ i ∧ i + 1 < k then r (i + 1) else r i
def tdE (r : Nat → Nat) (p n : Nat) : Nat → Nat := fun i => if i = n - 1 then r p else tdR r p n i
theorem tdE_ok {r : Nat → Nat} {p n : Nat} (hr : rOk r) (hp : p < n) (hn : n ≤ 12) : rOk (tdE r p n) := by
  have key : ∀ i, i < 12 → ∃ i', i' < 12 ∧ tdE r p n i = r i' ∧ i' = (if i = n - 1 then p else if p ≤ i ∧ i + 1 < n then i + 1 else i) := by
    intro i hi
    unfold tdE tdR
    by_cases h1 : i = n - 1
    · rw [if_pos h1, if_pos h1]; exact ⟨p, by omega, rfl, rfl⟩
    · rw [if_neg h1, if_neg h1]
      by_cases h2 : p ≤ i ∧ i + 1 < n
      · rw [if_pos h2, if_pos h2]; exact ⟨i + 1, by omega, rfl, rfl⟩
      · rw [if_neg h2, if_neg h2]; exact ⟨i, hi, rfl, rfl⟩
  refine ⟨fun j hj => ?_, fun i j hi hj h => ?_⟩
  · obtain ⟨i', h1, h2, -⟩ := key j hj
    rw [h2]; exact hr.1 i' h1
  · obtain ⟨i', h1, h2, h3⟩ := key i hi
    obtain ⟨j', h4, h5, h6⟩ := key j hj
    rw [h2, h5] at h
    have h7 := hr.2 i' j' h1 h4 h
    rw [h3, h6] at h7
    split at h7 <;> split at h7 <;> (try split at h7) <;> (try split at h7) <;> omega

set_option maxHeartbeats 4000000 in
set_option maxRecDepth 100000 in
theorem c_X4_copyFrom (l : Launch) (G : zG) (B0 : Nat) (M : Mm) (w : Nat) (r : Nat → Nat) (v : Wv) (hW : WlR G w r v M) (hr : rOk r) (hn : v 0 ≤ 12) (hBw : B0 ≤ w) (w2 : Nat) (r2 : Nat → Nat) (v2 : Wv) (hW2 : WlR G w2 r2 v2 M) (hr2 : rOk r2) (hv2 : wOk v2) (hd : w + 27 ≤ w2 ∨ w2 + 27 ≤ w) : zMet l yX4_copyFrom cX4_copyFrom 3 none 3 0 0 G B0 M [.ref w, .ref w2] none (fun M1 => WlR G w r (v2) M1 ∧ ∀ q, (q < w ∨ w + 27 ≤ q) → M1 q = M q) := by
  refine z_met RX4 [(0, .ref w), (1, .ref w2)] (by decide) rfl (Nat.le_of_ble_eq_true rfl) rfl ?_
  intro pg ev s m below meth cd ls hE hin hB0 hH hl
  have hx := hE.1
  have hb := hE.2.1
  have hn2 := hv2.1
  obtain ⟨Fa, Ca, hX, -⟩ := hW.toX hn
  have hF : ∀ q, (q < w ∨ w + 27 ≤ q) → M q = M q := fun _ _ => rfl
  refine z_gen B0 (fun H locs hH hS => ?_) hH
  refine lv_aload_n hx hb dX4_copyFrom_0 rfl (lv_at hl 0 rfl) ?_
  refine lv_aload_n hx hb dX4_copyFrom_1 rfl (lv_at hl 1 rfl) ?_
  refine z_get (T := TX4) (v := .int (nI (v2 0))) hE hH hW2.1 rfl uw_X4 1 (by decide) fkX4_22 rfl dX4_copyFrom_2 ?_
  refine z_put (T := TX4) hE hH hS hX.1 rfl uw_X4 tyX4 tyX4_ok nmX4 1 (by decide) fkX4_22 rfl rfl rfl (Nat.le_of_ble_eq_true rfl) (by omega) dX4_copyFrom_5 (fun H locs M3 hH hS e1 o2 => ?_)
  have hX4 : WlX G w r (v2 0) (v 1) (v 2) (v 3) (sv v) Fa Ca M3 := WlX.setO (i := 1) hX hr (by decide) e1 o2
  have hF5 := fun q hq => (o2 q (by omega)).trans (hF q hq)
  have hO6 := WlR.kept hr2 hv2.1 hW2 (fun q h1 h2 => o2 q (by omega))
  refine n_iconst hx hb 0 dX4_copyFrom_8 (by decide) ?_
  refine lv_istore_n (lv' := [(2, .int (nI 0)), (0, .ref w), (1, .ref w2)]) hx hb dX4_copyFrom_9 rfl hl (by decide) rfl (fun ls hl => ?_)
  have L10 : ∀ (dd : Nat) (k : Nat) (M1 : Mm) (F1 : Nat → Nat → Nat) (C1 : Nat → Nat → Nat), v2 0 < k + dd → (k ≤ v2 0) → (WlX G w r (v2 0) (v 1) (v 2) (v 3) (sv v) F1 C1 M1) → (WlR G w2 r2 v2 M1) → (∀ q, (q < w ∨ w + 27 ≤ q) → M1 q = M q) → (∀ j, j < k → F1 j = pv v2 j ∧ C1 j = cv v2 j) → ∀ (H : Heap) (locs : List Loc), zH G M1 H → zS 0 B0 s.heap H locs → ∀ (ls : Array Slot), lv_has ls 3 [(0, .ref w), (1, .ref w2), (2, .int (nI k))] → zW pg l ev 3 0 0 s m [.ref w, .ref w2] below meth cd H locs 0 0 G B0 none (fun M1 => WlR G w r (v2) M1 ∧ ∀ q, (q < w ∨ w + 27 ≤ q) → M1 q = M q) (F0 m 10 ls []) := by
    intro dd
    induction dd with
    | zero =>
      intro k M1 F1 C1 hdd hk hX1 hO1 hF1 hk1
      exact absurd hdd (by omega)
    | succ dd ih =>
      intro k M1 F1 C1 hdd hk hX1 hO1 hF1 hk1 H locs hH hS ls hl
      refine lv_iload_n hx hb dX4_copyFrom_10 rfl (lv_at hl 2 rfl) ?_
      refine lv_aload_n hx hb dX4_copyFrom_11 rfl (lv_at hl 0 rfl) ?_
      refine z_get (T := TX4) (v := .int (nI (v2 0))) hE hH hX1.1 rfl uw_X4 1 (by decide) fkX4_22 rfl dX4_copyFrom_12 ?_
      refine n_cmp_ge (tgt := 39) hx hb (by omega) (by omega) dX4_copyFrom_15 (by decide) (fun h7 => ?_) (fun h7 => ?_)
      · refine lv_aload_n hx hb dX4_copyFrom_39 rfl (lv_at hl 1 rfl) ?_
        refine z_get (T := TX4) (v := .ref (w2 + 26)) hE hH hO1.1 rfl uw_X4 2 (by decide) fkX4_18 rfl dX4_copyFrom_40 ?_
        refine n_iconst hx hb 0 dX4_copyFrom_43 (by decide) ?_
        refine lv_aload_n hx hb dX4_copyFrom_44 rfl (lv_at hl 0 rfl) ?_
        refine z_get (T := TX4) (v := .ref (w + 26)) hE hH hX1.1 rfl uw_X4 2 (by decide) fkX4_18 rfl dX4_copyFrom_45 ?_
        refine n_iconst hx hb 0 dX4_copyFrom_48 (by decide) ?_
        refine n_bipush hx hb 10 dX4_copyFrom_49 (by decide) ?_
        refine z_copy (rest := []) hE hH hS hl mkX4_30 hO1.2.2.1 hX1.2.2.1 (by decide) (by omega) ⟨Nat.le_of_ble_eq_true rfl, Nat.le_of_ble_eq_true rfl⟩ dX4_copyFrom_51 (fun H locs M8 hH hS e9 o10 => ?_)
        have hX11 := WlX.setU hX1 hr e9 o10
        have hF12 := fun q hq => (o10 q (by omega)).trans (hF1 q hq)
        have hO13 := WlR.kept hr2 hv2.1 hO1 (fun q h1 h2 => o10 q (by omega))
        refine lv_aload_n hx hb dX4_copyFrom_54 rfl (lv_at hl 0 rfl) ?_
        refine lv_aload_n hx hb dX4_copyFrom_55 rfl (lv_at hl 1 rfl) ?_
        refine z_get (T := TX4) (v := .int (nI (v2 1))) hE hH hO13.1 rfl uw_X4 3 (by decide) fkX4_36 rfl dX4_copyFrom_56 ?_
        refine z_put (T := TX4) hE hH hS hX11.1 rfl uw_X4 tyX4 tyX4_ok nmX4 3 (by decide) fkX4_36 rfl rfl rfl (Nat.le_of_ble_eq_true rfl) (by omega) dX4_copyFrom_59 (fun H locs M16 hH hS e14 o15 => ?_)
        have hX17 : WlX G w r (v2 0) (v2 1) (v 2) (v 3) (sv v2) F1 C1 M16 := WlX.setO (i := 3) hX11 hr (by decide) e14 o15
        have hF18 := fun q hq => (o15 q (by omega)).trans (hF12 q hq)
        have hO19 := WlR.kept hr2 hv2.1 hO13 (fun q h1 h2 => o15 q (by omega))
        refine lv_aload_n hx hb dX4_copyFrom_62 rfl (lv_at hl 0 rfl) ?_
        refine lv_aload_n hx hb dX4_copyFrom_63 rfl (lv_at hl 1 rfl) ?_
        refine z_get (T := TX4) (v := .int (nI (v2 2))) hE hH hO19.1 rfl uw_X4 4 (by decide) fkX4_39 rfl dX4_copyFrom_64 ?_
        refine z_put (T := TX4) hE hH hS hX17.1 rfl uw_X4 tyX4 tyX4_ok nmX4 4 (by decide) fkX4_39 rfl rfl rfl (Nat.le_of_ble_eq_true rfl) (by omega) dX4_copyFrom_67 (fun H locs M22 hH hS e20 o21 => ?_)
        have hX23 : WlX G w r (v2 0) (v2 1) (v2 2) (v 3) (sv v2) F1 C1 M22 := WlX.setO (i := 4) hX17 hr (by decide) e20 o21
        have hF24 := fun q hq => (o21 q (by omega)).trans (hF18 q hq)
        have hO25 := WlR.kept hr2 hv2.1 hO19 (fun q h1 h2 => o21 q (by omega))
        refine lv_aload_n hx hb dX4_copyFrom_70 rfl (lv_at hl 0 rfl) ?_
        refine lv_aload_n hx hb dX4_copyFrom_71 rfl (lv_at hl 1 rfl) ?_
        refine z_get (T := TX4) (v := .int (nI (v2 3))) hE hH hO25.1 rfl uw_X4 5 (by decide) fkX4_42 rfl dX4_copyFrom_72 ?_
        refine z_put (T := TX4) hE hH hS hX23.1 rfl uw_X4 tyX4 tyX4_ok nmX4 5 (by decide) fkX4_42 rfl rfl rfl (Nat.le_of_ble_eq_true rfl) (by omega) dX4_copyFrom_75 (fun H locs M28 hH hS e26 o27 => ?_)
        have hX29 : WlX G w r (v2 0) (v2 1) (v2 2) (v2 3) (sv v2) F1 C1 M28 := WlX.setO (i := 5) hX23 hr (by decide) e26 o27
        have hF30 := fun q hq => (o27 q (by omega)).trans (hF24 q hq)
        have hO31 := WlR.kept hr2 hv2.1 hO25 (fun q h1 h2 => o27 q (by omega))
        exact z_vret hE hH hS ⟨WlX.toR hX29 v2 hn2 rfl rfl rfl rfl (fun _ _ => rfl) (fun j hj => by have hh := hk1 j (by omega); rw [hh.1, hh.2]; exact ⟨fun _ _ => rfl, fun _ _ => rfl⟩), hF30⟩ dX4_copyFrom_78
      · refine lv_aload_n hx hb dX4_copyFrom_18 rfl (lv_at hl 0 rfl) ?_
        refine z_get (T := TX4) (v := .ref (w + 1)) hE hH hX1.1 rfl uw_X4 0 (by decide) fkX4_11 rfl dX4_copyFrom_19 ?_
        refine lv_iload_n hx hb dX4_copyFrom_22 rfl (lv_at hl 2 rfl) ?_
        refine z_aald hE hH hX1.2.1 rfl (k := k) (by omega) (by decide) dX4_copyFrom_23 ?_
        refine lv_aload_n hx hb dX4_copyFrom_24 rfl (lv_at hl 1 rfl) ?_
        refine z_get (T := TX4) (v := .ref (w2 + 1)) hE hH hO1.1 rfl uw_X4 0 (by decide) fkX4_11 rfl dX4_copyFrom_25 ?_
        refine lv_iload_n hx hb dX4_copyFrom_28 rfl (lv_at hl 2 rfl) ?_
        refine z_aald hE hH hO1.2.1 rfl (k := k) (by omega) (by decide) dX4_copyFrom_29 ?_
        have q32 := hr.1 k (by omega)
        have q33 := hr2.1 k (by omega)
        refine z_callV (rest := []) (st2 := []) hE hH hS hB0 hl ca_X3_copyFrom mkX4_26 (c_X3_copyFrom l G B0 M1 (w + 2 + 2 * r k) (F1 k) (C1 k) (hX1.2.2.2 k (by omega)) (by omega) (w2 + 2 + 2 * r2 k) (pv v2 k) (cv v2 k) (hO1.2.2.2.2 k (by omega)) (by omega)) (hX1.2.2.2 k (by omega)).1 rfl rfl rfl rfl rfl ⟨Nat.le_of_ble_eq_true rfl, Nat.le_of_ble_eq_true rfl⟩ (Nat.le_of_ble_eq_true rfl) ⟨Nat.le_refl _, Nat.le_refl _⟩ dX4_copyFrom_30 (fun H locs M34 hH hp hS => ?_)
        obtain ⟨hP35, hG36⟩ := hp
        have hX37 := WlX.setP hX1 hr (by omega) hP35 hG36
        have hO38 := WlR.kept hr2 hv2.1 hO1 (fun q h1 h2 => hG36 q (by omega) (by omega))
        have hF39 := fun q hq => (hG36 q (by omega) (by omega)).trans (hF1 q hq)
        refine lv_iinc (v := (nI (k + 1))) (lv' := [(2, .int (nI (k + 1))), (0, .ref w), (1, .ref w2)]) hx hb dX4_copyFrom_33 hl (k := 2) rfl (nI_inc _) (by decide) rfl (fun ls hl => ?_)
        refine lv_goto (tgt := 10) hx hb dX4_copyFrom_36 (by decide) ?_
        exact ih  (k + 1) M34 (upF F1 k (pv v2 k)) (upF C1 k (cv v2 k)) (by omega) (by omega) hX37 hO38 hF39 (fun j hj => by by_cases hjk : j = k; (· subst hjk; exact ⟨upF_self _ _ _, upF_self _ _ _⟩); (· rw [upF_ne _ _ hjk, upF_ne _ _ hjk]; exact hk1 j (by omega))) _ _ hH hS _ (lv_sub hl [1, 2, 0] rfl)
  exact L10 (v2 0 + 1) 0 M3 Fa Ca (by omega) (by omega) hX4 hO6 hF5 (fun j hj => absurd hj (Nat.not_lt_zero j)) _ _ hH hS _ (lv_sub hl [1, 2, 0] rfl)

theorem paste_fin {v : Wv} {Fa Ca : Nat → Nat → Nat} (hlt : v 0 < 12) (hFC : ∀ j, j < v 0 → Fa j = pv v j ∧ Ca j = cv v j) (x y wd ht pr vn : Nat) (F1 F2 C1 C2 : Nat → Nat → Nat)
    (e1 : F1 = upF Fa (v 0) (fset (fset (fset (fset (Fa (v 0)) 0 x) 1 y) 2 wd) 3 ht)) (e2 : C1 = upF Ca (v 0) (Ca (v 0)))
    (e3 : F2 = upF F1 (v 0) (fset (fset (fset (F1 (v 0)) 4 pr) 5 0) 6 0)) (e4 : C2 = upF C1 (v 0) (beginG (F1 (v 0)) vn (C1 (v 0)) 60)) :
    ∀ j, j < pasteV v x y wd ht pr vn 0 → (∀ k, k < 7 → F2 j k = pv (pasteV v x y wd ht pr vn) j k) ∧ ∀ c, c < 60 → C2 j c = cv (pasteV v x y wd ht pr vn) j c := by
  intro j hj
  have hj' : j < v 0 + 1 := hj
  subst e1; subst e2; subst e3; subst e4
  refine ⟨fun k hk => ?_, fun c hc => ?_⟩
  · rw [pasteV_p v _ _ _ _ _ _ (by omega) hlt hk]
    by_cases h : j = v 0
    · rw [if_pos h, h, upF_self, upF_self]
      rcases (show k = 0 ∨ k = 1 ∨ k = 2 ∨ k = 3 ∨ k = 4 ∨ k = 5 ∨ k = 6 by omega) with rfl | rfl | rfl | rfl | rfl | rfl | rfl <;> rfl
    · rw [if_neg h, upF_ne _ _ h, upF_ne _ _ h, (hFC j (by omega)).1]
  · rw [pasteV_c v _ _ _ _ _ _ (by omega) hlt hc]
    by_cases h : j = v 0
    · rw [if_pos h, h, upF_self, beginG_at, if_pos hc, upF_self]
      have : liesN (fset (fset (fset (fset (Fa (v 0)) 0 x) 1 y) 2 wd) 3 ht) (c % 10) (c / 10) = liesN (pasteF x y wd ht pr) (c % 10) (c / 10) := rfl
      rw [this]
    · rw [if_neg h, upF_ne _ _ h, upF_ne _ _ h, (hFC j (by omega)).2]

set_option maxHeartbeats 4000000 in
set_option maxRecDepth 100000 in
theorem c_X4_addOnTop (l : Launch) (G : zG) (B0 : Nat) (M : Mm) (w : Nat) (r : Nat → Nat) (v : Wv) (hW : WlR G w r v M) (hr : rOk r) (hv : wOk v) (hBw : B0 ≤ w) (hlt : v 0 < 12) (x y wd ht pr vn : Nat) (hxw : x + wd ≤ 10) (hyh : y + ht ≤ 6) : zMet l yX4_addOnTop cX4_addOnTop 8 (some .int) 3 0 0 G B0 M [.ref w, .int (nI x), .int (nI y), .int (nI wd), .int (nI ht), .int (nI pr), .int (nI vn)] (some (.int (nI (v 0)))) (fun M1 => WlR G w r (pasteV v x y wd ht pr vn) M1 ∧ ∀ q, (q < w ∨ w + 27 ≤ q) → M1 q = M q) := by
  refine z_met RX4 [(0, .ref w), (1, .int (nI x)), (2, .int (nI y)), (3, .int (nI wd)), (4, .int (nI ht)), (5, .int (nI pr)), (6, .int (nI vn))] (by decide) rfl (Nat.le_of_ble_eq_true rfl) rfl ?_
  intro pg ev s m below meth cd ls hE hin hB0 hH hl
  have hx := hE.1
  have hb := hE.2.1
  have hn := hv.1
  obtain ⟨Fa, Ca, hX, hFC⟩ := hW.toX hn
  have hF : ∀ q, (q < w ∨ w + 27 ≤ q) → M q = M q := fun _ _ => rfl
  refine z_gen B0 (fun H locs hH hS => ?_) hH
  refine lv_aload_n hx hb dX4_addOnTop_0 rfl (lv_at hl 0 rfl) ?_
  refine z_get (T := TX4) (v := .int (nI (v 0))) hE hH hX.1 rfl uw_X4 1 (by decide) fkX4_22 rfl dX4_addOnTop_1 ?_
  refine n_bipush hx hb 12 dX4_addOnTop_4 (by decide) ?_
  refine n_cmp_lt (tgt := 12) hx hb (by omega) (by decide) dX4_addOnTop_6 (by decide) (fun h1 => ?_) (fun h1 => ?_)
  · have hrn := hr.1 (v 0) (by omega)
    refine lv_aload_n hx hb dX4_addOnTop_12 rfl (lv_at hl 0 rfl) ?_
    refine z_get (T := TX4) (v := .ref (w + 1)) hE hH hX.1 rfl uw_X4 0 (by decide) fkX4_11 rfl dX4_addOnTop_13 ?_
    refine lv_aload_n hx hb dX4_addOnTop_16 rfl (lv_at hl 0 rfl) ?_
    refine z_get (T := TX4) (v := .int (nI (v 0))) hE hH hX.1 rfl uw_X4 1 (by decide) fkX4_22 rfl dX4_addOnTop_17 ?_
    refine z_aald hE hH hX.2.1 rfl (k := (v 0)) (by omega) (by decide) dX4_addOnTop_20 ?_
    refine lv_astore (lv' := [(7, .ref (w + 2 + 2 * r (v 0))), (0, .ref w), (1, .int (nI x)), (2, .int (nI y)), (3, .int (nI wd)), (4, .int (nI ht)), (5, .int (nI pr)), (6, .int (nI vn))]) hx hb dX4_addOnTop_21 hl (by decide) rfl (fun ls hl => ?_)
    refine lv_aload hx hb dX4_addOnTop_23 (lv_at hl 0 rfl) ?_
    refine lv_iload_n hx hb dX4_addOnTop_25 rfl (lv_at hl 2 rfl) ?_
    refine lv_iload_n hx hb dX4_addOnTop_26 rfl (lv_at hl 3 rfl) ?_
    refine lv_iload_n hx hb dX4_addOnTop_27 rfl (lv_at hl 4 rfl) ?_
    refine lv_iload hx hb dX4_addOnTop_28 (lv_at hl 5 rfl) ?_
    refine z_callV (rest := []) (st2 := []) hE hH hS hB0 hl ca_X3_cover mkX4_45 (c_X3_cover l G B0 M (w + 2 + 2 * r (v 0)) (Fa (v 0)) (Ca (v 0)) (hX.2.2.2 (v 0) (by omega)) (by omega) x y wd ht) (hX.2.2.2 (v 0) (by omega)).1 rfl rfl rfl rfl rfl ⟨Nat.le_of_ble_eq_true rfl, Nat.le_of_ble_eq_true rfl⟩ (Nat.le_of_ble_eq_true rfl) ⟨Nat.le_refl _, Nat.le_refl _⟩ dX4_addOnTop_30 (fun H locs M2 hH hp hS => ?_)
    obtain ⟨hP3, hG4⟩ := hp
    have hX5 := WlX.setP hX hr (by omega) hP3 hG4
    have hF6 := fun q hq => (hG4 q (by omega) (by omega)).trans (hF q hq)
    refine lv_aload hx hb dX4_addOnTop_33 (lv_at hl 0 rfl) ?_
    refine lv_iload hx hb dX4_addOnTop_35 (lv_at hl 6 rfl) ?_
    refine lv_iload hx hb dX4_addOnTop_37 (lv_at hl 7 rfl) ?_
    refine z_callV (rest := []) (st2 := []) hE hH hS hB0 hl ca_X3_begin mkX4_49 (c_X3_begin l G B0 M2 (w + 2 + 2 * r (v 0)) ((upF Fa (v 0) (fset (fset (fset (fset (Fa (v 0)) 0 x) 1 y) 2 wd) 3 ht)) (v 0)) ((upF Ca (v 0) (Ca (v 0))) (v 0)) (hX5.2.2.2 (v 0) (by omega)) (by omega) (by simp [upF, fset]; omega) (by simp [upF, fset]; omega) pr vn) (hX5.2.2.2 (v 0) (by omega)).1 rfl rfl rfl rfl rfl ⟨Nat.le_of_ble_eq_true rfl, Nat.le_of_ble_eq_true rfl⟩ (Nat.le_of_ble_eq_true rfl) ⟨Nat.le_refl _, Nat.le_refl _⟩ dX4_addOnTop_39 (fun H locs M7 hH hp hS => ?_)
    obtain ⟨hP8, hG9⟩ := hp
    have hX10 := WlX.setP hX5 hr (by omega) hP8 hG9
    have hF11 := fun q hq => (hG9 q (by omega) (by omega)).trans (hF6 q hq)
    refine lv_aload_n hx hb dX4_addOnTop_42 rfl (lv_at hl 1 rfl) ?_
    refine lv_dup hx hb dX4_addOnTop_43 rfl ?_
    refine z_get (T := TX4) (v := .int (nI (v 0))) hE hH hX10.1 rfl uw_X4 1 (by decide) fkX4_22 rfl dX4_addOnTop_44 ?_
    refine n_iconst hx hb 1 dX4_addOnTop_47 (by decide) ?_
    refine n_iadd hx hb dX4_addOnTop_48 ?_
    refine z_put (T := TX4) hE hH hS hX10.1 rfl uw_X4 tyX4 tyX4_ok nmX4 1 (by decide) fkX4_22 rfl rfl rfl (Nat.le_of_ble_eq_true rfl) (by omega) dX4_addOnTop_49 (fun H locs M14 hH hS e12 o13 => ?_)
    have hX15 : WlX G w r ((v 0) + 1) (v 1) (v 2) (v 3) (sv v) (upF (upF Fa (v 0) (fset (fset (fset (fset (Fa (v 0)) 0 x) 1 y) 2 wd) 3 ht)) (v 0) (fset (fset (fset ((upF Fa (v 0) (fset (fset (fset (fset (Fa (v 0)) 0 x) 1 y) 2 wd) 3 ht)) (v 0)) 4 pr) 5 0) 6 0)) (upF (upF Ca (v 0) (Ca (v 0))) (v 0) (beginG ((upF Fa (v 0) (fset (fset (fset (fset (Fa (v 0)) 0 x) 1 y) 2 wd) 3 ht)) (v 0)) vn ((upF Ca (v 0) (Ca (v 0))) (v 0)) 60)) M14 := WlX.setO (i := 1) hX10 hr (by decide) e12 o13
    have hF16 := fun q hq => (o13 q (by omega)).trans (hF11 q hq)
    refine lv_aload_n hx hb dX4_addOnTop_52 rfl (lv_at hl 1 rfl) ?_
    refine z_get (T := TX4) (v := .int (nI ((v 0) + 1))) hE hH hX15.1 rfl uw_X4 1 (by decide) fkX4_22 rfl dX4_addOnTop_53 ?_
    refine n_iconst hx hb 1 dX4_addOnTop_56 (by decide) ?_
    refine n_isub hx hb (by omega) dX4_addOnTop_57 ?_
    exact z_iret hE hH hS rfl ⟨WlX.toR hX15 (pasteV v x y wd ht pr vn) (show v 0 + 1 ≤ 12 by omega) rfl (pasteV_s v _ _ _ _ _ _ (by decide) (by decide)).symm (pasteV_s v _ _ _ _ _ _ (by decide) (by decide)).symm (pasteV_s v _ _ _ _ _ _ (by decide) (by decide)).symm (fun u hu => (pasteV_s v _ _ _ _ _ _ (by omega) (by omega)).symm) (paste_fin hlt hFC x y wd ht pr vn _ _ _ _ rfl rfl rfl rfl), hF16⟩ dX4_addOnTop_58
  · exfalso; omega

theorem z_aastR {p : Program} {l : Launch} {e : Env} {R : Room} {s : State} {m : MethodId} {args : Array Value} {below : List Frame} {meth : Method} {c : Code} {H : Heap} {locs : List Loc} {cells slots : Nat} {Q : State → Prop} {cc : ByteArray} {pc nL : Nat} {ls : Array Slot} {rest : List Value} {G : zG} {M : Mm} {a n B0 : Nat} {H0 : Heap} {own : String} {ret : Option FieldType} {N t ci : Nat} {rq : vw_C} {r : Nat → Nat} {vs : List Value} {b : Nat} (hE : zE p s m args meth c G own cc nL ret) (hH : zH G M H) (hS : zS n B0 H0 H locs) (hA : zRef G t M a N r) (ht : (zTy G)[t]? = some (G.2 t, .object rq.1)) (hb : M b = some (.inr (ci, vs))) (hc : vwCl[ci]? = some rq) {k : Nat} (hk : k < N) (hN : N < 2 ^ 31) (hB : B0 ≤ a) (hdg : decode cc pc = .ok (.aastore, 1))
    (kk : ∀ (H1 : Heap) (locs1 : List Loc) (M1 : Mm), zH G M1 H1 → zS n B0 H0 H1 locs1 → zRef G t M1 a N (fun i => if i = k then b else r i) → (∀ q : Nat, q ≠ a → M1 q = M q) → W p l e R s m args below meth c H1 locs1 cells slots Q (F0 m (pc + 1) ls rest)) : W p l e R s m args below meth c H locs cells slots Q (F0 m pc ls (.ref b :: .int (nI k) :: .ref a :: rest)) := by
  obtain ⟨h, h1, h2⟩ := hA
  refine z_aast hE hH hS h1 ht hb hc hk hN hB hdg fun H1 locs1 M1 a1 a2 a3 a4 => kk H1 locs1 M1 a1 a2 ⟨_, a3, fun i hi => ?_⟩ a4
  by_cases hq : i = k
  · simp [hq]
  · simp [hq, h2 i hi]
theorem tdR_0 (r : Nat → Nat) (p i : Nat) : tdR r p (p + 1) i = r i := by
  unfold tdR
  rw [if_neg (by omega)]
theorem tdR_k (r : Nat → Nat) (p k : Nat) : tdR r p k k = r k := by
  unfold tdR
  rw [if_neg (by omega)]
theorem tdR_step (r : Nat → Nat) {p k : Nat} (hpk : p < k) (w i : Nat) : (if i = k - 1 then w + 2 + 2 * tdR r p k k else w + 2 + 2 * tdR r p k i) = w + 2 + 2 * tdR r p (k + 1) i := by
  by_cases h : i = k - 1
  · rw [if_pos h, tdR_k]
    subst h
    unfold tdR
    rw [if_pos (by omega)]
    rw [Nat.sub_add_cancel (by omega)]
  · rw [if_neg h]
    unfold tdR
    by_cases h2 : p ≤ i ∧ i + 1 < k
    · rw [if_pos h2, if_pos (by omega)]
    · rw [if_neg h2, if_neg (by omega)]
def WlY (G : zG) (w : Nat) (r : Nat → Nat) (n d sa br : Nat) (U : Nat → Nat) (F C : Nat → Nat → Nat) (M : Mm) : Prop :=
  M w = some (.inr (4, [.ref (w + 1), .int (nI n), .ref (w + 26), .int (nI d), .int (nI sa), .int (nI br)])) ∧
  zArr G 0 M (w + 26) 10 (fun x => nI (U x)) ∧ ∀ j, j < 12 → Pst G (w + 2 + 2 * r j) (F j) (C j) M
theorem WlY.kept {G : zG} {w n d sa br : Nat} {r : Nat → Nat} {U : Nat → Nat} {F C : Nat → Nat → Nat} {M M1 : Mm} (h : WlY G w r n d sa br U F C M) (hr : rOk r) (o : ∀ q : Nat, q ≠ w + 1 → M1 q = M q) : WlY G w r n d sa br U F C M1 := by
  obtain ⟨h1, h2, h3⟩ := h
  exact ⟨by rw [o w (by omega)]; exact h1, h2.kept (o _ (by omega)), fun j hj => (h3 j hj).kept (o _ (by omega)) (o _ (by omega))⟩
theorem WlY.setN {G : zG} {w n d sa br x : Nat} {r : Nat → Nat} {U : Nat → Nat} {F C : Nat → Nat → Nat} {M M1 : Mm} (h : WlY G w r n d sa br U F C M) (e : M1 w = some (.inr (4, ([.ref (w + 1), .int (nI n), .ref (w + 26), .int (nI d), .int (nI sa), .int (nI br)] : List Value).set 1 (.int (nI x))))) (o : ∀ q : Nat, q ≠ w → M1 q = M q) : WlY G w r x d sa br U F C M1 := by
  obtain ⟨h1, h2, h3⟩ := h
  exact ⟨e, h2.kept (o _ (by omega)), fun j hj => (h3 j hj).kept (o _ (by omega)) (o _ (by omega))⟩
def tdI (p n i : Nat) : Nat := if i = n - 1 then p else if p ≤ i ∧ i + 1 < n then i + 1 else i
theorem tdE_I (r : Nat → Nat) (p n i : Nat) : tdE r p n i = r (tdI p n i) := by
  unfold tdE tdR tdI
  split
  · rfl
  · split <;> rfl
theorem td_fin {G : zG} {w p : Nat} {r : Nat → Nat} {v : Wv} {F C : Nat → Nat → Nat} {M : Mm} (hr : rOk r) (hn : v 0 ≤ 12) (hp : p < v 0) (hFC : ∀ j, j < v 0 → F j = pv v j ∧ C j = cv v j) (hY : WlY G w r (v 0 - 1) (v 1) (v 2) (v 3) (sv v) F C M) (hT : zRef G 1 M (w + 1) 12 (fun i => if i = v 0 - 1 then w + 2 + 2 * r p else w + 2 + 2 * tdR r p (v 0) i)) : Wl G w (tearV v p) M := by
  refine ⟨tdE r p (v 0), tdE_ok hr hp hn, ?_⟩
  have hX : WlX G w (tdE r p (v 0)) (v 0 - 1) (v 1) (v 2) (v 3) (sv v) (fun i => F (tdI p (v 0) i)) (fun i => C (tdI p (v 0) i)) M := by
    refine ⟨hY.1, hT.to fun i hi => ?_, hY.2.1, fun j hj => ?_⟩
    · unfold tdE
      by_cases h : i = v 0 - 1
      · rw [if_pos h, if_pos h]
      · rw [if_neg h, if_neg h]
    · rw [tdE_I]
      exact hY.2.2 _ (by unfold tdI; split <;> (try split) <;> omega)
  refine WlX.toR hX (tearV v p) (show v 0 - 1 ≤ 12 by omega) rfl (tearV_s v p hp (by decide) (by decide)).symm (tearV_s v p hp (by decide) (by decide)).symm (tearV_s v p hp (by decide) (by decide)).symm (fun x hx => (tearV_s v p hp (by omega) (by omega)).symm) fun j hj => ?_
  have hj' : j < v 0 - 1 := hj
  have hI : tdI p (v 0) j = if p ≤ j then j + 1 else j := by
    unfold tdI
    rw [if_neg (by omega)]
    by_cases h : p ≤ j
    · rw [if_pos (by omega), if_pos h]
    · rw [if_neg (by omega), if_neg h]
  have hlt : tdI p (v 0) j < v 0 := by rw [hI]; split <;> omega
  show (∀ k, k < 7 → F (tdI p (v 0) j) k = _) ∧ ∀ c, c < 60 → C (tdI p (v 0) j) c = _
  rw [(hFC _ hlt).1, (hFC _ hlt).2, hI]
  refine ⟨fun k hk => ?_, fun c hc => ?_⟩
  · rw [tearV_p v hp hn (by omega) hk]
    by_cases h : p ≤ j
    · rw [if_pos h, if_pos h]
    · rw [if_neg h, if_neg h]
  · rw [tearV_c v hp hn (by omega) hc]
    by_cases h : p ≤ j
    · rw [if_pos h, if_pos h]
    · rw [if_neg h, if_neg h]

set_option maxHeartbeats 4000000 in
set_option maxRecDepth 100000 in
theorem c_X4_takeDown (l : Launch) (G : zG) (B0 : Nat) (M : Mm) (w : Nat) (r : Nat → Nat) (v : Wv) (hW : WlR G w r v M) (hr : rOk r) (hv : wOk v) (hBw : B0 ≤ w) (p : Nat) (hp : p < v 0) : zMet l yX4_takeDown cX4_takeDown 4 none 1 0 0 G B0 M [.ref w, .int (nI p)] none (fun M1 => Wl G w (tearV v p) M1 ∧ ∀ q, (q < w ∨ w + 27 ≤ q) → M1 q = M q) := by
  refine z_met RX4 [(0, .ref w), (1, .int (nI p))] (by decide) rfl (Nat.le_of_ble_eq_true rfl) rfl ?_
  intro pg ev s m below meth cd ls hE hin hB0 hH hl
  have hx := hE.1
  have hb := hE.2.1
  have hn := hv.1
  obtain ⟨Fa, Ca, hX, hFC⟩ := hW.toX hn
  have hY : WlY G w r (v 0) (v 1) (v 2) (v 3) (sv v) Fa Ca M := ⟨hX.1, hX.2.2.1, hX.2.2.2⟩
  have hT : zRef G 1 M (w + 1) 12 (fun i => w + 2 + 2 * tdR r p (p + 1) i) := hX.2.1.to (fun i _ => by rw [tdR_0])
  have hF : ∀ q, (q < w ∨ w + 27 ≤ q) → M q = M q := fun _ _ => rfl
  refine z_gen B0 (fun H locs hH hS => ?_) hH
  refine lv_aload_n hx hb dX4_takeDown_0 rfl (lv_at hl 0 rfl) ?_
  refine z_get (T := TX4) (v := .ref (w + 1)) hE hH hY.1 rfl uw_X4 0 (by decide) fkX4_11 rfl dX4_takeDown_1 ?_
  refine lv_iload_n hx hb dX4_takeDown_4 rfl (lv_at hl 1 rfl) ?_
  refine z_aald hE hH hT rfl (k := p) (by omega) (by decide) dX4_takeDown_5 ?_
  refine lv_astore_n (lv' := [(2, .ref (w + 2 + 2 * tdR r p (p + 1) p)), (0, .ref w), (1, .int (nI p))]) hx hb dX4_takeDown_6 rfl hl (by decide) rfl (fun ls hl => ?_)
  refine lv_iload_n hx hb dX4_takeDown_7 rfl (lv_at hl 2 rfl) ?_
  refine n_iconst hx hb 1 dX4_takeDown_8 (by decide) ?_
  refine n_iadd hx hb dX4_takeDown_9 ?_
  refine lv_istore_n (lv' := [(3, .int (nI (p + 1))), (2, .ref (w + 2 + 2 * tdR r p (p + 1) p)), (0, .ref w), (1, .int (nI p))]) hx hb dX4_takeDown_10 rfl hl (by decide) rfl (fun ls hl => ?_)
  have L11 : ∀ (dd : Nat) (k : Nat) (M1 : Mm), v 0 < k + dd → (k ≤ v 0) → (p < k) → (WlY G w r (v 0) (v 1) (v 2) (v 3) (sv v) Fa Ca M1) → (zRef G 1 M1 (w + 1) 12 (fun i => w + 2 + 2 * tdR r p k i)) → (∀ q, (q < w ∨ w + 27 ≤ q) → M1 q = M q) → ∀ (H : Heap) (locs : List Loc), zH G M1 H → zS 0 B0 s.heap H locs → ∀ (ls : Array Slot), lv_has ls 4 [(0, .ref w), (1, .int (nI p)), (2, .ref (w + 2 + 2 * tdR r p (p + 1) p)), (3, .int (nI k))] → zW pg l ev 1 0 0 s m [.ref w, .int (nI p)] below meth cd H locs 0 0 G B0 none (fun M1 => Wl G w (tearV v p) M1 ∧ ∀ q, (q < w ∨ w + 27 ≤ q) → M1 q = M q) (F0 m 11 ls []) := by
    intro dd
    induction dd with
    | zero =>
      intro k M1 hdd hk hpk hY1 hT1 hF1
      exact absurd hdd (by omega)
    | succ dd ih =>
      intro k M1 hdd hk hpk hY1 hT1 hF1 H locs hH hS ls hl
      refine lv_iload_n hx hb dX4_takeDown_11 rfl (lv_at hl 3 rfl) ?_
      refine lv_aload_n hx hb dX4_takeDown_12 rfl (lv_at hl 0 rfl) ?_
      refine z_get (T := TX4) (v := .int (nI (v 0))) hE hH hY1.1 rfl uw_X4 1 (by decide) fkX4_22 rfl dX4_takeDown_13 ?_
      refine n_cmp_ge (tgt := 39) hx hb (by omega) (by omega) dX4_takeDown_16 (by decide) (fun h1 => ?_) (fun h1 => ?_)
      · refine lv_aload_n hx hb dX4_takeDown_39 rfl (lv_at hl 0 rfl) ?_
        refine lv_dup hx hb dX4_takeDown_40 rfl ?_
        refine z_get (T := TX4) (v := .int (nI (v 0))) hE hH hY1.1 rfl uw_X4 1 (by decide) fkX4_22 rfl dX4_takeDown_41 ?_
        refine n_iconst hx hb 1 dX4_takeDown_44 (by decide) ?_
        refine n_isub hx hb (by omega) dX4_takeDown_45 ?_
        refine z_put (T := TX4) hE hH hS hY1.1 rfl uw_X4 tyX4 tyX4_ok nmX4 1 (by decide) fkX4_22 rfl rfl rfl (Nat.le_of_ble_eq_true rfl) (by omega) dX4_takeDown_46 (fun H locs M4 hH hS e2 o3 => ?_)
        have hY5 := WlY.setN (x := (v 0) - 1) hY1 e2 o3
        have hT6 := hT1.kept (o3 _ (by omega))
        have hF7 := fun q hq => (o3 q (by omega)).trans (hF1 q hq)
        refine lv_aload_n hx hb dX4_takeDown_49 rfl (lv_at hl 0 rfl) ?_
        refine z_get (T := TX4) (v := .ref (w + 1)) hE hH hY5.1 rfl uw_X4 0 (by decide) fkX4_11 rfl dX4_takeDown_50 ?_
        refine lv_aload_n hx hb dX4_takeDown_53 rfl (lv_at hl 0 rfl) ?_
        refine z_get (T := TX4) (v := .int (nI ((v 0) - 1))) hE hH hY5.1 rfl uw_X4 1 (by decide) fkX4_22 rfl dX4_takeDown_54 ?_
        refine lv_aload_n hx hb dX4_takeDown_57 rfl (lv_at hl 2 rfl) ?_
        refine z_aastR hE hH hS hT6 rfl (by rw [tdR_0]; exact (hY5.2.2 p (by omega)).1) rfl (k := (v 0) - 1) (by omega) (by decide) (by omega) dX4_takeDown_58 (fun H locs M10 hH hS e8 o9 => ?_)
        have hY11 := WlY.kept hY5 hr o9
        have hT12 := e8
        have hF13 := fun q hq => (o9 q (by omega)).trans (hF7 q hq)
        exact z_vret hE hH hS ⟨by have hkk : k = v 0 := (by omega); subst hkk; exact td_fin hr hn hp hFC hY11 (hT12.to (fun i _ => by rw [tdR_0])), hF13⟩ dX4_takeDown_59
      · refine lv_aload_n hx hb dX4_takeDown_19 rfl (lv_at hl 0 rfl) ?_
        refine z_get (T := TX4) (v := .ref (w + 1)) hE hH hY1.1 rfl uw_X4 0 (by decide) fkX4_11 rfl dX4_takeDown_20 ?_
        refine lv_iload_n hx hb dX4_takeDown_23 rfl (lv_at hl 3 rfl) ?_
        refine n_iconst hx hb 1 dX4_takeDown_24 (by decide) ?_
        refine n_isub hx hb (by omega) dX4_takeDown_25 ?_
        refine lv_aload_n hx hb dX4_takeDown_26 rfl (lv_at hl 0 rfl) ?_
        refine z_get (T := TX4) (v := .ref (w + 1)) hE hH hY1.1 rfl uw_X4 0 (by decide) fkX4_11 rfl dX4_takeDown_27 ?_
        refine lv_iload_n hx hb dX4_takeDown_30 rfl (lv_at hl 3 rfl) ?_
        refine z_aald hE hH hT1 rfl (k := k) (by omega) (by decide) dX4_takeDown_31 ?_
        refine z_aastR hE hH hS hT1 rfl (by rw [tdR_k]; exact (hY1.2.2 k (by omega)).1) rfl (k := k - 1) (by omega) (by decide) (by omega) dX4_takeDown_32 (fun H locs M16 hH hS e14 o15 => ?_)
        have hY17 := WlY.kept hY1 hr o15
        have hT18 := zRef.to (g' := fun i => w + 2 + 2 * tdR r p (k + 1) i) e14 (fun i hi => tdR_step r (by omega) w i)
        have hF19 := fun q hq => (o15 q (by omega)).trans (hF1 q hq)
        refine lv_iinc (v := (nI (k + 1))) (lv' := [(3, .int (nI (k + 1))), (0, .ref w), (1, .int (nI p)), (2, .ref (w + 2 + 2 * tdR r p (p + 1) p))]) hx hb dX4_takeDown_33 hl (k := 3) rfl (nI_inc _) (by decide) rfl (fun ls hl => ?_)
        refine lv_goto (tgt := 11) hx hb dX4_takeDown_36 (by decide) ?_
        exact ih  (k + 1) M16 (by omega) (by omega) (by omega) hY17 hT18 hF19 _ _ hH hS _ (lv_sub hl [1, 2, 3, 0] rfl)
  exact L11 (v 0 + 1) (p + 1) M (by omega) (by omega) (by omega) hY hT hF _ _ hH hS _ (lv_sub hl [2, 3, 1, 0] rfl)
end
section
theorem tdR_stepA (A : Nat → Nat) (r : Nat → Nat) {p k : Nat} (hpk : p < k) (i : Nat) : (if i = k - 1 then A (tdR r p k k) else A (tdR r p k i)) = A (tdR r p (k + 1) i) := by
  by_cases h : i = k - 1
  · rw [if_pos h, tdR_k]
    subst h
    unfold tdR
    rw [if_pos (by omega)]
    rw [Nat.sub_add_cancel (by omega)]
  · rw [if_neg h]
    unfold tdR
    by_cases h2 : p ≤ i ∧ i + 1 < k
    · rw [if_pos h2, if_pos (by omega)]
    · rw [if_neg h2, if_neg (by omega)]
def hOk (t : Nat → Nat) : Prop := (∀ j, j < 6 → t j < 6) ∧ ∀ i j, i < 6 → j < 6 → t i = t j → i = j
/-- the history's cells, the references by t, the size n -/
def HsB (G : zG) (h n : Nat) (t : Nat → Nat) (M : Mm) : Prop :=
  M h = some (.inr (1, [.ref (h + 1), .int (nI n)])) ∧ zRef G 2 M (h + 1) 6 (fun k => h + 2 + 27 * t k) ∧ ∀ k, k < 6 → ∃ v, v 0 ≤ 12 ∧ Wl G (h + 2 + 27 * k) v M
def HsL (G : zG) (h n : Nat) (t : Nat → Nat) (hist : Nat → Wv) (M : Mm) : Prop := ∀ k, k < n → Wl G (h + 2 + 27 * t k) (hist k) M
def Hs (G : zG) (h n : Nat) (hist : Nat → Wv) (M : Mm) : Prop := ∃ t, hOk t ∧ HsB G h n t M ∧ HsL G h n t hist M
theorem HsB.kept {G : zG} {h n : Nat} {t : Nat → Nat} {M M1 : Mm} (H : HsB G h n t M) (o : ∀ q, h ≤ q → q < h + 164 → M1 q = M q) : HsB G h n t M1 := by
  obtain ⟨h1, h2, h3⟩ := H
  refine ⟨by rw [o h (by omega) (by omega)]; exact h1, h2.kept (o _ (by omega) (by omega)), fun k hk => ?_⟩
  obtain ⟨v, hv, hw⟩ := h3 k hk
  exact ⟨v, hv, hw.kept hv (fun q a b => o q (by omega) (by omega))⟩
theorem HsL.kept {G : zG} {h n : Nat} {t : Nat → Nat} {hist : Nat → Wv} {M M1 : Mm} (H : HsL G h n t hist M) (ht : hOk t) (hn : n ≤ 6) (hv : ∀ k, k < n → wOk (hist k)) (o : ∀ q, h + 2 ≤ q → q < h + 164 → M1 q = M q) : HsL G h n t hist M1 := fun k hk => by
  have := ht.1 k (by omega)
  exact (H k hk).kept (hv k hk).1 (fun q a b => o q (by omega) (by omega))
theorem Hs.kept {G : zG} {h n : Nat} {hist : Nat → Wv} {M M1 : Mm} (H : Hs G h n hist M) (hn : n ≤ 6) (hv : ∀ k, k < n → wOk (hist k)) (o : ∀ q, h ≤ q → q < h + 164 → M1 q = M q) : Hs G h n hist M1 := by
  obtain ⟨t, ht, h1, h2⟩ := H
  exact ⟨t, ht, h1.kept o, h2.kept ht hn hv (fun q a b => o q (by omega) b)⟩
theorem HsB.setN {G : zG} {h n x : Nat} {t : Nat → Nat} {M M1 : Mm} (H : HsB G h n t M) (e : M1 h = some (.inr (1, ([.ref (h + 1), .int (nI n)] : List Value).set 1 (.int (nI x))))) (o : ∀ q : Nat, q ≠ h → M1 q = M q) : HsB G h x t M1 := by
  obtain ⟨h1, h2, h3⟩ := H
  refine ⟨e, h2.kept (o _ (by omega)), fun k hk => ?_⟩
  obtain ⟨v, hv, hw⟩ := h3 k hk
  exact ⟨v, hv, hw.kept hv (fun q a b => o q (by omega))⟩
/-- the references while the oldest is dropped -/
def HsD (G : zG) (h n : Nat) (M : Mm) : Prop := M h = some (.inr (1, [.ref (h + 1), .int (nI n)])) ∧ ∀ k, k < 6 → ∃ v, v 0 ≤ 12 ∧ Wl G (h + 2 + 27 * k) v M
theorem HsD.at {G : zG} {h n j : Nat} {M : Mm} (H : HsD G h n M) (hj : j < 6) : ∃ fs, M (h + 2 + 27 * j) = some (.inr (4, fs)) := by
  obtain ⟨v, hv, r, hr, hw⟩ := H.2 j hj
  exact ⟨_, hw.1⟩
theorem HsD.kept {G : zG} {h n : Nat} {M M1 : Mm} (H : HsD G h n M) (o : ∀ q : Nat, q ≠ h + 1 → M1 q = M q) : HsD G h n M1 := by
  obtain ⟨h1, h3⟩ := H
  refine ⟨by rw [o h (by omega)]; exact h1, fun k hk => ?_⟩
  obtain ⟨v, hv, hw⟩ := h3 k hk
  exact ⟨v, hv, hw.kept hv (fun q a b => o q (by omega))⟩
theorem HsD.setN {G : zG} {h n x : Nat} {M M1 : Mm} (H : HsD G h n M) (e : M1 h = some (.inr (1, ([.ref (h + 1), .int (nI n)] : List Value).set 1 (.int (nI x))))) (o : ∀ q : Nat, q ≠ h → M1 q = M q) : HsD G h x M1 := by
  obtain ⟨h1, h3⟩ := H
  refine ⟨e, fun k hk => ?_⟩
  obtain ⟨v, hv, hw⟩ := h3 k hk
  exact ⟨v, hv, hw.kept hv (fun q a b => o q (by omega))⟩
def tdT (t : Nat → Nat) : Nat → Nat := fun i => if i = 5 then t 0 else t (i + 1)
theorem tdT_ok {t : Nat → Nat} (ht : hOk t) : hOk (tdT t) := by
  refine ⟨fun j hj => ?_, fun i j hi hj h => ?_⟩
  · unfold tdT; split
    · exact ht.1 0 (by decide)
    · exact ht.1 _ (by omega)
  · unfold tdT at h
    split at h <;> split at h
    · omega
    · have := ht.2 _ _ (by decide) (by omega) h; omega
    · have := ht.2 _ _ (by omega) (by decide) h; omega
    · have := ht.2 _ _ (by omega) (by omega) h; omega
theorem drop_fin {G : zG} {h n : Nat} {t : Nat → Nat} {M : Mm} (H : HsD G h n M) (hT : zRef G 2 M (h + 1) 6 (fun i => if i = 5 then h + 2 + 27 * t 0 else h + 2 + 27 * tdR t 0 6 i)) : HsB G h n (tdT t) M := by
  refine ⟨H.1, hT.to fun i hi => ?_, H.2⟩
  unfold tdT tdR
  by_cases h5 : i = 5
  · rw [if_pos h5, if_pos h5]
  · rw [if_neg h5, if_neg h5, if_pos ⟨Nat.zero_le _, by omega⟩]
def keepN (n : Nat) : Nat := if n = 6 then 6 else n + 1
def keepH (hist : Nat → Wv) (n : Nat) (v : Wv) : Nat → Wv := fun k => if n = 6 then (if k < 5 then hist (k + 1) else v) else if k = n then v else hist k
theorem keepN_le {n : Nat} (h : n ≤ 6) : keepN n ≤ 6 := by unfold keepN; split <;> omega
theorem keepH_ok {hist : Nat → Wv} {n : Nat} {v : Wv} (hn : n ≤ 6) (hh : ∀ k, k < n → wOk (hist k)) (hv : wOk v) : ∀ k, k < keepN n → wOk (keepH hist n v k) := by
  intro k hk
  unfold keepN at hk
  unfold keepH
  split at hk
  · next h6 =>
    rw [if_pos h6]
    split
    · exact hh _ (by omega)
    · exact hv
  · next h6 =>
    rw [if_neg h6]
    split
    · exact hv
    · exact hh _ (by omega)
/-- behind a state's copy: all its places, those of before and the new one -/
theorem keep_fin {G : zG} {h n x : Nat} {t : Nat → Nat} {hist : Nat → Wv} {v : Wv} {M M1 : Mm} (H : HsB G h n t M) (L : HsL G h n t hist M) (ht : hOk t) (hn : n < 6) (hv : ∀ k, k < n → wOk (hist k)) {rd : Nat → Nat} (hrd : rOk rd) (hvv : wOk v) (hW : WlR G (h + 2 + 27 * t n) rd v M1) (o : ∀ q, (q < h + 2 + 27 * t n ∨ h + 2 + 27 * t n + 27 ≤ q) → M1 q = M q) : HsB G h n t M1 ∧ HsL G h (n + 1) t (fun k => if k = n then v else hist k) M1 := by
  obtain ⟨h1, h2, h3⟩ := H
  have htn := ht.1 n (by omega)
  refine ⟨⟨by rw [o h (by omega)]; exact h1, h2.kept (o _ (by omega)), fun k hk => ?_⟩, fun k hk => ?_⟩
  · by_cases hkn : k = t n
    · subst hkn; exact ⟨v, hvv.1, rd, hrd, hW⟩
    · obtain ⟨v2, hv2, hw⟩ := h3 k hk
      exact ⟨v2, hv2, hw.kept hv2 (fun q a b => o q (by omega))⟩
  · by_cases hkn : k = n
    · subst hkn
      show Wl G _ (if k = k then v else hist k) M1
      rw [if_pos rfl]
      exact ⟨rd, hrd, hW⟩
    · have hne : t k ≠ t n := fun q => hkn (ht.2 k n (by omega) (by omega) q)
      have := ht.1 k (by omega)
      show Wl G _ (if k = n then v else hist k) M1
      rw [if_neg hkn]
      exact (L k (by omega)).kept (hv k (by omega)).1 (fun q a b => o q (by omega))
theorem HsL.to {G : zG} {h n : Nat} {t : Nat → Nat} {hist hist2 : Nat → Wv} {M : Mm} (H : HsL G h n t hist M) (e : ∀ k, k < n → hist k = hist2 k) : HsL G h n t hist2 M := fun k hk => by rw [← e k hk]; exact H k hk

set_option maxHeartbeats 4000000 in
set_option maxRecDepth 100000 in
theorem c_X1_dropOldest (l : Launch) (G : zG) (B0 : Nat) (M : Mm) (h : Nat) (t : Nat → Nat) (ht : hOk t) (hHs : HsB G h 6 t M) (hBh : B0 ≤ h) : zMet l yX1_dropOldest cX1_dropOldest 3 none 1 0 0 G B0 M [.ref h] none (fun M1 => HsB G h 5 (tdT t) M1 ∧ ∀ q, (q ≠ h ∧ q ≠ h + 1) → M1 q = M q) := by
  refine z_met RX1 [(0, .ref h)] (by decide) rfl (Nat.le_of_ble_eq_true rfl) rfl ?_
  intro pg ev s m below meth cd ls hE hin hB0 hH hl
  have hx := hE.1
  have hb := hE.2.1
  have hD : HsD G h 6 M := ⟨hHs.1, hHs.2.2⟩
  have hT : zRef G 2 M (h + 1) 6 (fun i => h + 2 + 27 * tdR t 0 (0 + 1) i) := hHs.2.1.to (fun i _ => by rw [tdR_0])
  have hF : ∀ q, (q ≠ h ∧ q ≠ h + 1) → M q = M q := fun _ _ => rfl
  refine z_gen B0 (fun H locs hH hS => ?_) hH
  refine lv_aload_n hx hb dX1_dropOldest_0 rfl (lv_at hl 0 rfl) ?_
  refine z_get (T := TX1) (v := .ref (h + 1)) hE hH hD.1 rfl uw_X1 0 (by decide) fkX1_11 rfl dX1_dropOldest_1 ?_
  refine n_iconst hx hb 0 dX1_dropOldest_4 (by decide) ?_
  have q1 := ht.1 0 (by omega)
  obtain ⟨fs2, hm3⟩ := hD.at (j := t 0) (by omega)
  refine z_aald hE hH hT rfl (k := 0) (by omega) (by decide) dX1_dropOldest_5 ?_
  refine lv_astore_n (lv' := [(1, .ref (h + 2 + 27 * tdR t 0 (0 + 1) 0)), (0, .ref h)]) hx hb dX1_dropOldest_6 rfl hl (by decide) rfl (fun ls hl => ?_)
  refine n_iconst hx hb 1 dX1_dropOldest_7 (by decide) ?_
  refine lv_istore_n (lv' := [(2, .int (nI 1)), (1, .ref (h + 2 + 27 * tdR t 0 (0 + 1) 0)), (0, .ref h)]) hx hb dX1_dropOldest_8 rfl hl (by decide) rfl (fun ls hl => ?_)
  have L9 : ∀ (dd : Nat) (k : Nat) (M1 : Mm), 6 < k + dd → (k ≤ 6) → (0 < k) → (HsD G h 6 M1) → (zRef G 2 M1 (h + 1) 6 (fun i => h + 2 + 27 * tdR t 0 k i)) → (∀ q, (q ≠ h ∧ q ≠ h + 1) → M1 q = M q) → ∀ (H : Heap) (locs : List Loc), zH G M1 H → zS 0 B0 s.heap H locs → ∀ (ls : Array Slot), lv_has ls 3 [(0, .ref h), (1, .ref (h + 2 + 27 * tdR t 0 (0 + 1) 0)), (2, .int (nI k))] → zW pg l ev 1 0 0 s m [.ref h] below meth cd H locs 0 0 G B0 none (fun M1 => HsB G h 5 (tdT t) M1 ∧ ∀ q, (q ≠ h ∧ q ≠ h + 1) → M1 q = M q) (F0 m 9 ls []) := by
    intro dd
    induction dd with
    | zero =>
      intro k M1 hdd hk hpk hD1 hT1 hF1
      exact absurd hdd (by omega)
    | succ dd ih =>
      intro k M1 hdd hk hpk hD1 hT1 hF1 H locs hH hS ls hl
      refine lv_iload_n hx hb dX1_dropOldest_9 rfl (lv_at hl 2 rfl) ?_
      refine n_bipush hx hb 6 dX1_dropOldest_10 (by decide) ?_
      refine n_cmp_ge (tgt := 35) hx hb (by omega) (by decide) dX1_dropOldest_12 (by decide) (fun h4 => ?_) (fun h4 => ?_)
      · obtain rfl : k = 6 := by omega
        refine lv_aload_n hx hb dX1_dropOldest_35 rfl (lv_at hl 0 rfl) ?_
        refine z_get (T := TX1) (v := .ref (h + 1)) hE hH hD1.1 rfl uw_X1 0 (by decide) fkX1_11 rfl dX1_dropOldest_36 ?_
        refine n_iconst hx hb 5 dX1_dropOldest_39 (by decide) ?_
        refine lv_aload_n hx hb dX1_dropOldest_40 rfl (lv_at hl 1 rfl) ?_
        have ht0 := ht.1 0 (by decide)
        obtain ⟨fs8, hm9⟩ := hD1.at (j := t 0) (by omega)
        refine z_aastR hE hH hS hT1 rfl (by rw [tdR_0]; exact hm9) rfl (k := 5) (by omega) (by decide) (by omega) dX1_dropOldest_41 (fun H locs M7 hH hS e5 o6 => ?_)
        have hD10 := HsD.kept hD1 o6
        have hT11 := e5
        have hF12 := fun q hq => (o6 q (by omega)).trans (hF1 q hq)
        refine lv_aload_n hx hb dX1_dropOldest_42 rfl (lv_at hl 0 rfl) ?_
        refine n_iconst hx hb 5 dX1_dropOldest_43 (by decide) ?_
        refine z_put (T := TX1) hE hH hS hD10.1 rfl uw_X1 tyX1 tyX1_ok nmX1 1 (by decide) fkX1_18 rfl rfl rfl (Nat.le_of_ble_eq_true rfl) (by omega) dX1_dropOldest_44 (fun H locs M15 hH hS e13 o14 => ?_)
        have hD16 := HsD.setN (x := 5) hD10 e13 o14
        have hT17 := hT11.kept (o14 _ (by omega))
        have hF18 := fun q hq => (o14 q (by omega)).trans (hF12 q hq)
        exact z_vret hE hH hS ⟨drop_fin hD16 (hT17.to (fun i _ => by rw [tdR_0])), hF18⟩ dX1_dropOldest_47
      · refine lv_aload_n hx hb dX1_dropOldest_15 rfl (lv_at hl 0 rfl) ?_
        refine z_get (T := TX1) (v := .ref (h + 1)) hE hH hD1.1 rfl uw_X1 0 (by decide) fkX1_11 rfl dX1_dropOldest_16 ?_
        refine lv_iload_n hx hb dX1_dropOldest_19 rfl (lv_at hl 2 rfl) ?_
        refine n_iconst hx hb 1 dX1_dropOldest_20 (by decide) ?_
        refine n_isub hx hb (by omega) dX1_dropOldest_21 ?_
        refine lv_aload_n hx hb dX1_dropOldest_22 rfl (lv_at hl 0 rfl) ?_
        refine z_get (T := TX1) (v := .ref (h + 1)) hE hH hD1.1 rfl uw_X1 0 (by decide) fkX1_11 rfl dX1_dropOldest_23 ?_
        refine lv_iload_n hx hb dX1_dropOldest_26 rfl (lv_at hl 2 rfl) ?_
        have q19 := ht.1 k (by omega)
        obtain ⟨fs20, hm21⟩ := hD1.at (j := t k) (by omega)
        refine z_aald hE hH hT1 rfl (k := k) (by omega) (by decide) dX1_dropOldest_27 ?_
        refine z_aastR hE hH hS hT1 rfl (by rw [tdR_k]; exact hm21) rfl (k := k - 1) (by omega) (by decide) (by omega) dX1_dropOldest_28 (fun H locs M24 hH hS e22 o23 => ?_)
        have hD25 := HsD.kept hD1 o23
        have hT26 := zRef.to (g' := fun i => h + 2 + 27 * tdR t 0 (k + 1) i) e22 (fun i hi => tdR_stepA (fun z => h + 2 + 27 * z) t (by omega) i)
        have hF27 := fun q hq => (o23 q (by omega)).trans (hF1 q hq)
        refine lv_iinc (v := (nI (k + 1))) (lv' := [(2, .int (nI (k + 1))), (0, .ref h), (1, .ref (h + 2 + 27 * tdR t 0 (0 + 1) 0))]) hx hb dX1_dropOldest_29 hl (k := 2) rfl (nI_inc _) (by decide) rfl (fun ls hl => ?_)
        refine lv_goto (tgt := 9) hx hb dX1_dropOldest_32 (by decide) ?_
        exact ih  (k + 1) M24 (by omega) (by omega) (by omega) hD25 hT26 hF27 _ _ hH hS _ (lv_sub hl [1, 2, 0] rfl)
  exact L9 7 1 M (by omega) (by omega) (by omega) hD hT hF _ _ hH hS _ (lv_sub hl [2, 1, 0] rfl)

set_option maxHeartbeats 4000000 in
set_option maxRecDepth 100000 in
theorem c_X1_keep (l : Launch) (G : zG) (B0 : Nat) (M : Mm) (h n : Nat) (hist : Nat → Wv) (hHs : Hs G h n hist M) (hn6 : n ≤ 6) (hhv : ∀ k, k < n → wOk (hist k)) (w : Nat) (r : Nat → Nat) (v : Wv) (hW : WlR G w r v M) (hr : rOk r) (hv : wOk v) (hBh : B0 ≤ h) (hd : w + 27 ≤ h ∨ h + 164 ≤ w) : zMet l yX1_keep cX1_keep 2 none 4 0 0 G B0 M [.ref h, .ref w] none (fun M1 => Hs G h (keepN n) (keepH hist n v) M1 ∧ ∀ q, (q < h ∨ h + 164 ≤ q) → M1 q = M q) := by
  refine z_met RX1 [(0, .ref h), (1, .ref w)] (by decide) rfl (Nat.le_of_ble_eq_true rfl) rfl ?_
  intro pg ev s m below meth cd ls hE hin hB0 hH hl
  have hx := hE.1
  have hb := hE.2.1
  obtain ⟨t, ht, hB, hL⟩ := hHs
  have hF : ∀ q, (q < h ∨ h + 164 ≤ q) → M q = M q := fun _ _ => rfl
  refine z_gen B0 (fun H locs hH hS => ?_) hH
  refine lv_aload_n hx hb dX1_keep_0 rfl (lv_at hl 0 rfl) ?_
  refine z_get (T := TX1) (v := .int (nI n)) hE hH hB.1 rfl uw_X1 1 (by decide) fkX1_18 rfl dX1_keep_1 ?_
  refine n_bipush hx hb 6 dX1_keep_4 (by decide) ?_
  refine n_cmp_lt (tgt := 13) hx hb (by omega) (by decide) dX1_keep_6 (by decide) (fun h1 => ?_) (fun h1 => ?_)
  · refine lv_aload_n hx hb dX1_keep_13 rfl (lv_at hl 0 rfl) ?_
    refine z_get (T := TX1) (v := .ref (h + 1)) hE hH hB.1 rfl uw_X1 0 (by decide) fkX1_11 rfl dX1_keep_14 ?_
    refine lv_aload_n hx hb dX1_keep_17 rfl (lv_at hl 0 rfl) ?_
    refine z_get (T := TX1) (v := .int (nI n)) hE hH hB.1 rfl uw_X1 1 (by decide) fkX1_18 rfl dX1_keep_18 ?_
    refine z_aald hE hH hB.2.1 rfl (k := n) (by omega) (by decide) dX1_keep_21 ?_
    refine lv_aload_n hx hb dX1_keep_22 rfl (lv_at hl 1 rfl) ?_
    have hti := ht.1 n (by omega)
    obtain ⟨vd, hvd0, rd, hrd, hWdst⟩ := hB.2.2 (t n) hti
    refine z_callV (rest := []) (st2 := []) hE hH hS hB0 hl ca_X4_copyFrom mkX1_25 (c_X4_copyFrom l G B0 M (h + 2 + 27 * t n) rd vd hWdst hrd hvd0 (by omega) w r v hW hr hv (by omega)) hWdst.1 rfl rfl rfl rfl rfl ⟨Nat.le_of_ble_eq_true rfl, Nat.le_of_ble_eq_true rfl⟩ (Nat.le_of_ble_eq_true rfl) ⟨Nat.le_refl _, Nat.le_refl _⟩ dX1_keep_23 (fun H locs M2 hH hp hS => ?_)
    obtain ⟨hWn, hGn⟩ := hp
    obtain ⟨hBn, hLn⟩ := keep_fin hB hL ht (by omega) hhv hrd hv hWn hGn (x := 0)
    have hFn := fun q (hq : q < h ∨ h + 164 ≤ q) => (hGn q (by omega)).trans (hF q hq)
    have hvn : ∀ k, k < n + 1 → wOk ((fun k => if k = n then v else hist k) k) := fun k hk => by
      show wOk (if k = n then v else hist k)
      split
      · exact hv
      · exact hhv k (by omega)
    refine lv_aload_n hx hb dX1_keep_26 rfl (lv_at hl 0 rfl) ?_
    refine lv_dup hx hb dX1_keep_27 rfl ?_
    refine z_get (T := TX1) (v := .int (nI n)) hE hH hBn.1 rfl uw_X1 1 (by decide) fkX1_18 rfl dX1_keep_28 ?_
    refine n_iconst hx hb 1 dX1_keep_31 (by decide) ?_
    refine n_iadd hx hb dX1_keep_32 ?_
    refine z_put (T := TX1) hE hH hS hBn.1 rfl uw_X1 tyX1 tyX1_ok nmX1 1 (by decide) fkX1_18 rfl rfl rfl (Nat.le_of_ble_eq_true rfl) (by omega) dX1_keep_33 (fun H locs M5 hH hS e3 o4 => ?_)
    have hB6 := HsB.setN (x := n + 1) hBn e3 o4
    have hL7 := HsL.kept hLn ht (by omega) hvn (fun q _ _ => o4 q (by omega))
    have hF8 := fun q hq => (o4 q (by omega)).trans (hFn q hq)
    exact z_vret hE hH hS ⟨⟨t, ht, by rw [show keepN n = n + 1 from if_neg (by omega)]; exact hB6, by rw [show keepN n = n + 1 from if_neg (by omega)]; exact hL7.to (fun k _ => (if_neg (show n ≠ 6 by omega)).symm)⟩, hF8⟩ dX1_keep_36
  · refine lv_aload_n hx hb dX1_keep_9 rfl (lv_at hl 0 rfl) ?_
    obtain rfl : n = 6 := by omega
    refine z_callV (rest := []) (st2 := []) hE hH hS hB0 hl ca_X1_dropOldest mkX1_22 (c_X1_dropOldest l G B0 M h t ht hB (by omega)) hB.1 rfl rfl rfl rfl rfl ⟨Nat.le_of_ble_eq_true rfl, Nat.le_of_ble_eq_true rfl⟩ (Nat.le_of_ble_eq_true rfl) ⟨Nat.le_refl _, Nat.le_refl _⟩ dX1_keep_10 (fun H locs MD hH hp hS => ?_)
    obtain ⟨hBd, hGd⟩ := hp
    have hLd : HsL G h 5 (tdT t) (fun k => hist (k + 1)) MD := fun k hk => by
      have hh := (hL (k + 1) (by omega)).kept (hhv _ (by omega)).1 (M1 := MD) (fun q a b => hGd q (by omega))
      unfold tdT
      rw [if_neg (by omega)]
      exact hh
    have hvd : ∀ k, k < 5 → wOk (hist (k + 1)) := fun k hk => hhv _ (by omega)
    have hFd : ∀ q, (q < h ∨ h + 164 ≤ q) → MD q = M q := fun q hq => hGd q (by omega)
    have hWd := WlR.kept hr hv.1 hW (fun q a b => hGd q (by omega))
    refine lv_aload_n hx hb dX1_keep_13 rfl (lv_at hl 0 rfl) ?_
    refine z_get (T := TX1) (v := .ref (h + 1)) hE hH hBd.1 rfl uw_X1 0 (by decide) fkX1_11 rfl dX1_keep_14 ?_
    refine lv_aload_n hx hb dX1_keep_17 rfl (lv_at hl 0 rfl) ?_
    refine z_get (T := TX1) (v := .int (nI 5)) hE hH hBd.1 rfl uw_X1 1 (by decide) fkX1_18 rfl dX1_keep_18 ?_
    refine z_aald hE hH hBd.2.1 rfl (k := 5) (by omega) (by decide) dX1_keep_21 ?_
    refine lv_aload_n hx hb dX1_keep_22 rfl (lv_at hl 1 rfl) ?_
    have hti := (tdT_ok ht).1 5 (by omega)
    obtain ⟨vd, hvd0, rd, hrd, hWdst⟩ := hBd.2.2 ((tdT t) 5) hti
    refine z_callV (rest := []) (st2 := []) hE hH hS hB0 hl ca_X4_copyFrom mkX1_25 (c_X4_copyFrom l G B0 MD (h + 2 + 27 * (tdT t) 5) rd vd hWdst hrd hvd0 (by omega) w r v hWd hr hv (by omega)) hWdst.1 rfl rfl rfl rfl rfl ⟨Nat.le_of_ble_eq_true rfl, Nat.le_of_ble_eq_true rfl⟩ (Nat.le_of_ble_eq_true rfl) ⟨Nat.le_refl _, Nat.le_refl _⟩ dX1_keep_23 (fun H locs M10 hH hp hS => ?_)
    obtain ⟨hWn, hGn⟩ := hp
    obtain ⟨hBn, hLn⟩ := keep_fin hBd hLd (tdT_ok ht) (by omega) hvd hrd hv hWn hGn (x := 0)
    have hFn := fun q (hq : q < h ∨ h + 164 ≤ q) => (hGn q (by omega)).trans (hFd q hq)
    have hvn : ∀ k, k < 5 + 1 → wOk ((fun k => if k = 5 then v else (fun k => hist (k + 1)) k) k) := fun k hk => by
      show wOk (if k = 5 then v else (fun k => hist (k + 1)) k)
      split
      · exact hv
      · exact hvd k (by omega)
    refine lv_aload_n hx hb dX1_keep_26 rfl (lv_at hl 0 rfl) ?_
    refine lv_dup hx hb dX1_keep_27 rfl ?_
    refine z_get (T := TX1) (v := .int (nI 5)) hE hH hBn.1 rfl uw_X1 1 (by decide) fkX1_18 rfl dX1_keep_28 ?_
    refine n_iconst hx hb 1 dX1_keep_31 (by decide) ?_
    refine n_iadd hx hb dX1_keep_32 ?_
    refine z_put (T := TX1) hE hH hS hBn.1 rfl uw_X1 tyX1 tyX1_ok nmX1 1 (by decide) fkX1_18 rfl rfl rfl (Nat.le_of_ble_eq_true rfl) (by omega) dX1_keep_33 (fun H locs M13 hH hS e11 o12 => ?_)
    have hB14 := HsB.setN (x := 5 + 1) hBn e11 o12
    have hL15 := HsL.kept hLn (tdT_ok ht) (by omega) hvn (fun q _ _ => o12 q (by omega))
    have hF16 := fun q hq => (o12 q (by omega)).trans (hFn q hq)
    exact z_vret hE hH hS ⟨⟨tdT t, tdT_ok ht, hB14, hL15.to (fun k hk => by unfold keepH; rw [if_pos rfl]; by_cases h5 : k = 5; (· rw [if_pos h5, if_neg (by omega)]); (· rw [if_neg h5, if_pos (by have : k < 5 + 1 := hk; omega)]))⟩, hF16⟩ dX1_keep_36

set_option maxHeartbeats 4000000 in
set_option maxRecDepth 100000 in
theorem c_X1_takeBack (l : Launch) (G : zG) (B0 : Nat) (M : Mm) (h n : Nat) (hist : Nat → Wv) (hHs : Hs G h n hist M) (hn0 : 0 < n) (hn6 : n ≤ 6) (hhv : ∀ k, k < n → wOk (hist k)) (w : Nat) (r : Nat → Nat) (v : Wv) (hW : WlR G w r v M) (hr : rOk r) (hn : v 0 ≤ 12) (hBh : B0 ≤ h) (hBw : B0 ≤ w) (hd : w + 27 ≤ h ∨ h + 164 ≤ w) : zMet l yX1_takeBack cX1_takeBack 2 none 4 0 0 G B0 M [.ref h, .ref w] none (fun M1 => Wl G w (hist (n - 1)) M1 ∧ Hs G h (n - 1) hist M1 ∧ ∀ q, q ≠ h → (q < w ∨ w + 27 ≤ q) → M1 q = M q) := by
  refine z_met RX1 [(0, .ref h), (1, .ref w)] (by decide) rfl (Nat.le_of_ble_eq_true rfl) rfl ?_
  intro pg ev s m below meth cd ls hE hin hB0 hH hl
  have hx := hE.1
  have hb := hE.2.1
  obtain ⟨t, ht, hB, hL⟩ := hHs
  refine z_gen B0 (fun H locs hH hS => ?_) hH
  refine lv_aload_n hx hb dX1_takeBack_0 rfl (lv_at hl 0 rfl) ?_
  refine z_get (T := TX1) (v := .int (nI n)) hE hH hB.1 rfl uw_X1 1 (by decide) fkX1_18 rfl dX1_takeBack_1 ?_
  refine n_if_le (tgt := 30) hx hb (by omega) dX1_takeBack_4 (by decide) (fun h1 => ?_) (fun h1 => ?_)
  · exfalso; omega
  · refine lv_aload_n hx hb dX1_takeBack_7 rfl (lv_at hl 0 rfl) ?_
    refine lv_dup hx hb dX1_takeBack_8 rfl ?_
    refine z_get (T := TX1) (v := .int (nI n)) hE hH hB.1 rfl uw_X1 1 (by decide) fkX1_18 rfl dX1_takeBack_9 ?_
    refine n_iconst hx hb 1 dX1_takeBack_12 (by decide) ?_
    refine n_isub hx hb (by omega) dX1_takeBack_13 ?_
    refine z_put (T := TX1) hE hH hS hB.1 rfl uw_X1 tyX1 tyX1_ok nmX1 1 (by decide) fkX1_18 rfl rfl rfl (Nat.le_of_ble_eq_true rfl) (by omega) dX1_takeBack_14 (fun H locs M4 hH hS e2 o3 => ?_)
    have hBn := HsB.setN (x := n - 1) hB e2 o3
    have hLn : HsL G h n t hist M4 := HsL.kept hL ht (by omega) hhv (fun q _ _ => o3 q (by omega))
    have hWn := WlR.kept hr hn hW (fun q a b => o3 q (by omega))
    have hFn : ∀ q, q ≠ h → (q < w ∨ w + 27 ≤ q) → M4 q = M q := fun q hq _ => o3 q hq
    refine lv_aload_n hx hb dX1_takeBack_17 rfl (lv_at hl 1 rfl) ?_
    refine lv_aload_n hx hb dX1_takeBack_18 rfl (lv_at hl 0 rfl) ?_
    refine z_get (T := TX1) (v := .ref (h + 1)) hE hH hBn.1 rfl uw_X1 0 (by decide) fkX1_11 rfl dX1_takeBack_19 ?_
    refine lv_aload_n hx hb dX1_takeBack_22 rfl (lv_at hl 0 rfl) ?_
    refine z_get (T := TX1) (v := .int (nI (n - 1))) hE hH hBn.1 rfl uw_X1 1 (by decide) fkX1_18 rfl dX1_takeBack_23 ?_
    refine z_aald hE hH hBn.2.1 rfl (k := n - 1) (by omega) (by decide) dX1_takeBack_26 ?_
    have hti := ht.1 (n - 1) (by omega)
    obtain ⟨rs, hrs, hWs⟩ := hLn (n - 1) (by omega)
    refine z_callV (rest := []) (st2 := []) hE hH hS hB0 hl ca_X4_copyFrom mkX1_25 (c_X4_copyFrom l G B0 M4 w r v hWn hr hn (by omega) (h + 2 + 27 * t (n - 1)) rs (hist (n - 1)) hWs hrs (hhv _ (by omega)) (by omega)) hWn.1 rfl rfl rfl rfl rfl ⟨Nat.le_of_ble_eq_true rfl, Nat.le_of_ble_eq_true rfl⟩ (Nat.le_of_ble_eq_true rfl) ⟨Nat.le_refl _, Nat.le_refl _⟩ dX1_takeBack_27 (fun H locs M5 hH hp hS => ?_)
    obtain ⟨hWe, hGe⟩ := hp
    have hBe := hBn.kept (fun q a b => hGe q (by omega))
    have hLe : HsL G h (n - 1) t hist _ := HsL.kept (fun k hk => hLn k (by omega)) ht (by omega) (fun k hk => hhv k (by omega)) (fun q a b => hGe q (by omega))
    exact z_vret hE hH hS ⟨⟨r, hr, hWe⟩, ⟨t, ht, hBe, hLe⟩, fun q h1 h2 => (hGe q h2).trans (hFn q h1 h2)⟩ dX1_takeBack_30
end
section
theorem z_topeq {p : Program} {l : Launch} {e : Env} {R : Room} {s : State} {m : MethodId} {args : Array Value} {below : List Frame} {meth : Method} {c : Code} {H : Heap} {locs : List Loc} {cells slots : Nat} {Q : State → Prop} {pc : Nat} {ls : Array Slot} {rest : List Value} {x y : Int32} (h : x = y) (k : W p l e R s m args below meth c H locs cells slots Q (F0 m pc ls (.int y :: rest))) : W p l e R s m args below meth c H locs cells slots Q (F0 m pc ls (.int x :: rest)) := by
  rw [h]; exact k
def wi (x a b : Int32) : Bool := decide (a ≤ x) && decide (x ≤ b)
def isC (x y : Int32) : Bool := wi x (nI 0) (nI 9) && wi y (nI 0) (nI 5)
theorem wi_N {k a b : Nat} (hk : k < 2 ^ 31) (ha : a < 2 ^ 31) (hb : b < 2 ^ 31) : wi (nI k) (nI a) (nI b) = (decide (a ≤ k) && decide (k ≤ b)) := by
  unfold wi
  rw [decide_eq_decide.mpr (nI_le_iff ha hk), decide_eq_decide.mpr (nI_le_iff hk hb)]
theorem wi_nat {x : Int32} {a b : Nat} (ha : a < 2 ^ 31) (hb : b < 2 ^ 31) (h : wi x (nI a) (nI b) = true) : ∃ k, x = nI k ∧ a ≤ k ∧ k ≤ b := by
  unfold wi at h
  simp only [Bool.and_eq_true, decide_eq_true_eq] at h
  have h0 : (0 : Int32) ≤ x := Int32.le_trans (nI_pos' ha) h.1
  obtain ⟨k, rfl, hk⟩ := nI_ofB h0 hb h.2
  exact ⟨k, rfl, (nI_le_iff ha (by omega)).mp h.1, hk⟩
theorem isC_nat {x y : Int32} (h : isC x y = true) : ∃ a b, x = nI a ∧ y = nI b ∧ a < 10 ∧ b < 6 := by
  unfold isC at h
  rw [Bool.and_eq_true] at h
  obtain ⟨a, rfl, -, ha⟩ := wi_nat (by decide) (by decide) h.1
  obtain ⟨b, rfl, -, hb⟩ := wi_nat (by decide) (by decide) h.2
  exact ⟨a, b, rfl, rfl, by omega, by omega⟩
theorem isC_N {a b : Nat} (ha : a < 10) (hb : b < 6) : isC (nI a) (nI b) = true := by
  unfold isC
  rw [wi_N (by omega) (by decide) (by decide), wi_N (by omega) (by decide) (by decide)]
  simp
  omega

theorem wi_out {x a b : Int32} (h : x < a ∨ b < x) : wi x a b = false := by
  unfold wi
  rcases h with h | h
  · rw [decide_eq_false (fun q => Int32.not_le.mpr h q)]; rfl
  · rw [decide_eq_false (p := x ≤ b) (fun q => Int32.not_le.mpr h q)]; exact Bool.and_false _

set_option maxHeartbeats 4000000 in
set_option maxRecDepth 100000 in
theorem c_X5_isWithin (l : Launch) (G : zG) (B0 : Nat) (M : Mm) (x a b : Int32) : zMet l yX5_isWithin cX5_isWithin 3 (some .boolean) 0 0 0 G B0 M [.int x, .int a, .int b] (some (.int (zb (wi x a b)))) (fun M1 => M = M1) := by
  refine z_met RX5 [(0, .int x), (1, .int a), (2, .int b)] (by decide) rfl (Nat.le_of_ble_eq_true rfl) rfl ?_
  intro pg ev s m below meth cd ls hE hin hB0 hH hl
  have hx := hE.1
  have hb := hE.2.1
  refine z_gen B0 (fun H locs hH hS => ?_) hH
  refine lv_iload_n hx hb dX5_isWithin_0 rfl (lv_at hl 0 rfl) ?_
  refine lv_iload_n hx hb dX5_isWithin_1 rfl (lv_at hl 1 rfl) ?_
  refine lv_icmp_lt (tgt := 14) hx hb dX5_isWithin_2 (by decide) (fun h1 => ?_) (fun h1 => ?_)
  · refine n_iconst hx hb 0 dX5_isWithin_14 (by decide) ?_
    exact z_zret hE hH hS (by rw [show wi x a b = false from wi_out (by first | exact Or.inl (by assumption) | exact Or.inr (by assumption))]; rfl) rfl dX5_isWithin_15
  · refine lv_iload_n hx hb dX5_isWithin_5 rfl (lv_at hl 0 rfl) ?_
    refine lv_iload_n hx hb dX5_isWithin_6 rfl (lv_at hl 2 rfl) ?_
    refine lv_icmp_gt (tgt := 14) hx hb dX5_isWithin_7 (by decide) (fun h2 => ?_) (fun h2 => ?_)
    · refine n_iconst hx hb 0 dX5_isWithin_14 (by decide) ?_
      exact z_zret hE hH hS (by rw [show wi x a b = false from wi_out (by first | exact Or.inl (by assumption) | exact Or.inr (by assumption))]; rfl) rfl dX5_isWithin_15
    · refine n_iconst hx hb 1 dX5_isWithin_10 (by decide) ?_
      refine lv_goto (tgt := 15) hx hb dX5_isWithin_11 (by decide) ?_
      exact z_zret hE hH hS (by rw [show wi x a b = true from by unfold wi; simp only [Bool.and_eq_true, decide_eq_true_eq]; exact ⟨Int32.not_lt.mp (by assumption), Int32.not_lt.mp (by assumption)⟩]; rfl) rfl dX5_isWithin_15

set_option maxHeartbeats 4000000 in
set_option maxRecDepth 100000 in
theorem c_X5_isColumn (l : Launch) (G : zG) (B0 : Nat) (M : Mm) (x : Int32) : zMet l yX5_isColumn cX5_isColumn 1 (some .boolean) 1 0 0 G B0 M [.int x] (some (.int (zb (wi x (nI 0) (nI 9))))) (fun M1 => M = M1) := by
  refine z_met RX5 [(0, .int x)] (by decide) rfl (Nat.le_of_ble_eq_true rfl) rfl ?_
  intro pg ev s m below meth cd ls hE hin hB0 hH hl
  have hx := hE.1
  have hb := hE.2.1
  refine z_gen B0 (fun H locs hH hS => ?_) hH
  refine lv_iload_n hx hb dX5_isColumn_0 rfl (lv_at hl 0 rfl) ?_
  refine n_iconst hx hb 0 dX5_isColumn_1 (by decide) ?_
  refine n_bipush hx hb 9 dX5_isColumn_2 (by decide) ?_
  refine z_callS (rest := []) (st2 := [.int (zb (wi x (nI 0) (nI 9)))]) hE hH hS hB0 hl ca_X5_isWithin mkX5_45 (c_X5_isWithin l G B0 M x (nI 0) (nI 9)) rfl rfl rfl ⟨Nat.le_of_ble_eq_true rfl, Nat.le_of_ble_eq_true rfl⟩ (Nat.le_of_ble_eq_true rfl) ⟨Nat.le_refl _, Nat.le_refl _⟩ dX5_isColumn_4 (fun H locs M1 hH hp hS => ?_)
  subst hp
  exact z_zret hE hH hS rfl rfl dX5_isColumn_7

set_option maxHeartbeats 4000000 in
set_option maxRecDepth 100000 in
theorem c_X5_isCell (l : Launch) (G : zG) (B0 : Nat) (M : Mm) (x y : Int32) : zMet l yX5_isCell cX5_isCell 2 (some .boolean) 2 0 0 G B0 M [.int x, .int y] (some (.int (zb (isC x y)))) (fun M1 => M = M1) := by
  refine z_met RX5 [(0, .int x), (1, .int y)] (by decide) rfl (Nat.le_of_ble_eq_true rfl) rfl ?_
  intro pg ev s m below meth cd ls hE hin hB0 hH hl
  have hx := hE.1
  have hb := hE.2.1
  refine z_gen B0 (fun H locs hH hS => ?_) hH
  refine lv_iload_n hx hb dX5_isCell_0 rfl (lv_at hl 0 rfl) ?_
  refine z_callS (rest := []) (st2 := [.int (zb (wi x (nI 0) (nI 9)))]) hE hH hS hB0 hl ca_X5_isColumn mkX5_86 (c_X5_isColumn l G B0 M x) rfl rfl rfl ⟨Nat.le_of_ble_eq_true rfl, Nat.le_of_ble_eq_true rfl⟩ (Nat.le_of_ble_eq_true rfl) ⟨Nat.le_refl _, Nat.le_refl _⟩ dX5_isCell_1 (fun H locs M1 hH hp hS => ?_)
  subst hp
  refine b_if_eq (tgt := 20) hx hb dX5_isCell_4 (by decide) (fun h1 => ?_) (fun h1 => ?_)
  · refine n_iconst hx hb 0 dX5_isCell_20 (by decide) ?_
    exact z_zret hE hH hS (by rw [show isC x y = false from by unfold isC; simp [*]]; rfl) rfl dX5_isCell_21
  · refine lv_iload_n hx hb dX5_isCell_7 rfl (lv_at hl 1 rfl) ?_
    refine n_iconst hx hb 0 dX5_isCell_8 (by decide) ?_
    refine n_iconst hx hb 5 dX5_isCell_9 (by decide) ?_
    refine z_callS (rest := []) (st2 := [.int (zb (wi y (nI 0) (nI 5)))]) hE hH hS hB0 hl ca_X5_isWithin mkX5_45 (c_X5_isWithin l G B0 M y (nI 0) (nI 5)) rfl rfl rfl ⟨Nat.le_of_ble_eq_true rfl, Nat.le_of_ble_eq_true rfl⟩ (Nat.le_of_ble_eq_true rfl) ⟨Nat.le_refl _, Nat.le_refl _⟩ dX5_isCell_10 (fun H locs M1 hH hp hS => ?_)
    subst hp
    refine b_if_eq (tgt := 20) hx hb dX5_isCell_13 (by decide) (fun h2 => ?_) (fun h2 => ?_)
    · refine n_iconst hx hb 0 dX5_isCell_20 (by decide) ?_
      exact z_zret hE hH hS (by rw [show isC x y = false from by unfold isC; simp [*]]; rfl) rfl dX5_isCell_21
    · refine n_iconst hx hb 1 dX5_isCell_16 (by decide) ?_
      refine lv_goto (tgt := 21) hx hb dX5_isCell_17 (by decide) ?_
      exact z_zret hE hH hS (by rw [show isC x y = true from by unfold isC; simp [*]]; rfl) rfl dX5_isCell_21

set_option maxHeartbeats 4000000 in
set_option maxRecDepth 100000 in
theorem c_X5_cellAt (l : Launch) (G : zG) (B0 : Nat) (M : Mm) (x y : Nat) : zMet l yX5_cellAt cX5_cellAt 2 (some .int) 0 0 0 G B0 M [.int (nI x), .int (nI y)] (some (.int (nI (y * 10 + x)))) (fun M1 => M = M1) := by
  refine z_met RX5 [(0, .int (nI x)), (1, .int (nI y))] (by decide) rfl (Nat.le_of_ble_eq_true rfl) rfl ?_
  intro pg ev s m below meth cd ls hE hin hB0 hH hl
  have hx := hE.1
  have hb := hE.2.1
  refine z_gen B0 (fun H locs hH hS => ?_) hH
  refine lv_iload_n hx hb dX5_cellAt_0 rfl (lv_at hl 1 rfl) ?_
  refine n_bipush hx hb 10 dX5_cellAt_1 (by decide) ?_
  refine n_imul hx hb dX5_cellAt_3 ?_
  refine lv_iload_n hx hb dX5_cellAt_4 rfl (lv_at hl 0 rfl) ?_
  refine n_iadd hx hb dX5_cellAt_5 ?_
  exact z_iret hE hH hS rfl rfl dX5_cellAt_6

def dgt (c : Nat) : Option Nat := if 48 ≤ c ∧ c ≤ 57 then some (c - 48) else none
theorem dgt_ob {c : Nat} : ∀ j, dgt c = some j → j < 2 ^ 31 := fun j h => by
  unfold dgt at h
  split at h
  · have := Option.some.inj h; omega
  · cases h
theorem dgt_le {c j : Nat} (h : dgt c = some j) : j ≤ 9 ∧ c = j + 48 := by
  unfold dgt at h
  split at h
  · have := Option.some.inj h; omega
  · cases h
def tkB (p : Nat) (uo : Option Nat) (c : Nat) : Bool := match p with
  | 0 => (dgt c).isSome
  | 1 => (dgt c).elim false (fun d => decide (d ≤ 5))
  | 2 => decide (c = 58)
  | 3 => (dgt c).isSome
  | _ => if c = 59 then true else (dgt c).elim false (fun d => uo.elim false (fun u => decide (u ≠ 0 ∧ u * 10 + d ≤ 999)))
def tkP (p c : Nat) : Nat := match p with
  | 0 => 1
  | 1 => 2
  | 2 => 3
  | 3 => 4
  | _ => if c = 59 then 0 else 4
def tkX (p : Nat) (xo : Option Nat) (c : Nat) : Option Nat := if p = 0 then dgt c else xo
def tkY (p : Nat) (yo : Option Nat) (c : Nat) : Option Nat := if p = 1 then dgt c else yo
def tkU (p : Nat) (uo : Option Nat) (c : Nat) : Option Nat := if p = 3 then dgt c else if p = 4 ∧ c ≠ 59 ∧ tkB 4 uo c = true then (dgt c).bind (fun d => uo.map (fun u => u * 10 + d)) else uo
def RdM (G : zG) (a p : Nat) (xo yo uo : Option Nat) (M : Mm) : Prop := M a = some (.inr (0, [.int (nI p), .int (oI xo), .int (oI yo), .int (oI uo)]))

set_option maxHeartbeats 4000000 in
set_option maxRecDepth 100000 in
theorem c_X0_begin (l : Launch) (G : zG) (B0 : Nat) (M : Mm) (a p : Nat) (xo yo uo : Option Nat) (hR : RdM G a p xo yo uo M) (hBa : B0 ≤ a) : zMet l yX0_begin cX0_begin 1 none 0 0 0 G B0 M [.ref a] none (fun M1 => RdM G a 0 xo yo uo M1 ∧ ∀ q, q ≠ a → M1 q = M q) := by
  refine z_met RX0 [(0, .ref a)] (by decide) rfl (Nat.le_of_ble_eq_true rfl) rfl ?_
  intro pg ev s m below meth cd ls hE hin hB0 hH hl
  have hx := hE.1
  have hb := hE.2.1
  have hF : ∀ q, q ≠ a → M q = M q := fun _ _ => rfl
  have hR0 : M a = some (.inr (0, [.int (nI p), .int (oI xo), .int (oI yo), .int (oI uo)])) := hR
  refine z_gen B0 (fun H locs hH hS => ?_) hH
  refine lv_aload_n hx hb dX0_begin_0 rfl (lv_at hl 0 rfl) ?_
  refine n_iconst hx hb 0 dX0_begin_1 (by decide) ?_
  refine z_put (T := TX0) hE hH hS hR0 rfl uw_X0 tyX0 tyX0_ok nmX0 0 (by decide) fkX0_11 rfl rfl rfl (Nat.le_of_ble_eq_true rfl) (by omega) dX0_begin_2 (fun H locs M3 hH hS e1 o2 => ?_)
  have hF4 := fun q hq => (o2 q (by omega)).trans (hF q hq)
  exact z_vret hE hH hS ⟨e1, hF4⟩ dX0_begin_5

set_option maxHeartbeats 4000000 in
set_option maxRecDepth 100000 in
theorem c_X0_mayEnd (l : Launch) (G : zG) (B0 : Nat) (M : Mm) (a p : Nat) (xo yo uo : Option Nat) (hR : RdM G a p xo yo uo M) (hp : p ≤ 4) : zMet l yX0_mayEnd cX0_mayEnd 1 (some .boolean) 0 0 0 G B0 M [.ref a] (some (.int (zb (decide (p = 4))))) (fun M1 => M = M1) := by
  refine z_met RX0 [(0, .ref a)] (by decide) rfl (Nat.le_of_ble_eq_true rfl) rfl ?_
  intro pg ev s m below meth cd ls hE hin hB0 hH hl
  have hx := hE.1
  have hb := hE.2.1
  have hR0 : M a = some (.inr (0, [.int (nI p), .int (oI xo), .int (oI yo), .int (oI uo)])) := hR
  refine z_gen B0 (fun H locs hH hS => ?_) hH
  refine lv_aload_n hx hb dX0_mayEnd_0 rfl (lv_at hl 0 rfl) ?_
  refine z_get (T := TX0) (v := .int (nI p)) hE hH hR0 rfl uw_X0 0 (by decide) fkX0_11 rfl dX0_mayEnd_1 ?_
  refine n_iconst hx hb 4 dX0_mayEnd_4 (by decide) ?_
  refine n_cmp_ne (tgt := 12) hx hb (by omega) (by decide) dX0_mayEnd_5 (by decide) (fun h1 => ?_) (fun h1 => ?_)
  · refine n_iconst hx hb 0 dX0_mayEnd_12 (by decide) ?_
    exact z_zret hE hH hS (by rw [show decide (p = 4) = false from by simp [*]]; rfl) rfl dX0_mayEnd_13
  · refine n_iconst hx hb 1 dX0_mayEnd_8 (by decide) ?_
    refine lv_goto (tgt := 13) hx hb dX0_mayEnd_9 (by decide) ?_
    exact z_zret hE hH hS (by rw [show decide (p = 4) = true from by simp [*]]; rfl) rfl dX0_mayEnd_13

set_option maxHeartbeats 4000000 in
set_option maxRecDepth 100000 in
theorem c_X0_endsBuyer (l : Launch) (G : zG) (B0 : Nat) (M : Mm) (a p : Nat) (xo yo uo : Option Nat) (hR : RdM G a p xo yo uo M) (hBa : B0 ≤ a) : zMet l yX0_endsBuyer cX0_endsBuyer 1 (some .boolean) 0 0 0 G B0 M [.ref a] (some (.int (zb true))) (fun M1 => RdM G a 0 xo yo uo M1 ∧ ∀ q, q ≠ a → M1 q = M q) := by
  refine z_met RX0 [(0, .ref a)] (by decide) rfl (Nat.le_of_ble_eq_true rfl) rfl ?_
  intro pg ev s m below meth cd ls hE hin hB0 hH hl
  have hx := hE.1
  have hb := hE.2.1
  have hF : ∀ q, q ≠ a → M q = M q := fun _ _ => rfl
  have hR0 : M a = some (.inr (0, [.int (nI p), .int (oI xo), .int (oI yo), .int (oI uo)])) := hR
  refine z_gen B0 (fun H locs hH hS => ?_) hH
  refine lv_aload_n hx hb dX0_endsBuyer_0 rfl (lv_at hl 0 rfl) ?_
  refine n_iconst hx hb 0 dX0_endsBuyer_1 (by decide) ?_
  refine z_put (T := TX0) hE hH hS hR0 rfl uw_X0 tyX0 tyX0_ok nmX0 0 (by decide) fkX0_11 rfl rfl rfl (Nat.le_of_ble_eq_true rfl) (by omega) dX0_endsBuyer_2 (fun H locs M3 hH hS e1 o2 => ?_)
  have hF4 := fun q hq => (o2 q (by omega)).trans (hF q hq)
  refine n_iconst hx hb 1 dX0_endsBuyer_5 (by decide) ?_
  exact z_zret hE hH hS rfl ⟨e1, hF4⟩ dX0_endsBuyer_6

def lpB (d u : Nat) : Bool := decide (u ≠ 0 ∧ u * 10 + d ≤ 999)

def lpO (d : Option Nat) (u : Nat) : Bool := d.elim false (fun d => lpB d u)
def lpU (d : Option Nat) (u : Nat) : Nat := d.elim u (fun d => if lpB d u = true then u * 10 + d else u)

set_option maxHeartbeats 4000000 in
set_option maxRecDepth 100000 in
theorem c_X0_lengthensPurse (l : Launch) (G : zG) (B0 : Nat) (M : Mm) (a p : Nat) (xo yo : Option Nat) (u : Nat) (hR : RdM G a p xo yo (some u) M) (hBa : B0 ≤ a) (hu : u ≤ 999) (d : Option Nat) (hob9 : ∀ j, d = some j → j ≤ 9) : zMet l yX0_lengthensPurse cX0_lengthensPurse 2 (some .boolean) 0 0 0 G B0 M [.ref a, .int (oI d)] (some (.int (zb (lpO d u)))) (fun M1 => RdM G a p xo yo (some (lpU d u)) M1 ∧ ∀ q, q ≠ a → M1 q = M q) := by
  refine z_met RX0 [(0, .ref a), (1, .int (oI d))] (by decide) rfl (Nat.le_of_ble_eq_true rfl) rfl ?_
  intro pg ev s m below meth cd ls hE hin hB0 hH hl
  have hx := hE.1
  have hb := hE.2.1
  have hF : ∀ q, q ≠ a → M q = M q := fun _ _ => rfl
  have hR0 : M a = some (.inr (0, [.int (nI p), .int (oI xo), .int (oI yo), .int (nI u)])) := hR
  have hob : ∀ j, d = some j → j < 2 ^ 31 := fun j h => by have := hob9 j h; omega
  refine z_gen B0 (fun H locs hH hS => ?_) hH
  refine lv_iload_n hx hb dX0_lengthensPurse_0 rfl (lv_at hl 1 rfl) ?_
  refine lv_bipush (v := (-6)) hx hb dX0_lengthensPurse_1 (by decide) ?_
  refine o_cmp_eq (tgt := 28) hx hb (hob) dX0_lengthensPurse_3 (by decide) (fun h1 => ?_) (fun j2 h1 => ?_)
  · refine n_iconst hx hb 0 dX0_lengthensPurse_28 (by decide) ?_
    exact z_zret hE hH hS (by have hh : lpO d u = false := (by rw [h1]; first | done | rfl); rw [hh]; rfl) ⟨by have hh : lpU d u = u := (by rw [h1]; first | done | rfl); unfold RdM; rw [hR0, hh]; rfl, hF⟩ dX0_lengthensPurse_29
  · rw [h1] at hl
    replace hl : lv_has ls 2 [(0, .ref a), (1, .int (nI j2))] := hl
    have j2_b := hob9 _ h1
    refine lv_aload_n hx hb dX0_lengthensPurse_6 rfl (lv_at hl 0 rfl) ?_
    refine z_get (T := TX0) (v := .int (nI u)) hE hH hR0 rfl uw_X0 3 (by decide) fkX0_25 rfl dX0_lengthensPurse_7 ?_
    refine n_if_eq (tgt := 28) hx hb (by omega) dX0_lengthensPurse_10 (by decide) (fun h3 => ?_) (fun h3 => ?_)
    · refine n_iconst hx hb 0 dX0_lengthensPurse_28 (by decide) ?_
      exact z_zret hE hH hS (by have hh : lpO d u = false := (by rw [h1]; exact decide_eq_false (by omega)); rw [hh]; rfl) ⟨by have hh : lpU d u = u := (by rw [h1]; exact if_neg (fun q => absurd (of_decide_eq_true q) (by omega))); unfold RdM; rw [hR0, hh]; rfl, hF⟩ dX0_lengthensPurse_29
    · refine lv_aload_n hx hb dX0_lengthensPurse_13 rfl (lv_at hl 0 rfl) ?_
      refine z_get (T := TX0) (v := .int (nI u)) hE hH hR0 rfl uw_X0 3 (by decide) fkX0_25 rfl dX0_lengthensPurse_14 ?_
      refine n_bipush hx hb 10 dX0_lengthensPurse_17 (by decide) ?_
      refine n_imul hx hb dX0_lengthensPurse_19 ?_
      refine lv_iload_n hx hb dX0_lengthensPurse_20 rfl (lv_at hl 1 rfl) ?_
      refine n_iadd hx hb dX0_lengthensPurse_21 ?_
      refine n_sipush hx hb 999 dX0_lengthensPurse_22 (by decide) ?_
      refine n_cmp_le (tgt := 30) hx hb (by omega) (by decide) dX0_lengthensPurse_25 (by decide) (fun h4 => ?_) (fun h4 => ?_)
      · refine lv_aload_n hx hb dX0_lengthensPurse_30 rfl (lv_at hl 0 rfl) ?_
        refine lv_aload_n hx hb dX0_lengthensPurse_31 rfl (lv_at hl 0 rfl) ?_
        refine z_get (T := TX0) (v := .int (nI u)) hE hH hR0 rfl uw_X0 3 (by decide) fkX0_25 rfl dX0_lengthensPurse_32 ?_
        refine n_bipush hx hb 10 dX0_lengthensPurse_35 (by decide) ?_
        refine n_imul hx hb dX0_lengthensPurse_37 ?_
        refine lv_iload_n hx hb dX0_lengthensPurse_38 rfl (lv_at hl 1 rfl) ?_
        refine n_iadd hx hb dX0_lengthensPurse_39 ?_
        refine z_put (T := TX0) hE hH hS hR0 rfl uw_X0 tyX0 tyX0_ok nmX0 3 (by decide) fkX0_25 rfl rfl rfl (Nat.le_of_ble_eq_true rfl) (by omega) dX0_lengthensPurse_40 (fun H locs M7 hH hS e5 o6 => ?_)
        have hF8 := fun q hq => (o6 q (by omega)).trans (hF q hq)
        refine n_iconst hx hb 1 dX0_lengthensPurse_43 (by decide) ?_
        exact z_zret hE hH hS (by have hh : lpO d u = true := (by rw [h1]; exact decide_eq_true ⟨by omega, by omega⟩); rw [hh]; rfl) ⟨by have hh : lpU d u = u * 10 + j2 := (by rw [h1]; exact if_pos (decide_eq_true ⟨by omega, by omega⟩)); unfold RdM; rw [e5, hh]; rfl, hF8⟩ dX0_lengthensPurse_44
      · refine n_iconst hx hb 0 dX0_lengthensPurse_28 (by decide) ?_
        exact z_zret hE hH hS (by have hh : lpO d u = false := (by rw [h1]; exact decide_eq_false (by omega)); rw [hh]; rfl) ⟨by have hh : lpU d u = u := (by rw [h1]; exact if_neg (fun q => absurd (of_decide_eq_true q) (by omega))); unfold RdM; rw [hR0, hh]; rfl, hF⟩ dX0_lengthensPurse_29

set_option maxHeartbeats 4000000 in
set_option maxRecDepth 100000 in
theorem c_X0_takes_0 (l : Launch) (G : zG) (B0 : Nat) (M : Mm) (a : Nat) (xo yo uo : Option Nat) (hR : RdM G a 0 xo yo uo M) (hBa : B0 ≤ a) (c : Nat) (hc : c < 128) : zMet l yX0_takes cX0_takes 3 (some .boolean) 1 0 0 G B0 M [.ref a, .int (nI c)] (some (.int (zb (tkB 0 uo c)))) (fun M1 => RdM G a (tkP 0 c) (tkX 0 xo c) (tkY 0 yo c) (tkU 0 uo c) M1 ∧ ∀ q, q ≠ a → M1 q = M q) := by
  refine z_met RX0 [(0, .ref a), (1, .int (nI c))] (by decide) rfl (Nat.le_of_ble_eq_true rfl) rfl ?_
  intro pg ev s m below meth cd ls hE hin hB0 hH hl
  have hx := hE.1
  have hb := hE.2.1
  have hF : ∀ q, q ≠ a → M q = M q := fun _ _ => rfl
  have hR0 : M a = some (.inr (0, [.int (nI 0), .int (oI xo), .int (oI yo), .int (oI uo)])) := hR
  refine z_gen B0 (fun H locs hH hS => ?_) hH
  have J21 : zW pg l ev 1 0 0 s m [.ref a, .int (nI c)] below meth cd H locs 0 0 G B0 (some (.int (zb (tkB 0 uo c)))) (fun M1 => RdM G a (tkP 0 c) (tkX 0 xo c) (tkY 0 yo c) (tkU 0 uo c) M1 ∧ ∀ q, q ≠ a → M1 q = M q) (F0 m 21 ls [.int (oI (dgt c))]) := by
    refine lv_istore_n (lv' := [(2, .int (oI (dgt c))), (0, .ref a), (1, .int (nI c))]) hx hb dX0_takes_21 rfl hl (by decide) rfl (fun ls hl => ?_)
    refine lv_aload_n hx hb dX0_takes_22 rfl (lv_at hl 1 rfl) ?_
    refine z_get (T := TX0) (v := .int (nI 0)) hE hH hR0 rfl uw_X0 0 (by decide) fkX0_11 rfl dX0_takes_23 ?_
    refine lv_tableIn (tgt := 56) hx hb dX0_takes_26 (by decide +kernel) (by decide +kernel) (off := 30) (by decide +kernel) (by decide) ?_
    refine lv_aload_n hx hb dX0_takes_56 rfl (lv_at hl 1 rfl) ?_
    refine lv_iload_n hx hb dX0_takes_57 rfl (lv_at hl 0 rfl) ?_
    refine z_put (T := TX0) hE hH hS hR0 rfl uw_X0 tyX0 tyX0_ok nmX0 1 (by decide) fkX0_15 rfl rfl rfl (Nat.le_of_ble_eq_true rfl) (by omega) dX0_takes_58 (fun H locs M3 hH hS e1 o2 => ?_)
    have hF4 := fun q hq => (o2 q (by omega)).trans (hF q hq)
    refine lv_aload_n hx hb dX0_takes_61 rfl (lv_at hl 1 rfl) ?_
    refine n_iconst hx hb 1 dX0_takes_62 (by decide) ?_
    refine z_put (T := TX0) hE hH hS e1 rfl uw_X0 tyX0 tyX0_ok nmX0 0 (by decide) fkX0_11 rfl rfl rfl (Nat.le_of_ble_eq_true rfl) (by omega) dX0_takes_63 (fun H locs M7 hH hS e5 o6 => ?_)
    have hF8 := fun q hq => (o6 q (by omega)).trans (hF4 q hq)
    refine lv_iload_n hx hb dX0_takes_66 rfl (lv_at hl 0 rfl) ?_
    refine lv_bipush (v := (-6)) hx hb dX0_takes_67 (by decide) ?_
    refine o_cmp_eq (tgt := 76) hx hb (dgt_ob) dX0_takes_69 (by decide) (fun h9 => ?_) (fun j10 h9 => ?_)
    · refine n_iconst hx hb 0 dX0_takes_76 (by decide) ?_
      exact z_zret hE hH hS (by simp [tkB, *]; rfl) ⟨e5, hF8⟩ dX0_takes_77
    · rw [h9] at hl
      replace hl : lv_has ls 3 [(2, .int (nI j10)), (0, .ref a), (1, .int (nI c))] := hl
      refine n_iconst hx hb 1 dX0_takes_72 (by decide) ?_
      refine lv_goto (tgt := 77) hx hb dX0_takes_73 (by decide) ?_
      exact z_zret hE hH hS (by simp [tkB, *]; rfl) ⟨e5, hF8⟩ dX0_takes_77
  refine lv_iload_n hx hb dX0_takes_0 rfl (lv_at hl 1 rfl) ?_
  refine n_bipush hx hb 48 dX0_takes_1 (by decide) ?_
  refine n_cmp_lt (tgt := 19) hx hb (by omega) (by decide) dX0_takes_3 (by decide) (fun h11 => ?_) (fun h11 => ?_)
  · refine lv_bipush (v := (-6)) hx hb dX0_takes_19 (by decide) ?_
    exact z_topeq (show (-6) = oI (dgt c) from by unfold dgt; rw [if_neg (by omega)]; rfl) J21
  · refine lv_iload_n hx hb dX0_takes_6 rfl (lv_at hl 1 rfl) ?_
    refine n_bipush hx hb 57 dX0_takes_7 (by decide) ?_
    refine n_cmp_gt (tgt := 19) hx hb (by omega) (by decide) dX0_takes_9 (by decide) (fun h12 => ?_) (fun h12 => ?_)
    · refine lv_bipush (v := (-6)) hx hb dX0_takes_19 (by decide) ?_
      exact z_topeq (show (-6) = oI (dgt c) from by unfold dgt; rw [if_neg (by omega)]; rfl) J21
    · refine lv_iload_n hx hb dX0_takes_12 rfl (lv_at hl 1 rfl) ?_
      refine n_bipush hx hb 48 dX0_takes_13 (by decide) ?_
      refine n_isub hx hb (by omega) dX0_takes_15 ?_
      refine lv_goto (tgt := 21) hx hb dX0_takes_16 (by decide) ?_
      exact z_topeq (show nI (c - 48) = oI (dgt c) from by unfold dgt; rw [if_pos (by omega)]; rfl) J21

set_option maxHeartbeats 4000000 in
set_option maxRecDepth 100000 in
theorem c_X0_takes_1 (l : Launch) (G : zG) (B0 : Nat) (M : Mm) (a : Nat) (xo yo uo : Option Nat) (hR : RdM G a 1 xo yo uo M) (hBa : B0 ≤ a) (c : Nat) (hc : c < 128) : zMet l yX0_takes cX0_takes 3 (some .boolean) 1 0 0 G B0 M [.ref a, .int (nI c)] (some (.int (zb (tkB 1 uo c)))) (fun M1 => RdM G a (tkP 1 c) (tkX 1 xo c) (tkY 1 yo c) (tkU 1 uo c) M1 ∧ ∀ q, q ≠ a → M1 q = M q) := by
  refine z_met RX0 [(0, .ref a), (1, .int (nI c))] (by decide) rfl (Nat.le_of_ble_eq_true rfl) rfl ?_
  intro pg ev s m below meth cd ls hE hin hB0 hH hl
  have hx := hE.1
  have hb := hE.2.1
  have hF : ∀ q, q ≠ a → M q = M q := fun _ _ => rfl
  have hR0 : M a = some (.inr (0, [.int (nI 1), .int (oI xo), .int (oI yo), .int (oI uo)])) := hR
  refine z_gen B0 (fun H locs hH hS => ?_) hH
  have J21 : zW pg l ev 1 0 0 s m [.ref a, .int (nI c)] below meth cd H locs 0 0 G B0 (some (.int (zb (tkB 1 uo c)))) (fun M1 => RdM G a (tkP 1 c) (tkX 1 xo c) (tkY 1 yo c) (tkU 1 uo c) M1 ∧ ∀ q, q ≠ a → M1 q = M q) (F0 m 21 ls [.int (oI (dgt c))]) := by
    refine lv_istore_n (lv' := [(2, .int (oI (dgt c))), (0, .ref a), (1, .int (nI c))]) hx hb dX0_takes_21 rfl hl (by decide) rfl (fun ls hl => ?_)
    refine lv_aload_n hx hb dX0_takes_22 rfl (lv_at hl 1 rfl) ?_
    refine z_get (T := TX0) (v := .int (nI 1)) hE hH hR0 rfl uw_X0 0 (by decide) fkX0_11 rfl dX0_takes_23 ?_
    refine lv_tableIn (tgt := 78) hx hb dX0_takes_26 (by decide +kernel) (by decide +kernel) (off := 52) (by decide +kernel) (by decide) ?_
    refine lv_aload_n hx hb dX0_takes_78 rfl (lv_at hl 1 rfl) ?_
    refine lv_iload_n hx hb dX0_takes_79 rfl (lv_at hl 0 rfl) ?_
    refine z_put (T := TX0) hE hH hS hR0 rfl uw_X0 tyX0 tyX0_ok nmX0 2 (by decide) fkX0_18 rfl rfl rfl (Nat.le_of_ble_eq_true rfl) (by omega) dX0_takes_80 (fun H locs M3 hH hS e1 o2 => ?_)
    have hF4 := fun q hq => (o2 q (by omega)).trans (hF q hq)
    refine lv_aload_n hx hb dX0_takes_83 rfl (lv_at hl 1 rfl) ?_
    refine n_iconst hx hb 2 dX0_takes_84 (by decide) ?_
    refine z_put (T := TX0) hE hH hS e1 rfl uw_X0 tyX0 tyX0_ok nmX0 0 (by decide) fkX0_11 rfl rfl rfl (Nat.le_of_ble_eq_true rfl) (by omega) dX0_takes_85 (fun H locs M7 hH hS e5 o6 => ?_)
    have hF8 := fun q hq => (o6 q (by omega)).trans (hF4 q hq)
    refine lv_iload_n hx hb dX0_takes_88 rfl (lv_at hl 0 rfl) ?_
    refine n_iconst hx hb 0 dX0_takes_89 (by decide) ?_
    refine n_iconst hx hb 5 dX0_takes_90 (by decide) ?_
    refine z_callSN (rest := []) (st2 := [.int (zb (wi (oI (dgt c)) (nI 0) (nI 5)))]) hE hH hS hB0 hl ca_X5_isWithin hE.2.2.2.2.2.2.2.2.2.2.2.1 (c_X5_isWithin l G B0 M7 (oI (dgt c)) (nI 0) (nI 5)) rfl rfl rfl ⟨Nat.le_of_ble_eq_true rfl, Nat.le_of_ble_eq_true rfl⟩ (Nat.le_of_ble_eq_true rfl) ⟨Nat.le_refl _, Nat.le_refl _⟩ dX0_takes_91 (fun H locs M1 hH hp hS => ?_)
    subst hp
    exact z_zret hE hH hS (by show zb _ = zb _; unfold tkB; cases hd : dgt c with | none => rfl | some d => (have hh := dgt_le hd; show zb (wi (nI d) (nI 0) (nI 5)) = _; rw [wi_N (by omega) (by decide) (by decide)]; simp)) ⟨e5, hF8⟩ dX0_takes_94
  refine lv_iload_n hx hb dX0_takes_0 rfl (lv_at hl 1 rfl) ?_
  refine n_bipush hx hb 48 dX0_takes_1 (by decide) ?_
  refine n_cmp_lt (tgt := 19) hx hb (by omega) (by decide) dX0_takes_3 (by decide) (fun h9 => ?_) (fun h9 => ?_)
  · refine lv_bipush (v := (-6)) hx hb dX0_takes_19 (by decide) ?_
    exact z_topeq (show (-6) = oI (dgt c) from by unfold dgt; rw [if_neg (by omega)]; rfl) J21
  · refine lv_iload_n hx hb dX0_takes_6 rfl (lv_at hl 1 rfl) ?_
    refine n_bipush hx hb 57 dX0_takes_7 (by decide) ?_
    refine n_cmp_gt (tgt := 19) hx hb (by omega) (by decide) dX0_takes_9 (by decide) (fun h10 => ?_) (fun h10 => ?_)
    · refine lv_bipush (v := (-6)) hx hb dX0_takes_19 (by decide) ?_
      exact z_topeq (show (-6) = oI (dgt c) from by unfold dgt; rw [if_neg (by omega)]; rfl) J21
    · refine lv_iload_n hx hb dX0_takes_12 rfl (lv_at hl 1 rfl) ?_
      refine n_bipush hx hb 48 dX0_takes_13 (by decide) ?_
      refine n_isub hx hb (by omega) dX0_takes_15 ?_
      refine lv_goto (tgt := 21) hx hb dX0_takes_16 (by decide) ?_
      exact z_topeq (show nI (c - 48) = oI (dgt c) from by unfold dgt; rw [if_pos (by omega)]; rfl) J21

set_option maxHeartbeats 4000000 in
set_option maxRecDepth 100000 in
theorem c_X0_takes_2 (l : Launch) (G : zG) (B0 : Nat) (M : Mm) (a : Nat) (xo yo uo : Option Nat) (hR : RdM G a 2 xo yo uo M) (hBa : B0 ≤ a) (c : Nat) (hc : c < 128) : zMet l yX0_takes cX0_takes 3 (some .boolean) 1 0 0 G B0 M [.ref a, .int (nI c)] (some (.int (zb (tkB 2 uo c)))) (fun M1 => RdM G a (tkP 2 c) (tkX 2 xo c) (tkY 2 yo c) (tkU 2 uo c) M1 ∧ ∀ q, q ≠ a → M1 q = M q) := by
  refine z_met RX0 [(0, .ref a), (1, .int (nI c))] (by decide) rfl (Nat.le_of_ble_eq_true rfl) rfl ?_
  intro pg ev s m below meth cd ls hE hin hB0 hH hl
  have hx := hE.1
  have hb := hE.2.1
  have hF : ∀ q, q ≠ a → M q = M q := fun _ _ => rfl
  have hR0 : M a = some (.inr (0, [.int (nI 2), .int (oI xo), .int (oI yo), .int (oI uo)])) := hR
  refine z_gen B0 (fun H locs hH hS => ?_) hH
  have J21 : zW pg l ev 1 0 0 s m [.ref a, .int (nI c)] below meth cd H locs 0 0 G B0 (some (.int (zb (tkB 2 uo c)))) (fun M1 => RdM G a (tkP 2 c) (tkX 2 xo c) (tkY 2 yo c) (tkU 2 uo c) M1 ∧ ∀ q, q ≠ a → M1 q = M q) (F0 m 21 ls [.int (oI (dgt c))]) := by
    refine lv_istore_n (lv' := [(2, .int (oI (dgt c))), (0, .ref a), (1, .int (nI c))]) hx hb dX0_takes_21 rfl hl (by decide) rfl (fun ls hl => ?_)
    refine lv_aload_n hx hb dX0_takes_22 rfl (lv_at hl 1 rfl) ?_
    refine z_get (T := TX0) (v := .int (nI 2)) hE hH hR0 rfl uw_X0 0 (by decide) fkX0_11 rfl dX0_takes_23 ?_
    refine lv_tableIn (tgt := 95) hx hb dX0_takes_26 (by decide +kernel) (by decide +kernel) (off := 69) (by decide +kernel) (by decide) ?_
    refine lv_aload_n hx hb dX0_takes_95 rfl (lv_at hl 1 rfl) ?_
    refine n_iconst hx hb 3 dX0_takes_96 (by decide) ?_
    refine z_put (T := TX0) hE hH hS hR0 rfl uw_X0 tyX0 tyX0_ok nmX0 0 (by decide) fkX0_11 rfl rfl rfl (Nat.le_of_ble_eq_true rfl) (by omega) dX0_takes_97 (fun H locs M3 hH hS e1 o2 => ?_)
    have hF4 := fun q hq => (o2 q (by omega)).trans (hF q hq)
    refine lv_iload_n hx hb dX0_takes_100 rfl (lv_at hl 2 rfl) ?_
    refine n_bipush hx hb 58 dX0_takes_101 (by decide) ?_
    refine n_cmp_ne (tgt := 110) hx hb (by omega) (by decide) dX0_takes_103 (by decide) (fun h5 => ?_) (fun h5 => ?_)
    · refine n_iconst hx hb 0 dX0_takes_110 (by decide) ?_
      exact z_zret hE hH hS (by simp [tkB, *]; rfl) ⟨e1, hF4⟩ dX0_takes_111
    · refine n_iconst hx hb 1 dX0_takes_106 (by decide) ?_
      refine lv_goto (tgt := 111) hx hb dX0_takes_107 (by decide) ?_
      exact z_zret hE hH hS (by simp [tkB, *]; rfl) ⟨e1, hF4⟩ dX0_takes_111
  refine lv_iload_n hx hb dX0_takes_0 rfl (lv_at hl 1 rfl) ?_
  refine n_bipush hx hb 48 dX0_takes_1 (by decide) ?_
  refine n_cmp_lt (tgt := 19) hx hb (by omega) (by decide) dX0_takes_3 (by decide) (fun h6 => ?_) (fun h6 => ?_)
  · refine lv_bipush (v := (-6)) hx hb dX0_takes_19 (by decide) ?_
    exact z_topeq (show (-6) = oI (dgt c) from by unfold dgt; rw [if_neg (by omega)]; rfl) J21
  · refine lv_iload_n hx hb dX0_takes_6 rfl (lv_at hl 1 rfl) ?_
    refine n_bipush hx hb 57 dX0_takes_7 (by decide) ?_
    refine n_cmp_gt (tgt := 19) hx hb (by omega) (by decide) dX0_takes_9 (by decide) (fun h7 => ?_) (fun h7 => ?_)
    · refine lv_bipush (v := (-6)) hx hb dX0_takes_19 (by decide) ?_
      exact z_topeq (show (-6) = oI (dgt c) from by unfold dgt; rw [if_neg (by omega)]; rfl) J21
    · refine lv_iload_n hx hb dX0_takes_12 rfl (lv_at hl 1 rfl) ?_
      refine n_bipush hx hb 48 dX0_takes_13 (by decide) ?_
      refine n_isub hx hb (by omega) dX0_takes_15 ?_
      refine lv_goto (tgt := 21) hx hb dX0_takes_16 (by decide) ?_
      exact z_topeq (show nI (c - 48) = oI (dgt c) from by unfold dgt; rw [if_pos (by omega)]; rfl) J21

set_option maxHeartbeats 4000000 in
set_option maxRecDepth 100000 in
theorem c_X0_takes_3 (l : Launch) (G : zG) (B0 : Nat) (M : Mm) (a : Nat) (xo yo uo : Option Nat) (hR : RdM G a 3 xo yo uo M) (hBa : B0 ≤ a) (c : Nat) (hc : c < 128) : zMet l yX0_takes cX0_takes 3 (some .boolean) 1 0 0 G B0 M [.ref a, .int (nI c)] (some (.int (zb (tkB 3 uo c)))) (fun M1 => RdM G a (tkP 3 c) (tkX 3 xo c) (tkY 3 yo c) (tkU 3 uo c) M1 ∧ ∀ q, q ≠ a → M1 q = M q) := by
  refine z_met RX0 [(0, .ref a), (1, .int (nI c))] (by decide) rfl (Nat.le_of_ble_eq_true rfl) rfl ?_
  intro pg ev s m below meth cd ls hE hin hB0 hH hl
  have hx := hE.1
  have hb := hE.2.1
  have hF : ∀ q, q ≠ a → M q = M q := fun _ _ => rfl
  have hR0 : M a = some (.inr (0, [.int (nI 3), .int (oI xo), .int (oI yo), .int (oI uo)])) := hR
  refine z_gen B0 (fun H locs hH hS => ?_) hH
  have J21 : zW pg l ev 1 0 0 s m [.ref a, .int (nI c)] below meth cd H locs 0 0 G B0 (some (.int (zb (tkB 3 uo c)))) (fun M1 => RdM G a (tkP 3 c) (tkX 3 xo c) (tkY 3 yo c) (tkU 3 uo c) M1 ∧ ∀ q, q ≠ a → M1 q = M q) (F0 m 21 ls [.int (oI (dgt c))]) := by
    refine lv_istore_n (lv' := [(2, .int (oI (dgt c))), (0, .ref a), (1, .int (nI c))]) hx hb dX0_takes_21 rfl hl (by decide) rfl (fun ls hl => ?_)
    refine lv_aload_n hx hb dX0_takes_22 rfl (lv_at hl 1 rfl) ?_
    refine z_get (T := TX0) (v := .int (nI 3)) hE hH hR0 rfl uw_X0 0 (by decide) fkX0_11 rfl dX0_takes_23 ?_
    refine lv_tableIn (tgt := 112) hx hb dX0_takes_26 (by decide +kernel) (by decide +kernel) (off := 86) (by decide +kernel) (by decide) ?_
    refine lv_aload_n hx hb dX0_takes_112 rfl (lv_at hl 1 rfl) ?_
    refine lv_iload_n hx hb dX0_takes_113 rfl (lv_at hl 0 rfl) ?_
    refine z_put (T := TX0) hE hH hS hR0 rfl uw_X0 tyX0 tyX0_ok nmX0 3 (by decide) fkX0_25 rfl rfl rfl (Nat.le_of_ble_eq_true rfl) (by omega) dX0_takes_114 (fun H locs M3 hH hS e1 o2 => ?_)
    have hF4 := fun q hq => (o2 q (by omega)).trans (hF q hq)
    refine lv_aload_n hx hb dX0_takes_117 rfl (lv_at hl 1 rfl) ?_
    refine n_iconst hx hb 4 dX0_takes_118 (by decide) ?_
    refine z_put (T := TX0) hE hH hS e1 rfl uw_X0 tyX0 tyX0_ok nmX0 0 (by decide) fkX0_11 rfl rfl rfl (Nat.le_of_ble_eq_true rfl) (by omega) dX0_takes_119 (fun H locs M7 hH hS e5 o6 => ?_)
    have hF8 := fun q hq => (o6 q (by omega)).trans (hF4 q hq)
    refine lv_iload_n hx hb dX0_takes_122 rfl (lv_at hl 0 rfl) ?_
    refine lv_bipush (v := (-6)) hx hb dX0_takes_123 (by decide) ?_
    refine o_cmp_eq (tgt := 132) hx hb (dgt_ob) dX0_takes_125 (by decide) (fun h9 => ?_) (fun j10 h9 => ?_)
    · refine n_iconst hx hb 0 dX0_takes_132 (by decide) ?_
      exact z_zret hE hH hS (by simp [tkB, *]; rfl) ⟨e5, hF8⟩ dX0_takes_133
    · rw [h9] at hl
      replace hl : lv_has ls 3 [(2, .int (nI j10)), (0, .ref a), (1, .int (nI c))] := hl
      refine n_iconst hx hb 1 dX0_takes_128 (by decide) ?_
      refine lv_goto (tgt := 133) hx hb dX0_takes_129 (by decide) ?_
      exact z_zret hE hH hS (by simp [tkB, *]; rfl) ⟨e5, hF8⟩ dX0_takes_133
  refine lv_iload_n hx hb dX0_takes_0 rfl (lv_at hl 1 rfl) ?_
  refine n_bipush hx hb 48 dX0_takes_1 (by decide) ?_
  refine n_cmp_lt (tgt := 19) hx hb (by omega) (by decide) dX0_takes_3 (by decide) (fun h11 => ?_) (fun h11 => ?_)
  · refine lv_bipush (v := (-6)) hx hb dX0_takes_19 (by decide) ?_
    exact z_topeq (show (-6) = oI (dgt c) from by unfold dgt; rw [if_neg (by omega)]; rfl) J21
  · refine lv_iload_n hx hb dX0_takes_6 rfl (lv_at hl 1 rfl) ?_
    refine n_bipush hx hb 57 dX0_takes_7 (by decide) ?_
    refine n_cmp_gt (tgt := 19) hx hb (by omega) (by decide) dX0_takes_9 (by decide) (fun h12 => ?_) (fun h12 => ?_)
    · refine lv_bipush (v := (-6)) hx hb dX0_takes_19 (by decide) ?_
      exact z_topeq (show (-6) = oI (dgt c) from by unfold dgt; rw [if_neg (by omega)]; rfl) J21
    · refine lv_iload_n hx hb dX0_takes_12 rfl (lv_at hl 1 rfl) ?_
      refine n_bipush hx hb 48 dX0_takes_13 (by decide) ?_
      refine n_isub hx hb (by omega) dX0_takes_15 ?_
      refine lv_goto (tgt := 21) hx hb dX0_takes_16 (by decide) ?_
      exact z_topeq (show nI (c - 48) = oI (dgt c) from by unfold dgt; rw [if_pos (by omega)]; rfl) J21

set_option maxHeartbeats 4000000 in
set_option maxRecDepth 100000 in
theorem c_X0_takes_4 (l : Launch) (G : zG) (B0 : Nat) (M : Mm) (a : Nat) (xo yo : Option Nat) (u : Nat) (hR : RdM G a 4 xo yo (some u) M) (hBa : B0 ≤ a) (hu : u ≤ 999) (c : Nat) (hc : c < 128) : zMet l yX0_takes cX0_takes 3 (some .boolean) 1 0 0 G B0 M [.ref a, .int (nI c)] (some (.int (zb (tkB 4 (some u) c)))) (fun M1 => RdM G a (tkP 4 c) (tkX 4 xo c) (tkY 4 yo c) (tkU 4 (some u) c) M1 ∧ ∀ q, q ≠ a → M1 q = M q) := by
  refine z_met RX0 [(0, .ref a), (1, .int (nI c))] (by decide) rfl (Nat.le_of_ble_eq_true rfl) rfl ?_
  intro pg ev s m below meth cd ls hE hin hB0 hH hl
  have hx := hE.1
  have hb := hE.2.1
  have hF : ∀ q, q ≠ a → M q = M q := fun _ _ => rfl
  have hR0 : M a = some (.inr (0, [.int (nI 4), .int (oI xo), .int (oI yo), .int (nI u)])) := hR
  refine z_gen B0 (fun H locs hH hS => ?_) hH
  have J21 : zW pg l ev 1 0 0 s m [.ref a, .int (nI c)] below meth cd H locs 0 0 G B0 (some (.int (zb (tkB 4 (some u) c)))) (fun M1 => RdM G a (tkP 4 c) (tkX 4 xo c) (tkY 4 yo c) (tkU 4 (some u) c) M1 ∧ ∀ q, q ≠ a → M1 q = M q) (F0 m 21 ls [.int (oI (dgt c))]) := by
    refine lv_istore_n (lv' := [(2, .int (oI (dgt c))), (0, .ref a), (1, .int (nI c))]) hx hb dX0_takes_21 rfl hl (by decide) rfl (fun ls hl => ?_)
    refine lv_aload_n hx hb dX0_takes_22 rfl (lv_at hl 1 rfl) ?_
    refine z_get (T := TX0) (v := .int (nI 4)) hE hH hR0 rfl uw_X0 0 (by decide) fkX0_11 rfl dX0_takes_23 ?_
    refine lv_tableOut (tgt := 134) hx hb dX0_takes_26 (by decide +kernel) (by decide) ?_
    refine lv_iload_n hx hb dX0_takes_134 rfl (lv_at hl 2 rfl) ?_
    refine n_bipush hx hb 59 dX0_takes_135 (by decide) ?_
    refine n_cmp_ne (tgt := 147) hx hb (by omega) (by decide) dX0_takes_137 (by decide) (fun h1 => ?_) (fun h1 => ?_)
    · refine lv_aload_n hx hb dX0_takes_147 rfl (lv_at hl 1 rfl) ?_
      refine lv_iload_n hx hb dX0_takes_148 rfl (lv_at hl 0 rfl) ?_
      refine z_callV (rest := []) (st2 := [.int (zb (lpO (dgt c) u))]) hE hH hS hB0 hl ca_X0_lengthensPurse mkX0_32 (c_X0_lengthensPurse l G B0 M a 4 xo yo u hR0 (by omega) (by omega) (dgt c) (fun j h => (dgt_le h).1)) hR0 rfl rfl rfl rfl rfl ⟨Nat.le_of_ble_eq_true rfl, Nat.le_of_ble_eq_true rfl⟩ (Nat.le_of_ble_eq_true rfl) ⟨Nat.le_refl _, Nat.le_refl _⟩ dX0_takes_149 (fun H locs M2 hH hp hS => ?_)
      obtain ⟨hR3, hG4⟩ := hp
      have hF5 := fun q hq => (hG4 q hq).trans (hF q hq)
      exact z_zret hE hH hS (by simp [tkB, lpO, lpB, *]) ⟨by have hh := hR3; unfold tkP tkU; rw [if_neg (by assumption)]; unfold RdM at hh ⊢; rw [hh]; simp only [tkX, tkY, lpU, lpB, tkB]; cases hd : dgt c with | none => simp [*] | some d => (simp [*]; split <;> simp [oI]), hF5⟩ dX0_takes_152
    · refine lv_aload_n hx hb dX0_takes_140 rfl (lv_at hl 1 rfl) ?_
      refine z_callV (rest := []) (st2 := [.int (zb true)]) hE hH hS hB0 hl ca_X0_endsBuyer mkX0_28 (c_X0_endsBuyer l G B0 M a 4 xo yo (some u) hR0 (by omega)) hR0 rfl rfl rfl rfl rfl ⟨Nat.le_of_ble_eq_true rfl, Nat.le_of_ble_eq_true rfl⟩ (Nat.le_of_ble_eq_true rfl) ⟨Nat.le_refl _, Nat.le_refl _⟩ dX0_takes_141 (fun H locs M6 hH hp hS => ?_)
      obtain ⟨hR7, hG8⟩ := hp
      have hF9 := fun q hq => (hG8 q hq).trans (hF q hq)
      refine lv_goto (tgt := 152) hx hb dX0_takes_144 (by decide) ?_
      exact z_zret hE hH hS (by simp [tkB, *]) ⟨by have hc59 : c = 59 := (by assumption); subst hc59; exact hR7, hF9⟩ dX0_takes_152
  refine lv_iload_n hx hb dX0_takes_0 rfl (lv_at hl 1 rfl) ?_
  refine n_bipush hx hb 48 dX0_takes_1 (by decide) ?_
  refine n_cmp_lt (tgt := 19) hx hb (by omega) (by decide) dX0_takes_3 (by decide) (fun h10 => ?_) (fun h10 => ?_)
  · refine lv_bipush (v := (-6)) hx hb dX0_takes_19 (by decide) ?_
    exact z_topeq (show (-6) = oI (dgt c) from by unfold dgt; rw [if_neg (by omega)]; rfl) J21
  · refine lv_iload_n hx hb dX0_takes_6 rfl (lv_at hl 1 rfl) ?_
    refine n_bipush hx hb 57 dX0_takes_7 (by decide) ?_
    refine n_cmp_gt (tgt := 19) hx hb (by omega) (by decide) dX0_takes_9 (by decide) (fun h11 => ?_) (fun h11 => ?_)
    · refine lv_bipush (v := (-6)) hx hb dX0_takes_19 (by decide) ?_
      exact z_topeq (show (-6) = oI (dgt c) from by unfold dgt; rw [if_neg (by omega)]; rfl) J21
    · refine lv_iload_n hx hb dX0_takes_12 rfl (lv_at hl 1 rfl) ?_
      refine n_bipush hx hb 48 dX0_takes_13 (by decide) ?_
      refine n_isub hx hb (by omega) dX0_takes_15 ?_
      refine lv_goto (tgt := 21) hx hb dX0_takes_16 (by decide) ?_
      exact z_topeq (show nI (c - 48) = oI (dgt c) from by unfold dgt; rw [if_pos (by omega)]; rfl) J21

/-- takes(c), at any position -/
theorem c_X0_takes (l : Launch) (G : zG) (B0 : Nat) (M : Mm) (a p : Nat) (xo yo uo : Option Nat) (hR : RdM G a p xo yo uo M) (hBa : B0 ≤ a) (hp : p ≤ 4) (hu : p = 4 → ∃ u, uo = some u ∧ u ≤ 999) (c : Nat) (hc : c < 128) : zMet l yX0_takes cX0_takes 3 (some .boolean) 1 0 0 G B0 M [.ref a, .int (nI c)] (some (.int (zb (tkB p uo c)))) (fun M1 => RdM G a (tkP p c) (tkX p xo c) (tkY p yo c) (tkU p uo c) M1 ∧ ∀ q, q ≠ a → M1 q = M q) := by
  rcases (show p = 0 ∨ p = 1 ∨ p = 2 ∨ p = 3 ∨ p = 4 by omega) with rfl | rfl | rfl | rfl | rfl
  · exact c_X0_takes_0 l G B0 M a xo yo uo hR hBa c hc
  · exact c_X0_takes_1 l G B0 M a xo yo uo hR hBa c hc
  · exact c_X0_takes_2 l G B0 M a xo yo uo hR hBa c hc
  · exact c_X0_takes_3 l G B0 M a xo yo uo hR hBa c hc
  · obtain ⟨u, rfl, hu9⟩ := hu rfl
    exact c_X0_takes_4 l G B0 M a xo yo u hR hBa hu9 c hc
end
section
theorem wb_tb (n : Nat) : (lN n).toBitVec = BitVec.ofNat 64 n := rfl
theorem wb_inj {a b : Int64} (h : a.toBitVec = b.toBitVec) : a = b := Int64.toBitVec_inj.mp h
theorem wb_tn {n : Nat} (h : n < 2 ^ 64) : (lN n).toBitVec.toNat = n := by rw [wb_tb, BitVec.toNat_ofNat, Nat.mod_eq_of_lt h]
theorem wb_of (x : Int64) : ∃ n, n < 2 ^ 64 ∧ x = lN n := ⟨x.toBitVec.toNat, x.toBitVec.isLt, wb_inj (by rw [wb_tb]; simp)⟩
theorem wb_cu : ∀ k, k < 64 → ((nI k).toInt64.toUInt64 &&& Int64.toUInt64 63) = UInt64.ofNat k := by decide +kernel
theorem wb_lt2 {a b : Nat} (h : a < b) : 2 ^ a < 2 ^ b := Nat.pow_lt_pow_right (by decide) h
theorem wb_shr {n k : Nat} (hn : n < 2 ^ 64) (hk : k < 64) : ((lN n).toUInt64 >>> ((nI k).toInt64.toUInt64 &&& Int64.toUInt64 63)).toInt64 = lN (n / 2 ^ k) := by
  rw [wb_cu k hk]
  apply wb_inj
  apply BitVec.eq_of_toNat_eq
  show ((lN n).toUInt64 >>> UInt64.ofNat k).toNat = (BitVec.ofNat 64 _).toNat
  have h1 : (UInt64.ofNat k).toNat = k := by
    show (BitVec.ofNat 64 k).toNat = k
    rw [BitVec.toNat_ofNat, Nat.mod_eq_of_lt (by omega)]
  have h2 : (lN n).toUInt64.toNat = n := wb_tn hn
  rw [UInt64.toNat_shiftRight, h1, h2, Nat.mod_eq_of_lt hk, Nat.shiftRight_eq_div_pow, BitVec.toNat_ofNat, Nat.mod_eq_of_lt (Nat.lt_of_le_of_lt (Nat.div_le_self _ _) hn)]
theorem wb_and {a b : Nat} (ha : a < 2 ^ 64) (hb : b < 2 ^ 64) : lN a &&& lN b = lN (a &&& b) := by
  apply wb_inj
  rw [Int64.toBitVec_and, wb_tb, wb_tb, wb_tb]
  apply BitVec.eq_of_toNat_eq
  rw [BitVec.toNat_and, BitVec.toNat_ofNat, BitVec.toNat_ofNat, BitVec.toNat_ofNat, Nat.mod_eq_of_lt ha, Nat.mod_eq_of_lt hb, Nat.mod_eq_of_lt (Nat.and_lt_two_pow _ hb)]
theorem wb_mask {n k : Nat} (hn : n < 2 ^ 64) (hk : k < 64) : lN n &&& lN (2 ^ k - 1) = lN (n % 2 ^ k) := by
  rw [wb_and hn (by have := wb_lt2 hk; omega), Nat.and_two_pow_sub_one_eq_mod]
theorem nI_i2c {k : Nat} (hk : k < 65536) : ((nI k).toUInt32 % 65536).toInt32 = nI k := lg_i2c_word (by rw [nI_toInt (by omega)]; omega) (by rw [nI_toInt (by omega)]; omega)
theorem lg0 {r : Nat} (hr : r < 2 ^ 64) : lg_cmp (lN r) (lN 0) = 0 ↔ r = 0 := by
  have key : lN r = lN 0 ↔ r = 0 := by
    refine ⟨fun h => ?_, fun h => by rw [h]⟩
    have h1 := congrArg (fun z : Int64 => z.toBitVec.toNat) h
    simp only [wb_tn hr, wb_tn (show 0 < 2 ^ 64 by decide)] at h1
    exact h1
  unfold lg_cmp
  by_cases h : lN r = lN 0
  · rw [h]
    simp
    exact key.mp h
  · rw [← key]
    by_cases h1 : lN r > lN 0
    · rw [if_pos h1]
      exact ⟨fun q => absurd q (by decide), fun q => absurd q h⟩
    · rw [if_neg h1, if_neg h]
      exact ⟨fun q => absurd q (by decide), fun q => absurd q h⟩
section ZL
variable {p : Program} {l : Launch} {e : Env} {R : Room} {s : State} {m : MethodId} {args : Array Value} {below : List Frame} {meth : Method} {c : Code} {H : Heap} {locs : List Loc} {cells slots : Nat} {Q : State → Prop}
variable {cc : ByteArray} {pc tgt : Nat} {off : Int} {ls : Array Slot} {rest : List Value} {r b j : Nat}
theorem l_mask (hx : p.tables.exec = Jvm.exec) (hb : c.code = cc) (hr : r < 2 ^ 64) (hdg : decode cc pc = .ok (.land, 1)) (kk : W p l e R s m args below meth c H locs cells slots Q (F0 m (pc + 1) ls (.long (lN (r % 256)) :: rest))) : W p l e R s m args below meth c H locs cells slots Q (F0 m pc ls (.long (lN 255) :: .long (lN r) :: rest)) :=
  lv_land hx hb hdg (by rw [show lN r &&& lN 255 = lN (r % 256) from wb_mask (k := 8) hr (by decide)]; exact kk)
theorem l_shr (hx : p.tables.exec = Jvm.exec) (hb : c.code = cc) (hr : r < 2 ^ 64) (hk : b < 64) (hdg : decode cc pc = .ok (.lushr, 1)) (kk : W p l e R s m args below meth c H locs cells slots Q (F0 m (pc + 1) ls (.long (lN (r / 2 ^ b)) :: rest))) : W p l e R s m args below meth c H locs cells slots Q (F0 m pc ls (.int (nI b) :: .long (lN r) :: rest)) :=
  lv_lushr hx hb hdg (wb_shr hr hk) kk
theorem c_if_eq (hx : p.tables.exec = Jvm.exec) (hb : c.code = cc) (hr : r < 2 ^ 64) (hdg : decode cc pc = .ok (.ifCond .eq off, 3)) (ht : (pc : Int) + off = (tgt : Int)) (kt : r = 0 → W p l e R s m args below meth c H locs cells slots Q (F0 m tgt ls rest)) (kf : 0 < r → W p l e R s m args below meth c H locs cells slots Q (F0 m (pc + 3) ls rest)) : W p l e R s m args below meth c H locs cells slots Q (F0 m pc ls (.int (lg_cmp (lN r) (lN 0)) :: rest)) :=
  lv_if_eq hx hb hdg ht (fun h => kt ((lg0 hr).mp h)) (fun h => kf (Nat.pos_of_ne_zero (fun q => h ((lg0 hr).mpr q))))
theorem c_if_ne (hx : p.tables.exec = Jvm.exec) (hb : c.code = cc) (hr : r < 2 ^ 64) (hdg : decode cc pc = .ok (.ifCond .ne off, 3)) (ht : (pc : Int) + off = (tgt : Int)) (kt : 0 < r → W p l e R s m args below meth c H locs cells slots Q (F0 m tgt ls rest)) (kf : r = 0 → W p l e R s m args below meth c H locs cells slots Q (F0 m (pc + 3) ls rest)) : W p l e R s m args below meth c H locs cells slots Q (F0 m pc ls (.int (lg_cmp (lN r) (lN 0)) :: rest)) :=
  lv_if_ne hx hb hdg ht (fun h => kt (Nat.pos_of_ne_zero (fun q => h ((lg0 hr).mpr q)))) (fun h => kf ((lg0 hr).mp h))
theorem nd_cmp_lt (hx : p.tables.exec = Jvm.exec) (hb : c.code = cc) (hj : j < 2 ^ 31) (hbb : b < 2 ^ 31) (hdg : decode cc pc = .ok (.if_icmp .lt off, 3)) (ht : (pc : Int) + off = (tgt : Int)) (kt : j ≤ b → W p l e R s m args below meth c H locs cells slots Q (F0 m tgt ls rest)) (kf : ∀ i, j = i + 1 → b ≤ i → W p l e R s m args below meth c H locs cells slots Q (F0 m (pc + 3) ls rest)) : W p l e R s m args below meth c H locs cells slots Q (F0 m pc ls (.int (nI b) :: .int (nI j - nI 1) :: rest)) := by
  cases j with
  | zero => exact lv_icmp_lt hx hb hdg ht (fun _ => kt (Nat.zero_le _)) (fun h => absurd (show nI 0 - nI 1 < nI b by
      have e : (nI 0 - nI 1 : Int32).toInt = -1 := by decide
      rw [Int32.lt_iff_toInt_lt, e, nI_toInt hbb]; omega) h)
  | succ i =>
    rw [nI_down]
    exact n_cmp_lt hx hb (by omega) hbb hdg ht (fun h => kt (by omega)) (fun h => kf i rfl h)
end ZL
theorem wOk.setP56 {v : Wv} (h : wOk v) {j k x : Nat} (hj : j < 12) (hk : k = 5 ∨ k = 6) : wOk (vset v (14 + 7 * j + k) x) ∧ (vset v (14 + 7 * j + k) x) 0 = v 0 := by
  obtain ⟨h1, h2, h3, h4⟩ := h
  have hz : (vset v (14 + 7 * j + k) x) 0 = v 0 := v0_setP v x (by decide)
  refine ⟨⟨by rw [hz]; exact h1, by rw [v0_setP v x (by decide)]; exact h2, fun u hu => by rw [sv_setP v x hu]; exact h3 u hu, fun i hi => ?_⟩, hz⟩
  rw [hz] at hi
  have hp : ∀ d, d < 5 → pv (vset v (14 + 7 * j + k) x) i d = pv v i d := fun d hd => by
    rw [pv_setP v x (by omega) (by omega), if_neg (by omega)]
  have hc : cv (vset v (14 + 7 * j + k) x) i = cv v i := funext fun c => cv_setP v x hj (by omega)
  have hl' : ∀ a b, liesN (pv (vset v (14 + 7 * j + k) x) i) a b = liesN (pv v i) a b := fun a b => by
    unfold liesN; rw [hp 0 (by decide), hp 1 (by decide), hp 2 (by decide), hp 3 (by decide)]
  have := h4 i hi
  unfold pOk at this ⊢
  rw [hp 0 (by decide), hp 1 (by decide), hp 2 (by decide), hp 3 (by decide), hp 4 (by decide), hc]
  simpa only [hl'] using this
theorem wOk.setS23 {v : Wv} (h : wOk v) {i x : Nat} (hi : i = 2 ∨ i = 3) : wOk (vset v i x) ∧ (vset v i x) 0 = v 0 := by
  obtain ⟨h1, h2, h3, h4⟩ := h
  have hz : (vset v i x) 0 = v 0 := fset_ne v x (by omega)
  have hp : ∀ j, pv (vset v i x) j = pv v j := fun j => funext fun k => pv_setS v x (by omega)
  have hc : ∀ j, cv (vset v i x) j = cv v j := fun j => funext fun k => cv_setS v x (by omega)
  refine ⟨⟨by rw [hz]; exact h1, by rw [show (vset v i x) 1 = v 1 from fset_ne v x (by omega)]; exact h2, fun u hu => by rw [show sv (vset v i x) u = sv v u from fset_ne v x (by omega)]; exact h3 u hu, fun j hj => ?_⟩, hz⟩
  rw [hp, hc]
  exact h4 j (by rw [hz] at hj; exact hj)
theorem sellJ_ok {v : Wv} (h : wOk v) {j : Nat} (hj : j < v 0) : wOk (sellJ v j) ∧ sellJ v j 0 = v 0 := by
  have hj12 : j < 12 := by have := h.1; omega
  have a1 := h.setP56 (x := pv v j 5 + 1) hj12 (Or.inl rfl)
  have a2 := a1.1.setP56 (x := pv (vset v (14 + 7 * j + 5) (pv v j 5 + 1)) j 6 + pv v j 4) hj12 (Or.inr rfl)
  have a3 := a2.1.setS23 (x := (vset (vset v (14 + 7 * j + 5) (pv v j 5 + 1)) (14 + 7 * j + 6) (pv (vset v (14 + 7 * j + 5) (pv v j 5 + 1)) j 6 + pv v j 4)) 2 + 1) (Or.inl rfl)
  have a4 := a3.1.setS23 (x := (vset (vset (vset v (14 + 7 * j + 5) (pv v j 5 + 1)) (14 + 7 * j + 6) (pv (vset v (14 + 7 * j + 5) (pv v j 5 + 1)) j 6 + pv v j 4)) 2 ((vset (vset v (14 + 7 * j + 5) (pv v j 5 + 1)) (14 + 7 * j + 6) (pv (vset v (14 + 7 * j + 5) (pv v j 5 + 1)) j 6 + pv v j 4)) 2 + 1)) 3 + pv v j 4) (Or.inr rfl)
  exact ⟨a4.1, a4.2.trans (a3.2.trans (a2.2.trans a1.2))⟩
theorem sellV_ok {v : Wv} (h : wOk v) (c pu : Nat) : wOk (sellV v c pu) ∧ sellV v c pu 0 = v 0 := by
  unfold sellV
  cases hs : seen v (-6) c with
  | none => exact ⟨h, rfl⟩
  | some j =>
    show wOk (if pv v j 4 ≤ pu then sellJ v j else v) ∧ (if pv v j 4 ≤ pu then sellJ v j else v) 0 = v 0
    split
    · exact sellJ_ok h (seen_lt hs)
    · exact ⟨h, rfl⟩

set_option maxHeartbeats 4000000 in
set_option maxRecDepth 100000 in
theorem c_X0_pays (l : Launch) (G : zG) (B0 : Nat) (M : Mm) (a p x y u : Nat) (hR : RdM G a p (some x) (some y) (some u) M) (hx9 : x < 10) (hy9 : y < 6) (hu9 : u ≤ 999) (w : Nat) (r : Nat → Nat) (v : Wv) (hW : WlR G w r v M) (hr : rOk r) (hv : wOk v) (hBw : B0 ≤ w) : zMet l yX0_pays cX0_pays 2 (some .boolean) 4 0 0 G B0 M [.ref a, .ref w] (some (.int (zb (sells v (y * 10 + x) u)))) (fun M1 => WlR G w r (sellV v (y * 10 + x) u) M1 ∧ ∀ q, (q < w ∨ w + 27 ≤ q) → M1 q = M q) := by
  refine z_met RX0 [(0, .ref a), (1, .ref w)] (by decide) rfl (Nat.le_of_ble_eq_true rfl) rfl ?_
  intro pg ev s m below meth cd ls hE hin hB0 hH hl
  have hx := hE.1
  have hb := hE.2.1
  have hn := hv.1
  have hF : ∀ q, (q < w ∨ w + 27 ≤ q) → M q = M q := fun _ _ => rfl
  have hR0 : M a = some (.inr (0, [.int (nI p), .int (nI x), .int (nI y), .int (nI u)])) := hR
  refine z_gen B0 (fun H locs hH hS => ?_) hH
  refine lv_aload_n hx hb dX0_pays_0 rfl (lv_at hl 0 rfl) ?_
  refine z_get (T := TX0) (v := .int (nI x)) hE hH hR0 rfl uw_X0 1 (by decide) fkX0_15 rfl dX0_pays_1 ?_
  refine lv_aload_n hx hb dX0_pays_4 rfl (lv_at hl 0 rfl) ?_
  refine z_get (T := TX0) (v := .int (nI y)) hE hH hR0 rfl uw_X0 2 (by decide) fkX0_18 rfl dX0_pays_5 ?_
  refine z_callSN (rest := []) (st2 := [.int (zb (isC (nI x) (nI y)))]) hE hH hS hB0 hl ca_X5_isCell hE.2.2.2.2.2.2.2.2.2.2.2.2.1 (c_X5_isCell l G B0 M (nI x) (nI y)) rfl rfl rfl ⟨Nat.le_of_ble_eq_true rfl, Nat.le_of_ble_eq_true rfl⟩ (Nat.le_of_ble_eq_true rfl) ⟨Nat.le_refl _, Nat.le_refl _⟩ dX0_pays_8 (fun H locs M1 hH hp hS => ?_)
  subst hp
  refine b_if_eq (tgt := 40) hx hb dX0_pays_11 (by decide) (fun h1 => ?_) (fun h1 => ?_)
  · exact absurd h1 (by rw [isC_N (by omega) (by omega)]; decide)
  · refine lv_aload_n hx hb dX0_pays_14 rfl (lv_at hl 1 rfl) ?_
    refine lv_aload_n hx hb dX0_pays_15 rfl (lv_at hl 0 rfl) ?_
    refine z_get (T := TX0) (v := .int (nI x)) hE hH hR0 rfl uw_X0 1 (by decide) fkX0_15 rfl dX0_pays_16 ?_
    refine lv_aload_n hx hb dX0_pays_19 rfl (lv_at hl 0 rfl) ?_
    refine z_get (T := TX0) (v := .int (nI y)) hE hH hR0 rfl uw_X0 2 (by decide) fkX0_18 rfl dX0_pays_20 ?_
    refine z_callSN (rest := [.ref w]) (st2 := [.int (nI (y * 10 + x)), .ref w]) hE hH hS hB0 hl ca_X5_cellAt hE.2.2.2.2.2.2.2.2.2.2.2.2.2 (c_X5_cellAt l G B0 M x y) rfl rfl rfl ⟨Nat.le_of_ble_eq_true rfl, Nat.le_of_ble_eq_true rfl⟩ (Nat.le_of_ble_eq_true rfl) ⟨Nat.le_refl _, Nat.le_refl _⟩ dX0_pays_23 (fun H locs M1 hH hp hS => ?_)
    subst hp
    refine lv_aload_n hx hb dX0_pays_26 rfl (lv_at hl 0 rfl) ?_
    refine z_get (T := TX0) (v := .int (nI u)) hE hH hR0 rfl uw_X0 3 (by decide) fkX0_25 rfl dX0_pays_27 ?_
    refine z_callV (rest := []) (st2 := [.int (zb (sells v (y * 10 + x) u))]) hE hH hS hB0 hl ca_X4_sellAt mkX0_44 (c_X4_sellAt l G B0 M w r v hW hr hv (by omega) (y * 10 + x) u (by omega) (by omega)) hW.1 rfl rfl rfl rfl rfl ⟨Nat.le_of_ble_eq_true rfl, Nat.le_of_ble_eq_true rfl⟩ (Nat.le_of_ble_eq_true rfl) ⟨Nat.le_refl _, Nat.le_refl _⟩ dX0_pays_30 (fun H locs M2 hH hp hS => ?_)
    obtain ⟨hW3, hG4⟩ := hp
    have hv5 : wOk (sellV v (y * 10 + x) u) := (sellV_ok hv _ _).1
    have hF6 := fun q hq => (hG4 q hq).trans (hF q hq)
    refine b_if_eq (tgt := 40) hx hb dX0_pays_33 (by decide) (fun h7 => ?_) (fun h7 => ?_)
    · refine n_iconst hx hb 0 dX0_pays_40 (by decide) ?_
      exact z_zret hE hH hS (by rw [h7]; rfl) ⟨hW3, hF6⟩ dX0_pays_41
    · refine n_iconst hx hb 1 dX0_pays_36 (by decide) ?_
      refine lv_goto (tgt := 41) hx hb dX0_pays_37 (by decide) ?_
      exact z_zret hE hH hS (by rw [h7]; rfl) ⟨hW3, hF6⟩ dX0_pays_41

/-! the pad -/
def PdM (G : zG) (d len : Nat) (ps : Nat → Nat) (M : Mm) : Prop := M d = some (.inr (2, [.ref (d + 1), .int (nI len), .ref (d + 2)])) ∧ zArr G 4 M (d + 1) 60 (fun i => nI (ps i))
theorem PdM.kept {G : zG} {d len : Nat} {ps : Nat → Nat} {M M1 : Mm} (h : PdM G d len ps M) (h1 : M1 d = M d) (h2 : M1 (d + 1) = M (d + 1)) : PdM G d len ps M1 := ⟨by rw [h1]; exact h.1, h.2.kept h2⟩
abbrev RS : Type := Nat × Option Nat × Option Nat × Option Nat
def tkS (st : RS) (c : Nat) : RS := (tkP st.1 c, tkX st.1 st.2.1 c, tkY st.1 st.2.2.1 c, tkU st.1 st.2.2.2 c)
def rst (g : RS) (ps : Nat → Nat) : Nat → RS
  | 0 => (0, g.2.1, g.2.2.1, g.2.2.2)
  | k + 1 => tkS (rst g ps k) (ps k)
def bad (g : RS) (ps : Nat → Nat) (i : Nat) : Bool := !(tkB (rst g ps i).1 (rst g ps i).2.2.2 (ps i))
def zfind (p : Nat → Bool) : Nat → Option Nat
  | 0 => none
  | n + 1 => (zfind p n).elim (if p n = true then some n else none) some
theorem zfind_none {p : Nat → Bool} : ∀ {n : Nat}, zfind p n = none → ∀ k, k < n → p k = false
  | n + 1, h, k, hk => by
    unfold zfind at h
    cases hz : zfind p n with
    | some i => rw [hz] at h; cases h
    | none =>
      rw [hz] at h
      have h2 : (if p n = true then some n else none) = none := h
      by_cases hkn : k = n
      · subst hkn
        by_cases hp : p k = true
        · rw [if_pos hp] at h2; cases h2
        · exact Bool.not_eq_true _ ▸ hp
      · exact zfind_none hz k (by omega)
theorem zfind_step {p : Nat → Bool} {n : Nat} (h : zfind p n = none) (hp : p n = false) : zfind p (n + 1) = none := by
  unfold zfind
  rw [h, hp]
  rfl
theorem zfind_hit {p : Nat → Bool} {k : Nat} (h : zfind p k = none) (hp : p k = true) : ∀ {n : Nat}, k < n → zfind p n = some k
  | n + 1, hk => by
    unfold zfind
    by_cases hkn : k = n
    · subst hkn; rw [h, hp]; rfl
    · rw [zfind_hit h hp (n := n) (by omega)]; rfl
def ffR (g : RS) (ps : Nat → Nat) (len : Nat) : Option Nat := (zfind (bad g ps) len).elim (if (rst g ps len).1 = 4 then none else some len) some
theorem tkP_le (p c : Nat) : tkP p c ≤ 4 := by
  unfold tkP
  split <;> (try split) <;> omega
theorem dgt_of {c : Nat} (h : (dgt c).isSome = true) : ∃ d, dgt c = some d ∧ d ≤ 9 := by
  cases hd : dgt c with
  | none => rw [hd] at h; cases h
  | some d => exact ⟨d, rfl, (dgt_le hd).1⟩
/-- in the text's part without a fault, a purse that is begun is a number -/
theorem rst_ok (g : RS) (ps : Nat → Nat) : ∀ k, zfind (bad g ps) k = none → (rst g ps k).1 ≤ 4 ∧ ((rst g ps k).1 = 4 → ∃ u, (rst g ps k).2.2.2 = some u ∧ u ≤ 999)
  | 0, _ => ⟨Nat.zero_le _, fun h => by cases h⟩
  | k + 1, h => by
    have hk : zfind (bad g ps) k = none := by
      cases hz : zfind (bad g ps) k with
      | none => rfl
      | some i => unfold zfind at h; rw [hz] at h; cases h
    have hb := zfind_none h k (by omega)
    have hi := rst_ok g ps k hk
    refine ⟨tkP_le _ _, fun h4 => ?_⟩
    have hb2 : tkB (rst g ps k).1 (rst g ps k).2.2.2 (ps k) = true := by
      unfold bad at hb
      simpa using hb
    have hT : tkP (rst g ps k).1 (ps k) = 4 := h4
    show ∃ u, tkU (rst g ps k).1 (rst g ps k).2.2.2 (ps k) = some u ∧ u ≤ 999
    generalize (rst g ps k).1 = p at *
    generalize (rst g ps k).2.2.2 = uo at *
    generalize ps k = c at *
    have h5 := hi.1
    rcases (show p = 0 ∨ p = 1 ∨ p = 2 ∨ p = 3 ∨ p = 4 by omega) with rfl | rfl | rfl | rfl | rfl
    · cases hT
    · cases hT
    · cases hT
    · obtain ⟨d, hd, hd9⟩ := dgt_of hb2
      exact ⟨d, by unfold tkU; rw [if_pos rfl, hd], by omega⟩
    · obtain ⟨u, hu, hu9⟩ := hi.2 rfl
      have hc : c ≠ 59 := fun q => by subst q; cases hT
      subst hu
      have hb3 := hb2
      unfold tkB at hb3
      rw [if_neg hc] at hb3
      cases hd : dgt c with
      | none => rw [hd] at hb3; cases hb3
      | some d =>
        rw [hd] at hb3
        have hb4 : decide (u ≠ 0 ∧ u * 10 + d ≤ 999) = true := hb3
        rw [decide_eq_true_eq] at hb4
        refine ⟨u * 10 + d, ?_, hb4.2⟩
        unfold tkU
        rw [if_neg (by decide), if_pos ⟨rfl, hc, hb2⟩, hd]
        rfl

set_option maxHeartbeats 4000000 in
set_option maxRecDepth 100000 in
theorem c_X2_firstFault (l : Launch) (G : zG) (B0 : Nat) (M : Mm) (d len : Nat) (ps : Nat → Nat) (hP : PdM G d len ps M) (hlen : len ≤ 60) (hps : ∀ i, i < len → ps i < 128) (g : RS) (hR : RdM G (d + 2) g.1 g.2.1 g.2.2.1 g.2.2.2 M) (hBd : B0 ≤ d) : zMet l yX2_firstFault cX2_firstFault 2 (some .int) 2 0 0 G B0 M [.ref d] (some (.int (oI (ffR g ps len)))) (fun M1 => PdM G d len ps M1 ∧ (∃ p xo yo uo, RdM G (d + 2) p xo yo uo M1) ∧ ∀ q, q ≠ d + 2 → M1 q = M q) := by
  refine z_met RX2 [(0, .ref d)] (by decide) rfl (Nat.le_of_ble_eq_true rfl) rfl ?_
  intro pg ev s m below meth cd ls hE hin hB0 hH hl
  have hx := hE.1
  have hb := hE.2.1
  have hF : ∀ q, q ≠ d + 2 → M q = M q := fun _ _ => rfl
  refine z_gen B0 (fun H locs hH hS => ?_) hH
  refine lv_aload_n hx hb dX2_firstFault_0 rfl (lv_at hl 0 rfl) ?_
  refine z_get (T := TX2) (v := .ref (d + 2)) hE hH hP.1 rfl uw_X2 2 (by decide) fkX2_18 rfl dX2_firstFault_1 ?_
  refine z_callV (rest := []) (st2 := []) hE hH hS hB0 hl ca_X0_begin mkX2_28 (c_X0_begin l G B0 M (d + 2) g.1 g.2.1 g.2.2.1 g.2.2.2 hR (by omega)) hR rfl rfl rfl rfl rfl ⟨Nat.le_of_ble_eq_true rfl, Nat.le_of_ble_eq_true rfl⟩ (Nat.le_of_ble_eq_true rfl) ⟨Nat.le_refl _, Nat.le_refl _⟩ dX2_firstFault_4 (fun H locs M1 hH hp hS => ?_)
  obtain ⟨hR2, hG3⟩ := hp
  have hP5 := hP.kept (hG3 _ (by omega)) (hG3 _ (by omega))
  have hF4 := fun q hq => (hG3 q (by omega)).trans (hF q hq)
  refine n_iconst hx hb 0 dX2_firstFault_7 (by decide) ?_
  refine lv_istore_n (lv' := [(1, .int (nI 0)), (0, .ref d)]) hx hb dX2_firstFault_8 rfl hl (by decide) rfl (fun ls hl => ?_)
  have L9 : ∀ (dd : Nat) (k : Nat) (M1 : Mm), len < k + dd → (k ≤ len) → (PdM G d len ps M1) → (RdM G (d + 2) (rst g ps k).1 (rst g ps k).2.1 (rst g ps k).2.2.1 (rst g ps k).2.2.2 M1) → (∀ q, q ≠ d + 2 → M1 q = M q) → (zfind (bad g ps) k = none) → ∀ (H : Heap) (locs : List Loc), zH G M1 H → zS 0 B0 s.heap H locs → ∀ (ls : Array Slot), lv_has ls 2 [(0, .ref d), (1, .int (nI k))] → zW pg l ev 2 0 0 s m [.ref d] below meth cd H locs 0 0 G B0 (some (.int (oI (ffR g ps len)))) (fun M1 => PdM G d len ps M1 ∧ (∃ p xo yo uo, RdM G (d + 2) p xo yo uo M1) ∧ ∀ q, q ≠ d + 2 → M1 q = M q) (F0 m 9 ls []) := by
    intro dd
    induction dd with
    | zero =>
      intro k M1 hdd hk hP1 hR1 hF1 hz
      exact absurd hdd (by omega)
    | succ dd ih =>
      intro k M1 hdd hk hP1 hR1 hF1 hz H locs hH hS ls hl
      refine lv_iload_n hx hb dX2_firstFault_9 rfl (lv_at hl 1 rfl) ?_
      refine lv_aload_n hx hb dX2_firstFault_10 rfl (lv_at hl 0 rfl) ?_
      refine z_get (T := TX2) (v := .int (nI len)) hE hH hP1.1 rfl uw_X2 1 (by decide) fkX2_24 rfl dX2_firstFault_11 ?_
      refine n_cmp_ge (tgt := 41) hx hb (by omega) (by omega) dX2_firstFault_14 (by decide) (fun h6 => ?_) (fun h6 => ?_)
      · refine lv_aload_n hx hb dX2_firstFault_41 rfl (lv_at hl 0 rfl) ?_
        refine z_get (T := TX2) (v := .ref (d + 2)) hE hH hP1.1 rfl uw_X2 2 (by decide) fkX2_18 rfl dX2_firstFault_42 ?_
        refine z_callV (rest := []) (st2 := [.int (zb (decide ((rst g ps k).1 = 4)))]) hE hH hS hB0 hl ca_X0_mayEnd mkX2_35 (c_X0_mayEnd l G B0 M1 (d + 2) ((rst g ps k).1) ((rst g ps k).2.1) ((rst g ps k).2.2.1) ((rst g ps k).2.2.2) hR1 (rst_ok g ps k hz).1) hR1 rfl rfl rfl rfl rfl ⟨Nat.le_of_ble_eq_true rfl, Nat.le_of_ble_eq_true rfl⟩ (Nat.le_of_ble_eq_true rfl) ⟨Nat.le_refl _, Nat.le_refl _⟩ dX2_firstFault_45 (fun H locs M1 hH hp hS => ?_)
        subst hp
        refine b_if_eq (tgt := 56) hx hb dX2_firstFault_48 (by decide) (fun h7 => ?_) (fun h7 => ?_)
        · refine lv_aload_n hx hb dX2_firstFault_56 rfl (lv_at hl 0 rfl) ?_
          refine z_get (T := TX2) (v := .int (nI len)) hE hH hP1.1 rfl uw_X2 1 (by decide) fkX2_24 rfl dX2_firstFault_57 ?_
          exact z_iret hE hH hS (by have hkk : k = len := (by omega); subst hkk; have hd4 := h7; rw [decide_eq_false_iff_not] at hd4; unfold ffR; rw [hz]; show _ = oI (if _ then _ else _); rw [if_neg hd4]; first | done | rfl) ⟨hP1, ⟨_, _, _, _, hR1⟩, hF1⟩ dX2_firstFault_60
        · refine lv_bipush (v := (-6)) hx hb dX2_firstFault_51 (by decide) ?_
          refine lv_goto (tgt := 60) hx hb dX2_firstFault_53 (by decide) ?_
          exact z_iret hE hH hS (by have hkk : k = len := (by omega); subst hkk; have hd4 := h7; rw [decide_eq_true_eq] at hd4; unfold ffR; rw [hz]; show _ = oI (if _ then _ else _); rw [if_pos hd4]; first | done | rfl) ⟨hP1, ⟨_, _, _, _, hR1⟩, hF1⟩ dX2_firstFault_60
      · refine lv_aload_n hx hb dX2_firstFault_17 rfl (lv_at hl 0 rfl) ?_
        refine z_get (T := TX2) (v := .ref (d + 2)) hE hH hP1.1 rfl uw_X2 2 (by decide) fkX2_18 rfl dX2_firstFault_18 ?_
        refine lv_aload_n hx hb dX2_firstFault_21 rfl (lv_at hl 0 rfl) ?_
        refine z_get (T := TX2) (v := .ref (d + 1)) hE hH hP1.1 rfl uw_X2 0 (by decide) fkX2_9 rfl dX2_firstFault_22 ?_
        refine lv_iload_n hx hb dX2_firstFault_25 rfl (lv_at hl 1 rfl) ?_
        refine z_cald hE hH hP1.2 (k := k) (by omega) (by decide) dX2_firstFault_26 ?_
        have q8 := hps k (by omega)
        refine z_callV (rest := []) (st2 := [.int (zb (tkB ((rst g ps k).1) ((rst g ps k).2.2.2) (ps k)))]) hE hH hS hB0 hl ca_X0_takes mkX2_31 (c_X0_takes l G B0 M1 (d + 2) ((rst g ps k).1) ((rst g ps k).2.1) ((rst g ps k).2.2.1) ((rst g ps k).2.2.2) hR1 (by omega) (rst_ok g ps k hz).1 (rst_ok g ps k hz).2 (ps k) (by omega)) hR1 rfl rfl rfl rfl rfl ⟨Nat.le_of_ble_eq_true rfl, Nat.le_of_ble_eq_true rfl⟩ (Nat.le_of_ble_eq_true rfl) ⟨Nat.le_refl _, Nat.le_refl _⟩ dX2_firstFault_27 (fun H locs M9 hH hp hS => ?_)
        obtain ⟨hR10, hG11⟩ := hp
        have hP13 := hP1.kept (hG11 _ (by omega)) (hG11 _ (by omega))
        have hF12 := fun q hq => (hG11 q (by omega)).trans (hF1 q hq)
        refine b_if_ne (tgt := 35) hx hb dX2_firstFault_30 (by decide) (fun h14 => ?_) (fun h14 => ?_)
        · refine lv_iinc (v := (nI (k + 1))) (lv' := [(1, .int (nI (k + 1))), (0, .ref d)]) hx hb dX2_firstFault_35 hl (k := 1) rfl (nI_inc _) (by decide) rfl (fun ls hl => ?_)
          refine lv_goto (tgt := 9) hx hb dX2_firstFault_38 (by decide) ?_
          exact ih  (k + 1) M9 (by omega) (by omega) hP13 hR10 hF12 (zfind_step hz (by unfold bad; rw [h14]; rfl)) _ _ hH hS _ (lv_sub hl [1, 0] rfl)
        · refine lv_iload_n hx hb dX2_firstFault_33 rfl (lv_at hl 1 rfl) ?_
          exact z_iret hE hH hS (by unfold ffR; rw [zfind_hit hz (by unfold bad; rw [h14]; rfl) (by omega)]; rfl) ⟨hP13, ⟨_, _, _, _, hR10⟩, hF12⟩ dX2_firstFault_34
  exact L9 (len + 1) 0 M1 (by omega) (by omega) hP5 hR2 hF4 rfl _ _ hH hS _ (lv_sub hl [1, 0] rfl)
end
section
/-- the characters of a number, while each is one; f so far -/
def sgF : Nat → Nat → Nat → Nat
  | 0, _, f => f
  | n + 1, r, f => if r = 0 then f else if r % 256 < 33 ∨ 126 < r % 256 then 0 else sgF n (r / 256) (f + 1)
theorem sgF_succ (n r f : Nat) : sgF (n + 1) r f = if r = 0 then f else if r % 256 < 33 ∨ 126 < r % 256 then 0 else sgF n (r / 256) (f + 1) := rfl
theorem sgF_0 (n f : Nat) : sgF n 0 f = f := by
  cases n with
  | zero => rfl
  | succ n => rw [sgF_succ, if_pos rfl]
theorem sgF_le : ∀ (n r f : Nat), sgF n r f ≤ n + f
  | 0, _, f => by show f ≤ 0 + f; omega
  | n + 1, r, f => by
    rw [sgF_succ]
    split
    · omega
    · split
      · omega
      · have := sgF_le n (r / 256) (f + 1); omega

set_option maxHeartbeats 4000000 in
set_option maxRecDepth 100000 in
theorem c_X2_signsIn (l : Launch) (G : zG) (B0 : Nat) (M : Mm) (r0 : Nat) (hr0 : r0 < 2 ^ 64) : zMet l yX2_signsIn cX2_signsIn 6 (some .int) 0 0 0 G B0 M [.long (lN r0)] (some (.int (nI (sgF 8 r0 0)))) (fun M1 => M = M1) := by
  refine z_met RX2 [(0, .long (lN r0))] (by decide) rfl (Nat.le_of_ble_eq_true rfl) rfl ?_
  intro pg ev s m below meth cd ls hE hin hB0 hH hl
  have hx := hE.1
  have hb := hE.2.1
  refine z_gen B0 (fun H locs hH hS => ?_) hH
  refine n_iconst hx hb 0 dX2_signsIn_0 (by decide) ?_
  refine lv_istore_n (lv' := [(2, .int (nI 0)), (0, .long (lN r0))]) hx hb dX2_signsIn_1 rfl hl (by decide) rfl (fun ls hl => ?_)
  refine lv_lload_n hx hb dX2_signsIn_2 rfl (lv_at hl 1 rfl) ?_
  refine lv_lstore_n (lv' := [(3, .long (lN r0)), (2, .int (nI 0)), (0, .long (lN r0))]) hx hb dX2_signsIn_3 rfl hl (by decide) rfl (fun ls hl => ?_)
  have L4 : ∀ (dd : Nat) (n : Nat) (r : Nat) (f : Nat), n < dd → (f + n = 8) → (r < 2 ^ 64) → (sgF n r f = sgF 8 r0 0) → ∀ (H : Heap) (locs : List Loc), zH G M H → zS 0 B0 s.heap H locs → ∀ (ls : Array Slot), lv_has ls 6 [(0, .long (lN r0)), (2, .int (nI f)), (3, .long (lN r))] → zW pg l ev 0 0 0 s m [.long (lN r0)] below meth cd H locs 0 0 G B0 (some (.int (nI (sgF 8 r0 0)))) (fun M1 => M = M1) (F0 m 4 ls []) := by
    intro dd
    induction dd with
    | zero =>
      intro n r f hdd hf hr hs
      exact absurd hdd (by omega)
    | succ dd ih =>
      intro n r f hdd hf hr hs H locs hH hS ls hl
      refine lv_lload_n hx hb dX2_signsIn_4 rfl (lv_at hl 2 rfl) ?_
      refine lv_lconst (v := lN 0) hx hb dX2_signsIn_5 (by decide) ?_
      refine W.lcmp hx hb dX2_signsIn_6 ?_
      refine c_if_eq (tgt := 51) hx hb (by omega) dX2_signsIn_7 (by decide) (fun h1 => ?_) (fun h1 => ?_)
      · refine lv_iload_n hx hb dX2_signsIn_51 rfl (lv_at hl 1 rfl) ?_
        exact z_iret hE hH hS (by rw [← hs]; first | (rw [show r = 0 by omega, sgF_0]; done) | (rw [show n = 0 by omega]; rfl)) rfl dX2_signsIn_52
      · refine lv_iload_n hx hb dX2_signsIn_10 rfl (lv_at hl 1 rfl) ?_
        refine n_bipush hx hb 8 dX2_signsIn_11 (by decide) ?_
        refine n_cmp_ge (tgt := 51) hx hb (by omega) (by decide) dX2_signsIn_13 (by decide) (fun h2 => ?_) (fun h2 => ?_)
        · refine lv_iload_n hx hb dX2_signsIn_51 rfl (lv_at hl 1 rfl) ?_
          exact z_iret hE hH hS (by rw [← hs]; first | (rw [show r = 0 by omega, sgF_0]; done) | (rw [show n = 0 by omega]; rfl)) rfl dX2_signsIn_52
        · refine lv_lload_n hx hb dX2_signsIn_16 rfl (lv_at hl 2 rfl) ?_
          refine lv_ldc2 (v := lN 255) hx hb hE.2.2.2.1 (hE.2.2.2.2.1 _ kcX2_22) dX2_signsIn_17 ?_
          refine l_mask hx hb (by omega) dX2_signsIn_20 ?_
          refine lv_l2i (v := nI (r % 256)) hx hb dX2_signsIn_21 (lN_i _) ?_
          refine lv_istore (lv' := [(5, .int (nI (r % 256))), (0, .long (lN r0)), (2, .int (nI f)), (3, .long (lN r))]) hx hb dX2_signsIn_22 hl (by decide) rfl (fun ls hl => ?_)
          refine lv_iload hx hb dX2_signsIn_24 (lv_at hl 0 rfl) ?_
          refine n_bipush hx hb 33 dX2_signsIn_26 (by decide) ?_
          refine n_cmp_lt (tgt := 38) hx hb (by omega) (by decide) dX2_signsIn_28 (by decide) (fun h3 => ?_) (fun h3 => ?_)
          · refine n_iconst hx hb 0 dX2_signsIn_38 (by decide) ?_
            exact z_iret hE hH hS (by rw [← hs]; obtain ⟨n', rfl⟩ : ∃ n', n = n' + 1 := ⟨n - 1, by omega⟩; rw [sgF_succ, if_neg (by omega), if_pos (by omega)]) rfl dX2_signsIn_39
          · refine lv_iload hx hb dX2_signsIn_31 (lv_at hl 0 rfl) ?_
            refine n_bipush hx hb 126 dX2_signsIn_33 (by decide) ?_
            refine n_cmp_le (tgt := 40) hx hb (by omega) (by decide) dX2_signsIn_35 (by decide) (fun h4 => ?_) (fun h4 => ?_)
            · refine lv_iinc (v := (nI (f + 1))) (lv' := [(2, .int (nI (f + 1))), (5, .int (nI (r % 256))), (0, .long (lN r0)), (3, .long (lN r))]) hx hb dX2_signsIn_40 hl (k := 2) rfl (nI_inc _) (by decide) rfl (fun ls hl => ?_)
              refine lv_lload_n hx hb dX2_signsIn_43 rfl (lv_at hl 3 rfl) ?_
              refine n_bipush hx hb 8 dX2_signsIn_44 (by decide) ?_
              refine l_shr hx hb (by omega) (by decide) dX2_signsIn_46 ?_
              refine lv_lstore_n (lv' := [(3, .long (lN (r / 2 ^ 8))), (2, .int (nI (f + 1))), (5, .int (nI (r % 256))), (0, .long (lN r0))]) hx hb dX2_signsIn_47 rfl hl (by decide) rfl (fun ls hl => ?_)
              refine lv_goto (tgt := 4) hx hb dX2_signsIn_48 (by decide) ?_
              exact ih  (n - 1) (r / 2 ^ 8) (f + 1) (by omega) (by omega) (by omega) (by rw [← hs]; obtain ⟨n', rfl⟩ : ∃ n', n = n' + 1 := ⟨n - 1, by omega⟩; rw [sgF_succ, if_neg (by omega), if_neg (by omega)]; rfl) _ _ hH hS _ (lv_sub hl [3, 1, 0] rfl)
            · refine n_iconst hx hb 0 dX2_signsIn_38 (by decide) ?_
              exact z_iret hE hH hS (by rw [← hs]; obtain ⟨n', rfl⟩ : ∃ n', n = n' + 1 := ⟨n - 1, by omega⟩; rw [sgF_succ, if_neg (by omega), if_pos (by omega)]) rfl dX2_signsIn_39
  exact L4 9 8 r0 0 (by omega) (by omega) hr0 rfl _ _ hH hS _ (lv_sub hl [2, 1, 0] rfl)

def apS (ps : Nat → Nat) (len r n : Nat) : Nat → Nat := fun i => if len ≤ i ∧ i < len + n then (r / 256 ^ (len + n - 1 - i)) % 256 else ps i
/-- the pad while the characters are written from the last one down to i -/
def apG (ps : Nat → Nat) (len r n i : Nat) : Nat → Nat := fun q => if i ≤ q then apS ps len r n q else ps q
theorem apG_step (ps : Nat → Nat) {len r n i : Nat} (h1 : len ≤ i) (h2 : i < len + n) (q : Nat) : fset (apG ps len r n (i + 1)) i ((r / 256 ^ (len + n - 1 - i)) % 256) q = apG ps len r n i q := by
  unfold fset apG
  by_cases hq : q = i
  · subst hq
    rw [if_pos rfl, if_pos (Nat.le_refl _)]
    unfold apS
    rw [if_pos ⟨h1, h2⟩]
  · rw [if_neg hq]
    by_cases h3 : i ≤ q
    · rw [if_pos (by omega), if_pos h3]
    · rw [if_neg (by omega), if_neg h3]
theorem apDiv (r m : Nat) : r / 256 ^ m / 2 ^ 8 = r / 256 ^ (m + 1) := by
  show r / 256 ^ m / 256 = _
  rw [Nat.div_div_eq_div_mul]
  rfl
theorem PdM.to {G : zG} {d len : Nat} {ps ps2 : Nat → Nat} {M : Mm} (h : PdM G d len ps M) (e : ∀ i, i < 60 → ps i = ps2 i) : PdM G d len ps2 M := ⟨h.1, h.2.to fun i hi => congrArg nI (e i hi)⟩

set_option maxHeartbeats 4000000 in
set_option maxRecDepth 100000 in
theorem c_X2_append (l : Launch) (G : zG) (B0 : Nat) (M : Mm) (d len : Nat) (ps : Nat → Nat) (hP : PdM G d len ps M) (hlen : len ≤ 60) (hBd : B0 ≤ d) (r0 n : Nat) (hr0 : r0 < 2 ^ 64) (hn : n ≤ 60 - len) : zMet l yX2_append cX2_append 7 none 0 0 0 G B0 M [.ref d, .long (lN r0), .int (nI n)] none (fun M1 => PdM G d (len + n) (apS ps len r0 n) M1 ∧ ∀ q, (q ≠ d ∧ q ≠ d + 1) → M1 q = M q) := by
  refine z_met RX2 [(0, .ref d), (1, .long (lN r0)), (3, .int (nI n))] (by decide) rfl (Nat.le_of_ble_eq_true rfl) rfl ?_
  intro pg ev s m below meth cd ls hE hin hB0 hH hl
  have hx := hE.1
  have hb := hE.2.1
  have hF : ∀ q, (q ≠ d ∧ q ≠ d + 1) → M q = M q := fun _ _ => rfl
  refine z_gen B0 (fun H locs hH hS => ?_) hH
  refine lv_iload_n hx hb dX2_append_0 rfl (lv_at hl 2 rfl) ?_
  refine n_if_lt (off := 14) (tgt := 15) hx hb (by omega) dX2_append_1 ?_ (by decide)
  refine lv_iload_n hx hb dX2_append_4 rfl (lv_at hl 2 rfl) ?_
  refine n_bipush hx hb 60 dX2_append_5 (by decide) ?_
  refine lv_aload_n hx hb dX2_append_7 rfl (lv_at hl 0 rfl) ?_
  refine z_get (T := TX2) (v := .int (nI len)) hE hH hP.1 rfl uw_X2 1 (by decide) fkX2_24 rfl dX2_append_8 ?_
  refine n_isub hx hb (by omega) dX2_append_11 ?_
  refine n_cmp_le (tgt := 16) hx hb (by omega) (by omega) dX2_append_12 (by decide) (fun h2 => ?_) (fun h2 => ?_)
  · refine lv_lload_n hx hb dX2_append_16 rfl (lv_at hl 1 rfl) ?_
    refine lv_lstore (lv' := [(4, .long (lN r0)), (0, .ref d), (1, .long (lN r0)), (3, .int (nI n))]) hx hb dX2_append_17 hl (by decide) rfl (fun ls hl => ?_)
    refine lv_aload_n hx hb dX2_append_19 rfl (lv_at hl 1 rfl) ?_
    refine z_get (T := TX2) (v := .int (nI len)) hE hH hP.1 rfl uw_X2 1 (by decide) fkX2_24 rfl dX2_append_20 ?_
    refine lv_iload_n hx hb dX2_append_23 rfl (lv_at hl 3 rfl) ?_
    refine n_iadd hx hb dX2_append_24 ?_
    refine n_iconst hx hb 1 dX2_append_25 (by decide) ?_
    refine lv_isub hx hb dX2_append_26 ?_
    refine lv_istore (lv' := [(6, .int (nI (len + n) - nI 1)), (4, .long (lN r0)), (0, .ref d), (1, .long (lN r0)), (3, .int (nI n))]) hx hb dX2_append_27 hl (by decide) rfl (fun ls hl => ?_)
    have L29 : ∀ (dd : Nat) (i : Nat) (r : Nat) (M1 : Mm), i < len + dd → (len ≤ i) → (i ≤ len + n) → (r < 2 ^ 64) → (r = r0 / 256 ^ (len + n - i)) → (PdM G d len (apG ps len r0 n i) M1) → (∀ q, (q ≠ d ∧ q ≠ d + 1) → M1 q = M q) → ∀ (H : Heap) (locs : List Loc), zH G M1 H → zS 0 B0 s.heap H locs → ∀ (ls : Array Slot), lv_has ls 7 [(0, .ref d), (1, .long (lN r0)), (3, .int (nI n)), (4, .long (lN r)), (6, .int (nI i - nI 1))] → zW pg l ev 0 0 0 s m [.ref d, .long (lN r0), .int (nI n)] below meth cd H locs 0 0 G B0 none (fun M1 => PdM G d (len + n) (apS ps len r0 n) M1 ∧ ∀ q, (q ≠ d ∧ q ≠ d + 1) → M1 q = M q) (F0 m 29 ls []) := by
      intro dd
      induction dd with
      | zero =>
        intro i r M1 hdd hi hi2 hr he hP1 hF1
        exact absurd hdd (by omega)
      | succ dd ih =>
        intro i r M1 hdd hi hi2 hr he hP1 hF1 H locs hH hS ls hl
        refine lv_iload hx hb dX2_append_29 (lv_at hl 4 rfl) ?_
        refine lv_aload_n hx hb dX2_append_31 rfl (lv_at hl 0 rfl) ?_
        refine z_get (T := TX2) (v := .int (nI len)) hE hH hP1.1 rfl uw_X2 1 (by decide) fkX2_24 rfl dX2_append_32 ?_
        refine nd_cmp_lt (tgt := 66) hx hb (by omega) (by omega) dX2_append_35 (by decide) (fun h3 => ?_) (fun j4 h3 h3b => ?_)
        · refine lv_aload_n hx hb dX2_append_66 rfl (lv_at hl 0 rfl) ?_
          refine lv_dup hx hb dX2_append_67 rfl ?_
          refine z_get (T := TX2) (v := .int (nI len)) hE hH hP1.1 rfl uw_X2 1 (by decide) fkX2_24 rfl dX2_append_68 ?_
          refine lv_iload_n hx hb dX2_append_71 rfl (lv_at hl 2 rfl) ?_
          refine n_iadd hx hb dX2_append_72 ?_
          refine z_put (T := TX2) hE hH hS hP1.1 rfl uw_X2 tyX2 tyX2_ok nmX2 1 (by decide) fkX2_24 rfl rfl rfl (Nat.le_of_ble_eq_true rfl) (by omega) dX2_append_73 (fun H locs M7 hH hS e5 o6 => ?_)
          have hP8 : PdM G d (len + n) (apG ps len r0 n i) M7 := ⟨e5, hP1.2.kept (o6 _ (by omega))⟩
          have hF9 := fun q hq => (o6 q (by omega)).trans (hF1 q hq)
          exact z_vret hE hH hS ⟨hP8.to (fun q hq => by unfold apG apS; by_cases h3 : i ≤ q; (· rw [if_pos h3]); (· rw [if_neg h3, if_neg (by omega)])), hF9⟩ dX2_append_76
        · subst h3
          rw [nI_down] at hl
          refine lv_aload_n hx hb dX2_append_38 rfl (lv_at hl 0 rfl) ?_
          refine z_get (T := TX2) (v := .ref (d + 1)) hE hH hP1.1 rfl uw_X2 0 (by decide) fkX2_9 rfl dX2_append_39 ?_
          refine lv_iload hx hb dX2_append_42 (lv_at hl 4 rfl) ?_
          refine lv_lload hx hb dX2_append_44 (lv_at hl 3 rfl) ?_
          refine lv_ldc2 (v := lN 255) hx hb hE.2.2.2.1 (hE.2.2.2.2.1 _ kcX2_22) dX2_append_46 ?_
          refine l_mask hx hb (by omega) dX2_append_49 ?_
          refine lv_l2i (v := nI (r % 256)) hx hb dX2_append_50 (lN_i _) ?_
          refine lv_i2c (v := nI (r % 256)) hx hb dX2_append_51 (nI_i2c (by omega)) ?_
          refine z_cast hE hH hS hP1.2 (pk_charN (by omega)).1 (k := j4) (by omega) (by decide) (by omega) dX2_append_52 (fun H locs M12 hH hS e10 o11 => ?_)
          have hP13 : PdM G d len (fset (apG ps len r0 n (j4 + 1)) j4 (r % 256)) M12 := ⟨by rw [o11 d (by omega)]; exact hP1.1, e10.to (fun q _ => by unfold fset; by_cases hq : q = j4 <;> simp [hq])⟩
          have hF14 := fun q hq => (o11 q (by omega)).trans (hF1 q hq)
          refine lv_lload hx hb dX2_append_53 (lv_at hl 3 rfl) ?_
          refine n_bipush hx hb 8 dX2_append_55 (by decide) ?_
          refine l_shr hx hb (by omega) (by decide) dX2_append_57 ?_
          refine lv_lstore (lv' := [(4, .long (lN (r / 2 ^ 8))), (0, .ref d), (1, .long (lN r0)), (3, .int (nI n)), (6, .int (nI j4))]) hx hb dX2_append_58 hl (by decide) rfl (fun ls hl => ?_)
          refine lv_iinc (v := (nI j4 - nI 1)) (lv' := [(6, .int (nI j4 - nI 1)), (4, .long (lN (r / 2 ^ 8))), (0, .ref d), (1, .long (lN r0)), (3, .int (nI n))]) hx hb dX2_append_60 hl (k := 4) rfl (nI_dec1 _) (by decide) rfl (fun ls hl => ?_)
          refine lv_goto (tgt := 29) hx hb dX2_append_63 (by decide) ?_
          exact ih  j4 (r / 2 ^ 8) M12 (by omega) (by omega) (by omega) (by omega) (by subst he; rw [show len + n - j4 = (len + n - (j4 + 1)) + 1 by omega]; exact apDiv _ _) (hP13.to (fun q hq => by subst he; rw [show len + n - (j4 + 1) = len + n - 1 - j4 by omega]; exact apG_step ps (by omega) (by omega) q)) hF14 _ _ hH hS _ (lv_sub hl [2, 3, 4, 1, 0] rfl)
    exact L29 (n + 1) (len + n) r0 M (by omega) (by omega) (by omega) hr0 (by rw [Nat.sub_self, Nat.pow_zero, Nat.div_one]) (hP.to (fun q hq => by unfold apG apS; by_cases h3 : len + n ≤ q; (· rw [if_pos h3, if_neg (by omega)]); (· rw [if_neg h3]))) hF _ _ hH hS _ (lv_sub hl [2, 3, 4, 1, 0] rfl)
  · exfalso; omega

/-- the buyers of a text, behind k characters: the wall, and how many have paid -/
def sbV (g : RS) (ps : Nat → Nat) (len : Nat) (v : Wv) : Nat → Wv
  | 0 => v
  | k + 1 => if k + 1 = len ∨ ps k = 59 then sellV (sbV g ps len v k) ((rst g ps (k + 1)).2.2.1.getD 0 * 10 + (rst g ps (k + 1)).2.1.getD 0) ((rst g ps (k + 1)).2.2.2.getD 0) else sbV g ps len v k
def sbN (g : RS) (ps : Nat → Nat) (len : Nat) (v : Wv) : Nat → Nat
  | 0 => 0
  | k + 1 => sbN g ps len v k + if (k + 1 = len ∨ ps k = 59) ∧ sells (sbV g ps len v k) ((rst g ps (k + 1)).2.2.1.getD 0 * 10 + (rst g ps (k + 1)).2.1.getD 0) ((rst g ps (k + 1)).2.2.2.getD 0) = true then 1 else 0
theorem sbV_succ (g : RS) (ps : Nat → Nat) (len : Nat) (v : Wv) (k : Nat) : sbV g ps len v (k + 1) = if k + 1 = len ∨ ps k = 59 then sellV (sbV g ps len v k) ((rst g ps (k + 1)).2.2.1.getD 0 * 10 + (rst g ps (k + 1)).2.1.getD 0) ((rst g ps (k + 1)).2.2.2.getD 0) else sbV g ps len v k := rfl
theorem sbN_succ (g : RS) (ps : Nat → Nat) (len : Nat) (v : Wv) (k : Nat) : sbN g ps len v (k + 1) = sbN g ps len v k + if (k + 1 = len ∨ ps k = 59) ∧ sells (sbV g ps len v k) ((rst g ps (k + 1)).2.2.1.getD 0 * 10 + (rst g ps (k + 1)).2.1.getD 0) ((rst g ps (k + 1)).2.2.2.getD 0) = true then 1 else 0 := rfl
theorem sbV_ok (g : RS) (ps : Nat → Nat) (len : Nat) {v : Wv} (h : wOk v) : ∀ k, wOk (sbV g ps len v k) ∧ sbV g ps len v k 0 = v 0
  | 0 => ⟨h, rfl⟩
  | k + 1 => by
    have hi := sbV_ok g ps len h k
    rw [sbV_succ]
    split
    · have h2 := sellV_ok hi.1 ((rst g ps (k + 1)).2.2.1.getD 0 * 10 + (rst g ps (k + 1)).2.1.getD 0) ((rst g ps (k + 1)).2.2.2.getD 0)
      exact ⟨h2.1, h2.2.trans hi.2⟩
    · exact hi
theorem sbN_le (g : RS) (ps : Nat → Nat) (len : Nat) (v : Wv) : ∀ k, sbN g ps len v k ≤ k
  | 0 => Nat.le_refl _
  | k + 1 => by
    have := sbN_le g ps len v k
    rw [sbN_succ]
    split <;> omega
/-- at each buyer's end of a text without fault, the reader holds that buyer -/
def txtOk (g : RS) (ps : Nat → Nat) (len : Nat) : Prop := zfind (bad g ps) len = none ∧ ∀ k, k < len → (k + 1 = len ∨ ps k = 59) → ∃ x y u, (rst g ps (k + 1)).2.1 = some x ∧ (rst g ps (k + 1)).2.2.1 = some y ∧ (rst g ps (k + 1)).2.2.2 = some u ∧ x < 10 ∧ y < 6 ∧ u ≤ 999
theorem zfind_pre {p : Nat → Bool} : ∀ {n k : Nat}, zfind p n = none → k ≤ n → zfind p k = none
  | 0, k, h, hk => by rw [show k = 0 by omega]; rfl
  | n + 1, k, h, hk => by
    by_cases hkn : k = n + 1
    · rw [hkn]; exact h
    · have hz : zfind p n = none := by
        cases hz : zfind p n with
        | none => rfl
        | some i => unfold zfind at h; rw [hz] at h; cases h
      exact zfind_pre hz (by omega)

set_option maxHeartbeats 4000000 in
set_option maxRecDepth 100000 in
theorem c_X2_sendBuyersTo (l : Launch) (G : zG) (B0 : Nat) (M : Mm) (d len : Nat) (ps : Nat → Nat) (hP : PdM G d len ps M) (hlen : len ≤ 60) (hps : ∀ i, i < len → ps i < 128) (g : RS) (hR : RdM G (d + 2) g.1 g.2.1 g.2.2.1 g.2.2.2 M) (hBd : B0 ≤ d) (w : Nat) (r : Nat → Nat) (v : Wv) (hW : WlR G w r v M) (hr : rOk r) (hv : wOk v) (hBw : B0 ≤ w) (hdw : d + 3 ≤ w ∨ w + 27 ≤ d) (hok : txtOk g ps len) : zMet l yX2_sendBuyersTo cX2_sendBuyersTo 5 (some .int) 5 0 0 G B0 M [.ref d, .ref w] (some (.int (nI (sbN g ps len v len)))) (fun M1 => PdM G d len ps M1 ∧ (∃ p xo yo uo, RdM G (d + 2) p xo yo uo M1) ∧ WlR G w r (sbV g ps len v len) M1 ∧ ∀ q, q ≠ d + 2 ∧ (q < w ∨ w + 27 ≤ q) → M1 q = M q) := by
  refine z_met RX2 [(0, .ref d), (1, .ref w)] (by decide) rfl (Nat.le_of_ble_eq_true rfl) rfl ?_
  intro pg ev s m below meth cd ls hE hin hB0 hH hl
  have hx := hE.1
  have hb := hE.2.1
  have hn := hv.1
  have hF : ∀ q, q ≠ d + 2 ∧ (q < w ∨ w + 27 ≤ q) → M q = M q := fun _ _ => rfl
  refine z_gen B0 (fun H locs hH hS => ?_) hH
  refine n_iconst hx hb 0 dX2_sendBuyersTo_0 (by decide) ?_
  refine lv_istore_n (lv' := [(2, .int (nI 0)), (0, .ref d), (1, .ref w)]) hx hb dX2_sendBuyersTo_1 rfl hl (by decide) rfl (fun ls hl => ?_)
  refine lv_aload_n hx hb dX2_sendBuyersTo_2 rfl (lv_at hl 1 rfl) ?_
  refine z_get (T := TX2) (v := .ref (d + 2)) hE hH hP.1 rfl uw_X2 2 (by decide) fkX2_18 rfl dX2_sendBuyersTo_3 ?_
  refine z_callV (rest := []) (st2 := []) hE hH hS hB0 hl ca_X0_begin mkX2_28 (c_X0_begin l G B0 M (d + 2) g.1 g.2.1 g.2.2.1 g.2.2.2 hR (by omega)) hR rfl rfl rfl rfl rfl ⟨Nat.le_of_ble_eq_true rfl, Nat.le_of_ble_eq_true rfl⟩ (Nat.le_of_ble_eq_true rfl) ⟨Nat.le_refl _, Nat.le_refl _⟩ dX2_sendBuyersTo_6 (fun H locs M1 hH hp hS => ?_)
  obtain ⟨hR2, hG3⟩ := hp
  have hP5 := hP.kept (hG3 _ (by omega)) (hG3 _ (by omega))
  have hF4 := fun q hq => (hG3 q (by omega)).trans (hF q hq)
  have hW6 := WlR.kept hr hv.1 hW (fun q a b => hG3 q (by omega))
  refine n_iconst hx hb 0 dX2_sendBuyersTo_9 (by decide) ?_
  refine lv_istore_n (lv' := [(3, .int (nI 0)), (2, .int (nI 0)), (0, .ref d), (1, .ref w)]) hx hb dX2_sendBuyersTo_10 rfl hl (by decide) rfl (fun ls hl => ?_)
  have L11 : ∀ (dd : Nat) (k : Nat) (a : Nat) (u : Wv) (M1 : Mm), len < k + dd → (k ≤ len) → (PdM G d len ps M1) → (RdM G (d + 2) (rst g ps k).1 (rst g ps k).2.1 (rst g ps k).2.2.1 (rst g ps k).2.2.2 M1) → (WlR G w r u M1) → (wOk u) → (∀ q, q ≠ d + 2 ∧ (q < w ∨ w + 27 ≤ q) → M1 q = M q) → (u = sbV g ps len v k) → (a = sbN g ps len v k) → ∀ (H : Heap) (locs : List Loc), zH G M1 H → zS 0 B0 s.heap H locs → ∀ (ls : Array Slot), lv_has ls 5 [(0, .ref d), (1, .ref w), (2, .int (nI a)), (3, .int (nI k))] → zW pg l ev 5 0 0 s m [.ref d, .ref w] below meth cd H locs 0 0 G B0 (some (.int (nI (sbN g ps len v len)))) (fun M1 => PdM G d len ps M1 ∧ (∃ p xo yo uo, RdM G (d + 2) p xo yo uo M1) ∧ WlR G w r (sbV g ps len v len) M1 ∧ ∀ q, q ≠ d + 2 ∧ (q < w ∨ w + 27 ≤ q) → M1 q = M q) (F0 m 11 ls []) := by
    intro dd
    induction dd with
    | zero =>
      intro k a u M1 hdd hk hP1 hR1 hW1 hv1 hF1 hu ha
      exact absurd hdd (by omega)
    | succ dd ih =>
      intro k a u M1 hdd hk hP1 hR1 hW1 hv1 hF1 hu ha H locs hH hS ls hl
      refine lv_iload_n hx hb dX2_sendBuyersTo_11 rfl (lv_at hl 3 rfl) ?_
      refine lv_aload_n hx hb dX2_sendBuyersTo_12 rfl (lv_at hl 0 rfl) ?_
      refine z_get (T := TX2) (v := .int (nI len)) hE hH hP1.1 rfl uw_X2 1 (by decide) fkX2_24 rfl dX2_sendBuyersTo_13 ?_
      refine n_cmp_ge (tgt := 86) hx hb (by omega) (by omega) dX2_sendBuyersTo_16 (by decide) (fun h7 => ?_) (fun h7 => ?_)
      · refine lv_iload_n hx hb dX2_sendBuyersTo_86 rfl (lv_at hl 2 rfl) ?_
        exact z_iret hE hH hS (by have hkk : k = len := (by omega); subst hkk; rw [ha]; first | done | rfl) ⟨hP1, ⟨_, _, _, _, hR1⟩, by have hkk : k = len := (by omega); subst hkk; rw [← hu]; exact hW1, hF1⟩ dX2_sendBuyersTo_87
      · refine lv_aload_n hx hb dX2_sendBuyersTo_19 rfl (lv_at hl 0 rfl) ?_
        refine z_get (T := TX2) (v := .ref (d + 2)) hE hH hP1.1 rfl uw_X2 2 (by decide) fkX2_18 rfl dX2_sendBuyersTo_20 ?_
        refine lv_aload_n hx hb dX2_sendBuyersTo_23 rfl (lv_at hl 0 rfl) ?_
        refine z_get (T := TX2) (v := .ref (d + 1)) hE hH hP1.1 rfl uw_X2 0 (by decide) fkX2_9 rfl dX2_sendBuyersTo_24 ?_
        refine lv_iload_n hx hb dX2_sendBuyersTo_27 rfl (lv_at hl 3 rfl) ?_
        refine z_cald hE hH hP1.2 (k := k) (by omega) (by decide) dX2_sendBuyersTo_28 ?_
        have q8 := hps k (by omega)
        refine z_callV (rest := []) (st2 := [.int (zb (tkB ((rst g ps k).1) ((rst g ps k).2.2.2) (ps k)))]) hE hH hS hB0 hl ca_X0_takes mkX2_31 (c_X0_takes l G B0 M1 (d + 2) ((rst g ps k).1) ((rst g ps k).2.1) ((rst g ps k).2.2.1) ((rst g ps k).2.2.2) hR1 (by omega) (rst_ok g ps k (zfind_pre hok.1 (by omega))).1 (rst_ok g ps k (zfind_pre hok.1 (by omega))).2 (ps k) (by omega)) hR1 rfl rfl rfl rfl rfl ⟨Nat.le_of_ble_eq_true rfl, Nat.le_of_ble_eq_true rfl⟩ (Nat.le_of_ble_eq_true rfl) ⟨Nat.le_refl _, Nat.le_refl _⟩ dX2_sendBuyersTo_29 (fun H locs M9 hH hp hS => ?_)
        obtain ⟨hR10, hG11⟩ := hp
        have hP13 := hP1.kept (hG11 _ (by omega)) (hG11 _ (by omega))
        have hF12 := fun q hq => (hG11 q (by omega)).trans (hF1 q hq)
        have hW14 := WlR.kept hr hv1.1 hW1 (fun q a b => hG11 q (by omega))
        refine lv_pop hx hb dX2_sendBuyersTo_32 rfl ?_
        refine lv_iload_n hx hb dX2_sendBuyersTo_33 rfl (lv_at hl 3 rfl) ?_
        refine n_iconst hx hb 1 dX2_sendBuyersTo_34 (by decide) ?_
        refine n_iadd hx hb dX2_sendBuyersTo_35 ?_
        refine lv_aload_n hx hb dX2_sendBuyersTo_36 rfl (lv_at hl 0 rfl) ?_
        refine z_get (T := TX2) (v := .int (nI len)) hE hH hP13.1 rfl uw_X2 1 (by decide) fkX2_24 rfl dX2_sendBuyersTo_37 ?_
        refine n_cmp_ne (tgt := 47) hx hb (by omega) (by omega) dX2_sendBuyersTo_40 (by decide) (fun h15 => ?_) (fun h15 => ?_)
        · refine n_iconst hx hb 0 dX2_sendBuyersTo_47 (by decide) ?_
          refine lv_istore (lv' := [(4, .int (nI 0)), (0, .ref d), (1, .ref w), (2, .int (nI a)), (3, .int (nI k))]) hx hb dX2_sendBuyersTo_48 hl (by decide) rfl (fun ls hl => ?_)
          refine lv_iload hx hb dX2_sendBuyersTo_50 (lv_at hl 0 rfl) ?_
          refine n_if_ne (tgt := 66) hx hb (by decide) dX2_sendBuyersTo_52 (by decide) (fun h16 => ?_) (fun h16 => ?_)
          · refine lv_aload_n hx hb dX2_sendBuyersTo_66 rfl (lv_at hl 1 rfl) ?_
            refine z_get (T := TX2) (v := .ref (d + 2)) hE hH hP13.1 rfl uw_X2 2 (by decide) fkX2_18 rfl dX2_sendBuyersTo_67 ?_
            refine lv_aload_n hx hb dX2_sendBuyersTo_70 rfl (lv_at hl 2 rfl) ?_
            obtain ⟨bx, bY, bu, ex, ey, eu, hbx, hbY, hbu⟩ := hok.2 k (by omega) (by omega)
            have hq17 : RdM G (d + 2) (rst g ps (k + 1)).1 (some bx) (some bY) (some bu) M9 := by rw [← ex, ← ey, ← eu]; exact hR10
            refine z_callV (rest := []) (st2 := [.int (zb (sells u (bY * 10 + bx) bu))]) hE hH hS hB0 hl ca_X0_pays mkX2_39 (c_X0_pays l G B0 M9 (d + 2) (rst g ps (k + 1)).1 bx bY bu hq17 hbx hbY hbu w r u hW14 hr hv1 (by omega)) hq17 rfl rfl rfl rfl rfl ⟨Nat.le_of_ble_eq_true rfl, Nat.le_of_ble_eq_true rfl⟩ (Nat.le_of_ble_eq_true rfl) ⟨Nat.le_refl _, Nat.le_refl _⟩ dX2_sendBuyersTo_71 (fun H locs M18 hH hp hS => ?_)
            obtain ⟨hW19, hG20⟩ := hp
            have hP21 := hP13.kept (hG20 _ (by omega)) (hG20 _ (by omega))
            have hR22 : RdM G (d + 2) (rst g ps (k + 1)).1 (rst g ps (k + 1)).2.1 (rst g ps (k + 1)).2.2.1 (rst g ps (k + 1)).2.2.2 M18 := by unfold RdM at hR10 ⊢; rw [hG20 (d + 2) (by omega)]; exact hR10
            have hF23 := fun q hq => (hG20 q (by omega)).trans (hF12 q hq)
            have hv24 := (sellV_ok hv1 (bY * 10 + bx) bu).1
            refine b_if_eq (tgt := 80) hx hb dX2_sendBuyersTo_74 (by decide) (fun h25 => ?_) (fun h25 => ?_)
            · refine lv_iinc (v := (nI (k + 1))) (lv' := [(3, .int (nI (k + 1))), (4, .int (nI 0)), (0, .ref d), (1, .ref w), (2, .int (nI a))]) hx hb dX2_sendBuyersTo_80 hl (k := 4) rfl (nI_inc _) (by decide) rfl (fun ls hl => ?_)
              refine lv_goto (tgt := 11) hx hb dX2_sendBuyersTo_83 (by decide) ?_
              exact ih  (k + 1) a (sellV u (bY * 10 + bx) bu) M18 (by omega) (by omega) hP21 hR22 hW19 hv24 hF23 (by rw [sbV_succ, if_pos (by omega), ← hu, ex, ey, eu]; rfl) (by rw [sbN_succ, ← ha, ← hu, ex, ey, eu]; first | (rw [if_pos ⟨by omega, h25⟩]; done) | (rw [if_neg (fun q => absurd (q.2.symm.trans h25) (by decide))]; rfl)) _ _ hH hS _ (lv_sub hl [2, 3, 4, 0] rfl)
            · refine lv_iinc (v := (nI (a + 1))) (lv' := [(2, .int (nI (a + 1))), (4, .int (nI 0)), (0, .ref d), (1, .ref w), (3, .int (nI k))]) hx hb dX2_sendBuyersTo_77 hl (k := 3) rfl (nI_inc _) (by decide) rfl (fun ls hl => ?_)
              refine lv_iinc (v := (nI (k + 1))) (lv' := [(3, .int (nI (k + 1))), (2, .int (nI (a + 1))), (4, .int (nI 0)), (0, .ref d), (1, .ref w)]) hx hb dX2_sendBuyersTo_80 hl (k := 4) rfl (nI_inc _) (by decide) rfl (fun ls hl => ?_)
              refine lv_goto (tgt := 11) hx hb dX2_sendBuyersTo_83 (by decide) ?_
              exact ih  (k + 1) (a + 1) (sellV u (bY * 10 + bx) bu) M18 (by omega) (by omega) hP21 hR22 hW19 hv24 hF23 (by rw [sbV_succ, if_pos (by omega), ← hu, ex, ey, eu]; rfl) (by rw [sbN_succ, ← ha, ← hu, ex, ey, eu]; first | (rw [if_pos ⟨by omega, h25⟩]; done) | (rw [if_neg (fun q => absurd (q.2.symm.trans h25) (by decide))]; rfl)) _ _ hH hS _ (lv_sub hl [3, 4, 1, 0] rfl)
          · refine lv_aload_n hx hb dX2_sendBuyersTo_55 rfl (lv_at hl 1 rfl) ?_
            refine z_get (T := TX2) (v := .ref (d + 1)) hE hH hP13.1 rfl uw_X2 0 (by decide) fkX2_9 rfl dX2_sendBuyersTo_56 ?_
            refine lv_iload_n hx hb dX2_sendBuyersTo_59 rfl (lv_at hl 4 rfl) ?_
            refine z_cald hE hH hP13.2 (k := k) (by omega) (by decide) dX2_sendBuyersTo_60 ?_
            have q26 := hps k (by omega)
            refine n_bipush hx hb 59 dX2_sendBuyersTo_61 (by decide) ?_
            refine n_cmp_ne (tgt := 80) hx hb (by omega) (by decide) dX2_sendBuyersTo_63 (by decide) (fun h27 => ?_) (fun h27 => ?_)
            · refine lv_iinc (v := (nI (k + 1))) (lv' := [(3, .int (nI (k + 1))), (4, .int (nI 0)), (0, .ref d), (1, .ref w), (2, .int (nI a))]) hx hb dX2_sendBuyersTo_80 hl (k := 4) rfl (nI_inc _) (by decide) rfl (fun ls hl => ?_)
              refine lv_goto (tgt := 11) hx hb dX2_sendBuyersTo_83 (by decide) ?_
              exact ih  (k + 1) a u M9 (by omega) (by omega) hP13 hR10 hW14 hv1 hF12 (by rw [sbV_succ, if_neg (by omega)]; exact hu) (by rw [sbN_succ, if_neg (fun q => absurd q.1 (by omega))]; exact ha) _ _ hH hS _ (lv_sub hl [2, 3, 4, 0] rfl)
            · refine lv_aload_n hx hb dX2_sendBuyersTo_66 rfl (lv_at hl 1 rfl) ?_
              refine z_get (T := TX2) (v := .ref (d + 2)) hE hH hP13.1 rfl uw_X2 2 (by decide) fkX2_18 rfl dX2_sendBuyersTo_67 ?_
              refine lv_aload_n hx hb dX2_sendBuyersTo_70 rfl (lv_at hl 2 rfl) ?_
              obtain ⟨bx, bY, bu, ex, ey, eu, hbx, hbY, hbu⟩ := hok.2 k (by omega) (by omega)
              have hq28 : RdM G (d + 2) (rst g ps (k + 1)).1 (some bx) (some bY) (some bu) M9 := by rw [← ex, ← ey, ← eu]; exact hR10
              refine z_callV (rest := []) (st2 := [.int (zb (sells u (bY * 10 + bx) bu))]) hE hH hS hB0 hl ca_X0_pays mkX2_39 (c_X0_pays l G B0 M9 (d + 2) (rst g ps (k + 1)).1 bx bY bu hq28 hbx hbY hbu w r u hW14 hr hv1 (by omega)) hq28 rfl rfl rfl rfl rfl ⟨Nat.le_of_ble_eq_true rfl, Nat.le_of_ble_eq_true rfl⟩ (Nat.le_of_ble_eq_true rfl) ⟨Nat.le_refl _, Nat.le_refl _⟩ dX2_sendBuyersTo_71 (fun H locs M29 hH hp hS => ?_)
              obtain ⟨hW30, hG31⟩ := hp
              have hP32 := hP13.kept (hG31 _ (by omega)) (hG31 _ (by omega))
              have hR33 : RdM G (d + 2) (rst g ps (k + 1)).1 (rst g ps (k + 1)).2.1 (rst g ps (k + 1)).2.2.1 (rst g ps (k + 1)).2.2.2 M29 := by unfold RdM at hR10 ⊢; rw [hG31 (d + 2) (by omega)]; exact hR10
              have hF34 := fun q hq => (hG31 q (by omega)).trans (hF12 q hq)
              have hv35 := (sellV_ok hv1 (bY * 10 + bx) bu).1
              refine b_if_eq (tgt := 80) hx hb dX2_sendBuyersTo_74 (by decide) (fun h36 => ?_) (fun h36 => ?_)
              · refine lv_iinc (v := (nI (k + 1))) (lv' := [(3, .int (nI (k + 1))), (4, .int (nI 0)), (0, .ref d), (1, .ref w), (2, .int (nI a))]) hx hb dX2_sendBuyersTo_80 hl (k := 4) rfl (nI_inc _) (by decide) rfl (fun ls hl => ?_)
                refine lv_goto (tgt := 11) hx hb dX2_sendBuyersTo_83 (by decide) ?_
                exact ih  (k + 1) a (sellV u (bY * 10 + bx) bu) M29 (by omega) (by omega) hP32 hR33 hW30 hv35 hF34 (by rw [sbV_succ, if_pos (by omega), ← hu, ex, ey, eu]; rfl) (by rw [sbN_succ, ← ha, ← hu, ex, ey, eu]; first | (rw [if_pos ⟨by omega, h36⟩]; done) | (rw [if_neg (fun q => absurd (q.2.symm.trans h36) (by decide))]; rfl)) _ _ hH hS _ (lv_sub hl [2, 3, 4, 0] rfl)
              · refine lv_iinc (v := (nI (a + 1))) (lv' := [(2, .int (nI (a + 1))), (4, .int (nI 0)), (0, .ref d), (1, .ref w), (3, .int (nI k))]) hx hb dX2_sendBuyersTo_77 hl (k := 3) rfl (nI_inc _) (by decide) rfl (fun ls hl => ?_)
                refine lv_iinc (v := (nI (k + 1))) (lv' := [(3, .int (nI (k + 1))), (2, .int (nI (a + 1))), (4, .int (nI 0)), (0, .ref d), (1, .ref w)]) hx hb dX2_sendBuyersTo_80 hl (k := 4) rfl (nI_inc _) (by decide) rfl (fun ls hl => ?_)
                refine lv_goto (tgt := 11) hx hb dX2_sendBuyersTo_83 (by decide) ?_
                exact ih  (k + 1) (a + 1) (sellV u (bY * 10 + bx) bu) M29 (by omega) (by omega) hP32 hR33 hW30 hv35 hF34 (by rw [sbV_succ, if_pos (by omega), ← hu, ex, ey, eu]; rfl) (by rw [sbN_succ, ← ha, ← hu, ex, ey, eu]; first | (rw [if_pos ⟨by omega, h36⟩]; done) | (rw [if_neg (fun q => absurd (q.2.symm.trans h36) (by decide))]; rfl)) _ _ hH hS _ (lv_sub hl [3, 4, 1, 0] rfl)
        · refine n_iconst hx hb 1 dX2_sendBuyersTo_43 (by decide) ?_
          refine lv_goto (tgt := 48) hx hb dX2_sendBuyersTo_44 (by decide) ?_
          refine lv_istore (lv' := [(4, .int (nI 1)), (0, .ref d), (1, .ref w), (2, .int (nI a)), (3, .int (nI k))]) hx hb dX2_sendBuyersTo_48 hl (by decide) rfl (fun ls hl => ?_)
          refine lv_iload hx hb dX2_sendBuyersTo_50 (lv_at hl 0 rfl) ?_
          refine n_if_ne (tgt := 66) hx hb (by decide) dX2_sendBuyersTo_52 (by decide) (fun h37 => ?_) (fun h37 => ?_)
          · refine lv_aload_n hx hb dX2_sendBuyersTo_66 rfl (lv_at hl 1 rfl) ?_
            refine z_get (T := TX2) (v := .ref (d + 2)) hE hH hP13.1 rfl uw_X2 2 (by decide) fkX2_18 rfl dX2_sendBuyersTo_67 ?_
            refine lv_aload_n hx hb dX2_sendBuyersTo_70 rfl (lv_at hl 2 rfl) ?_
            obtain ⟨bx, bY, bu, ex, ey, eu, hbx, hbY, hbu⟩ := hok.2 k (by omega) (by omega)
            have hq38 : RdM G (d + 2) (rst g ps (k + 1)).1 (some bx) (some bY) (some bu) M9 := by rw [← ex, ← ey, ← eu]; exact hR10
            refine z_callV (rest := []) (st2 := [.int (zb (sells u (bY * 10 + bx) bu))]) hE hH hS hB0 hl ca_X0_pays mkX2_39 (c_X0_pays l G B0 M9 (d + 2) (rst g ps (k + 1)).1 bx bY bu hq38 hbx hbY hbu w r u hW14 hr hv1 (by omega)) hq38 rfl rfl rfl rfl rfl ⟨Nat.le_of_ble_eq_true rfl, Nat.le_of_ble_eq_true rfl⟩ (Nat.le_of_ble_eq_true rfl) ⟨Nat.le_refl _, Nat.le_refl _⟩ dX2_sendBuyersTo_71 (fun H locs M39 hH hp hS => ?_)
            obtain ⟨hW40, hG41⟩ := hp
            have hP42 := hP13.kept (hG41 _ (by omega)) (hG41 _ (by omega))
            have hR43 : RdM G (d + 2) (rst g ps (k + 1)).1 (rst g ps (k + 1)).2.1 (rst g ps (k + 1)).2.2.1 (rst g ps (k + 1)).2.2.2 M39 := by unfold RdM at hR10 ⊢; rw [hG41 (d + 2) (by omega)]; exact hR10
            have hF44 := fun q hq => (hG41 q (by omega)).trans (hF12 q hq)
            have hv45 := (sellV_ok hv1 (bY * 10 + bx) bu).1
            refine b_if_eq (tgt := 80) hx hb dX2_sendBuyersTo_74 (by decide) (fun h46 => ?_) (fun h46 => ?_)
            · refine lv_iinc (v := (nI (k + 1))) (lv' := [(3, .int (nI (k + 1))), (4, .int (nI 1)), (0, .ref d), (1, .ref w), (2, .int (nI a))]) hx hb dX2_sendBuyersTo_80 hl (k := 4) rfl (nI_inc _) (by decide) rfl (fun ls hl => ?_)
              refine lv_goto (tgt := 11) hx hb dX2_sendBuyersTo_83 (by decide) ?_
              exact ih  (k + 1) a (sellV u (bY * 10 + bx) bu) M39 (by omega) (by omega) hP42 hR43 hW40 hv45 hF44 (by rw [sbV_succ, if_pos (by omega), ← hu, ex, ey, eu]; rfl) (by rw [sbN_succ, ← ha, ← hu, ex, ey, eu]; first | (rw [if_pos ⟨by omega, h46⟩]; done) | (rw [if_neg (fun q => absurd (q.2.symm.trans h46) (by decide))]; rfl)) _ _ hH hS _ (lv_sub hl [2, 3, 4, 0] rfl)
            · refine lv_iinc (v := (nI (a + 1))) (lv' := [(2, .int (nI (a + 1))), (4, .int (nI 1)), (0, .ref d), (1, .ref w), (3, .int (nI k))]) hx hb dX2_sendBuyersTo_77 hl (k := 3) rfl (nI_inc _) (by decide) rfl (fun ls hl => ?_)
              refine lv_iinc (v := (nI (k + 1))) (lv' := [(3, .int (nI (k + 1))), (2, .int (nI (a + 1))), (4, .int (nI 1)), (0, .ref d), (1, .ref w)]) hx hb dX2_sendBuyersTo_80 hl (k := 4) rfl (nI_inc _) (by decide) rfl (fun ls hl => ?_)
              refine lv_goto (tgt := 11) hx hb dX2_sendBuyersTo_83 (by decide) ?_
              exact ih  (k + 1) (a + 1) (sellV u (bY * 10 + bx) bu) M39 (by omega) (by omega) hP42 hR43 hW40 hv45 hF44 (by rw [sbV_succ, if_pos (by omega), ← hu, ex, ey, eu]; rfl) (by rw [sbN_succ, ← ha, ← hu, ex, ey, eu]; first | (rw [if_pos ⟨by omega, h46⟩]; done) | (rw [if_neg (fun q => absurd (q.2.symm.trans h46) (by decide))]; rfl)) _ _ hH hS _ (lv_sub hl [3, 4, 1, 0] rfl)
          · refine lv_aload_n hx hb dX2_sendBuyersTo_55 rfl (lv_at hl 1 rfl) ?_
            refine z_get (T := TX2) (v := .ref (d + 1)) hE hH hP13.1 rfl uw_X2 0 (by decide) fkX2_9 rfl dX2_sendBuyersTo_56 ?_
            refine lv_iload_n hx hb dX2_sendBuyersTo_59 rfl (lv_at hl 4 rfl) ?_
            refine z_cald hE hH hP13.2 (k := k) (by omega) (by decide) dX2_sendBuyersTo_60 ?_
            have q47 := hps k (by omega)
            refine n_bipush hx hb 59 dX2_sendBuyersTo_61 (by decide) ?_
            refine n_cmp_ne (tgt := 80) hx hb (by omega) (by decide) dX2_sendBuyersTo_63 (by decide) (fun h48 => ?_) (fun h48 => ?_)
            · refine lv_iinc (v := (nI (k + 1))) (lv' := [(3, .int (nI (k + 1))), (4, .int (nI 1)), (0, .ref d), (1, .ref w), (2, .int (nI a))]) hx hb dX2_sendBuyersTo_80 hl (k := 4) rfl (nI_inc _) (by decide) rfl (fun ls hl => ?_)
              refine lv_goto (tgt := 11) hx hb dX2_sendBuyersTo_83 (by decide) ?_
              exact ih  (k + 1) a u M9 (by omega) (by omega) hP13 hR10 hW14 hv1 hF12 (by rw [sbV_succ, if_neg (by omega)]; exact hu) (by rw [sbN_succ, if_neg (fun q => absurd q.1 (by omega))]; exact ha) _ _ hH hS _ (lv_sub hl [2, 3, 4, 0] rfl)
            · refine lv_aload_n hx hb dX2_sendBuyersTo_66 rfl (lv_at hl 1 rfl) ?_
              refine z_get (T := TX2) (v := .ref (d + 2)) hE hH hP13.1 rfl uw_X2 2 (by decide) fkX2_18 rfl dX2_sendBuyersTo_67 ?_
              refine lv_aload_n hx hb dX2_sendBuyersTo_70 rfl (lv_at hl 2 rfl) ?_
              obtain ⟨bx, bY, bu, ex, ey, eu, hbx, hbY, hbu⟩ := hok.2 k (by omega) (by omega)
              have hq49 : RdM G (d + 2) (rst g ps (k + 1)).1 (some bx) (some bY) (some bu) M9 := by rw [← ex, ← ey, ← eu]; exact hR10
              refine z_callV (rest := []) (st2 := [.int (zb (sells u (bY * 10 + bx) bu))]) hE hH hS hB0 hl ca_X0_pays mkX2_39 (c_X0_pays l G B0 M9 (d + 2) (rst g ps (k + 1)).1 bx bY bu hq49 hbx hbY hbu w r u hW14 hr hv1 (by omega)) hq49 rfl rfl rfl rfl rfl ⟨Nat.le_of_ble_eq_true rfl, Nat.le_of_ble_eq_true rfl⟩ (Nat.le_of_ble_eq_true rfl) ⟨Nat.le_refl _, Nat.le_refl _⟩ dX2_sendBuyersTo_71 (fun H locs M50 hH hp hS => ?_)
              obtain ⟨hW51, hG52⟩ := hp
              have hP53 := hP13.kept (hG52 _ (by omega)) (hG52 _ (by omega))
              have hR54 : RdM G (d + 2) (rst g ps (k + 1)).1 (rst g ps (k + 1)).2.1 (rst g ps (k + 1)).2.2.1 (rst g ps (k + 1)).2.2.2 M50 := by unfold RdM at hR10 ⊢; rw [hG52 (d + 2) (by omega)]; exact hR10
              have hF55 := fun q hq => (hG52 q (by omega)).trans (hF12 q hq)
              have hv56 := (sellV_ok hv1 (bY * 10 + bx) bu).1
              refine b_if_eq (tgt := 80) hx hb dX2_sendBuyersTo_74 (by decide) (fun h57 => ?_) (fun h57 => ?_)
              · refine lv_iinc (v := (nI (k + 1))) (lv' := [(3, .int (nI (k + 1))), (4, .int (nI 1)), (0, .ref d), (1, .ref w), (2, .int (nI a))]) hx hb dX2_sendBuyersTo_80 hl (k := 4) rfl (nI_inc _) (by decide) rfl (fun ls hl => ?_)
                refine lv_goto (tgt := 11) hx hb dX2_sendBuyersTo_83 (by decide) ?_
                exact ih  (k + 1) a (sellV u (bY * 10 + bx) bu) M50 (by omega) (by omega) hP53 hR54 hW51 hv56 hF55 (by rw [sbV_succ, if_pos (by omega), ← hu, ex, ey, eu]; rfl) (by rw [sbN_succ, ← ha, ← hu, ex, ey, eu]; first | (rw [if_pos ⟨by omega, h57⟩]; done) | (rw [if_neg (fun q => absurd (q.2.symm.trans h57) (by decide))]; rfl)) _ _ hH hS _ (lv_sub hl [2, 3, 4, 0] rfl)
              · refine lv_iinc (v := (nI (a + 1))) (lv' := [(2, .int (nI (a + 1))), (4, .int (nI 1)), (0, .ref d), (1, .ref w), (3, .int (nI k))]) hx hb dX2_sendBuyersTo_77 hl (k := 3) rfl (nI_inc _) (by decide) rfl (fun ls hl => ?_)
                refine lv_iinc (v := (nI (k + 1))) (lv' := [(3, .int (nI (k + 1))), (2, .int (nI (a + 1))), (4, .int (nI 1)), (0, .ref d), (1, .ref w)]) hx hb dX2_sendBuyersTo_80 hl (k := 4) rfl (nI_inc _) (by decide) rfl (fun ls hl => ?_)
                refine lv_goto (tgt := 11) hx hb dX2_sendBuyersTo_83 (by decide) ?_
                exact ih  (k + 1) (a + 1) (sellV u (bY * 10 + bx) bu) M50 (by omega) (by omega) hP53 hR54 hW51 hv56 hF55 (by rw [sbV_succ, if_pos (by omega), ← hu, ex, ey, eu]; rfl) (by rw [sbN_succ, ← ha, ← hu, ex, ey, eu]; first | (rw [if_pos ⟨by omega, h57⟩]; done) | (rw [if_neg (fun q => absurd (q.2.symm.trans h57) (by decide))]; rfl)) _ _ hH hS _ (lv_sub hl [3, 4, 1, 0] rfl)
  exact L11 (len + 1) 0 0 v M1 (by omega) (by omega) hP5 hR2 hW6 hv hF4 rfl rfl _ _ hH hS _ (lv_sub hl [2, 3, 1, 0] rfl)
end
