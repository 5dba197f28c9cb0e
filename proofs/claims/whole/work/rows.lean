section
-- ===== PART A: goes FIRST, ahead of the names: the tables' words, and 'selects' of the private methods out of them =====
/-- a private method of a class that the tables say can be made, by its rows of tables_1 -/
def lw_okq (q : MethodName × Nat) : Prop := (q.1.cls ≠ "java/lang/invoke/MethodHandle" ∧ q.1.cls ≠ "java/lang/invoke/VarHandle") ∧ Cond.instantiable q.1.cls q.2 ∈ tables_1 ∧ Cond.privateMethod q.1 ∈ tables_1 ∧ Cond.instanceMethod q.1 ∈ tables_1
theorem lw_p0 : lw_okq (⟨"DepotTrays", "hasRoomFor", "(I)Z"⟩, 11) := ⟨⟨by decide +kernel, by decide +kernel⟩, List.mem_of_getElem? (i := 6) (by decide +kernel), List.mem_of_getElem? (i := 54) (by decide +kernel), List.mem_of_getElem? (i := 55) (by decide +kernel)⟩
theorem lw_p1 : lw_okq (⟨"DepotTrays", "addThing", "(III)I"⟩, 11) := ⟨⟨by decide +kernel, by decide +kernel⟩, List.mem_of_getElem? (i := 6) (by decide +kernel), List.mem_of_getElem? (i := 58) (by decide +kernel), List.mem_of_getElem? (i := 59) (by decide +kernel)⟩
theorem lw_p2 : lw_okq (⟨"DepotTrays", "fail", "(I)I"⟩, 11) := ⟨⟨by decide +kernel, by decide +kernel⟩, List.mem_of_getElem? (i := 6) (by decide +kernel), List.mem_of_getElem? (i := 72) (by decide +kernel), List.mem_of_getElem? (i := 73) (by decide +kernel)⟩
theorem lw_p3 : lw_okq (⟨"DepotTrays", "addRow", "(III)I"⟩, 11) := ⟨⟨by decide +kernel, by decide +kernel⟩, List.mem_of_getElem? (i := 6) (by decide +kernel), List.mem_of_getElem? (i := 76) (by decide +kernel), List.mem_of_getElem? (i := 77) (by decide +kernel)⟩
theorem lw_p4 : lw_okq (⟨"DepotTrays", "isLedger", "(I)Z"⟩, 11) := ⟨⟨by decide +kernel, by decide +kernel⟩, List.mem_of_getElem? (i := 6) (by decide +kernel), List.mem_of_getElem? (i := 80) (by decide +kernel), List.mem_of_getElem? (i := 81) (by decide +kernel)⟩
theorem lw_p5 : lw_okq (⟨"DepotTrays", "isThingOrNone", "(I)Z"⟩, 11) := ⟨⟨by decide +kernel, by decide +kernel⟩, List.mem_of_getElem? (i := 6) (by decide +kernel), List.mem_of_getElem? (i := 99) (by decide +kernel), List.mem_of_getElem? (i := 100) (by decide +kernel)⟩
theorem lw_p6 : lw_okq (⟨"DepotTrays", "isThing", "(I)Z"⟩, 11) := ⟨⟨by decide +kernel, by decide +kernel⟩, List.mem_of_getElem? (i := 6) (by decide +kernel), List.mem_of_getElem? (i := 103) (by decide +kernel), List.mem_of_getElem? (i := 104) (by decide +kernel)⟩
theorem lw_p7 : lw_okq (⟨"DepotTrays", "mayPass", "(III)Z"⟩, 11) := ⟨⟨by decide +kernel, by decide +kernel⟩, List.mem_of_getElem? (i := 6) (by decide +kernel), List.mem_of_getElem? (i := 107) (by decide +kernel), List.mem_of_getElem? (i := 108) (by decide +kernel)⟩
theorem lw_p8 : lw_okq (⟨"DepotTrays", "isOfKind", "(III)Z"⟩, 11) := ⟨⟨by decide +kernel, by decide +kernel⟩, List.mem_of_getElem? (i := 6) (by decide +kernel), List.mem_of_getElem? (i := 111) (by decide +kernel), List.mem_of_getElem? (i := 112) (by decide +kernel)⟩
theorem lw_p9 : lw_okq (⟨"DepotTrays", "holdsThings", "(I)Z"⟩, 11) := ⟨⟨by decide +kernel, by decide +kernel⟩, List.mem_of_getElem? (i := 6) (by decide +kernel), List.mem_of_getElem? (i := 120) (by decide +kernel), List.mem_of_getElem? (i := 121) (by decide +kernel)⟩
theorem lw_p10 : lw_okq (⟨"DepotTrays", "isPiece", "(I)Z"⟩, 11) := ⟨⟨by decide +kernel, by decide +kernel⟩, List.mem_of_getElem? (i := 6) (by decide +kernel), List.mem_of_getElem? (i := 124) (by decide +kernel), List.mem_of_getElem? (i := 125) (by decide +kernel)⟩
theorem lw_p11 : lw_okq (⟨"DepotTrays", "widestBase", "(I)I"⟩, 11) := ⟨⟨by decide +kernel, by decide +kernel⟩, List.mem_of_getElem? (i := 6) (by decide +kernel), List.mem_of_getElem? (i := 128) (by decide +kernel), List.mem_of_getElem? (i := 129) (by decide +kernel)⟩
theorem lw_p12 : lw_okq (⟨"DepotTrays", "hasPlace", "(II)Z"⟩, 11) := ⟨⟨by decide +kernel, by decide +kernel⟩, List.mem_of_getElem? (i := 6) (by decide +kernel), List.mem_of_getElem? (i := 132) (by decide +kernel), List.mem_of_getElem? (i := 133) (by decide +kernel)⟩
theorem lw_p13 : lw_okq (⟨"DepotTrays", "goesInto", "(II)Z"⟩, 11) := ⟨⟨by decide +kernel, by decide +kernel⟩, List.mem_of_getElem? (i := 6) (by decide +kernel), List.mem_of_getElem? (i := 136) (by decide +kernel), List.mem_of_getElem? (i := 137) (by decide +kernel)⟩
theorem lw_p14 : lw_okq (⟨"DepotTrays", "thingAt", "(II)I"⟩, 11) := ⟨⟨by decide +kernel, by decide +kernel⟩, List.mem_of_getElem? (i := 6) (by decide +kernel), List.mem_of_getElem? (i := 144) (by decide +kernel), List.mem_of_getElem? (i := 145) (by decide +kernel)⟩
theorem lw_p15 : lw_okq (⟨"DepotTrays", "ledgerFailure", "(II)I"⟩, 11) := ⟨⟨by decide +kernel, by decide +kernel⟩, List.mem_of_getElem? (i := 6) (by decide +kernel), List.mem_of_getElem? (i := 152) (by decide +kernel), List.mem_of_getElem? (i := 153) (by decide +kernel)⟩
def lw_privs_1 : List (MethodName × Nat) := [(⟨"DepotTrays", "hasRoomFor", "(I)Z"⟩, 11), (⟨"DepotTrays", "addThing", "(III)I"⟩, 11), (⟨"DepotTrays", "fail", "(I)I"⟩, 11), (⟨"DepotTrays", "addRow", "(III)I"⟩, 11), (⟨"DepotTrays", "isLedger", "(I)Z"⟩, 11), (⟨"DepotTrays", "isThingOrNone", "(I)Z"⟩, 11), (⟨"DepotTrays", "isThing", "(I)Z"⟩, 11), (⟨"DepotTrays", "mayPass", "(III)Z"⟩, 11), (⟨"DepotTrays", "isOfKind", "(III)Z"⟩, 11), (⟨"DepotTrays", "holdsThings", "(I)Z"⟩, 11), (⟨"DepotTrays", "isPiece", "(I)Z"⟩, 11), (⟨"DepotTrays", "widestBase", "(I)I"⟩, 11), (⟨"DepotTrays", "hasPlace", "(II)Z"⟩, 11), (⟨"DepotTrays", "goesInto", "(II)Z"⟩, 11), (⟨"DepotTrays", "thingAt", "(II)I"⟩, 11), (⟨"DepotTrays", "ledgerFailure", "(II)I"⟩, 11)]
theorem lw_r1 : ∀ q ∈ lw_privs_1, lw_okq q := List.forall_mem_cons.mpr ⟨lw_p0, List.forall_mem_cons.mpr ⟨lw_p1, List.forall_mem_cons.mpr ⟨lw_p2, List.forall_mem_cons.mpr ⟨lw_p3, List.forall_mem_cons.mpr ⟨lw_p4, List.forall_mem_cons.mpr ⟨lw_p5, List.forall_mem_cons.mpr ⟨lw_p6, List.forall_mem_cons.mpr ⟨lw_p7, List.forall_mem_cons.mpr ⟨lw_p8, List.forall_mem_cons.mpr ⟨lw_p9, List.forall_mem_cons.mpr ⟨lw_p10, List.forall_mem_cons.mpr ⟨lw_p11, List.forall_mem_cons.mpr ⟨lw_p12, List.forall_mem_cons.mpr ⟨lw_p13, List.forall_mem_cons.mpr ⟨lw_p14, List.forall_mem_cons.mpr ⟨lw_p15, fun _ h => absurd h List.not_mem_nil⟩⟩⟩⟩⟩⟩⟩⟩⟩⟩⟩⟩⟩⟩⟩⟩
theorem lw_p16 : lw_okq (⟨"DepotTrays", "firstClosedDoor", "(III)I"⟩, 11) := ⟨⟨by decide +kernel, by decide +kernel⟩, List.mem_of_getElem? (i := 6) (by decide +kernel), List.mem_of_getElem? (i := 175) (by decide +kernel), List.mem_of_getElem? (i := 176) (by decide +kernel)⟩
theorem lw_p17 : lw_okq (⟨"DepotTrays", "worthWithin", "(II)J"⟩, 11) := ⟨⟨by decide +kernel, by decide +kernel⟩, List.mem_of_getElem? (i := 6) (by decide +kernel), List.mem_of_getElem? (i := 187) (by decide +kernel), List.mem_of_getElem? (i := 188) (by decide +kernel)⟩
theorem lw_p18 : lw_okq (⟨"DepotTrays", "worthOfPiece", "(I)J"⟩, 11) := ⟨⟨by decide +kernel, by decide +kernel⟩, List.mem_of_getElem? (i := 6) (by decide +kernel), List.mem_of_getElem? (i := 191) (by decide +kernel), List.mem_of_getElem? (i := 192) (by decide +kernel)⟩
theorem lw_p19 : lw_okq (⟨"DepotTrays", "movePlaces", "(IIIII)V"⟩, 11) := ⟨⟨by decide +kernel, by decide +kernel⟩, List.mem_of_getElem? (i := 6) (by decide +kernel), List.mem_of_getElem? (i := 201) (by decide +kernel), List.mem_of_getElem? (i := 202) (by decide +kernel)⟩
theorem lw_p20 : lw_okq (⟨"DepotTrays", "areAlike", "(II)Z"⟩, 11) := ⟨⟨by decide +kernel, by decide +kernel⟩, List.mem_of_getElem? (i := 6) (by decide +kernel), List.mem_of_getElem? (i := 212) (by decide +kernel), List.mem_of_getElem? (i := 213) (by decide +kernel)⟩
theorem lw_p21 : lw_okq (⟨"DepotTrays", "hasPlaces", "(III)Z"⟩, 11) := ⟨⟨by decide +kernel, by decide +kernel⟩, List.mem_of_getElem? (i := 6) (by decide +kernel), List.mem_of_getElem? (i := 216) (by decide +kernel), List.mem_of_getElem? (i := 217) (by decide +kernel)⟩
theorem lw_p22 : lw_okq (⟨"DepotTrays", "countGoing", "(IIII)I"⟩, 11) := ⟨⟨by decide +kernel, by decide +kernel⟩, List.mem_of_getElem? (i := 6) (by decide +kernel), List.mem_of_getElem? (i := 220) (by decide +kernel), List.mem_of_getElem? (i := 221) (by decide +kernel)⟩
theorem lw_p23 : lw_okq (⟨"DepotTrays", "frailWithin", "(II)I"⟩, 11) := ⟨⟨by decide +kernel, by decide +kernel⟩, List.mem_of_getElem? (i := 6) (by decide +kernel), List.mem_of_getElem? (i := 228) (by decide +kernel), List.mem_of_getElem? (i := 229) (by decide +kernel)⟩
theorem lw_p24 : lw_okq (⟨"DepotTraysModel", "make", "(IIII)I"⟩, 16) := ⟨⟨by decide +kernel, by decide +kernel⟩, List.mem_of_getElem? (i := 248) (by decide +kernel), List.mem_of_getElem? (i := 310) (by decide +kernel), List.mem_of_getElem? (i := 311) (by decide +kernel)⟩
theorem lw_p25 : lw_okq (⟨"DepotTraysModel", "fails", "(I)I"⟩, 16) := ⟨⟨by decide +kernel, by decide +kernel⟩, List.mem_of_getElem? (i := 248) (by decide +kernel), List.mem_of_getElem? (i := 321) (by decide +kernel), List.mem_of_getElem? (i := 322) (by decide +kernel)⟩
theorem lw_p26 : lw_okq (⟨"DepotTraysModel", "mayBe", "(I)Z"⟩, 16) := ⟨⟨by decide +kernel, by decide +kernel⟩, List.mem_of_getElem? (i := 248) (by decide +kernel), List.mem_of_getElem? (i := 333) (by decide +kernel), List.mem_of_getElem? (i := 334) (by decide +kernel)⟩
theorem lw_p27 : lw_okq (⟨"DepotTraysModel", "isSuch", "(III)Z"⟩, 16) := ⟨⟨by decide +kernel, by decide +kernel⟩, List.mem_of_getElem? (i := 248) (by decide +kernel), List.mem_of_getElem? (i := 337) (by decide +kernel), List.mem_of_getElem? (i := 338) (by decide +kernel)⟩
theorem lw_p28 : lw_okq (⟨"DepotTraysModel", "isLedger", "(I)Z"⟩, 16) := ⟨⟨by decide +kernel, by decide +kernel⟩, List.mem_of_getElem? (i := 248) (by decide +kernel), List.mem_of_getElem? (i := 344) (by decide +kernel), List.mem_of_getElem? (i := 345) (by decide +kernel)⟩
theorem lw_p29 : lw_okq (⟨"DepotTraysModel", "refused", "(II)I"⟩, 16) := ⟨⟨by decide +kernel, by decide +kernel⟩, List.mem_of_getElem? (i := 248) (by decide +kernel), List.mem_of_getElem? (i := 356) (by decide +kernel), List.mem_of_getElem? (i := 357) (by decide +kernel)⟩
theorem lw_p30 : lw_okq (⟨"DepotTraysModel", "isThing", "(I)Z"⟩, 16) := ⟨⟨by decide +kernel, by decide +kernel⟩, List.mem_of_getElem? (i := 248) (by decide +kernel), List.mem_of_getElem? (i := 387) (by decide +kernel), List.mem_of_getElem? (i := 388) (by decide +kernel)⟩
theorem lw_p31 : lw_okq (⟨"DepotTraysModel", "addUp", "()V"⟩, 16) := ⟨⟨by decide +kernel, by decide +kernel⟩, List.mem_of_getElem? (i := 248) (by decide +kernel), List.mem_of_getElem? (i := 391) (by decide +kernel), List.mem_of_getElem? (i := 392) (by decide +kernel)⟩
def lw_privs_2 : List (MethodName × Nat) := [(⟨"DepotTrays", "firstClosedDoor", "(III)I"⟩, 11), (⟨"DepotTrays", "worthWithin", "(II)J"⟩, 11), (⟨"DepotTrays", "worthOfPiece", "(I)J"⟩, 11), (⟨"DepotTrays", "movePlaces", "(IIIII)V"⟩, 11), (⟨"DepotTrays", "areAlike", "(II)Z"⟩, 11), (⟨"DepotTrays", "hasPlaces", "(III)Z"⟩, 11), (⟨"DepotTrays", "countGoing", "(IIII)I"⟩, 11), (⟨"DepotTrays", "frailWithin", "(II)I"⟩, 11), (⟨"DepotTraysModel", "make", "(IIII)I"⟩, 16), (⟨"DepotTraysModel", "fails", "(I)I"⟩, 16), (⟨"DepotTraysModel", "mayBe", "(I)Z"⟩, 16), (⟨"DepotTraysModel", "isSuch", "(III)Z"⟩, 16), (⟨"DepotTraysModel", "isLedger", "(I)Z"⟩, 16), (⟨"DepotTraysModel", "refused", "(II)I"⟩, 16), (⟨"DepotTraysModel", "isThing", "(I)Z"⟩, 16), (⟨"DepotTraysModel", "addUp", "()V"⟩, 16)]
theorem lw_r2 : ∀ q ∈ lw_privs_2, lw_okq q := List.forall_mem_cons.mpr ⟨lw_p16, List.forall_mem_cons.mpr ⟨lw_p17, List.forall_mem_cons.mpr ⟨lw_p18, List.forall_mem_cons.mpr ⟨lw_p19, List.forall_mem_cons.mpr ⟨lw_p20, List.forall_mem_cons.mpr ⟨lw_p21, List.forall_mem_cons.mpr ⟨lw_p22, List.forall_mem_cons.mpr ⟨lw_p23, List.forall_mem_cons.mpr ⟨lw_p24, List.forall_mem_cons.mpr ⟨lw_p25, List.forall_mem_cons.mpr ⟨lw_p26, List.forall_mem_cons.mpr ⟨lw_p27, List.forall_mem_cons.mpr ⟨lw_p28, List.forall_mem_cons.mpr ⟨lw_p29, List.forall_mem_cons.mpr ⟨lw_p30, List.forall_mem_cons.mpr ⟨lw_p31, fun _ h => absurd h List.not_mem_nil⟩⟩⟩⟩⟩⟩⟩⟩⟩⟩⟩⟩⟩⟩⟩⟩
theorem lw_p32 : lw_okq (⟨"DepotTraysModel", "addOne", "(I)V"⟩, 16) := ⟨⟨by decide +kernel, by decide +kernel⟩, List.mem_of_getElem? (i := 248) (by decide +kernel), List.mem_of_getElem? (i := 395) (by decide +kernel), List.mem_of_getElem? (i := 396) (by decide +kernel)⟩
def lw_privs_3 : List (MethodName × Nat) := [(⟨"DepotTraysModel", "addOne", "(I)V"⟩, 16)]
theorem lw_r3 : ∀ q ∈ lw_privs_3, lw_okq q := List.forall_mem_cons.mpr ⟨lw_p32, fun _ h => absurd h List.not_mem_nil⟩
def lw_privs : List (MethodName × Nat) := lw_privs_1 ++ (lw_privs_2 ++ (lw_privs_3))
def lw_tbl : List Cond := k2_sels lw_privs ++ tables_1
theorem lw_privs_ok : ∀ q ∈ lw_privs, lw_okq q := by
  show ∀ q ∈ lw_privs_1 ++ (lw_privs_2 ++ (lw_privs_3)), lw_okq q
  exact List.forall_mem_append.mpr ⟨lw_r1, List.forall_mem_append.mpr ⟨lw_r2, lw_r3⟩⟩
end
section
def RX0 : String := "DepotTrays"
def TX0 : u_T := fun k => match k with
  | 0 => ("DepotTrays", "thingBase", "[I", true)
  | 1 => ("DepotTrays", "thingDepth", "[I", true)
  | 2 => ("DepotTrays", "thingSize", "[I", true)
  | 3 => ("DepotTrays", "pieceWorth", "[I", true)
  | 4 => ("DepotTrays", "places", "[J", true)
  | 5 => ("DepotTrays", "doorBase", "[I", true)
  | 6 => ("DepotTrays", "doorDepth", "[I", true)
  | 7 => ("DepotTrays", "thingCount", "I", false)
  | 8 => ("DepotTrays", "failureCount", "I", false)
  | 9 => ("DepotTrays", "latestFailure", "I", false)
  | _ => ("DepotTrays", "closedDoor", "I", false)
def tyX0 : Nat → FieldType := fun k => match k with
  | 0 => .array .int
  | 1 => .array .int
  | 2 => .array .int
  | 3 => .array .int
  | 4 => .array .long
  | 5 => .array .int
  | 6 => .array .int
  | 7 => .int
  | 8 => .int
  | 9 => .int
  | _ => .int
abbrev wsX00 : List Cond := u_ws RX0 TX0 11
theorem nmX0 : ∀ a, a < 11 → ∀ b, b < 11 → a ≠ b → (TX0 a).2.1 ≠ (TX0 b).2.1 := by decide +kernel
theorem tyX0_ok : ∀ k, k < 11 → parseFieldDescriptor (TX0 k).2.2.1 = some (tyX0 k) := by decide +kernel
abbrev cX0_init : ByteArray := prog_1_method_1_code
def yX0_init : MethodName := ⟨RX0, "<init>", "()V"⟩
abbrev cX0_piece : ByteArray := prog_1_method_2_code
def yX0_piece : MethodName := ⟨RX0, "piece", "(II)I"⟩
abbrev cX0_row : ByteArray := prog_1_method_3_code
def yX0_row : MethodName := ⟨RX0, "row", "(III)I"⟩
abbrev cX0_grid : ByteArray := prog_1_method_4_code
def yX0_grid : MethodName := ⟨RX0, "grid", "(III)I"⟩
abbrev cX0_put : ByteArray := prog_1_method_5_code
def yX0_put : MethodName := ⟨RX0, "put", "(III)I"⟩
abbrev cX0_get : ByteArray := prog_1_method_6_code
def yX0_get : MethodName := ⟨RX0, "get", "(II)I"⟩
abbrev cX0_set : ByteArray := prog_1_method_7_code
def yX0_set : MethodName := ⟨RX0, "set", "(IIJ)I"⟩
abbrev cX0_number : ByteArray := prog_1_method_8_code
def yX0_number : MethodName := ⟨RX0, "number", "(II)J"⟩
abbrev cX0_is : ByteArray := prog_1_method_9_code
def yX0_is : MethodName := ⟨RX0, "is", "(III)I"⟩
abbrev cX0_door : ByteArray := prog_1_method_10_code
def yX0_door : MethodName := ⟨RX0, "door", "(III)I"⟩
abbrev cX0_through : ByteArray := prog_1_method_11_code
def yX0_through : MethodName := ⟨RX0, "through", "(III)I"⟩
abbrev cX0_lastDoor : ByteArray := prog_1_method_12_code
def yX0_lastDoor : MethodName := ⟨RX0, "lastDoor", "()I"⟩
abbrev cX0_worth : ByteArray := prog_1_method_13_code
def yX0_worth : MethodName := ⟨RX0, "worth", "(I)J"⟩
abbrev cX0_copy : ByteArray := prog_1_method_14_code
def yX0_copy : MethodName := ⟨RX0, "copy", "(I)I"⟩
abbrev cX0_carry : ByteArray := prog_1_method_15_code
def yX0_carry : MethodName := ⟨RX0, "carry", "(IIIII)I"⟩
abbrev cX0_frail : ByteArray := prog_1_method_16_code
def yX0_frail : MethodName := ⟨RX0, "frail", "(I)I"⟩
abbrev cX0_about : ByteArray := prog_1_method_17_code
def yX0_about : MethodName := ⟨RX0, "about", "(II)I"⟩
abbrev cX0_bases : ByteArray := prog_1_method_18_code
def yX0_bases : MethodName := ⟨RX0, "bases", "(I)I"⟩
abbrev cX0_count : ByteArray := prog_1_method_19_code
def yX0_count : MethodName := ⟨RX0, "count", "(I)I"⟩
abbrev cX0_clear : ByteArray := prog_1_method_20_code
def yX0_clear : MethodName := ⟨RX0, "clear", "()I"⟩
abbrev cX0_fail : ByteArray := prog_1_method_21_code
def yX0_fail : MethodName := ⟨RX0, "fail", "(I)I"⟩
abbrev cX0_isThing : ByteArray := prog_1_method_22_code
def yX0_isThing : MethodName := ⟨RX0, "isThing", "(I)Z"⟩
abbrev cX0_isThingOrNone : ByteArray := prog_1_method_23_code
def yX0_isThingOrNone : MethodName := ⟨RX0, "isThingOrNone", "(I)Z"⟩
abbrev cX0_isDoor : ByteArray := prog_1_method_24_code
def yX0_isDoor : MethodName := ⟨RX0, "isDoor", "(I)Z"⟩
abbrev cX0_isNumberBase : ByteArray := prog_1_method_25_code
def yX0_isNumberBase : MethodName := ⟨RX0, "isNumberBase", "(I)Z"⟩
abbrev cX0_isKind : ByteArray := prog_1_method_26_code
def yX0_isKind : MethodName := ⟨RX0, "isKind", "(II)Z"⟩
abbrev cX0_isPiece : ByteArray := prog_1_method_27_code
def yX0_isPiece : MethodName := ⟨RX0, "isPiece", "(I)Z"⟩
abbrev cX0_isLedger : ByteArray := prog_1_method_28_code
def yX0_isLedger : MethodName := ⟨RX0, "isLedger", "(I)Z"⟩
abbrev cX0_holdsThings : ByteArray := prog_1_method_29_code
def yX0_holdsThings : MethodName := ⟨RX0, "holdsThings", "(I)Z"⟩
abbrev cX0_goesFor : ByteArray := prog_1_method_30_code
def yX0_goesFor : MethodName := ⟨RX0, "goesFor", "(II)Z"⟩
abbrev cX0_isOfKind : ByteArray := prog_1_method_31_code
def yX0_isOfKind : MethodName := ⟨RX0, "isOfKind", "(III)Z"⟩
abbrev cX0_mayPass : ByteArray := prog_1_method_32_code
def yX0_mayPass : MethodName := ⟨RX0, "mayPass", "(III)Z"⟩
abbrev cX0_goesInto : ByteArray := prog_1_method_33_code
def yX0_goesInto : MethodName := ⟨RX0, "goesInto", "(II)Z"⟩
abbrev cX0_widestBase : ByteArray := prog_1_method_34_code
def yX0_widestBase : MethodName := ⟨RX0, "widestBase", "(I)I"⟩
abbrev cX0_hasPlace : ByteArray := prog_1_method_35_code
def yX0_hasPlace : MethodName := ⟨RX0, "hasPlace", "(II)Z"⟩
abbrev cX0_hasPlaces : ByteArray := prog_1_method_36_code
def yX0_hasPlaces : MethodName := ⟨RX0, "hasPlaces", "(III)Z"⟩
abbrev cX0_placeIndex : ByteArray := prog_1_method_37_code
def yX0_placeIndex : MethodName := ⟨RX0, "placeIndex", "(II)I"⟩
abbrev cX0_thingAt : ByteArray := prog_1_method_38_code
def yX0_thingAt : MethodName := ⟨RX0, "thingAt", "(II)I"⟩
abbrev cX0_ledgerFailure : ByteArray := prog_1_method_39_code
def yX0_ledgerFailure : MethodName := ⟨RX0, "ledgerFailure", "(II)I"⟩
abbrev cX0_hasRoomFor : ByteArray := prog_1_method_40_code
def yX0_hasRoomFor : MethodName := ⟨RX0, "hasRoomFor", "(I)Z"⟩
abbrev cX0_addThing : ByteArray := prog_1_method_41_code
def yX0_addThing : MethodName := ⟨RX0, "addThing", "(III)I"⟩
abbrev cX0_addRow : ByteArray := prog_1_method_42_code
def yX0_addRow : MethodName := ⟨RX0, "addRow", "(III)I"⟩
abbrev cX0_firstClosedDoor : ByteArray := prog_1_method_43_code
def yX0_firstClosedDoor : MethodName := ⟨RX0, "firstClosedDoor", "(III)I"⟩
abbrev cX0_areAlike : ByteArray := prog_1_method_44_code
def yX0_areAlike : MethodName := ⟨RX0, "areAlike", "(II)Z"⟩
abbrev cX0_countGoing : ByteArray := prog_1_method_45_code
def yX0_countGoing : MethodName := ⟨RX0, "countGoing", "(IIII)I"⟩
abbrev cX0_movePlaces : ByteArray := prog_1_method_46_code
def yX0_movePlaces : MethodName := ⟨RX0, "movePlaces", "(IIIII)V"⟩
abbrev cX0_worthWithin : ByteArray := prog_1_method_47_code
def yX0_worthWithin : MethodName := ⟨RX0, "worthWithin", "(II)J"⟩
abbrev cX0_worthOfPiece : ByteArray := prog_1_method_48_code
def yX0_worthOfPiece : MethodName := ⟨RX0, "worthOfPiece", "(I)J"⟩
abbrev cX0_frailWithin : ByteArray := prog_1_method_49_code
def yX0_frailWithin : MethodName := ⟨RX0, "frailWithin", "(II)I"⟩
theorem dX0_init_0 : decode cX0_init 0 = .ok (.aload_n 0, 1) := by decide +kernel
theorem dX0_init_1 : decode cX0_init 1 = .ok (.invokespecial 1, 3) := by decide +kernel
theorem dX0_init_4 : decode cX0_init 4 = .ok (.aload_n 0, 1) := by decide +kernel
theorem dX0_init_5 : decode cX0_init 5 = .ok (.bipush 60, 2) := by decide +kernel
theorem dX0_init_7 : decode cX0_init 7 = .ok (.newarray .int, 2) := by decide +kernel
theorem dX0_init_9 : decode cX0_init 9 = .ok (.putfield 9, 3) := by decide +kernel
theorem dX0_init_12 : decode cX0_init 12 = .ok (.aload_n 0, 1) := by decide +kernel
theorem dX0_init_13 : decode cX0_init 13 = .ok (.bipush 60, 2) := by decide +kernel
theorem dX0_init_15 : decode cX0_init 15 = .ok (.newarray .int, 2) := by decide +kernel
theorem dX0_init_17 : decode cX0_init 17 = .ok (.putfield 13, 3) := by decide +kernel
theorem dX0_init_20 : decode cX0_init 20 = .ok (.aload_n 0, 1) := by decide +kernel
theorem dX0_init_21 : decode cX0_init 21 = .ok (.bipush 60, 2) := by decide +kernel
theorem dX0_init_23 : decode cX0_init 23 = .ok (.newarray .int, 2) := by decide +kernel
theorem dX0_init_25 : decode cX0_init 25 = .ok (.putfield 16, 3) := by decide +kernel
theorem dX0_init_28 : decode cX0_init 28 = .ok (.aload_n 0, 1) := by decide +kernel
theorem dX0_init_29 : decode cX0_init 29 = .ok (.bipush 60, 2) := by decide +kernel
theorem dX0_init_31 : decode cX0_init 31 = .ok (.newarray .int, 2) := by decide +kernel
theorem dX0_init_33 : decode cX0_init 33 = .ok (.putfield 19, 3) := by decide +kernel
theorem dX0_init_36 : decode cX0_init 36 = .ok (.aload_n 0, 1) := by decide +kernel
theorem dX0_init_37 : decode cX0_init 37 = .ok (.sipush 480, 3) := by decide +kernel
theorem dX0_init_40 : decode cX0_init 40 = .ok (.newarray .long, 2) := by decide +kernel
theorem dX0_init_42 : decode cX0_init 42 = .ok (.putfield 22, 3) := by decide +kernel
theorem dX0_init_45 : decode cX0_init 45 = .ok (.aload_n 0, 1) := by decide +kernel
theorem dX0_init_46 : decode cX0_init 46 = .ok (.bipush 8, 2) := by decide +kernel
theorem dX0_init_48 : decode cX0_init 48 = .ok (.newarray .int, 2) := by decide +kernel
theorem dX0_init_50 : decode cX0_init 50 = .ok (.putfield 26, 3) := by decide +kernel
theorem dX0_init_53 : decode cX0_init 53 = .ok (.aload_n 0, 1) := by decide +kernel
theorem dX0_init_54 : decode cX0_init 54 = .ok (.bipush 8, 2) := by decide +kernel
theorem dX0_init_56 : decode cX0_init 56 = .ok (.newarray .int, 2) := by decide +kernel
theorem dX0_init_58 : decode cX0_init 58 = .ok (.putfield 29, 3) := by decide +kernel
theorem dX0_init_61 : decode cX0_init 61 = .ok (.aload_n 0, 1) := by decide +kernel
theorem dX0_init_62 : decode cX0_init 62 = .ok (.iconst 0, 1) := by decide +kernel
theorem dX0_init_63 : decode cX0_init 63 = .ok (.putfield 32, 3) := by decide +kernel
theorem dX0_init_66 : decode cX0_init 66 = .ok (.aload_n 0, 1) := by decide +kernel
theorem dX0_init_67 : decode cX0_init 67 = .ok (.iconst 0, 1) := by decide +kernel
theorem dX0_init_68 : decode cX0_init 68 = .ok (.putfield 36, 3) := by decide +kernel
theorem dX0_init_71 : decode cX0_init 71 = .ok (.aload_n 0, 1) := by decide +kernel
theorem dX0_init_72 : decode cX0_init 72 = .ok (.iconst 0, 1) := by decide +kernel
theorem dX0_init_73 : decode cX0_init 73 = .ok (.putfield 39, 3) := by decide +kernel
theorem dX0_init_76 : decode cX0_init 76 = .ok (.aload_n 0, 1) := by decide +kernel
theorem dX0_init_77 : decode cX0_init 77 = .ok (.iconst (-1), 1) := by decide +kernel
theorem dX0_init_78 : decode cX0_init 78 = .ok (.putfield 42, 3) := by decide +kernel
theorem dX0_init_81 : decode cX0_init 81 = .ok (.return_, 1) := by decide +kernel
theorem dX0_piece_0 : decode cX0_piece 0 = .ok (.iload_n 1, 1) := by decide +kernel
theorem dX0_piece_1 : decode cX0_piece 1 = .ok (.ifCond .lt 8, 3) := by decide +kernel
theorem dX0_piece_4 : decode cX0_piece 4 = .ok (.iload_n 1, 1) := by decide +kernel
theorem dX0_piece_5 : decode cX0_piece 5 = .ok (.iconst 3, 1) := by decide +kernel
theorem dX0_piece_6 : decode cX0_piece 6 = .ok (.if_icmp .le 6, 3) := by decide +kernel
theorem dX0_piece_9 : decode cX0_piece 9 = .ok (.bipush (-2), 2) := by decide +kernel
theorem dX0_piece_11 : decode cX0_piece 11 = .ok (.ireturn, 1) := by decide +kernel
theorem dX0_piece_12 : decode cX0_piece 12 = .ok (.aload_n 0, 1) := by decide +kernel
theorem dX0_piece_13 : decode cX0_piece 13 = .ok (.iconst 1, 1) := by decide +kernel
theorem dX0_piece_14 : decode cX0_piece 14 = .ok (.invokevirtual 45, 3) := by decide +kernel
theorem dX0_piece_17 : decode cX0_piece 17 = .ok (.ifCond .ne 6, 3) := by decide +kernel
theorem dX0_piece_20 : decode cX0_piece 20 = .ok (.bipush (-3), 2) := by decide +kernel
theorem dX0_piece_22 : decode cX0_piece 22 = .ok (.ireturn, 1) := by decide +kernel
theorem dX0_piece_23 : decode cX0_piece 23 = .ok (.aload_n 0, 1) := by decide +kernel
theorem dX0_piece_24 : decode cX0_piece 24 = .ok (.iload_n 1, 1) := by decide +kernel
theorem dX0_piece_25 : decode cX0_piece 25 = .ok (.iconst 0, 1) := by decide +kernel
theorem dX0_piece_26 : decode cX0_piece 26 = .ok (.iconst 0, 1) := by decide +kernel
theorem dX0_piece_27 : decode cX0_piece 27 = .ok (.invokevirtual 49, 3) := by decide +kernel
theorem dX0_piece_30 : decode cX0_piece 30 = .ok (.istore_n 3, 1) := by decide +kernel
theorem dX0_piece_31 : decode cX0_piece 31 = .ok (.aload_n 0, 1) := by decide +kernel
theorem dX0_piece_32 : decode cX0_piece 32 = .ok (.getfield 19, 3) := by decide +kernel
theorem dX0_piece_35 : decode cX0_piece 35 = .ok (.iload_n 3, 1) := by decide +kernel
theorem dX0_piece_36 : decode cX0_piece 36 = .ok (.iload_n 2, 1) := by decide +kernel
theorem dX0_piece_37 : decode cX0_piece 37 = .ok (.iastore, 1) := by decide +kernel
theorem dX0_piece_38 : decode cX0_piece 38 = .ok (.iload_n 3, 1) := by decide +kernel
theorem dX0_piece_39 : decode cX0_piece 39 = .ok (.ireturn, 1) := by decide +kernel
theorem dX0_row_0 : decode cX0_row 0 = .ok (.iload_n 1, 1) := by decide +kernel
theorem dX0_row_1 : decode cX0_row 1 = .ok (.iload_n 2, 1) := by decide +kernel
theorem dX0_row_2 : decode cX0_row 2 = .ok (.invokestatic 53, 3) := by decide +kernel
theorem dX0_row_5 : decode cX0_row 5 = .ok (.ifCond .eq 14, 3) := by decide +kernel
theorem dX0_row_8 : decode cX0_row 8 = .ok (.iload_n 2, 1) := by decide +kernel
theorem dX0_row_9 : decode cX0_row 9 = .ok (.iconst 1, 1) := by decide +kernel
theorem dX0_row_10 : decode cX0_row 10 = .ok (.if_icmp .lt 9, 3) := by decide +kernel
theorem dX0_row_13 : decode cX0_row 13 = .ok (.iload_n 3, 1) := by decide +kernel
theorem dX0_row_14 : decode cX0_row 14 = .ok (.bipush 8, 2) := by decide +kernel
theorem dX0_row_16 : decode cX0_row 16 = .ok (.if_icmp .le 6, 3) := by decide +kernel
theorem dX0_row_19 : decode cX0_row 19 = .ok (.bipush (-2), 2) := by decide +kernel
theorem dX0_row_21 : decode cX0_row 21 = .ok (.ireturn, 1) := by decide +kernel
theorem dX0_row_22 : decode cX0_row 22 = .ok (.aload_n 0, 1) := by decide +kernel
theorem dX0_row_23 : decode cX0_row 23 = .ok (.iconst 1, 1) := by decide +kernel
theorem dX0_row_24 : decode cX0_row 24 = .ok (.invokevirtual 45, 3) := by decide +kernel
theorem dX0_row_27 : decode cX0_row 27 = .ok (.ifCond .ne 6, 3) := by decide +kernel
theorem dX0_row_30 : decode cX0_row 30 = .ok (.bipush (-3), 2) := by decide +kernel
theorem dX0_row_32 : decode cX0_row 32 = .ok (.ireturn, 1) := by decide +kernel
theorem dX0_row_33 : decode cX0_row 33 = .ok (.iload_n 3, 1) := by decide +kernel
theorem dX0_row_34 : decode cX0_row 34 = .ok (.ifCond .ge 9, 3) := by decide +kernel
theorem dX0_row_37 : decode cX0_row 37 = .ok (.aload_n 0, 1) := by decide +kernel
theorem dX0_row_38 : decode cX0_row 38 = .ok (.iconst 5, 1) := by decide +kernel
theorem dX0_row_39 : decode cX0_row 39 = .ok (.invokevirtual 57, 3) := by decide +kernel
theorem dX0_row_42 : decode cX0_row 42 = .ok (.ireturn, 1) := by decide +kernel
theorem dX0_row_43 : decode cX0_row 43 = .ok (.aload_n 0, 1) := by decide +kernel
theorem dX0_row_44 : decode cX0_row 44 = .ok (.iload_n 1, 1) := by decide +kernel
theorem dX0_row_45 : decode cX0_row 45 = .ok (.iload_n 2, 1) := by decide +kernel
theorem dX0_row_46 : decode cX0_row 46 = .ok (.iload_n 3, 1) := by decide +kernel
theorem dX0_row_47 : decode cX0_row 47 = .ok (.invokevirtual 61, 3) := by decide +kernel
theorem dX0_row_50 : decode cX0_row 50 = .ok (.ireturn, 1) := by decide +kernel
theorem dX0_grid_0 : decode cX0_grid 0 = .ok (.iload_n 1, 1) := by decide +kernel
theorem dX0_grid_1 : decode cX0_grid 1 = .ok (.iconst 2, 1) := by decide +kernel
theorem dX0_grid_2 : decode cX0_grid 2 = .ok (.invokestatic 53, 3) := by decide +kernel
theorem dX0_grid_5 : decode cX0_grid 5 = .ok (.ifCond .eq 15, 3) := by decide +kernel
theorem dX0_grid_8 : decode cX0_grid 8 = .ok (.iload_n 2, 1) := by decide +kernel
theorem dX0_grid_9 : decode cX0_grid 9 = .ok (.bipush 8, 2) := by decide +kernel
theorem dX0_grid_11 : decode cX0_grid 11 = .ok (.if_icmp .gt 9, 3) := by decide +kernel
theorem dX0_grid_14 : decode cX0_grid 14 = .ok (.iload_n 3, 1) := by decide +kernel
theorem dX0_grid_15 : decode cX0_grid 15 = .ok (.bipush 8, 2) := by decide +kernel
theorem dX0_grid_17 : decode cX0_grid 17 = .ok (.if_icmp .le 6, 3) := by decide +kernel
theorem dX0_grid_20 : decode cX0_grid 20 = .ok (.bipush (-2), 2) := by decide +kernel
theorem dX0_grid_22 : decode cX0_grid 22 = .ok (.ireturn, 1) := by decide +kernel
theorem dX0_grid_23 : decode cX0_grid 23 = .ok (.aload_n 0, 1) := by decide +kernel
theorem dX0_grid_24 : decode cX0_grid 24 = .ok (.iconst 1, 1) := by decide +kernel
theorem dX0_grid_25 : decode cX0_grid 25 = .ok (.iload_n 2, 1) := by decide +kernel
theorem dX0_grid_26 : decode cX0_grid 26 = .ok (.iconst 0, 1) := by decide +kernel
theorem dX0_grid_27 : decode cX0_grid 27 = .ok (.invokestatic 64, 3) := by decide +kernel
theorem dX0_grid_30 : decode cX0_grid 30 = .ok (.iadd, 1) := by decide +kernel
theorem dX0_grid_31 : decode cX0_grid 31 = .ok (.invokevirtual 45, 3) := by decide +kernel
theorem dX0_grid_34 : decode cX0_grid 34 = .ok (.ifCond .ne 6, 3) := by decide +kernel
theorem dX0_grid_37 : decode cX0_grid 37 = .ok (.bipush (-3), 2) := by decide +kernel
theorem dX0_grid_39 : decode cX0_grid 39 = .ok (.ireturn, 1) := by decide +kernel
theorem dX0_grid_40 : decode cX0_grid 40 = .ok (.iload_n 2, 1) := by decide +kernel
theorem dX0_grid_41 : decode cX0_grid 41 = .ok (.ifCond .lt 7, 3) := by decide +kernel
theorem dX0_grid_44 : decode cX0_grid 44 = .ok (.iload_n 3, 1) := by decide +kernel
theorem dX0_grid_45 : decode cX0_grid 45 = .ok (.ifCond .ge 9, 3) := by decide +kernel
theorem dX0_grid_48 : decode cX0_grid 48 = .ok (.aload_n 0, 1) := by decide +kernel
theorem dX0_grid_49 : decode cX0_grid 49 = .ok (.iconst 5, 1) := by decide +kernel
theorem dX0_grid_50 : decode cX0_grid 50 = .ok (.invokevirtual 57, 3) := by decide +kernel
theorem dX0_grid_53 : decode cX0_grid 53 = .ok (.ireturn, 1) := by decide +kernel
theorem dX0_grid_54 : decode cX0_grid 54 = .ok (.aload_n 0, 1) := by decide +kernel
theorem dX0_grid_55 : decode cX0_grid 55 = .ok (.iload_n 1, 1) := by decide +kernel
theorem dX0_grid_56 : decode cX0_grid 56 = .ok (.iconst 2, 1) := by decide +kernel
theorem dX0_grid_57 : decode cX0_grid 57 = .ok (.iload_n 2, 1) := by decide +kernel
theorem dX0_grid_58 : decode cX0_grid 58 = .ok (.invokevirtual 61, 3) := by decide +kernel
theorem dX0_grid_61 : decode cX0_grid 61 = .ok (.istore 4, 2) := by decide +kernel
theorem dX0_grid_63 : decode cX0_grid 63 = .ok (.iconst 0, 1) := by decide +kernel
theorem dX0_grid_64 : decode cX0_grid 64 = .ok (.istore 5, 2) := by decide +kernel
theorem dX0_grid_66 : decode cX0_grid 66 = .ok (.iload 5, 2) := by decide +kernel
theorem dX0_grid_68 : decode cX0_grid 68 = .ok (.iload_n 2, 1) := by decide +kernel
theorem dX0_grid_69 : decode cX0_grid 69 = .ok (.if_icmp .ge 29, 3) := by decide +kernel
theorem dX0_grid_72 : decode cX0_grid 72 = .ok (.aload_n 0, 1) := by decide +kernel
theorem dX0_grid_73 : decode cX0_grid 73 = .ok (.getfield 22, 3) := by decide +kernel
theorem dX0_grid_76 : decode cX0_grid 76 = .ok (.iload 4, 2) := by decide +kernel
theorem dX0_grid_78 : decode cX0_grid 78 = .ok (.iload 5, 2) := by decide +kernel
theorem dX0_grid_80 : decode cX0_grid 80 = .ok (.invokestatic 70, 3) := by decide +kernel
theorem dX0_grid_83 : decode cX0_grid 83 = .ok (.aload_n 0, 1) := by decide +kernel
theorem dX0_grid_84 : decode cX0_grid 84 = .ok (.iload_n 1, 1) := by decide +kernel
theorem dX0_grid_85 : decode cX0_grid 85 = .ok (.iconst 1, 1) := by decide +kernel
theorem dX0_grid_86 : decode cX0_grid 86 = .ok (.iload_n 3, 1) := by decide +kernel
theorem dX0_grid_87 : decode cX0_grid 87 = .ok (.invokevirtual 61, 3) := by decide +kernel
theorem dX0_grid_90 : decode cX0_grid 90 = .ok (.i2l, 1) := by decide +kernel
theorem dX0_grid_91 : decode cX0_grid 91 = .ok (.lastore, 1) := by decide +kernel
theorem dX0_grid_92 : decode cX0_grid 92 = .ok (.iinc 5 1, 3) := by decide +kernel
theorem dX0_grid_95 : decode cX0_grid 95 = .ok (.goto (-29), 3) := by decide +kernel
theorem dX0_grid_98 : decode cX0_grid 98 = .ok (.iload 4, 2) := by decide +kernel
theorem dX0_grid_100 : decode cX0_grid 100 = .ok (.ireturn, 1) := by decide +kernel
theorem dX0_put_0 : decode cX0_put 0 = .ok (.aload_n 0, 1) := by decide +kernel
theorem dX0_put_1 : decode cX0_put 1 = .ok (.iload_n 1, 1) := by decide +kernel
theorem dX0_put_2 : decode cX0_put 2 = .ok (.invokevirtual 73, 3) := by decide +kernel
theorem dX0_put_5 : decode cX0_put 5 = .ok (.ifCond .eq 11, 3) := by decide +kernel
theorem dX0_put_8 : decode cX0_put 8 = .ok (.aload_n 0, 1) := by decide +kernel
theorem dX0_put_9 : decode cX0_put 9 = .ok (.iload_n 3, 1) := by decide +kernel
theorem dX0_put_10 : decode cX0_put 10 = .ok (.invokevirtual 73, 3) := by decide +kernel
theorem dX0_put_13 : decode cX0_put 13 = .ok (.ifCond .ne 6, 3) := by decide +kernel
theorem dX0_put_16 : decode cX0_put 16 = .ok (.bipush (-2), 2) := by decide +kernel
theorem dX0_put_18 : decode cX0_put 18 = .ok (.ireturn, 1) := by decide +kernel
theorem dX0_put_19 : decode cX0_put 19 = .ok (.iload_n 1, 1) := by decide +kernel
theorem dX0_put_20 : decode cX0_put 20 = .ok (.iconst (-1), 1) := by decide +kernel
theorem dX0_put_21 : decode cX0_put 21 = .ok (.if_icmp .ne 23, 3) := by decide +kernel
theorem dX0_put_24 : decode cX0_put 24 = .ok (.aload_n 0, 1) := by decide +kernel
theorem dX0_put_25 : decode cX0_put 25 = .ok (.aload_n 0, 1) := by decide +kernel
theorem dX0_put_26 : decode cX0_put 26 = .ok (.iload_n 3, 1) := by decide +kernel
theorem dX0_put_27 : decode cX0_put 27 = .ok (.iconst 0, 1) := by decide +kernel
theorem dX0_put_28 : decode cX0_put 28 = .ok (.iconst 0, 1) := by decide +kernel
theorem dX0_put_29 : decode cX0_put 29 = .ok (.invokevirtual 76, 3) := by decide +kernel
theorem dX0_put_32 : decode cX0_put 32 = .ok (.ifCond .eq 7, 3) := by decide +kernel
theorem dX0_put_35 : decode cX0_put 35 = .ok (.iconst 1, 1) := by decide +kernel
theorem dX0_put_36 : decode cX0_put 36 = .ok (.goto 4, 3) := by decide +kernel
theorem dX0_put_39 : decode cX0_put 39 = .ok (.iconst 2, 1) := by decide +kernel
theorem dX0_put_40 : decode cX0_put 40 = .ok (.invokevirtual 57, 3) := by decide +kernel
theorem dX0_put_43 : decode cX0_put 43 = .ok (.ireturn, 1) := by decide +kernel
theorem dX0_put_44 : decode cX0_put 44 = .ok (.aload_n 0, 1) := by decide +kernel
theorem dX0_put_45 : decode cX0_put 45 = .ok (.iload_n 1, 1) := by decide +kernel
theorem dX0_put_46 : decode cX0_put 46 = .ok (.invokevirtual 80, 3) := by decide +kernel
theorem dX0_put_49 : decode cX0_put 49 = .ok (.ifCond .ne 9, 3) := by decide +kernel
theorem dX0_put_52 : decode cX0_put 52 = .ok (.aload_n 0, 1) := by decide +kernel
theorem dX0_put_53 : decode cX0_put 53 = .ok (.iconst 2, 1) := by decide +kernel
theorem dX0_put_54 : decode cX0_put 54 = .ok (.invokevirtual 57, 3) := by decide +kernel
theorem dX0_put_57 : decode cX0_put 57 = .ok (.ireturn, 1) := by decide +kernel
theorem dX0_put_58 : decode cX0_put 58 = .ok (.aload_n 0, 1) := by decide +kernel
theorem dX0_put_59 : decode cX0_put 59 = .ok (.iload_n 3, 1) := by decide +kernel
theorem dX0_put_60 : decode cX0_put 60 = .ok (.aload_n 0, 1) := by decide +kernel
theorem dX0_put_61 : decode cX0_put 61 = .ok (.iload_n 1, 1) := by decide +kernel
theorem dX0_put_62 : decode cX0_put 62 = .ok (.invokevirtual 83, 3) := by decide +kernel
theorem dX0_put_65 : decode cX0_put 65 = .ok (.aload_n 0, 1) := by decide +kernel
theorem dX0_put_66 : decode cX0_put 66 = .ok (.getfield 13, 3) := by decide +kernel
theorem dX0_put_69 : decode cX0_put 69 = .ok (.iload_n 1, 1) := by decide +kernel
theorem dX0_put_70 : decode cX0_put 70 = .ok (.iaload, 1) := by decide +kernel
theorem dX0_put_71 : decode cX0_put 71 = .ok (.iconst 1, 1) := by decide +kernel
theorem dX0_put_72 : decode cX0_put 72 = .ok (.isub, 1) := by decide +kernel
theorem dX0_put_73 : decode cX0_put 73 = .ok (.invokevirtual 76, 3) := by decide +kernel
theorem dX0_put_76 : decode cX0_put 76 = .ok (.ifCond .ne 9, 3) := by decide +kernel
theorem dX0_put_79 : decode cX0_put 79 = .ok (.aload_n 0, 1) := by decide +kernel
theorem dX0_put_80 : decode cX0_put 80 = .ok (.iconst 2, 1) := by decide +kernel
theorem dX0_put_81 : decode cX0_put 81 = .ok (.invokevirtual 57, 3) := by decide +kernel
theorem dX0_put_84 : decode cX0_put 84 = .ok (.ireturn, 1) := by decide +kernel
theorem dX0_put_85 : decode cX0_put 85 = .ok (.aload_n 0, 1) := by decide +kernel
theorem dX0_put_86 : decode cX0_put 86 = .ok (.iload_n 1, 1) := by decide +kernel
theorem dX0_put_87 : decode cX0_put 87 = .ok (.iload_n 2, 1) := by decide +kernel
theorem dX0_put_88 : decode cX0_put 88 = .ok (.invokevirtual 86, 3) := by decide +kernel
theorem dX0_put_91 : decode cX0_put 91 = .ok (.ifCond .ne 9, 3) := by decide +kernel
theorem dX0_put_94 : decode cX0_put 94 = .ok (.aload_n 0, 1) := by decide +kernel
theorem dX0_put_95 : decode cX0_put 95 = .ok (.iconst 3, 1) := by decide +kernel
theorem dX0_put_96 : decode cX0_put 96 = .ok (.invokevirtual 57, 3) := by decide +kernel
theorem dX0_put_99 : decode cX0_put 99 = .ok (.ireturn, 1) := by decide +kernel
theorem dX0_put_100 : decode cX0_put 100 = .ok (.aload_n 0, 1) := by decide +kernel
theorem dX0_put_101 : decode cX0_put 101 = .ok (.iload_n 3, 1) := by decide +kernel
theorem dX0_put_102 : decode cX0_put 102 = .ok (.iload_n 1, 1) := by decide +kernel
theorem dX0_put_103 : decode cX0_put 103 = .ok (.invokevirtual 89, 3) := by decide +kernel
theorem dX0_put_106 : decode cX0_put 106 = .ok (.ifCond .ne 9, 3) := by decide +kernel
theorem dX0_put_109 : decode cX0_put 109 = .ok (.aload_n 0, 1) := by decide +kernel
theorem dX0_put_110 : decode cX0_put 110 = .ok (.iconst 4, 1) := by decide +kernel
theorem dX0_put_111 : decode cX0_put 111 = .ok (.invokevirtual 57, 3) := by decide +kernel
theorem dX0_put_114 : decode cX0_put 114 = .ok (.ireturn, 1) := by decide +kernel
theorem dX0_put_115 : decode cX0_put 115 = .ok (.aload_n 0, 1) := by decide +kernel
theorem dX0_put_116 : decode cX0_put 116 = .ok (.getfield 22, 3) := by decide +kernel
theorem dX0_put_119 : decode cX0_put 119 = .ok (.iload_n 1, 1) := by decide +kernel
theorem dX0_put_120 : decode cX0_put 120 = .ok (.iload_n 2, 1) := by decide +kernel
theorem dX0_put_121 : decode cX0_put 121 = .ok (.invokestatic 70, 3) := by decide +kernel
theorem dX0_put_124 : decode cX0_put 124 = .ok (.iload_n 3, 1) := by decide +kernel
theorem dX0_put_125 : decode cX0_put 125 = .ok (.i2l, 1) := by decide +kernel
theorem dX0_put_126 : decode cX0_put 126 = .ok (.lastore, 1) := by decide +kernel
theorem dX0_put_127 : decode cX0_put 127 = .ok (.iconst 1, 1) := by decide +kernel
theorem dX0_put_128 : decode cX0_put 128 = .ok (.ireturn, 1) := by decide +kernel
theorem dX0_get_0 : decode cX0_get 0 = .ok (.aload_n 0, 1) := by decide +kernel
theorem dX0_get_1 : decode cX0_get 1 = .ok (.iload_n 1, 1) := by decide +kernel
theorem dX0_get_2 : decode cX0_get 2 = .ok (.invokevirtual 73, 3) := by decide +kernel
theorem dX0_get_5 : decode cX0_get 5 = .ok (.ifCond .ne 6, 3) := by decide +kernel
theorem dX0_get_8 : decode cX0_get 8 = .ok (.bipush (-2), 2) := by decide +kernel
theorem dX0_get_10 : decode cX0_get 10 = .ok (.ireturn, 1) := by decide +kernel
theorem dX0_get_11 : decode cX0_get 11 = .ok (.iload_n 1, 1) := by decide +kernel
theorem dX0_get_12 : decode cX0_get 12 = .ok (.iconst (-1), 1) := by decide +kernel
theorem dX0_get_13 : decode cX0_get 13 = .ok (.if_icmp .ne 9, 3) := by decide +kernel
theorem dX0_get_16 : decode cX0_get 16 = .ok (.aload_n 0, 1) := by decide +kernel
theorem dX0_get_17 : decode cX0_get 17 = .ok (.iconst 1, 1) := by decide +kernel
theorem dX0_get_18 : decode cX0_get 18 = .ok (.invokevirtual 57, 3) := by decide +kernel
theorem dX0_get_21 : decode cX0_get 21 = .ok (.ireturn, 1) := by decide +kernel
theorem dX0_get_22 : decode cX0_get 22 = .ok (.aload_n 0, 1) := by decide +kernel
theorem dX0_get_23 : decode cX0_get 23 = .ok (.iload_n 1, 1) := by decide +kernel
theorem dX0_get_24 : decode cX0_get 24 = .ok (.invokevirtual 80, 3) := by decide +kernel
theorem dX0_get_27 : decode cX0_get 27 = .ok (.ifCond .ne 9, 3) := by decide +kernel
theorem dX0_get_30 : decode cX0_get 30 = .ok (.aload_n 0, 1) := by decide +kernel
theorem dX0_get_31 : decode cX0_get 31 = .ok (.iconst 2, 1) := by decide +kernel
theorem dX0_get_32 : decode cX0_get 32 = .ok (.invokevirtual 57, 3) := by decide +kernel
theorem dX0_get_35 : decode cX0_get 35 = .ok (.ireturn, 1) := by decide +kernel
theorem dX0_get_36 : decode cX0_get 36 = .ok (.aload_n 0, 1) := by decide +kernel
theorem dX0_get_37 : decode cX0_get 37 = .ok (.iload_n 1, 1) := by decide +kernel
theorem dX0_get_38 : decode cX0_get 38 = .ok (.iload_n 2, 1) := by decide +kernel
theorem dX0_get_39 : decode cX0_get 39 = .ok (.invokevirtual 86, 3) := by decide +kernel
theorem dX0_get_42 : decode cX0_get 42 = .ok (.ifCond .ne 9, 3) := by decide +kernel
theorem dX0_get_45 : decode cX0_get 45 = .ok (.aload_n 0, 1) := by decide +kernel
theorem dX0_get_46 : decode cX0_get 46 = .ok (.iconst 3, 1) := by decide +kernel
theorem dX0_get_47 : decode cX0_get 47 = .ok (.invokevirtual 57, 3) := by decide +kernel
theorem dX0_get_50 : decode cX0_get 50 = .ok (.ireturn, 1) := by decide +kernel
theorem dX0_get_51 : decode cX0_get 51 = .ok (.aload_n 0, 1) := by decide +kernel
theorem dX0_get_52 : decode cX0_get 52 = .ok (.iload_n 1, 1) := by decide +kernel
theorem dX0_get_53 : decode cX0_get 53 = .ok (.iload_n 2, 1) := by decide +kernel
theorem dX0_get_54 : decode cX0_get 54 = .ok (.invokevirtual 92, 3) := by decide +kernel
theorem dX0_get_57 : decode cX0_get 57 = .ok (.ireturn, 1) := by decide +kernel
theorem dX0_set_0 : decode cX0_set 0 = .ok (.aload_n 0, 1) := by decide +kernel
theorem dX0_set_1 : decode cX0_set 1 = .ok (.iload_n 1, 1) := by decide +kernel
theorem dX0_set_2 : decode cX0_set 2 = .ok (.invokevirtual 73, 3) := by decide +kernel
theorem dX0_set_5 : decode cX0_set 5 = .ok (.ifCond .ne 6, 3) := by decide +kernel
theorem dX0_set_8 : decode cX0_set 8 = .ok (.bipush (-2), 2) := by decide +kernel
theorem dX0_set_10 : decode cX0_set 10 = .ok (.ireturn, 1) := by decide +kernel
theorem dX0_set_11 : decode cX0_set 11 = .ok (.aload_n 0, 1) := by decide +kernel
theorem dX0_set_12 : decode cX0_set 12 = .ok (.iload_n 1, 1) := by decide +kernel
theorem dX0_set_13 : decode cX0_set 13 = .ok (.iload_n 2, 1) := by decide +kernel
theorem dX0_set_14 : decode cX0_set 14 = .ok (.invokevirtual 95, 3) := by decide +kernel
theorem dX0_set_17 : decode cX0_set 17 = .ok (.istore 5, 2) := by decide +kernel
theorem dX0_set_19 : decode cX0_set 19 = .ok (.iload 5, 2) := by decide +kernel
theorem dX0_set_21 : decode cX0_set 21 = .ok (.ifCond .eq 10, 3) := by decide +kernel
theorem dX0_set_24 : decode cX0_set 24 = .ok (.aload_n 0, 1) := by decide +kernel
theorem dX0_set_25 : decode cX0_set 25 = .ok (.iload 5, 2) := by decide +kernel
theorem dX0_set_27 : decode cX0_set 27 = .ok (.invokevirtual 57, 3) := by decide +kernel
theorem dX0_set_30 : decode cX0_set 30 = .ok (.ireturn, 1) := by decide +kernel
theorem dX0_set_31 : decode cX0_set 31 = .ok (.aload_n 0, 1) := by decide +kernel
theorem dX0_set_32 : decode cX0_set 32 = .ok (.getfield 22, 3) := by decide +kernel
theorem dX0_set_35 : decode cX0_set 35 = .ok (.iload_n 1, 1) := by decide +kernel
theorem dX0_set_36 : decode cX0_set 36 = .ok (.iload_n 2, 1) := by decide +kernel
theorem dX0_set_37 : decode cX0_set 37 = .ok (.invokestatic 70, 3) := by decide +kernel
theorem dX0_set_40 : decode cX0_set 40 = .ok (.aload_n 0, 1) := by decide +kernel
theorem dX0_set_41 : decode cX0_set 41 = .ok (.getfield 9, 3) := by decide +kernel
theorem dX0_set_44 : decode cX0_set 44 = .ok (.iload_n 1, 1) := by decide +kernel
theorem dX0_set_45 : decode cX0_set 45 = .ok (.iaload, 1) := by decide +kernel
theorem dX0_set_46 : decode cX0_set 46 = .ok (.iconst 5, 1) := by decide +kernel
theorem dX0_set_47 : decode cX0_set 47 = .ok (.if_icmp .ne 9, 3) := by decide +kernel
theorem dX0_set_50 : decode cX0_set 50 = .ok (.lload_n 3, 1) := by decide +kernel
theorem dX0_set_51 : decode cX0_set 51 = .ok (.l2i, 1) := by decide +kernel
theorem dX0_set_52 : decode cX0_set 52 = .ok (.i2l, 1) := by decide +kernel
theorem dX0_set_53 : decode cX0_set 53 = .ok (.goto 4, 3) := by decide +kernel
theorem dX0_set_56 : decode cX0_set 56 = .ok (.lload_n 3, 1) := by decide +kernel
theorem dX0_set_57 : decode cX0_set 57 = .ok (.lastore, 1) := by decide +kernel
theorem dX0_set_58 : decode cX0_set 58 = .ok (.iconst 1, 1) := by decide +kernel
theorem dX0_set_59 : decode cX0_set 59 = .ok (.ireturn, 1) := by decide +kernel
theorem dX0_number_0 : decode cX0_number 0 = .ok (.aload_n 0, 1) := by decide +kernel
theorem dX0_number_1 : decode cX0_number 1 = .ok (.iload_n 1, 1) := by decide +kernel
theorem dX0_number_2 : decode cX0_number 2 = .ok (.invokevirtual 73, 3) := by decide +kernel
theorem dX0_number_5 : decode cX0_number 5 = .ok (.ifCond .eq 12, 3) := by decide +kernel
theorem dX0_number_8 : decode cX0_number 8 = .ok (.aload_n 0, 1) := by decide +kernel
theorem dX0_number_9 : decode cX0_number 9 = .ok (.iload_n 1, 1) := by decide +kernel
theorem dX0_number_10 : decode cX0_number 10 = .ok (.iload_n 2, 1) := by decide +kernel
theorem dX0_number_11 : decode cX0_number 11 = .ok (.invokevirtual 95, 3) := by decide +kernel
theorem dX0_number_14 : decode cX0_number 14 = .ok (.ifCond .eq 5, 3) := by decide +kernel
theorem dX0_number_17 : decode cX0_number 17 = .ok (.lconst 0, 1) := by decide +kernel
theorem dX0_number_18 : decode cX0_number 18 = .ok (.lreturn, 1) := by decide +kernel
theorem dX0_number_19 : decode cX0_number 19 = .ok (.aload_n 0, 1) := by decide +kernel
theorem dX0_number_20 : decode cX0_number 20 = .ok (.getfield 22, 3) := by decide +kernel
theorem dX0_number_23 : decode cX0_number 23 = .ok (.iload_n 1, 1) := by decide +kernel
theorem dX0_number_24 : decode cX0_number 24 = .ok (.iload_n 2, 1) := by decide +kernel
theorem dX0_number_25 : decode cX0_number 25 = .ok (.invokestatic 70, 3) := by decide +kernel
theorem dX0_number_28 : decode cX0_number 28 = .ok (.laload, 1) := by decide +kernel
theorem dX0_number_29 : decode cX0_number 29 = .ok (.lreturn, 1) := by decide +kernel
theorem dX0_is_0 : decode cX0_is 0 = .ok (.aload_n 0, 1) := by decide +kernel
theorem dX0_is_1 : decode cX0_is 1 = .ok (.iload_n 1, 1) := by decide +kernel
theorem dX0_is_2 : decode cX0_is 2 = .ok (.invokevirtual 73, 3) := by decide +kernel
theorem dX0_is_5 : decode cX0_is 5 = .ok (.ifCond .eq 11, 3) := by decide +kernel
theorem dX0_is_8 : decode cX0_is 8 = .ok (.iload_n 2, 1) := by decide +kernel
theorem dX0_is_9 : decode cX0_is 9 = .ok (.iload_n 3, 1) := by decide +kernel
theorem dX0_is_10 : decode cX0_is 10 = .ok (.invokestatic 53, 3) := by decide +kernel
theorem dX0_is_13 : decode cX0_is 13 = .ok (.ifCond .ne 6, 3) := by decide +kernel
theorem dX0_is_16 : decode cX0_is 16 = .ok (.bipush (-2), 2) := by decide +kernel
theorem dX0_is_18 : decode cX0_is 18 = .ok (.ireturn, 1) := by decide +kernel
theorem dX0_is_19 : decode cX0_is 19 = .ok (.aload_n 0, 1) := by decide +kernel
theorem dX0_is_20 : decode cX0_is 20 = .ok (.iload_n 1, 1) := by decide +kernel
theorem dX0_is_21 : decode cX0_is 21 = .ok (.iload_n 2, 1) := by decide +kernel
theorem dX0_is_22 : decode cX0_is 22 = .ok (.iload_n 3, 1) := by decide +kernel
theorem dX0_is_23 : decode cX0_is 23 = .ok (.invokevirtual 98, 3) := by decide +kernel
theorem dX0_is_26 : decode cX0_is 26 = .ok (.ifCond .eq 7, 3) := by decide +kernel
theorem dX0_is_29 : decode cX0_is 29 = .ok (.iconst 1, 1) := by decide +kernel
theorem dX0_is_30 : decode cX0_is 30 = .ok (.goto 4, 3) := by decide +kernel
theorem dX0_is_33 : decode cX0_is 33 = .ok (.iconst 0, 1) := by decide +kernel
theorem dX0_is_34 : decode cX0_is 34 = .ok (.ireturn, 1) := by decide +kernel
theorem dX0_door_0 : decode cX0_door 0 = .ok (.iload_n 1, 1) := by decide +kernel
theorem dX0_door_1 : decode cX0_door 1 = .ok (.invokestatic 101, 3) := by decide +kernel
theorem dX0_door_4 : decode cX0_door 4 = .ok (.ifCond .eq 11, 3) := by decide +kernel
theorem dX0_door_7 : decode cX0_door 7 = .ok (.iload_n 2, 1) := by decide +kernel
theorem dX0_door_8 : decode cX0_door 8 = .ok (.iload_n 3, 1) := by decide +kernel
theorem dX0_door_9 : decode cX0_door 9 = .ok (.invokestatic 53, 3) := by decide +kernel
theorem dX0_door_12 : decode cX0_door 12 = .ok (.ifCond .ne 6, 3) := by decide +kernel
theorem dX0_door_15 : decode cX0_door 15 = .ok (.bipush (-2), 2) := by decide +kernel
theorem dX0_door_17 : decode cX0_door 17 = .ok (.ireturn, 1) := by decide +kernel
theorem dX0_door_18 : decode cX0_door 18 = .ok (.aload_n 0, 1) := by decide +kernel
theorem dX0_door_19 : decode cX0_door 19 = .ok (.getfield 26, 3) := by decide +kernel
theorem dX0_door_22 : decode cX0_door 22 = .ok (.iload_n 1, 1) := by decide +kernel
theorem dX0_door_23 : decode cX0_door 23 = .ok (.iload_n 2, 1) := by decide +kernel
theorem dX0_door_24 : decode cX0_door 24 = .ok (.iastore, 1) := by decide +kernel
theorem dX0_door_25 : decode cX0_door 25 = .ok (.aload_n 0, 1) := by decide +kernel
theorem dX0_door_26 : decode cX0_door 26 = .ok (.getfield 29, 3) := by decide +kernel
theorem dX0_door_29 : decode cX0_door 29 = .ok (.iload_n 1, 1) := by decide +kernel
theorem dX0_door_30 : decode cX0_door 30 = .ok (.iload_n 3, 1) := by decide +kernel
theorem dX0_door_31 : decode cX0_door 31 = .ok (.iastore, 1) := by decide +kernel
theorem dX0_door_32 : decode cX0_door 32 = .ok (.iconst 1, 1) := by decide +kernel
theorem dX0_door_33 : decode cX0_door 33 = .ok (.ireturn, 1) := by decide +kernel
theorem dX0_through_0 : decode cX0_through 0 = .ok (.aload_n 0, 1) := by decide +kernel
theorem dX0_through_1 : decode cX0_through 1 = .ok (.iload_n 1, 1) := by decide +kernel
theorem dX0_through_2 : decode cX0_through 2 = .ok (.invokevirtual 73, 3) := by decide +kernel
theorem dX0_through_5 : decode cX0_through 5 = .ok (.ifCond .eq 22, 3) := by decide +kernel
theorem dX0_through_8 : decode cX0_through 8 = .ok (.iload_n 2, 1) := by decide +kernel
theorem dX0_through_9 : decode cX0_through 9 = .ok (.invokestatic 101, 3) := by decide +kernel
theorem dX0_through_12 : decode cX0_through 12 = .ok (.ifCond .eq 15, 3) := by decide +kernel
theorem dX0_through_15 : decode cX0_through 15 = .ok (.iload_n 3, 1) := by decide +kernel
theorem dX0_through_16 : decode cX0_through 16 = .ok (.ifCond .lt 11, 3) := by decide +kernel
theorem dX0_through_19 : decode cX0_through 19 = .ok (.iload_n 3, 1) := by decide +kernel
theorem dX0_through_20 : decode cX0_through 20 = .ok (.bipush 8, 2) := by decide +kernel
theorem dX0_through_22 : decode cX0_through 22 = .ok (.iload_n 2, 1) := by decide +kernel
theorem dX0_through_23 : decode cX0_through 23 = .ok (.isub, 1) := by decide +kernel
theorem dX0_through_24 : decode cX0_through 24 = .ok (.if_icmp .le 6, 3) := by decide +kernel
theorem dX0_through_27 : decode cX0_through 27 = .ok (.bipush (-2), 2) := by decide +kernel
theorem dX0_through_29 : decode cX0_through 29 = .ok (.ireturn, 1) := by decide +kernel
theorem dX0_through_30 : decode cX0_through 30 = .ok (.aload_n 0, 1) := by decide +kernel
theorem dX0_through_31 : decode cX0_through 31 = .ok (.aload_n 0, 1) := by decide +kernel
theorem dX0_through_32 : decode cX0_through 32 = .ok (.iload_n 1, 1) := by decide +kernel
theorem dX0_through_33 : decode cX0_through 33 = .ok (.iload_n 2, 1) := by decide +kernel
theorem dX0_through_34 : decode cX0_through 34 = .ok (.iload_n 3, 1) := by decide +kernel
theorem dX0_through_35 : decode cX0_through 35 = .ok (.invokevirtual 104, 3) := by decide +kernel
theorem dX0_through_38 : decode cX0_through 38 = .ok (.putfield 42, 3) := by decide +kernel
theorem dX0_through_41 : decode cX0_through 41 = .ok (.aload_n 0, 1) := by decide +kernel
theorem dX0_through_42 : decode cX0_through 42 = .ok (.getfield 42, 3) := by decide +kernel
theorem dX0_through_45 : decode cX0_through 45 = .ok (.iconst (-1), 1) := by decide +kernel
theorem dX0_through_46 : decode cX0_through 46 = .ok (.if_icmp .ne 7, 3) := by decide +kernel
theorem dX0_through_49 : decode cX0_through 49 = .ok (.iconst 1, 1) := by decide +kernel
theorem dX0_through_50 : decode cX0_through 50 = .ok (.goto 8, 3) := by decide +kernel
theorem dX0_through_53 : decode cX0_through 53 = .ok (.aload_n 0, 1) := by decide +kernel
theorem dX0_through_54 : decode cX0_through 54 = .ok (.iconst 2, 1) := by decide +kernel
theorem dX0_through_55 : decode cX0_through 55 = .ok (.invokevirtual 57, 3) := by decide +kernel
theorem dX0_through_58 : decode cX0_through 58 = .ok (.ireturn, 1) := by decide +kernel
theorem dX0_lastDoor_0 : decode cX0_lastDoor 0 = .ok (.aload_n 0, 1) := by decide +kernel
theorem dX0_lastDoor_1 : decode cX0_lastDoor 1 = .ok (.getfield 42, 3) := by decide +kernel
theorem dX0_lastDoor_4 : decode cX0_lastDoor 4 = .ok (.ireturn, 1) := by decide +kernel
theorem dX0_worth_0 : decode cX0_worth 0 = .ok (.aload_n 0, 1) := by decide +kernel
theorem dX0_worth_1 : decode cX0_worth 1 = .ok (.iload_n 1, 1) := by decide +kernel
theorem dX0_worth_2 : decode cX0_worth 2 = .ok (.iconst 3, 1) := by decide +kernel
theorem dX0_worth_3 : decode cX0_worth 3 = .ok (.invokevirtual 107, 3) := by decide +kernel
theorem dX0_worth_6 : decode cX0_worth 6 = .ok (.lreturn, 1) := by decide +kernel
theorem dX0_copy_0 : decode cX0_copy 0 = .ok (.aload_n 0, 1) := by decide +kernel
theorem dX0_copy_1 : decode cX0_copy 1 = .ok (.iload_n 1, 1) := by decide +kernel
theorem dX0_copy_2 : decode cX0_copy 2 = .ok (.invokevirtual 73, 3) := by decide +kernel
theorem dX0_copy_5 : decode cX0_copy 5 = .ok (.ifCond .ne 6, 3) := by decide +kernel
theorem dX0_copy_8 : decode cX0_copy 8 = .ok (.bipush (-2), 2) := by decide +kernel
theorem dX0_copy_10 : decode cX0_copy 10 = .ok (.ireturn, 1) := by decide +kernel
theorem dX0_copy_11 : decode cX0_copy 11 = .ok (.aload_n 0, 1) := by decide +kernel
theorem dX0_copy_12 : decode cX0_copy 12 = .ok (.iconst 1, 1) := by decide +kernel
theorem dX0_copy_13 : decode cX0_copy 13 = .ok (.invokevirtual 45, 3) := by decide +kernel
theorem dX0_copy_16 : decode cX0_copy 16 = .ok (.ifCond .ne 6, 3) := by decide +kernel
theorem dX0_copy_19 : decode cX0_copy 19 = .ok (.bipush (-3), 2) := by decide +kernel
theorem dX0_copy_21 : decode cX0_copy 21 = .ok (.ireturn, 1) := by decide +kernel
theorem dX0_copy_22 : decode cX0_copy 22 = .ok (.iload_n 1, 1) := by decide +kernel
theorem dX0_copy_23 : decode cX0_copy 23 = .ok (.iconst (-1), 1) := by decide +kernel
theorem dX0_copy_24 : decode cX0_copy 24 = .ok (.if_icmp .ne 9, 3) := by decide +kernel
theorem dX0_copy_27 : decode cX0_copy 27 = .ok (.aload_n 0, 1) := by decide +kernel
theorem dX0_copy_28 : decode cX0_copy 28 = .ok (.iconst 1, 1) := by decide +kernel
theorem dX0_copy_29 : decode cX0_copy 29 = .ok (.invokevirtual 57, 3) := by decide +kernel
theorem dX0_copy_32 : decode cX0_copy 32 = .ok (.ireturn, 1) := by decide +kernel
theorem dX0_copy_33 : decode cX0_copy 33 = .ok (.aload_n 0, 1) := by decide +kernel
theorem dX0_copy_34 : decode cX0_copy 34 = .ok (.iload_n 1, 1) := by decide +kernel
theorem dX0_copy_35 : decode cX0_copy 35 = .ok (.invokevirtual 111, 3) := by decide +kernel
theorem dX0_copy_38 : decode cX0_copy 38 = .ok (.ifCond .eq 9, 3) := by decide +kernel
theorem dX0_copy_41 : decode cX0_copy 41 = .ok (.aload_n 0, 1) := by decide +kernel
theorem dX0_copy_42 : decode cX0_copy 42 = .ok (.iconst 2, 1) := by decide +kernel
theorem dX0_copy_43 : decode cX0_copy 43 = .ok (.invokevirtual 57, 3) := by decide +kernel
theorem dX0_copy_46 : decode cX0_copy 46 = .ok (.ireturn, 1) := by decide +kernel
theorem dX0_copy_47 : decode cX0_copy 47 = .ok (.aload_n 0, 1) := by decide +kernel
theorem dX0_copy_48 : decode cX0_copy 48 = .ok (.aload_n 0, 1) := by decide +kernel
theorem dX0_copy_49 : decode cX0_copy 49 = .ok (.getfield 9, 3) := by decide +kernel
theorem dX0_copy_52 : decode cX0_copy 52 = .ok (.iload_n 1, 1) := by decide +kernel
theorem dX0_copy_53 : decode cX0_copy 53 = .ok (.iaload, 1) := by decide +kernel
theorem dX0_copy_54 : decode cX0_copy 54 = .ok (.aload_n 0, 1) := by decide +kernel
theorem dX0_copy_55 : decode cX0_copy 55 = .ok (.getfield 13, 3) := by decide +kernel
theorem dX0_copy_58 : decode cX0_copy 58 = .ok (.iload_n 1, 1) := by decide +kernel
theorem dX0_copy_59 : decode cX0_copy 59 = .ok (.iaload, 1) := by decide +kernel
theorem dX0_copy_60 : decode cX0_copy 60 = .ok (.aload_n 0, 1) := by decide +kernel
theorem dX0_copy_61 : decode cX0_copy 61 = .ok (.getfield 16, 3) := by decide +kernel
theorem dX0_copy_64 : decode cX0_copy 64 = .ok (.iload_n 1, 1) := by decide +kernel
theorem dX0_copy_65 : decode cX0_copy 65 = .ok (.iaload, 1) := by decide +kernel
theorem dX0_copy_66 : decode cX0_copy 66 = .ok (.invokevirtual 49, 3) := by decide +kernel
theorem dX0_copy_69 : decode cX0_copy 69 = .ok (.istore_n 2, 1) := by decide +kernel
theorem dX0_copy_70 : decode cX0_copy 70 = .ok (.aload_n 0, 1) := by decide +kernel
theorem dX0_copy_71 : decode cX0_copy 71 = .ok (.iload_n 1, 1) := by decide +kernel
theorem dX0_copy_72 : decode cX0_copy 72 = .ok (.iconst 0, 1) := by decide +kernel
theorem dX0_copy_73 : decode cX0_copy 73 = .ok (.iload_n 2, 1) := by decide +kernel
theorem dX0_copy_74 : decode cX0_copy 74 = .ok (.iconst 0, 1) := by decide +kernel
theorem dX0_copy_75 : decode cX0_copy 75 = .ok (.aload_n 0, 1) := by decide +kernel
theorem dX0_copy_76 : decode cX0_copy 76 = .ok (.getfield 16, 3) := by decide +kernel
theorem dX0_copy_79 : decode cX0_copy 79 = .ok (.iload_n 1, 1) := by decide +kernel
theorem dX0_copy_80 : decode cX0_copy 80 = .ok (.iaload, 1) := by decide +kernel
theorem dX0_copy_81 : decode cX0_copy 81 = .ok (.invokevirtual 114, 3) := by decide +kernel
theorem dX0_copy_84 : decode cX0_copy 84 = .ok (.iload_n 2, 1) := by decide +kernel
theorem dX0_copy_85 : decode cX0_copy 85 = .ok (.ireturn, 1) := by decide +kernel
theorem dX0_carry_0 : decode cX0_carry 0 = .ok (.aload_n 0, 1) := by decide +kernel
theorem dX0_carry_1 : decode cX0_carry 1 = .ok (.iload_n 1, 1) := by decide +kernel
theorem dX0_carry_2 : decode cX0_carry 2 = .ok (.invokevirtual 73, 3) := by decide +kernel
theorem dX0_carry_5 : decode cX0_carry 5 = .ok (.ifCond .eq 11, 3) := by decide +kernel
theorem dX0_carry_8 : decode cX0_carry 8 = .ok (.aload_n 0, 1) := by decide +kernel
theorem dX0_carry_9 : decode cX0_carry 9 = .ok (.iload_n 3, 1) := by decide +kernel
theorem dX0_carry_10 : decode cX0_carry 10 = .ok (.invokevirtual 73, 3) := by decide +kernel
theorem dX0_carry_13 : decode cX0_carry 13 = .ok (.ifCond .ne 6, 3) := by decide +kernel
theorem dX0_carry_16 : decode cX0_carry 16 = .ok (.bipush (-2), 2) := by decide +kernel
theorem dX0_carry_18 : decode cX0_carry 18 = .ok (.ireturn, 1) := by decide +kernel
theorem dX0_carry_19 : decode cX0_carry 19 = .ok (.iload_n 1, 1) := by decide +kernel
theorem dX0_carry_20 : decode cX0_carry 20 = .ok (.iconst (-1), 1) := by decide +kernel
theorem dX0_carry_21 : decode cX0_carry 21 = .ok (.if_icmp .eq 8, 3) := by decide +kernel
theorem dX0_carry_24 : decode cX0_carry 24 = .ok (.iload_n 3, 1) := by decide +kernel
theorem dX0_carry_25 : decode cX0_carry 25 = .ok (.iconst (-1), 1) := by decide +kernel
theorem dX0_carry_26 : decode cX0_carry 26 = .ok (.if_icmp .ne 9, 3) := by decide +kernel
theorem dX0_carry_29 : decode cX0_carry 29 = .ok (.aload_n 0, 1) := by decide +kernel
theorem dX0_carry_30 : decode cX0_carry 30 = .ok (.iconst 1, 1) := by decide +kernel
theorem dX0_carry_31 : decode cX0_carry 31 = .ok (.invokevirtual 57, 3) := by decide +kernel
theorem dX0_carry_34 : decode cX0_carry 34 = .ok (.ireturn, 1) := by decide +kernel
theorem dX0_carry_35 : decode cX0_carry 35 = .ok (.aload_n 0, 1) := by decide +kernel
theorem dX0_carry_36 : decode cX0_carry 36 = .ok (.iload_n 1, 1) := by decide +kernel
theorem dX0_carry_37 : decode cX0_carry 37 = .ok (.iload_n 3, 1) := by decide +kernel
theorem dX0_carry_38 : decode cX0_carry 38 = .ok (.invokevirtual 118, 3) := by decide +kernel
theorem dX0_carry_41 : decode cX0_carry 41 = .ok (.ifCond .ne 9, 3) := by decide +kernel
theorem dX0_carry_44 : decode cX0_carry 44 = .ok (.aload_n 0, 1) := by decide +kernel
theorem dX0_carry_45 : decode cX0_carry 45 = .ok (.iconst 4, 1) := by decide +kernel
theorem dX0_carry_46 : decode cX0_carry 46 = .ok (.invokevirtual 57, 3) := by decide +kernel
theorem dX0_carry_49 : decode cX0_carry 49 = .ok (.ireturn, 1) := by decide +kernel
theorem dX0_carry_50 : decode cX0_carry 50 = .ok (.aload_n 0, 1) := by decide +kernel
theorem dX0_carry_51 : decode cX0_carry 51 = .ok (.iload_n 1, 1) := by decide +kernel
theorem dX0_carry_52 : decode cX0_carry 52 = .ok (.iload_n 2, 1) := by decide +kernel
theorem dX0_carry_53 : decode cX0_carry 53 = .ok (.iload 5, 2) := by decide +kernel
theorem dX0_carry_55 : decode cX0_carry 55 = .ok (.invokevirtual 121, 3) := by decide +kernel
theorem dX0_carry_58 : decode cX0_carry 58 = .ok (.ifCond .eq 15, 3) := by decide +kernel
theorem dX0_carry_61 : decode cX0_carry 61 = .ok (.aload_n 0, 1) := by decide +kernel
theorem dX0_carry_62 : decode cX0_carry 62 = .ok (.iload_n 3, 1) := by decide +kernel
theorem dX0_carry_63 : decode cX0_carry 63 = .ok (.iload 4, 2) := by decide +kernel
theorem dX0_carry_65 : decode cX0_carry 65 = .ok (.iload 5, 2) := by decide +kernel
theorem dX0_carry_67 : decode cX0_carry 67 = .ok (.invokevirtual 121, 3) := by decide +kernel
theorem dX0_carry_70 : decode cX0_carry 70 = .ok (.ifCond .ne 9, 3) := by decide +kernel
theorem dX0_carry_73 : decode cX0_carry 73 = .ok (.aload_n 0, 1) := by decide +kernel
theorem dX0_carry_74 : decode cX0_carry 74 = .ok (.iconst 3, 1) := by decide +kernel
theorem dX0_carry_75 : decode cX0_carry 75 = .ok (.invokevirtual 57, 3) := by decide +kernel
theorem dX0_carry_78 : decode cX0_carry 78 = .ok (.ireturn, 1) := by decide +kernel
theorem dX0_carry_79 : decode cX0_carry 79 = .ok (.aload_n 0, 1) := by decide +kernel
theorem dX0_carry_80 : decode cX0_carry 80 = .ok (.iload_n 3, 1) := by decide +kernel
theorem dX0_carry_81 : decode cX0_carry 81 = .ok (.invokevirtual 124, 3) := by decide +kernel
theorem dX0_carry_84 : decode cX0_carry 84 = .ok (.ifCond .eq 8, 3) := by decide +kernel
theorem dX0_carry_87 : decode cX0_carry 87 = .ok (.iload 5, 2) := by decide +kernel
theorem dX0_carry_89 : decode cX0_carry 89 = .ok (.goto 12, 3) := by decide +kernel
theorem dX0_carry_92 : decode cX0_carry 92 = .ok (.aload_n 0, 1) := by decide +kernel
theorem dX0_carry_93 : decode cX0_carry 93 = .ok (.iload_n 1, 1) := by decide +kernel
theorem dX0_carry_94 : decode cX0_carry 94 = .ok (.iload_n 2, 1) := by decide +kernel
theorem dX0_carry_95 : decode cX0_carry 95 = .ok (.iload_n 3, 1) := by decide +kernel
theorem dX0_carry_96 : decode cX0_carry 96 = .ok (.iload 5, 2) := by decide +kernel
theorem dX0_carry_98 : decode cX0_carry 98 = .ok (.invokevirtual 127, 3) := by decide +kernel
theorem dX0_carry_101 : decode cX0_carry 101 = .ok (.istore 6, 2) := by decide +kernel
theorem dX0_carry_103 : decode cX0_carry 103 = .ok (.aload_n 0, 1) := by decide +kernel
theorem dX0_carry_104 : decode cX0_carry 104 = .ok (.iload_n 1, 1) := by decide +kernel
theorem dX0_carry_105 : decode cX0_carry 105 = .ok (.iload_n 2, 1) := by decide +kernel
theorem dX0_carry_106 : decode cX0_carry 106 = .ok (.iload_n 3, 1) := by decide +kernel
theorem dX0_carry_107 : decode cX0_carry 107 = .ok (.iload 4, 2) := by decide +kernel
theorem dX0_carry_109 : decode cX0_carry 109 = .ok (.iload 6, 2) := by decide +kernel
theorem dX0_carry_111 : decode cX0_carry 111 = .ok (.invokevirtual 114, 3) := by decide +kernel
theorem dX0_carry_114 : decode cX0_carry 114 = .ok (.iload 6, 2) := by decide +kernel
theorem dX0_carry_116 : decode cX0_carry 116 = .ok (.iload 5, 2) := by decide +kernel
theorem dX0_carry_118 : decode cX0_carry 118 = .ok (.if_icmp .ne 7, 3) := by decide +kernel
theorem dX0_carry_121 : decode cX0_carry 121 = .ok (.iconst 1, 1) := by decide +kernel
theorem dX0_carry_122 : decode cX0_carry 122 = .ok (.goto 8, 3) := by decide +kernel
theorem dX0_carry_125 : decode cX0_carry 125 = .ok (.aload_n 0, 1) := by decide +kernel
theorem dX0_carry_126 : decode cX0_carry 126 = .ok (.iconst 4, 1) := by decide +kernel
theorem dX0_carry_127 : decode cX0_carry 127 = .ok (.invokevirtual 57, 3) := by decide +kernel
theorem dX0_carry_130 : decode cX0_carry 130 = .ok (.ireturn, 1) := by decide +kernel
theorem dX0_frail_0 : decode cX0_frail 0 = .ok (.aload_n 0, 1) := by decide +kernel
theorem dX0_frail_1 : decode cX0_frail 1 = .ok (.iload_n 1, 1) := by decide +kernel
theorem dX0_frail_2 : decode cX0_frail 2 = .ok (.invokevirtual 73, 3) := by decide +kernel
theorem dX0_frail_5 : decode cX0_frail 5 = .ok (.ifCond .ne 6, 3) := by decide +kernel
theorem dX0_frail_8 : decode cX0_frail 8 = .ok (.bipush (-2), 2) := by decide +kernel
theorem dX0_frail_10 : decode cX0_frail 10 = .ok (.ireturn, 1) := by decide +kernel
theorem dX0_frail_11 : decode cX0_frail 11 = .ok (.iload_n 1, 1) := by decide +kernel
theorem dX0_frail_12 : decode cX0_frail 12 = .ok (.iconst (-1), 1) := by decide +kernel
theorem dX0_frail_13 : decode cX0_frail 13 = .ok (.if_icmp .ne 9, 3) := by decide +kernel
theorem dX0_frail_16 : decode cX0_frail 16 = .ok (.aload_n 0, 1) := by decide +kernel
theorem dX0_frail_17 : decode cX0_frail 17 = .ok (.iconst 1, 1) := by decide +kernel
theorem dX0_frail_18 : decode cX0_frail 18 = .ok (.invokevirtual 57, 3) := by decide +kernel
theorem dX0_frail_21 : decode cX0_frail 21 = .ok (.ireturn, 1) := by decide +kernel
theorem dX0_frail_22 : decode cX0_frail 22 = .ok (.aload_n 0, 1) := by decide +kernel
theorem dX0_frail_23 : decode cX0_frail 23 = .ok (.getfield 9, 3) := by decide +kernel
theorem dX0_frail_26 : decode cX0_frail 26 = .ok (.iload_n 1, 1) := by decide +kernel
theorem dX0_frail_27 : decode cX0_frail 27 = .ok (.iaload, 1) := by decide +kernel
theorem dX0_frail_28 : decode cX0_frail 28 = .ok (.invokestatic 131, 3) := by decide +kernel
theorem dX0_frail_31 : decode cX0_frail 31 = .ok (.ifCond .eq 9, 3) := by decide +kernel
theorem dX0_frail_34 : decode cX0_frail 34 = .ok (.aload_n 0, 1) := by decide +kernel
theorem dX0_frail_35 : decode cX0_frail 35 = .ok (.iconst 2, 1) := by decide +kernel
theorem dX0_frail_36 : decode cX0_frail 36 = .ok (.invokevirtual 57, 3) := by decide +kernel
theorem dX0_frail_39 : decode cX0_frail 39 = .ok (.ireturn, 1) := by decide +kernel
theorem dX0_frail_40 : decode cX0_frail 40 = .ok (.aload_n 0, 1) := by decide +kernel
theorem dX0_frail_41 : decode cX0_frail 41 = .ok (.iload_n 1, 1) := by decide +kernel
theorem dX0_frail_42 : decode cX0_frail 42 = .ok (.iconst 3, 1) := by decide +kernel
theorem dX0_frail_43 : decode cX0_frail 43 = .ok (.invokevirtual 134, 3) := by decide +kernel
theorem dX0_frail_46 : decode cX0_frail 46 = .ok (.ireturn, 1) := by decide +kernel
theorem dX0_about_0 : decode cX0_about 0 = .ok (.aload_n 0, 1) := by decide +kernel
theorem dX0_about_1 : decode cX0_about 1 = .ok (.iload_n 1, 1) := by decide +kernel
theorem dX0_about_2 : decode cX0_about 2 = .ok (.invokevirtual 137, 3) := by decide +kernel
theorem dX0_about_5 : decode cX0_about 5 = .ok (.ifCond .ne 6, 3) := by decide +kernel
theorem dX0_about_8 : decode cX0_about 8 = .ok (.bipush (-2), 2) := by decide +kernel
theorem dX0_about_10 : decode cX0_about 10 = .ok (.ireturn, 1) := by decide +kernel
theorem dX0_about_11 : decode cX0_about 11 = .ok (.iload_n 2, 1) := by decide +kernel
theorem dX0_about_12 : decode cX0_about 12 = .ok (.tableswitch 61 0 2 #[28, 35, 42], 28) := by decide +kernel
theorem dX0_about_40 : decode cX0_about 40 = .ok (.aload_n 0, 1) := by decide +kernel
theorem dX0_about_41 : decode cX0_about 41 = .ok (.getfield 9, 3) := by decide +kernel
theorem dX0_about_44 : decode cX0_about 44 = .ok (.iload_n 1, 1) := by decide +kernel
theorem dX0_about_45 : decode cX0_about 45 = .ok (.iaload, 1) := by decide +kernel
theorem dX0_about_46 : decode cX0_about 46 = .ok (.ireturn, 1) := by decide +kernel
theorem dX0_about_47 : decode cX0_about 47 = .ok (.aload_n 0, 1) := by decide +kernel
theorem dX0_about_48 : decode cX0_about 48 = .ok (.getfield 13, 3) := by decide +kernel
theorem dX0_about_51 : decode cX0_about 51 = .ok (.iload_n 1, 1) := by decide +kernel
theorem dX0_about_52 : decode cX0_about 52 = .ok (.iaload, 1) := by decide +kernel
theorem dX0_about_53 : decode cX0_about 53 = .ok (.ireturn, 1) := by decide +kernel
theorem dX0_about_54 : decode cX0_about 54 = .ok (.aload_n 0, 1) := by decide +kernel
theorem dX0_about_55 : decode cX0_about 55 = .ok (.iload_n 1, 1) := by decide +kernel
theorem dX0_about_56 : decode cX0_about 56 = .ok (.invokevirtual 111, 3) := by decide +kernel
theorem dX0_about_59 : decode cX0_about 59 = .ok (.ifCond .eq 7, 3) := by decide +kernel
theorem dX0_about_62 : decode cX0_about 62 = .ok (.iconst (-1), 1) := by decide +kernel
theorem dX0_about_63 : decode cX0_about 63 = .ok (.goto 9, 3) := by decide +kernel
theorem dX0_about_66 : decode cX0_about 66 = .ok (.aload_n 0, 1) := by decide +kernel
theorem dX0_about_67 : decode cX0_about 67 = .ok (.getfield 16, 3) := by decide +kernel
theorem dX0_about_70 : decode cX0_about 70 = .ok (.iload_n 1, 1) := by decide +kernel
theorem dX0_about_71 : decode cX0_about 71 = .ok (.iaload, 1) := by decide +kernel
theorem dX0_about_72 : decode cX0_about 72 = .ok (.ireturn, 1) := by decide +kernel
theorem dX0_about_73 : decode cX0_about 73 = .ok (.bipush (-2), 2) := by decide +kernel
theorem dX0_about_75 : decode cX0_about 75 = .ok (.ireturn, 1) := by decide +kernel
theorem dX0_bases_0 : decode cX0_bases 0 = .ok (.aload_n 0, 1) := by decide +kernel
theorem dX0_bases_1 : decode cX0_bases 1 = .ok (.iload_n 1, 1) := by decide +kernel
theorem dX0_bases_2 : decode cX0_bases 2 = .ok (.invokevirtual 137, 3) := by decide +kernel
theorem dX0_bases_5 : decode cX0_bases 5 = .ok (.ifCond .eq 16, 3) := by decide +kernel
theorem dX0_bases_8 : decode cX0_bases 8 = .ok (.getstatic 140, 3) := by decide +kernel
theorem dX0_bases_11 : decode cX0_bases 11 = .ok (.aload_n 0, 1) := by decide +kernel
theorem dX0_bases_12 : decode cX0_bases 12 = .ok (.getfield 9, 3) := by decide +kernel
theorem dX0_bases_15 : decode cX0_bases 15 = .ok (.iload_n 1, 1) := by decide +kernel
theorem dX0_bases_16 : decode cX0_bases 16 = .ok (.iaload, 1) := by decide +kernel
theorem dX0_bases_17 : decode cX0_bases 17 = .ok (.iaload, 1) := by decide +kernel
theorem dX0_bases_18 : decode cX0_bases 18 = .ok (.goto 5, 3) := by decide +kernel
theorem dX0_bases_21 : decode cX0_bases 21 = .ok (.bipush (-2), 2) := by decide +kernel
theorem dX0_bases_23 : decode cX0_bases 23 = .ok (.ireturn, 1) := by decide +kernel
theorem dX0_count_0 : decode cX0_count 0 = .ok (.iload_n 1, 1) := by decide +kernel
theorem dX0_count_1 : decode cX0_count 1 = .ok (.tableswitch 42 0 2 #[27, 32, 37], 27) := by decide +kernel
theorem dX0_count_28 : decode cX0_count 28 = .ok (.aload_n 0, 1) := by decide +kernel
theorem dX0_count_29 : decode cX0_count 29 = .ok (.getfield 32, 3) := by decide +kernel
theorem dX0_count_32 : decode cX0_count 32 = .ok (.ireturn, 1) := by decide +kernel
theorem dX0_count_33 : decode cX0_count 33 = .ok (.aload_n 0, 1) := by decide +kernel
theorem dX0_count_34 : decode cX0_count 34 = .ok (.getfield 36, 3) := by decide +kernel
theorem dX0_count_37 : decode cX0_count 37 = .ok (.ireturn, 1) := by decide +kernel
theorem dX0_count_38 : decode cX0_count 38 = .ok (.aload_n 0, 1) := by decide +kernel
theorem dX0_count_39 : decode cX0_count 39 = .ok (.getfield 39, 3) := by decide +kernel
theorem dX0_count_42 : decode cX0_count 42 = .ok (.ireturn, 1) := by decide +kernel
theorem dX0_count_43 : decode cX0_count 43 = .ok (.bipush (-2), 2) := by decide +kernel
theorem dX0_count_45 : decode cX0_count 45 = .ok (.ireturn, 1) := by decide +kernel
theorem dX0_clear_0 : decode cX0_clear 0 = .ok (.aload_n 0, 1) := by decide +kernel
theorem dX0_clear_1 : decode cX0_clear 1 = .ok (.getfield 32, 3) := by decide +kernel
theorem dX0_clear_4 : decode cX0_clear 4 = .ok (.istore_n 1, 1) := by decide +kernel
theorem dX0_clear_5 : decode cX0_clear 5 = .ok (.aload_n 0, 1) := by decide +kernel
theorem dX0_clear_6 : decode cX0_clear 6 = .ok (.iconst 0, 1) := by decide +kernel
theorem dX0_clear_7 : decode cX0_clear 7 = .ok (.putfield 32, 3) := by decide +kernel
theorem dX0_clear_10 : decode cX0_clear 10 = .ok (.iconst 0, 1) := by decide +kernel
theorem dX0_clear_11 : decode cX0_clear 11 = .ok (.istore_n 2, 1) := by decide +kernel
theorem dX0_clear_12 : decode cX0_clear 12 = .ok (.iload_n 2, 1) := by decide +kernel
theorem dX0_clear_13 : decode cX0_clear 13 = .ok (.bipush 8, 2) := by decide +kernel
theorem dX0_clear_15 : decode cX0_clear 15 = .ok (.if_icmp .ge 23, 3) := by decide +kernel
theorem dX0_clear_18 : decode cX0_clear 18 = .ok (.aload_n 0, 1) := by decide +kernel
theorem dX0_clear_19 : decode cX0_clear 19 = .ok (.getfield 26, 3) := by decide +kernel
theorem dX0_clear_22 : decode cX0_clear 22 = .ok (.iload_n 2, 1) := by decide +kernel
theorem dX0_clear_23 : decode cX0_clear 23 = .ok (.iconst 0, 1) := by decide +kernel
theorem dX0_clear_24 : decode cX0_clear 24 = .ok (.iastore, 1) := by decide +kernel
theorem dX0_clear_25 : decode cX0_clear 25 = .ok (.aload_n 0, 1) := by decide +kernel
theorem dX0_clear_26 : decode cX0_clear 26 = .ok (.getfield 29, 3) := by decide +kernel
theorem dX0_clear_29 : decode cX0_clear 29 = .ok (.iload_n 2, 1) := by decide +kernel
theorem dX0_clear_30 : decode cX0_clear 30 = .ok (.iconst 0, 1) := by decide +kernel
theorem dX0_clear_31 : decode cX0_clear 31 = .ok (.iastore, 1) := by decide +kernel
theorem dX0_clear_32 : decode cX0_clear 32 = .ok (.iinc 2 1, 3) := by decide +kernel
theorem dX0_clear_35 : decode cX0_clear 35 = .ok (.goto (-23), 3) := by decide +kernel
theorem dX0_clear_38 : decode cX0_clear 38 = .ok (.iload_n 1, 1) := by decide +kernel
theorem dX0_clear_39 : decode cX0_clear 39 = .ok (.ireturn, 1) := by decide +kernel
theorem dX0_fail_0 : decode cX0_fail 0 = .ok (.aload_n 0, 1) := by decide +kernel
theorem dX0_fail_1 : decode cX0_fail 1 = .ok (.dup, 1) := by decide +kernel
theorem dX0_fail_2 : decode cX0_fail 2 = .ok (.getfield 36, 3) := by decide +kernel
theorem dX0_fail_5 : decode cX0_fail 5 = .ok (.iconst 1, 1) := by decide +kernel
theorem dX0_fail_6 : decode cX0_fail 6 = .ok (.iadd, 1) := by decide +kernel
theorem dX0_fail_7 : decode cX0_fail 7 = .ok (.putfield 36, 3) := by decide +kernel
theorem dX0_fail_10 : decode cX0_fail 10 = .ok (.aload_n 0, 1) := by decide +kernel
theorem dX0_fail_11 : decode cX0_fail 11 = .ok (.iload_n 1, 1) := by decide +kernel
theorem dX0_fail_12 : decode cX0_fail 12 = .ok (.putfield 39, 3) := by decide +kernel
theorem dX0_fail_15 : decode cX0_fail 15 = .ok (.bipush (-10), 2) := by decide +kernel
theorem dX0_fail_17 : decode cX0_fail 17 = .ok (.iload_n 1, 1) := by decide +kernel
theorem dX0_fail_18 : decode cX0_fail 18 = .ok (.isub, 1) := by decide +kernel
theorem dX0_fail_19 : decode cX0_fail 19 = .ok (.ireturn, 1) := by decide +kernel
theorem dX0_isThing_0 : decode cX0_isThing 0 = .ok (.iload_n 1, 1) := by decide +kernel
theorem dX0_isThing_1 : decode cX0_isThing 1 = .ok (.ifCond .lt 15, 3) := by decide +kernel
theorem dX0_isThing_4 : decode cX0_isThing 4 = .ok (.iload_n 1, 1) := by decide +kernel
theorem dX0_isThing_5 : decode cX0_isThing 5 = .ok (.aload_n 0, 1) := by decide +kernel
theorem dX0_isThing_6 : decode cX0_isThing 6 = .ok (.getfield 32, 3) := by decide +kernel
theorem dX0_isThing_9 : decode cX0_isThing 9 = .ok (.if_icmp .ge 7, 3) := by decide +kernel
theorem dX0_isThing_12 : decode cX0_isThing 12 = .ok (.iconst 1, 1) := by decide +kernel
theorem dX0_isThing_13 : decode cX0_isThing 13 = .ok (.goto 4, 3) := by decide +kernel
theorem dX0_isThing_16 : decode cX0_isThing 16 = .ok (.iconst 0, 1) := by decide +kernel
theorem dX0_isThing_17 : decode cX0_isThing 17 = .ok (.ireturn, 1) := by decide +kernel
theorem dX0_isThingOrNone_0 : decode cX0_isThingOrNone 0 = .ok (.iload_n 1, 1) := by decide +kernel
theorem dX0_isThingOrNone_1 : decode cX0_isThingOrNone 1 = .ok (.iconst (-1), 1) := by decide +kernel
theorem dX0_isThingOrNone_2 : decode cX0_isThingOrNone 2 = .ok (.if_icmp .eq 11, 3) := by decide +kernel
theorem dX0_isThingOrNone_5 : decode cX0_isThingOrNone 5 = .ok (.aload_n 0, 1) := by decide +kernel
theorem dX0_isThingOrNone_6 : decode cX0_isThingOrNone 6 = .ok (.iload_n 1, 1) := by decide +kernel
theorem dX0_isThingOrNone_7 : decode cX0_isThingOrNone 7 = .ok (.invokevirtual 137, 3) := by decide +kernel
theorem dX0_isThingOrNone_10 : decode cX0_isThingOrNone 10 = .ok (.ifCond .eq 7, 3) := by decide +kernel
theorem dX0_isThingOrNone_13 : decode cX0_isThingOrNone 13 = .ok (.iconst 1, 1) := by decide +kernel
theorem dX0_isThingOrNone_14 : decode cX0_isThingOrNone 14 = .ok (.goto 4, 3) := by decide +kernel
theorem dX0_isThingOrNone_17 : decode cX0_isThingOrNone 17 = .ok (.iconst 0, 1) := by decide +kernel
theorem dX0_isThingOrNone_18 : decode cX0_isThingOrNone 18 = .ok (.ireturn, 1) := by decide +kernel
theorem dX0_isDoor_0 : decode cX0_isDoor 0 = .ok (.iload_n 0, 1) := by decide +kernel
theorem dX0_isDoor_1 : decode cX0_isDoor 1 = .ok (.ifCond .lt 13, 3) := by decide +kernel
theorem dX0_isDoor_4 : decode cX0_isDoor 4 = .ok (.iload_n 0, 1) := by decide +kernel
theorem dX0_isDoor_5 : decode cX0_isDoor 5 = .ok (.bipush 8, 2) := by decide +kernel
theorem dX0_isDoor_7 : decode cX0_isDoor 7 = .ok (.if_icmp .ge 7, 3) := by decide +kernel
theorem dX0_isDoor_10 : decode cX0_isDoor 10 = .ok (.iconst 1, 1) := by decide +kernel
theorem dX0_isDoor_11 : decode cX0_isDoor 11 = .ok (.goto 4, 3) := by decide +kernel
theorem dX0_isDoor_14 : decode cX0_isDoor 14 = .ok (.iconst 0, 1) := by decide +kernel
theorem dX0_isDoor_15 : decode cX0_isDoor 15 = .ok (.ireturn, 1) := by decide +kernel
theorem dX0_isNumberBase_0 : decode cX0_isNumberBase 0 = .ok (.iload_n 0, 1) := by decide +kernel
theorem dX0_isNumberBase_1 : decode cX0_isNumberBase 1 = .ok (.iconst 5, 1) := by decide +kernel
theorem dX0_isNumberBase_2 : decode cX0_isNumberBase 2 = .ok (.if_icmp .eq 9, 3) := by decide +kernel
theorem dX0_isNumberBase_5 : decode cX0_isNumberBase 5 = .ok (.iload_n 0, 1) := by decide +kernel
theorem dX0_isNumberBase_6 : decode cX0_isNumberBase 6 = .ok (.bipush 6, 2) := by decide +kernel
theorem dX0_isNumberBase_8 : decode cX0_isNumberBase 8 = .ok (.if_icmp .ne 7, 3) := by decide +kernel
theorem dX0_isNumberBase_11 : decode cX0_isNumberBase 11 = .ok (.iconst 1, 1) := by decide +kernel
theorem dX0_isNumberBase_12 : decode cX0_isNumberBase 12 = .ok (.goto 4, 3) := by decide +kernel
theorem dX0_isNumberBase_15 : decode cX0_isNumberBase 15 = .ok (.iconst 0, 1) := by decide +kernel
theorem dX0_isNumberBase_16 : decode cX0_isNumberBase 16 = .ok (.ireturn, 1) := by decide +kernel
theorem dX0_isKind_0 : decode cX0_isKind 0 = .ok (.iload_n 0, 1) := by decide +kernel
theorem dX0_isKind_1 : decode cX0_isKind 1 = .ok (.ifCond .lt 9, 3) := by decide +kernel
theorem dX0_isKind_4 : decode cX0_isKind 4 = .ok (.iload_n 0, 1) := by decide +kernel
theorem dX0_isKind_5 : decode cX0_isKind 5 = .ok (.bipush 6, 2) := by decide +kernel
theorem dX0_isKind_7 : decode cX0_isKind 7 = .ok (.if_icmp .le 5, 3) := by decide +kernel
theorem dX0_isKind_10 : decode cX0_isKind 10 = .ok (.iconst 0, 1) := by decide +kernel
theorem dX0_isKind_11 : decode cX0_isKind 11 = .ok (.ireturn, 1) := by decide +kernel
theorem dX0_isKind_12 : decode cX0_isKind 12 = .ok (.iload_n 0, 1) := by decide +kernel
theorem dX0_isKind_13 : decode cX0_isKind 13 = .ok (.invokestatic 131, 3) := by decide +kernel
theorem dX0_isKind_16 : decode cX0_isKind 16 = .ok (.ifCond .eq 19, 3) := by decide +kernel
theorem dX0_isKind_19 : decode cX0_isKind 19 = .ok (.iload_n 1, 1) := by decide +kernel
theorem dX0_isKind_20 : decode cX0_isKind 20 = .ok (.iconst 1, 1) := by decide +kernel
theorem dX0_isKind_21 : decode cX0_isKind 21 = .ok (.if_icmp .eq 8, 3) := by decide +kernel
theorem dX0_isKind_24 : decode cX0_isKind 24 = .ok (.iload_n 1, 1) := by decide +kernel
theorem dX0_isKind_25 : decode cX0_isKind 25 = .ok (.iconst 2, 1) := by decide +kernel
theorem dX0_isKind_26 : decode cX0_isKind 26 = .ok (.if_icmp .ne 7, 3) := by decide +kernel
theorem dX0_isKind_29 : decode cX0_isKind 29 = .ok (.iconst 1, 1) := by decide +kernel
theorem dX0_isKind_30 : decode cX0_isKind 30 = .ok (.goto 4, 3) := by decide +kernel
theorem dX0_isKind_33 : decode cX0_isKind 33 = .ok (.iconst 0, 1) := by decide +kernel
theorem dX0_isKind_34 : decode cX0_isKind 34 = .ok (.ireturn, 1) := by decide +kernel
theorem dX0_isKind_35 : decode cX0_isKind 35 = .ok (.iload_n 1, 1) := by decide +kernel
theorem dX0_isKind_36 : decode cX0_isKind 36 = .ok (.ifCond .lt 12, 3) := by decide +kernel
theorem dX0_isKind_39 : decode cX0_isKind 39 = .ok (.iload_n 1, 1) := by decide +kernel
theorem dX0_isKind_40 : decode cX0_isKind 40 = .ok (.iconst 3, 1) := by decide +kernel
theorem dX0_isKind_41 : decode cX0_isKind 41 = .ok (.if_icmp .gt 7, 3) := by decide +kernel
theorem dX0_isKind_44 : decode cX0_isKind 44 = .ok (.iconst 1, 1) := by decide +kernel
theorem dX0_isKind_45 : decode cX0_isKind 45 = .ok (.goto 4, 3) := by decide +kernel
theorem dX0_isKind_48 : decode cX0_isKind 48 = .ok (.iconst 0, 1) := by decide +kernel
theorem dX0_isKind_49 : decode cX0_isKind 49 = .ok (.ireturn, 1) := by decide +kernel
theorem dX0_isPiece_0 : decode cX0_isPiece 0 = .ok (.aload_n 0, 1) := by decide +kernel
theorem dX0_isPiece_1 : decode cX0_isPiece 1 = .ok (.getfield 13, 3) := by decide +kernel
theorem dX0_isPiece_4 : decode cX0_isPiece 4 = .ok (.iload_n 1, 1) := by decide +kernel
theorem dX0_isPiece_5 : decode cX0_isPiece 5 = .ok (.iaload, 1) := by decide +kernel
theorem dX0_isPiece_6 : decode cX0_isPiece 6 = .ok (.ifCond .ne 7, 3) := by decide +kernel
theorem dX0_isPiece_9 : decode cX0_isPiece 9 = .ok (.iconst 1, 1) := by decide +kernel
theorem dX0_isPiece_10 : decode cX0_isPiece 10 = .ok (.goto 4, 3) := by decide +kernel
theorem dX0_isPiece_13 : decode cX0_isPiece 13 = .ok (.iconst 0, 1) := by decide +kernel
theorem dX0_isPiece_14 : decode cX0_isPiece 14 = .ok (.ireturn, 1) := by decide +kernel
theorem dX0_isLedger_0 : decode cX0_isLedger 0 = .ok (.aload_n 0, 1) := by decide +kernel
theorem dX0_isLedger_1 : decode cX0_isLedger 1 = .ok (.getfield 13, 3) := by decide +kernel
theorem dX0_isLedger_4 : decode cX0_isLedger 4 = .ok (.iload_n 1, 1) := by decide +kernel
theorem dX0_isLedger_5 : decode cX0_isLedger 5 = .ok (.iaload, 1) := by decide +kernel
theorem dX0_isLedger_6 : decode cX0_isLedger 6 = .ok (.iconst 1, 1) := by decide +kernel
theorem dX0_isLedger_7 : decode cX0_isLedger 7 = .ok (.if_icmp .ne 19, 3) := by decide +kernel
theorem dX0_isLedger_10 : decode cX0_isLedger 10 = .ok (.aload_n 0, 1) := by decide +kernel
theorem dX0_isLedger_11 : decode cX0_isLedger 11 = .ok (.getfield 9, 3) := by decide +kernel
theorem dX0_isLedger_14 : decode cX0_isLedger 14 = .ok (.iload_n 1, 1) := by decide +kernel
theorem dX0_isLedger_15 : decode cX0_isLedger 15 = .ok (.iaload, 1) := by decide +kernel
theorem dX0_isLedger_16 : decode cX0_isLedger 16 = .ok (.invokestatic 131, 3) := by decide +kernel
theorem dX0_isLedger_19 : decode cX0_isLedger 19 = .ok (.ifCond .eq 7, 3) := by decide +kernel
theorem dX0_isLedger_22 : decode cX0_isLedger 22 = .ok (.iconst 1, 1) := by decide +kernel
theorem dX0_isLedger_23 : decode cX0_isLedger 23 = .ok (.goto 4, 3) := by decide +kernel
theorem dX0_isLedger_26 : decode cX0_isLedger 26 = .ok (.iconst 0, 1) := by decide +kernel
theorem dX0_isLedger_27 : decode cX0_isLedger 27 = .ok (.ireturn, 1) := by decide +kernel
theorem dX0_holdsThings_0 : decode cX0_holdsThings 0 = .ok (.aload_n 0, 1) := by decide +kernel
theorem dX0_holdsThings_1 : decode cX0_holdsThings 1 = .ok (.iload_n 1, 1) := by decide +kernel
theorem dX0_holdsThings_2 : decode cX0_holdsThings 2 = .ok (.invokevirtual 111, 3) := by decide +kernel
theorem dX0_holdsThings_5 : decode cX0_holdsThings 5 = .ok (.ifCond .ne 15, 3) := by decide +kernel
theorem dX0_holdsThings_8 : decode cX0_holdsThings 8 = .ok (.aload_n 0, 1) := by decide +kernel
theorem dX0_holdsThings_9 : decode cX0_holdsThings 9 = .ok (.iload_n 1, 1) := by decide +kernel
theorem dX0_holdsThings_10 : decode cX0_holdsThings 10 = .ok (.invokevirtual 124, 3) := by decide +kernel
theorem dX0_holdsThings_13 : decode cX0_holdsThings 13 = .ok (.ifCond .ne 7, 3) := by decide +kernel
theorem dX0_holdsThings_16 : decode cX0_holdsThings 16 = .ok (.iconst 1, 1) := by decide +kernel
theorem dX0_holdsThings_17 : decode cX0_holdsThings 17 = .ok (.goto 4, 3) := by decide +kernel
theorem dX0_holdsThings_20 : decode cX0_holdsThings 20 = .ok (.iconst 0, 1) := by decide +kernel
theorem dX0_holdsThings_21 : decode cX0_holdsThings 21 = .ok (.ireturn, 1) := by decide +kernel
theorem dX0_goesFor_0 : decode cX0_goesFor 0 = .ok (.getstatic 140, 3) := by decide +kernel
theorem dX0_goesFor_3 : decode cX0_goesFor 3 = .ok (.iload_n 0, 1) := by decide +kernel
theorem dX0_goesFor_4 : decode cX0_goesFor 4 = .ok (.iaload, 1) := by decide +kernel
theorem dX0_goesFor_5 : decode cX0_goesFor 5 = .ok (.iload_n 1, 1) := by decide +kernel
theorem dX0_goesFor_6 : decode cX0_goesFor 6 = .ok (.ishr, 1) := by decide +kernel
theorem dX0_goesFor_7 : decode cX0_goesFor 7 = .ok (.iconst 1, 1) := by decide +kernel
theorem dX0_goesFor_8 : decode cX0_goesFor 8 = .ok (.iand, 1) := by decide +kernel
theorem dX0_goesFor_9 : decode cX0_goesFor 9 = .ok (.iconst 1, 1) := by decide +kernel
theorem dX0_goesFor_10 : decode cX0_goesFor 10 = .ok (.if_icmp .ne 7, 3) := by decide +kernel
theorem dX0_goesFor_13 : decode cX0_goesFor 13 = .ok (.iconst 1, 1) := by decide +kernel
theorem dX0_goesFor_14 : decode cX0_goesFor 14 = .ok (.goto 4, 3) := by decide +kernel
theorem dX0_goesFor_17 : decode cX0_goesFor 17 = .ok (.iconst 0, 1) := by decide +kernel
theorem dX0_goesFor_18 : decode cX0_goesFor 18 = .ok (.ireturn, 1) := by decide +kernel
theorem dX0_isOfKind_0 : decode cX0_isOfKind 0 = .ok (.aload_n 0, 1) := by decide +kernel
theorem dX0_isOfKind_1 : decode cX0_isOfKind 1 = .ok (.iload_n 1, 1) := by decide +kernel
theorem dX0_isOfKind_2 : decode cX0_isOfKind 2 = .ok (.invokevirtual 137, 3) := by decide +kernel
theorem dX0_isOfKind_5 : decode cX0_isOfKind 5 = .ok (.ifCond .eq 30, 3) := by decide +kernel
theorem dX0_isOfKind_8 : decode cX0_isOfKind 8 = .ok (.aload_n 0, 1) := by decide +kernel
theorem dX0_isOfKind_9 : decode cX0_isOfKind 9 = .ok (.getfield 13, 3) := by decide +kernel
theorem dX0_isOfKind_12 : decode cX0_isOfKind 12 = .ok (.iload_n 1, 1) := by decide +kernel
theorem dX0_isOfKind_13 : decode cX0_isOfKind 13 = .ok (.iaload, 1) := by decide +kernel
theorem dX0_isOfKind_14 : decode cX0_isOfKind 14 = .ok (.iload_n 3, 1) := by decide +kernel
theorem dX0_isOfKind_15 : decode cX0_isOfKind 15 = .ok (.if_icmp .ne 20, 3) := by decide +kernel
theorem dX0_isOfKind_18 : decode cX0_isOfKind 18 = .ok (.aload_n 0, 1) := by decide +kernel
theorem dX0_isOfKind_19 : decode cX0_isOfKind 19 = .ok (.getfield 9, 3) := by decide +kernel
theorem dX0_isOfKind_22 : decode cX0_isOfKind 22 = .ok (.iload_n 1, 1) := by decide +kernel
theorem dX0_isOfKind_23 : decode cX0_isOfKind 23 = .ok (.iaload, 1) := by decide +kernel
theorem dX0_isOfKind_24 : decode cX0_isOfKind 24 = .ok (.iload_n 2, 1) := by decide +kernel
theorem dX0_isOfKind_25 : decode cX0_isOfKind 25 = .ok (.invokestatic 143, 3) := by decide +kernel
theorem dX0_isOfKind_28 : decode cX0_isOfKind 28 = .ok (.ifCond .eq 7, 3) := by decide +kernel
theorem dX0_isOfKind_31 : decode cX0_isOfKind 31 = .ok (.iconst 1, 1) := by decide +kernel
theorem dX0_isOfKind_32 : decode cX0_isOfKind 32 = .ok (.goto 4, 3) := by decide +kernel
theorem dX0_isOfKind_35 : decode cX0_isOfKind 35 = .ok (.iconst 0, 1) := by decide +kernel
theorem dX0_isOfKind_36 : decode cX0_isOfKind 36 = .ok (.ireturn, 1) := by decide +kernel
theorem dX0_mayPass_0 : decode cX0_mayPass 0 = .ok (.iload_n 1, 1) := by decide +kernel
theorem dX0_mayPass_1 : decode cX0_mayPass 1 = .ok (.iconst (-1), 1) := by decide +kernel
theorem dX0_mayPass_2 : decode cX0_mayPass 2 = .ok (.if_icmp .eq 13, 3) := by decide +kernel
theorem dX0_mayPass_5 : decode cX0_mayPass 5 = .ok (.aload_n 0, 1) := by decide +kernel
theorem dX0_mayPass_6 : decode cX0_mayPass 6 = .ok (.iload_n 1, 1) := by decide +kernel
theorem dX0_mayPass_7 : decode cX0_mayPass 7 = .ok (.iload_n 2, 1) := by decide +kernel
theorem dX0_mayPass_8 : decode cX0_mayPass 8 = .ok (.iload_n 3, 1) := by decide +kernel
theorem dX0_mayPass_9 : decode cX0_mayPass 9 = .ok (.invokevirtual 98, 3) := by decide +kernel
theorem dX0_mayPass_12 : decode cX0_mayPass 12 = .ok (.ifCond .eq 7, 3) := by decide +kernel
theorem dX0_mayPass_15 : decode cX0_mayPass 15 = .ok (.iconst 1, 1) := by decide +kernel
theorem dX0_mayPass_16 : decode cX0_mayPass 16 = .ok (.goto 4, 3) := by decide +kernel
theorem dX0_mayPass_19 : decode cX0_mayPass 19 = .ok (.iconst 0, 1) := by decide +kernel
theorem dX0_mayPass_20 : decode cX0_mayPass 20 = .ok (.ireturn, 1) := by decide +kernel
theorem dX0_goesInto_0 : decode cX0_goesInto 0 = .ok (.aload_n 0, 1) := by decide +kernel
theorem dX0_goesInto_1 : decode cX0_goesInto 1 = .ok (.iload_n 1, 1) := by decide +kernel
theorem dX0_goesInto_2 : decode cX0_goesInto 2 = .ok (.aload_n 0, 1) := by decide +kernel
theorem dX0_goesInto_3 : decode cX0_goesInto 3 = .ok (.getfield 9, 3) := by decide +kernel
theorem dX0_goesInto_6 : decode cX0_goesInto 6 = .ok (.iload_n 2, 1) := by decide +kernel
theorem dX0_goesInto_7 : decode cX0_goesInto 7 = .ok (.iaload, 1) := by decide +kernel
theorem dX0_goesInto_8 : decode cX0_goesInto 8 = .ok (.aload_n 0, 1) := by decide +kernel
theorem dX0_goesInto_9 : decode cX0_goesInto 9 = .ok (.getfield 13, 3) := by decide +kernel
theorem dX0_goesInto_12 : decode cX0_goesInto 12 = .ok (.iload_n 2, 1) := by decide +kernel
theorem dX0_goesInto_13 : decode cX0_goesInto 13 = .ok (.iaload, 1) := by decide +kernel
theorem dX0_goesInto_14 : decode cX0_goesInto 14 = .ok (.iconst 1, 1) := by decide +kernel
theorem dX0_goesInto_15 : decode cX0_goesInto 15 = .ok (.isub, 1) := by decide +kernel
theorem dX0_goesInto_16 : decode cX0_goesInto 16 = .ok (.invokevirtual 76, 3) := by decide +kernel
theorem dX0_goesInto_19 : decode cX0_goesInto 19 = .ok (.ireturn, 1) := by decide +kernel
theorem dX0_widestBase_0 : decode cX0_widestBase 0 = .ok (.aload_n 0, 1) := by decide +kernel
theorem dX0_widestBase_1 : decode cX0_widestBase 1 = .ok (.getfield 9, 3) := by decide +kernel
theorem dX0_widestBase_4 : decode cX0_widestBase 4 = .ok (.iload_n 1, 1) := by decide +kernel
theorem dX0_widestBase_5 : decode cX0_widestBase 5 = .ok (.iaload, 1) := by decide +kernel
theorem dX0_widestBase_6 : decode cX0_widestBase 6 = .ok (.iconst 0, 1) := by decide +kernel
theorem dX0_widestBase_7 : decode cX0_widestBase 7 = .ok (.invokestatic 143, 3) := by decide +kernel
theorem dX0_widestBase_10 : decode cX0_widestBase 10 = .ok (.ifCond .eq 7, 3) := by decide +kernel
theorem dX0_widestBase_13 : decode cX0_widestBase 13 = .ok (.iconst 0, 1) := by decide +kernel
theorem dX0_widestBase_14 : decode cX0_widestBase 14 = .ok (.goto 9, 3) := by decide +kernel
theorem dX0_widestBase_17 : decode cX0_widestBase 17 = .ok (.aload_n 0, 1) := by decide +kernel
theorem dX0_widestBase_18 : decode cX0_widestBase 18 = .ok (.getfield 9, 3) := by decide +kernel
theorem dX0_widestBase_21 : decode cX0_widestBase 21 = .ok (.iload_n 1, 1) := by decide +kernel
theorem dX0_widestBase_22 : decode cX0_widestBase 22 = .ok (.iaload, 1) := by decide +kernel
theorem dX0_widestBase_23 : decode cX0_widestBase 23 = .ok (.ireturn, 1) := by decide +kernel
theorem dX0_hasPlace_0 : decode cX0_hasPlace 0 = .ok (.iload_n 2, 1) := by decide +kernel
theorem dX0_hasPlace_1 : decode cX0_hasPlace 1 = .ok (.ifCond .lt 17, 3) := by decide +kernel
theorem dX0_hasPlace_4 : decode cX0_hasPlace 4 = .ok (.iload_n 2, 1) := by decide +kernel
theorem dX0_hasPlace_5 : decode cX0_hasPlace 5 = .ok (.aload_n 0, 1) := by decide +kernel
theorem dX0_hasPlace_6 : decode cX0_hasPlace 6 = .ok (.getfield 16, 3) := by decide +kernel
theorem dX0_hasPlace_9 : decode cX0_hasPlace 9 = .ok (.iload_n 1, 1) := by decide +kernel
theorem dX0_hasPlace_10 : decode cX0_hasPlace 10 = .ok (.iaload, 1) := by decide +kernel
theorem dX0_hasPlace_11 : decode cX0_hasPlace 11 = .ok (.if_icmp .ge 7, 3) := by decide +kernel
theorem dX0_hasPlace_14 : decode cX0_hasPlace 14 = .ok (.iconst 1, 1) := by decide +kernel
theorem dX0_hasPlace_15 : decode cX0_hasPlace 15 = .ok (.goto 4, 3) := by decide +kernel
theorem dX0_hasPlace_18 : decode cX0_hasPlace 18 = .ok (.iconst 0, 1) := by decide +kernel
theorem dX0_hasPlace_19 : decode cX0_hasPlace 19 = .ok (.ireturn, 1) := by decide +kernel
theorem dX0_hasPlaces_0 : decode cX0_hasPlaces 0 = .ok (.iload_n 2, 1) := by decide +kernel
theorem dX0_hasPlaces_1 : decode cX0_hasPlaces 1 = .ok (.ifCond .lt 23, 3) := by decide +kernel
theorem dX0_hasPlaces_4 : decode cX0_hasPlaces 4 = .ok (.iload_n 3, 1) := by decide +kernel
theorem dX0_hasPlaces_5 : decode cX0_hasPlaces 5 = .ok (.ifCond .lt 19, 3) := by decide +kernel
theorem dX0_hasPlaces_8 : decode cX0_hasPlaces 8 = .ok (.iload_n 2, 1) := by decide +kernel
theorem dX0_hasPlaces_9 : decode cX0_hasPlaces 9 = .ok (.aload_n 0, 1) := by decide +kernel
theorem dX0_hasPlaces_10 : decode cX0_hasPlaces 10 = .ok (.getfield 16, 3) := by decide +kernel
theorem dX0_hasPlaces_13 : decode cX0_hasPlaces 13 = .ok (.iload_n 1, 1) := by decide +kernel
theorem dX0_hasPlaces_14 : decode cX0_hasPlaces 14 = .ok (.iaload, 1) := by decide +kernel
theorem dX0_hasPlaces_15 : decode cX0_hasPlaces 15 = .ok (.iload_n 3, 1) := by decide +kernel
theorem dX0_hasPlaces_16 : decode cX0_hasPlaces 16 = .ok (.isub, 1) := by decide +kernel
theorem dX0_hasPlaces_17 : decode cX0_hasPlaces 17 = .ok (.if_icmp .gt 7, 3) := by decide +kernel
theorem dX0_hasPlaces_20 : decode cX0_hasPlaces 20 = .ok (.iconst 1, 1) := by decide +kernel
theorem dX0_hasPlaces_21 : decode cX0_hasPlaces 21 = .ok (.goto 4, 3) := by decide +kernel
theorem dX0_hasPlaces_24 : decode cX0_hasPlaces 24 = .ok (.iconst 0, 1) := by decide +kernel
theorem dX0_hasPlaces_25 : decode cX0_hasPlaces 25 = .ok (.ireturn, 1) := by decide +kernel
theorem dX0_placeIndex_0 : decode cX0_placeIndex 0 = .ok (.iload_n 0, 1) := by decide +kernel
theorem dX0_placeIndex_1 : decode cX0_placeIndex 1 = .ok (.bipush 8, 2) := by decide +kernel
theorem dX0_placeIndex_3 : decode cX0_placeIndex 3 = .ok (.imul, 1) := by decide +kernel
theorem dX0_placeIndex_4 : decode cX0_placeIndex 4 = .ok (.iload_n 1, 1) := by decide +kernel
theorem dX0_placeIndex_5 : decode cX0_placeIndex 5 = .ok (.iadd, 1) := by decide +kernel
theorem dX0_placeIndex_6 : decode cX0_placeIndex 6 = .ok (.ireturn, 1) := by decide +kernel
theorem dX0_thingAt_0 : decode cX0_thingAt 0 = .ok (.aload_n 0, 1) := by decide +kernel
theorem dX0_thingAt_1 : decode cX0_thingAt 1 = .ok (.getfield 22, 3) := by decide +kernel
theorem dX0_thingAt_4 : decode cX0_thingAt 4 = .ok (.iload_n 1, 1) := by decide +kernel
theorem dX0_thingAt_5 : decode cX0_thingAt 5 = .ok (.iload_n 2, 1) := by decide +kernel
theorem dX0_thingAt_6 : decode cX0_thingAt 6 = .ok (.invokestatic 70, 3) := by decide +kernel
theorem dX0_thingAt_9 : decode cX0_thingAt 9 = .ok (.laload, 1) := by decide +kernel
theorem dX0_thingAt_10 : decode cX0_thingAt 10 = .ok (.l2i, 1) := by decide +kernel
theorem dX0_thingAt_11 : decode cX0_thingAt 11 = .ok (.ireturn, 1) := by decide +kernel
theorem dX0_ledgerFailure_0 : decode cX0_ledgerFailure 0 = .ok (.iload_n 1, 1) := by decide +kernel
theorem dX0_ledgerFailure_1 : decode cX0_ledgerFailure 1 = .ok (.iconst (-1), 1) := by decide +kernel
theorem dX0_ledgerFailure_2 : decode cX0_ledgerFailure 2 = .ok (.if_icmp .ne 5, 3) := by decide +kernel
theorem dX0_ledgerFailure_5 : decode cX0_ledgerFailure 5 = .ok (.iconst 1, 1) := by decide +kernel
theorem dX0_ledgerFailure_6 : decode cX0_ledgerFailure 6 = .ok (.ireturn, 1) := by decide +kernel
theorem dX0_ledgerFailure_7 : decode cX0_ledgerFailure 7 = .ok (.aload_n 0, 1) := by decide +kernel
theorem dX0_ledgerFailure_8 : decode cX0_ledgerFailure 8 = .ok (.iload_n 1, 1) := by decide +kernel
theorem dX0_ledgerFailure_9 : decode cX0_ledgerFailure 9 = .ok (.invokevirtual 124, 3) := by decide +kernel
theorem dX0_ledgerFailure_12 : decode cX0_ledgerFailure 12 = .ok (.ifCond .ne 5, 3) := by decide +kernel
theorem dX0_ledgerFailure_15 : decode cX0_ledgerFailure 15 = .ok (.iconst 2, 1) := by decide +kernel
theorem dX0_ledgerFailure_16 : decode cX0_ledgerFailure 16 = .ok (.ireturn, 1) := by decide +kernel
theorem dX0_ledgerFailure_17 : decode cX0_ledgerFailure 17 = .ok (.aload_n 0, 1) := by decide +kernel
theorem dX0_ledgerFailure_18 : decode cX0_ledgerFailure 18 = .ok (.iload_n 1, 1) := by decide +kernel
theorem dX0_ledgerFailure_19 : decode cX0_ledgerFailure 19 = .ok (.iload_n 2, 1) := by decide +kernel
theorem dX0_ledgerFailure_20 : decode cX0_ledgerFailure 20 = .ok (.invokevirtual 86, 3) := by decide +kernel
theorem dX0_ledgerFailure_23 : decode cX0_ledgerFailure 23 = .ok (.ifCond .eq 7, 3) := by decide +kernel
theorem dX0_ledgerFailure_26 : decode cX0_ledgerFailure 26 = .ok (.iconst 0, 1) := by decide +kernel
theorem dX0_ledgerFailure_27 : decode cX0_ledgerFailure 27 = .ok (.goto 4, 3) := by decide +kernel
theorem dX0_ledgerFailure_30 : decode cX0_ledgerFailure 30 = .ok (.iconst 3, 1) := by decide +kernel
theorem dX0_ledgerFailure_31 : decode cX0_ledgerFailure 31 = .ok (.ireturn, 1) := by decide +kernel
theorem dX0_hasRoomFor_0 : decode cX0_hasRoomFor 0 = .ok (.aload_n 0, 1) := by decide +kernel
theorem dX0_hasRoomFor_1 : decode cX0_hasRoomFor 1 = .ok (.getfield 32, 3) := by decide +kernel
theorem dX0_hasRoomFor_4 : decode cX0_hasRoomFor 4 = .ok (.iload_n 1, 1) := by decide +kernel
theorem dX0_hasRoomFor_5 : decode cX0_hasRoomFor 5 = .ok (.iadd, 1) := by decide +kernel
theorem dX0_hasRoomFor_6 : decode cX0_hasRoomFor 6 = .ok (.bipush 60, 2) := by decide +kernel
theorem dX0_hasRoomFor_8 : decode cX0_hasRoomFor 8 = .ok (.if_icmp .gt 7, 3) := by decide +kernel
theorem dX0_hasRoomFor_11 : decode cX0_hasRoomFor 11 = .ok (.iconst 1, 1) := by decide +kernel
theorem dX0_hasRoomFor_12 : decode cX0_hasRoomFor 12 = .ok (.goto 4, 3) := by decide +kernel
theorem dX0_hasRoomFor_15 : decode cX0_hasRoomFor 15 = .ok (.iconst 0, 1) := by decide +kernel
theorem dX0_hasRoomFor_16 : decode cX0_hasRoomFor 16 = .ok (.ireturn, 1) := by decide +kernel
theorem dX0_addThing_0 : decode cX0_addThing 0 = .ok (.aload_n 0, 1) := by decide +kernel
theorem dX0_addThing_1 : decode cX0_addThing 1 = .ok (.getfield 32, 3) := by decide +kernel
theorem dX0_addThing_4 : decode cX0_addThing 4 = .ok (.istore 4, 2) := by decide +kernel
theorem dX0_addThing_6 : decode cX0_addThing 6 = .ok (.aload_n 0, 1) := by decide +kernel
theorem dX0_addThing_7 : decode cX0_addThing 7 = .ok (.getfield 9, 3) := by decide +kernel
theorem dX0_addThing_10 : decode cX0_addThing 10 = .ok (.iload 4, 2) := by decide +kernel
theorem dX0_addThing_12 : decode cX0_addThing 12 = .ok (.iload_n 1, 1) := by decide +kernel
theorem dX0_addThing_13 : decode cX0_addThing 13 = .ok (.iastore, 1) := by decide +kernel
theorem dX0_addThing_14 : decode cX0_addThing 14 = .ok (.aload_n 0, 1) := by decide +kernel
theorem dX0_addThing_15 : decode cX0_addThing 15 = .ok (.getfield 13, 3) := by decide +kernel
theorem dX0_addThing_18 : decode cX0_addThing 18 = .ok (.iload 4, 2) := by decide +kernel
theorem dX0_addThing_20 : decode cX0_addThing 20 = .ok (.iload_n 2, 1) := by decide +kernel
theorem dX0_addThing_21 : decode cX0_addThing 21 = .ok (.iastore, 1) := by decide +kernel
theorem dX0_addThing_22 : decode cX0_addThing 22 = .ok (.aload_n 0, 1) := by decide +kernel
theorem dX0_addThing_23 : decode cX0_addThing 23 = .ok (.getfield 16, 3) := by decide +kernel
theorem dX0_addThing_26 : decode cX0_addThing 26 = .ok (.iload 4, 2) := by decide +kernel
theorem dX0_addThing_28 : decode cX0_addThing 28 = .ok (.iload_n 3, 1) := by decide +kernel
theorem dX0_addThing_29 : decode cX0_addThing 29 = .ok (.iastore, 1) := by decide +kernel
theorem dX0_addThing_30 : decode cX0_addThing 30 = .ok (.aload_n 0, 1) := by decide +kernel
theorem dX0_addThing_31 : decode cX0_addThing 31 = .ok (.dup, 1) := by decide +kernel
theorem dX0_addThing_32 : decode cX0_addThing 32 = .ok (.getfield 32, 3) := by decide +kernel
theorem dX0_addThing_35 : decode cX0_addThing 35 = .ok (.iconst 1, 1) := by decide +kernel
theorem dX0_addThing_36 : decode cX0_addThing 36 = .ok (.iadd, 1) := by decide +kernel
theorem dX0_addThing_37 : decode cX0_addThing 37 = .ok (.putfield 32, 3) := by decide +kernel
theorem dX0_addThing_40 : decode cX0_addThing 40 = .ok (.iload 4, 2) := by decide +kernel
theorem dX0_addThing_42 : decode cX0_addThing 42 = .ok (.ireturn, 1) := by decide +kernel
theorem dX0_addRow_0 : decode cX0_addRow 0 = .ok (.aload_n 0, 1) := by decide +kernel
theorem dX0_addRow_1 : decode cX0_addRow 1 = .ok (.iload_n 1, 1) := by decide +kernel
theorem dX0_addRow_2 : decode cX0_addRow 2 = .ok (.iload_n 2, 1) := by decide +kernel
theorem dX0_addRow_3 : decode cX0_addRow 3 = .ok (.iload_n 3, 1) := by decide +kernel
theorem dX0_addRow_4 : decode cX0_addRow 4 = .ok (.invokevirtual 49, 3) := by decide +kernel
theorem dX0_addRow_7 : decode cX0_addRow 7 = .ok (.istore 4, 2) := by decide +kernel
theorem dX0_addRow_9 : decode cX0_addRow 9 = .ok (.aload_n 0, 1) := by decide +kernel
theorem dX0_addRow_10 : decode cX0_addRow 10 = .ok (.iload 4, 2) := by decide +kernel
theorem dX0_addRow_12 : decode cX0_addRow 12 = .ok (.invokevirtual 124, 3) := by decide +kernel
theorem dX0_addRow_15 : decode cX0_addRow 15 = .ok (.ifCond .eq 7, 3) := by decide +kernel
theorem dX0_addRow_18 : decode cX0_addRow 18 = .ok (.lconst 0, 1) := by decide +kernel
theorem dX0_addRow_19 : decode cX0_addRow 19 = .ok (.goto 6, 3) := by decide +kernel
theorem dX0_addRow_22 : decode cX0_addRow 22 = .ok (.ldc2_w 146, 3) := by decide +kernel
theorem dX0_addRow_25 : decode cX0_addRow 25 = .ok (.lstore 5, 2) := by decide +kernel
theorem dX0_addRow_27 : decode cX0_addRow 27 = .ok (.iconst 0, 1) := by decide +kernel
theorem dX0_addRow_28 : decode cX0_addRow 28 = .ok (.istore 7, 2) := by decide +kernel
theorem dX0_addRow_30 : decode cX0_addRow 30 = .ok (.iload 7, 2) := by decide +kernel
theorem dX0_addRow_32 : decode cX0_addRow 32 = .ok (.iload_n 3, 1) := by decide +kernel
theorem dX0_addRow_33 : decode cX0_addRow 33 = .ok (.if_icmp .ge 23, 3) := by decide +kernel
theorem dX0_addRow_36 : decode cX0_addRow 36 = .ok (.aload_n 0, 1) := by decide +kernel
theorem dX0_addRow_37 : decode cX0_addRow 37 = .ok (.getfield 22, 3) := by decide +kernel
theorem dX0_addRow_40 : decode cX0_addRow 40 = .ok (.iload 4, 2) := by decide +kernel
theorem dX0_addRow_42 : decode cX0_addRow 42 = .ok (.iload 7, 2) := by decide +kernel
theorem dX0_addRow_44 : decode cX0_addRow 44 = .ok (.invokestatic 70, 3) := by decide +kernel
theorem dX0_addRow_47 : decode cX0_addRow 47 = .ok (.lload 5, 2) := by decide +kernel
theorem dX0_addRow_49 : decode cX0_addRow 49 = .ok (.lastore, 1) := by decide +kernel
theorem dX0_addRow_50 : decode cX0_addRow 50 = .ok (.iinc 7 1, 3) := by decide +kernel
theorem dX0_addRow_53 : decode cX0_addRow 53 = .ok (.goto (-23), 3) := by decide +kernel
theorem dX0_addRow_56 : decode cX0_addRow 56 = .ok (.iload 4, 2) := by decide +kernel
theorem dX0_addRow_58 : decode cX0_addRow 58 = .ok (.ireturn, 1) := by decide +kernel
theorem dX0_firstClosedDoor_0 : decode cX0_firstClosedDoor 0 = .ok (.iload_n 2, 1) := by decide +kernel
theorem dX0_firstClosedDoor_1 : decode cX0_firstClosedDoor 1 = .ok (.istore 4, 2) := by decide +kernel
theorem dX0_firstClosedDoor_3 : decode cX0_firstClosedDoor 3 = .ok (.iload 4, 2) := by decide +kernel
theorem dX0_firstClosedDoor_5 : decode cX0_firstClosedDoor 5 = .ok (.iload_n 2, 1) := by decide +kernel
theorem dX0_firstClosedDoor_6 : decode cX0_firstClosedDoor 6 = .ok (.iload_n 3, 1) := by decide +kernel
theorem dX0_firstClosedDoor_7 : decode cX0_firstClosedDoor 7 = .ok (.iadd, 1) := by decide +kernel
theorem dX0_firstClosedDoor_8 : decode cX0_firstClosedDoor 8 = .ok (.if_icmp .ge 34, 3) := by decide +kernel
theorem dX0_firstClosedDoor_11 : decode cX0_firstClosedDoor 11 = .ok (.aload_n 0, 1) := by decide +kernel
theorem dX0_firstClosedDoor_12 : decode cX0_firstClosedDoor 12 = .ok (.iload_n 1, 1) := by decide +kernel
theorem dX0_firstClosedDoor_13 : decode cX0_firstClosedDoor 13 = .ok (.aload_n 0, 1) := by decide +kernel
theorem dX0_firstClosedDoor_14 : decode cX0_firstClosedDoor 14 = .ok (.getfield 26, 3) := by decide +kernel
theorem dX0_firstClosedDoor_17 : decode cX0_firstClosedDoor 17 = .ok (.iload 4, 2) := by decide +kernel
theorem dX0_firstClosedDoor_19 : decode cX0_firstClosedDoor 19 = .ok (.iaload, 1) := by decide +kernel
theorem dX0_firstClosedDoor_20 : decode cX0_firstClosedDoor 20 = .ok (.aload_n 0, 1) := by decide +kernel
theorem dX0_firstClosedDoor_21 : decode cX0_firstClosedDoor 21 = .ok (.getfield 29, 3) := by decide +kernel
theorem dX0_firstClosedDoor_24 : decode cX0_firstClosedDoor 24 = .ok (.iload 4, 2) := by decide +kernel
theorem dX0_firstClosedDoor_26 : decode cX0_firstClosedDoor 26 = .ok (.iaload, 1) := by decide +kernel
theorem dX0_firstClosedDoor_27 : decode cX0_firstClosedDoor 27 = .ok (.invokevirtual 76, 3) := by decide +kernel
theorem dX0_firstClosedDoor_30 : decode cX0_firstClosedDoor 30 = .ok (.ifCond .ne 6, 3) := by decide +kernel
theorem dX0_firstClosedDoor_33 : decode cX0_firstClosedDoor 33 = .ok (.iload 4, 2) := by decide +kernel
theorem dX0_firstClosedDoor_35 : decode cX0_firstClosedDoor 35 = .ok (.ireturn, 1) := by decide +kernel
theorem dX0_firstClosedDoor_36 : decode cX0_firstClosedDoor 36 = .ok (.iinc 4 1, 3) := by decide +kernel
theorem dX0_firstClosedDoor_39 : decode cX0_firstClosedDoor 39 = .ok (.goto (-36), 3) := by decide +kernel
theorem dX0_firstClosedDoor_42 : decode cX0_firstClosedDoor 42 = .ok (.iconst (-1), 1) := by decide +kernel
theorem dX0_firstClosedDoor_43 : decode cX0_firstClosedDoor 43 = .ok (.ireturn, 1) := by decide +kernel
theorem dX0_areAlike_0 : decode cX0_areAlike 0 = .ok (.aload_n 0, 1) := by decide +kernel
theorem dX0_areAlike_1 : decode cX0_areAlike 1 = .ok (.iload_n 1, 1) := by decide +kernel
theorem dX0_areAlike_2 : decode cX0_areAlike 2 = .ok (.invokevirtual 111, 3) := by decide +kernel
theorem dX0_areAlike_5 : decode cX0_areAlike 5 = .ok (.ifCond .ne 11, 3) := by decide +kernel
theorem dX0_areAlike_8 : decode cX0_areAlike 8 = .ok (.aload_n 0, 1) := by decide +kernel
theorem dX0_areAlike_9 : decode cX0_areAlike 9 = .ok (.iload_n 2, 1) := by decide +kernel
theorem dX0_areAlike_10 : decode cX0_areAlike 10 = .ok (.invokevirtual 111, 3) := by decide +kernel
theorem dX0_areAlike_13 : decode cX0_areAlike 13 = .ok (.ifCond .eq 5, 3) := by decide +kernel
theorem dX0_areAlike_16 : decode cX0_areAlike 16 = .ok (.iconst 0, 1) := by decide +kernel
theorem dX0_areAlike_17 : decode cX0_areAlike 17 = .ok (.ireturn, 1) := by decide +kernel
theorem dX0_areAlike_18 : decode cX0_areAlike 18 = .ok (.aload_n 0, 1) := by decide +kernel
theorem dX0_areAlike_19 : decode cX0_areAlike 19 = .ok (.iload_n 1, 1) := by decide +kernel
theorem dX0_areAlike_20 : decode cX0_areAlike 20 = .ok (.invokevirtual 124, 3) := by decide +kernel
theorem dX0_areAlike_23 : decode cX0_areAlike 23 = .ok (.aload_n 0, 1) := by decide +kernel
theorem dX0_areAlike_24 : decode cX0_areAlike 24 = .ok (.iload_n 2, 1) := by decide +kernel
theorem dX0_areAlike_25 : decode cX0_areAlike 25 = .ok (.invokevirtual 124, 3) := by decide +kernel
theorem dX0_areAlike_28 : decode cX0_areAlike 28 = .ok (.if_icmp .eq 5, 3) := by decide +kernel
theorem dX0_areAlike_31 : decode cX0_areAlike 31 = .ok (.iconst 0, 1) := by decide +kernel
theorem dX0_areAlike_32 : decode cX0_areAlike 32 = .ok (.ireturn, 1) := by decide +kernel
theorem dX0_areAlike_33 : decode cX0_areAlike 33 = .ok (.aload_n 0, 1) := by decide +kernel
theorem dX0_areAlike_34 : decode cX0_areAlike 34 = .ok (.iload_n 1, 1) := by decide +kernel
theorem dX0_areAlike_35 : decode cX0_areAlike 35 = .ok (.invokevirtual 124, 3) := by decide +kernel
theorem dX0_areAlike_38 : decode cX0_areAlike 38 = .ok (.ifCond .eq 18, 3) := by decide +kernel
theorem dX0_areAlike_41 : decode cX0_areAlike 41 = .ok (.aload_n 0, 1) := by decide +kernel
theorem dX0_areAlike_42 : decode cX0_areAlike 42 = .ok (.getfield 9, 3) := by decide +kernel
theorem dX0_areAlike_45 : decode cX0_areAlike 45 = .ok (.iload_n 1, 1) := by decide +kernel
theorem dX0_areAlike_46 : decode cX0_areAlike 46 = .ok (.iaload, 1) := by decide +kernel
theorem dX0_areAlike_47 : decode cX0_areAlike 47 = .ok (.aload_n 0, 1) := by decide +kernel
theorem dX0_areAlike_48 : decode cX0_areAlike 48 = .ok (.getfield 9, 3) := by decide +kernel
theorem dX0_areAlike_51 : decode cX0_areAlike 51 = .ok (.iload_n 2, 1) := by decide +kernel
theorem dX0_areAlike_52 : decode cX0_areAlike 52 = .ok (.iaload, 1) := by decide +kernel
theorem dX0_areAlike_53 : decode cX0_areAlike 53 = .ok (.if_icmp .ne 7, 3) := by decide +kernel
theorem dX0_areAlike_56 : decode cX0_areAlike 56 = .ok (.iconst 1, 1) := by decide +kernel
theorem dX0_areAlike_57 : decode cX0_areAlike 57 = .ok (.goto 4, 3) := by decide +kernel
theorem dX0_areAlike_60 : decode cX0_areAlike 60 = .ok (.iconst 0, 1) := by decide +kernel
theorem dX0_areAlike_61 : decode cX0_areAlike 61 = .ok (.ireturn, 1) := by decide +kernel
theorem dX0_countGoing_0 : decode cX0_countGoing 0 = .ok (.iconst 0, 1) := by decide +kernel
theorem dX0_countGoing_1 : decode cX0_countGoing 1 = .ok (.istore 5, 2) := by decide +kernel
theorem dX0_countGoing_3 : decode cX0_countGoing 3 = .ok (.iload 5, 2) := by decide +kernel
theorem dX0_countGoing_5 : decode cX0_countGoing 5 = .ok (.iload 4, 2) := by decide +kernel
theorem dX0_countGoing_7 : decode cX0_countGoing 7 = .ok (.if_icmp .ge 26, 3) := by decide +kernel
theorem dX0_countGoing_10 : decode cX0_countGoing 10 = .ok (.aload_n 0, 1) := by decide +kernel
theorem dX0_countGoing_11 : decode cX0_countGoing 11 = .ok (.aload_n 0, 1) := by decide +kernel
theorem dX0_countGoing_12 : decode cX0_countGoing 12 = .ok (.iload_n 1, 1) := by decide +kernel
theorem dX0_countGoing_13 : decode cX0_countGoing 13 = .ok (.iload_n 2, 1) := by decide +kernel
theorem dX0_countGoing_14 : decode cX0_countGoing 14 = .ok (.iload 5, 2) := by decide +kernel
theorem dX0_countGoing_16 : decode cX0_countGoing 16 = .ok (.iadd, 1) := by decide +kernel
theorem dX0_countGoing_17 : decode cX0_countGoing 17 = .ok (.invokevirtual 92, 3) := by decide +kernel
theorem dX0_countGoing_20 : decode cX0_countGoing 20 = .ok (.iload_n 3, 1) := by decide +kernel
theorem dX0_countGoing_21 : decode cX0_countGoing 21 = .ok (.invokevirtual 89, 3) := by decide +kernel
theorem dX0_countGoing_24 : decode cX0_countGoing 24 = .ok (.ifCond .eq 9, 3) := by decide +kernel
theorem dX0_countGoing_27 : decode cX0_countGoing 27 = .ok (.iinc 5 1, 3) := by decide +kernel
theorem dX0_countGoing_30 : decode cX0_countGoing 30 = .ok (.goto (-27), 3) := by decide +kernel
theorem dX0_countGoing_33 : decode cX0_countGoing 33 = .ok (.iload 5, 2) := by decide +kernel
theorem dX0_countGoing_35 : decode cX0_countGoing 35 = .ok (.ireturn, 1) := by decide +kernel
theorem dX0_movePlaces_0 : decode cX0_movePlaces 0 = .ok (.aload_n 0, 1) := by decide +kernel
theorem dX0_movePlaces_1 : decode cX0_movePlaces 1 = .ok (.getfield 22, 3) := by decide +kernel
theorem dX0_movePlaces_4 : decode cX0_movePlaces 4 = .ok (.iload_n 1, 1) := by decide +kernel
theorem dX0_movePlaces_5 : decode cX0_movePlaces 5 = .ok (.iload_n 2, 1) := by decide +kernel
theorem dX0_movePlaces_6 : decode cX0_movePlaces 6 = .ok (.invokestatic 70, 3) := by decide +kernel
theorem dX0_movePlaces_9 : decode cX0_movePlaces 9 = .ok (.aload_n 0, 1) := by decide +kernel
theorem dX0_movePlaces_10 : decode cX0_movePlaces 10 = .ok (.getfield 22, 3) := by decide +kernel
theorem dX0_movePlaces_13 : decode cX0_movePlaces 13 = .ok (.iload_n 3, 1) := by decide +kernel
theorem dX0_movePlaces_14 : decode cX0_movePlaces 14 = .ok (.iload 4, 2) := by decide +kernel
theorem dX0_movePlaces_16 : decode cX0_movePlaces 16 = .ok (.invokestatic 70, 3) := by decide +kernel
theorem dX0_movePlaces_19 : decode cX0_movePlaces 19 = .ok (.iload 5, 2) := by decide +kernel
theorem dX0_movePlaces_21 : decode cX0_movePlaces 21 = .ok (.invokestatic 148, 3) := by decide +kernel
theorem dX0_movePlaces_24 : decode cX0_movePlaces 24 = .ok (.return_, 1) := by decide +kernel
theorem dX0_worthWithin_0 : decode cX0_worthWithin 0 = .ok (.aload_n 0, 1) := by decide +kernel
theorem dX0_worthWithin_1 : decode cX0_worthWithin 1 = .ok (.iload_n 1, 1) := by decide +kernel
theorem dX0_worthWithin_2 : decode cX0_worthWithin 2 = .ok (.invokevirtual 137, 3) := by decide +kernel
theorem dX0_worthWithin_5 : decode cX0_worthWithin 5 = .ok (.ifCond .eq 7, 3) := by decide +kernel
theorem dX0_worthWithin_8 : decode cX0_worthWithin 8 = .ok (.iload_n 2, 1) := by decide +kernel
theorem dX0_worthWithin_9 : decode cX0_worthWithin 9 = .ok (.ifCond .ge 5, 3) := by decide +kernel
theorem dX0_worthWithin_12 : decode cX0_worthWithin 12 = .ok (.lconst 0, 1) := by decide +kernel
theorem dX0_worthWithin_13 : decode cX0_worthWithin 13 = .ok (.lreturn, 1) := by decide +kernel
theorem dX0_worthWithin_14 : decode cX0_worthWithin 14 = .ok (.aload_n 0, 1) := by decide +kernel
theorem dX0_worthWithin_15 : decode cX0_worthWithin 15 = .ok (.iload_n 1, 1) := by decide +kernel
theorem dX0_worthWithin_16 : decode cX0_worthWithin 16 = .ok (.invokevirtual 111, 3) := by decide +kernel
theorem dX0_worthWithin_19 : decode cX0_worthWithin 19 = .ok (.ifCond .eq 9, 3) := by decide +kernel
theorem dX0_worthWithin_22 : decode cX0_worthWithin 22 = .ok (.aload_n 0, 1) := by decide +kernel
theorem dX0_worthWithin_23 : decode cX0_worthWithin 23 = .ok (.iload_n 1, 1) := by decide +kernel
theorem dX0_worthWithin_24 : decode cX0_worthWithin 24 = .ok (.invokevirtual 154, 3) := by decide +kernel
theorem dX0_worthWithin_27 : decode cX0_worthWithin 27 = .ok (.lreturn, 1) := by decide +kernel
theorem dX0_worthWithin_28 : decode cX0_worthWithin 28 = .ok (.lconst 0, 1) := by decide +kernel
theorem dX0_worthWithin_29 : decode cX0_worthWithin 29 = .ok (.lstore_n 3, 1) := by decide +kernel
theorem dX0_worthWithin_30 : decode cX0_worthWithin 30 = .ok (.iconst 0, 1) := by decide +kernel
theorem dX0_worthWithin_31 : decode cX0_worthWithin 31 = .ok (.istore 5, 2) := by decide +kernel
theorem dX0_worthWithin_33 : decode cX0_worthWithin 33 = .ok (.iload 5, 2) := by decide +kernel
theorem dX0_worthWithin_35 : decode cX0_worthWithin 35 = .ok (.aload_n 0, 1) := by decide +kernel
theorem dX0_worthWithin_36 : decode cX0_worthWithin 36 = .ok (.getfield 16, 3) := by decide +kernel
theorem dX0_worthWithin_39 : decode cX0_worthWithin 39 = .ok (.iload_n 1, 1) := by decide +kernel
theorem dX0_worthWithin_40 : decode cX0_worthWithin 40 = .ok (.iaload, 1) := by decide +kernel
theorem dX0_worthWithin_41 : decode cX0_worthWithin 41 = .ok (.if_icmp .ge 48, 3) := by decide +kernel
theorem dX0_worthWithin_44 : decode cX0_worthWithin 44 = .ok (.lload_n 3, 1) := by decide +kernel
theorem dX0_worthWithin_45 : decode cX0_worthWithin 45 = .ok (.aload_n 0, 1) := by decide +kernel
theorem dX0_worthWithin_46 : decode cX0_worthWithin 46 = .ok (.iload_n 1, 1) := by decide +kernel
theorem dX0_worthWithin_47 : decode cX0_worthWithin 47 = .ok (.invokevirtual 124, 3) := by decide +kernel
theorem dX0_worthWithin_50 : decode cX0_worthWithin 50 = .ok (.ifCond .eq 17, 3) := by decide +kernel
theorem dX0_worthWithin_53 : decode cX0_worthWithin 53 = .ok (.aload_n 0, 1) := by decide +kernel
theorem dX0_worthWithin_54 : decode cX0_worthWithin 54 = .ok (.getfield 22, 3) := by decide +kernel
theorem dX0_worthWithin_57 : decode cX0_worthWithin 57 = .ok (.iload_n 1, 1) := by decide +kernel
theorem dX0_worthWithin_58 : decode cX0_worthWithin 58 = .ok (.iload 5, 2) := by decide +kernel
theorem dX0_worthWithin_60 : decode cX0_worthWithin 60 = .ok (.invokestatic 70, 3) := by decide +kernel
theorem dX0_worthWithin_63 : decode cX0_worthWithin 63 = .ok (.laload, 1) := by decide +kernel
theorem dX0_worthWithin_64 : decode cX0_worthWithin 64 = .ok (.goto 17, 3) := by decide +kernel
theorem dX0_worthWithin_67 : decode cX0_worthWithin 67 = .ok (.aload_n 0, 1) := by decide +kernel
theorem dX0_worthWithin_68 : decode cX0_worthWithin 68 = .ok (.aload_n 0, 1) := by decide +kernel
theorem dX0_worthWithin_69 : decode cX0_worthWithin 69 = .ok (.iload_n 1, 1) := by decide +kernel
theorem dX0_worthWithin_70 : decode cX0_worthWithin 70 = .ok (.iload 5, 2) := by decide +kernel
theorem dX0_worthWithin_72 : decode cX0_worthWithin 72 = .ok (.invokevirtual 92, 3) := by decide +kernel
theorem dX0_worthWithin_75 : decode cX0_worthWithin 75 = .ok (.iload_n 2, 1) := by decide +kernel
theorem dX0_worthWithin_76 : decode cX0_worthWithin 76 = .ok (.iconst 1, 1) := by decide +kernel
theorem dX0_worthWithin_77 : decode cX0_worthWithin 77 = .ok (.isub, 1) := by decide +kernel
theorem dX0_worthWithin_78 : decode cX0_worthWithin 78 = .ok (.invokevirtual 107, 3) := by decide +kernel
theorem dX0_worthWithin_81 : decode cX0_worthWithin 81 = .ok (.ladd, 1) := by decide +kernel
theorem dX0_worthWithin_82 : decode cX0_worthWithin 82 = .ok (.lstore_n 3, 1) := by decide +kernel
theorem dX0_worthWithin_83 : decode cX0_worthWithin 83 = .ok (.iinc 5 1, 3) := by decide +kernel
theorem dX0_worthWithin_86 : decode cX0_worthWithin 86 = .ok (.goto (-53), 3) := by decide +kernel
theorem dX0_worthWithin_89 : decode cX0_worthWithin 89 = .ok (.lload_n 3, 1) := by decide +kernel
theorem dX0_worthWithin_90 : decode cX0_worthWithin 90 = .ok (.lreturn, 1) := by decide +kernel
theorem dX0_worthOfPiece_0 : decode cX0_worthOfPiece 0 = .ok (.aload_n 0, 1) := by decide +kernel
theorem dX0_worthOfPiece_1 : decode cX0_worthOfPiece 1 = .ok (.getfield 19, 3) := by decide +kernel
theorem dX0_worthOfPiece_4 : decode cX0_worthOfPiece 4 = .ok (.iload_n 1, 1) := by decide +kernel
theorem dX0_worthOfPiece_5 : decode cX0_worthOfPiece 5 = .ok (.iaload, 1) := by decide +kernel
theorem dX0_worthOfPiece_6 : decode cX0_worthOfPiece 6 = .ok (.i2l, 1) := by decide +kernel
theorem dX0_worthOfPiece_7 : decode cX0_worthOfPiece 7 = .ok (.lstore_n 2, 1) := by decide +kernel
theorem dX0_worthOfPiece_8 : decode cX0_worthOfPiece 8 = .ok (.aload_n 0, 1) := by decide +kernel
theorem dX0_worthOfPiece_9 : decode cX0_worthOfPiece 9 = .ok (.getfield 9, 3) := by decide +kernel
theorem dX0_worthOfPiece_12 : decode cX0_worthOfPiece 12 = .ok (.iload_n 1, 1) := by decide +kernel
theorem dX0_worthOfPiece_13 : decode cX0_worthOfPiece 13 = .ok (.iaload, 1) := by decide +kernel
theorem dX0_worthOfPiece_14 : decode cX0_worthOfPiece 14 = .ok (.lookupswitch 38 #[(1, 26), (3, 32)], 26) := by decide +kernel
theorem dX0_worthOfPiece_40 : decode cX0_worthOfPiece 40 = .ok (.ldc2_w 158, 3) := by decide +kernel
theorem dX0_worthOfPiece_43 : decode cX0_worthOfPiece 43 = .ok (.lload_n 2, 1) := by decide +kernel
theorem dX0_worthOfPiece_44 : decode cX0_worthOfPiece 44 = .ok (.lmul, 1) := by decide +kernel
theorem dX0_worthOfPiece_45 : decode cX0_worthOfPiece 45 = .ok (.lreturn, 1) := by decide +kernel
theorem dX0_worthOfPiece_46 : decode cX0_worthOfPiece 46 = .ok (.lload_n 2, 1) := by decide +kernel
theorem dX0_worthOfPiece_47 : decode cX0_worthOfPiece 47 = .ok (.ldc2_w 160, 3) := by decide +kernel
theorem dX0_worthOfPiece_50 : decode cX0_worthOfPiece 50 = .ok (.ladd, 1) := by decide +kernel
theorem dX0_worthOfPiece_51 : decode cX0_worthOfPiece 51 = .ok (.lreturn, 1) := by decide +kernel
theorem dX0_worthOfPiece_52 : decode cX0_worthOfPiece 52 = .ok (.lload_n 2, 1) := by decide +kernel
theorem dX0_worthOfPiece_53 : decode cX0_worthOfPiece 53 = .ok (.lreturn, 1) := by decide +kernel
theorem dX0_frailWithin_0 : decode cX0_frailWithin 0 = .ok (.aload_n 0, 1) := by decide +kernel
theorem dX0_frailWithin_1 : decode cX0_frailWithin 1 = .ok (.iload_n 1, 1) := by decide +kernel
theorem dX0_frailWithin_2 : decode cX0_frailWithin 2 = .ok (.invokevirtual 137, 3) := by decide +kernel
theorem dX0_frailWithin_5 : decode cX0_frailWithin 5 = .ok (.ifCond .eq 7, 3) := by decide +kernel
theorem dX0_frailWithin_8 : decode cX0_frailWithin 8 = .ok (.iload_n 2, 1) := by decide +kernel
theorem dX0_frailWithin_9 : decode cX0_frailWithin 9 = .ok (.ifCond .ge 5, 3) := by decide +kernel
theorem dX0_frailWithin_12 : decode cX0_frailWithin 12 = .ok (.iconst 0, 1) := by decide +kernel
theorem dX0_frailWithin_13 : decode cX0_frailWithin 13 = .ok (.ireturn, 1) := by decide +kernel
theorem dX0_frailWithin_14 : decode cX0_frailWithin 14 = .ok (.aload_n 0, 1) := by decide +kernel
theorem dX0_frailWithin_15 : decode cX0_frailWithin 15 = .ok (.iload_n 1, 1) := by decide +kernel
theorem dX0_frailWithin_16 : decode cX0_frailWithin 16 = .ok (.invokevirtual 111, 3) := by decide +kernel
theorem dX0_frailWithin_19 : decode cX0_frailWithin 19 = .ok (.ifCond .eq 22, 3) := by decide +kernel
theorem dX0_frailWithin_22 : decode cX0_frailWithin 22 = .ok (.aload_n 0, 1) := by decide +kernel
theorem dX0_frailWithin_23 : decode cX0_frailWithin 23 = .ok (.getfield 9, 3) := by decide +kernel
theorem dX0_frailWithin_26 : decode cX0_frailWithin 26 = .ok (.iload_n 1, 1) := by decide +kernel
theorem dX0_frailWithin_27 : decode cX0_frailWithin 27 = .ok (.iaload, 1) := by decide +kernel
theorem dX0_frailWithin_28 : decode cX0_frailWithin 28 = .ok (.iconst 4, 1) := by decide +kernel
theorem dX0_frailWithin_29 : decode cX0_frailWithin 29 = .ok (.invokestatic 143, 3) := by decide +kernel
theorem dX0_frailWithin_32 : decode cX0_frailWithin 32 = .ok (.ifCond .eq 7, 3) := by decide +kernel
theorem dX0_frailWithin_35 : decode cX0_frailWithin 35 = .ok (.iconst 1, 1) := by decide +kernel
theorem dX0_frailWithin_36 : decode cX0_frailWithin 36 = .ok (.goto 4, 3) := by decide +kernel
theorem dX0_frailWithin_39 : decode cX0_frailWithin 39 = .ok (.iconst 0, 1) := by decide +kernel
theorem dX0_frailWithin_40 : decode cX0_frailWithin 40 = .ok (.ireturn, 1) := by decide +kernel
theorem dX0_frailWithin_41 : decode cX0_frailWithin 41 = .ok (.iconst 0, 1) := by decide +kernel
theorem dX0_frailWithin_42 : decode cX0_frailWithin 42 = .ok (.istore_n 3, 1) := by decide +kernel
theorem dX0_frailWithin_43 : decode cX0_frailWithin 43 = .ok (.iconst 0, 1) := by decide +kernel
theorem dX0_frailWithin_44 : decode cX0_frailWithin 44 = .ok (.istore 4, 2) := by decide +kernel
theorem dX0_frailWithin_46 : decode cX0_frailWithin 46 = .ok (.iload 4, 2) := by decide +kernel
theorem dX0_frailWithin_48 : decode cX0_frailWithin 48 = .ok (.aload_n 0, 1) := by decide +kernel
theorem dX0_frailWithin_49 : decode cX0_frailWithin 49 = .ok (.getfield 16, 3) := by decide +kernel
theorem dX0_frailWithin_52 : decode cX0_frailWithin 52 = .ok (.iload_n 1, 1) := by decide +kernel
theorem dX0_frailWithin_53 : decode cX0_frailWithin 53 = .ok (.iaload, 1) := by decide +kernel
theorem dX0_frailWithin_54 : decode cX0_frailWithin 54 = .ok (.if_icmp .ge 26, 3) := by decide +kernel
theorem dX0_frailWithin_57 : decode cX0_frailWithin 57 = .ok (.iload_n 3, 1) := by decide +kernel
theorem dX0_frailWithin_58 : decode cX0_frailWithin 58 = .ok (.aload_n 0, 1) := by decide +kernel
theorem dX0_frailWithin_59 : decode cX0_frailWithin 59 = .ok (.aload_n 0, 1) := by decide +kernel
theorem dX0_frailWithin_60 : decode cX0_frailWithin 60 = .ok (.iload_n 1, 1) := by decide +kernel
theorem dX0_frailWithin_61 : decode cX0_frailWithin 61 = .ok (.iload 4, 2) := by decide +kernel
theorem dX0_frailWithin_63 : decode cX0_frailWithin 63 = .ok (.invokevirtual 92, 3) := by decide +kernel
theorem dX0_frailWithin_66 : decode cX0_frailWithin 66 = .ok (.iload_n 2, 1) := by decide +kernel
theorem dX0_frailWithin_67 : decode cX0_frailWithin 67 = .ok (.iconst 1, 1) := by decide +kernel
theorem dX0_frailWithin_68 : decode cX0_frailWithin 68 = .ok (.isub, 1) := by decide +kernel
theorem dX0_frailWithin_69 : decode cX0_frailWithin 69 = .ok (.invokevirtual 134, 3) := by decide +kernel
theorem dX0_frailWithin_72 : decode cX0_frailWithin 72 = .ok (.iadd, 1) := by decide +kernel
theorem dX0_frailWithin_73 : decode cX0_frailWithin 73 = .ok (.istore_n 3, 1) := by decide +kernel
theorem dX0_frailWithin_74 : decode cX0_frailWithin 74 = .ok (.iinc 4 1, 3) := by decide +kernel
theorem dX0_frailWithin_77 : decode cX0_frailWithin 77 = .ok (.goto (-31), 3) := by decide +kernel
theorem dX0_frailWithin_80 : decode cX0_frailWithin 80 = .ok (.iload_n 3, 1) := by decide +kernel
theorem dX0_frailWithin_81 : decode cX0_frailWithin 81 = .ok (.ireturn, 1) := by decide +kernel
end
section
def RX1 : String := "DepotTraysModel"
def TX1 : u_T := fun k => match k with
  | 0 => ("DepotTraysModel", "things", "I", false)
  | 1 => ("DepotTraysModel", "bases", "[I", true)
  | 2 => ("DepotTraysModel", "depths", "[I", true)
  | 3 => ("DepotTraysModel", "sizes", "[I", true)
  | 4 => ("DepotTraysModel", "worths", "[I", true)
  | 5 => ("DepotTraysModel", "lies", "[I", true)
  | 6 => ("DepotTraysModel", "numbers", "[J", true)
  | 7 => ("DepotTraysModel", "doorBase", "[I", true)
  | 8 => ("DepotTraysModel", "doorDepth", "[I", true)
  | 9 => ("DepotTraysModel", "failures", "I", false)
  | 10 => ("DepotTraysModel", "latest", "I", false)
  | 11 => ("DepotTraysModel", "last", "I", false)
  | 12 => ("DepotTraysModel", "sums", "[J", true)
  | 13 => ("DepotTraysModel", "counts", "[I", true)
  | 14 => ("DepotTraysModel", "moved", "[I", true)
  | _ => ("DepotTraysModel", "movedNumbers", "[J", true)
def tyX1 : Nat → FieldType := fun k => match k with
  | 0 => .int
  | 1 => .array .int
  | 2 => .array .int
  | 3 => .array .int
  | 4 => .array .int
  | 5 => .array .int
  | 6 => .array .long
  | 7 => .array .int
  | 8 => .array .int
  | 9 => .int
  | 10 => .int
  | 11 => .int
  | 12 => .array .long
  | 13 => .array .int
  | 14 => .array .int
  | _ => .array .long
abbrev wsX10 : List Cond := u_ws RX1 TX1 16
theorem nmX1 : ∀ a, a < 16 → ∀ b, b < 16 → a ≠ b → (TX1 a).2.1 ≠ (TX1 b).2.1 := by decide +kernel
theorem tyX1_ok : ∀ k, k < 16 → parseFieldDescriptor (TX1 k).2.2.1 = some (tyX1 k) := by decide +kernel
abbrev cX1_init : ByteArray := prog_3_method_1_code
def yX1_init : MethodName := ⟨RX1, "<init>", "()V"⟩
abbrev cX1_isIn : ByteArray := prog_3_method_3_code
def yX1_isIn : MethodName := ⟨RX1, "isIn", "(III)Z"⟩
abbrev cX1_fails : ByteArray := prog_3_method_4_code
def yX1_fails : MethodName := ⟨RX1, "fails", "(I)I"⟩
abbrev cX1_isThing : ByteArray := prog_3_method_5_code
def yX1_isThing : MethodName := ⟨RX1, "isThing", "(I)Z"⟩
abbrev cX1_mayBe : ByteArray := prog_3_method_6_code
def yX1_mayBe : MethodName := ⟨RX1, "mayBe", "(I)Z"⟩
abbrev cX1_goesFor : ByteArray := prog_3_method_7_code
def yX1_goesFor : MethodName := ⟨RX1, "goesFor", "(II)Z"⟩
abbrev cX1_isSuch : ByteArray := prog_3_method_8_code
def yX1_isSuch : MethodName := ⟨RX1, "isSuch", "(III)Z"⟩
abbrev cX1_isLedger : ByteArray := prog_3_method_9_code
def yX1_isLedger : MethodName := ⟨RX1, "isLedger", "(I)Z"⟩
abbrev cX1_make : ByteArray := prog_3_method_10_code
def yX1_make : MethodName := ⟨RX1, "make", "(IIII)I"⟩
abbrev cX1_piece : ByteArray := prog_3_method_11_code
def yX1_piece : MethodName := ⟨RX1, "piece", "(II)I"⟩
abbrev cX1_isShape : ByteArray := prog_3_method_12_code
def yX1_isShape : MethodName := ⟨RX1, "isShape", "(II)Z"⟩
abbrev cX1_row : ByteArray := prog_3_method_13_code
def yX1_row : MethodName := ⟨RX1, "row", "(III)I"⟩
abbrev cX1_grid : ByteArray := prog_3_method_14_code
def yX1_grid : MethodName := ⟨RX1, "grid", "(III)I"⟩
abbrev cX1_put : ByteArray := prog_3_method_15_code
def yX1_put : MethodName := ⟨RX1, "put", "(III)I"⟩
abbrev cX1_get : ByteArray := prog_3_method_16_code
def yX1_get : MethodName := ⟨RX1, "get", "(II)I"⟩
abbrev cX1_refused : ByteArray := prog_3_method_17_code
def yX1_refused : MethodName := ⟨RX1, "refused", "(II)I"⟩
abbrev cX1_set : ByteArray := prog_3_method_18_code
def yX1_set : MethodName := ⟨RX1, "set", "(IIJ)I"⟩
abbrev cX1_number : ByteArray := prog_3_method_19_code
def yX1_number : MethodName := ⟨RX1, "number", "(II)J"⟩
abbrev cX1_isAsked : ByteArray := prog_3_method_20_code
def yX1_isAsked : MethodName := ⟨RX1, "isAsked", "(II)Z"⟩
abbrev cX1_is : ByteArray := prog_3_method_21_code
def yX1_is : MethodName := ⟨RX1, "is", "(III)I"⟩
abbrev cX1_door : ByteArray := prog_3_method_22_code
def yX1_door : MethodName := ⟨RX1, "door", "(III)I"⟩
abbrev cX1_through : ByteArray := prog_3_method_23_code
def yX1_through : MethodName := ⟨RX1, "through", "(III)I"⟩
abbrev cX1_lastDoor : ByteArray := prog_3_method_24_code
def yX1_lastDoor : MethodName := ⟨RX1, "lastDoor", "()I"⟩
abbrev cX1_addUp : ByteArray := prog_3_method_25_code
def yX1_addUp : MethodName := ⟨RX1, "addUp", "()V"⟩
abbrev cX1_addOne : ByteArray := prog_3_method_26_code
def yX1_addOne : MethodName := ⟨RX1, "addOne", "(I)V"⟩
abbrev cX1_worth : ByteArray := prog_3_method_27_code
def yX1_worth : MethodName := ⟨RX1, "worth", "(I)J"⟩
abbrev cX1_frail : ByteArray := prog_3_method_28_code
def yX1_frail : MethodName := ⟨RX1, "frail", "(I)I"⟩
abbrev cX1_copy : ByteArray := prog_3_method_29_code
def yX1_copy : MethodName := ⟨RX1, "copy", "(I)I"⟩
abbrev cX1_isSpan : ByteArray := prog_3_method_30_code
def yX1_isSpan : MethodName := ⟨RX1, "isSpan", "(III)Z"⟩
abbrev cX1_carry : ByteArray := prog_3_method_31_code
def yX1_carry : MethodName := ⟨RX1, "carry", "(IIIII)I"⟩
abbrev cX1_about : ByteArray := prog_3_method_32_code
def yX1_about : MethodName := ⟨RX1, "about", "(II)I"⟩
abbrev cX1_bases : ByteArray := prog_3_method_33_code
def yX1_bases : MethodName := ⟨RX1, "bases", "(I)I"⟩
abbrev cX1_count : ByteArray := prog_3_method_34_code
def yX1_count : MethodName := ⟨RX1, "count", "(I)I"⟩
abbrev cX1_clear : ByteArray := prog_3_method_35_code
def yX1_clear : MethodName := ⟨RX1, "clear", "()I"⟩
theorem dX1_init_0 : decode cX1_init 0 = .ok (.aload_n 0, 1) := by decide +kernel
theorem dX1_init_1 : decode cX1_init 1 = .ok (.invokespecial 1, 3) := by decide +kernel
theorem dX1_init_4 : decode cX1_init 4 = .ok (.aload_n 0, 1) := by decide +kernel
theorem dX1_init_5 : decode cX1_init 5 = .ok (.bipush 60, 2) := by decide +kernel
theorem dX1_init_7 : decode cX1_init 7 = .ok (.newarray .int, 2) := by decide +kernel
theorem dX1_init_9 : decode cX1_init 9 = .ok (.putfield 7, 3) := by decide +kernel
theorem dX1_init_12 : decode cX1_init 12 = .ok (.aload_n 0, 1) := by decide +kernel
theorem dX1_init_13 : decode cX1_init 13 = .ok (.bipush 60, 2) := by decide +kernel
theorem dX1_init_15 : decode cX1_init 15 = .ok (.newarray .int, 2) := by decide +kernel
theorem dX1_init_17 : decode cX1_init 17 = .ok (.putfield 13, 3) := by decide +kernel
theorem dX1_init_20 : decode cX1_init 20 = .ok (.aload_n 0, 1) := by decide +kernel
theorem dX1_init_21 : decode cX1_init 21 = .ok (.bipush 60, 2) := by decide +kernel
theorem dX1_init_23 : decode cX1_init 23 = .ok (.newarray .int, 2) := by decide +kernel
theorem dX1_init_25 : decode cX1_init 25 = .ok (.putfield 16, 3) := by decide +kernel
theorem dX1_init_28 : decode cX1_init 28 = .ok (.aload_n 0, 1) := by decide +kernel
theorem dX1_init_29 : decode cX1_init 29 = .ok (.bipush 60, 2) := by decide +kernel
theorem dX1_init_31 : decode cX1_init 31 = .ok (.newarray .int, 2) := by decide +kernel
theorem dX1_init_33 : decode cX1_init 33 = .ok (.putfield 19, 3) := by decide +kernel
theorem dX1_init_36 : decode cX1_init 36 = .ok (.aload_n 0, 1) := by decide +kernel
theorem dX1_init_37 : decode cX1_init 37 = .ok (.sipush 480, 3) := by decide +kernel
theorem dX1_init_40 : decode cX1_init 40 = .ok (.newarray .int, 2) := by decide +kernel
theorem dX1_init_42 : decode cX1_init 42 = .ok (.putfield 22, 3) := by decide +kernel
theorem dX1_init_45 : decode cX1_init 45 = .ok (.aload_n 0, 1) := by decide +kernel
theorem dX1_init_46 : decode cX1_init 46 = .ok (.sipush 480, 3) := by decide +kernel
theorem dX1_init_49 : decode cX1_init 49 = .ok (.newarray .long, 2) := by decide +kernel
theorem dX1_init_51 : decode cX1_init 51 = .ok (.putfield 25, 3) := by decide +kernel
theorem dX1_init_54 : decode cX1_init 54 = .ok (.aload_n 0, 1) := by decide +kernel
theorem dX1_init_55 : decode cX1_init 55 = .ok (.bipush 8, 2) := by decide +kernel
theorem dX1_init_57 : decode cX1_init 57 = .ok (.newarray .int, 2) := by decide +kernel
theorem dX1_init_59 : decode cX1_init 59 = .ok (.putfield 29, 3) := by decide +kernel
theorem dX1_init_62 : decode cX1_init 62 = .ok (.aload_n 0, 1) := by decide +kernel
theorem dX1_init_63 : decode cX1_init 63 = .ok (.bipush 8, 2) := by decide +kernel
theorem dX1_init_65 : decode cX1_init 65 = .ok (.newarray .int, 2) := by decide +kernel
theorem dX1_init_67 : decode cX1_init 67 = .ok (.putfield 32, 3) := by decide +kernel
theorem dX1_init_70 : decode cX1_init 70 = .ok (.aload_n 0, 1) := by decide +kernel
theorem dX1_init_71 : decode cX1_init 71 = .ok (.iconst (-1), 1) := by decide +kernel
theorem dX1_init_72 : decode cX1_init 72 = .ok (.putfield 35, 3) := by decide +kernel
theorem dX1_init_75 : decode cX1_init 75 = .ok (.aload_n 0, 1) := by decide +kernel
theorem dX1_init_76 : decode cX1_init 76 = .ok (.bipush 60, 2) := by decide +kernel
theorem dX1_init_78 : decode cX1_init 78 = .ok (.newarray .long, 2) := by decide +kernel
theorem dX1_init_80 : decode cX1_init 80 = .ok (.putfield 39, 3) := by decide +kernel
theorem dX1_init_83 : decode cX1_init 83 = .ok (.aload_n 0, 1) := by decide +kernel
theorem dX1_init_84 : decode cX1_init 84 = .ok (.bipush 60, 2) := by decide +kernel
theorem dX1_init_86 : decode cX1_init 86 = .ok (.newarray .int, 2) := by decide +kernel
theorem dX1_init_88 : decode cX1_init 88 = .ok (.putfield 42, 3) := by decide +kernel
theorem dX1_init_91 : decode cX1_init 91 = .ok (.aload_n 0, 1) := by decide +kernel
theorem dX1_init_92 : decode cX1_init 92 = .ok (.bipush 8, 2) := by decide +kernel
theorem dX1_init_94 : decode cX1_init 94 = .ok (.newarray .int, 2) := by decide +kernel
theorem dX1_init_96 : decode cX1_init 96 = .ok (.putfield 45, 3) := by decide +kernel
theorem dX1_init_99 : decode cX1_init 99 = .ok (.aload_n 0, 1) := by decide +kernel
theorem dX1_init_100 : decode cX1_init 100 = .ok (.bipush 8, 2) := by decide +kernel
theorem dX1_init_102 : decode cX1_init 102 = .ok (.newarray .long, 2) := by decide +kernel
theorem dX1_init_104 : decode cX1_init 104 = .ok (.putfield 48, 3) := by decide +kernel
theorem dX1_init_107 : decode cX1_init 107 = .ok (.return_, 1) := by decide +kernel
theorem dX1_isIn_0 : decode cX1_isIn 0 = .ok (.iload_n 0, 1) := by decide +kernel
theorem dX1_isIn_1 : decode cX1_isIn 1 = .ok (.iload_n 1, 1) := by decide +kernel
theorem dX1_isIn_2 : decode cX1_isIn 2 = .ok (.if_icmp .lt 12, 3) := by decide +kernel
theorem dX1_isIn_5 : decode cX1_isIn 5 = .ok (.iload_n 0, 1) := by decide +kernel
theorem dX1_isIn_6 : decode cX1_isIn 6 = .ok (.iload_n 2, 1) := by decide +kernel
theorem dX1_isIn_7 : decode cX1_isIn 7 = .ok (.if_icmp .gt 7, 3) := by decide +kernel
theorem dX1_isIn_10 : decode cX1_isIn 10 = .ok (.iconst 1, 1) := by decide +kernel
theorem dX1_isIn_11 : decode cX1_isIn 11 = .ok (.goto 4, 3) := by decide +kernel
theorem dX1_isIn_14 : decode cX1_isIn 14 = .ok (.iconst 0, 1) := by decide +kernel
theorem dX1_isIn_15 : decode cX1_isIn 15 = .ok (.ireturn, 1) := by decide +kernel
theorem dX1_fails_0 : decode cX1_fails 0 = .ok (.aload_n 0, 1) := by decide +kernel
theorem dX1_fails_1 : decode cX1_fails 1 = .ok (.dup, 1) := by decide +kernel
theorem dX1_fails_2 : decode cX1_fails 2 = .ok (.getfield 51, 3) := by decide +kernel
theorem dX1_fails_5 : decode cX1_fails 5 = .ok (.iconst 1, 1) := by decide +kernel
theorem dX1_fails_6 : decode cX1_fails 6 = .ok (.iadd, 1) := by decide +kernel
theorem dX1_fails_7 : decode cX1_fails 7 = .ok (.putfield 51, 3) := by decide +kernel
theorem dX1_fails_10 : decode cX1_fails 10 = .ok (.aload_n 0, 1) := by decide +kernel
theorem dX1_fails_11 : decode cX1_fails 11 = .ok (.iload_n 1, 1) := by decide +kernel
theorem dX1_fails_12 : decode cX1_fails 12 = .ok (.putfield 54, 3) := by decide +kernel
theorem dX1_fails_15 : decode cX1_fails 15 = .ok (.bipush (-10), 2) := by decide +kernel
theorem dX1_fails_17 : decode cX1_fails 17 = .ok (.iload_n 1, 1) := by decide +kernel
theorem dX1_fails_18 : decode cX1_fails 18 = .ok (.isub, 1) := by decide +kernel
theorem dX1_fails_19 : decode cX1_fails 19 = .ok (.ireturn, 1) := by decide +kernel
theorem dX1_isThing_0 : decode cX1_isThing 0 = .ok (.iload_n 1, 1) := by decide +kernel
theorem dX1_isThing_1 : decode cX1_isThing 1 = .ok (.iconst 0, 1) := by decide +kernel
theorem dX1_isThing_2 : decode cX1_isThing 2 = .ok (.aload_n 0, 1) := by decide +kernel
theorem dX1_isThing_3 : decode cX1_isThing 3 = .ok (.getfield 57, 3) := by decide +kernel
theorem dX1_isThing_6 : decode cX1_isThing 6 = .ok (.iconst 1, 1) := by decide +kernel
theorem dX1_isThing_7 : decode cX1_isThing 7 = .ok (.isub, 1) := by decide +kernel
theorem dX1_isThing_8 : decode cX1_isThing 8 = .ok (.invokestatic 60, 3) := by decide +kernel
theorem dX1_isThing_11 : decode cX1_isThing 11 = .ok (.ireturn, 1) := by decide +kernel
theorem dX1_mayBe_0 : decode cX1_mayBe 0 = .ok (.iload_n 1, 1) := by decide +kernel
theorem dX1_mayBe_1 : decode cX1_mayBe 1 = .ok (.iconst (-1), 1) := by decide +kernel
theorem dX1_mayBe_2 : decode cX1_mayBe 2 = .ok (.aload_n 0, 1) := by decide +kernel
theorem dX1_mayBe_3 : decode cX1_mayBe 3 = .ok (.getfield 57, 3) := by decide +kernel
theorem dX1_mayBe_6 : decode cX1_mayBe 6 = .ok (.iconst 1, 1) := by decide +kernel
theorem dX1_mayBe_7 : decode cX1_mayBe 7 = .ok (.isub, 1) := by decide +kernel
theorem dX1_mayBe_8 : decode cX1_mayBe 8 = .ok (.invokestatic 60, 3) := by decide +kernel
theorem dX1_mayBe_11 : decode cX1_mayBe 11 = .ok (.ireturn, 1) := by decide +kernel
theorem dX1_goesFor_0 : decode cX1_goesFor 0 = .ok (.iload_n 0, 1) := by decide +kernel
theorem dX1_goesFor_1 : decode cX1_goesFor 1 = .ok (.iload_n 1, 1) := by decide +kernel
theorem dX1_goesFor_2 : decode cX1_goesFor 2 = .ok (.if_icmp .eq 41, 3) := by decide +kernel
theorem dX1_goesFor_5 : decode cX1_goesFor 5 = .ok (.iload_n 1, 1) := by decide +kernel
theorem dX1_goesFor_6 : decode cX1_goesFor 6 = .ok (.ifCond .ne 12, 3) := by decide +kernel
theorem dX1_goesFor_9 : decode cX1_goesFor 9 = .ok (.iload_n 0, 1) := by decide +kernel
theorem dX1_goesFor_10 : decode cX1_goesFor 10 = .ok (.iconst 1, 1) := by decide +kernel
theorem dX1_goesFor_11 : decode cX1_goesFor 11 = .ok (.iconst 3, 1) := by decide +kernel
theorem dX1_goesFor_12 : decode cX1_goesFor 12 = .ok (.invokestatic 60, 3) := by decide +kernel
theorem dX1_goesFor_15 : decode cX1_goesFor 15 = .ok (.ifCond .ne 28, 3) := by decide +kernel
theorem dX1_goesFor_18 : decode cX1_goesFor 18 = .ok (.iload_n 0, 1) := by decide +kernel
theorem dX1_goesFor_19 : decode cX1_goesFor 19 = .ok (.iconst 3, 1) := by decide +kernel
theorem dX1_goesFor_20 : decode cX1_goesFor 20 = .ok (.if_icmp .ne 8, 3) := by decide +kernel
theorem dX1_goesFor_23 : decode cX1_goesFor 23 = .ok (.iload_n 1, 1) := by decide +kernel
theorem dX1_goesFor_24 : decode cX1_goesFor 24 = .ok (.iconst 2, 1) := by decide +kernel
theorem dX1_goesFor_25 : decode cX1_goesFor 25 = .ok (.if_icmp .eq 18, 3) := by decide +kernel
theorem dX1_goesFor_28 : decode cX1_goesFor 28 = .ok (.iload_n 1, 1) := by decide +kernel
theorem dX1_goesFor_29 : decode cX1_goesFor 29 = .ok (.iconst 4, 1) := by decide +kernel
theorem dX1_goesFor_30 : decode cX1_goesFor 30 = .ok (.if_icmp .ne 17, 3) := by decide +kernel
theorem dX1_goesFor_33 : decode cX1_goesFor 33 = .ok (.iload_n 0, 1) := by decide +kernel
theorem dX1_goesFor_34 : decode cX1_goesFor 34 = .ok (.iconst 1, 1) := by decide +kernel
theorem dX1_goesFor_35 : decode cX1_goesFor 35 = .ok (.if_icmp .eq 8, 3) := by decide +kernel
theorem dX1_goesFor_38 : decode cX1_goesFor 38 = .ok (.iload_n 0, 1) := by decide +kernel
theorem dX1_goesFor_39 : decode cX1_goesFor 39 = .ok (.iconst 3, 1) := by decide +kernel
theorem dX1_goesFor_40 : decode cX1_goesFor 40 = .ok (.if_icmp .ne 7, 3) := by decide +kernel
theorem dX1_goesFor_43 : decode cX1_goesFor 43 = .ok (.iconst 1, 1) := by decide +kernel
theorem dX1_goesFor_44 : decode cX1_goesFor 44 = .ok (.goto 4, 3) := by decide +kernel
theorem dX1_goesFor_47 : decode cX1_goesFor 47 = .ok (.iconst 0, 1) := by decide +kernel
theorem dX1_goesFor_48 : decode cX1_goesFor 48 = .ok (.ireturn, 1) := by decide +kernel
theorem dX1_isSuch_0 : decode cX1_isSuch 0 = .ok (.iload_n 1, 1) := by decide +kernel
theorem dX1_isSuch_1 : decode cX1_isSuch 1 = .ok (.ifCond .lt 30, 3) := by decide +kernel
theorem dX1_isSuch_4 : decode cX1_isSuch 4 = .ok (.aload_n 0, 1) := by decide +kernel
theorem dX1_isSuch_5 : decode cX1_isSuch 5 = .ok (.getfield 13, 3) := by decide +kernel
theorem dX1_isSuch_8 : decode cX1_isSuch 8 = .ok (.iload_n 1, 1) := by decide +kernel
theorem dX1_isSuch_9 : decode cX1_isSuch 9 = .ok (.iaload, 1) := by decide +kernel
theorem dX1_isSuch_10 : decode cX1_isSuch 10 = .ok (.iload_n 3, 1) := by decide +kernel
theorem dX1_isSuch_11 : decode cX1_isSuch 11 = .ok (.if_icmp .ne 20, 3) := by decide +kernel
theorem dX1_isSuch_14 : decode cX1_isSuch 14 = .ok (.aload_n 0, 1) := by decide +kernel
theorem dX1_isSuch_15 : decode cX1_isSuch 15 = .ok (.getfield 7, 3) := by decide +kernel
theorem dX1_isSuch_18 : decode cX1_isSuch 18 = .ok (.iload_n 1, 1) := by decide +kernel
theorem dX1_isSuch_19 : decode cX1_isSuch 19 = .ok (.iaload, 1) := by decide +kernel
theorem dX1_isSuch_20 : decode cX1_isSuch 20 = .ok (.iload_n 2, 1) := by decide +kernel
theorem dX1_isSuch_21 : decode cX1_isSuch 21 = .ok (.invokestatic 64, 3) := by decide +kernel
theorem dX1_isSuch_24 : decode cX1_isSuch 24 = .ok (.ifCond .eq 7, 3) := by decide +kernel
theorem dX1_isSuch_27 : decode cX1_isSuch 27 = .ok (.iconst 1, 1) := by decide +kernel
theorem dX1_isSuch_28 : decode cX1_isSuch 28 = .ok (.goto 4, 3) := by decide +kernel
theorem dX1_isSuch_31 : decode cX1_isSuch 31 = .ok (.iconst 0, 1) := by decide +kernel
theorem dX1_isSuch_32 : decode cX1_isSuch 32 = .ok (.ireturn, 1) := by decide +kernel
theorem dX1_isLedger_0 : decode cX1_isLedger 0 = .ok (.aload_n 0, 1) := by decide +kernel
theorem dX1_isLedger_1 : decode cX1_isLedger 1 = .ok (.getfield 13, 3) := by decide +kernel
theorem dX1_isLedger_4 : decode cX1_isLedger 4 = .ok (.iload_n 1, 1) := by decide +kernel
theorem dX1_isLedger_5 : decode cX1_isLedger 5 = .ok (.iaload, 1) := by decide +kernel
theorem dX1_isLedger_6 : decode cX1_isLedger 6 = .ok (.iconst 1, 1) := by decide +kernel
theorem dX1_isLedger_7 : decode cX1_isLedger 7 = .ok (.if_icmp .ne 17, 3) := by decide +kernel
theorem dX1_isLedger_10 : decode cX1_isLedger 10 = .ok (.aload_n 0, 1) := by decide +kernel
theorem dX1_isLedger_11 : decode cX1_isLedger 11 = .ok (.getfield 7, 3) := by decide +kernel
theorem dX1_isLedger_14 : decode cX1_isLedger 14 = .ok (.iload_n 1, 1) := by decide +kernel
theorem dX1_isLedger_15 : decode cX1_isLedger 15 = .ok (.iaload, 1) := by decide +kernel
theorem dX1_isLedger_16 : decode cX1_isLedger 16 = .ok (.iconst 4, 1) := by decide +kernel
theorem dX1_isLedger_17 : decode cX1_isLedger 17 = .ok (.if_icmp .le 7, 3) := by decide +kernel
theorem dX1_isLedger_20 : decode cX1_isLedger 20 = .ok (.iconst 1, 1) := by decide +kernel
theorem dX1_isLedger_21 : decode cX1_isLedger 21 = .ok (.goto 4, 3) := by decide +kernel
theorem dX1_isLedger_24 : decode cX1_isLedger 24 = .ok (.iconst 0, 1) := by decide +kernel
theorem dX1_isLedger_25 : decode cX1_isLedger 25 = .ok (.ireturn, 1) := by decide +kernel
theorem dX1_make_0 : decode cX1_make 0 = .ok (.aload_n 0, 1) := by decide +kernel
theorem dX1_make_1 : decode cX1_make 1 = .ok (.getfield 57, 3) := by decide +kernel
theorem dX1_make_4 : decode cX1_make 4 = .ok (.istore 5, 2) := by decide +kernel
theorem dX1_make_6 : decode cX1_make 6 = .ok (.aload_n 0, 1) := by decide +kernel
theorem dX1_make_7 : decode cX1_make 7 = .ok (.dup, 1) := by decide +kernel
theorem dX1_make_8 : decode cX1_make 8 = .ok (.getfield 57, 3) := by decide +kernel
theorem dX1_make_11 : decode cX1_make 11 = .ok (.iconst 1, 1) := by decide +kernel
theorem dX1_make_12 : decode cX1_make 12 = .ok (.iadd, 1) := by decide +kernel
theorem dX1_make_13 : decode cX1_make 13 = .ok (.putfield 57, 3) := by decide +kernel
theorem dX1_make_16 : decode cX1_make 16 = .ok (.aload_n 0, 1) := by decide +kernel
theorem dX1_make_17 : decode cX1_make 17 = .ok (.getfield 7, 3) := by decide +kernel
theorem dX1_make_20 : decode cX1_make 20 = .ok (.iload 5, 2) := by decide +kernel
theorem dX1_make_22 : decode cX1_make 22 = .ok (.iload_n 1, 1) := by decide +kernel
theorem dX1_make_23 : decode cX1_make 23 = .ok (.iastore, 1) := by decide +kernel
theorem dX1_make_24 : decode cX1_make 24 = .ok (.aload_n 0, 1) := by decide +kernel
theorem dX1_make_25 : decode cX1_make 25 = .ok (.getfield 13, 3) := by decide +kernel
theorem dX1_make_28 : decode cX1_make 28 = .ok (.iload 5, 2) := by decide +kernel
theorem dX1_make_30 : decode cX1_make 30 = .ok (.iload_n 2, 1) := by decide +kernel
theorem dX1_make_31 : decode cX1_make 31 = .ok (.iastore, 1) := by decide +kernel
theorem dX1_make_32 : decode cX1_make 32 = .ok (.aload_n 0, 1) := by decide +kernel
theorem dX1_make_33 : decode cX1_make 33 = .ok (.getfield 16, 3) := by decide +kernel
theorem dX1_make_36 : decode cX1_make 36 = .ok (.iload 5, 2) := by decide +kernel
theorem dX1_make_38 : decode cX1_make 38 = .ok (.iload_n 3, 1) := by decide +kernel
theorem dX1_make_39 : decode cX1_make 39 = .ok (.iastore, 1) := by decide +kernel
theorem dX1_make_40 : decode cX1_make 40 = .ok (.aload_n 0, 1) := by decide +kernel
theorem dX1_make_41 : decode cX1_make 41 = .ok (.getfield 19, 3) := by decide +kernel
theorem dX1_make_44 : decode cX1_make 44 = .ok (.iload 5, 2) := by decide +kernel
theorem dX1_make_46 : decode cX1_make 46 = .ok (.iload 4, 2) := by decide +kernel
theorem dX1_make_48 : decode cX1_make 48 = .ok (.iastore, 1) := by decide +kernel
theorem dX1_make_49 : decode cX1_make 49 = .ok (.iconst 0, 1) := by decide +kernel
theorem dX1_make_50 : decode cX1_make 50 = .ok (.istore 6, 2) := by decide +kernel
theorem dX1_make_52 : decode cX1_make 52 = .ok (.iload 6, 2) := by decide +kernel
theorem dX1_make_54 : decode cX1_make 54 = .ok (.bipush 8, 2) := by decide +kernel
theorem dX1_make_56 : decode cX1_make 56 = .ok (.if_icmp .ge 37, 3) := by decide +kernel
theorem dX1_make_59 : decode cX1_make 59 = .ok (.aload_n 0, 1) := by decide +kernel
theorem dX1_make_60 : decode cX1_make 60 = .ok (.getfield 22, 3) := by decide +kernel
theorem dX1_make_63 : decode cX1_make 63 = .ok (.bipush 8, 2) := by decide +kernel
theorem dX1_make_65 : decode cX1_make 65 = .ok (.iload 5, 2) := by decide +kernel
theorem dX1_make_67 : decode cX1_make 67 = .ok (.imul, 1) := by decide +kernel
theorem dX1_make_68 : decode cX1_make 68 = .ok (.iload 6, 2) := by decide +kernel
theorem dX1_make_70 : decode cX1_make 70 = .ok (.iadd, 1) := by decide +kernel
theorem dX1_make_71 : decode cX1_make 71 = .ok (.iconst (-1), 1) := by decide +kernel
theorem dX1_make_72 : decode cX1_make 72 = .ok (.iastore, 1) := by decide +kernel
theorem dX1_make_73 : decode cX1_make 73 = .ok (.aload_n 0, 1) := by decide +kernel
theorem dX1_make_74 : decode cX1_make 74 = .ok (.getfield 25, 3) := by decide +kernel
theorem dX1_make_77 : decode cX1_make 77 = .ok (.bipush 8, 2) := by decide +kernel
theorem dX1_make_79 : decode cX1_make 79 = .ok (.iload 5, 2) := by decide +kernel
theorem dX1_make_81 : decode cX1_make 81 = .ok (.imul, 1) := by decide +kernel
theorem dX1_make_82 : decode cX1_make 82 = .ok (.iload 6, 2) := by decide +kernel
theorem dX1_make_84 : decode cX1_make 84 = .ok (.iadd, 1) := by decide +kernel
theorem dX1_make_85 : decode cX1_make 85 = .ok (.lconst 0, 1) := by decide +kernel
theorem dX1_make_86 : decode cX1_make 86 = .ok (.lastore, 1) := by decide +kernel
theorem dX1_make_87 : decode cX1_make 87 = .ok (.iinc 6 1, 3) := by decide +kernel
theorem dX1_make_90 : decode cX1_make 90 = .ok (.goto (-38), 3) := by decide +kernel
theorem dX1_make_93 : decode cX1_make 93 = .ok (.iload 5, 2) := by decide +kernel
theorem dX1_make_95 : decode cX1_make 95 = .ok (.ireturn, 1) := by decide +kernel
theorem dX1_piece_0 : decode cX1_piece 0 = .ok (.iload_n 1, 1) := by decide +kernel
theorem dX1_piece_1 : decode cX1_piece 1 = .ok (.iconst 0, 1) := by decide +kernel
theorem dX1_piece_2 : decode cX1_piece 2 = .ok (.iconst 3, 1) := by decide +kernel
theorem dX1_piece_3 : decode cX1_piece 3 = .ok (.invokestatic 60, 3) := by decide +kernel
theorem dX1_piece_6 : decode cX1_piece 6 = .ok (.ifCond .ne 6, 3) := by decide +kernel
theorem dX1_piece_9 : decode cX1_piece 9 = .ok (.bipush (-2), 2) := by decide +kernel
theorem dX1_piece_11 : decode cX1_piece 11 = .ok (.ireturn, 1) := by decide +kernel
theorem dX1_piece_12 : decode cX1_piece 12 = .ok (.aload_n 0, 1) := by decide +kernel
theorem dX1_piece_13 : decode cX1_piece 13 = .ok (.getfield 57, 3) := by decide +kernel
theorem dX1_piece_16 : decode cX1_piece 16 = .ok (.bipush 60, 2) := by decide +kernel
theorem dX1_piece_18 : decode cX1_piece 18 = .ok (.if_icmp .ne 8, 3) := by decide +kernel
theorem dX1_piece_21 : decode cX1_piece 21 = .ok (.bipush (-3), 2) := by decide +kernel
theorem dX1_piece_23 : decode cX1_piece 23 = .ok (.goto 11, 3) := by decide +kernel
theorem dX1_piece_26 : decode cX1_piece 26 = .ok (.aload_n 0, 1) := by decide +kernel
theorem dX1_piece_27 : decode cX1_piece 27 = .ok (.iload_n 1, 1) := by decide +kernel
theorem dX1_piece_28 : decode cX1_piece 28 = .ok (.iconst 0, 1) := by decide +kernel
theorem dX1_piece_29 : decode cX1_piece 29 = .ok (.iconst 0, 1) := by decide +kernel
theorem dX1_piece_30 : decode cX1_piece 30 = .ok (.iload_n 2, 1) := by decide +kernel
theorem dX1_piece_31 : decode cX1_piece 31 = .ok (.invokevirtual 68, 3) := by decide +kernel
theorem dX1_piece_34 : decode cX1_piece 34 = .ok (.ireturn, 1) := by decide +kernel
theorem dX1_isShape_0 : decode cX1_isShape 0 = .ok (.iload_n 0, 1) := by decide +kernel
theorem dX1_isShape_1 : decode cX1_isShape 1 = .ok (.iconst 0, 1) := by decide +kernel
theorem dX1_isShape_2 : decode cX1_isShape 2 = .ok (.bipush 6, 2) := by decide +kernel
theorem dX1_isShape_4 : decode cX1_isShape 4 = .ok (.invokestatic 60, 3) := by decide +kernel
theorem dX1_isShape_7 : decode cX1_isShape 7 = .ok (.ifCond .eq 25, 3) := by decide +kernel
theorem dX1_isShape_10 : decode cX1_isShape 10 = .ok (.iload_n 1, 1) := by decide +kernel
theorem dX1_isShape_11 : decode cX1_isShape 11 = .ok (.iconst 1, 1) := by decide +kernel
theorem dX1_isShape_12 : decode cX1_isShape 12 = .ok (.iload_n 0, 1) := by decide +kernel
theorem dX1_isShape_13 : decode cX1_isShape 13 = .ok (.iconst 4, 1) := by decide +kernel
theorem dX1_isShape_14 : decode cX1_isShape 14 = .ok (.if_icmp .le 7, 3) := by decide +kernel
theorem dX1_isShape_17 : decode cX1_isShape 17 = .ok (.iconst 2, 1) := by decide +kernel
theorem dX1_isShape_18 : decode cX1_isShape 18 = .ok (.goto 4, 3) := by decide +kernel
theorem dX1_isShape_21 : decode cX1_isShape 21 = .ok (.iconst 3, 1) := by decide +kernel
theorem dX1_isShape_22 : decode cX1_isShape 22 = .ok (.invokestatic 60, 3) := by decide +kernel
theorem dX1_isShape_25 : decode cX1_isShape 25 = .ok (.ifCond .eq 7, 3) := by decide +kernel
theorem dX1_isShape_28 : decode cX1_isShape 28 = .ok (.iconst 1, 1) := by decide +kernel
theorem dX1_isShape_29 : decode cX1_isShape 29 = .ok (.goto 4, 3) := by decide +kernel
theorem dX1_isShape_32 : decode cX1_isShape 32 = .ok (.iconst 0, 1) := by decide +kernel
theorem dX1_isShape_33 : decode cX1_isShape 33 = .ok (.ireturn, 1) := by decide +kernel
theorem dX1_row_0 : decode cX1_row 0 = .ok (.iload_n 1, 1) := by decide +kernel
theorem dX1_row_1 : decode cX1_row 1 = .ok (.iload_n 2, 1) := by decide +kernel
theorem dX1_row_2 : decode cX1_row 2 = .ok (.invokestatic 72, 3) := by decide +kernel
theorem dX1_row_5 : decode cX1_row 5 = .ok (.ifCond .eq 9, 3) := by decide +kernel
theorem dX1_row_8 : decode cX1_row 8 = .ok (.iload_n 3, 1) := by decide +kernel
theorem dX1_row_9 : decode cX1_row 9 = .ok (.bipush 8, 2) := by decide +kernel
theorem dX1_row_11 : decode cX1_row 11 = .ok (.if_icmp .le 6, 3) := by decide +kernel
theorem dX1_row_14 : decode cX1_row 14 = .ok (.bipush (-2), 2) := by decide +kernel
theorem dX1_row_16 : decode cX1_row 16 = .ok (.ireturn, 1) := by decide +kernel
theorem dX1_row_17 : decode cX1_row 17 = .ok (.aload_n 0, 1) := by decide +kernel
theorem dX1_row_18 : decode cX1_row 18 = .ok (.getfield 57, 3) := by decide +kernel
theorem dX1_row_21 : decode cX1_row 21 = .ok (.bipush 60, 2) := by decide +kernel
theorem dX1_row_23 : decode cX1_row 23 = .ok (.if_icmp .ne 6, 3) := by decide +kernel
theorem dX1_row_26 : decode cX1_row 26 = .ok (.bipush (-3), 2) := by decide +kernel
theorem dX1_row_28 : decode cX1_row 28 = .ok (.ireturn, 1) := by decide +kernel
theorem dX1_row_29 : decode cX1_row 29 = .ok (.iload_n 3, 1) := by decide +kernel
theorem dX1_row_30 : decode cX1_row 30 = .ok (.ifCond .ge 11, 3) := by decide +kernel
theorem dX1_row_33 : decode cX1_row 33 = .ok (.aload_n 0, 1) := by decide +kernel
theorem dX1_row_34 : decode cX1_row 34 = .ok (.iconst 5, 1) := by decide +kernel
theorem dX1_row_35 : decode cX1_row 35 = .ok (.invokevirtual 75, 3) := by decide +kernel
theorem dX1_row_38 : decode cX1_row 38 = .ok (.goto 11, 3) := by decide +kernel
theorem dX1_row_41 : decode cX1_row 41 = .ok (.aload_n 0, 1) := by decide +kernel
theorem dX1_row_42 : decode cX1_row 42 = .ok (.iload_n 1, 1) := by decide +kernel
theorem dX1_row_43 : decode cX1_row 43 = .ok (.iload_n 2, 1) := by decide +kernel
theorem dX1_row_44 : decode cX1_row 44 = .ok (.iload_n 3, 1) := by decide +kernel
theorem dX1_row_45 : decode cX1_row 45 = .ok (.iconst 0, 1) := by decide +kernel
theorem dX1_row_46 : decode cX1_row 46 = .ok (.invokevirtual 68, 3) := by decide +kernel
theorem dX1_row_49 : decode cX1_row 49 = .ok (.ireturn, 1) := by decide +kernel
theorem dX1_grid_0 : decode cX1_grid 0 = .ok (.iload_n 1, 1) := by decide +kernel
theorem dX1_grid_1 : decode cX1_grid 1 = .ok (.iconst 0, 1) := by decide +kernel
theorem dX1_grid_2 : decode cX1_grid 2 = .ok (.bipush 6, 2) := by decide +kernel
theorem dX1_grid_4 : decode cX1_grid 4 = .ok (.invokestatic 60, 3) := by decide +kernel
theorem dX1_grid_7 : decode cX1_grid 7 = .ok (.ifCond .eq 15, 3) := by decide +kernel
theorem dX1_grid_10 : decode cX1_grid 10 = .ok (.iload_n 2, 1) := by decide +kernel
theorem dX1_grid_11 : decode cX1_grid 11 = .ok (.bipush 8, 2) := by decide +kernel
theorem dX1_grid_13 : decode cX1_grid 13 = .ok (.if_icmp .gt 9, 3) := by decide +kernel
theorem dX1_grid_16 : decode cX1_grid 16 = .ok (.iload_n 3, 1) := by decide +kernel
theorem dX1_grid_17 : decode cX1_grid 17 = .ok (.bipush 8, 2) := by decide +kernel
theorem dX1_grid_19 : decode cX1_grid 19 = .ok (.if_icmp .le 6, 3) := by decide +kernel
theorem dX1_grid_22 : decode cX1_grid 22 = .ok (.bipush (-2), 2) := by decide +kernel
theorem dX1_grid_24 : decode cX1_grid 24 = .ok (.ireturn, 1) := by decide +kernel
theorem dX1_grid_25 : decode cX1_grid 25 = .ok (.aload_n 0, 1) := by decide +kernel
theorem dX1_grid_26 : decode cX1_grid 26 = .ok (.getfield 57, 3) := by decide +kernel
theorem dX1_grid_29 : decode cX1_grid 29 = .ok (.iconst 1, 1) := by decide +kernel
theorem dX1_grid_30 : decode cX1_grid 30 = .ok (.iadd, 1) := by decide +kernel
theorem dX1_grid_31 : decode cX1_grid 31 = .ok (.iload_n 2, 1) := by decide +kernel
theorem dX1_grid_32 : decode cX1_grid 32 = .ok (.ifCond .ge 7, 3) := by decide +kernel
theorem dX1_grid_35 : decode cX1_grid 35 = .ok (.iconst 0, 1) := by decide +kernel
theorem dX1_grid_36 : decode cX1_grid 36 = .ok (.goto 4, 3) := by decide +kernel
theorem dX1_grid_39 : decode cX1_grid 39 = .ok (.iload_n 2, 1) := by decide +kernel
theorem dX1_grid_40 : decode cX1_grid 40 = .ok (.iadd, 1) := by decide +kernel
theorem dX1_grid_41 : decode cX1_grid 41 = .ok (.bipush 60, 2) := by decide +kernel
theorem dX1_grid_43 : decode cX1_grid 43 = .ok (.if_icmp .le 6, 3) := by decide +kernel
theorem dX1_grid_46 : decode cX1_grid 46 = .ok (.bipush (-3), 2) := by decide +kernel
theorem dX1_grid_48 : decode cX1_grid 48 = .ok (.ireturn, 1) := by decide +kernel
theorem dX1_grid_49 : decode cX1_grid 49 = .ok (.iload_n 2, 1) := by decide +kernel
theorem dX1_grid_50 : decode cX1_grid 50 = .ok (.ifCond .lt 7, 3) := by decide +kernel
theorem dX1_grid_53 : decode cX1_grid 53 = .ok (.iload_n 3, 1) := by decide +kernel
theorem dX1_grid_54 : decode cX1_grid 54 = .ok (.ifCond .ge 9, 3) := by decide +kernel
theorem dX1_grid_57 : decode cX1_grid 57 = .ok (.aload_n 0, 1) := by decide +kernel
theorem dX1_grid_58 : decode cX1_grid 58 = .ok (.iconst 5, 1) := by decide +kernel
theorem dX1_grid_59 : decode cX1_grid 59 = .ok (.invokevirtual 75, 3) := by decide +kernel
theorem dX1_grid_62 : decode cX1_grid 62 = .ok (.ireturn, 1) := by decide +kernel
theorem dX1_grid_63 : decode cX1_grid 63 = .ok (.aload_n 0, 1) := by decide +kernel
theorem dX1_grid_64 : decode cX1_grid 64 = .ok (.iload_n 1, 1) := by decide +kernel
theorem dX1_grid_65 : decode cX1_grid 65 = .ok (.iconst 2, 1) := by decide +kernel
theorem dX1_grid_66 : decode cX1_grid 66 = .ok (.iload_n 2, 1) := by decide +kernel
theorem dX1_grid_67 : decode cX1_grid 67 = .ok (.iconst 0, 1) := by decide +kernel
theorem dX1_grid_68 : decode cX1_grid 68 = .ok (.invokevirtual 68, 3) := by decide +kernel
theorem dX1_grid_71 : decode cX1_grid 71 = .ok (.istore 4, 2) := by decide +kernel
theorem dX1_grid_73 : decode cX1_grid 73 = .ok (.iconst 0, 1) := by decide +kernel
theorem dX1_grid_74 : decode cX1_grid 74 = .ok (.istore 5, 2) := by decide +kernel
theorem dX1_grid_76 : decode cX1_grid 76 = .ok (.iload 5, 2) := by decide +kernel
theorem dX1_grid_78 : decode cX1_grid 78 = .ok (.iload_n 2, 1) := by decide +kernel
theorem dX1_grid_79 : decode cX1_grid 79 = .ok (.if_icmp .ge 30, 3) := by decide +kernel
theorem dX1_grid_82 : decode cX1_grid 82 = .ok (.aload_n 0, 1) := by decide +kernel
theorem dX1_grid_83 : decode cX1_grid 83 = .ok (.getfield 22, 3) := by decide +kernel
theorem dX1_grid_86 : decode cX1_grid 86 = .ok (.bipush 8, 2) := by decide +kernel
theorem dX1_grid_88 : decode cX1_grid 88 = .ok (.iload 4, 2) := by decide +kernel
theorem dX1_grid_90 : decode cX1_grid 90 = .ok (.imul, 1) := by decide +kernel
theorem dX1_grid_91 : decode cX1_grid 91 = .ok (.iload 5, 2) := by decide +kernel
theorem dX1_grid_93 : decode cX1_grid 93 = .ok (.iadd, 1) := by decide +kernel
theorem dX1_grid_94 : decode cX1_grid 94 = .ok (.aload_n 0, 1) := by decide +kernel
theorem dX1_grid_95 : decode cX1_grid 95 = .ok (.iload_n 1, 1) := by decide +kernel
theorem dX1_grid_96 : decode cX1_grid 96 = .ok (.iconst 1, 1) := by decide +kernel
theorem dX1_grid_97 : decode cX1_grid 97 = .ok (.iload_n 3, 1) := by decide +kernel
theorem dX1_grid_98 : decode cX1_grid 98 = .ok (.iconst 0, 1) := by decide +kernel
theorem dX1_grid_99 : decode cX1_grid 99 = .ok (.invokevirtual 68, 3) := by decide +kernel
theorem dX1_grid_102 : decode cX1_grid 102 = .ok (.iastore, 1) := by decide +kernel
theorem dX1_grid_103 : decode cX1_grid 103 = .ok (.iinc 5 1, 3) := by decide +kernel
theorem dX1_grid_106 : decode cX1_grid 106 = .ok (.goto (-30), 3) := by decide +kernel
theorem dX1_grid_109 : decode cX1_grid 109 = .ok (.iload 4, 2) := by decide +kernel
theorem dX1_grid_111 : decode cX1_grid 111 = .ok (.ireturn, 1) := by decide +kernel
theorem dX1_put_0 : decode cX1_put 0 = .ok (.aload_n 0, 1) := by decide +kernel
theorem dX1_put_1 : decode cX1_put 1 = .ok (.iload_n 1, 1) := by decide +kernel
theorem dX1_put_2 : decode cX1_put 2 = .ok (.invokevirtual 79, 3) := by decide +kernel
theorem dX1_put_5 : decode cX1_put 5 = .ok (.ifCond .eq 11, 3) := by decide +kernel
theorem dX1_put_8 : decode cX1_put 8 = .ok (.aload_n 0, 1) := by decide +kernel
theorem dX1_put_9 : decode cX1_put 9 = .ok (.iload_n 3, 1) := by decide +kernel
theorem dX1_put_10 : decode cX1_put 10 = .ok (.invokevirtual 79, 3) := by decide +kernel
theorem dX1_put_13 : decode cX1_put 13 = .ok (.ifCond .ne 6, 3) := by decide +kernel
theorem dX1_put_16 : decode cX1_put 16 = .ok (.bipush (-2), 2) := by decide +kernel
theorem dX1_put_18 : decode cX1_put 18 = .ok (.ireturn, 1) := by decide +kernel
theorem dX1_put_19 : decode cX1_put 19 = .ok (.iload_n 1, 1) := by decide +kernel
theorem dX1_put_20 : decode cX1_put 20 = .ok (.iconst (-1), 1) := by decide +kernel
theorem dX1_put_21 : decode cX1_put 21 = .ok (.if_icmp .ne 28, 3) := by decide +kernel
theorem dX1_put_24 : decode cX1_put 24 = .ok (.aload_n 0, 1) := by decide +kernel
theorem dX1_put_25 : decode cX1_put 25 = .ok (.iload_n 3, 1) := by decide +kernel
theorem dX1_put_26 : decode cX1_put 26 = .ok (.iconst (-1), 1) := by decide +kernel
theorem dX1_put_27 : decode cX1_put 27 = .ok (.if_icmp .eq 17, 3) := by decide +kernel
theorem dX1_put_30 : decode cX1_put 30 = .ok (.aload_n 0, 1) := by decide +kernel
theorem dX1_put_31 : decode cX1_put 31 = .ok (.iload_n 3, 1) := by decide +kernel
theorem dX1_put_32 : decode cX1_put 32 = .ok (.iconst 0, 1) := by decide +kernel
theorem dX1_put_33 : decode cX1_put 33 = .ok (.iconst 0, 1) := by decide +kernel
theorem dX1_put_34 : decode cX1_put 34 = .ok (.invokevirtual 83, 3) := by decide +kernel
theorem dX1_put_37 : decode cX1_put 37 = .ok (.ifCond .ne 7, 3) := by decide +kernel
theorem dX1_put_40 : decode cX1_put 40 = .ok (.iconst 2, 1) := by decide +kernel
theorem dX1_put_41 : decode cX1_put 41 = .ok (.goto 4, 3) := by decide +kernel
theorem dX1_put_44 : decode cX1_put 44 = .ok (.iconst 1, 1) := by decide +kernel
theorem dX1_put_45 : decode cX1_put 45 = .ok (.invokevirtual 75, 3) := by decide +kernel
theorem dX1_put_48 : decode cX1_put 48 = .ok (.ireturn, 1) := by decide +kernel
theorem dX1_put_49 : decode cX1_put 49 = .ok (.aload_n 0, 1) := by decide +kernel
theorem dX1_put_50 : decode cX1_put 50 = .ok (.getfield 13, 3) := by decide +kernel
theorem dX1_put_53 : decode cX1_put 53 = .ok (.iload_n 1, 1) := by decide +kernel
theorem dX1_put_54 : decode cX1_put 54 = .ok (.iaload, 1) := by decide +kernel
theorem dX1_put_55 : decode cX1_put 55 = .ok (.ifCond .eq 11, 3) := by decide +kernel
theorem dX1_put_58 : decode cX1_put 58 = .ok (.aload_n 0, 1) := by decide +kernel
theorem dX1_put_59 : decode cX1_put 59 = .ok (.iload_n 1, 1) := by decide +kernel
theorem dX1_put_60 : decode cX1_put 60 = .ok (.invokevirtual 86, 3) := by decide +kernel
theorem dX1_put_63 : decode cX1_put 63 = .ok (.ifCond .eq 9, 3) := by decide +kernel
theorem dX1_put_66 : decode cX1_put 66 = .ok (.aload_n 0, 1) := by decide +kernel
theorem dX1_put_67 : decode cX1_put 67 = .ok (.iconst 2, 1) := by decide +kernel
theorem dX1_put_68 : decode cX1_put 68 = .ok (.invokevirtual 75, 3) := by decide +kernel
theorem dX1_put_71 : decode cX1_put 71 = .ok (.ireturn, 1) := by decide +kernel
theorem dX1_put_72 : decode cX1_put 72 = .ok (.aload_n 0, 1) := by decide +kernel
theorem dX1_put_73 : decode cX1_put 73 = .ok (.getfield 7, 3) := by decide +kernel
theorem dX1_put_76 : decode cX1_put 76 = .ok (.iload_n 1, 1) := by decide +kernel
theorem dX1_put_77 : decode cX1_put 77 = .ok (.iaload, 1) := by decide +kernel
theorem dX1_put_78 : decode cX1_put 78 = .ok (.iconst 4, 1) := by decide +kernel
theorem dX1_put_79 : decode cX1_put 79 = .ok (.if_icmp .ge 7, 3) := by decide +kernel
theorem dX1_put_82 : decode cX1_put 82 = .ok (.iconst 0, 1) := by decide +kernel
theorem dX1_put_83 : decode cX1_put 83 = .ok (.goto 9, 3) := by decide +kernel
theorem dX1_put_86 : decode cX1_put 86 = .ok (.aload_n 0, 1) := by decide +kernel
theorem dX1_put_87 : decode cX1_put 87 = .ok (.getfield 7, 3) := by decide +kernel
theorem dX1_put_90 : decode cX1_put 90 = .ok (.iload_n 1, 1) := by decide +kernel
theorem dX1_put_91 : decode cX1_put 91 = .ok (.iaload, 1) := by decide +kernel
theorem dX1_put_92 : decode cX1_put 92 = .ok (.istore 4, 2) := by decide +kernel
theorem dX1_put_94 : decode cX1_put 94 = .ok (.iload_n 3, 1) := by decide +kernel
theorem dX1_put_95 : decode cX1_put 95 = .ok (.iconst (-1), 1) := by decide +kernel
theorem dX1_put_96 : decode cX1_put 96 = .ok (.if_icmp .eq 27, 3) := by decide +kernel
theorem dX1_put_99 : decode cX1_put 99 = .ok (.aload_n 0, 1) := by decide +kernel
theorem dX1_put_100 : decode cX1_put 100 = .ok (.iload_n 3, 1) := by decide +kernel
theorem dX1_put_101 : decode cX1_put 101 = .ok (.iload 4, 2) := by decide +kernel
theorem dX1_put_103 : decode cX1_put 103 = .ok (.aload_n 0, 1) := by decide +kernel
theorem dX1_put_104 : decode cX1_put 104 = .ok (.getfield 13, 3) := by decide +kernel
theorem dX1_put_107 : decode cX1_put 107 = .ok (.iload_n 1, 1) := by decide +kernel
theorem dX1_put_108 : decode cX1_put 108 = .ok (.iaload, 1) := by decide +kernel
theorem dX1_put_109 : decode cX1_put 109 = .ok (.iconst 1, 1) := by decide +kernel
theorem dX1_put_110 : decode cX1_put 110 = .ok (.isub, 1) := by decide +kernel
theorem dX1_put_111 : decode cX1_put 111 = .ok (.invokevirtual 83, 3) := by decide +kernel
theorem dX1_put_114 : decode cX1_put 114 = .ok (.ifCond .ne 9, 3) := by decide +kernel
theorem dX1_put_117 : decode cX1_put 117 = .ok (.aload_n 0, 1) := by decide +kernel
theorem dX1_put_118 : decode cX1_put 118 = .ok (.iconst 2, 1) := by decide +kernel
theorem dX1_put_119 : decode cX1_put 119 = .ok (.invokevirtual 75, 3) := by decide +kernel
theorem dX1_put_122 : decode cX1_put 122 = .ok (.ireturn, 1) := by decide +kernel
theorem dX1_put_123 : decode cX1_put 123 = .ok (.iload_n 2, 1) := by decide +kernel
theorem dX1_put_124 : decode cX1_put 124 = .ok (.iconst 0, 1) := by decide +kernel
theorem dX1_put_125 : decode cX1_put 125 = .ok (.aload_n 0, 1) := by decide +kernel
theorem dX1_put_126 : decode cX1_put 126 = .ok (.getfield 16, 3) := by decide +kernel
theorem dX1_put_129 : decode cX1_put 129 = .ok (.iload_n 1, 1) := by decide +kernel
theorem dX1_put_130 : decode cX1_put 130 = .ok (.iaload, 1) := by decide +kernel
theorem dX1_put_131 : decode cX1_put 131 = .ok (.iconst 1, 1) := by decide +kernel
theorem dX1_put_132 : decode cX1_put 132 = .ok (.isub, 1) := by decide +kernel
theorem dX1_put_133 : decode cX1_put 133 = .ok (.invokestatic 60, 3) := by decide +kernel
theorem dX1_put_136 : decode cX1_put 136 = .ok (.ifCond .ne 9, 3) := by decide +kernel
theorem dX1_put_139 : decode cX1_put 139 = .ok (.aload_n 0, 1) := by decide +kernel
theorem dX1_put_140 : decode cX1_put 140 = .ok (.iconst 3, 1) := by decide +kernel
theorem dX1_put_141 : decode cX1_put 141 = .ok (.invokevirtual 75, 3) := by decide +kernel
theorem dX1_put_144 : decode cX1_put 144 = .ok (.ireturn, 1) := by decide +kernel
theorem dX1_put_145 : decode cX1_put 145 = .ok (.iload_n 3, 1) := by decide +kernel
theorem dX1_put_146 : decode cX1_put 146 = .ok (.iconst (-1), 1) := by decide +kernel
theorem dX1_put_147 : decode cX1_put 147 = .ok (.if_icmp .eq 31, 3) := by decide +kernel
theorem dX1_put_150 : decode cX1_put 150 = .ok (.aload_n 0, 1) := by decide +kernel
theorem dX1_put_151 : decode cX1_put 151 = .ok (.iload_n 3, 1) := by decide +kernel
theorem dX1_put_152 : decode cX1_put 152 = .ok (.aload_n 0, 1) := by decide +kernel
theorem dX1_put_153 : decode cX1_put 153 = .ok (.getfield 7, 3) := by decide +kernel
theorem dX1_put_156 : decode cX1_put 156 = .ok (.iload_n 1, 1) := by decide +kernel
theorem dX1_put_157 : decode cX1_put 157 = .ok (.iaload, 1) := by decide +kernel
theorem dX1_put_158 : decode cX1_put 158 = .ok (.aload_n 0, 1) := by decide +kernel
theorem dX1_put_159 : decode cX1_put 159 = .ok (.getfield 13, 3) := by decide +kernel
theorem dX1_put_162 : decode cX1_put 162 = .ok (.iload_n 1, 1) := by decide +kernel
theorem dX1_put_163 : decode cX1_put 163 = .ok (.iaload, 1) := by decide +kernel
theorem dX1_put_164 : decode cX1_put 164 = .ok (.iconst 1, 1) := by decide +kernel
theorem dX1_put_165 : decode cX1_put 165 = .ok (.isub, 1) := by decide +kernel
theorem dX1_put_166 : decode cX1_put 166 = .ok (.invokevirtual 83, 3) := by decide +kernel
theorem dX1_put_169 : decode cX1_put 169 = .ok (.ifCond .ne 9, 3) := by decide +kernel
theorem dX1_put_172 : decode cX1_put 172 = .ok (.aload_n 0, 1) := by decide +kernel
theorem dX1_put_173 : decode cX1_put 173 = .ok (.iconst 4, 1) := by decide +kernel
theorem dX1_put_174 : decode cX1_put 174 = .ok (.invokevirtual 75, 3) := by decide +kernel
theorem dX1_put_177 : decode cX1_put 177 = .ok (.ireturn, 1) := by decide +kernel
theorem dX1_put_178 : decode cX1_put 178 = .ok (.aload_n 0, 1) := by decide +kernel
theorem dX1_put_179 : decode cX1_put 179 = .ok (.getfield 22, 3) := by decide +kernel
theorem dX1_put_182 : decode cX1_put 182 = .ok (.bipush 8, 2) := by decide +kernel
theorem dX1_put_184 : decode cX1_put 184 = .ok (.iload_n 1, 1) := by decide +kernel
theorem dX1_put_185 : decode cX1_put 185 = .ok (.imul, 1) := by decide +kernel
theorem dX1_put_186 : decode cX1_put 186 = .ok (.iload_n 2, 1) := by decide +kernel
theorem dX1_put_187 : decode cX1_put 187 = .ok (.iadd, 1) := by decide +kernel
theorem dX1_put_188 : decode cX1_put 188 = .ok (.iload_n 3, 1) := by decide +kernel
theorem dX1_put_189 : decode cX1_put 189 = .ok (.iastore, 1) := by decide +kernel
theorem dX1_put_190 : decode cX1_put 190 = .ok (.iconst 1, 1) := by decide +kernel
theorem dX1_put_191 : decode cX1_put 191 = .ok (.ireturn, 1) := by decide +kernel
theorem dX1_get_0 : decode cX1_get 0 = .ok (.aload_n 0, 1) := by decide +kernel
theorem dX1_get_1 : decode cX1_get 1 = .ok (.iload_n 1, 1) := by decide +kernel
theorem dX1_get_2 : decode cX1_get 2 = .ok (.invokevirtual 79, 3) := by decide +kernel
theorem dX1_get_5 : decode cX1_get 5 = .ok (.ifCond .ne 6, 3) := by decide +kernel
theorem dX1_get_8 : decode cX1_get 8 = .ok (.bipush (-2), 2) := by decide +kernel
theorem dX1_get_10 : decode cX1_get 10 = .ok (.ireturn, 1) := by decide +kernel
theorem dX1_get_11 : decode cX1_get 11 = .ok (.iload_n 1, 1) := by decide +kernel
theorem dX1_get_12 : decode cX1_get 12 = .ok (.iconst (-1), 1) := by decide +kernel
theorem dX1_get_13 : decode cX1_get 13 = .ok (.if_icmp .ne 9, 3) := by decide +kernel
theorem dX1_get_16 : decode cX1_get 16 = .ok (.aload_n 0, 1) := by decide +kernel
theorem dX1_get_17 : decode cX1_get 17 = .ok (.iconst 1, 1) := by decide +kernel
theorem dX1_get_18 : decode cX1_get 18 = .ok (.invokevirtual 75, 3) := by decide +kernel
theorem dX1_get_21 : decode cX1_get 21 = .ok (.ireturn, 1) := by decide +kernel
theorem dX1_get_22 : decode cX1_get 22 = .ok (.aload_n 0, 1) := by decide +kernel
theorem dX1_get_23 : decode cX1_get 23 = .ok (.getfield 13, 3) := by decide +kernel
theorem dX1_get_26 : decode cX1_get 26 = .ok (.iload_n 1, 1) := by decide +kernel
theorem dX1_get_27 : decode cX1_get 27 = .ok (.iaload, 1) := by decide +kernel
theorem dX1_get_28 : decode cX1_get 28 = .ok (.ifCond .eq 11, 3) := by decide +kernel
theorem dX1_get_31 : decode cX1_get 31 = .ok (.aload_n 0, 1) := by decide +kernel
theorem dX1_get_32 : decode cX1_get 32 = .ok (.iload_n 1, 1) := by decide +kernel
theorem dX1_get_33 : decode cX1_get 33 = .ok (.invokevirtual 86, 3) := by decide +kernel
theorem dX1_get_36 : decode cX1_get 36 = .ok (.ifCond .eq 9, 3) := by decide +kernel
theorem dX1_get_39 : decode cX1_get 39 = .ok (.aload_n 0, 1) := by decide +kernel
theorem dX1_get_40 : decode cX1_get 40 = .ok (.iconst 2, 1) := by decide +kernel
theorem dX1_get_41 : decode cX1_get 41 = .ok (.invokevirtual 75, 3) := by decide +kernel
theorem dX1_get_44 : decode cX1_get 44 = .ok (.ireturn, 1) := by decide +kernel
theorem dX1_get_45 : decode cX1_get 45 = .ok (.iload_n 2, 1) := by decide +kernel
theorem dX1_get_46 : decode cX1_get 46 = .ok (.iconst 0, 1) := by decide +kernel
theorem dX1_get_47 : decode cX1_get 47 = .ok (.aload_n 0, 1) := by decide +kernel
theorem dX1_get_48 : decode cX1_get 48 = .ok (.getfield 16, 3) := by decide +kernel
theorem dX1_get_51 : decode cX1_get 51 = .ok (.iload_n 1, 1) := by decide +kernel
theorem dX1_get_52 : decode cX1_get 52 = .ok (.iaload, 1) := by decide +kernel
theorem dX1_get_53 : decode cX1_get 53 = .ok (.iconst 1, 1) := by decide +kernel
theorem dX1_get_54 : decode cX1_get 54 = .ok (.isub, 1) := by decide +kernel
theorem dX1_get_55 : decode cX1_get 55 = .ok (.invokestatic 60, 3) := by decide +kernel
theorem dX1_get_58 : decode cX1_get 58 = .ok (.ifCond .eq 17, 3) := by decide +kernel
theorem dX1_get_61 : decode cX1_get 61 = .ok (.aload_n 0, 1) := by decide +kernel
theorem dX1_get_62 : decode cX1_get 62 = .ok (.getfield 22, 3) := by decide +kernel
theorem dX1_get_65 : decode cX1_get 65 = .ok (.bipush 8, 2) := by decide +kernel
theorem dX1_get_67 : decode cX1_get 67 = .ok (.iload_n 1, 1) := by decide +kernel
theorem dX1_get_68 : decode cX1_get 68 = .ok (.imul, 1) := by decide +kernel
theorem dX1_get_69 : decode cX1_get 69 = .ok (.iload_n 2, 1) := by decide +kernel
theorem dX1_get_70 : decode cX1_get 70 = .ok (.iadd, 1) := by decide +kernel
theorem dX1_get_71 : decode cX1_get 71 = .ok (.iaload, 1) := by decide +kernel
theorem dX1_get_72 : decode cX1_get 72 = .ok (.goto 8, 3) := by decide +kernel
theorem dX1_get_75 : decode cX1_get 75 = .ok (.aload_n 0, 1) := by decide +kernel
theorem dX1_get_76 : decode cX1_get 76 = .ok (.iconst 3, 1) := by decide +kernel
theorem dX1_get_77 : decode cX1_get 77 = .ok (.invokevirtual 75, 3) := by decide +kernel
theorem dX1_get_80 : decode cX1_get 80 = .ok (.ireturn, 1) := by decide +kernel
theorem dX1_refused_0 : decode cX1_refused 0 = .ok (.iload_n 1, 1) := by decide +kernel
theorem dX1_refused_1 : decode cX1_refused 1 = .ok (.iconst (-1), 1) := by decide +kernel
theorem dX1_refused_2 : decode cX1_refused 2 = .ok (.if_icmp .ne 5, 3) := by decide +kernel
theorem dX1_refused_5 : decode cX1_refused 5 = .ok (.iconst 1, 1) := by decide +kernel
theorem dX1_refused_6 : decode cX1_refused 6 = .ok (.ireturn, 1) := by decide +kernel
theorem dX1_refused_7 : decode cX1_refused 7 = .ok (.aload_n 0, 1) := by decide +kernel
theorem dX1_refused_8 : decode cX1_refused 8 = .ok (.iload_n 1, 1) := by decide +kernel
theorem dX1_refused_9 : decode cX1_refused 9 = .ok (.invokevirtual 86, 3) := by decide +kernel
theorem dX1_refused_12 : decode cX1_refused 12 = .ok (.ifCond .ne 7, 3) := by decide +kernel
theorem dX1_refused_15 : decode cX1_refused 15 = .ok (.iconst 2, 1) := by decide +kernel
theorem dX1_refused_16 : decode cX1_refused 16 = .ok (.goto 24, 3) := by decide +kernel
theorem dX1_refused_19 : decode cX1_refused 19 = .ok (.iload_n 2, 1) := by decide +kernel
theorem dX1_refused_20 : decode cX1_refused 20 = .ok (.iconst 0, 1) := by decide +kernel
theorem dX1_refused_21 : decode cX1_refused 21 = .ok (.aload_n 0, 1) := by decide +kernel
theorem dX1_refused_22 : decode cX1_refused 22 = .ok (.getfield 16, 3) := by decide +kernel
theorem dX1_refused_25 : decode cX1_refused 25 = .ok (.iload_n 1, 1) := by decide +kernel
theorem dX1_refused_26 : decode cX1_refused 26 = .ok (.iaload, 1) := by decide +kernel
theorem dX1_refused_27 : decode cX1_refused 27 = .ok (.iconst 1, 1) := by decide +kernel
theorem dX1_refused_28 : decode cX1_refused 28 = .ok (.isub, 1) := by decide +kernel
theorem dX1_refused_29 : decode cX1_refused 29 = .ok (.invokestatic 60, 3) := by decide +kernel
theorem dX1_refused_32 : decode cX1_refused 32 = .ok (.ifCond .eq 7, 3) := by decide +kernel
theorem dX1_refused_35 : decode cX1_refused 35 = .ok (.iconst 0, 1) := by decide +kernel
theorem dX1_refused_36 : decode cX1_refused 36 = .ok (.goto 4, 3) := by decide +kernel
theorem dX1_refused_39 : decode cX1_refused 39 = .ok (.iconst 3, 1) := by decide +kernel
theorem dX1_refused_40 : decode cX1_refused 40 = .ok (.ireturn, 1) := by decide +kernel
theorem dX1_set_0 : decode cX1_set 0 = .ok (.aload_n 0, 1) := by decide +kernel
theorem dX1_set_1 : decode cX1_set 1 = .ok (.iload_n 1, 1) := by decide +kernel
theorem dX1_set_2 : decode cX1_set 2 = .ok (.invokevirtual 79, 3) := by decide +kernel
theorem dX1_set_5 : decode cX1_set 5 = .ok (.ifCond .ne 6, 3) := by decide +kernel
theorem dX1_set_8 : decode cX1_set 8 = .ok (.bipush (-2), 2) := by decide +kernel
theorem dX1_set_10 : decode cX1_set 10 = .ok (.ireturn, 1) := by decide +kernel
theorem dX1_set_11 : decode cX1_set 11 = .ok (.aload_n 0, 1) := by decide +kernel
theorem dX1_set_12 : decode cX1_set 12 = .ok (.iload_n 1, 1) := by decide +kernel
theorem dX1_set_13 : decode cX1_set 13 = .ok (.iload_n 2, 1) := by decide +kernel
theorem dX1_set_14 : decode cX1_set 14 = .ok (.invokevirtual 89, 3) := by decide +kernel
theorem dX1_set_17 : decode cX1_set 17 = .ok (.istore 5, 2) := by decide +kernel
theorem dX1_set_19 : decode cX1_set 19 = .ok (.iload 5, 2) := by decide +kernel
theorem dX1_set_21 : decode cX1_set 21 = .ok (.ifCond .le 10, 3) := by decide +kernel
theorem dX1_set_24 : decode cX1_set 24 = .ok (.aload_n 0, 1) := by decide +kernel
theorem dX1_set_25 : decode cX1_set 25 = .ok (.iload 5, 2) := by decide +kernel
theorem dX1_set_27 : decode cX1_set 27 = .ok (.invokevirtual 75, 3) := by decide +kernel
theorem dX1_set_30 : decode cX1_set 30 = .ok (.ireturn, 1) := by decide +kernel
theorem dX1_set_31 : decode cX1_set 31 = .ok (.aload_n 0, 1) := by decide +kernel
theorem dX1_set_32 : decode cX1_set 32 = .ok (.getfield 25, 3) := by decide +kernel
theorem dX1_set_35 : decode cX1_set 35 = .ok (.bipush 8, 2) := by decide +kernel
theorem dX1_set_37 : decode cX1_set 37 = .ok (.iload_n 1, 1) := by decide +kernel
theorem dX1_set_38 : decode cX1_set 38 = .ok (.imul, 1) := by decide +kernel
theorem dX1_set_39 : decode cX1_set 39 = .ok (.iload_n 2, 1) := by decide +kernel
theorem dX1_set_40 : decode cX1_set 40 = .ok (.iadd, 1) := by decide +kernel
theorem dX1_set_41 : decode cX1_set 41 = .ok (.aload_n 0, 1) := by decide +kernel
theorem dX1_set_42 : decode cX1_set 42 = .ok (.getfield 7, 3) := by decide +kernel
theorem dX1_set_45 : decode cX1_set 45 = .ok (.iload_n 1, 1) := by decide +kernel
theorem dX1_set_46 : decode cX1_set 46 = .ok (.iaload, 1) := by decide +kernel
theorem dX1_set_47 : decode cX1_set 47 = .ok (.iconst 5, 1) := by decide +kernel
theorem dX1_set_48 : decode cX1_set 48 = .ok (.if_icmp .ne 9, 3) := by decide +kernel
theorem dX1_set_51 : decode cX1_set 51 = .ok (.lload_n 3, 1) := by decide +kernel
theorem dX1_set_52 : decode cX1_set 52 = .ok (.l2i, 1) := by decide +kernel
theorem dX1_set_53 : decode cX1_set 53 = .ok (.i2l, 1) := by decide +kernel
theorem dX1_set_54 : decode cX1_set 54 = .ok (.goto 4, 3) := by decide +kernel
theorem dX1_set_57 : decode cX1_set 57 = .ok (.lload_n 3, 1) := by decide +kernel
theorem dX1_set_58 : decode cX1_set 58 = .ok (.lastore, 1) := by decide +kernel
theorem dX1_set_59 : decode cX1_set 59 = .ok (.iconst 1, 1) := by decide +kernel
theorem dX1_set_60 : decode cX1_set 60 = .ok (.ireturn, 1) := by decide +kernel
theorem dX1_number_0 : decode cX1_number 0 = .ok (.aload_n 0, 1) := by decide +kernel
theorem dX1_number_1 : decode cX1_number 1 = .ok (.iload_n 1, 1) := by decide +kernel
theorem dX1_number_2 : decode cX1_number 2 = .ok (.invokevirtual 79, 3) := by decide +kernel
theorem dX1_number_5 : decode cX1_number 5 = .ok (.ifCond .eq 26, 3) := by decide +kernel
theorem dX1_number_8 : decode cX1_number 8 = .ok (.aload_n 0, 1) := by decide +kernel
theorem dX1_number_9 : decode cX1_number 9 = .ok (.iload_n 1, 1) := by decide +kernel
theorem dX1_number_10 : decode cX1_number 10 = .ok (.iload_n 2, 1) := by decide +kernel
theorem dX1_number_11 : decode cX1_number 11 = .ok (.invokevirtual 89, 3) := by decide +kernel
theorem dX1_number_14 : decode cX1_number 14 = .ok (.ifCond .ne 17, 3) := by decide +kernel
theorem dX1_number_17 : decode cX1_number 17 = .ok (.aload_n 0, 1) := by decide +kernel
theorem dX1_number_18 : decode cX1_number 18 = .ok (.getfield 25, 3) := by decide +kernel
theorem dX1_number_21 : decode cX1_number 21 = .ok (.bipush 8, 2) := by decide +kernel
theorem dX1_number_23 : decode cX1_number 23 = .ok (.iload_n 1, 1) := by decide +kernel
theorem dX1_number_24 : decode cX1_number 24 = .ok (.imul, 1) := by decide +kernel
theorem dX1_number_25 : decode cX1_number 25 = .ok (.iload_n 2, 1) := by decide +kernel
theorem dX1_number_26 : decode cX1_number 26 = .ok (.iadd, 1) := by decide +kernel
theorem dX1_number_27 : decode cX1_number 27 = .ok (.laload, 1) := by decide +kernel
theorem dX1_number_28 : decode cX1_number 28 = .ok (.goto 4, 3) := by decide +kernel
theorem dX1_number_31 : decode cX1_number 31 = .ok (.lconst 0, 1) := by decide +kernel
theorem dX1_number_32 : decode cX1_number 32 = .ok (.lreturn, 1) := by decide +kernel
theorem dX1_isAsked_0 : decode cX1_isAsked 0 = .ok (.iload_n 0, 1) := by decide +kernel
theorem dX1_isAsked_1 : decode cX1_isAsked 1 = .ok (.iconst 0, 1) := by decide +kernel
theorem dX1_isAsked_2 : decode cX1_isAsked 2 = .ok (.bipush 6, 2) := by decide +kernel
theorem dX1_isAsked_4 : decode cX1_isAsked 4 = .ok (.invokestatic 60, 3) := by decide +kernel
theorem dX1_isAsked_7 : decode cX1_isAsked 7 = .ok (.ifCond .eq 30, 3) := by decide +kernel
theorem dX1_isAsked_10 : decode cX1_isAsked 10 = .ok (.iload_n 1, 1) := by decide +kernel
theorem dX1_isAsked_11 : decode cX1_isAsked 11 = .ok (.iconst 0, 1) := by decide +kernel
theorem dX1_isAsked_12 : decode cX1_isAsked 12 = .ok (.iconst 3, 1) := by decide +kernel
theorem dX1_isAsked_13 : decode cX1_isAsked 13 = .ok (.invokestatic 60, 3) := by decide +kernel
theorem dX1_isAsked_16 : decode cX1_isAsked 16 = .ok (.ifCond .eq 21, 3) := by decide +kernel
theorem dX1_isAsked_19 : decode cX1_isAsked 19 = .ok (.iload_n 0, 1) := by decide +kernel
theorem dX1_isAsked_20 : decode cX1_isAsked 20 = .ok (.iconst 4, 1) := by decide +kernel
theorem dX1_isAsked_21 : decode cX1_isAsked 21 = .ok (.if_icmp .le 12, 3) := by decide +kernel
theorem dX1_isAsked_24 : decode cX1_isAsked 24 = .ok (.iload_n 1, 1) := by decide +kernel
theorem dX1_isAsked_25 : decode cX1_isAsked 25 = .ok (.iconst 1, 1) := by decide +kernel
theorem dX1_isAsked_26 : decode cX1_isAsked 26 = .ok (.iconst 2, 1) := by decide +kernel
theorem dX1_isAsked_27 : decode cX1_isAsked 27 = .ok (.invokestatic 60, 3) := by decide +kernel
theorem dX1_isAsked_30 : decode cX1_isAsked 30 = .ok (.ifCond .eq 7, 3) := by decide +kernel
theorem dX1_isAsked_33 : decode cX1_isAsked 33 = .ok (.iconst 1, 1) := by decide +kernel
theorem dX1_isAsked_34 : decode cX1_isAsked 34 = .ok (.goto 4, 3) := by decide +kernel
theorem dX1_isAsked_37 : decode cX1_isAsked 37 = .ok (.iconst 0, 1) := by decide +kernel
theorem dX1_isAsked_38 : decode cX1_isAsked 38 = .ok (.ireturn, 1) := by decide +kernel
theorem dX1_is_0 : decode cX1_is 0 = .ok (.aload_n 0, 1) := by decide +kernel
theorem dX1_is_1 : decode cX1_is 1 = .ok (.iload_n 1, 1) := by decide +kernel
theorem dX1_is_2 : decode cX1_is 2 = .ok (.invokevirtual 79, 3) := by decide +kernel
theorem dX1_is_5 : decode cX1_is 5 = .ok (.ifCond .eq 11, 3) := by decide +kernel
theorem dX1_is_8 : decode cX1_is 8 = .ok (.iload_n 2, 1) := by decide +kernel
theorem dX1_is_9 : decode cX1_is 9 = .ok (.iload_n 3, 1) := by decide +kernel
theorem dX1_is_10 : decode cX1_is 10 = .ok (.invokestatic 93, 3) := by decide +kernel
theorem dX1_is_13 : decode cX1_is 13 = .ok (.ifCond .ne 6, 3) := by decide +kernel
theorem dX1_is_16 : decode cX1_is 16 = .ok (.bipush (-2), 2) := by decide +kernel
theorem dX1_is_18 : decode cX1_is 18 = .ok (.ireturn, 1) := by decide +kernel
theorem dX1_is_19 : decode cX1_is 19 = .ok (.aload_n 0, 1) := by decide +kernel
theorem dX1_is_20 : decode cX1_is 20 = .ok (.iload_n 1, 1) := by decide +kernel
theorem dX1_is_21 : decode cX1_is 21 = .ok (.iload_n 2, 1) := by decide +kernel
theorem dX1_is_22 : decode cX1_is 22 = .ok (.iload_n 3, 1) := by decide +kernel
theorem dX1_is_23 : decode cX1_is 23 = .ok (.invokevirtual 83, 3) := by decide +kernel
theorem dX1_is_26 : decode cX1_is 26 = .ok (.ifCond .eq 7, 3) := by decide +kernel
theorem dX1_is_29 : decode cX1_is 29 = .ok (.iconst 1, 1) := by decide +kernel
theorem dX1_is_30 : decode cX1_is 30 = .ok (.goto 4, 3) := by decide +kernel
theorem dX1_is_33 : decode cX1_is 33 = .ok (.iconst 0, 1) := by decide +kernel
theorem dX1_is_34 : decode cX1_is 34 = .ok (.ireturn, 1) := by decide +kernel
theorem dX1_door_0 : decode cX1_door 0 = .ok (.iload_n 1, 1) := by decide +kernel
theorem dX1_door_1 : decode cX1_door 1 = .ok (.iconst 0, 1) := by decide +kernel
theorem dX1_door_2 : decode cX1_door 2 = .ok (.bipush 7, 2) := by decide +kernel
theorem dX1_door_4 : decode cX1_door 4 = .ok (.invokestatic 60, 3) := by decide +kernel
theorem dX1_door_7 : decode cX1_door 7 = .ok (.ifCond .eq 11, 3) := by decide +kernel
theorem dX1_door_10 : decode cX1_door 10 = .ok (.iload_n 2, 1) := by decide +kernel
theorem dX1_door_11 : decode cX1_door 11 = .ok (.iload_n 3, 1) := by decide +kernel
theorem dX1_door_12 : decode cX1_door 12 = .ok (.invokestatic 93, 3) := by decide +kernel
theorem dX1_door_15 : decode cX1_door 15 = .ok (.ifCond .ne 6, 3) := by decide +kernel
theorem dX1_door_18 : decode cX1_door 18 = .ok (.bipush (-2), 2) := by decide +kernel
theorem dX1_door_20 : decode cX1_door 20 = .ok (.ireturn, 1) := by decide +kernel
theorem dX1_door_21 : decode cX1_door 21 = .ok (.aload_n 0, 1) := by decide +kernel
theorem dX1_door_22 : decode cX1_door 22 = .ok (.getfield 29, 3) := by decide +kernel
theorem dX1_door_25 : decode cX1_door 25 = .ok (.iload_n 1, 1) := by decide +kernel
theorem dX1_door_26 : decode cX1_door 26 = .ok (.iload_n 2, 1) := by decide +kernel
theorem dX1_door_27 : decode cX1_door 27 = .ok (.iastore, 1) := by decide +kernel
theorem dX1_door_28 : decode cX1_door 28 = .ok (.aload_n 0, 1) := by decide +kernel
theorem dX1_door_29 : decode cX1_door 29 = .ok (.getfield 32, 3) := by decide +kernel
theorem dX1_door_32 : decode cX1_door 32 = .ok (.iload_n 1, 1) := by decide +kernel
theorem dX1_door_33 : decode cX1_door 33 = .ok (.iload_n 3, 1) := by decide +kernel
theorem dX1_door_34 : decode cX1_door 34 = .ok (.iastore, 1) := by decide +kernel
theorem dX1_door_35 : decode cX1_door 35 = .ok (.iconst 1, 1) := by decide +kernel
theorem dX1_door_36 : decode cX1_door 36 = .ok (.ireturn, 1) := by decide +kernel
theorem dX1_through_0 : decode cX1_through 0 = .ok (.aload_n 0, 1) := by decide +kernel
theorem dX1_through_1 : decode cX1_through 1 = .ok (.iload_n 1, 1) := by decide +kernel
theorem dX1_through_2 : decode cX1_through 2 = .ok (.invokevirtual 79, 3) := by decide +kernel
theorem dX1_through_5 : decode cX1_through 5 = .ok (.ifCond .eq 25, 3) := by decide +kernel
theorem dX1_through_8 : decode cX1_through 8 = .ok (.iload_n 2, 1) := by decide +kernel
theorem dX1_through_9 : decode cX1_through 9 = .ok (.iconst 0, 1) := by decide +kernel
theorem dX1_through_10 : decode cX1_through 10 = .ok (.bipush 7, 2) := by decide +kernel
theorem dX1_through_12 : decode cX1_through 12 = .ok (.invokestatic 60, 3) := by decide +kernel
theorem dX1_through_15 : decode cX1_through 15 = .ok (.ifCond .eq 15, 3) := by decide +kernel
theorem dX1_through_18 : decode cX1_through 18 = .ok (.iload_n 3, 1) := by decide +kernel
theorem dX1_through_19 : decode cX1_through 19 = .ok (.iconst 0, 1) := by decide +kernel
theorem dX1_through_20 : decode cX1_through 20 = .ok (.bipush 8, 2) := by decide +kernel
theorem dX1_through_22 : decode cX1_through 22 = .ok (.iload_n 2, 1) := by decide +kernel
theorem dX1_through_23 : decode cX1_through 23 = .ok (.isub, 1) := by decide +kernel
theorem dX1_through_24 : decode cX1_through 24 = .ok (.invokestatic 60, 3) := by decide +kernel
theorem dX1_through_27 : decode cX1_through 27 = .ok (.ifCond .ne 6, 3) := by decide +kernel
theorem dX1_through_30 : decode cX1_through 30 = .ok (.bipush (-2), 2) := by decide +kernel
theorem dX1_through_32 : decode cX1_through 32 = .ok (.ireturn, 1) := by decide +kernel
theorem dX1_through_33 : decode cX1_through 33 = .ok (.aload_n 0, 1) := by decide +kernel
theorem dX1_through_34 : decode cX1_through 34 = .ok (.iconst (-1), 1) := by decide +kernel
theorem dX1_through_35 : decode cX1_through 35 = .ok (.putfield 35, 3) := by decide +kernel
theorem dX1_through_38 : decode cX1_through 38 = .ok (.iload_n 2, 1) := by decide +kernel
theorem dX1_through_39 : decode cX1_through 39 = .ok (.istore 4, 2) := by decide +kernel
theorem dX1_through_41 : decode cX1_through 41 = .ok (.iload 4, 2) := by decide +kernel
theorem dX1_through_43 : decode cX1_through 43 = .ok (.iload_n 2, 1) := by decide +kernel
theorem dX1_through_44 : decode cX1_through 44 = .ok (.iload_n 3, 1) := by decide +kernel
theorem dX1_through_45 : decode cX1_through 45 = .ok (.iadd, 1) := by decide +kernel
theorem dX1_through_46 : decode cX1_through 46 = .ok (.if_icmp .ge 54, 3) := by decide +kernel
theorem dX1_through_49 : decode cX1_through 49 = .ok (.aload_n 0, 1) := by decide +kernel
theorem dX1_through_50 : decode cX1_through 50 = .ok (.getfield 35, 3) := by decide +kernel
theorem dX1_through_53 : decode cX1_through 53 = .ok (.iconst (-1), 1) := by decide +kernel
theorem dX1_through_54 : decode cX1_through 54 = .ok (.if_icmp .ne 46, 3) := by decide +kernel
theorem dX1_through_57 : decode cX1_through 57 = .ok (.aload_n 0, 1) := by decide +kernel
theorem dX1_through_58 : decode cX1_through 58 = .ok (.iload_n 1, 1) := by decide +kernel
theorem dX1_through_59 : decode cX1_through 59 = .ok (.iconst (-1), 1) := by decide +kernel
theorem dX1_through_60 : decode cX1_through 60 = .ok (.if_icmp .eq 25, 3) := by decide +kernel
theorem dX1_through_63 : decode cX1_through 63 = .ok (.aload_n 0, 1) := by decide +kernel
theorem dX1_through_64 : decode cX1_through 64 = .ok (.iload_n 1, 1) := by decide +kernel
theorem dX1_through_65 : decode cX1_through 65 = .ok (.aload_n 0, 1) := by decide +kernel
theorem dX1_through_66 : decode cX1_through 66 = .ok (.getfield 29, 3) := by decide +kernel
theorem dX1_through_69 : decode cX1_through 69 = .ok (.iload 4, 2) := by decide +kernel
theorem dX1_through_71 : decode cX1_through 71 = .ok (.iaload, 1) := by decide +kernel
theorem dX1_through_72 : decode cX1_through 72 = .ok (.aload_n 0, 1) := by decide +kernel
theorem dX1_through_73 : decode cX1_through 73 = .ok (.getfield 32, 3) := by decide +kernel
theorem dX1_through_76 : decode cX1_through 76 = .ok (.iload 4, 2) := by decide +kernel
theorem dX1_through_78 : decode cX1_through 78 = .ok (.iaload, 1) := by decide +kernel
theorem dX1_through_79 : decode cX1_through 79 = .ok (.invokevirtual 83, 3) := by decide +kernel
theorem dX1_through_82 : decode cX1_through 82 = .ok (.ifCond .eq 7, 3) := by decide +kernel
theorem dX1_through_85 : decode cX1_through 85 = .ok (.iconst (-1), 1) := by decide +kernel
theorem dX1_through_86 : decode cX1_through 86 = .ok (.goto 5, 3) := by decide +kernel
theorem dX1_through_89 : decode cX1_through 89 = .ok (.iload 4, 2) := by decide +kernel
theorem dX1_through_91 : decode cX1_through 91 = .ok (.putfield 35, 3) := by decide +kernel
theorem dX1_through_94 : decode cX1_through 94 = .ok (.iinc 4 1, 3) := by decide +kernel
theorem dX1_through_97 : decode cX1_through 97 = .ok (.goto (-56), 3) := by decide +kernel
theorem dX1_through_100 : decode cX1_through 100 = .ok (.aload_n 0, 1) := by decide +kernel
theorem dX1_through_101 : decode cX1_through 101 = .ok (.getfield 35, 3) := by decide +kernel
theorem dX1_through_104 : decode cX1_through 104 = .ok (.iconst (-1), 1) := by decide +kernel
theorem dX1_through_105 : decode cX1_through 105 = .ok (.if_icmp .ne 7, 3) := by decide +kernel
theorem dX1_through_108 : decode cX1_through 108 = .ok (.iconst 1, 1) := by decide +kernel
theorem dX1_through_109 : decode cX1_through 109 = .ok (.goto 8, 3) := by decide +kernel
theorem dX1_through_112 : decode cX1_through 112 = .ok (.aload_n 0, 1) := by decide +kernel
theorem dX1_through_113 : decode cX1_through 113 = .ok (.iconst 2, 1) := by decide +kernel
theorem dX1_through_114 : decode cX1_through 114 = .ok (.invokevirtual 75, 3) := by decide +kernel
theorem dX1_through_117 : decode cX1_through 117 = .ok (.ireturn, 1) := by decide +kernel
theorem dX1_lastDoor_0 : decode cX1_lastDoor 0 = .ok (.aload_n 0, 1) := by decide +kernel
theorem dX1_lastDoor_1 : decode cX1_lastDoor 1 = .ok (.getfield 35, 3) := by decide +kernel
theorem dX1_lastDoor_4 : decode cX1_lastDoor 4 = .ok (.ireturn, 1) := by decide +kernel
theorem dX1_addUp_0 : decode cX1_addUp 0 = .ok (.iconst 0, 1) := by decide +kernel
theorem dX1_addUp_1 : decode cX1_addUp 1 = .ok (.istore_n 1, 1) := by decide +kernel
theorem dX1_addUp_2 : decode cX1_addUp 2 = .ok (.iload_n 1, 1) := by decide +kernel
theorem dX1_addUp_3 : decode cX1_addUp 3 = .ok (.iconst 4, 1) := by decide +kernel
theorem dX1_addUp_4 : decode cX1_addUp 4 = .ok (.if_icmp .ge 40, 3) := by decide +kernel
theorem dX1_addUp_7 : decode cX1_addUp 7 = .ok (.iconst 0, 1) := by decide +kernel
theorem dX1_addUp_8 : decode cX1_addUp 8 = .ok (.istore_n 2, 1) := by decide +kernel
theorem dX1_addUp_9 : decode cX1_addUp 9 = .ok (.iload_n 2, 1) := by decide +kernel
theorem dX1_addUp_10 : decode cX1_addUp 10 = .ok (.aload_n 0, 1) := by decide +kernel
theorem dX1_addUp_11 : decode cX1_addUp 11 = .ok (.getfield 57, 3) := by decide +kernel
theorem dX1_addUp_14 : decode cX1_addUp 14 = .ok (.if_icmp .ge 24, 3) := by decide +kernel
theorem dX1_addUp_17 : decode cX1_addUp 17 = .ok (.aload_n 0, 1) := by decide +kernel
theorem dX1_addUp_18 : decode cX1_addUp 18 = .ok (.getfield 13, 3) := by decide +kernel
theorem dX1_addUp_21 : decode cX1_addUp 21 = .ok (.iload_n 2, 1) := by decide +kernel
theorem dX1_addUp_22 : decode cX1_addUp 22 = .ok (.iaload, 1) := by decide +kernel
theorem dX1_addUp_23 : decode cX1_addUp 23 = .ok (.iload_n 1, 1) := by decide +kernel
theorem dX1_addUp_24 : decode cX1_addUp 24 = .ok (.if_icmp .ne 8, 3) := by decide +kernel
theorem dX1_addUp_27 : decode cX1_addUp 27 = .ok (.aload_n 0, 1) := by decide +kernel
theorem dX1_addUp_28 : decode cX1_addUp 28 = .ok (.iload_n 2, 1) := by decide +kernel
theorem dX1_addUp_29 : decode cX1_addUp 29 = .ok (.invokevirtual 96, 3) := by decide +kernel
theorem dX1_addUp_32 : decode cX1_addUp 32 = .ok (.iinc 2 1, 3) := by decide +kernel
theorem dX1_addUp_35 : decode cX1_addUp 35 = .ok (.goto (-26), 3) := by decide +kernel
theorem dX1_addUp_38 : decode cX1_addUp 38 = .ok (.iinc 1 1, 3) := by decide +kernel
theorem dX1_addUp_41 : decode cX1_addUp 41 = .ok (.goto (-39), 3) := by decide +kernel
theorem dX1_addUp_44 : decode cX1_addUp 44 = .ok (.return_, 1) := by decide +kernel
theorem dX1_addOne_0 : decode cX1_addOne 0 = .ok (.aload_n 0, 1) := by decide +kernel
theorem dX1_addOne_1 : decode cX1_addOne 1 = .ok (.getfield 13, 3) := by decide +kernel
theorem dX1_addOne_4 : decode cX1_addOne 4 = .ok (.iload_n 1, 1) := by decide +kernel
theorem dX1_addOne_5 : decode cX1_addOne 5 = .ok (.iaload, 1) := by decide +kernel
theorem dX1_addOne_6 : decode cX1_addOne 6 = .ok (.ifCond .le 7, 3) := by decide +kernel
theorem dX1_addOne_9 : decode cX1_addOne 9 = .ok (.lconst 0, 1) := by decide +kernel
theorem dX1_addOne_10 : decode cX1_addOne 10 = .ok (.goto 58, 3) := by decide +kernel
theorem dX1_addOne_13 : decode cX1_addOne 13 = .ok (.aload_n 0, 1) := by decide +kernel
theorem dX1_addOne_14 : decode cX1_addOne 14 = .ok (.getfield 7, 3) := by decide +kernel
theorem dX1_addOne_17 : decode cX1_addOne 17 = .ok (.iload_n 1, 1) := by decide +kernel
theorem dX1_addOne_18 : decode cX1_addOne 18 = .ok (.iaload, 1) := by decide +kernel
theorem dX1_addOne_19 : decode cX1_addOne 19 = .ok (.iconst 1, 1) := by decide +kernel
theorem dX1_addOne_20 : decode cX1_addOne 20 = .ok (.if_icmp .ne 17, 3) := by decide +kernel
theorem dX1_addOne_23 : decode cX1_addOne 23 = .ok (.ldc2_w 100, 3) := by decide +kernel
theorem dX1_addOne_26 : decode cX1_addOne 26 = .ok (.aload_n 0, 1) := by decide +kernel
theorem dX1_addOne_27 : decode cX1_addOne 27 = .ok (.getfield 19, 3) := by decide +kernel
theorem dX1_addOne_30 : decode cX1_addOne 30 = .ok (.iload_n 1, 1) := by decide +kernel
theorem dX1_addOne_31 : decode cX1_addOne 31 = .ok (.iaload, 1) := by decide +kernel
theorem dX1_addOne_32 : decode cX1_addOne 32 = .ok (.i2l, 1) := by decide +kernel
theorem dX1_addOne_33 : decode cX1_addOne 33 = .ok (.lmul, 1) := by decide +kernel
theorem dX1_addOne_34 : decode cX1_addOne 34 = .ok (.goto 34, 3) := by decide +kernel
theorem dX1_addOne_37 : decode cX1_addOne 37 = .ok (.aload_n 0, 1) := by decide +kernel
theorem dX1_addOne_38 : decode cX1_addOne 38 = .ok (.getfield 7, 3) := by decide +kernel
theorem dX1_addOne_41 : decode cX1_addOne 41 = .ok (.iload_n 1, 1) := by decide +kernel
theorem dX1_addOne_42 : decode cX1_addOne 42 = .ok (.iaload, 1) := by decide +kernel
theorem dX1_addOne_43 : decode cX1_addOne 43 = .ok (.iconst 3, 1) := by decide +kernel
theorem dX1_addOne_44 : decode cX1_addOne 44 = .ok (.if_icmp .ne 17, 3) := by decide +kernel
theorem dX1_addOne_47 : decode cX1_addOne 47 = .ok (.aload_n 0, 1) := by decide +kernel
theorem dX1_addOne_48 : decode cX1_addOne 48 = .ok (.getfield 19, 3) := by decide +kernel
theorem dX1_addOne_51 : decode cX1_addOne 51 = .ok (.iload_n 1, 1) := by decide +kernel
theorem dX1_addOne_52 : decode cX1_addOne 52 = .ok (.iaload, 1) := by decide +kernel
theorem dX1_addOne_53 : decode cX1_addOne 53 = .ok (.i2l, 1) := by decide +kernel
theorem dX1_addOne_54 : decode cX1_addOne 54 = .ok (.ldc2_w 102, 3) := by decide +kernel
theorem dX1_addOne_57 : decode cX1_addOne 57 = .ok (.ladd, 1) := by decide +kernel
theorem dX1_addOne_58 : decode cX1_addOne 58 = .ok (.goto 10, 3) := by decide +kernel
theorem dX1_addOne_61 : decode cX1_addOne 61 = .ok (.aload_n 0, 1) := by decide +kernel
theorem dX1_addOne_62 : decode cX1_addOne 62 = .ok (.getfield 19, 3) := by decide +kernel
theorem dX1_addOne_65 : decode cX1_addOne 65 = .ok (.iload_n 1, 1) := by decide +kernel
theorem dX1_addOne_66 : decode cX1_addOne 66 = .ok (.iaload, 1) := by decide +kernel
theorem dX1_addOne_67 : decode cX1_addOne 67 = .ok (.i2l, 1) := by decide +kernel
theorem dX1_addOne_68 : decode cX1_addOne 68 = .ok (.lstore_n 2, 1) := by decide +kernel
theorem dX1_addOne_69 : decode cX1_addOne 69 = .ok (.aload_n 0, 1) := by decide +kernel
theorem dX1_addOne_70 : decode cX1_addOne 70 = .ok (.getfield 13, 3) := by decide +kernel
theorem dX1_addOne_73 : decode cX1_addOne 73 = .ok (.iload_n 1, 1) := by decide +kernel
theorem dX1_addOne_74 : decode cX1_addOne 74 = .ok (.iaload, 1) := by decide +kernel
theorem dX1_addOne_75 : decode cX1_addOne 75 = .ok (.ifCond .ne 20, 3) := by decide +kernel
theorem dX1_addOne_78 : decode cX1_addOne 78 = .ok (.aload_n 0, 1) := by decide +kernel
theorem dX1_addOne_79 : decode cX1_addOne 79 = .ok (.getfield 7, 3) := by decide +kernel
theorem dX1_addOne_82 : decode cX1_addOne 82 = .ok (.iload_n 1, 1) := by decide +kernel
theorem dX1_addOne_83 : decode cX1_addOne 83 = .ok (.iaload, 1) := by decide +kernel
theorem dX1_addOne_84 : decode cX1_addOne 84 = .ok (.iconst 4, 1) := by decide +kernel
theorem dX1_addOne_85 : decode cX1_addOne 85 = .ok (.invokestatic 64, 3) := by decide +kernel
theorem dX1_addOne_88 : decode cX1_addOne 88 = .ok (.ifCond .eq 7, 3) := by decide +kernel
theorem dX1_addOne_91 : decode cX1_addOne 91 = .ok (.iconst 1, 1) := by decide +kernel
theorem dX1_addOne_92 : decode cX1_addOne 92 = .ok (.goto 4, 3) := by decide +kernel
theorem dX1_addOne_95 : decode cX1_addOne 95 = .ok (.iconst 0, 1) := by decide +kernel
theorem dX1_addOne_96 : decode cX1_addOne 96 = .ok (.istore 4, 2) := by decide +kernel
theorem dX1_addOne_98 : decode cX1_addOne 98 = .ok (.bipush 8, 2) := by decide +kernel
theorem dX1_addOne_100 : decode cX1_addOne 100 = .ok (.iload_n 1, 1) := by decide +kernel
theorem dX1_addOne_101 : decode cX1_addOne 101 = .ok (.imul, 1) := by decide +kernel
theorem dX1_addOne_102 : decode cX1_addOne 102 = .ok (.istore 5, 2) := by decide +kernel
theorem dX1_addOne_104 : decode cX1_addOne 104 = .ok (.iload 5, 2) := by decide +kernel
theorem dX1_addOne_106 : decode cX1_addOne 106 = .ok (.bipush 8, 2) := by decide +kernel
theorem dX1_addOne_108 : decode cX1_addOne 108 = .ok (.iload_n 1, 1) := by decide +kernel
theorem dX1_addOne_109 : decode cX1_addOne 109 = .ok (.imul, 1) := by decide +kernel
theorem dX1_addOne_110 : decode cX1_addOne 110 = .ok (.aload_n 0, 1) := by decide +kernel
theorem dX1_addOne_111 : decode cX1_addOne 111 = .ok (.getfield 16, 3) := by decide +kernel
theorem dX1_addOne_114 : decode cX1_addOne 114 = .ok (.iload_n 1, 1) := by decide +kernel
theorem dX1_addOne_115 : decode cX1_addOne 115 = .ok (.iaload, 1) := by decide +kernel
theorem dX1_addOne_116 : decode cX1_addOne 116 = .ok (.iadd, 1) := by decide +kernel
theorem dX1_addOne_117 : decode cX1_addOne 117 = .ok (.if_icmp .ge 68, 3) := by decide +kernel
theorem dX1_addOne_120 : decode cX1_addOne 120 = .ok (.aload_n 0, 1) := by decide +kernel
theorem dX1_addOne_121 : decode cX1_addOne 121 = .ok (.getfield 22, 3) := by decide +kernel
theorem dX1_addOne_124 : decode cX1_addOne 124 = .ok (.iload 5, 2) := by decide +kernel
theorem dX1_addOne_126 : decode cX1_addOne 126 = .ok (.iaload, 1) := by decide +kernel
theorem dX1_addOne_127 : decode cX1_addOne 127 = .ok (.istore 6, 2) := by decide +kernel
theorem dX1_addOne_129 : decode cX1_addOne 129 = .ok (.lload_n 2, 1) := by decide +kernel
theorem dX1_addOne_130 : decode cX1_addOne 130 = .ok (.aload_n 0, 1) := by decide +kernel
theorem dX1_addOne_131 : decode cX1_addOne 131 = .ok (.getfield 25, 3) := by decide +kernel
theorem dX1_addOne_134 : decode cX1_addOne 134 = .ok (.iload 5, 2) := by decide +kernel
theorem dX1_addOne_136 : decode cX1_addOne 136 = .ok (.laload, 1) := by decide +kernel
theorem dX1_addOne_137 : decode cX1_addOne 137 = .ok (.iload 6, 2) := by decide +kernel
theorem dX1_addOne_139 : decode cX1_addOne 139 = .ok (.iconst (-1), 1) := by decide +kernel
theorem dX1_addOne_140 : decode cX1_addOne 140 = .ok (.if_icmp .ne 7, 3) := by decide +kernel
theorem dX1_addOne_143 : decode cX1_addOne 143 = .ok (.lconst 0, 1) := by decide +kernel
theorem dX1_addOne_144 : decode cX1_addOne 144 = .ok (.goto 10, 3) := by decide +kernel
theorem dX1_addOne_147 : decode cX1_addOne 147 = .ok (.aload_n 0, 1) := by decide +kernel
theorem dX1_addOne_148 : decode cX1_addOne 148 = .ok (.getfield 39, 3) := by decide +kernel
theorem dX1_addOne_151 : decode cX1_addOne 151 = .ok (.iload 6, 2) := by decide +kernel
theorem dX1_addOne_153 : decode cX1_addOne 153 = .ok (.laload, 1) := by decide +kernel
theorem dX1_addOne_154 : decode cX1_addOne 154 = .ok (.ladd, 1) := by decide +kernel
theorem dX1_addOne_155 : decode cX1_addOne 155 = .ok (.ladd, 1) := by decide +kernel
theorem dX1_addOne_156 : decode cX1_addOne 156 = .ok (.lstore_n 2, 1) := by decide +kernel
theorem dX1_addOne_157 : decode cX1_addOne 157 = .ok (.iload 4, 2) := by decide +kernel
theorem dX1_addOne_159 : decode cX1_addOne 159 = .ok (.iload 6, 2) := by decide +kernel
theorem dX1_addOne_161 : decode cX1_addOne 161 = .ok (.iconst (-1), 1) := by decide +kernel
theorem dX1_addOne_162 : decode cX1_addOne 162 = .ok (.if_icmp .ne 7, 3) := by decide +kernel
theorem dX1_addOne_165 : decode cX1_addOne 165 = .ok (.iconst 0, 1) := by decide +kernel
theorem dX1_addOne_166 : decode cX1_addOne 166 = .ok (.goto 10, 3) := by decide +kernel
theorem dX1_addOne_169 : decode cX1_addOne 169 = .ok (.aload_n 0, 1) := by decide +kernel
theorem dX1_addOne_170 : decode cX1_addOne 170 = .ok (.getfield 42, 3) := by decide +kernel
theorem dX1_addOne_173 : decode cX1_addOne 173 = .ok (.iload 6, 2) := by decide +kernel
theorem dX1_addOne_175 : decode cX1_addOne 175 = .ok (.iaload, 1) := by decide +kernel
theorem dX1_addOne_176 : decode cX1_addOne 176 = .ok (.iadd, 1) := by decide +kernel
theorem dX1_addOne_177 : decode cX1_addOne 177 = .ok (.istore 4, 2) := by decide +kernel
theorem dX1_addOne_179 : decode cX1_addOne 179 = .ok (.iinc 5 1, 3) := by decide +kernel
theorem dX1_addOne_182 : decode cX1_addOne 182 = .ok (.goto (-78), 3) := by decide +kernel
theorem dX1_addOne_185 : decode cX1_addOne 185 = .ok (.aload_n 0, 1) := by decide +kernel
theorem dX1_addOne_186 : decode cX1_addOne 186 = .ok (.getfield 39, 3) := by decide +kernel
theorem dX1_addOne_189 : decode cX1_addOne 189 = .ok (.iload_n 1, 1) := by decide +kernel
theorem dX1_addOne_190 : decode cX1_addOne 190 = .ok (.lload_n 2, 1) := by decide +kernel
theorem dX1_addOne_191 : decode cX1_addOne 191 = .ok (.lastore, 1) := by decide +kernel
theorem dX1_addOne_192 : decode cX1_addOne 192 = .ok (.aload_n 0, 1) := by decide +kernel
theorem dX1_addOne_193 : decode cX1_addOne 193 = .ok (.getfield 42, 3) := by decide +kernel
theorem dX1_addOne_196 : decode cX1_addOne 196 = .ok (.iload_n 1, 1) := by decide +kernel
theorem dX1_addOne_197 : decode cX1_addOne 197 = .ok (.iload 4, 2) := by decide +kernel
theorem dX1_addOne_199 : decode cX1_addOne 199 = .ok (.iastore, 1) := by decide +kernel
theorem dX1_addOne_200 : decode cX1_addOne 200 = .ok (.return_, 1) := by decide +kernel
theorem dX1_worth_0 : decode cX1_worth 0 = .ok (.aload_n 0, 1) := by decide +kernel
theorem dX1_worth_1 : decode cX1_worth 1 = .ok (.iload_n 1, 1) := by decide +kernel
theorem dX1_worth_2 : decode cX1_worth 2 = .ok (.invokevirtual 104, 3) := by decide +kernel
theorem dX1_worth_5 : decode cX1_worth 5 = .ok (.ifCond .ne 5, 3) := by decide +kernel
theorem dX1_worth_8 : decode cX1_worth 8 = .ok (.lconst 0, 1) := by decide +kernel
theorem dX1_worth_9 : decode cX1_worth 9 = .ok (.lreturn, 1) := by decide +kernel
theorem dX1_worth_10 : decode cX1_worth 10 = .ok (.aload_n 0, 1) := by decide +kernel
theorem dX1_worth_11 : decode cX1_worth 11 = .ok (.invokevirtual 107, 3) := by decide +kernel
theorem dX1_worth_14 : decode cX1_worth 14 = .ok (.aload_n 0, 1) := by decide +kernel
theorem dX1_worth_15 : decode cX1_worth 15 = .ok (.getfield 39, 3) := by decide +kernel
theorem dX1_worth_18 : decode cX1_worth 18 = .ok (.iload_n 1, 1) := by decide +kernel
theorem dX1_worth_19 : decode cX1_worth 19 = .ok (.laload, 1) := by decide +kernel
theorem dX1_worth_20 : decode cX1_worth 20 = .ok (.lreturn, 1) := by decide +kernel
theorem dX1_frail_0 : decode cX1_frail 0 = .ok (.aload_n 0, 1) := by decide +kernel
theorem dX1_frail_1 : decode cX1_frail 1 = .ok (.iload_n 1, 1) := by decide +kernel
theorem dX1_frail_2 : decode cX1_frail 2 = .ok (.invokevirtual 79, 3) := by decide +kernel
theorem dX1_frail_5 : decode cX1_frail 5 = .ok (.ifCond .ne 6, 3) := by decide +kernel
theorem dX1_frail_8 : decode cX1_frail 8 = .ok (.bipush (-2), 2) := by decide +kernel
theorem dX1_frail_10 : decode cX1_frail 10 = .ok (.ireturn, 1) := by decide +kernel
theorem dX1_frail_11 : decode cX1_frail 11 = .ok (.iload_n 1, 1) := by decide +kernel
theorem dX1_frail_12 : decode cX1_frail 12 = .ok (.iconst (-1), 1) := by decide +kernel
theorem dX1_frail_13 : decode cX1_frail 13 = .ok (.if_icmp .ne 9, 3) := by decide +kernel
theorem dX1_frail_16 : decode cX1_frail 16 = .ok (.aload_n 0, 1) := by decide +kernel
theorem dX1_frail_17 : decode cX1_frail 17 = .ok (.iconst 1, 1) := by decide +kernel
theorem dX1_frail_18 : decode cX1_frail 18 = .ok (.invokevirtual 75, 3) := by decide +kernel
theorem dX1_frail_21 : decode cX1_frail 21 = .ok (.ireturn, 1) := by decide +kernel
theorem dX1_frail_22 : decode cX1_frail 22 = .ok (.aload_n 0, 1) := by decide +kernel
theorem dX1_frail_23 : decode cX1_frail 23 = .ok (.getfield 7, 3) := by decide +kernel
theorem dX1_frail_26 : decode cX1_frail 26 = .ok (.iload_n 1, 1) := by decide +kernel
theorem dX1_frail_27 : decode cX1_frail 27 = .ok (.iaload, 1) := by decide +kernel
theorem dX1_frail_28 : decode cX1_frail 28 = .ok (.iconst 4, 1) := by decide +kernel
theorem dX1_frail_29 : decode cX1_frail 29 = .ok (.if_icmp .le 9, 3) := by decide +kernel
theorem dX1_frail_32 : decode cX1_frail 32 = .ok (.aload_n 0, 1) := by decide +kernel
theorem dX1_frail_33 : decode cX1_frail 33 = .ok (.iconst 2, 1) := by decide +kernel
theorem dX1_frail_34 : decode cX1_frail 34 = .ok (.invokevirtual 75, 3) := by decide +kernel
theorem dX1_frail_37 : decode cX1_frail 37 = .ok (.ireturn, 1) := by decide +kernel
theorem dX1_frail_38 : decode cX1_frail 38 = .ok (.aload_n 0, 1) := by decide +kernel
theorem dX1_frail_39 : decode cX1_frail 39 = .ok (.invokevirtual 107, 3) := by decide +kernel
theorem dX1_frail_42 : decode cX1_frail 42 = .ok (.aload_n 0, 1) := by decide +kernel
theorem dX1_frail_43 : decode cX1_frail 43 = .ok (.getfield 42, 3) := by decide +kernel
theorem dX1_frail_46 : decode cX1_frail 46 = .ok (.iload_n 1, 1) := by decide +kernel
theorem dX1_frail_47 : decode cX1_frail 47 = .ok (.iaload, 1) := by decide +kernel
theorem dX1_frail_48 : decode cX1_frail 48 = .ok (.ireturn, 1) := by decide +kernel
theorem dX1_copy_0 : decode cX1_copy 0 = .ok (.aload_n 0, 1) := by decide +kernel
theorem dX1_copy_1 : decode cX1_copy 1 = .ok (.iload_n 1, 1) := by decide +kernel
theorem dX1_copy_2 : decode cX1_copy 2 = .ok (.invokevirtual 79, 3) := by decide +kernel
theorem dX1_copy_5 : decode cX1_copy 5 = .ok (.ifCond .ne 6, 3) := by decide +kernel
theorem dX1_copy_8 : decode cX1_copy 8 = .ok (.bipush (-2), 2) := by decide +kernel
theorem dX1_copy_10 : decode cX1_copy 10 = .ok (.ireturn, 1) := by decide +kernel
theorem dX1_copy_11 : decode cX1_copy 11 = .ok (.aload_n 0, 1) := by decide +kernel
theorem dX1_copy_12 : decode cX1_copy 12 = .ok (.getfield 57, 3) := by decide +kernel
theorem dX1_copy_15 : decode cX1_copy 15 = .ok (.bipush 60, 2) := by decide +kernel
theorem dX1_copy_17 : decode cX1_copy 17 = .ok (.if_icmp .ne 6, 3) := by decide +kernel
theorem dX1_copy_20 : decode cX1_copy 20 = .ok (.bipush (-3), 2) := by decide +kernel
theorem dX1_copy_22 : decode cX1_copy 22 = .ok (.ireturn, 1) := by decide +kernel
theorem dX1_copy_23 : decode cX1_copy 23 = .ok (.iload_n 1, 1) := by decide +kernel
theorem dX1_copy_24 : decode cX1_copy 24 = .ok (.iconst (-1), 1) := by decide +kernel
theorem dX1_copy_25 : decode cX1_copy 25 = .ok (.if_icmp .eq 12, 3) := by decide +kernel
theorem dX1_copy_28 : decode cX1_copy 28 = .ok (.aload_n 0, 1) := by decide +kernel
theorem dX1_copy_29 : decode cX1_copy 29 = .ok (.getfield 13, 3) := by decide +kernel
theorem dX1_copy_32 : decode cX1_copy 32 = .ok (.iload_n 1, 1) := by decide +kernel
theorem dX1_copy_33 : decode cX1_copy 33 = .ok (.iaload, 1) := by decide +kernel
theorem dX1_copy_34 : decode cX1_copy 34 = .ok (.ifCond .ne 18, 3) := by decide +kernel
theorem dX1_copy_37 : decode cX1_copy 37 = .ok (.aload_n 0, 1) := by decide +kernel
theorem dX1_copy_38 : decode cX1_copy 38 = .ok (.iload_n 1, 1) := by decide +kernel
theorem dX1_copy_39 : decode cX1_copy 39 = .ok (.iconst (-1), 1) := by decide +kernel
theorem dX1_copy_40 : decode cX1_copy 40 = .ok (.if_icmp .ne 7, 3) := by decide +kernel
theorem dX1_copy_43 : decode cX1_copy 43 = .ok (.iconst 1, 1) := by decide +kernel
theorem dX1_copy_44 : decode cX1_copy 44 = .ok (.goto 4, 3) := by decide +kernel
theorem dX1_copy_47 : decode cX1_copy 47 = .ok (.iconst 2, 1) := by decide +kernel
theorem dX1_copy_48 : decode cX1_copy 48 = .ok (.invokevirtual 75, 3) := by decide +kernel
theorem dX1_copy_51 : decode cX1_copy 51 = .ok (.ireturn, 1) := by decide +kernel
theorem dX1_copy_52 : decode cX1_copy 52 = .ok (.aload_n 0, 1) := by decide +kernel
theorem dX1_copy_53 : decode cX1_copy 53 = .ok (.aload_n 0, 1) := by decide +kernel
theorem dX1_copy_54 : decode cX1_copy 54 = .ok (.getfield 7, 3) := by decide +kernel
theorem dX1_copy_57 : decode cX1_copy 57 = .ok (.iload_n 1, 1) := by decide +kernel
theorem dX1_copy_58 : decode cX1_copy 58 = .ok (.iaload, 1) := by decide +kernel
theorem dX1_copy_59 : decode cX1_copy 59 = .ok (.aload_n 0, 1) := by decide +kernel
theorem dX1_copy_60 : decode cX1_copy 60 = .ok (.getfield 13, 3) := by decide +kernel
theorem dX1_copy_63 : decode cX1_copy 63 = .ok (.iload_n 1, 1) := by decide +kernel
theorem dX1_copy_64 : decode cX1_copy 64 = .ok (.iaload, 1) := by decide +kernel
theorem dX1_copy_65 : decode cX1_copy 65 = .ok (.aload_n 0, 1) := by decide +kernel
theorem dX1_copy_66 : decode cX1_copy 66 = .ok (.getfield 16, 3) := by decide +kernel
theorem dX1_copy_69 : decode cX1_copy 69 = .ok (.iload_n 1, 1) := by decide +kernel
theorem dX1_copy_70 : decode cX1_copy 70 = .ok (.iaload, 1) := by decide +kernel
theorem dX1_copy_71 : decode cX1_copy 71 = .ok (.iconst 0, 1) := by decide +kernel
theorem dX1_copy_72 : decode cX1_copy 72 = .ok (.invokevirtual 68, 3) := by decide +kernel
theorem dX1_copy_75 : decode cX1_copy 75 = .ok (.istore_n 2, 1) := by decide +kernel
theorem dX1_copy_76 : decode cX1_copy 76 = .ok (.iconst 0, 1) := by decide +kernel
theorem dX1_copy_77 : decode cX1_copy 77 = .ok (.istore_n 3, 1) := by decide +kernel
theorem dX1_copy_78 : decode cX1_copy 78 = .ok (.iload_n 3, 1) := by decide +kernel
theorem dX1_copy_79 : decode cX1_copy 79 = .ok (.bipush 8, 2) := by decide +kernel
theorem dX1_copy_81 : decode cX1_copy 81 = .ok (.if_icmp .ge 53, 3) := by decide +kernel
theorem dX1_copy_84 : decode cX1_copy 84 = .ok (.aload_n 0, 1) := by decide +kernel
theorem dX1_copy_85 : decode cX1_copy 85 = .ok (.getfield 22, 3) := by decide +kernel
theorem dX1_copy_88 : decode cX1_copy 88 = .ok (.bipush 8, 2) := by decide +kernel
theorem dX1_copy_90 : decode cX1_copy 90 = .ok (.iload_n 2, 1) := by decide +kernel
theorem dX1_copy_91 : decode cX1_copy 91 = .ok (.imul, 1) := by decide +kernel
theorem dX1_copy_92 : decode cX1_copy 92 = .ok (.iload_n 3, 1) := by decide +kernel
theorem dX1_copy_93 : decode cX1_copy 93 = .ok (.iadd, 1) := by decide +kernel
theorem dX1_copy_94 : decode cX1_copy 94 = .ok (.aload_n 0, 1) := by decide +kernel
theorem dX1_copy_95 : decode cX1_copy 95 = .ok (.getfield 22, 3) := by decide +kernel
theorem dX1_copy_98 : decode cX1_copy 98 = .ok (.bipush 8, 2) := by decide +kernel
theorem dX1_copy_100 : decode cX1_copy 100 = .ok (.iload_n 1, 1) := by decide +kernel
theorem dX1_copy_101 : decode cX1_copy 101 = .ok (.imul, 1) := by decide +kernel
theorem dX1_copy_102 : decode cX1_copy 102 = .ok (.iload_n 3, 1) := by decide +kernel
theorem dX1_copy_103 : decode cX1_copy 103 = .ok (.iadd, 1) := by decide +kernel
theorem dX1_copy_104 : decode cX1_copy 104 = .ok (.iaload, 1) := by decide +kernel
theorem dX1_copy_105 : decode cX1_copy 105 = .ok (.iastore, 1) := by decide +kernel
theorem dX1_copy_106 : decode cX1_copy 106 = .ok (.aload_n 0, 1) := by decide +kernel
theorem dX1_copy_107 : decode cX1_copy 107 = .ok (.getfield 25, 3) := by decide +kernel
theorem dX1_copy_110 : decode cX1_copy 110 = .ok (.bipush 8, 2) := by decide +kernel
theorem dX1_copy_112 : decode cX1_copy 112 = .ok (.iload_n 2, 1) := by decide +kernel
theorem dX1_copy_113 : decode cX1_copy 113 = .ok (.imul, 1) := by decide +kernel
theorem dX1_copy_114 : decode cX1_copy 114 = .ok (.iload_n 3, 1) := by decide +kernel
theorem dX1_copy_115 : decode cX1_copy 115 = .ok (.iadd, 1) := by decide +kernel
theorem dX1_copy_116 : decode cX1_copy 116 = .ok (.aload_n 0, 1) := by decide +kernel
theorem dX1_copy_117 : decode cX1_copy 117 = .ok (.getfield 25, 3) := by decide +kernel
theorem dX1_copy_120 : decode cX1_copy 120 = .ok (.bipush 8, 2) := by decide +kernel
theorem dX1_copy_122 : decode cX1_copy 122 = .ok (.iload_n 1, 1) := by decide +kernel
theorem dX1_copy_123 : decode cX1_copy 123 = .ok (.imul, 1) := by decide +kernel
theorem dX1_copy_124 : decode cX1_copy 124 = .ok (.iload_n 3, 1) := by decide +kernel
theorem dX1_copy_125 : decode cX1_copy 125 = .ok (.iadd, 1) := by decide +kernel
theorem dX1_copy_126 : decode cX1_copy 126 = .ok (.laload, 1) := by decide +kernel
theorem dX1_copy_127 : decode cX1_copy 127 = .ok (.lastore, 1) := by decide +kernel
theorem dX1_copy_128 : decode cX1_copy 128 = .ok (.iinc 3 1, 3) := by decide +kernel
theorem dX1_copy_131 : decode cX1_copy 131 = .ok (.goto (-53), 3) := by decide +kernel
theorem dX1_copy_134 : decode cX1_copy 134 = .ok (.iload_n 2, 1) := by decide +kernel
theorem dX1_copy_135 : decode cX1_copy 135 = .ok (.ireturn, 1) := by decide +kernel
theorem dX1_isSpan_0 : decode cX1_isSpan 0 = .ok (.iload_n 0, 1) := by decide +kernel
theorem dX1_isSpan_1 : decode cX1_isSpan 1 = .ok (.ifCond .lt 18, 3) := by decide +kernel
theorem dX1_isSpan_4 : decode cX1_isSpan 4 = .ok (.iload_n 1, 1) := by decide +kernel
theorem dX1_isSpan_5 : decode cX1_isSpan 5 = .ok (.ifCond .lt 14, 3) := by decide +kernel
theorem dX1_isSpan_8 : decode cX1_isSpan 8 = .ok (.iload_n 0, 1) := by decide +kernel
theorem dX1_isSpan_9 : decode cX1_isSpan 9 = .ok (.iload_n 2, 1) := by decide +kernel
theorem dX1_isSpan_10 : decode cX1_isSpan 10 = .ok (.iload_n 1, 1) := by decide +kernel
theorem dX1_isSpan_11 : decode cX1_isSpan 11 = .ok (.isub, 1) := by decide +kernel
theorem dX1_isSpan_12 : decode cX1_isSpan 12 = .ok (.if_icmp .gt 7, 3) := by decide +kernel
theorem dX1_isSpan_15 : decode cX1_isSpan 15 = .ok (.iconst 1, 1) := by decide +kernel
theorem dX1_isSpan_16 : decode cX1_isSpan 16 = .ok (.goto 4, 3) := by decide +kernel
theorem dX1_isSpan_19 : decode cX1_isSpan 19 = .ok (.iconst 0, 1) := by decide +kernel
theorem dX1_isSpan_20 : decode cX1_isSpan 20 = .ok (.ireturn, 1) := by decide +kernel
theorem dX1_carry_0 : decode cX1_carry 0 = .ok (.aload_n 0, 1) := by decide +kernel
theorem dX1_carry_1 : decode cX1_carry 1 = .ok (.iload_n 1, 1) := by decide +kernel
theorem dX1_carry_2 : decode cX1_carry 2 = .ok (.invokevirtual 79, 3) := by decide +kernel
theorem dX1_carry_5 : decode cX1_carry 5 = .ok (.ifCond .eq 11, 3) := by decide +kernel
theorem dX1_carry_8 : decode cX1_carry 8 = .ok (.aload_n 0, 1) := by decide +kernel
theorem dX1_carry_9 : decode cX1_carry 9 = .ok (.iload_n 3, 1) := by decide +kernel
theorem dX1_carry_10 : decode cX1_carry 10 = .ok (.invokevirtual 79, 3) := by decide +kernel
theorem dX1_carry_13 : decode cX1_carry 13 = .ok (.ifCond .ne 6, 3) := by decide +kernel
theorem dX1_carry_16 : decode cX1_carry 16 = .ok (.bipush (-2), 2) := by decide +kernel
theorem dX1_carry_18 : decode cX1_carry 18 = .ok (.ireturn, 1) := by decide +kernel
theorem dX1_carry_19 : decode cX1_carry 19 = .ok (.iload_n 1, 1) := by decide +kernel
theorem dX1_carry_20 : decode cX1_carry 20 = .ok (.iconst (-1), 1) := by decide +kernel
theorem dX1_carry_21 : decode cX1_carry 21 = .ok (.if_icmp .eq 8, 3) := by decide +kernel
theorem dX1_carry_24 : decode cX1_carry 24 = .ok (.iload_n 3, 1) := by decide +kernel
theorem dX1_carry_25 : decode cX1_carry 25 = .ok (.iconst (-1), 1) := by decide +kernel
theorem dX1_carry_26 : decode cX1_carry 26 = .ok (.if_icmp .ne 9, 3) := by decide +kernel
theorem dX1_carry_29 : decode cX1_carry 29 = .ok (.aload_n 0, 1) := by decide +kernel
theorem dX1_carry_30 : decode cX1_carry 30 = .ok (.iconst 1, 1) := by decide +kernel
theorem dX1_carry_31 : decode cX1_carry 31 = .ok (.invokevirtual 75, 3) := by decide +kernel
theorem dX1_carry_34 : decode cX1_carry 34 = .ok (.ireturn, 1) := by decide +kernel
theorem dX1_carry_35 : decode cX1_carry 35 = .ok (.aload_n 0, 1) := by decide +kernel
theorem dX1_carry_36 : decode cX1_carry 36 = .ok (.getfield 13, 3) := by decide +kernel
theorem dX1_carry_39 : decode cX1_carry 39 = .ok (.iload_n 1, 1) := by decide +kernel
theorem dX1_carry_40 : decode cX1_carry 40 = .ok (.iaload, 1) := by decide +kernel
theorem dX1_carry_41 : decode cX1_carry 41 = .ok (.ifCond .eq 48, 3) := by decide +kernel
theorem dX1_carry_44 : decode cX1_carry 44 = .ok (.aload_n 0, 1) := by decide +kernel
theorem dX1_carry_45 : decode cX1_carry 45 = .ok (.getfield 13, 3) := by decide +kernel
theorem dX1_carry_48 : decode cX1_carry 48 = .ok (.iload_n 3, 1) := by decide +kernel
theorem dX1_carry_49 : decode cX1_carry 49 = .ok (.iaload, 1) := by decide +kernel
theorem dX1_carry_50 : decode cX1_carry 50 = .ok (.ifCond .eq 39, 3) := by decide +kernel
theorem dX1_carry_53 : decode cX1_carry 53 = .ok (.aload_n 0, 1) := by decide +kernel
theorem dX1_carry_54 : decode cX1_carry 54 = .ok (.iload_n 1, 1) := by decide +kernel
theorem dX1_carry_55 : decode cX1_carry 55 = .ok (.invokevirtual 86, 3) := by decide +kernel
theorem dX1_carry_58 : decode cX1_carry 58 = .ok (.aload_n 0, 1) := by decide +kernel
theorem dX1_carry_59 : decode cX1_carry 59 = .ok (.iload_n 3, 1) := by decide +kernel
theorem dX1_carry_60 : decode cX1_carry 60 = .ok (.invokevirtual 86, 3) := by decide +kernel
theorem dX1_carry_63 : decode cX1_carry 63 = .ok (.if_icmp .ne 26, 3) := by decide +kernel
theorem dX1_carry_66 : decode cX1_carry 66 = .ok (.aload_n 0, 1) := by decide +kernel
theorem dX1_carry_67 : decode cX1_carry 67 = .ok (.iload_n 1, 1) := by decide +kernel
theorem dX1_carry_68 : decode cX1_carry 68 = .ok (.invokevirtual 86, 3) := by decide +kernel
theorem dX1_carry_71 : decode cX1_carry 71 = .ok (.ifCond .eq 24, 3) := by decide +kernel
theorem dX1_carry_74 : decode cX1_carry 74 = .ok (.aload_n 0, 1) := by decide +kernel
theorem dX1_carry_75 : decode cX1_carry 75 = .ok (.getfield 7, 3) := by decide +kernel
theorem dX1_carry_78 : decode cX1_carry 78 = .ok (.iload_n 1, 1) := by decide +kernel
theorem dX1_carry_79 : decode cX1_carry 79 = .ok (.iaload, 1) := by decide +kernel
theorem dX1_carry_80 : decode cX1_carry 80 = .ok (.aload_n 0, 1) := by decide +kernel
theorem dX1_carry_81 : decode cX1_carry 81 = .ok (.getfield 7, 3) := by decide +kernel
theorem dX1_carry_84 : decode cX1_carry 84 = .ok (.iload_n 3, 1) := by decide +kernel
theorem dX1_carry_85 : decode cX1_carry 85 = .ok (.iaload, 1) := by decide +kernel
theorem dX1_carry_86 : decode cX1_carry 86 = .ok (.if_icmp .eq 9, 3) := by decide +kernel
theorem dX1_carry_89 : decode cX1_carry 89 = .ok (.aload_n 0, 1) := by decide +kernel
theorem dX1_carry_90 : decode cX1_carry 90 = .ok (.iconst 4, 1) := by decide +kernel
theorem dX1_carry_91 : decode cX1_carry 91 = .ok (.invokevirtual 75, 3) := by decide +kernel
theorem dX1_carry_94 : decode cX1_carry 94 = .ok (.ireturn, 1) := by decide +kernel
theorem dX1_carry_95 : decode cX1_carry 95 = .ok (.iload_n 2, 1) := by decide +kernel
theorem dX1_carry_96 : decode cX1_carry 96 = .ok (.iload 5, 2) := by decide +kernel
theorem dX1_carry_98 : decode cX1_carry 98 = .ok (.aload_n 0, 1) := by decide +kernel
theorem dX1_carry_99 : decode cX1_carry 99 = .ok (.getfield 16, 3) := by decide +kernel
theorem dX1_carry_102 : decode cX1_carry 102 = .ok (.iload_n 1, 1) := by decide +kernel
theorem dX1_carry_103 : decode cX1_carry 103 = .ok (.iaload, 1) := by decide +kernel
theorem dX1_carry_104 : decode cX1_carry 104 = .ok (.invokestatic 110, 3) := by decide +kernel
theorem dX1_carry_107 : decode cX1_carry 107 = .ok (.ifCond .eq 19, 3) := by decide +kernel
theorem dX1_carry_110 : decode cX1_carry 110 = .ok (.iload 4, 2) := by decide +kernel
theorem dX1_carry_112 : decode cX1_carry 112 = .ok (.iload 5, 2) := by decide +kernel
theorem dX1_carry_114 : decode cX1_carry 114 = .ok (.aload_n 0, 1) := by decide +kernel
theorem dX1_carry_115 : decode cX1_carry 115 = .ok (.getfield 16, 3) := by decide +kernel
theorem dX1_carry_118 : decode cX1_carry 118 = .ok (.iload_n 3, 1) := by decide +kernel
theorem dX1_carry_119 : decode cX1_carry 119 = .ok (.iaload, 1) := by decide +kernel
theorem dX1_carry_120 : decode cX1_carry 120 = .ok (.invokestatic 110, 3) := by decide +kernel
theorem dX1_carry_123 : decode cX1_carry 123 = .ok (.ifCond .ne 9, 3) := by decide +kernel
theorem dX1_carry_126 : decode cX1_carry 126 = .ok (.aload_n 0, 1) := by decide +kernel
theorem dX1_carry_127 : decode cX1_carry 127 = .ok (.iconst 3, 1) := by decide +kernel
theorem dX1_carry_128 : decode cX1_carry 128 = .ok (.invokevirtual 75, 3) := by decide +kernel
theorem dX1_carry_131 : decode cX1_carry 131 = .ok (.ireturn, 1) := by decide +kernel
theorem dX1_carry_132 : decode cX1_carry 132 = .ok (.iconst 0, 1) := by decide +kernel
theorem dX1_carry_133 : decode cX1_carry 133 = .ok (.istore 6, 2) := by decide +kernel
theorem dX1_carry_135 : decode cX1_carry 135 = .ok (.iload 6, 2) := by decide +kernel
theorem dX1_carry_137 : decode cX1_carry 137 = .ok (.iload 5, 2) := by decide +kernel
theorem dX1_carry_139 : decode cX1_carry 139 = .ok (.if_icmp .ge 51, 3) := by decide +kernel
theorem dX1_carry_142 : decode cX1_carry 142 = .ok (.aload_n 0, 1) := by decide +kernel
theorem dX1_carry_143 : decode cX1_carry 143 = .ok (.getfield 45, 3) := by decide +kernel
theorem dX1_carry_146 : decode cX1_carry 146 = .ok (.iload 6, 2) := by decide +kernel
theorem dX1_carry_148 : decode cX1_carry 148 = .ok (.aload_n 0, 1) := by decide +kernel
theorem dX1_carry_149 : decode cX1_carry 149 = .ok (.getfield 22, 3) := by decide +kernel
theorem dX1_carry_152 : decode cX1_carry 152 = .ok (.bipush 8, 2) := by decide +kernel
theorem dX1_carry_154 : decode cX1_carry 154 = .ok (.iload_n 1, 1) := by decide +kernel
theorem dX1_carry_155 : decode cX1_carry 155 = .ok (.imul, 1) := by decide +kernel
theorem dX1_carry_156 : decode cX1_carry 156 = .ok (.iload_n 2, 1) := by decide +kernel
theorem dX1_carry_157 : decode cX1_carry 157 = .ok (.iadd, 1) := by decide +kernel
theorem dX1_carry_158 : decode cX1_carry 158 = .ok (.iload 6, 2) := by decide +kernel
theorem dX1_carry_160 : decode cX1_carry 160 = .ok (.iadd, 1) := by decide +kernel
theorem dX1_carry_161 : decode cX1_carry 161 = .ok (.iaload, 1) := by decide +kernel
theorem dX1_carry_162 : decode cX1_carry 162 = .ok (.iastore, 1) := by decide +kernel
theorem dX1_carry_163 : decode cX1_carry 163 = .ok (.aload_n 0, 1) := by decide +kernel
theorem dX1_carry_164 : decode cX1_carry 164 = .ok (.getfield 48, 3) := by decide +kernel
theorem dX1_carry_167 : decode cX1_carry 167 = .ok (.iload 6, 2) := by decide +kernel
theorem dX1_carry_169 : decode cX1_carry 169 = .ok (.aload_n 0, 1) := by decide +kernel
theorem dX1_carry_170 : decode cX1_carry 170 = .ok (.getfield 25, 3) := by decide +kernel
theorem dX1_carry_173 : decode cX1_carry 173 = .ok (.bipush 8, 2) := by decide +kernel
theorem dX1_carry_175 : decode cX1_carry 175 = .ok (.iload_n 1, 1) := by decide +kernel
theorem dX1_carry_176 : decode cX1_carry 176 = .ok (.imul, 1) := by decide +kernel
theorem dX1_carry_177 : decode cX1_carry 177 = .ok (.iload_n 2, 1) := by decide +kernel
theorem dX1_carry_178 : decode cX1_carry 178 = .ok (.iadd, 1) := by decide +kernel
theorem dX1_carry_179 : decode cX1_carry 179 = .ok (.iload 6, 2) := by decide +kernel
theorem dX1_carry_181 : decode cX1_carry 181 = .ok (.iadd, 1) := by decide +kernel
theorem dX1_carry_182 : decode cX1_carry 182 = .ok (.laload, 1) := by decide +kernel
theorem dX1_carry_183 : decode cX1_carry 183 = .ok (.lastore, 1) := by decide +kernel
theorem dX1_carry_184 : decode cX1_carry 184 = .ok (.iinc 6 1, 3) := by decide +kernel
theorem dX1_carry_187 : decode cX1_carry 187 = .ok (.goto (-52), 3) := by decide +kernel
theorem dX1_carry_190 : decode cX1_carry 190 = .ok (.iconst 0, 1) := by decide +kernel
theorem dX1_carry_191 : decode cX1_carry 191 = .ok (.istore 6, 2) := by decide +kernel
theorem dX1_carry_193 : decode cX1_carry 193 = .ok (.iload 6, 2) := by decide +kernel
theorem dX1_carry_195 : decode cX1_carry 195 = .ok (.iload 5, 2) := by decide +kernel
theorem dX1_carry_197 : decode cX1_carry 197 = .ok (.if_icmp .ge 98, 3) := by decide +kernel
theorem dX1_carry_200 : decode cX1_carry 200 = .ok (.aload_n 0, 1) := by decide +kernel
theorem dX1_carry_201 : decode cX1_carry 201 = .ok (.getfield 45, 3) := by decide +kernel
theorem dX1_carry_204 : decode cX1_carry 204 = .ok (.iload 6, 2) := by decide +kernel
theorem dX1_carry_206 : decode cX1_carry 206 = .ok (.iaload, 1) := by decide +kernel
theorem dX1_carry_207 : decode cX1_carry 207 = .ok (.iconst (-1), 1) := by decide +kernel
theorem dX1_carry_208 : decode cX1_carry 208 = .ok (.if_icmp .eq 37, 3) := by decide +kernel
theorem dX1_carry_211 : decode cX1_carry 211 = .ok (.aload_n 0, 1) := by decide +kernel
theorem dX1_carry_212 : decode cX1_carry 212 = .ok (.aload_n 0, 1) := by decide +kernel
theorem dX1_carry_213 : decode cX1_carry 213 = .ok (.getfield 45, 3) := by decide +kernel
theorem dX1_carry_216 : decode cX1_carry 216 = .ok (.iload 6, 2) := by decide +kernel
theorem dX1_carry_218 : decode cX1_carry 218 = .ok (.iaload, 1) := by decide +kernel
theorem dX1_carry_219 : decode cX1_carry 219 = .ok (.aload_n 0, 1) := by decide +kernel
theorem dX1_carry_220 : decode cX1_carry 220 = .ok (.getfield 7, 3) := by decide +kernel
theorem dX1_carry_223 : decode cX1_carry 223 = .ok (.iload_n 3, 1) := by decide +kernel
theorem dX1_carry_224 : decode cX1_carry 224 = .ok (.iaload, 1) := by decide +kernel
theorem dX1_carry_225 : decode cX1_carry 225 = .ok (.aload_n 0, 1) := by decide +kernel
theorem dX1_carry_226 : decode cX1_carry 226 = .ok (.getfield 13, 3) := by decide +kernel
theorem dX1_carry_229 : decode cX1_carry 229 = .ok (.iload_n 3, 1) := by decide +kernel
theorem dX1_carry_230 : decode cX1_carry 230 = .ok (.iaload, 1) := by decide +kernel
theorem dX1_carry_231 : decode cX1_carry 231 = .ok (.iconst 1, 1) := by decide +kernel
theorem dX1_carry_232 : decode cX1_carry 232 = .ok (.isub, 1) := by decide +kernel
theorem dX1_carry_233 : decode cX1_carry 233 = .ok (.invokevirtual 83, 3) := by decide +kernel
theorem dX1_carry_236 : decode cX1_carry 236 = .ok (.ifCond .ne 9, 3) := by decide +kernel
theorem dX1_carry_239 : decode cX1_carry 239 = .ok (.aload_n 0, 1) := by decide +kernel
theorem dX1_carry_240 : decode cX1_carry 240 = .ok (.iconst 4, 1) := by decide +kernel
theorem dX1_carry_241 : decode cX1_carry 241 = .ok (.invokevirtual 75, 3) := by decide +kernel
theorem dX1_carry_244 : decode cX1_carry 244 = .ok (.ireturn, 1) := by decide +kernel
theorem dX1_carry_245 : decode cX1_carry 245 = .ok (.aload_n 0, 1) := by decide +kernel
theorem dX1_carry_246 : decode cX1_carry 246 = .ok (.getfield 22, 3) := by decide +kernel
theorem dX1_carry_249 : decode cX1_carry 249 = .ok (.bipush 8, 2) := by decide +kernel
theorem dX1_carry_251 : decode cX1_carry 251 = .ok (.iload_n 3, 1) := by decide +kernel
theorem dX1_carry_252 : decode cX1_carry 252 = .ok (.imul, 1) := by decide +kernel
theorem dX1_carry_253 : decode cX1_carry 253 = .ok (.iload 4, 2) := by decide +kernel
theorem dX1_carry_255 : decode cX1_carry 255 = .ok (.iadd, 1) := by decide +kernel
theorem dX1_carry_256 : decode cX1_carry 256 = .ok (.iload 6, 2) := by decide +kernel
theorem dX1_carry_258 : decode cX1_carry 258 = .ok (.iadd, 1) := by decide +kernel
theorem dX1_carry_259 : decode cX1_carry 259 = .ok (.aload_n 0, 1) := by decide +kernel
theorem dX1_carry_260 : decode cX1_carry 260 = .ok (.getfield 45, 3) := by decide +kernel
theorem dX1_carry_263 : decode cX1_carry 263 = .ok (.iload 6, 2) := by decide +kernel
theorem dX1_carry_265 : decode cX1_carry 265 = .ok (.iaload, 1) := by decide +kernel
theorem dX1_carry_266 : decode cX1_carry 266 = .ok (.iastore, 1) := by decide +kernel
theorem dX1_carry_267 : decode cX1_carry 267 = .ok (.aload_n 0, 1) := by decide +kernel
theorem dX1_carry_268 : decode cX1_carry 268 = .ok (.getfield 25, 3) := by decide +kernel
theorem dX1_carry_271 : decode cX1_carry 271 = .ok (.bipush 8, 2) := by decide +kernel
theorem dX1_carry_273 : decode cX1_carry 273 = .ok (.iload_n 3, 1) := by decide +kernel
theorem dX1_carry_274 : decode cX1_carry 274 = .ok (.imul, 1) := by decide +kernel
theorem dX1_carry_275 : decode cX1_carry 275 = .ok (.iload 4, 2) := by decide +kernel
theorem dX1_carry_277 : decode cX1_carry 277 = .ok (.iadd, 1) := by decide +kernel
theorem dX1_carry_278 : decode cX1_carry 278 = .ok (.iload 6, 2) := by decide +kernel
theorem dX1_carry_280 : decode cX1_carry 280 = .ok (.iadd, 1) := by decide +kernel
theorem dX1_carry_281 : decode cX1_carry 281 = .ok (.aload_n 0, 1) := by decide +kernel
theorem dX1_carry_282 : decode cX1_carry 282 = .ok (.getfield 48, 3) := by decide +kernel
theorem dX1_carry_285 : decode cX1_carry 285 = .ok (.iload 6, 2) := by decide +kernel
theorem dX1_carry_287 : decode cX1_carry 287 = .ok (.laload, 1) := by decide +kernel
theorem dX1_carry_288 : decode cX1_carry 288 = .ok (.lastore, 1) := by decide +kernel
theorem dX1_carry_289 : decode cX1_carry 289 = .ok (.iinc 6 1, 3) := by decide +kernel
theorem dX1_carry_292 : decode cX1_carry 292 = .ok (.goto (-99), 3) := by decide +kernel
theorem dX1_carry_295 : decode cX1_carry 295 = .ok (.iconst 1, 1) := by decide +kernel
theorem dX1_carry_296 : decode cX1_carry 296 = .ok (.ireturn, 1) := by decide +kernel
theorem dX1_about_0 : decode cX1_about 0 = .ok (.aload_n 0, 1) := by decide +kernel
theorem dX1_about_1 : decode cX1_about 1 = .ok (.iload_n 1, 1) := by decide +kernel
theorem dX1_about_2 : decode cX1_about 2 = .ok (.invokevirtual 104, 3) := by decide +kernel
theorem dX1_about_5 : decode cX1_about 5 = .ok (.ifCond .eq 12, 3) := by decide +kernel
theorem dX1_about_8 : decode cX1_about 8 = .ok (.iload_n 2, 1) := by decide +kernel
theorem dX1_about_9 : decode cX1_about 9 = .ok (.iconst 0, 1) := by decide +kernel
theorem dX1_about_10 : decode cX1_about 10 = .ok (.iconst 2, 1) := by decide +kernel
theorem dX1_about_11 : decode cX1_about 11 = .ok (.invokestatic 60, 3) := by decide +kernel
theorem dX1_about_14 : decode cX1_about 14 = .ok (.ifCond .ne 6, 3) := by decide +kernel
theorem dX1_about_17 : decode cX1_about 17 = .ok (.bipush (-2), 2) := by decide +kernel
theorem dX1_about_19 : decode cX1_about 19 = .ok (.ireturn, 1) := by decide +kernel
theorem dX1_about_20 : decode cX1_about 20 = .ok (.iload_n 2, 1) := by decide +kernel
theorem dX1_about_21 : decode cX1_about 21 = .ok (.ifCond .ne 12, 3) := by decide +kernel
theorem dX1_about_24 : decode cX1_about 24 = .ok (.aload_n 0, 1) := by decide +kernel
theorem dX1_about_25 : decode cX1_about 25 = .ok (.getfield 7, 3) := by decide +kernel
theorem dX1_about_28 : decode cX1_about 28 = .ok (.iload_n 1, 1) := by decide +kernel
theorem dX1_about_29 : decode cX1_about 29 = .ok (.iaload, 1) := by decide +kernel
theorem dX1_about_30 : decode cX1_about 30 = .ok (.goto 36, 3) := by decide +kernel
theorem dX1_about_33 : decode cX1_about 33 = .ok (.iload_n 2, 1) := by decide +kernel
theorem dX1_about_34 : decode cX1_about 34 = .ok (.iconst 1, 1) := by decide +kernel
theorem dX1_about_35 : decode cX1_about 35 = .ok (.if_icmp .ne 12, 3) := by decide +kernel
theorem dX1_about_38 : decode cX1_about 38 = .ok (.aload_n 0, 1) := by decide +kernel
theorem dX1_about_39 : decode cX1_about 39 = .ok (.getfield 13, 3) := by decide +kernel
theorem dX1_about_42 : decode cX1_about 42 = .ok (.iload_n 1, 1) := by decide +kernel
theorem dX1_about_43 : decode cX1_about 43 = .ok (.iaload, 1) := by decide +kernel
theorem dX1_about_44 : decode cX1_about 44 = .ok (.goto 22, 3) := by decide +kernel
theorem dX1_about_47 : decode cX1_about 47 = .ok (.aload_n 0, 1) := by decide +kernel
theorem dX1_about_48 : decode cX1_about 48 = .ok (.getfield 13, 3) := by decide +kernel
theorem dX1_about_51 : decode cX1_about 51 = .ok (.iload_n 1, 1) := by decide +kernel
theorem dX1_about_52 : decode cX1_about 52 = .ok (.iaload, 1) := by decide +kernel
theorem dX1_about_53 : decode cX1_about 53 = .ok (.ifCond .ne 7, 3) := by decide +kernel
theorem dX1_about_56 : decode cX1_about 56 = .ok (.iconst (-1), 1) := by decide +kernel
theorem dX1_about_57 : decode cX1_about 57 = .ok (.goto 9, 3) := by decide +kernel
theorem dX1_about_60 : decode cX1_about 60 = .ok (.aload_n 0, 1) := by decide +kernel
theorem dX1_about_61 : decode cX1_about 61 = .ok (.getfield 16, 3) := by decide +kernel
theorem dX1_about_64 : decode cX1_about 64 = .ok (.iload_n 1, 1) := by decide +kernel
theorem dX1_about_65 : decode cX1_about 65 = .ok (.iaload, 1) := by decide +kernel
theorem dX1_about_66 : decode cX1_about 66 = .ok (.ireturn, 1) := by decide +kernel
theorem dX1_bases_0 : decode cX1_bases 0 = .ok (.aload_n 0, 1) := by decide +kernel
theorem dX1_bases_1 : decode cX1_bases 1 = .ok (.iload_n 1, 1) := by decide +kernel
theorem dX1_bases_2 : decode cX1_bases 2 = .ok (.invokevirtual 104, 3) := by decide +kernel
theorem dX1_bases_5 : decode cX1_bases 5 = .ok (.ifCond .ne 6, 3) := by decide +kernel
theorem dX1_bases_8 : decode cX1_bases 8 = .ok (.bipush (-2), 2) := by decide +kernel
theorem dX1_bases_10 : decode cX1_bases 10 = .ok (.ireturn, 1) := by decide +kernel
theorem dX1_bases_11 : decode cX1_bases 11 = .ok (.iconst 0, 1) := by decide +kernel
theorem dX1_bases_12 : decode cX1_bases 12 = .ok (.istore_n 2, 1) := by decide +kernel
theorem dX1_bases_13 : decode cX1_bases 13 = .ok (.iconst 0, 1) := by decide +kernel
theorem dX1_bases_14 : decode cX1_bases 14 = .ok (.istore_n 3, 1) := by decide +kernel
theorem dX1_bases_15 : decode cX1_bases 15 = .ok (.iload_n 3, 1) := by decide +kernel
theorem dX1_bases_16 : decode cX1_bases 16 = .ok (.bipush 7, 2) := by decide +kernel
theorem dX1_bases_18 : decode cX1_bases 18 = .ok (.if_icmp .ge 32, 3) := by decide +kernel
theorem dX1_bases_21 : decode cX1_bases 21 = .ok (.iload_n 2, 1) := by decide +kernel
theorem dX1_bases_22 : decode cX1_bases 22 = .ok (.aload_n 0, 1) := by decide +kernel
theorem dX1_bases_23 : decode cX1_bases 23 = .ok (.getfield 7, 3) := by decide +kernel
theorem dX1_bases_26 : decode cX1_bases 26 = .ok (.iload_n 1, 1) := by decide +kernel
theorem dX1_bases_27 : decode cX1_bases 27 = .ok (.iaload, 1) := by decide +kernel
theorem dX1_bases_28 : decode cX1_bases 28 = .ok (.iload_n 3, 1) := by decide +kernel
theorem dX1_bases_29 : decode cX1_bases 29 = .ok (.invokestatic 64, 3) := by decide +kernel
theorem dX1_bases_32 : decode cX1_bases 32 = .ok (.ifCond .eq 9, 3) := by decide +kernel
theorem dX1_bases_35 : decode cX1_bases 35 = .ok (.iconst 1, 1) := by decide +kernel
theorem dX1_bases_36 : decode cX1_bases 36 = .ok (.iload_n 3, 1) := by decide +kernel
theorem dX1_bases_37 : decode cX1_bases 37 = .ok (.ishl, 1) := by decide +kernel
theorem dX1_bases_38 : decode cX1_bases 38 = .ok (.goto 4, 3) := by decide +kernel
theorem dX1_bases_41 : decode cX1_bases 41 = .ok (.iconst 0, 1) := by decide +kernel
theorem dX1_bases_42 : decode cX1_bases 42 = .ok (.ior, 1) := by decide +kernel
theorem dX1_bases_43 : decode cX1_bases 43 = .ok (.istore_n 2, 1) := by decide +kernel
theorem dX1_bases_44 : decode cX1_bases 44 = .ok (.iinc 3 1, 3) := by decide +kernel
theorem dX1_bases_47 : decode cX1_bases 47 = .ok (.goto (-32), 3) := by decide +kernel
theorem dX1_bases_50 : decode cX1_bases 50 = .ok (.iload_n 2, 1) := by decide +kernel
theorem dX1_bases_51 : decode cX1_bases 51 = .ok (.ireturn, 1) := by decide +kernel
theorem dX1_count_0 : decode cX1_count 0 = .ok (.iload_n 1, 1) := by decide +kernel
theorem dX1_count_1 : decode cX1_count 1 = .ok (.ifCond .ne 10, 3) := by decide +kernel
theorem dX1_count_4 : decode cX1_count 4 = .ok (.aload_n 0, 1) := by decide +kernel
theorem dX1_count_5 : decode cX1_count 5 = .ok (.getfield 57, 3) := by decide +kernel
theorem dX1_count_8 : decode cX1_count 8 = .ok (.goto 29, 3) := by decide +kernel
theorem dX1_count_11 : decode cX1_count 11 = .ok (.iload_n 1, 1) := by decide +kernel
theorem dX1_count_12 : decode cX1_count 12 = .ok (.iconst 1, 1) := by decide +kernel
theorem dX1_count_13 : decode cX1_count 13 = .ok (.if_icmp .ne 10, 3) := by decide +kernel
theorem dX1_count_16 : decode cX1_count 16 = .ok (.aload_n 0, 1) := by decide +kernel
theorem dX1_count_17 : decode cX1_count 17 = .ok (.getfield 51, 3) := by decide +kernel
theorem dX1_count_20 : decode cX1_count 20 = .ok (.goto 17, 3) := by decide +kernel
theorem dX1_count_23 : decode cX1_count 23 = .ok (.iload_n 1, 1) := by decide +kernel
theorem dX1_count_24 : decode cX1_count 24 = .ok (.iconst 2, 1) := by decide +kernel
theorem dX1_count_25 : decode cX1_count 25 = .ok (.if_icmp .ne 10, 3) := by decide +kernel
theorem dX1_count_28 : decode cX1_count 28 = .ok (.aload_n 0, 1) := by decide +kernel
theorem dX1_count_29 : decode cX1_count 29 = .ok (.getfield 54, 3) := by decide +kernel
theorem dX1_count_32 : decode cX1_count 32 = .ok (.goto 5, 3) := by decide +kernel
theorem dX1_count_35 : decode cX1_count 35 = .ok (.bipush (-2), 2) := by decide +kernel
theorem dX1_count_37 : decode cX1_count 37 = .ok (.ireturn, 1) := by decide +kernel
theorem dX1_clear_0 : decode cX1_clear 0 = .ok (.aload_n 0, 1) := by decide +kernel
theorem dX1_clear_1 : decode cX1_clear 1 = .ok (.getfield 57, 3) := by decide +kernel
theorem dX1_clear_4 : decode cX1_clear 4 = .ok (.istore_n 1, 1) := by decide +kernel
theorem dX1_clear_5 : decode cX1_clear 5 = .ok (.aload_n 0, 1) := by decide +kernel
theorem dX1_clear_6 : decode cX1_clear 6 = .ok (.iconst 0, 1) := by decide +kernel
theorem dX1_clear_7 : decode cX1_clear 7 = .ok (.putfield 57, 3) := by decide +kernel
theorem dX1_clear_10 : decode cX1_clear 10 = .ok (.iconst 0, 1) := by decide +kernel
theorem dX1_clear_11 : decode cX1_clear 11 = .ok (.istore_n 2, 1) := by decide +kernel
theorem dX1_clear_12 : decode cX1_clear 12 = .ok (.iload_n 2, 1) := by decide +kernel
theorem dX1_clear_13 : decode cX1_clear 13 = .ok (.bipush 8, 2) := by decide +kernel
theorem dX1_clear_15 : decode cX1_clear 15 = .ok (.if_icmp .ge 23, 3) := by decide +kernel
theorem dX1_clear_18 : decode cX1_clear 18 = .ok (.aload_n 0, 1) := by decide +kernel
theorem dX1_clear_19 : decode cX1_clear 19 = .ok (.getfield 29, 3) := by decide +kernel
theorem dX1_clear_22 : decode cX1_clear 22 = .ok (.iload_n 2, 1) := by decide +kernel
theorem dX1_clear_23 : decode cX1_clear 23 = .ok (.iconst 0, 1) := by decide +kernel
theorem dX1_clear_24 : decode cX1_clear 24 = .ok (.iastore, 1) := by decide +kernel
theorem dX1_clear_25 : decode cX1_clear 25 = .ok (.aload_n 0, 1) := by decide +kernel
theorem dX1_clear_26 : decode cX1_clear 26 = .ok (.getfield 32, 3) := by decide +kernel
theorem dX1_clear_29 : decode cX1_clear 29 = .ok (.iload_n 2, 1) := by decide +kernel
theorem dX1_clear_30 : decode cX1_clear 30 = .ok (.iconst 0, 1) := by decide +kernel
theorem dX1_clear_31 : decode cX1_clear 31 = .ok (.iastore, 1) := by decide +kernel
theorem dX1_clear_32 : decode cX1_clear 32 = .ok (.iinc 2 1, 3) := by decide +kernel
theorem dX1_clear_35 : decode cX1_clear 35 = .ok (.goto (-23), 3) := by decide +kernel
theorem dX1_clear_38 : decode cX1_clear 38 = .ok (.iload_n 1, 1) := by decide +kernel
theorem dX1_clear_39 : decode cX1_clear 39 = .ok (.ireturn, 1) := by decide +kernel
end
section
def RL : String := "DepotTraysLaw"
abbrev cL_law : ByteArray := code
def yL_law : MethodName := ⟨RL, "law", "([I)Z"⟩
theorem dL_law_0 : decode cL_law 0 = .ok (.new 7, 3) := by decide +kernel
theorem dL_law_3 : decode cL_law 3 = .ok (.dup, 1) := by decide +kernel
theorem dL_law_4 : decode cL_law 4 = .ok (.invokespecial 9, 3) := by decide +kernel
theorem dL_law_7 : decode cL_law 7 = .ok (.astore_n 1, 1) := by decide +kernel
theorem dL_law_8 : decode cL_law 8 = .ok (.new 10, 3) := by decide +kernel
theorem dL_law_11 : decode cL_law 11 = .ok (.dup, 1) := by decide +kernel
theorem dL_law_12 : decode cL_law 12 = .ok (.invokespecial 12, 3) := by decide +kernel
theorem dL_law_15 : decode cL_law 15 = .ok (.astore_n 2, 1) := by decide +kernel
theorem dL_law_16 : decode cL_law 16 = .ok (.iconst 0, 1) := by decide +kernel
theorem dL_law_17 : decode cL_law 17 = .ok (.istore_n 3, 1) := by decide +kernel
theorem dL_law_18 : decode cL_law 18 = .ok (.iload_n 3, 1) := by decide +kernel
theorem dL_law_19 : decode cL_law 19 = .ok (.aload_n 0, 1) := by decide +kernel
theorem dL_law_20 : decode cL_law 20 = .ok (.arraylength, 1) := by decide +kernel
theorem dL_law_21 : decode cL_law 21 = .ok (.bipush 6, 2) := by decide +kernel
theorem dL_law_23 : decode cL_law 23 = .ok (.isub, 1) := by decide +kernel
theorem dL_law_24 : decode cL_law 24 = .ok (.if_icmp .gt 775, 3) := by decide +kernel
theorem dL_law_27 : decode cL_law 27 = .ok (.aload_n 0, 1) := by decide +kernel
theorem dL_law_28 : decode cL_law 28 = .ok (.iload_n 3, 1) := by decide +kernel
theorem dL_law_29 : decode cL_law 29 = .ok (.iaload, 1) := by decide +kernel
theorem dL_law_30 : decode cL_law 30 = .ok (.bipush 31, 2) := by decide +kernel
theorem dL_law_32 : decode cL_law 32 = .ok (.iand, 1) := by decide +kernel
theorem dL_law_33 : decode cL_law 33 = .ok (.tableswitch 760 0 18 #[91, 124, 167, 210, 253, 286, 359, 393, 436, 479, 522, 535, 559, 582, 645, 668, 701, 724, 747], 91) := by decide +kernel
theorem dL_law_124 : decode cL_law 124 = .ok (.aload_n 1, 1) := by decide +kernel
theorem dL_law_125 : decode cL_law 125 = .ok (.aload_n 0, 1) := by decide +kernel
theorem dL_law_126 : decode cL_law 126 = .ok (.iload_n 3, 1) := by decide +kernel
theorem dL_law_127 : decode cL_law 127 = .ok (.iconst 1, 1) := by decide +kernel
theorem dL_law_128 : decode cL_law 128 = .ok (.iadd, 1) := by decide +kernel
theorem dL_law_129 : decode cL_law 129 = .ok (.iaload, 1) := by decide +kernel
theorem dL_law_130 : decode cL_law 130 = .ok (.aload_n 0, 1) := by decide +kernel
theorem dL_law_131 : decode cL_law 131 = .ok (.iload_n 3, 1) := by decide +kernel
theorem dL_law_132 : decode cL_law 132 = .ok (.iconst 2, 1) := by decide +kernel
theorem dL_law_133 : decode cL_law 133 = .ok (.iadd, 1) := by decide +kernel
theorem dL_law_134 : decode cL_law 134 = .ok (.iaload, 1) := by decide +kernel
theorem dL_law_135 : decode cL_law 135 = .ok (.invokevirtual 13, 3) := by decide +kernel
theorem dL_law_138 : decode cL_law 138 = .ok (.aload_n 2, 1) := by decide +kernel
theorem dL_law_139 : decode cL_law 139 = .ok (.aload_n 0, 1) := by decide +kernel
theorem dL_law_140 : decode cL_law 140 = .ok (.iload_n 3, 1) := by decide +kernel
theorem dL_law_141 : decode cL_law 141 = .ok (.iconst 1, 1) := by decide +kernel
theorem dL_law_142 : decode cL_law 142 = .ok (.iadd, 1) := by decide +kernel
theorem dL_law_143 : decode cL_law 143 = .ok (.iaload, 1) := by decide +kernel
theorem dL_law_144 : decode cL_law 144 = .ok (.aload_n 0, 1) := by decide +kernel
theorem dL_law_145 : decode cL_law 145 = .ok (.iload_n 3, 1) := by decide +kernel
theorem dL_law_146 : decode cL_law 146 = .ok (.iconst 2, 1) := by decide +kernel
theorem dL_law_147 : decode cL_law 147 = .ok (.iadd, 1) := by decide +kernel
theorem dL_law_148 : decode cL_law 148 = .ok (.iaload, 1) := by decide +kernel
theorem dL_law_149 : decode cL_law 149 = .ok (.invokevirtual 17, 3) := by decide +kernel
theorem dL_law_152 : decode cL_law 152 = .ok (.if_icmp .eq 641, 3) := by decide +kernel
theorem dL_law_155 : decode cL_law 155 = .ok (.iconst 0, 1) := by decide +kernel
theorem dL_law_156 : decode cL_law 156 = .ok (.ireturn, 1) := by decide +kernel
theorem dL_law_157 : decode cL_law 157 = .ok (.aload_n 1, 1) := by decide +kernel
theorem dL_law_158 : decode cL_law 158 = .ok (.aload_n 0, 1) := by decide +kernel
theorem dL_law_159 : decode cL_law 159 = .ok (.iload_n 3, 1) := by decide +kernel
theorem dL_law_160 : decode cL_law 160 = .ok (.iconst 1, 1) := by decide +kernel
theorem dL_law_161 : decode cL_law 161 = .ok (.iadd, 1) := by decide +kernel
theorem dL_law_162 : decode cL_law 162 = .ok (.iaload, 1) := by decide +kernel
theorem dL_law_163 : decode cL_law 163 = .ok (.aload_n 0, 1) := by decide +kernel
theorem dL_law_164 : decode cL_law 164 = .ok (.iload_n 3, 1) := by decide +kernel
theorem dL_law_165 : decode cL_law 165 = .ok (.iconst 2, 1) := by decide +kernel
theorem dL_law_166 : decode cL_law 166 = .ok (.iadd, 1) := by decide +kernel
theorem dL_law_167 : decode cL_law 167 = .ok (.iaload, 1) := by decide +kernel
theorem dL_law_168 : decode cL_law 168 = .ok (.aload_n 0, 1) := by decide +kernel
theorem dL_law_169 : decode cL_law 169 = .ok (.iload_n 3, 1) := by decide +kernel
theorem dL_law_170 : decode cL_law 170 = .ok (.iconst 3, 1) := by decide +kernel
theorem dL_law_171 : decode cL_law 171 = .ok (.iadd, 1) := by decide +kernel
theorem dL_law_172 : decode cL_law 172 = .ok (.iaload, 1) := by decide +kernel
theorem dL_law_173 : decode cL_law 173 = .ok (.invokevirtual 18, 3) := by decide +kernel
theorem dL_law_176 : decode cL_law 176 = .ok (.aload_n 2, 1) := by decide +kernel
theorem dL_law_177 : decode cL_law 177 = .ok (.aload_n 0, 1) := by decide +kernel
theorem dL_law_178 : decode cL_law 178 = .ok (.iload_n 3, 1) := by decide +kernel
theorem dL_law_179 : decode cL_law 179 = .ok (.iconst 1, 1) := by decide +kernel
theorem dL_law_180 : decode cL_law 180 = .ok (.iadd, 1) := by decide +kernel
theorem dL_law_181 : decode cL_law 181 = .ok (.iaload, 1) := by decide +kernel
theorem dL_law_182 : decode cL_law 182 = .ok (.aload_n 0, 1) := by decide +kernel
theorem dL_law_183 : decode cL_law 183 = .ok (.iload_n 3, 1) := by decide +kernel
theorem dL_law_184 : decode cL_law 184 = .ok (.iconst 2, 1) := by decide +kernel
theorem dL_law_185 : decode cL_law 185 = .ok (.iadd, 1) := by decide +kernel
theorem dL_law_186 : decode cL_law 186 = .ok (.iaload, 1) := by decide +kernel
theorem dL_law_187 : decode cL_law 187 = .ok (.aload_n 0, 1) := by decide +kernel
theorem dL_law_188 : decode cL_law 188 = .ok (.iload_n 3, 1) := by decide +kernel
theorem dL_law_189 : decode cL_law 189 = .ok (.iconst 3, 1) := by decide +kernel
theorem dL_law_190 : decode cL_law 190 = .ok (.iadd, 1) := by decide +kernel
theorem dL_law_191 : decode cL_law 191 = .ok (.iaload, 1) := by decide +kernel
theorem dL_law_192 : decode cL_law 192 = .ok (.invokevirtual 22, 3) := by decide +kernel
theorem dL_law_195 : decode cL_law 195 = .ok (.if_icmp .eq 598, 3) := by decide +kernel
theorem dL_law_198 : decode cL_law 198 = .ok (.iconst 0, 1) := by decide +kernel
theorem dL_law_199 : decode cL_law 199 = .ok (.ireturn, 1) := by decide +kernel
theorem dL_law_200 : decode cL_law 200 = .ok (.aload_n 1, 1) := by decide +kernel
theorem dL_law_201 : decode cL_law 201 = .ok (.aload_n 0, 1) := by decide +kernel
theorem dL_law_202 : decode cL_law 202 = .ok (.iload_n 3, 1) := by decide +kernel
theorem dL_law_203 : decode cL_law 203 = .ok (.iconst 1, 1) := by decide +kernel
theorem dL_law_204 : decode cL_law 204 = .ok (.iadd, 1) := by decide +kernel
theorem dL_law_205 : decode cL_law 205 = .ok (.iaload, 1) := by decide +kernel
theorem dL_law_206 : decode cL_law 206 = .ok (.aload_n 0, 1) := by decide +kernel
theorem dL_law_207 : decode cL_law 207 = .ok (.iload_n 3, 1) := by decide +kernel
theorem dL_law_208 : decode cL_law 208 = .ok (.iconst 2, 1) := by decide +kernel
theorem dL_law_209 : decode cL_law 209 = .ok (.iadd, 1) := by decide +kernel
theorem dL_law_210 : decode cL_law 210 = .ok (.iaload, 1) := by decide +kernel
theorem dL_law_211 : decode cL_law 211 = .ok (.aload_n 0, 1) := by decide +kernel
theorem dL_law_212 : decode cL_law 212 = .ok (.iload_n 3, 1) := by decide +kernel
theorem dL_law_213 : decode cL_law 213 = .ok (.iconst 3, 1) := by decide +kernel
theorem dL_law_214 : decode cL_law 214 = .ok (.iadd, 1) := by decide +kernel
theorem dL_law_215 : decode cL_law 215 = .ok (.iaload, 1) := by decide +kernel
theorem dL_law_216 : decode cL_law 216 = .ok (.invokevirtual 23, 3) := by decide +kernel
theorem dL_law_219 : decode cL_law 219 = .ok (.aload_n 2, 1) := by decide +kernel
theorem dL_law_220 : decode cL_law 220 = .ok (.aload_n 0, 1) := by decide +kernel
theorem dL_law_221 : decode cL_law 221 = .ok (.iload_n 3, 1) := by decide +kernel
theorem dL_law_222 : decode cL_law 222 = .ok (.iconst 1, 1) := by decide +kernel
theorem dL_law_223 : decode cL_law 223 = .ok (.iadd, 1) := by decide +kernel
theorem dL_law_224 : decode cL_law 224 = .ok (.iaload, 1) := by decide +kernel
theorem dL_law_225 : decode cL_law 225 = .ok (.aload_n 0, 1) := by decide +kernel
theorem dL_law_226 : decode cL_law 226 = .ok (.iload_n 3, 1) := by decide +kernel
theorem dL_law_227 : decode cL_law 227 = .ok (.iconst 2, 1) := by decide +kernel
theorem dL_law_228 : decode cL_law 228 = .ok (.iadd, 1) := by decide +kernel
theorem dL_law_229 : decode cL_law 229 = .ok (.iaload, 1) := by decide +kernel
theorem dL_law_230 : decode cL_law 230 = .ok (.aload_n 0, 1) := by decide +kernel
theorem dL_law_231 : decode cL_law 231 = .ok (.iload_n 3, 1) := by decide +kernel
theorem dL_law_232 : decode cL_law 232 = .ok (.iconst 3, 1) := by decide +kernel
theorem dL_law_233 : decode cL_law 233 = .ok (.iadd, 1) := by decide +kernel
theorem dL_law_234 : decode cL_law 234 = .ok (.iaload, 1) := by decide +kernel
theorem dL_law_235 : decode cL_law 235 = .ok (.invokevirtual 26, 3) := by decide +kernel
theorem dL_law_238 : decode cL_law 238 = .ok (.if_icmp .eq 555, 3) := by decide +kernel
theorem dL_law_241 : decode cL_law 241 = .ok (.iconst 0, 1) := by decide +kernel
theorem dL_law_242 : decode cL_law 242 = .ok (.ireturn, 1) := by decide +kernel
theorem dL_law_243 : decode cL_law 243 = .ok (.aload_n 1, 1) := by decide +kernel
theorem dL_law_244 : decode cL_law 244 = .ok (.aload_n 0, 1) := by decide +kernel
theorem dL_law_245 : decode cL_law 245 = .ok (.iload_n 3, 1) := by decide +kernel
theorem dL_law_246 : decode cL_law 246 = .ok (.iconst 1, 1) := by decide +kernel
theorem dL_law_247 : decode cL_law 247 = .ok (.iadd, 1) := by decide +kernel
theorem dL_law_248 : decode cL_law 248 = .ok (.iaload, 1) := by decide +kernel
theorem dL_law_249 : decode cL_law 249 = .ok (.aload_n 0, 1) := by decide +kernel
theorem dL_law_250 : decode cL_law 250 = .ok (.iload_n 3, 1) := by decide +kernel
theorem dL_law_251 : decode cL_law 251 = .ok (.iconst 2, 1) := by decide +kernel
theorem dL_law_252 : decode cL_law 252 = .ok (.iadd, 1) := by decide +kernel
theorem dL_law_253 : decode cL_law 253 = .ok (.iaload, 1) := by decide +kernel
theorem dL_law_254 : decode cL_law 254 = .ok (.aload_n 0, 1) := by decide +kernel
theorem dL_law_255 : decode cL_law 255 = .ok (.iload_n 3, 1) := by decide +kernel
theorem dL_law_256 : decode cL_law 256 = .ok (.iconst 3, 1) := by decide +kernel
theorem dL_law_257 : decode cL_law 257 = .ok (.iadd, 1) := by decide +kernel
theorem dL_law_258 : decode cL_law 258 = .ok (.iaload, 1) := by decide +kernel
theorem dL_law_259 : decode cL_law 259 = .ok (.invokevirtual 27, 3) := by decide +kernel
theorem dL_law_262 : decode cL_law 262 = .ok (.aload_n 2, 1) := by decide +kernel
theorem dL_law_263 : decode cL_law 263 = .ok (.aload_n 0, 1) := by decide +kernel
theorem dL_law_264 : decode cL_law 264 = .ok (.iload_n 3, 1) := by decide +kernel
theorem dL_law_265 : decode cL_law 265 = .ok (.iconst 1, 1) := by decide +kernel
theorem dL_law_266 : decode cL_law 266 = .ok (.iadd, 1) := by decide +kernel
theorem dL_law_267 : decode cL_law 267 = .ok (.iaload, 1) := by decide +kernel
theorem dL_law_268 : decode cL_law 268 = .ok (.aload_n 0, 1) := by decide +kernel
theorem dL_law_269 : decode cL_law 269 = .ok (.iload_n 3, 1) := by decide +kernel
theorem dL_law_270 : decode cL_law 270 = .ok (.iconst 2, 1) := by decide +kernel
theorem dL_law_271 : decode cL_law 271 = .ok (.iadd, 1) := by decide +kernel
theorem dL_law_272 : decode cL_law 272 = .ok (.iaload, 1) := by decide +kernel
theorem dL_law_273 : decode cL_law 273 = .ok (.aload_n 0, 1) := by decide +kernel
theorem dL_law_274 : decode cL_law 274 = .ok (.iload_n 3, 1) := by decide +kernel
theorem dL_law_275 : decode cL_law 275 = .ok (.iconst 3, 1) := by decide +kernel
theorem dL_law_276 : decode cL_law 276 = .ok (.iadd, 1) := by decide +kernel
theorem dL_law_277 : decode cL_law 277 = .ok (.iaload, 1) := by decide +kernel
theorem dL_law_278 : decode cL_law 278 = .ok (.invokevirtual 30, 3) := by decide +kernel
theorem dL_law_281 : decode cL_law 281 = .ok (.if_icmp .eq 512, 3) := by decide +kernel
theorem dL_law_284 : decode cL_law 284 = .ok (.iconst 0, 1) := by decide +kernel
theorem dL_law_285 : decode cL_law 285 = .ok (.ireturn, 1) := by decide +kernel
theorem dL_law_286 : decode cL_law 286 = .ok (.aload_n 1, 1) := by decide +kernel
theorem dL_law_287 : decode cL_law 287 = .ok (.aload_n 0, 1) := by decide +kernel
theorem dL_law_288 : decode cL_law 288 = .ok (.iload_n 3, 1) := by decide +kernel
theorem dL_law_289 : decode cL_law 289 = .ok (.iconst 1, 1) := by decide +kernel
theorem dL_law_290 : decode cL_law 290 = .ok (.iadd, 1) := by decide +kernel
theorem dL_law_291 : decode cL_law 291 = .ok (.iaload, 1) := by decide +kernel
theorem dL_law_292 : decode cL_law 292 = .ok (.aload_n 0, 1) := by decide +kernel
theorem dL_law_293 : decode cL_law 293 = .ok (.iload_n 3, 1) := by decide +kernel
theorem dL_law_294 : decode cL_law 294 = .ok (.iconst 2, 1) := by decide +kernel
theorem dL_law_295 : decode cL_law 295 = .ok (.iadd, 1) := by decide +kernel
theorem dL_law_296 : decode cL_law 296 = .ok (.iaload, 1) := by decide +kernel
theorem dL_law_297 : decode cL_law 297 = .ok (.invokevirtual 31, 3) := by decide +kernel
theorem dL_law_300 : decode cL_law 300 = .ok (.aload_n 2, 1) := by decide +kernel
theorem dL_law_301 : decode cL_law 301 = .ok (.aload_n 0, 1) := by decide +kernel
theorem dL_law_302 : decode cL_law 302 = .ok (.iload_n 3, 1) := by decide +kernel
theorem dL_law_303 : decode cL_law 303 = .ok (.iconst 1, 1) := by decide +kernel
theorem dL_law_304 : decode cL_law 304 = .ok (.iadd, 1) := by decide +kernel
theorem dL_law_305 : decode cL_law 305 = .ok (.iaload, 1) := by decide +kernel
theorem dL_law_306 : decode cL_law 306 = .ok (.aload_n 0, 1) := by decide +kernel
theorem dL_law_307 : decode cL_law 307 = .ok (.iload_n 3, 1) := by decide +kernel
theorem dL_law_308 : decode cL_law 308 = .ok (.iconst 2, 1) := by decide +kernel
theorem dL_law_309 : decode cL_law 309 = .ok (.iadd, 1) := by decide +kernel
theorem dL_law_310 : decode cL_law 310 = .ok (.iaload, 1) := by decide +kernel
theorem dL_law_311 : decode cL_law 311 = .ok (.invokevirtual 34, 3) := by decide +kernel
theorem dL_law_314 : decode cL_law 314 = .ok (.if_icmp .eq 479, 3) := by decide +kernel
theorem dL_law_317 : decode cL_law 317 = .ok (.iconst 0, 1) := by decide +kernel
theorem dL_law_318 : decode cL_law 318 = .ok (.ireturn, 1) := by decide +kernel
theorem dL_law_319 : decode cL_law 319 = .ok (.aload_n 1, 1) := by decide +kernel
theorem dL_law_320 : decode cL_law 320 = .ok (.aload_n 0, 1) := by decide +kernel
theorem dL_law_321 : decode cL_law 321 = .ok (.iload_n 3, 1) := by decide +kernel
theorem dL_law_322 : decode cL_law 322 = .ok (.iconst 1, 1) := by decide +kernel
theorem dL_law_323 : decode cL_law 323 = .ok (.iadd, 1) := by decide +kernel
theorem dL_law_324 : decode cL_law 324 = .ok (.iaload, 1) := by decide +kernel
theorem dL_law_325 : decode cL_law 325 = .ok (.aload_n 0, 1) := by decide +kernel
theorem dL_law_326 : decode cL_law 326 = .ok (.iload_n 3, 1) := by decide +kernel
theorem dL_law_327 : decode cL_law 327 = .ok (.iconst 2, 1) := by decide +kernel
theorem dL_law_328 : decode cL_law 328 = .ok (.iadd, 1) := by decide +kernel
theorem dL_law_329 : decode cL_law 329 = .ok (.iaload, 1) := by decide +kernel
theorem dL_law_330 : decode cL_law 330 = .ok (.aload_n 0, 1) := by decide +kernel
theorem dL_law_331 : decode cL_law 331 = .ok (.iload_n 3, 1) := by decide +kernel
theorem dL_law_332 : decode cL_law 332 = .ok (.iconst 3, 1) := by decide +kernel
theorem dL_law_333 : decode cL_law 333 = .ok (.iadd, 1) := by decide +kernel
theorem dL_law_334 : decode cL_law 334 = .ok (.iaload, 1) := by decide +kernel
theorem dL_law_335 : decode cL_law 335 = .ok (.i2l, 1) := by decide +kernel
theorem dL_law_336 : decode cL_law 336 = .ok (.bipush 32, 2) := by decide +kernel
theorem dL_law_338 : decode cL_law 338 = .ok (.lshl, 1) := by decide +kernel
theorem dL_law_339 : decode cL_law 339 = .ok (.aload_n 0, 1) := by decide +kernel
theorem dL_law_340 : decode cL_law 340 = .ok (.iload_n 3, 1) := by decide +kernel
theorem dL_law_341 : decode cL_law 341 = .ok (.iconst 4, 1) := by decide +kernel
theorem dL_law_342 : decode cL_law 342 = .ok (.iadd, 1) := by decide +kernel
theorem dL_law_343 : decode cL_law 343 = .ok (.iaload, 1) := by decide +kernel
theorem dL_law_344 : decode cL_law 344 = .ok (.i2l, 1) := by decide +kernel
theorem dL_law_345 : decode cL_law 345 = .ok (.ldc2_w 35, 3) := by decide +kernel
theorem dL_law_348 : decode cL_law 348 = .ok (.land, 1) := by decide +kernel
theorem dL_law_349 : decode cL_law 349 = .ok (.lor, 1) := by decide +kernel
theorem dL_law_350 : decode cL_law 350 = .ok (.invokevirtual 37, 3) := by decide +kernel
theorem dL_law_353 : decode cL_law 353 = .ok (.aload_n 2, 1) := by decide +kernel
theorem dL_law_354 : decode cL_law 354 = .ok (.aload_n 0, 1) := by decide +kernel
theorem dL_law_355 : decode cL_law 355 = .ok (.iload_n 3, 1) := by decide +kernel
theorem dL_law_356 : decode cL_law 356 = .ok (.iconst 1, 1) := by decide +kernel
theorem dL_law_357 : decode cL_law 357 = .ok (.iadd, 1) := by decide +kernel
theorem dL_law_358 : decode cL_law 358 = .ok (.iaload, 1) := by decide +kernel
theorem dL_law_359 : decode cL_law 359 = .ok (.aload_n 0, 1) := by decide +kernel
theorem dL_law_360 : decode cL_law 360 = .ok (.iload_n 3, 1) := by decide +kernel
theorem dL_law_361 : decode cL_law 361 = .ok (.iconst 2, 1) := by decide +kernel
theorem dL_law_362 : decode cL_law 362 = .ok (.iadd, 1) := by decide +kernel
theorem dL_law_363 : decode cL_law 363 = .ok (.iaload, 1) := by decide +kernel
theorem dL_law_364 : decode cL_law 364 = .ok (.aload_n 0, 1) := by decide +kernel
theorem dL_law_365 : decode cL_law 365 = .ok (.iload_n 3, 1) := by decide +kernel
theorem dL_law_366 : decode cL_law 366 = .ok (.iconst 3, 1) := by decide +kernel
theorem dL_law_367 : decode cL_law 367 = .ok (.iadd, 1) := by decide +kernel
theorem dL_law_368 : decode cL_law 368 = .ok (.iaload, 1) := by decide +kernel
theorem dL_law_369 : decode cL_law 369 = .ok (.i2l, 1) := by decide +kernel
theorem dL_law_370 : decode cL_law 370 = .ok (.bipush 32, 2) := by decide +kernel
theorem dL_law_372 : decode cL_law 372 = .ok (.lshl, 1) := by decide +kernel
theorem dL_law_373 : decode cL_law 373 = .ok (.aload_n 0, 1) := by decide +kernel
theorem dL_law_374 : decode cL_law 374 = .ok (.iload_n 3, 1) := by decide +kernel
theorem dL_law_375 : decode cL_law 375 = .ok (.iconst 4, 1) := by decide +kernel
theorem dL_law_376 : decode cL_law 376 = .ok (.iadd, 1) := by decide +kernel
theorem dL_law_377 : decode cL_law 377 = .ok (.iaload, 1) := by decide +kernel
theorem dL_law_378 : decode cL_law 378 = .ok (.i2l, 1) := by decide +kernel
theorem dL_law_379 : decode cL_law 379 = .ok (.ldc2_w 35, 3) := by decide +kernel
theorem dL_law_382 : decode cL_law 382 = .ok (.land, 1) := by decide +kernel
theorem dL_law_383 : decode cL_law 383 = .ok (.lor, 1) := by decide +kernel
theorem dL_law_384 : decode cL_law 384 = .ok (.invokevirtual 41, 3) := by decide +kernel
theorem dL_law_387 : decode cL_law 387 = .ok (.if_icmp .eq 406, 3) := by decide +kernel
theorem dL_law_390 : decode cL_law 390 = .ok (.iconst 0, 1) := by decide +kernel
theorem dL_law_391 : decode cL_law 391 = .ok (.ireturn, 1) := by decide +kernel
theorem dL_law_392 : decode cL_law 392 = .ok (.aload_n 1, 1) := by decide +kernel
theorem dL_law_393 : decode cL_law 393 = .ok (.aload_n 0, 1) := by decide +kernel
theorem dL_law_394 : decode cL_law 394 = .ok (.iload_n 3, 1) := by decide +kernel
theorem dL_law_395 : decode cL_law 395 = .ok (.iconst 1, 1) := by decide +kernel
theorem dL_law_396 : decode cL_law 396 = .ok (.iadd, 1) := by decide +kernel
theorem dL_law_397 : decode cL_law 397 = .ok (.iaload, 1) := by decide +kernel
theorem dL_law_398 : decode cL_law 398 = .ok (.aload_n 0, 1) := by decide +kernel
theorem dL_law_399 : decode cL_law 399 = .ok (.iload_n 3, 1) := by decide +kernel
theorem dL_law_400 : decode cL_law 400 = .ok (.iconst 2, 1) := by decide +kernel
theorem dL_law_401 : decode cL_law 401 = .ok (.iadd, 1) := by decide +kernel
theorem dL_law_402 : decode cL_law 402 = .ok (.iaload, 1) := by decide +kernel
theorem dL_law_403 : decode cL_law 403 = .ok (.invokevirtual 42, 3) := by decide +kernel
theorem dL_law_406 : decode cL_law 406 = .ok (.aload_n 2, 1) := by decide +kernel
theorem dL_law_407 : decode cL_law 407 = .ok (.aload_n 0, 1) := by decide +kernel
theorem dL_law_408 : decode cL_law 408 = .ok (.iload_n 3, 1) := by decide +kernel
theorem dL_law_409 : decode cL_law 409 = .ok (.iconst 1, 1) := by decide +kernel
theorem dL_law_410 : decode cL_law 410 = .ok (.iadd, 1) := by decide +kernel
theorem dL_law_411 : decode cL_law 411 = .ok (.iaload, 1) := by decide +kernel
theorem dL_law_412 : decode cL_law 412 = .ok (.aload_n 0, 1) := by decide +kernel
theorem dL_law_413 : decode cL_law 413 = .ok (.iload_n 3, 1) := by decide +kernel
theorem dL_law_414 : decode cL_law 414 = .ok (.iconst 2, 1) := by decide +kernel
theorem dL_law_415 : decode cL_law 415 = .ok (.iadd, 1) := by decide +kernel
theorem dL_law_416 : decode cL_law 416 = .ok (.iaload, 1) := by decide +kernel
theorem dL_law_417 : decode cL_law 417 = .ok (.invokevirtual 46, 3) := by decide +kernel
theorem dL_law_420 : decode cL_law 420 = .ok (.lcmp, 1) := by decide +kernel
theorem dL_law_421 : decode cL_law 421 = .ok (.ifCond .eq 372, 3) := by decide +kernel
theorem dL_law_424 : decode cL_law 424 = .ok (.iconst 0, 1) := by decide +kernel
theorem dL_law_425 : decode cL_law 425 = .ok (.ireturn, 1) := by decide +kernel
theorem dL_law_426 : decode cL_law 426 = .ok (.aload_n 1, 1) := by decide +kernel
theorem dL_law_427 : decode cL_law 427 = .ok (.aload_n 0, 1) := by decide +kernel
theorem dL_law_428 : decode cL_law 428 = .ok (.iload_n 3, 1) := by decide +kernel
theorem dL_law_429 : decode cL_law 429 = .ok (.iconst 1, 1) := by decide +kernel
theorem dL_law_430 : decode cL_law 430 = .ok (.iadd, 1) := by decide +kernel
theorem dL_law_431 : decode cL_law 431 = .ok (.iaload, 1) := by decide +kernel
theorem dL_law_432 : decode cL_law 432 = .ok (.aload_n 0, 1) := by decide +kernel
theorem dL_law_433 : decode cL_law 433 = .ok (.iload_n 3, 1) := by decide +kernel
theorem dL_law_434 : decode cL_law 434 = .ok (.iconst 2, 1) := by decide +kernel
theorem dL_law_435 : decode cL_law 435 = .ok (.iadd, 1) := by decide +kernel
theorem dL_law_436 : decode cL_law 436 = .ok (.iaload, 1) := by decide +kernel
theorem dL_law_437 : decode cL_law 437 = .ok (.aload_n 0, 1) := by decide +kernel
theorem dL_law_438 : decode cL_law 438 = .ok (.iload_n 3, 1) := by decide +kernel
theorem dL_law_439 : decode cL_law 439 = .ok (.iconst 3, 1) := by decide +kernel
theorem dL_law_440 : decode cL_law 440 = .ok (.iadd, 1) := by decide +kernel
theorem dL_law_441 : decode cL_law 441 = .ok (.iaload, 1) := by decide +kernel
theorem dL_law_442 : decode cL_law 442 = .ok (.invokevirtual 47, 3) := by decide +kernel
theorem dL_law_445 : decode cL_law 445 = .ok (.aload_n 2, 1) := by decide +kernel
theorem dL_law_446 : decode cL_law 446 = .ok (.aload_n 0, 1) := by decide +kernel
theorem dL_law_447 : decode cL_law 447 = .ok (.iload_n 3, 1) := by decide +kernel
theorem dL_law_448 : decode cL_law 448 = .ok (.iconst 1, 1) := by decide +kernel
theorem dL_law_449 : decode cL_law 449 = .ok (.iadd, 1) := by decide +kernel
theorem dL_law_450 : decode cL_law 450 = .ok (.iaload, 1) := by decide +kernel
theorem dL_law_451 : decode cL_law 451 = .ok (.aload_n 0, 1) := by decide +kernel
theorem dL_law_452 : decode cL_law 452 = .ok (.iload_n 3, 1) := by decide +kernel
theorem dL_law_453 : decode cL_law 453 = .ok (.iconst 2, 1) := by decide +kernel
theorem dL_law_454 : decode cL_law 454 = .ok (.iadd, 1) := by decide +kernel
theorem dL_law_455 : decode cL_law 455 = .ok (.iaload, 1) := by decide +kernel
theorem dL_law_456 : decode cL_law 456 = .ok (.aload_n 0, 1) := by decide +kernel
theorem dL_law_457 : decode cL_law 457 = .ok (.iload_n 3, 1) := by decide +kernel
theorem dL_law_458 : decode cL_law 458 = .ok (.iconst 3, 1) := by decide +kernel
theorem dL_law_459 : decode cL_law 459 = .ok (.iadd, 1) := by decide +kernel
theorem dL_law_460 : decode cL_law 460 = .ok (.iaload, 1) := by decide +kernel
theorem dL_law_461 : decode cL_law 461 = .ok (.invokevirtual 50, 3) := by decide +kernel
theorem dL_law_464 : decode cL_law 464 = .ok (.if_icmp .eq 329, 3) := by decide +kernel
theorem dL_law_467 : decode cL_law 467 = .ok (.iconst 0, 1) := by decide +kernel
theorem dL_law_468 : decode cL_law 468 = .ok (.ireturn, 1) := by decide +kernel
theorem dL_law_469 : decode cL_law 469 = .ok (.aload_n 1, 1) := by decide +kernel
theorem dL_law_470 : decode cL_law 470 = .ok (.aload_n 0, 1) := by decide +kernel
theorem dL_law_471 : decode cL_law 471 = .ok (.iload_n 3, 1) := by decide +kernel
theorem dL_law_472 : decode cL_law 472 = .ok (.iconst 1, 1) := by decide +kernel
theorem dL_law_473 : decode cL_law 473 = .ok (.iadd, 1) := by decide +kernel
theorem dL_law_474 : decode cL_law 474 = .ok (.iaload, 1) := by decide +kernel
theorem dL_law_475 : decode cL_law 475 = .ok (.aload_n 0, 1) := by decide +kernel
theorem dL_law_476 : decode cL_law 476 = .ok (.iload_n 3, 1) := by decide +kernel
theorem dL_law_477 : decode cL_law 477 = .ok (.iconst 2, 1) := by decide +kernel
theorem dL_law_478 : decode cL_law 478 = .ok (.iadd, 1) := by decide +kernel
theorem dL_law_479 : decode cL_law 479 = .ok (.iaload, 1) := by decide +kernel
theorem dL_law_480 : decode cL_law 480 = .ok (.aload_n 0, 1) := by decide +kernel
theorem dL_law_481 : decode cL_law 481 = .ok (.iload_n 3, 1) := by decide +kernel
theorem dL_law_482 : decode cL_law 482 = .ok (.iconst 3, 1) := by decide +kernel
theorem dL_law_483 : decode cL_law 483 = .ok (.iadd, 1) := by decide +kernel
theorem dL_law_484 : decode cL_law 484 = .ok (.iaload, 1) := by decide +kernel
theorem dL_law_485 : decode cL_law 485 = .ok (.invokevirtual 51, 3) := by decide +kernel
theorem dL_law_488 : decode cL_law 488 = .ok (.aload_n 2, 1) := by decide +kernel
theorem dL_law_489 : decode cL_law 489 = .ok (.aload_n 0, 1) := by decide +kernel
theorem dL_law_490 : decode cL_law 490 = .ok (.iload_n 3, 1) := by decide +kernel
theorem dL_law_491 : decode cL_law 491 = .ok (.iconst 1, 1) := by decide +kernel
theorem dL_law_492 : decode cL_law 492 = .ok (.iadd, 1) := by decide +kernel
theorem dL_law_493 : decode cL_law 493 = .ok (.iaload, 1) := by decide +kernel
theorem dL_law_494 : decode cL_law 494 = .ok (.aload_n 0, 1) := by decide +kernel
theorem dL_law_495 : decode cL_law 495 = .ok (.iload_n 3, 1) := by decide +kernel
theorem dL_law_496 : decode cL_law 496 = .ok (.iconst 2, 1) := by decide +kernel
theorem dL_law_497 : decode cL_law 497 = .ok (.iadd, 1) := by decide +kernel
theorem dL_law_498 : decode cL_law 498 = .ok (.iaload, 1) := by decide +kernel
theorem dL_law_499 : decode cL_law 499 = .ok (.aload_n 0, 1) := by decide +kernel
theorem dL_law_500 : decode cL_law 500 = .ok (.iload_n 3, 1) := by decide +kernel
theorem dL_law_501 : decode cL_law 501 = .ok (.iconst 3, 1) := by decide +kernel
theorem dL_law_502 : decode cL_law 502 = .ok (.iadd, 1) := by decide +kernel
theorem dL_law_503 : decode cL_law 503 = .ok (.iaload, 1) := by decide +kernel
theorem dL_law_504 : decode cL_law 504 = .ok (.invokevirtual 54, 3) := by decide +kernel
theorem dL_law_507 : decode cL_law 507 = .ok (.if_icmp .eq 286, 3) := by decide +kernel
theorem dL_law_510 : decode cL_law 510 = .ok (.iconst 0, 1) := by decide +kernel
theorem dL_law_511 : decode cL_law 511 = .ok (.ireturn, 1) := by decide +kernel
theorem dL_law_512 : decode cL_law 512 = .ok (.aload_n 1, 1) := by decide +kernel
theorem dL_law_513 : decode cL_law 513 = .ok (.aload_n 0, 1) := by decide +kernel
theorem dL_law_514 : decode cL_law 514 = .ok (.iload_n 3, 1) := by decide +kernel
theorem dL_law_515 : decode cL_law 515 = .ok (.iconst 1, 1) := by decide +kernel
theorem dL_law_516 : decode cL_law 516 = .ok (.iadd, 1) := by decide +kernel
theorem dL_law_517 : decode cL_law 517 = .ok (.iaload, 1) := by decide +kernel
theorem dL_law_518 : decode cL_law 518 = .ok (.aload_n 0, 1) := by decide +kernel
theorem dL_law_519 : decode cL_law 519 = .ok (.iload_n 3, 1) := by decide +kernel
theorem dL_law_520 : decode cL_law 520 = .ok (.iconst 2, 1) := by decide +kernel
theorem dL_law_521 : decode cL_law 521 = .ok (.iadd, 1) := by decide +kernel
theorem dL_law_522 : decode cL_law 522 = .ok (.iaload, 1) := by decide +kernel
theorem dL_law_523 : decode cL_law 523 = .ok (.aload_n 0, 1) := by decide +kernel
theorem dL_law_524 : decode cL_law 524 = .ok (.iload_n 3, 1) := by decide +kernel
theorem dL_law_525 : decode cL_law 525 = .ok (.iconst 3, 1) := by decide +kernel
theorem dL_law_526 : decode cL_law 526 = .ok (.iadd, 1) := by decide +kernel
theorem dL_law_527 : decode cL_law 527 = .ok (.iaload, 1) := by decide +kernel
theorem dL_law_528 : decode cL_law 528 = .ok (.invokevirtual 55, 3) := by decide +kernel
theorem dL_law_531 : decode cL_law 531 = .ok (.aload_n 2, 1) := by decide +kernel
theorem dL_law_532 : decode cL_law 532 = .ok (.aload_n 0, 1) := by decide +kernel
theorem dL_law_533 : decode cL_law 533 = .ok (.iload_n 3, 1) := by decide +kernel
theorem dL_law_534 : decode cL_law 534 = .ok (.iconst 1, 1) := by decide +kernel
theorem dL_law_535 : decode cL_law 535 = .ok (.iadd, 1) := by decide +kernel
theorem dL_law_536 : decode cL_law 536 = .ok (.iaload, 1) := by decide +kernel
theorem dL_law_537 : decode cL_law 537 = .ok (.aload_n 0, 1) := by decide +kernel
theorem dL_law_538 : decode cL_law 538 = .ok (.iload_n 3, 1) := by decide +kernel
theorem dL_law_539 : decode cL_law 539 = .ok (.iconst 2, 1) := by decide +kernel
theorem dL_law_540 : decode cL_law 540 = .ok (.iadd, 1) := by decide +kernel
theorem dL_law_541 : decode cL_law 541 = .ok (.iaload, 1) := by decide +kernel
theorem dL_law_542 : decode cL_law 542 = .ok (.aload_n 0, 1) := by decide +kernel
theorem dL_law_543 : decode cL_law 543 = .ok (.iload_n 3, 1) := by decide +kernel
theorem dL_law_544 : decode cL_law 544 = .ok (.iconst 3, 1) := by decide +kernel
theorem dL_law_545 : decode cL_law 545 = .ok (.iadd, 1) := by decide +kernel
theorem dL_law_546 : decode cL_law 546 = .ok (.iaload, 1) := by decide +kernel
theorem dL_law_547 : decode cL_law 547 = .ok (.invokevirtual 58, 3) := by decide +kernel
theorem dL_law_550 : decode cL_law 550 = .ok (.if_icmp .eq 243, 3) := by decide +kernel
theorem dL_law_553 : decode cL_law 553 = .ok (.iconst 0, 1) := by decide +kernel
theorem dL_law_554 : decode cL_law 554 = .ok (.ireturn, 1) := by decide +kernel
theorem dL_law_555 : decode cL_law 555 = .ok (.aload_n 1, 1) := by decide +kernel
theorem dL_law_556 : decode cL_law 556 = .ok (.invokevirtual 59, 3) := by decide +kernel
theorem dL_law_559 : decode cL_law 559 = .ok (.aload_n 2, 1) := by decide +kernel
theorem dL_law_560 : decode cL_law 560 = .ok (.invokevirtual 63, 3) := by decide +kernel
theorem dL_law_563 : decode cL_law 563 = .ok (.if_icmp .eq 230, 3) := by decide +kernel
theorem dL_law_566 : decode cL_law 566 = .ok (.iconst 0, 1) := by decide +kernel
theorem dL_law_567 : decode cL_law 567 = .ok (.ireturn, 1) := by decide +kernel
theorem dL_law_568 : decode cL_law 568 = .ok (.aload_n 1, 1) := by decide +kernel
theorem dL_law_569 : decode cL_law 569 = .ok (.aload_n 0, 1) := by decide +kernel
theorem dL_law_570 : decode cL_law 570 = .ok (.iload_n 3, 1) := by decide +kernel
theorem dL_law_571 : decode cL_law 571 = .ok (.iconst 1, 1) := by decide +kernel
theorem dL_law_572 : decode cL_law 572 = .ok (.iadd, 1) := by decide +kernel
theorem dL_law_573 : decode cL_law 573 = .ok (.iaload, 1) := by decide +kernel
theorem dL_law_574 : decode cL_law 574 = .ok (.invokevirtual 64, 3) := by decide +kernel
theorem dL_law_577 : decode cL_law 577 = .ok (.aload_n 2, 1) := by decide +kernel
theorem dL_law_578 : decode cL_law 578 = .ok (.aload_n 0, 1) := by decide +kernel
theorem dL_law_579 : decode cL_law 579 = .ok (.iload_n 3, 1) := by decide +kernel
theorem dL_law_580 : decode cL_law 580 = .ok (.iconst 1, 1) := by decide +kernel
theorem dL_law_581 : decode cL_law 581 = .ok (.iadd, 1) := by decide +kernel
theorem dL_law_582 : decode cL_law 582 = .ok (.iaload, 1) := by decide +kernel
theorem dL_law_583 : decode cL_law 583 = .ok (.invokevirtual 68, 3) := by decide +kernel
theorem dL_law_586 : decode cL_law 586 = .ok (.lcmp, 1) := by decide +kernel
theorem dL_law_587 : decode cL_law 587 = .ok (.ifCond .eq 206, 3) := by decide +kernel
theorem dL_law_590 : decode cL_law 590 = .ok (.iconst 0, 1) := by decide +kernel
theorem dL_law_591 : decode cL_law 591 = .ok (.ireturn, 1) := by decide +kernel
theorem dL_law_592 : decode cL_law 592 = .ok (.aload_n 1, 1) := by decide +kernel
theorem dL_law_593 : decode cL_law 593 = .ok (.aload_n 0, 1) := by decide +kernel
theorem dL_law_594 : decode cL_law 594 = .ok (.iload_n 3, 1) := by decide +kernel
theorem dL_law_595 : decode cL_law 595 = .ok (.iconst 1, 1) := by decide +kernel
theorem dL_law_596 : decode cL_law 596 = .ok (.iadd, 1) := by decide +kernel
theorem dL_law_597 : decode cL_law 597 = .ok (.iaload, 1) := by decide +kernel
theorem dL_law_598 : decode cL_law 598 = .ok (.invokevirtual 69, 3) := by decide +kernel
theorem dL_law_601 : decode cL_law 601 = .ok (.aload_n 2, 1) := by decide +kernel
theorem dL_law_602 : decode cL_law 602 = .ok (.aload_n 0, 1) := by decide +kernel
theorem dL_law_603 : decode cL_law 603 = .ok (.iload_n 3, 1) := by decide +kernel
theorem dL_law_604 : decode cL_law 604 = .ok (.iconst 1, 1) := by decide +kernel
theorem dL_law_605 : decode cL_law 605 = .ok (.iadd, 1) := by decide +kernel
theorem dL_law_606 : decode cL_law 606 = .ok (.iaload, 1) := by decide +kernel
theorem dL_law_607 : decode cL_law 607 = .ok (.invokevirtual 73, 3) := by decide +kernel
theorem dL_law_610 : decode cL_law 610 = .ok (.if_icmp .eq 183, 3) := by decide +kernel
theorem dL_law_613 : decode cL_law 613 = .ok (.iconst 0, 1) := by decide +kernel
theorem dL_law_614 : decode cL_law 614 = .ok (.ireturn, 1) := by decide +kernel
theorem dL_law_615 : decode cL_law 615 = .ok (.aload_n 1, 1) := by decide +kernel
theorem dL_law_616 : decode cL_law 616 = .ok (.aload_n 0, 1) := by decide +kernel
theorem dL_law_617 : decode cL_law 617 = .ok (.iload_n 3, 1) := by decide +kernel
theorem dL_law_618 : decode cL_law 618 = .ok (.iconst 1, 1) := by decide +kernel
theorem dL_law_619 : decode cL_law 619 = .ok (.iadd, 1) := by decide +kernel
theorem dL_law_620 : decode cL_law 620 = .ok (.iaload, 1) := by decide +kernel
theorem dL_law_621 : decode cL_law 621 = .ok (.aload_n 0, 1) := by decide +kernel
theorem dL_law_622 : decode cL_law 622 = .ok (.iload_n 3, 1) := by decide +kernel
theorem dL_law_623 : decode cL_law 623 = .ok (.iconst 2, 1) := by decide +kernel
theorem dL_law_624 : decode cL_law 624 = .ok (.iadd, 1) := by decide +kernel
theorem dL_law_625 : decode cL_law 625 = .ok (.iaload, 1) := by decide +kernel
theorem dL_law_626 : decode cL_law 626 = .ok (.aload_n 0, 1) := by decide +kernel
theorem dL_law_627 : decode cL_law 627 = .ok (.iload_n 3, 1) := by decide +kernel
theorem dL_law_628 : decode cL_law 628 = .ok (.iconst 3, 1) := by decide +kernel
theorem dL_law_629 : decode cL_law 629 = .ok (.iadd, 1) := by decide +kernel
theorem dL_law_630 : decode cL_law 630 = .ok (.iaload, 1) := by decide +kernel
theorem dL_law_631 : decode cL_law 631 = .ok (.aload_n 0, 1) := by decide +kernel
theorem dL_law_632 : decode cL_law 632 = .ok (.iload_n 3, 1) := by decide +kernel
theorem dL_law_633 : decode cL_law 633 = .ok (.iconst 4, 1) := by decide +kernel
theorem dL_law_634 : decode cL_law 634 = .ok (.iadd, 1) := by decide +kernel
theorem dL_law_635 : decode cL_law 635 = .ok (.iaload, 1) := by decide +kernel
theorem dL_law_636 : decode cL_law 636 = .ok (.aload_n 0, 1) := by decide +kernel
theorem dL_law_637 : decode cL_law 637 = .ok (.iload_n 3, 1) := by decide +kernel
theorem dL_law_638 : decode cL_law 638 = .ok (.iconst 5, 1) := by decide +kernel
theorem dL_law_639 : decode cL_law 639 = .ok (.iadd, 1) := by decide +kernel
theorem dL_law_640 : decode cL_law 640 = .ok (.iaload, 1) := by decide +kernel
theorem dL_law_641 : decode cL_law 641 = .ok (.invokevirtual 74, 3) := by decide +kernel
theorem dL_law_644 : decode cL_law 644 = .ok (.aload_n 2, 1) := by decide +kernel
theorem dL_law_645 : decode cL_law 645 = .ok (.aload_n 0, 1) := by decide +kernel
theorem dL_law_646 : decode cL_law 646 = .ok (.iload_n 3, 1) := by decide +kernel
theorem dL_law_647 : decode cL_law 647 = .ok (.iconst 1, 1) := by decide +kernel
theorem dL_law_648 : decode cL_law 648 = .ok (.iadd, 1) := by decide +kernel
theorem dL_law_649 : decode cL_law 649 = .ok (.iaload, 1) := by decide +kernel
theorem dL_law_650 : decode cL_law 650 = .ok (.aload_n 0, 1) := by decide +kernel
theorem dL_law_651 : decode cL_law 651 = .ok (.iload_n 3, 1) := by decide +kernel
theorem dL_law_652 : decode cL_law 652 = .ok (.iconst 2, 1) := by decide +kernel
theorem dL_law_653 : decode cL_law 653 = .ok (.iadd, 1) := by decide +kernel
theorem dL_law_654 : decode cL_law 654 = .ok (.iaload, 1) := by decide +kernel
theorem dL_law_655 : decode cL_law 655 = .ok (.aload_n 0, 1) := by decide +kernel
theorem dL_law_656 : decode cL_law 656 = .ok (.iload_n 3, 1) := by decide +kernel
theorem dL_law_657 : decode cL_law 657 = .ok (.iconst 3, 1) := by decide +kernel
theorem dL_law_658 : decode cL_law 658 = .ok (.iadd, 1) := by decide +kernel
theorem dL_law_659 : decode cL_law 659 = .ok (.iaload, 1) := by decide +kernel
theorem dL_law_660 : decode cL_law 660 = .ok (.aload_n 0, 1) := by decide +kernel
theorem dL_law_661 : decode cL_law 661 = .ok (.iload_n 3, 1) := by decide +kernel
theorem dL_law_662 : decode cL_law 662 = .ok (.iconst 4, 1) := by decide +kernel
theorem dL_law_663 : decode cL_law 663 = .ok (.iadd, 1) := by decide +kernel
theorem dL_law_664 : decode cL_law 664 = .ok (.iaload, 1) := by decide +kernel
theorem dL_law_665 : decode cL_law 665 = .ok (.aload_n 0, 1) := by decide +kernel
theorem dL_law_666 : decode cL_law 666 = .ok (.iload_n 3, 1) := by decide +kernel
theorem dL_law_667 : decode cL_law 667 = .ok (.iconst 5, 1) := by decide +kernel
theorem dL_law_668 : decode cL_law 668 = .ok (.iadd, 1) := by decide +kernel
theorem dL_law_669 : decode cL_law 669 = .ok (.iaload, 1) := by decide +kernel
theorem dL_law_670 : decode cL_law 670 = .ok (.invokevirtual 78, 3) := by decide +kernel
theorem dL_law_673 : decode cL_law 673 = .ok (.if_icmp .eq 120, 3) := by decide +kernel
theorem dL_law_676 : decode cL_law 676 = .ok (.iconst 0, 1) := by decide +kernel
theorem dL_law_677 : decode cL_law 677 = .ok (.ireturn, 1) := by decide +kernel
theorem dL_law_678 : decode cL_law 678 = .ok (.aload_n 1, 1) := by decide +kernel
theorem dL_law_679 : decode cL_law 679 = .ok (.aload_n 0, 1) := by decide +kernel
theorem dL_law_680 : decode cL_law 680 = .ok (.iload_n 3, 1) := by decide +kernel
theorem dL_law_681 : decode cL_law 681 = .ok (.iconst 1, 1) := by decide +kernel
theorem dL_law_682 : decode cL_law 682 = .ok (.iadd, 1) := by decide +kernel
theorem dL_law_683 : decode cL_law 683 = .ok (.iaload, 1) := by decide +kernel
theorem dL_law_684 : decode cL_law 684 = .ok (.invokevirtual 79, 3) := by decide +kernel
theorem dL_law_687 : decode cL_law 687 = .ok (.aload_n 2, 1) := by decide +kernel
theorem dL_law_688 : decode cL_law 688 = .ok (.aload_n 0, 1) := by decide +kernel
theorem dL_law_689 : decode cL_law 689 = .ok (.iload_n 3, 1) := by decide +kernel
theorem dL_law_690 : decode cL_law 690 = .ok (.iconst 1, 1) := by decide +kernel
theorem dL_law_691 : decode cL_law 691 = .ok (.iadd, 1) := by decide +kernel
theorem dL_law_692 : decode cL_law 692 = .ok (.iaload, 1) := by decide +kernel
theorem dL_law_693 : decode cL_law 693 = .ok (.invokevirtual 82, 3) := by decide +kernel
theorem dL_law_696 : decode cL_law 696 = .ok (.if_icmp .eq 97, 3) := by decide +kernel
theorem dL_law_699 : decode cL_law 699 = .ok (.iconst 0, 1) := by decide +kernel
theorem dL_law_700 : decode cL_law 700 = .ok (.ireturn, 1) := by decide +kernel
theorem dL_law_701 : decode cL_law 701 = .ok (.aload_n 1, 1) := by decide +kernel
theorem dL_law_702 : decode cL_law 702 = .ok (.aload_n 0, 1) := by decide +kernel
theorem dL_law_703 : decode cL_law 703 = .ok (.iload_n 3, 1) := by decide +kernel
theorem dL_law_704 : decode cL_law 704 = .ok (.iconst 1, 1) := by decide +kernel
theorem dL_law_705 : decode cL_law 705 = .ok (.iadd, 1) := by decide +kernel
theorem dL_law_706 : decode cL_law 706 = .ok (.iaload, 1) := by decide +kernel
theorem dL_law_707 : decode cL_law 707 = .ok (.aload_n 0, 1) := by decide +kernel
theorem dL_law_708 : decode cL_law 708 = .ok (.iload_n 3, 1) := by decide +kernel
theorem dL_law_709 : decode cL_law 709 = .ok (.iconst 2, 1) := by decide +kernel
theorem dL_law_710 : decode cL_law 710 = .ok (.iadd, 1) := by decide +kernel
theorem dL_law_711 : decode cL_law 711 = .ok (.iaload, 1) := by decide +kernel
theorem dL_law_712 : decode cL_law 712 = .ok (.invokevirtual 83, 3) := by decide +kernel
theorem dL_law_715 : decode cL_law 715 = .ok (.aload_n 2, 1) := by decide +kernel
theorem dL_law_716 : decode cL_law 716 = .ok (.aload_n 0, 1) := by decide +kernel
theorem dL_law_717 : decode cL_law 717 = .ok (.iload_n 3, 1) := by decide +kernel
theorem dL_law_718 : decode cL_law 718 = .ok (.iconst 1, 1) := by decide +kernel
theorem dL_law_719 : decode cL_law 719 = .ok (.iadd, 1) := by decide +kernel
theorem dL_law_720 : decode cL_law 720 = .ok (.iaload, 1) := by decide +kernel
theorem dL_law_721 : decode cL_law 721 = .ok (.aload_n 0, 1) := by decide +kernel
theorem dL_law_722 : decode cL_law 722 = .ok (.iload_n 3, 1) := by decide +kernel
theorem dL_law_723 : decode cL_law 723 = .ok (.iconst 2, 1) := by decide +kernel
theorem dL_law_724 : decode cL_law 724 = .ok (.iadd, 1) := by decide +kernel
theorem dL_law_725 : decode cL_law 725 = .ok (.iaload, 1) := by decide +kernel
theorem dL_law_726 : decode cL_law 726 = .ok (.invokevirtual 86, 3) := by decide +kernel
theorem dL_law_729 : decode cL_law 729 = .ok (.if_icmp .eq 64, 3) := by decide +kernel
theorem dL_law_732 : decode cL_law 732 = .ok (.iconst 0, 1) := by decide +kernel
theorem dL_law_733 : decode cL_law 733 = .ok (.ireturn, 1) := by decide +kernel
theorem dL_law_734 : decode cL_law 734 = .ok (.aload_n 1, 1) := by decide +kernel
theorem dL_law_735 : decode cL_law 735 = .ok (.aload_n 0, 1) := by decide +kernel
theorem dL_law_736 : decode cL_law 736 = .ok (.iload_n 3, 1) := by decide +kernel
theorem dL_law_737 : decode cL_law 737 = .ok (.iconst 1, 1) := by decide +kernel
theorem dL_law_738 : decode cL_law 738 = .ok (.iadd, 1) := by decide +kernel
theorem dL_law_739 : decode cL_law 739 = .ok (.iaload, 1) := by decide +kernel
theorem dL_law_740 : decode cL_law 740 = .ok (.invokevirtual 87, 3) := by decide +kernel
theorem dL_law_743 : decode cL_law 743 = .ok (.aload_n 2, 1) := by decide +kernel
theorem dL_law_744 : decode cL_law 744 = .ok (.aload_n 0, 1) := by decide +kernel
theorem dL_law_745 : decode cL_law 745 = .ok (.iload_n 3, 1) := by decide +kernel
theorem dL_law_746 : decode cL_law 746 = .ok (.iconst 1, 1) := by decide +kernel
theorem dL_law_747 : decode cL_law 747 = .ok (.iadd, 1) := by decide +kernel
theorem dL_law_748 : decode cL_law 748 = .ok (.iaload, 1) := by decide +kernel
theorem dL_law_749 : decode cL_law 749 = .ok (.invokevirtual 90, 3) := by decide +kernel
theorem dL_law_752 : decode cL_law 752 = .ok (.if_icmp .eq 41, 3) := by decide +kernel
theorem dL_law_755 : decode cL_law 755 = .ok (.iconst 0, 1) := by decide +kernel
theorem dL_law_756 : decode cL_law 756 = .ok (.ireturn, 1) := by decide +kernel
theorem dL_law_757 : decode cL_law 757 = .ok (.aload_n 1, 1) := by decide +kernel
theorem dL_law_758 : decode cL_law 758 = .ok (.aload_n 0, 1) := by decide +kernel
theorem dL_law_759 : decode cL_law 759 = .ok (.iload_n 3, 1) := by decide +kernel
theorem dL_law_760 : decode cL_law 760 = .ok (.iconst 1, 1) := by decide +kernel
theorem dL_law_761 : decode cL_law 761 = .ok (.iadd, 1) := by decide +kernel
theorem dL_law_762 : decode cL_law 762 = .ok (.iaload, 1) := by decide +kernel
theorem dL_law_763 : decode cL_law 763 = .ok (.invokevirtual 91, 3) := by decide +kernel
theorem dL_law_766 : decode cL_law 766 = .ok (.aload_n 2, 1) := by decide +kernel
theorem dL_law_767 : decode cL_law 767 = .ok (.aload_n 0, 1) := by decide +kernel
theorem dL_law_768 : decode cL_law 768 = .ok (.iload_n 3, 1) := by decide +kernel
theorem dL_law_769 : decode cL_law 769 = .ok (.iconst 1, 1) := by decide +kernel
theorem dL_law_770 : decode cL_law 770 = .ok (.iadd, 1) := by decide +kernel
theorem dL_law_771 : decode cL_law 771 = .ok (.iaload, 1) := by decide +kernel
theorem dL_law_772 : decode cL_law 772 = .ok (.invokevirtual 94, 3) := by decide +kernel
theorem dL_law_775 : decode cL_law 775 = .ok (.if_icmp .eq 18, 3) := by decide +kernel
theorem dL_law_778 : decode cL_law 778 = .ok (.iconst 0, 1) := by decide +kernel
theorem dL_law_779 : decode cL_law 779 = .ok (.ireturn, 1) := by decide +kernel
theorem dL_law_780 : decode cL_law 780 = .ok (.aload_n 1, 1) := by decide +kernel
theorem dL_law_781 : decode cL_law 781 = .ok (.invokevirtual 95, 3) := by decide +kernel
theorem dL_law_784 : decode cL_law 784 = .ok (.aload_n 2, 1) := by decide +kernel
theorem dL_law_785 : decode cL_law 785 = .ok (.invokevirtual 98, 3) := by decide +kernel
theorem dL_law_788 : decode cL_law 788 = .ok (.if_icmp .eq 5, 3) := by decide +kernel
theorem dL_law_791 : decode cL_law 791 = .ok (.iconst 0, 1) := by decide +kernel
theorem dL_law_792 : decode cL_law 792 = .ok (.ireturn, 1) := by decide +kernel
theorem dL_law_793 : decode cL_law 793 = .ok (.iinc 3 6, 3) := by decide +kernel
theorem dL_law_796 : decode cL_law 796 = .ok (.goto (-778), 3) := by decide +kernel
theorem dL_law_799 : decode cL_law 799 = .ok (.iconst 1, 1) := by decide +kernel
theorem dL_law_800 : decode cL_law 800 = .ok (.ireturn, 1) := by decide +kernel
end
section
/-! words of the tables, by their places -/
def kT : List Cond := lw_tbl.filter goodWord
theorem kT_in {w : Cond} (h : w ∈ lw_tbl) (hg : goodWord w = true) : w ∈ kT := List.mem_filter.mpr ⟨h, hg⟩
theorem kT_tb {w : Cond} (h : w ∈ kT) : w ∈ lw_tbl := (List.mem_filter.mp h).1
theorem gd_tbl {w : Cond} (h : w ∈ kT) : (w.onTables && w.keeps) = true ∨ ∃ ty, w = .arrayClass ty := good_of_word (List.mem_filter.mp h).2
abbrev kW (y : MethodName) (cc : ByteArray) (n : Nat) (ret : Option FieldType) : List Cond := Cond.code y cc n ret :: kT
theorem gdV {own : String} {ix : Nat} {C : String} {y : MethodName} {cc : ByteArray} {n : Nat} {ret : Option FieldType} (h1 : Cond.methodLink own ix y ∈ kT) (h2 : Cond.instanceMethod y ∈ kT) (h3 : Cond.selects C y y ∈ kT) (h4 : Cond.initialized C ∈ kT) (h5 : Cond.code y cc n ret ∈ kT) : GoodIn kT (wsV own ix C y (kW y cc n ret)) := by
  have hm : ∀ w ∈ wsV own ix C y (kW y cc n ret), w ∈ kT := by
    intro w hw
    rcases List.mem_append.mp hw with hw | hw
    · rcases List.mem_cons.mp hw with rfl | hw
      · exact h1
      rcases List.mem_cons.mp hw with rfl | hw
      · exact h2
      rcases List.mem_cons.mp hw with rfl | hw
      · exact h3
      rcases List.mem_cons.mp hw with rfl | hw
      · exact h4
      cases hw
    · rcases List.mem_cons.mp hw with rfl | hw
      · exact h5
      · exact hw
  exact fun w hw => ⟨hm w hw, gd_tbl (hm w hw)⟩
theorem gdS {own : String} {ix : Nat} {y : MethodName} {cc : ByteArray} {n : Nat} {ret : Option FieldType} (h1 : Cond.methodLink own ix y ∈ kT) (h2 : Cond.static y ∈ kT) (h4 : Cond.initialized y.cls ∈ kT) (h5 : Cond.code y cc n ret ∈ kT) : GoodIn kT (va_wsS own ix y (kW y cc n ret)) := by
  have hm : ∀ w ∈ va_wsS own ix y (kW y cc n ret), w ∈ kT := by
    intro w hw
    rcases List.mem_append.mp hw with hw | hw
    · rcases List.mem_cons.mp hw with rfl | hw
      · exact h1
      rcases List.mem_cons.mp hw with rfl | hw
      · exact h2
      rcases List.mem_cons.mp hw with rfl | hw
      · exact h4
      cases hw
    · rcases List.mem_cons.mp hw with rfl | hw
      · exact h5
      · exact hw
  exact fun w hw => ⟨hm w hw, gd_tbl (hm w hw)⟩
theorem gdI {y : MethodName} {cc : ByteArray} {n : Nat} {ret : Option FieldType} (h5 : Cond.code y cc n ret ∈ kT) : GoodIn kT (kW y cc n ret) := by
  intro w hw
  rcases List.mem_cons.mp hw with rfl | hw
  · exact ⟨h5, gd_tbl h5⟩
  · exact ⟨hw, gd_tbl hw⟩
theorem wI_X0a : ∀ w ∈ wsX00, w ∈ lw_tbl := by decide +kernel
theorem wI_X0b : ∀ w ∈ wsX00, goodWord w = true := by decide +kernel
theorem wI_X0 : ∀ w ∈ wsX00, w ∈ kT := fun w h => kT_in (wI_X0a w h) (wI_X0b w h)
theorem wI_X1a : ∀ w ∈ wsX10, w ∈ lw_tbl := by decide +kernel
theorem wI_X1b : ∀ w ∈ wsX10, goodWord w = true := by decide +kernel
theorem wI_X1 : ∀ w ∈ wsX10, w ∈ kT := fun w h => kT_in (wI_X1a w h) (wI_X1b w h)
theorem wn_X0 : Cond.initialized RX0 ∈ kT := kT_in (List.mem_of_getElem? (i := 34) (by decide +kernel)) rfl
theorem wn_X1 : Cond.initialized RX1 ∈ kT := kT_in (List.mem_of_getElem? (i := 35) (by decide +kernel)) rfl
theorem wc_X0_init : Cond.code yX0_init cX0_init 1 none ∈ kT := kT_in (List.mem_of_getElem? (i := 42) rfl) rfl
theorem wm_X0_init : Cond.instanceMethod yX0_init ∈ kT := kT_in (List.mem_of_getElem? (i := 41) (by decide +kernel)) rfl
theorem wc_X0_piece : Cond.code yX0_piece cX0_piece 4 (some .int) ∈ kT := kT_in (List.mem_of_getElem? (i := 85) rfl) rfl
theorem wm_X0_piece : Cond.instanceMethod yX0_piece ∈ kT := kT_in (List.mem_of_getElem? (i := 83) (by decide +kernel)) rfl
theorem wx_X0_piece : Cond.selects RX0 yX0_piece yX0_piece ∈ kT := kT_in (List.mem_of_getElem? (i := 84) (by decide +kernel)) rfl
theorem wc_X0_row : Cond.code yX0_row cX0_row 4 (some .int) ∈ kT := kT_in (List.mem_of_getElem? (i := 97) rfl) rfl
theorem wm_X0_row : Cond.instanceMethod yX0_row ∈ kT := kT_in (List.mem_of_getElem? (i := 95) (by decide +kernel)) rfl
theorem wx_X0_row : Cond.selects RX0 yX0_row yX0_row ∈ kT := kT_in (List.mem_of_getElem? (i := 96) (by decide +kernel)) rfl
theorem wc_X0_grid : Cond.code yX0_grid cX0_grid 6 (some .int) ∈ kT := kT_in (List.mem_of_getElem? (i := 123) rfl) rfl
theorem wm_X0_grid : Cond.instanceMethod yX0_grid ∈ kT := kT_in (List.mem_of_getElem? (i := 121) (by decide +kernel)) rfl
theorem wx_X0_grid : Cond.selects RX0 yX0_grid yX0_grid ∈ kT := kT_in (List.mem_of_getElem? (i := 122) (by decide +kernel)) rfl
theorem wc_X0_put : Cond.code yX0_put cX0_put 4 (some .int) ∈ kT := kT_in (List.mem_of_getElem? (i := 130) rfl) rfl
theorem wm_X0_put : Cond.instanceMethod yX0_put ∈ kT := kT_in (List.mem_of_getElem? (i := 128) (by decide +kernel)) rfl
theorem wx_X0_put : Cond.selects RX0 yX0_put yX0_put ∈ kT := kT_in (List.mem_of_getElem? (i := 129) (by decide +kernel)) rfl
theorem wc_X0_get : Cond.code yX0_get cX0_get 3 (some .int) ∈ kT := kT_in (List.mem_of_getElem? (i := 175) rfl) rfl
theorem wm_X0_get : Cond.instanceMethod yX0_get ∈ kT := kT_in (List.mem_of_getElem? (i := 173) (by decide +kernel)) rfl
theorem wx_X0_get : Cond.selects RX0 yX0_get yX0_get ∈ kT := kT_in (List.mem_of_getElem? (i := 174) (by decide +kernel)) rfl
theorem wc_X0_set : Cond.code yX0_set cX0_set 6 (some .int) ∈ kT := kT_in (List.mem_of_getElem? (i := 183) rfl) rfl
theorem wm_X0_set : Cond.instanceMethod yX0_set ∈ kT := kT_in (List.mem_of_getElem? (i := 181) (by decide +kernel)) rfl
theorem wx_X0_set : Cond.selects RX0 yX0_set yX0_set ∈ kT := kT_in (List.mem_of_getElem? (i := 182) (by decide +kernel)) rfl
theorem wc_X0_number : Cond.code yX0_number cX0_number 3 (some .long) ∈ kT := kT_in (List.mem_of_getElem? (i := 191) rfl) rfl
theorem wm_X0_number : Cond.instanceMethod yX0_number ∈ kT := kT_in (List.mem_of_getElem? (i := 189) (by decide +kernel)) rfl
theorem wx_X0_number : Cond.selects RX0 yX0_number yX0_number ∈ kT := kT_in (List.mem_of_getElem? (i := 190) (by decide +kernel)) rfl
theorem wc_X0_is : Cond.code yX0_is cX0_is 4 (some .int) ∈ kT := kT_in (List.mem_of_getElem? (i := 195) rfl) rfl
theorem wm_X0_is : Cond.instanceMethod yX0_is ∈ kT := kT_in (List.mem_of_getElem? (i := 193) (by decide +kernel)) rfl
theorem wx_X0_is : Cond.selects RX0 yX0_is yX0_is ∈ kT := kT_in (List.mem_of_getElem? (i := 194) (by decide +kernel)) rfl
theorem wc_X0_door : Cond.code yX0_door cX0_door 4 (some .int) ∈ kT := kT_in (List.mem_of_getElem? (i := 199) rfl) rfl
theorem wm_X0_door : Cond.instanceMethod yX0_door ∈ kT := kT_in (List.mem_of_getElem? (i := 197) (by decide +kernel)) rfl
theorem wx_X0_door : Cond.selects RX0 yX0_door yX0_door ∈ kT := kT_in (List.mem_of_getElem? (i := 198) (by decide +kernel)) rfl
theorem wc_X0_through : Cond.code yX0_through cX0_through 4 (some .int) ∈ kT := kT_in (List.mem_of_getElem? (i := 206) rfl) rfl
theorem wm_X0_through : Cond.instanceMethod yX0_through ∈ kT := kT_in (List.mem_of_getElem? (i := 204) (by decide +kernel)) rfl
theorem wx_X0_through : Cond.selects RX0 yX0_through yX0_through ∈ kT := kT_in (List.mem_of_getElem? (i := 205) (by decide +kernel)) rfl
theorem wc_X0_lastDoor : Cond.code yX0_lastDoor cX0_lastDoor 1 (some .int) ∈ kT := kT_in (List.mem_of_getElem? (i := 214) rfl) rfl
theorem wm_X0_lastDoor : Cond.instanceMethod yX0_lastDoor ∈ kT := kT_in (List.mem_of_getElem? (i := 212) (by decide +kernel)) rfl
theorem wx_X0_lastDoor : Cond.selects RX0 yX0_lastDoor yX0_lastDoor ∈ kT := kT_in (List.mem_of_getElem? (i := 213) (by decide +kernel)) rfl
theorem wc_X0_worth : Cond.code yX0_worth cX0_worth 2 (some .long) ∈ kT := kT_in (List.mem_of_getElem? (i := 218) rfl) rfl
theorem wm_X0_worth : Cond.instanceMethod yX0_worth ∈ kT := kT_in (List.mem_of_getElem? (i := 216) (by decide +kernel)) rfl
theorem wx_X0_worth : Cond.selects RX0 yX0_worth yX0_worth ∈ kT := kT_in (List.mem_of_getElem? (i := 217) (by decide +kernel)) rfl
theorem wc_X0_copy : Cond.code yX0_copy cX0_copy 3 (some .int) ∈ kT := kT_in (List.mem_of_getElem? (i := 232) rfl) rfl
theorem wm_X0_copy : Cond.instanceMethod yX0_copy ∈ kT := kT_in (List.mem_of_getElem? (i := 230) (by decide +kernel)) rfl
theorem wx_X0_copy : Cond.selects RX0 yX0_copy yX0_copy ∈ kT := kT_in (List.mem_of_getElem? (i := 231) (by decide +kernel)) rfl
theorem wc_X0_carry : Cond.code yX0_carry cX0_carry 7 (some .int) ∈ kT := kT_in (List.mem_of_getElem? (i := 243) rfl) rfl
theorem wm_X0_carry : Cond.instanceMethod yX0_carry ∈ kT := kT_in (List.mem_of_getElem? (i := 241) (by decide +kernel)) rfl
theorem wx_X0_carry : Cond.selects RX0 yX0_carry yX0_carry ∈ kT := kT_in (List.mem_of_getElem? (i := 242) (by decide +kernel)) rfl
theorem wc_X0_frail : Cond.code yX0_frail cX0_frail 2 (some .int) ∈ kT := kT_in (List.mem_of_getElem? (i := 259) rfl) rfl
theorem wm_X0_frail : Cond.instanceMethod yX0_frail ∈ kT := kT_in (List.mem_of_getElem? (i := 257) (by decide +kernel)) rfl
theorem wx_X0_frail : Cond.selects RX0 yX0_frail yX0_frail ∈ kT := kT_in (List.mem_of_getElem? (i := 258) (by decide +kernel)) rfl
theorem wc_X0_about : Cond.code yX0_about cX0_about 3 (some .int) ∈ kT := kT_in (List.mem_of_getElem? (i := 267) rfl) rfl
theorem wm_X0_about : Cond.instanceMethod yX0_about ∈ kT := kT_in (List.mem_of_getElem? (i := 265) (by decide +kernel)) rfl
theorem wx_X0_about : Cond.selects RX0 yX0_about yX0_about ∈ kT := kT_in (List.mem_of_getElem? (i := 266) (by decide +kernel)) rfl
theorem wc_X0_bases : Cond.code yX0_bases cX0_bases 2 (some .int) ∈ kT := kT_in (List.mem_of_getElem? (i := 271) rfl) rfl
theorem wm_X0_bases : Cond.instanceMethod yX0_bases ∈ kT := kT_in (List.mem_of_getElem? (i := 269) (by decide +kernel)) rfl
theorem wx_X0_bases : Cond.selects RX0 yX0_bases yX0_bases ∈ kT := kT_in (List.mem_of_getElem? (i := 270) (by decide +kernel)) rfl
theorem wc_X0_count : Cond.code yX0_count cX0_count 2 (some .int) ∈ kT := kT_in (List.mem_of_getElem? (i := 275) rfl) rfl
theorem wm_X0_count : Cond.instanceMethod yX0_count ∈ kT := kT_in (List.mem_of_getElem? (i := 273) (by decide +kernel)) rfl
theorem wx_X0_count : Cond.selects RX0 yX0_count yX0_count ∈ kT := kT_in (List.mem_of_getElem? (i := 274) (by decide +kernel)) rfl
theorem wc_X0_clear : Cond.code yX0_clear cX0_clear 3 (some .int) ∈ kT := kT_in (List.mem_of_getElem? (i := 279) rfl) rfl
theorem wm_X0_clear : Cond.instanceMethod yX0_clear ∈ kT := kT_in (List.mem_of_getElem? (i := 277) (by decide +kernel)) rfl
theorem wx_X0_clear : Cond.selects RX0 yX0_clear yX0_clear ∈ kT := kT_in (List.mem_of_getElem? (i := 278) (by decide +kernel)) rfl
theorem wc_X0_fail : Cond.code yX0_fail cX0_fail 2 (some .int) ∈ kT := kT_in (List.mem_of_getElem? (i := 107) rfl) rfl
theorem wm_X0_fail : Cond.instanceMethod yX0_fail ∈ kT := kT_in (List.mem_of_getElem? (i := 106) (by decide +kernel)) rfl
theorem wx_X0_fail : Cond.selects RX0 yX0_fail yX0_fail ∈ kT := kT_in (List.mem_of_getElem? (i := 2) (by decide +kernel)) rfl
theorem wc_X0_isThing : Cond.code yX0_isThing cX0_isThing 2 (some .boolean) ∈ kT := kT_in (List.mem_of_getElem? (i := 138) rfl) rfl
theorem wm_X0_isThing : Cond.instanceMethod yX0_isThing ∈ kT := kT_in (List.mem_of_getElem? (i := 137) (by decide +kernel)) rfl
theorem wx_X0_isThing : Cond.selects RX0 yX0_isThing yX0_isThing ∈ kT := kT_in (List.mem_of_getElem? (i := 6) (by decide +kernel)) rfl
theorem wc_X0_isThingOrNone : Cond.code yX0_isThingOrNone cX0_isThingOrNone 2 (some .boolean) ∈ kT := kT_in (List.mem_of_getElem? (i := 134) rfl) rfl
theorem wm_X0_isThingOrNone : Cond.instanceMethod yX0_isThingOrNone ∈ kT := kT_in (List.mem_of_getElem? (i := 133) (by decide +kernel)) rfl
theorem wx_X0_isThingOrNone : Cond.selects RX0 yX0_isThingOrNone yX0_isThingOrNone ∈ kT := kT_in (List.mem_of_getElem? (i := 5) (by decide +kernel)) rfl
theorem wc_X0_isDoor : Cond.code yX0_isDoor cX0_isDoor 1 (some .boolean) ∈ kT := kT_in (List.mem_of_getElem? (i := 202) rfl) rfl
theorem wt_X0_isDoor : Cond.static yX0_isDoor ∈ kT := kT_in (List.mem_of_getElem? (i := 201) (by decide +kernel)) rfl
theorem wc_X0_isNumberBase : Cond.code yX0_isNumberBase cX0_isNumberBase 1 (some .boolean) ∈ kT := kT_in (List.mem_of_getElem? (i := 103) rfl) rfl
theorem wt_X0_isNumberBase : Cond.static yX0_isNumberBase ∈ kT := kT_in (List.mem_of_getElem? (i := 102) (by decide +kernel)) rfl
theorem wc_X0_isKind : Cond.code yX0_isKind cX0_isKind 2 (some .boolean) ∈ kT := kT_in (List.mem_of_getElem? (i := 100) rfl) rfl
theorem wt_X0_isKind : Cond.static yX0_isKind ∈ kT := kT_in (List.mem_of_getElem? (i := 99) (by decide +kernel)) rfl
theorem wc_X0_isPiece : Cond.code yX0_isPiece cX0_isPiece 2 (some .boolean) ∈ kT := kT_in (List.mem_of_getElem? (i := 159) rfl) rfl
theorem wm_X0_isPiece : Cond.instanceMethod yX0_isPiece ∈ kT := kT_in (List.mem_of_getElem? (i := 158) (by decide +kernel)) rfl
theorem wx_X0_isPiece : Cond.selects RX0 yX0_isPiece yX0_isPiece ∈ kT := kT_in (List.mem_of_getElem? (i := 10) (by decide +kernel)) rfl
theorem wc_X0_isLedger : Cond.code yX0_isLedger cX0_isLedger 2 (some .boolean) ∈ kT := kT_in (List.mem_of_getElem? (i := 115) rfl) rfl
theorem wm_X0_isLedger : Cond.instanceMethod yX0_isLedger ∈ kT := kT_in (List.mem_of_getElem? (i := 114) (by decide +kernel)) rfl
theorem wx_X0_isLedger : Cond.selects RX0 yX0_isLedger yX0_isLedger ∈ kT := kT_in (List.mem_of_getElem? (i := 4) (by decide +kernel)) rfl
theorem wc_X0_holdsThings : Cond.code yX0_holdsThings cX0_holdsThings 2 (some .boolean) ∈ kT := kT_in (List.mem_of_getElem? (i := 155) rfl) rfl
theorem wm_X0_holdsThings : Cond.instanceMethod yX0_holdsThings ∈ kT := kT_in (List.mem_of_getElem? (i := 154) (by decide +kernel)) rfl
theorem wx_X0_holdsThings : Cond.selects RX0 yX0_holdsThings yX0_holdsThings ∈ kT := kT_in (List.mem_of_getElem? (i := 9) (by decide +kernel)) rfl
theorem wc_X0_goesFor : Cond.code yX0_goesFor cX0_goesFor 2 (some .boolean) ∈ kT := kT_in (List.mem_of_getElem? (i := 149) rfl) rfl
theorem wt_X0_goesFor : Cond.static yX0_goesFor ∈ kT := kT_in (List.mem_of_getElem? (i := 148) (by decide +kernel)) rfl
theorem wc_X0_isOfKind : Cond.code yX0_isOfKind cX0_isOfKind 4 (some .boolean) ∈ kT := kT_in (List.mem_of_getElem? (i := 146) rfl) rfl
theorem wm_X0_isOfKind : Cond.instanceMethod yX0_isOfKind ∈ kT := kT_in (List.mem_of_getElem? (i := 145) (by decide +kernel)) rfl
theorem wx_X0_isOfKind : Cond.selects RX0 yX0_isOfKind yX0_isOfKind ∈ kT := kT_in (List.mem_of_getElem? (i := 8) (by decide +kernel)) rfl
theorem wc_X0_mayPass : Cond.code yX0_mayPass cX0_mayPass 4 (some .boolean) ∈ kT := kT_in (List.mem_of_getElem? (i := 142) rfl) rfl
theorem wm_X0_mayPass : Cond.instanceMethod yX0_mayPass ∈ kT := kT_in (List.mem_of_getElem? (i := 141) (by decide +kernel)) rfl
theorem wx_X0_mayPass : Cond.selects RX0 yX0_mayPass yX0_mayPass ∈ kT := kT_in (List.mem_of_getElem? (i := 7) (by decide +kernel)) rfl
theorem wc_X0_goesInto : Cond.code yX0_goesInto cX0_goesInto 3 (some .boolean) ∈ kT := kT_in (List.mem_of_getElem? (i := 171) rfl) rfl
theorem wm_X0_goesInto : Cond.instanceMethod yX0_goesInto ∈ kT := kT_in (List.mem_of_getElem? (i := 170) (by decide +kernel)) rfl
theorem wx_X0_goesInto : Cond.selects RX0 yX0_goesInto yX0_goesInto ∈ kT := kT_in (List.mem_of_getElem? (i := 13) (by decide +kernel)) rfl
theorem wc_X0_widestBase : Cond.code yX0_widestBase cX0_widestBase 2 (some .int) ∈ kT := kT_in (List.mem_of_getElem? (i := 163) rfl) rfl
theorem wm_X0_widestBase : Cond.instanceMethod yX0_widestBase ∈ kT := kT_in (List.mem_of_getElem? (i := 162) (by decide +kernel)) rfl
theorem wx_X0_widestBase : Cond.selects RX0 yX0_widestBase yX0_widestBase ∈ kT := kT_in (List.mem_of_getElem? (i := 11) (by decide +kernel)) rfl
theorem wc_X0_hasPlace : Cond.code yX0_hasPlace cX0_hasPlace 3 (some .boolean) ∈ kT := kT_in (List.mem_of_getElem? (i := 167) rfl) rfl
theorem wm_X0_hasPlace : Cond.instanceMethod yX0_hasPlace ∈ kT := kT_in (List.mem_of_getElem? (i := 166) (by decide +kernel)) rfl
theorem wx_X0_hasPlace : Cond.selects RX0 yX0_hasPlace yX0_hasPlace ∈ kT := kT_in (List.mem_of_getElem? (i := 12) (by decide +kernel)) rfl
theorem wc_X0_hasPlaces : Cond.code yX0_hasPlaces cX0_hasPlaces 4 (some .boolean) ∈ kT := kT_in (List.mem_of_getElem? (i := 251) rfl) rfl
theorem wm_X0_hasPlaces : Cond.instanceMethod yX0_hasPlaces ∈ kT := kT_in (List.mem_of_getElem? (i := 250) (by decide +kernel)) rfl
theorem wx_X0_hasPlaces : Cond.selects RX0 yX0_hasPlaces yX0_hasPlaces ∈ kT := kT_in (List.mem_of_getElem? (i := 21) (by decide +kernel)) rfl
theorem wc_X0_placeIndex : Cond.code yX0_placeIndex cX0_placeIndex 2 (some .int) ∈ kT := kT_in (List.mem_of_getElem? (i := 119) rfl) rfl
theorem wt_X0_placeIndex : Cond.static yX0_placeIndex ∈ kT := kT_in (List.mem_of_getElem? (i := 118) (by decide +kernel)) rfl
theorem wc_X0_thingAt : Cond.code yX0_thingAt cX0_thingAt 3 (some .int) ∈ kT := kT_in (List.mem_of_getElem? (i := 179) rfl) rfl
theorem wm_X0_thingAt : Cond.instanceMethod yX0_thingAt ∈ kT := kT_in (List.mem_of_getElem? (i := 178) (by decide +kernel)) rfl
theorem wx_X0_thingAt : Cond.selects RX0 yX0_thingAt yX0_thingAt ∈ kT := kT_in (List.mem_of_getElem? (i := 14) (by decide +kernel)) rfl
theorem wc_X0_ledgerFailure : Cond.code yX0_ledgerFailure cX0_ledgerFailure 3 (some .int) ∈ kT := kT_in (List.mem_of_getElem? (i := 187) rfl) rfl
theorem wm_X0_ledgerFailure : Cond.instanceMethod yX0_ledgerFailure ∈ kT := kT_in (List.mem_of_getElem? (i := 186) (by decide +kernel)) rfl
theorem wx_X0_ledgerFailure : Cond.selects RX0 yX0_ledgerFailure yX0_ledgerFailure ∈ kT := kT_in (List.mem_of_getElem? (i := 15) (by decide +kernel)) rfl
theorem wc_X0_hasRoomFor : Cond.code yX0_hasRoomFor cX0_hasRoomFor 2 (some .boolean) ∈ kT := kT_in (List.mem_of_getElem? (i := 89) rfl) rfl
theorem wm_X0_hasRoomFor : Cond.instanceMethod yX0_hasRoomFor ∈ kT := kT_in (List.mem_of_getElem? (i := 88) (by decide +kernel)) rfl
theorem wx_X0_hasRoomFor : Cond.selects RX0 yX0_hasRoomFor yX0_hasRoomFor ∈ kT := kT_in (List.mem_of_getElem? (i := 0) (by decide +kernel)) rfl
theorem wc_X0_addThing : Cond.code yX0_addThing cX0_addThing 5 (some .int) ∈ kT := kT_in (List.mem_of_getElem? (i := 93) rfl) rfl
theorem wm_X0_addThing : Cond.instanceMethod yX0_addThing ∈ kT := kT_in (List.mem_of_getElem? (i := 92) (by decide +kernel)) rfl
theorem wx_X0_addThing : Cond.selects RX0 yX0_addThing yX0_addThing ∈ kT := kT_in (List.mem_of_getElem? (i := 1) (by decide +kernel)) rfl
theorem wc_X0_addRow : Cond.code yX0_addRow cX0_addRow 8 (some .int) ∈ kT := kT_in (List.mem_of_getElem? (i := 111) rfl) rfl
theorem wm_X0_addRow : Cond.instanceMethod yX0_addRow ∈ kT := kT_in (List.mem_of_getElem? (i := 110) (by decide +kernel)) rfl
theorem wx_X0_addRow : Cond.selects RX0 yX0_addRow yX0_addRow ∈ kT := kT_in (List.mem_of_getElem? (i := 3) (by decide +kernel)) rfl
theorem wc_X0_firstClosedDoor : Cond.code yX0_firstClosedDoor cX0_firstClosedDoor 5 (some .int) ∈ kT := kT_in (List.mem_of_getElem? (i := 210) rfl) rfl
theorem wm_X0_firstClosedDoor : Cond.instanceMethod yX0_firstClosedDoor ∈ kT := kT_in (List.mem_of_getElem? (i := 209) (by decide +kernel)) rfl
theorem wx_X0_firstClosedDoor : Cond.selects RX0 yX0_firstClosedDoor yX0_firstClosedDoor ∈ kT := kT_in (List.mem_of_getElem? (i := 16) (by decide +kernel)) rfl
theorem wc_X0_areAlike : Cond.code yX0_areAlike cX0_areAlike 3 (some .boolean) ∈ kT := kT_in (List.mem_of_getElem? (i := 247) rfl) rfl
theorem wm_X0_areAlike : Cond.instanceMethod yX0_areAlike ∈ kT := kT_in (List.mem_of_getElem? (i := 246) (by decide +kernel)) rfl
theorem wx_X0_areAlike : Cond.selects RX0 yX0_areAlike yX0_areAlike ∈ kT := kT_in (List.mem_of_getElem? (i := 20) (by decide +kernel)) rfl
theorem wc_X0_countGoing : Cond.code yX0_countGoing cX0_countGoing 6 (some .int) ∈ kT := kT_in (List.mem_of_getElem? (i := 255) rfl) rfl
theorem wm_X0_countGoing : Cond.instanceMethod yX0_countGoing ∈ kT := kT_in (List.mem_of_getElem? (i := 254) (by decide +kernel)) rfl
theorem wx_X0_countGoing : Cond.selects RX0 yX0_countGoing yX0_countGoing ∈ kT := kT_in (List.mem_of_getElem? (i := 22) (by decide +kernel)) rfl
theorem wc_X0_movePlaces : Cond.code yX0_movePlaces cX0_movePlaces 6 none ∈ kT := kT_in (List.mem_of_getElem? (i := 236) rfl) rfl
theorem wm_X0_movePlaces : Cond.instanceMethod yX0_movePlaces ∈ kT := kT_in (List.mem_of_getElem? (i := 235) (by decide +kernel)) rfl
theorem wx_X0_movePlaces : Cond.selects RX0 yX0_movePlaces yX0_movePlaces ∈ kT := kT_in (List.mem_of_getElem? (i := 19) (by decide +kernel)) rfl
theorem wc_X0_worthWithin : Cond.code yX0_worthWithin cX0_worthWithin 6 (some .long) ∈ kT := kT_in (List.mem_of_getElem? (i := 222) rfl) rfl
theorem wm_X0_worthWithin : Cond.instanceMethod yX0_worthWithin ∈ kT := kT_in (List.mem_of_getElem? (i := 221) (by decide +kernel)) rfl
theorem wx_X0_worthWithin : Cond.selects RX0 yX0_worthWithin yX0_worthWithin ∈ kT := kT_in (List.mem_of_getElem? (i := 17) (by decide +kernel)) rfl
theorem wc_X0_worthOfPiece : Cond.code yX0_worthOfPiece cX0_worthOfPiece 4 (some .long) ∈ kT := kT_in (List.mem_of_getElem? (i := 226) rfl) rfl
theorem wm_X0_worthOfPiece : Cond.instanceMethod yX0_worthOfPiece ∈ kT := kT_in (List.mem_of_getElem? (i := 225) (by decide +kernel)) rfl
theorem wx_X0_worthOfPiece : Cond.selects RX0 yX0_worthOfPiece yX0_worthOfPiece ∈ kT := kT_in (List.mem_of_getElem? (i := 18) (by decide +kernel)) rfl
theorem wc_X0_frailWithin : Cond.code yX0_frailWithin cX0_frailWithin 5 (some .int) ∈ kT := kT_in (List.mem_of_getElem? (i := 263) rfl) rfl
theorem wm_X0_frailWithin : Cond.instanceMethod yX0_frailWithin ∈ kT := kT_in (List.mem_of_getElem? (i := 262) (by decide +kernel)) rfl
theorem wx_X0_frailWithin : Cond.selects RX0 yX0_frailWithin yX0_frailWithin ∈ kT := kT_in (List.mem_of_getElem? (i := 23) (by decide +kernel)) rfl
theorem wc_X1_init : Cond.code yX1_init cX1_init 1 none ∈ kT := kT_in (List.mem_of_getElem? (i := 284) rfl) rfl
theorem wm_X1_init : Cond.instanceMethod yX1_init ∈ kT := kT_in (List.mem_of_getElem? (i := 283) (by decide +kernel)) rfl
theorem wc_X1_isIn : Cond.code yX1_isIn cX1_isIn 3 (some .boolean) ∈ kT := kT_in (List.mem_of_getElem? (i := 341) rfl) rfl
theorem wt_X1_isIn : Cond.static yX1_isIn ∈ kT := kT_in (List.mem_of_getElem? (i := 340) (by decide +kernel)) rfl
theorem wc_X1_fails : Cond.code yX1_fails cX1_fails 2 (some .int) ∈ kT := kT_in (List.mem_of_getElem? (i := 356) rfl) rfl
theorem wm_X1_fails : Cond.instanceMethod yX1_fails ∈ kT := kT_in (List.mem_of_getElem? (i := 355) (by decide +kernel)) rfl
theorem wx_X1_fails : Cond.selects RX1 yX1_fails yX1_fails ∈ kT := kT_in (List.mem_of_getElem? (i := 25) (by decide +kernel)) rfl
theorem wc_X1_isThing : Cond.code yX1_isThing cX1_isThing 2 (some .boolean) ∈ kT := kT_in (List.mem_of_getElem? (i := 422) rfl) rfl
theorem wm_X1_isThing : Cond.instanceMethod yX1_isThing ∈ kT := kT_in (List.mem_of_getElem? (i := 421) (by decide +kernel)) rfl
theorem wx_X1_isThing : Cond.selects RX1 yX1_isThing yX1_isThing ∈ kT := kT_in (List.mem_of_getElem? (i := 30) (by decide +kernel)) rfl
theorem wc_X1_mayBe : Cond.code yX1_mayBe cX1_mayBe 2 (some .boolean) ∈ kT := kT_in (List.mem_of_getElem? (i := 368) rfl) rfl
theorem wm_X1_mayBe : Cond.instanceMethod yX1_mayBe ∈ kT := kT_in (List.mem_of_getElem? (i := 367) (by decide +kernel)) rfl
theorem wx_X1_mayBe : Cond.selects RX1 yX1_mayBe yX1_mayBe ∈ kT := kT_in (List.mem_of_getElem? (i := 26) (by decide +kernel)) rfl
theorem wc_X1_goesFor : Cond.code yX1_goesFor cX1_goesFor 2 (some .boolean) ∈ kT := kT_in (List.mem_of_getElem? (i := 375) rfl) rfl
theorem wt_X1_goesFor : Cond.static yX1_goesFor ∈ kT := kT_in (List.mem_of_getElem? (i := 374) (by decide +kernel)) rfl
theorem wc_X1_isSuch : Cond.code yX1_isSuch cX1_isSuch 4 (some .boolean) ∈ kT := kT_in (List.mem_of_getElem? (i := 372) rfl) rfl
theorem wm_X1_isSuch : Cond.instanceMethod yX1_isSuch ∈ kT := kT_in (List.mem_of_getElem? (i := 371) (by decide +kernel)) rfl
theorem wx_X1_isSuch : Cond.selects RX1 yX1_isSuch yX1_isSuch ∈ kT := kT_in (List.mem_of_getElem? (i := 27) (by decide +kernel)) rfl
theorem wc_X1_isLedger : Cond.code yX1_isLedger cX1_isLedger 2 (some .boolean) ∈ kT := kT_in (List.mem_of_getElem? (i := 379) rfl) rfl
theorem wm_X1_isLedger : Cond.instanceMethod yX1_isLedger ∈ kT := kT_in (List.mem_of_getElem? (i := 378) (by decide +kernel)) rfl
theorem wx_X1_isLedger : Cond.selects RX1 yX1_isLedger yX1_isLedger ∈ kT := kT_in (List.mem_of_getElem? (i := 28) (by decide +kernel)) rfl
theorem wc_X1_make : Cond.code yX1_make cX1_make 7 (some .int) ∈ kT := kT_in (List.mem_of_getElem? (i := 345) rfl) rfl
theorem wm_X1_make : Cond.instanceMethod yX1_make ∈ kT := kT_in (List.mem_of_getElem? (i := 344) (by decide +kernel)) rfl
theorem wx_X1_make : Cond.selects RX1 yX1_make yX1_make ∈ kT := kT_in (List.mem_of_getElem? (i := 24) (by decide +kernel)) rfl
theorem wc_X1_piece : Cond.code yX1_piece cX1_piece 3 (some .int) ∈ kT := kT_in (List.mem_of_getElem? (i := 338) rfl) rfl
theorem wm_X1_piece : Cond.instanceMethod yX1_piece ∈ kT := kT_in (List.mem_of_getElem? (i := 336) (by decide +kernel)) rfl
theorem wx_X1_piece : Cond.selects RX1 yX1_piece yX1_piece ∈ kT := kT_in (List.mem_of_getElem? (i := 337) (by decide +kernel)) rfl
theorem wc_X1_isShape : Cond.code yX1_isShape cX1_isShape 2 (some .boolean) ∈ kT := kT_in (List.mem_of_getElem? (i := 352) rfl) rfl
theorem wt_X1_isShape : Cond.static yX1_isShape ∈ kT := kT_in (List.mem_of_getElem? (i := 351) (by decide +kernel)) rfl
theorem wc_X1_row : Cond.code yX1_row cX1_row 4 (some .int) ∈ kT := kT_in (List.mem_of_getElem? (i := 349) rfl) rfl
theorem wm_X1_row : Cond.instanceMethod yX1_row ∈ kT := kT_in (List.mem_of_getElem? (i := 347) (by decide +kernel)) rfl
theorem wx_X1_row : Cond.selects RX1 yX1_row yX1_row ∈ kT := kT_in (List.mem_of_getElem? (i := 348) (by decide +kernel)) rfl
theorem wc_X1_grid : Cond.code yX1_grid cX1_grid 6 (some .int) ∈ kT := kT_in (List.mem_of_getElem? (i := 360) rfl) rfl
theorem wm_X1_grid : Cond.instanceMethod yX1_grid ∈ kT := kT_in (List.mem_of_getElem? (i := 358) (by decide +kernel)) rfl
theorem wx_X1_grid : Cond.selects RX1 yX1_grid yX1_grid ∈ kT := kT_in (List.mem_of_getElem? (i := 359) (by decide +kernel)) rfl
theorem wc_X1_put : Cond.code yX1_put cX1_put 5 (some .int) ∈ kT := kT_in (List.mem_of_getElem? (i := 364) rfl) rfl
theorem wm_X1_put : Cond.instanceMethod yX1_put ∈ kT := kT_in (List.mem_of_getElem? (i := 362) (by decide +kernel)) rfl
theorem wx_X1_put : Cond.selects RX1 yX1_put yX1_put ∈ kT := kT_in (List.mem_of_getElem? (i := 363) (by decide +kernel)) rfl
theorem wc_X1_get : Cond.code yX1_get cX1_get 3 (some .int) ∈ kT := kT_in (List.mem_of_getElem? (i := 383) rfl) rfl
theorem wm_X1_get : Cond.instanceMethod yX1_get ∈ kT := kT_in (List.mem_of_getElem? (i := 381) (by decide +kernel)) rfl
theorem wx_X1_get : Cond.selects RX1 yX1_get yX1_get ∈ kT := kT_in (List.mem_of_getElem? (i := 382) (by decide +kernel)) rfl
theorem wc_X1_refused : Cond.code yX1_refused cX1_refused 3 (some .int) ∈ kT := kT_in (List.mem_of_getElem? (i := 391) rfl) rfl
theorem wm_X1_refused : Cond.instanceMethod yX1_refused ∈ kT := kT_in (List.mem_of_getElem? (i := 390) (by decide +kernel)) rfl
theorem wx_X1_refused : Cond.selects RX1 yX1_refused yX1_refused ∈ kT := kT_in (List.mem_of_getElem? (i := 29) (by decide +kernel)) rfl
theorem wc_X1_set : Cond.code yX1_set cX1_set 6 (some .int) ∈ kT := kT_in (List.mem_of_getElem? (i := 387) rfl) rfl
theorem wm_X1_set : Cond.instanceMethod yX1_set ∈ kT := kT_in (List.mem_of_getElem? (i := 385) (by decide +kernel)) rfl
theorem wx_X1_set : Cond.selects RX1 yX1_set yX1_set ∈ kT := kT_in (List.mem_of_getElem? (i := 386) (by decide +kernel)) rfl
theorem wc_X1_number : Cond.code yX1_number cX1_number 3 (some .long) ∈ kT := kT_in (List.mem_of_getElem? (i := 395) rfl) rfl
theorem wm_X1_number : Cond.instanceMethod yX1_number ∈ kT := kT_in (List.mem_of_getElem? (i := 393) (by decide +kernel)) rfl
theorem wx_X1_number : Cond.selects RX1 yX1_number yX1_number ∈ kT := kT_in (List.mem_of_getElem? (i := 394) (by decide +kernel)) rfl
theorem wc_X1_isAsked : Cond.code yX1_isAsked cX1_isAsked 2 (some .boolean) ∈ kT := kT_in (List.mem_of_getElem? (i := 402) rfl) rfl
theorem wt_X1_isAsked : Cond.static yX1_isAsked ∈ kT := kT_in (List.mem_of_getElem? (i := 401) (by decide +kernel)) rfl
theorem wc_X1_is : Cond.code yX1_is cX1_is 4 (some .int) ∈ kT := kT_in (List.mem_of_getElem? (i := 399) rfl) rfl
theorem wm_X1_is : Cond.instanceMethod yX1_is ∈ kT := kT_in (List.mem_of_getElem? (i := 397) (by decide +kernel)) rfl
theorem wx_X1_is : Cond.selects RX1 yX1_is yX1_is ∈ kT := kT_in (List.mem_of_getElem? (i := 398) (by decide +kernel)) rfl
theorem wc_X1_door : Cond.code yX1_door cX1_door 4 (some .int) ∈ kT := kT_in (List.mem_of_getElem? (i := 406) rfl) rfl
theorem wm_X1_door : Cond.instanceMethod yX1_door ∈ kT := kT_in (List.mem_of_getElem? (i := 404) (by decide +kernel)) rfl
theorem wx_X1_door : Cond.selects RX1 yX1_door yX1_door ∈ kT := kT_in (List.mem_of_getElem? (i := 405) (by decide +kernel)) rfl
theorem wc_X1_through : Cond.code yX1_through cX1_through 5 (some .int) ∈ kT := kT_in (List.mem_of_getElem? (i := 410) rfl) rfl
theorem wm_X1_through : Cond.instanceMethod yX1_through ∈ kT := kT_in (List.mem_of_getElem? (i := 408) (by decide +kernel)) rfl
theorem wx_X1_through : Cond.selects RX1 yX1_through yX1_through ∈ kT := kT_in (List.mem_of_getElem? (i := 409) (by decide +kernel)) rfl
theorem wc_X1_lastDoor : Cond.code yX1_lastDoor cX1_lastDoor 1 (some .int) ∈ kT := kT_in (List.mem_of_getElem? (i := 414) rfl) rfl
theorem wm_X1_lastDoor : Cond.instanceMethod yX1_lastDoor ∈ kT := kT_in (List.mem_of_getElem? (i := 412) (by decide +kernel)) rfl
theorem wx_X1_lastDoor : Cond.selects RX1 yX1_lastDoor yX1_lastDoor ∈ kT := kT_in (List.mem_of_getElem? (i := 413) (by decide +kernel)) rfl
theorem wc_X1_addUp : Cond.code yX1_addUp cX1_addUp 3 none ∈ kT := kT_in (List.mem_of_getElem? (i := 426) rfl) rfl
theorem wm_X1_addUp : Cond.instanceMethod yX1_addUp ∈ kT := kT_in (List.mem_of_getElem? (i := 425) (by decide +kernel)) rfl
theorem wx_X1_addUp : Cond.selects RX1 yX1_addUp yX1_addUp ∈ kT := kT_in (List.mem_of_getElem? (i := 31) (by decide +kernel)) rfl
theorem wc_X1_addOne : Cond.code yX1_addOne cX1_addOne 7 none ∈ kT := kT_in (List.mem_of_getElem? (i := 430) rfl) rfl
theorem wm_X1_addOne : Cond.instanceMethod yX1_addOne ∈ kT := kT_in (List.mem_of_getElem? (i := 429) (by decide +kernel)) rfl
theorem wx_X1_addOne : Cond.selects RX1 yX1_addOne yX1_addOne ∈ kT := kT_in (List.mem_of_getElem? (i := 32) (by decide +kernel)) rfl
theorem wc_X1_worth : Cond.code yX1_worth cX1_worth 2 (some .long) ∈ kT := kT_in (List.mem_of_getElem? (i := 418) rfl) rfl
theorem wm_X1_worth : Cond.instanceMethod yX1_worth ∈ kT := kT_in (List.mem_of_getElem? (i := 416) (by decide +kernel)) rfl
theorem wx_X1_worth : Cond.selects RX1 yX1_worth yX1_worth ∈ kT := kT_in (List.mem_of_getElem? (i := 417) (by decide +kernel)) rfl
theorem wc_X1_frail : Cond.code yX1_frail cX1_frail 2 (some .int) ∈ kT := kT_in (List.mem_of_getElem? (i := 436) rfl) rfl
theorem wm_X1_frail : Cond.instanceMethod yX1_frail ∈ kT := kT_in (List.mem_of_getElem? (i := 434) (by decide +kernel)) rfl
theorem wx_X1_frail : Cond.selects RX1 yX1_frail yX1_frail ∈ kT := kT_in (List.mem_of_getElem? (i := 435) (by decide +kernel)) rfl
theorem wc_X1_copy : Cond.code yX1_copy cX1_copy 4 (some .int) ∈ kT := kT_in (List.mem_of_getElem? (i := 440) rfl) rfl
theorem wm_X1_copy : Cond.instanceMethod yX1_copy ∈ kT := kT_in (List.mem_of_getElem? (i := 438) (by decide +kernel)) rfl
theorem wx_X1_copy : Cond.selects RX1 yX1_copy yX1_copy ∈ kT := kT_in (List.mem_of_getElem? (i := 439) (by decide +kernel)) rfl
theorem wc_X1_isSpan : Cond.code yX1_isSpan cX1_isSpan 3 (some .boolean) ∈ kT := kT_in (List.mem_of_getElem? (i := 447) rfl) rfl
theorem wt_X1_isSpan : Cond.static yX1_isSpan ∈ kT := kT_in (List.mem_of_getElem? (i := 446) (by decide +kernel)) rfl
theorem wc_X1_carry : Cond.code yX1_carry cX1_carry 7 (some .int) ∈ kT := kT_in (List.mem_of_getElem? (i := 444) rfl) rfl
theorem wm_X1_carry : Cond.instanceMethod yX1_carry ∈ kT := kT_in (List.mem_of_getElem? (i := 442) (by decide +kernel)) rfl
theorem wx_X1_carry : Cond.selects RX1 yX1_carry yX1_carry ∈ kT := kT_in (List.mem_of_getElem? (i := 443) (by decide +kernel)) rfl
theorem wc_X1_about : Cond.code yX1_about cX1_about 3 (some .int) ∈ kT := kT_in (List.mem_of_getElem? (i := 451) rfl) rfl
theorem wm_X1_about : Cond.instanceMethod yX1_about ∈ kT := kT_in (List.mem_of_getElem? (i := 449) (by decide +kernel)) rfl
theorem wx_X1_about : Cond.selects RX1 yX1_about yX1_about ∈ kT := kT_in (List.mem_of_getElem? (i := 450) (by decide +kernel)) rfl
theorem wc_X1_bases : Cond.code yX1_bases cX1_bases 4 (some .int) ∈ kT := kT_in (List.mem_of_getElem? (i := 455) rfl) rfl
theorem wm_X1_bases : Cond.instanceMethod yX1_bases ∈ kT := kT_in (List.mem_of_getElem? (i := 453) (by decide +kernel)) rfl
theorem wx_X1_bases : Cond.selects RX1 yX1_bases yX1_bases ∈ kT := kT_in (List.mem_of_getElem? (i := 454) (by decide +kernel)) rfl
theorem wc_X1_count : Cond.code yX1_count cX1_count 2 (some .int) ∈ kT := kT_in (List.mem_of_getElem? (i := 459) rfl) rfl
theorem wm_X1_count : Cond.instanceMethod yX1_count ∈ kT := kT_in (List.mem_of_getElem? (i := 457) (by decide +kernel)) rfl
theorem wx_X1_count : Cond.selects RX1 yX1_count yX1_count ∈ kT := kT_in (List.mem_of_getElem? (i := 458) (by decide +kernel)) rfl
theorem wc_X1_clear : Cond.code yX1_clear cX1_clear 3 (some .int) ∈ kT := kT_in (List.mem_of_getElem? (i := 463) rfl) rfl
theorem wm_X1_clear : Cond.instanceMethod yX1_clear ∈ kT := kT_in (List.mem_of_getElem? (i := 461) (by decide +kernel)) rfl
theorem wx_X1_clear : Cond.selects RX1 yX1_clear yX1_clear ∈ kT := kT_in (List.mem_of_getElem? (i := 462) (by decide +kernel)) rfl
theorem wl_L_9 : Cond.methodLink RL 9 yX0_init ∈ kT := kT_in (List.mem_of_getElem? (i := 40) (by decide +kernel)) rfl
theorem wf_X0_9 : Cond.fieldLink RX0 9 "DepotTrays" "thingBase" "[I" ∈ kT := kT_in (List.mem_of_getElem? (i := 46) (by decide +kernel)) rfl
theorem wf_X0_13 : Cond.fieldLink RX0 13 "DepotTrays" "thingDepth" "[I" ∈ kT := kT_in (List.mem_of_getElem? (i := 47) (by decide +kernel)) rfl
theorem wf_X0_16 : Cond.fieldLink RX0 16 "DepotTrays" "thingSize" "[I" ∈ kT := kT_in (List.mem_of_getElem? (i := 48) (by decide +kernel)) rfl
theorem wf_X0_19 : Cond.fieldLink RX0 19 "DepotTrays" "pieceWorth" "[I" ∈ kT := kT_in (List.mem_of_getElem? (i := 49) (by decide +kernel)) rfl
theorem wf_X0_22 : Cond.fieldLink RX0 22 "DepotTrays" "places" "[J" ∈ kT := kT_in (List.mem_of_getElem? (i := 50) (by decide +kernel)) rfl
theorem wf_X0_26 : Cond.fieldLink RX0 26 "DepotTrays" "doorBase" "[I" ∈ kT := kT_in (List.mem_of_getElem? (i := 51) (by decide +kernel)) rfl
theorem wf_X0_29 : Cond.fieldLink RX0 29 "DepotTrays" "doorDepth" "[I" ∈ kT := kT_in (List.mem_of_getElem? (i := 52) (by decide +kernel)) rfl
theorem wf_X0_32 : Cond.fieldLink RX0 32 "DepotTrays" "thingCount" "I" ∈ kT := kT_in (List.mem_of_getElem? (i := 53) (by decide +kernel)) rfl
theorem wf_X0_36 : Cond.fieldLink RX0 36 "DepotTrays" "failureCount" "I" ∈ kT := kT_in (List.mem_of_getElem? (i := 54) (by decide +kernel)) rfl
theorem wf_X0_39 : Cond.fieldLink RX0 39 "DepotTrays" "latestFailure" "I" ∈ kT := kT_in (List.mem_of_getElem? (i := 55) (by decide +kernel)) rfl
theorem wf_X0_42 : Cond.fieldLink RX0 42 "DepotTrays" "closedDoor" "I" ∈ kT := kT_in (List.mem_of_getElem? (i := 56) (by decide +kernel)) rfl
theorem wl_L_13 : Cond.methodLink RL 13 yX0_piece ∈ kT := kT_in (List.mem_of_getElem? (i := 82) (by decide +kernel)) rfl
theorem gc_L_13 : GoodIn kT (wsV RL 13 RX0 yX0_piece (kW yX0_piece cX0_piece 4 (some .int))) := gdV wl_L_13 wm_X0_piece wx_X0_piece wn_X0 wc_X0_piece
theorem wl_X0_45 : Cond.methodLink RX0 45 yX0_hasRoomFor ∈ kT := kT_in (List.mem_of_getElem? (i := 86) (by decide +kernel)) rfl
theorem gc_X0_45 : GoodIn kT (wsV RX0 45 RX0 yX0_hasRoomFor (kW yX0_hasRoomFor cX0_hasRoomFor 2 (some .boolean))) := gdV wl_X0_45 wm_X0_hasRoomFor wx_X0_hasRoomFor wn_X0 wc_X0_hasRoomFor
theorem wl_X0_49 : Cond.methodLink RX0 49 yX0_addThing ∈ kT := kT_in (List.mem_of_getElem? (i := 90) (by decide +kernel)) rfl
theorem gc_X0_49 : GoodIn kT (wsV RX0 49 RX0 yX0_addThing (kW yX0_addThing cX0_addThing 5 (some .int))) := gdV wl_X0_49 wm_X0_addThing wx_X0_addThing wn_X0 wc_X0_addThing
theorem wl_L_18 : Cond.methodLink RL 18 yX0_row ∈ kT := kT_in (List.mem_of_getElem? (i := 94) (by decide +kernel)) rfl
theorem gc_L_18 : GoodIn kT (wsV RL 18 RX0 yX0_row (kW yX0_row cX0_row 4 (some .int))) := gdV wl_L_18 wm_X0_row wx_X0_row wn_X0 wc_X0_row
theorem wl_X0_53 : Cond.methodLink RX0 53 yX0_isKind ∈ kT := kT_in (List.mem_of_getElem? (i := 98) (by decide +kernel)) rfl
theorem gc_X0_53 : GoodIn kT (va_wsS RX0 53 yX0_isKind (kW yX0_isKind cX0_isKind 2 (some .boolean))) := gdS wl_X0_53 wt_X0_isKind wn_X0 wc_X0_isKind
theorem wl_X0_131 : Cond.methodLink RX0 131 yX0_isNumberBase ∈ kT := kT_in (List.mem_of_getElem? (i := 101) (by decide +kernel)) rfl
theorem gc_X0_131 : GoodIn kT (va_wsS RX0 131 yX0_isNumberBase (kW yX0_isNumberBase cX0_isNumberBase 1 (some .boolean))) := gdS wl_X0_131 wt_X0_isNumberBase wn_X0 wc_X0_isNumberBase
theorem wl_X0_57 : Cond.methodLink RX0 57 yX0_fail ∈ kT := kT_in (List.mem_of_getElem? (i := 104) (by decide +kernel)) rfl
theorem gc_X0_57 : GoodIn kT (wsV RX0 57 RX0 yX0_fail (kW yX0_fail cX0_fail 2 (some .int))) := gdV wl_X0_57 wm_X0_fail wx_X0_fail wn_X0 wc_X0_fail
theorem wl_X0_61 : Cond.methodLink RX0 61 yX0_addRow ∈ kT := kT_in (List.mem_of_getElem? (i := 108) (by decide +kernel)) rfl
theorem gc_X0_61 : GoodIn kT (wsV RX0 61 RX0 yX0_addRow (kW yX0_addRow cX0_addRow 8 (some .int))) := gdV wl_X0_61 wm_X0_addRow wx_X0_addRow wn_X0 wc_X0_addRow
theorem wl_X0_124 : Cond.methodLink RX0 124 yX0_isLedger ∈ kT := kT_in (List.mem_of_getElem? (i := 112) (by decide +kernel)) rfl
theorem gc_X0_124 : GoodIn kT (wsV RX0 124 RX0 yX0_isLedger (kW yX0_isLedger cX0_isLedger 2 (some .boolean))) := gdV wl_X0_124 wm_X0_isLedger wx_X0_isLedger wn_X0 wc_X0_isLedger
theorem wk_X0_146 : Cond.constantLong RX0 146 (-1 : Int64) ∈ kT := kT_in (List.mem_of_getElem? (i := 116) (by decide +kernel)) rfl
theorem wl_X0_70 : Cond.methodLink RX0 70 yX0_placeIndex ∈ kT := kT_in (List.mem_of_getElem? (i := 117) (by decide +kernel)) rfl
theorem gc_X0_70 : GoodIn kT (va_wsS RX0 70 yX0_placeIndex (kW yX0_placeIndex cX0_placeIndex 2 (some .int))) := gdS wl_X0_70 wt_X0_placeIndex wn_X0 wc_X0_placeIndex
theorem wl_L_23 : Cond.methodLink RL 23 yX0_grid ∈ kT := kT_in (List.mem_of_getElem? (i := 120) (by decide +kernel)) rfl
theorem gc_L_23 : GoodIn kT (wsV RL 23 RX0 yX0_grid (kW yX0_grid cX0_grid 6 (some .int))) := gdV wl_L_23 wm_X0_grid wx_X0_grid wn_X0 wc_X0_grid
theorem wl_L_27 : Cond.methodLink RL 27 yX0_put ∈ kT := kT_in (List.mem_of_getElem? (i := 127) (by decide +kernel)) rfl
theorem gc_L_27 : GoodIn kT (wsV RL 27 RX0 yX0_put (kW yX0_put cX0_put 4 (some .int))) := gdV wl_L_27 wm_X0_put wx_X0_put wn_X0 wc_X0_put
theorem wl_X0_73 : Cond.methodLink RX0 73 yX0_isThingOrNone ∈ kT := kT_in (List.mem_of_getElem? (i := 131) (by decide +kernel)) rfl
theorem gc_X0_73 : GoodIn kT (wsV RX0 73 RX0 yX0_isThingOrNone (kW yX0_isThingOrNone cX0_isThingOrNone 2 (some .boolean))) := gdV wl_X0_73 wm_X0_isThingOrNone wx_X0_isThingOrNone wn_X0 wc_X0_isThingOrNone
theorem wl_X0_137 : Cond.methodLink RX0 137 yX0_isThing ∈ kT := kT_in (List.mem_of_getElem? (i := 135) (by decide +kernel)) rfl
theorem gc_X0_137 : GoodIn kT (wsV RX0 137 RX0 yX0_isThing (kW yX0_isThing cX0_isThing 2 (some .boolean))) := gdV wl_X0_137 wm_X0_isThing wx_X0_isThing wn_X0 wc_X0_isThing
theorem wl_X0_76 : Cond.methodLink RX0 76 yX0_mayPass ∈ kT := kT_in (List.mem_of_getElem? (i := 139) (by decide +kernel)) rfl
theorem gc_X0_76 : GoodIn kT (wsV RX0 76 RX0 yX0_mayPass (kW yX0_mayPass cX0_mayPass 4 (some .boolean))) := gdV wl_X0_76 wm_X0_mayPass wx_X0_mayPass wn_X0 wc_X0_mayPass
theorem wl_X0_98 : Cond.methodLink RX0 98 yX0_isOfKind ∈ kT := kT_in (List.mem_of_getElem? (i := 143) (by decide +kernel)) rfl
theorem gc_X0_98 : GoodIn kT (wsV RX0 98 RX0 yX0_isOfKind (kW yX0_isOfKind cX0_isOfKind 4 (some .boolean))) := gdV wl_X0_98 wm_X0_isOfKind wx_X0_isOfKind wn_X0 wc_X0_isOfKind
theorem wl_X0_143 : Cond.methodLink RX0 143 yX0_goesFor ∈ kT := kT_in (List.mem_of_getElem? (i := 147) (by decide +kernel)) rfl
theorem gc_X0_143 : GoodIn kT (va_wsS RX0 143 yX0_goesFor (kW yX0_goesFor cX0_goesFor 2 (some .boolean))) := gdS wl_X0_143 wt_X0_goesFor wn_X0 wc_X0_goesFor
theorem wf_X0_140 : Cond.fieldLink RX0 140 "DepotTrays" "GOES_FOR" "[I" ∈ kT := kT_in (List.mem_of_getElem? (i := 150) (by decide +kernel)) rfl
theorem wl_X0_80 : Cond.methodLink RX0 80 yX0_holdsThings ∈ kT := kT_in (List.mem_of_getElem? (i := 152) (by decide +kernel)) rfl
theorem gc_X0_80 : GoodIn kT (wsV RX0 80 RX0 yX0_holdsThings (kW yX0_holdsThings cX0_holdsThings 2 (some .boolean))) := gdV wl_X0_80 wm_X0_holdsThings wx_X0_holdsThings wn_X0 wc_X0_holdsThings
theorem wl_X0_111 : Cond.methodLink RX0 111 yX0_isPiece ∈ kT := kT_in (List.mem_of_getElem? (i := 156) (by decide +kernel)) rfl
theorem gc_X0_111 : GoodIn kT (wsV RX0 111 RX0 yX0_isPiece (kW yX0_isPiece cX0_isPiece 2 (some .boolean))) := gdV wl_X0_111 wm_X0_isPiece wx_X0_isPiece wn_X0 wc_X0_isPiece
theorem wl_X0_83 : Cond.methodLink RX0 83 yX0_widestBase ∈ kT := kT_in (List.mem_of_getElem? (i := 160) (by decide +kernel)) rfl
theorem gc_X0_83 : GoodIn kT (wsV RX0 83 RX0 yX0_widestBase (kW yX0_widestBase cX0_widestBase 2 (some .int))) := gdV wl_X0_83 wm_X0_widestBase wx_X0_widestBase wn_X0 wc_X0_widestBase
theorem wl_X0_86 : Cond.methodLink RX0 86 yX0_hasPlace ∈ kT := kT_in (List.mem_of_getElem? (i := 164) (by decide +kernel)) rfl
theorem gc_X0_86 : GoodIn kT (wsV RX0 86 RX0 yX0_hasPlace (kW yX0_hasPlace cX0_hasPlace 3 (some .boolean))) := gdV wl_X0_86 wm_X0_hasPlace wx_X0_hasPlace wn_X0 wc_X0_hasPlace
theorem wl_X0_89 : Cond.methodLink RX0 89 yX0_goesInto ∈ kT := kT_in (List.mem_of_getElem? (i := 168) (by decide +kernel)) rfl
theorem gc_X0_89 : GoodIn kT (wsV RX0 89 RX0 yX0_goesInto (kW yX0_goesInto cX0_goesInto 3 (some .boolean))) := gdV wl_X0_89 wm_X0_goesInto wx_X0_goesInto wn_X0 wc_X0_goesInto
theorem wl_L_31 : Cond.methodLink RL 31 yX0_get ∈ kT := kT_in (List.mem_of_getElem? (i := 172) (by decide +kernel)) rfl
theorem gc_L_31 : GoodIn kT (wsV RL 31 RX0 yX0_get (kW yX0_get cX0_get 3 (some .int))) := gdV wl_L_31 wm_X0_get wx_X0_get wn_X0 wc_X0_get
theorem wl_X0_92 : Cond.methodLink RX0 92 yX0_thingAt ∈ kT := kT_in (List.mem_of_getElem? (i := 176) (by decide +kernel)) rfl
theorem gc_X0_92 : GoodIn kT (wsV RX0 92 RX0 yX0_thingAt (kW yX0_thingAt cX0_thingAt 3 (some .int))) := gdV wl_X0_92 wm_X0_thingAt wx_X0_thingAt wn_X0 wc_X0_thingAt
theorem wl_L_37 : Cond.methodLink RL 37 yX0_set ∈ kT := kT_in (List.mem_of_getElem? (i := 180) (by decide +kernel)) rfl
theorem gc_L_37 : GoodIn kT (wsV RL 37 RX0 yX0_set (kW yX0_set cX0_set 6 (some .int))) := gdV wl_L_37 wm_X0_set wx_X0_set wn_X0 wc_X0_set
theorem wl_X0_95 : Cond.methodLink RX0 95 yX0_ledgerFailure ∈ kT := kT_in (List.mem_of_getElem? (i := 184) (by decide +kernel)) rfl
theorem gc_X0_95 : GoodIn kT (wsV RX0 95 RX0 yX0_ledgerFailure (kW yX0_ledgerFailure cX0_ledgerFailure 3 (some .int))) := gdV wl_X0_95 wm_X0_ledgerFailure wx_X0_ledgerFailure wn_X0 wc_X0_ledgerFailure
theorem wl_L_42 : Cond.methodLink RL 42 yX0_number ∈ kT := kT_in (List.mem_of_getElem? (i := 188) (by decide +kernel)) rfl
theorem gc_L_42 : GoodIn kT (wsV RL 42 RX0 yX0_number (kW yX0_number cX0_number 3 (some .long))) := gdV wl_L_42 wm_X0_number wx_X0_number wn_X0 wc_X0_number
theorem wl_L_47 : Cond.methodLink RL 47 yX0_is ∈ kT := kT_in (List.mem_of_getElem? (i := 192) (by decide +kernel)) rfl
theorem gc_L_47 : GoodIn kT (wsV RL 47 RX0 yX0_is (kW yX0_is cX0_is 4 (some .int))) := gdV wl_L_47 wm_X0_is wx_X0_is wn_X0 wc_X0_is
theorem wl_L_51 : Cond.methodLink RL 51 yX0_door ∈ kT := kT_in (List.mem_of_getElem? (i := 196) (by decide +kernel)) rfl
theorem gc_L_51 : GoodIn kT (wsV RL 51 RX0 yX0_door (kW yX0_door cX0_door 4 (some .int))) := gdV wl_L_51 wm_X0_door wx_X0_door wn_X0 wc_X0_door
theorem wl_X0_101 : Cond.methodLink RX0 101 yX0_isDoor ∈ kT := kT_in (List.mem_of_getElem? (i := 200) (by decide +kernel)) rfl
theorem gc_X0_101 : GoodIn kT (va_wsS RX0 101 yX0_isDoor (kW yX0_isDoor cX0_isDoor 1 (some .boolean))) := gdS wl_X0_101 wt_X0_isDoor wn_X0 wc_X0_isDoor
theorem wl_L_55 : Cond.methodLink RL 55 yX0_through ∈ kT := kT_in (List.mem_of_getElem? (i := 203) (by decide +kernel)) rfl
theorem gc_L_55 : GoodIn kT (wsV RL 55 RX0 yX0_through (kW yX0_through cX0_through 4 (some .int))) := gdV wl_L_55 wm_X0_through wx_X0_through wn_X0 wc_X0_through
theorem wl_X0_104 : Cond.methodLink RX0 104 yX0_firstClosedDoor ∈ kT := kT_in (List.mem_of_getElem? (i := 207) (by decide +kernel)) rfl
theorem gc_X0_104 : GoodIn kT (wsV RX0 104 RX0 yX0_firstClosedDoor (kW yX0_firstClosedDoor cX0_firstClosedDoor 5 (some .int))) := gdV wl_X0_104 wm_X0_firstClosedDoor wx_X0_firstClosedDoor wn_X0 wc_X0_firstClosedDoor
theorem wl_L_59 : Cond.methodLink RL 59 yX0_lastDoor ∈ kT := kT_in (List.mem_of_getElem? (i := 211) (by decide +kernel)) rfl
theorem gc_L_59 : GoodIn kT (wsV RL 59 RX0 yX0_lastDoor (kW yX0_lastDoor cX0_lastDoor 1 (some .int))) := gdV wl_L_59 wm_X0_lastDoor wx_X0_lastDoor wn_X0 wc_X0_lastDoor
theorem wl_L_64 : Cond.methodLink RL 64 yX0_worth ∈ kT := kT_in (List.mem_of_getElem? (i := 215) (by decide +kernel)) rfl
theorem gc_L_64 : GoodIn kT (wsV RL 64 RX0 yX0_worth (kW yX0_worth cX0_worth 2 (some .long))) := gdV wl_L_64 wm_X0_worth wx_X0_worth wn_X0 wc_X0_worth
theorem wl_X0_107 : Cond.methodLink RX0 107 yX0_worthWithin ∈ kT := kT_in (List.mem_of_getElem? (i := 219) (by decide +kernel)) rfl
theorem gc_X0_107 : GoodIn kT (wsV RX0 107 RX0 yX0_worthWithin (kW yX0_worthWithin cX0_worthWithin 6 (some .long))) := gdV wl_X0_107 wm_X0_worthWithin wx_X0_worthWithin wn_X0 wc_X0_worthWithin
theorem wl_X0_154 : Cond.methodLink RX0 154 yX0_worthOfPiece ∈ kT := kT_in (List.mem_of_getElem? (i := 223) (by decide +kernel)) rfl
theorem gc_X0_154 : GoodIn kT (wsV RX0 154 RX0 yX0_worthOfPiece (kW yX0_worthOfPiece cX0_worthOfPiece 4 (some .long))) := gdV wl_X0_154 wm_X0_worthOfPiece wx_X0_worthOfPiece wn_X0 wc_X0_worthOfPiece
theorem wk_X0_158 : Cond.constantLong RX0 158 (2 : Int64) ∈ kT := kT_in (List.mem_of_getElem? (i := 227) (by decide +kernel)) rfl
theorem wk_X0_160 : Cond.constantLong RX0 160 (100 : Int64) ∈ kT := kT_in (List.mem_of_getElem? (i := 228) (by decide +kernel)) rfl
theorem wl_L_69 : Cond.methodLink RL 69 yX0_copy ∈ kT := kT_in (List.mem_of_getElem? (i := 229) (by decide +kernel)) rfl
theorem gc_L_69 : GoodIn kT (wsV RL 69 RX0 yX0_copy (kW yX0_copy cX0_copy 3 (some .int))) := gdV wl_L_69 wm_X0_copy wx_X0_copy wn_X0 wc_X0_copy
theorem wl_X0_114 : Cond.methodLink RX0 114 yX0_movePlaces ∈ kT := kT_in (List.mem_of_getElem? (i := 233) (by decide +kernel)) rfl
theorem gc_X0_114 : GoodIn kT (wsV RX0 114 RX0 yX0_movePlaces (kW yX0_movePlaces cX0_movePlaces 6 none)) := gdV wl_X0_114 wm_X0_movePlaces wx_X0_movePlaces wn_X0 wc_X0_movePlaces
theorem wl_L_74 : Cond.methodLink RL 74 yX0_carry ∈ kT := kT_in (List.mem_of_getElem? (i := 240) (by decide +kernel)) rfl
theorem gc_L_74 : GoodIn kT (wsV RL 74 RX0 yX0_carry (kW yX0_carry cX0_carry 7 (some .int))) := gdV wl_L_74 wm_X0_carry wx_X0_carry wn_X0 wc_X0_carry
theorem wl_X0_118 : Cond.methodLink RX0 118 yX0_areAlike ∈ kT := kT_in (List.mem_of_getElem? (i := 244) (by decide +kernel)) rfl
theorem gc_X0_118 : GoodIn kT (wsV RX0 118 RX0 yX0_areAlike (kW yX0_areAlike cX0_areAlike 3 (some .boolean))) := gdV wl_X0_118 wm_X0_areAlike wx_X0_areAlike wn_X0 wc_X0_areAlike
theorem wl_X0_121 : Cond.methodLink RX0 121 yX0_hasPlaces ∈ kT := kT_in (List.mem_of_getElem? (i := 248) (by decide +kernel)) rfl
theorem gc_X0_121 : GoodIn kT (wsV RX0 121 RX0 yX0_hasPlaces (kW yX0_hasPlaces cX0_hasPlaces 4 (some .boolean))) := gdV wl_X0_121 wm_X0_hasPlaces wx_X0_hasPlaces wn_X0 wc_X0_hasPlaces
theorem wl_X0_127 : Cond.methodLink RX0 127 yX0_countGoing ∈ kT := kT_in (List.mem_of_getElem? (i := 252) (by decide +kernel)) rfl
theorem gc_X0_127 : GoodIn kT (wsV RX0 127 RX0 yX0_countGoing (kW yX0_countGoing cX0_countGoing 6 (some .int))) := gdV wl_X0_127 wm_X0_countGoing wx_X0_countGoing wn_X0 wc_X0_countGoing
theorem wl_L_79 : Cond.methodLink RL 79 yX0_frail ∈ kT := kT_in (List.mem_of_getElem? (i := 256) (by decide +kernel)) rfl
theorem gc_L_79 : GoodIn kT (wsV RL 79 RX0 yX0_frail (kW yX0_frail cX0_frail 2 (some .int))) := gdV wl_L_79 wm_X0_frail wx_X0_frail wn_X0 wc_X0_frail
theorem wl_X0_134 : Cond.methodLink RX0 134 yX0_frailWithin ∈ kT := kT_in (List.mem_of_getElem? (i := 260) (by decide +kernel)) rfl
theorem gc_X0_134 : GoodIn kT (wsV RX0 134 RX0 yX0_frailWithin (kW yX0_frailWithin cX0_frailWithin 5 (some .int))) := gdV wl_X0_134 wm_X0_frailWithin wx_X0_frailWithin wn_X0 wc_X0_frailWithin
theorem wl_L_83 : Cond.methodLink RL 83 yX0_about ∈ kT := kT_in (List.mem_of_getElem? (i := 264) (by decide +kernel)) rfl
theorem gc_L_83 : GoodIn kT (wsV RL 83 RX0 yX0_about (kW yX0_about cX0_about 3 (some .int))) := gdV wl_L_83 wm_X0_about wx_X0_about wn_X0 wc_X0_about
theorem wl_L_87 : Cond.methodLink RL 87 yX0_bases ∈ kT := kT_in (List.mem_of_getElem? (i := 268) (by decide +kernel)) rfl
theorem gc_L_87 : GoodIn kT (wsV RL 87 RX0 yX0_bases (kW yX0_bases cX0_bases 2 (some .int))) := gdV wl_L_87 wm_X0_bases wx_X0_bases wn_X0 wc_X0_bases
theorem wl_L_91 : Cond.methodLink RL 91 yX0_count ∈ kT := kT_in (List.mem_of_getElem? (i := 272) (by decide +kernel)) rfl
theorem gc_L_91 : GoodIn kT (wsV RL 91 RX0 yX0_count (kW yX0_count cX0_count 2 (some .int))) := gdV wl_L_91 wm_X0_count wx_X0_count wn_X0 wc_X0_count
theorem wl_L_95 : Cond.methodLink RL 95 yX0_clear ∈ kT := kT_in (List.mem_of_getElem? (i := 276) (by decide +kernel)) rfl
theorem gc_L_95 : GoodIn kT (wsV RL 95 RX0 yX0_clear (kW yX0_clear cX0_clear 3 (some .int))) := gdV wl_L_95 wm_X0_clear wx_X0_clear wn_X0 wc_X0_clear
theorem wl_L_12 : Cond.methodLink RL 12 yX1_init ∈ kT := kT_in (List.mem_of_getElem? (i := 282) (by decide +kernel)) rfl
theorem wf_X1_57 : Cond.fieldLink RX1 57 "DepotTraysModel" "things" "I" ∈ kT := kT_in (List.mem_of_getElem? (i := 286) (by decide +kernel)) rfl
theorem wf_X1_7 : Cond.fieldLink RX1 7 "DepotTraysModel" "bases" "[I" ∈ kT := kT_in (List.mem_of_getElem? (i := 287) (by decide +kernel)) rfl
theorem wf_X1_13 : Cond.fieldLink RX1 13 "DepotTraysModel" "depths" "[I" ∈ kT := kT_in (List.mem_of_getElem? (i := 288) (by decide +kernel)) rfl
theorem wf_X1_16 : Cond.fieldLink RX1 16 "DepotTraysModel" "sizes" "[I" ∈ kT := kT_in (List.mem_of_getElem? (i := 289) (by decide +kernel)) rfl
theorem wf_X1_19 : Cond.fieldLink RX1 19 "DepotTraysModel" "worths" "[I" ∈ kT := kT_in (List.mem_of_getElem? (i := 290) (by decide +kernel)) rfl
theorem wf_X1_22 : Cond.fieldLink RX1 22 "DepotTraysModel" "lies" "[I" ∈ kT := kT_in (List.mem_of_getElem? (i := 291) (by decide +kernel)) rfl
theorem wf_X1_25 : Cond.fieldLink RX1 25 "DepotTraysModel" "numbers" "[J" ∈ kT := kT_in (List.mem_of_getElem? (i := 292) (by decide +kernel)) rfl
theorem wf_X1_29 : Cond.fieldLink RX1 29 "DepotTraysModel" "doorBase" "[I" ∈ kT := kT_in (List.mem_of_getElem? (i := 293) (by decide +kernel)) rfl
theorem wf_X1_32 : Cond.fieldLink RX1 32 "DepotTraysModel" "doorDepth" "[I" ∈ kT := kT_in (List.mem_of_getElem? (i := 294) (by decide +kernel)) rfl
theorem wf_X1_51 : Cond.fieldLink RX1 51 "DepotTraysModel" "failures" "I" ∈ kT := kT_in (List.mem_of_getElem? (i := 295) (by decide +kernel)) rfl
theorem wf_X1_54 : Cond.fieldLink RX1 54 "DepotTraysModel" "latest" "I" ∈ kT := kT_in (List.mem_of_getElem? (i := 296) (by decide +kernel)) rfl
theorem wf_X1_35 : Cond.fieldLink RX1 35 "DepotTraysModel" "last" "I" ∈ kT := kT_in (List.mem_of_getElem? (i := 297) (by decide +kernel)) rfl
theorem wf_X1_39 : Cond.fieldLink RX1 39 "DepotTraysModel" "sums" "[J" ∈ kT := kT_in (List.mem_of_getElem? (i := 298) (by decide +kernel)) rfl
theorem wf_X1_42 : Cond.fieldLink RX1 42 "DepotTraysModel" "counts" "[I" ∈ kT := kT_in (List.mem_of_getElem? (i := 299) (by decide +kernel)) rfl
theorem wf_X1_45 : Cond.fieldLink RX1 45 "DepotTraysModel" "moved" "[I" ∈ kT := kT_in (List.mem_of_getElem? (i := 300) (by decide +kernel)) rfl
theorem wf_X1_48 : Cond.fieldLink RX1 48 "DepotTraysModel" "movedNumbers" "[J" ∈ kT := kT_in (List.mem_of_getElem? (i := 301) (by decide +kernel)) rfl
theorem wl_L_17 : Cond.methodLink RL 17 yX1_piece ∈ kT := kT_in (List.mem_of_getElem? (i := 335) (by decide +kernel)) rfl
theorem gc_L_17 : GoodIn kT (wsV RL 17 RX1 yX1_piece (kW yX1_piece cX1_piece 3 (some .int))) := gdV wl_L_17 wm_X1_piece wx_X1_piece wn_X1 wc_X1_piece
theorem wl_X1_60 : Cond.methodLink RX1 60 yX1_isIn ∈ kT := kT_in (List.mem_of_getElem? (i := 339) (by decide +kernel)) rfl
theorem gc_X1_60 : GoodIn kT (va_wsS RX1 60 yX1_isIn (kW yX1_isIn cX1_isIn 3 (some .boolean))) := gdS wl_X1_60 wt_X1_isIn wn_X1 wc_X1_isIn
theorem wl_X1_68 : Cond.methodLink RX1 68 yX1_make ∈ kT := kT_in (List.mem_of_getElem? (i := 342) (by decide +kernel)) rfl
theorem gc_X1_68 : GoodIn kT (wsV RX1 68 RX1 yX1_make (kW yX1_make cX1_make 7 (some .int))) := gdV wl_X1_68 wm_X1_make wx_X1_make wn_X1 wc_X1_make
theorem wl_L_22 : Cond.methodLink RL 22 yX1_row ∈ kT := kT_in (List.mem_of_getElem? (i := 346) (by decide +kernel)) rfl
theorem gc_L_22 : GoodIn kT (wsV RL 22 RX1 yX1_row (kW yX1_row cX1_row 4 (some .int))) := gdV wl_L_22 wm_X1_row wx_X1_row wn_X1 wc_X1_row
theorem wl_X1_72 : Cond.methodLink RX1 72 yX1_isShape ∈ kT := kT_in (List.mem_of_getElem? (i := 350) (by decide +kernel)) rfl
theorem gc_X1_72 : GoodIn kT (va_wsS RX1 72 yX1_isShape (kW yX1_isShape cX1_isShape 2 (some .boolean))) := gdS wl_X1_72 wt_X1_isShape wn_X1 wc_X1_isShape
theorem wl_X1_75 : Cond.methodLink RX1 75 yX1_fails ∈ kT := kT_in (List.mem_of_getElem? (i := 353) (by decide +kernel)) rfl
theorem gc_X1_75 : GoodIn kT (wsV RX1 75 RX1 yX1_fails (kW yX1_fails cX1_fails 2 (some .int))) := gdV wl_X1_75 wm_X1_fails wx_X1_fails wn_X1 wc_X1_fails
theorem wl_L_26 : Cond.methodLink RL 26 yX1_grid ∈ kT := kT_in (List.mem_of_getElem? (i := 357) (by decide +kernel)) rfl
theorem gc_L_26 : GoodIn kT (wsV RL 26 RX1 yX1_grid (kW yX1_grid cX1_grid 6 (some .int))) := gdV wl_L_26 wm_X1_grid wx_X1_grid wn_X1 wc_X1_grid
theorem wl_L_30 : Cond.methodLink RL 30 yX1_put ∈ kT := kT_in (List.mem_of_getElem? (i := 361) (by decide +kernel)) rfl
theorem gc_L_30 : GoodIn kT (wsV RL 30 RX1 yX1_put (kW yX1_put cX1_put 5 (some .int))) := gdV wl_L_30 wm_X1_put wx_X1_put wn_X1 wc_X1_put
theorem wl_X1_79 : Cond.methodLink RX1 79 yX1_mayBe ∈ kT := kT_in (List.mem_of_getElem? (i := 365) (by decide +kernel)) rfl
theorem gc_X1_79 : GoodIn kT (wsV RX1 79 RX1 yX1_mayBe (kW yX1_mayBe cX1_mayBe 2 (some .boolean))) := gdV wl_X1_79 wm_X1_mayBe wx_X1_mayBe wn_X1 wc_X1_mayBe
theorem wl_X1_83 : Cond.methodLink RX1 83 yX1_isSuch ∈ kT := kT_in (List.mem_of_getElem? (i := 369) (by decide +kernel)) rfl
theorem gc_X1_83 : GoodIn kT (wsV RX1 83 RX1 yX1_isSuch (kW yX1_isSuch cX1_isSuch 4 (some .boolean))) := gdV wl_X1_83 wm_X1_isSuch wx_X1_isSuch wn_X1 wc_X1_isSuch
theorem wl_X1_64 : Cond.methodLink RX1 64 yX1_goesFor ∈ kT := kT_in (List.mem_of_getElem? (i := 373) (by decide +kernel)) rfl
theorem gc_X1_64 : GoodIn kT (va_wsS RX1 64 yX1_goesFor (kW yX1_goesFor cX1_goesFor 2 (some .boolean))) := gdS wl_X1_64 wt_X1_goesFor wn_X1 wc_X1_goesFor
theorem wl_X1_86 : Cond.methodLink RX1 86 yX1_isLedger ∈ kT := kT_in (List.mem_of_getElem? (i := 376) (by decide +kernel)) rfl
theorem gc_X1_86 : GoodIn kT (wsV RX1 86 RX1 yX1_isLedger (kW yX1_isLedger cX1_isLedger 2 (some .boolean))) := gdV wl_X1_86 wm_X1_isLedger wx_X1_isLedger wn_X1 wc_X1_isLedger
theorem wl_L_34 : Cond.methodLink RL 34 yX1_get ∈ kT := kT_in (List.mem_of_getElem? (i := 380) (by decide +kernel)) rfl
theorem gc_L_34 : GoodIn kT (wsV RL 34 RX1 yX1_get (kW yX1_get cX1_get 3 (some .int))) := gdV wl_L_34 wm_X1_get wx_X1_get wn_X1 wc_X1_get
theorem wl_L_41 : Cond.methodLink RL 41 yX1_set ∈ kT := kT_in (List.mem_of_getElem? (i := 384) (by decide +kernel)) rfl
theorem gc_L_41 : GoodIn kT (wsV RL 41 RX1 yX1_set (kW yX1_set cX1_set 6 (some .int))) := gdV wl_L_41 wm_X1_set wx_X1_set wn_X1 wc_X1_set
theorem wl_X1_89 : Cond.methodLink RX1 89 yX1_refused ∈ kT := kT_in (List.mem_of_getElem? (i := 388) (by decide +kernel)) rfl
theorem gc_X1_89 : GoodIn kT (wsV RX1 89 RX1 yX1_refused (kW yX1_refused cX1_refused 3 (some .int))) := gdV wl_X1_89 wm_X1_refused wx_X1_refused wn_X1 wc_X1_refused
theorem wl_L_46 : Cond.methodLink RL 46 yX1_number ∈ kT := kT_in (List.mem_of_getElem? (i := 392) (by decide +kernel)) rfl
theorem gc_L_46 : GoodIn kT (wsV RL 46 RX1 yX1_number (kW yX1_number cX1_number 3 (some .long))) := gdV wl_L_46 wm_X1_number wx_X1_number wn_X1 wc_X1_number
theorem wl_L_50 : Cond.methodLink RL 50 yX1_is ∈ kT := kT_in (List.mem_of_getElem? (i := 396) (by decide +kernel)) rfl
theorem gc_L_50 : GoodIn kT (wsV RL 50 RX1 yX1_is (kW yX1_is cX1_is 4 (some .int))) := gdV wl_L_50 wm_X1_is wx_X1_is wn_X1 wc_X1_is
theorem wl_X1_93 : Cond.methodLink RX1 93 yX1_isAsked ∈ kT := kT_in (List.mem_of_getElem? (i := 400) (by decide +kernel)) rfl
theorem gc_X1_93 : GoodIn kT (va_wsS RX1 93 yX1_isAsked (kW yX1_isAsked cX1_isAsked 2 (some .boolean))) := gdS wl_X1_93 wt_X1_isAsked wn_X1 wc_X1_isAsked
theorem wl_L_54 : Cond.methodLink RL 54 yX1_door ∈ kT := kT_in (List.mem_of_getElem? (i := 403) (by decide +kernel)) rfl
theorem gc_L_54 : GoodIn kT (wsV RL 54 RX1 yX1_door (kW yX1_door cX1_door 4 (some .int))) := gdV wl_L_54 wm_X1_door wx_X1_door wn_X1 wc_X1_door
theorem wl_L_58 : Cond.methodLink RL 58 yX1_through ∈ kT := kT_in (List.mem_of_getElem? (i := 407) (by decide +kernel)) rfl
theorem gc_L_58 : GoodIn kT (wsV RL 58 RX1 yX1_through (kW yX1_through cX1_through 5 (some .int))) := gdV wl_L_58 wm_X1_through wx_X1_through wn_X1 wc_X1_through
theorem wl_L_63 : Cond.methodLink RL 63 yX1_lastDoor ∈ kT := kT_in (List.mem_of_getElem? (i := 411) (by decide +kernel)) rfl
theorem gc_L_63 : GoodIn kT (wsV RL 63 RX1 yX1_lastDoor (kW yX1_lastDoor cX1_lastDoor 1 (some .int))) := gdV wl_L_63 wm_X1_lastDoor wx_X1_lastDoor wn_X1 wc_X1_lastDoor
theorem wl_L_68 : Cond.methodLink RL 68 yX1_worth ∈ kT := kT_in (List.mem_of_getElem? (i := 415) (by decide +kernel)) rfl
theorem gc_L_68 : GoodIn kT (wsV RL 68 RX1 yX1_worth (kW yX1_worth cX1_worth 2 (some .long))) := gdV wl_L_68 wm_X1_worth wx_X1_worth wn_X1 wc_X1_worth
theorem wl_X1_104 : Cond.methodLink RX1 104 yX1_isThing ∈ kT := kT_in (List.mem_of_getElem? (i := 419) (by decide +kernel)) rfl
theorem gc_X1_104 : GoodIn kT (wsV RX1 104 RX1 yX1_isThing (kW yX1_isThing cX1_isThing 2 (some .boolean))) := gdV wl_X1_104 wm_X1_isThing wx_X1_isThing wn_X1 wc_X1_isThing
theorem wl_X1_107 : Cond.methodLink RX1 107 yX1_addUp ∈ kT := kT_in (List.mem_of_getElem? (i := 423) (by decide +kernel)) rfl
theorem gc_X1_107 : GoodIn kT (wsV RX1 107 RX1 yX1_addUp (kW yX1_addUp cX1_addUp 3 none)) := gdV wl_X1_107 wm_X1_addUp wx_X1_addUp wn_X1 wc_X1_addUp
theorem wl_X1_96 : Cond.methodLink RX1 96 yX1_addOne ∈ kT := kT_in (List.mem_of_getElem? (i := 427) (by decide +kernel)) rfl
theorem gc_X1_96 : GoodIn kT (wsV RX1 96 RX1 yX1_addOne (kW yX1_addOne cX1_addOne 7 none)) := gdV wl_X1_96 wm_X1_addOne wx_X1_addOne wn_X1 wc_X1_addOne
theorem wk_X1_100 : Cond.constantLong RX1 100 (2 : Int64) ∈ kT := kT_in (List.mem_of_getElem? (i := 431) (by decide +kernel)) rfl
theorem wk_X1_102 : Cond.constantLong RX1 102 (100 : Int64) ∈ kT := kT_in (List.mem_of_getElem? (i := 432) (by decide +kernel)) rfl
theorem wl_L_82 : Cond.methodLink RL 82 yX1_frail ∈ kT := kT_in (List.mem_of_getElem? (i := 433) (by decide +kernel)) rfl
theorem gc_L_82 : GoodIn kT (wsV RL 82 RX1 yX1_frail (kW yX1_frail cX1_frail 2 (some .int))) := gdV wl_L_82 wm_X1_frail wx_X1_frail wn_X1 wc_X1_frail
theorem wl_L_73 : Cond.methodLink RL 73 yX1_copy ∈ kT := kT_in (List.mem_of_getElem? (i := 437) (by decide +kernel)) rfl
theorem gc_L_73 : GoodIn kT (wsV RL 73 RX1 yX1_copy (kW yX1_copy cX1_copy 4 (some .int))) := gdV wl_L_73 wm_X1_copy wx_X1_copy wn_X1 wc_X1_copy
theorem wl_L_78 : Cond.methodLink RL 78 yX1_carry ∈ kT := kT_in (List.mem_of_getElem? (i := 441) (by decide +kernel)) rfl
theorem gc_L_78 : GoodIn kT (wsV RL 78 RX1 yX1_carry (kW yX1_carry cX1_carry 7 (some .int))) := gdV wl_L_78 wm_X1_carry wx_X1_carry wn_X1 wc_X1_carry
theorem wl_X1_110 : Cond.methodLink RX1 110 yX1_isSpan ∈ kT := kT_in (List.mem_of_getElem? (i := 445) (by decide +kernel)) rfl
theorem gc_X1_110 : GoodIn kT (va_wsS RX1 110 yX1_isSpan (kW yX1_isSpan cX1_isSpan 3 (some .boolean))) := gdS wl_X1_110 wt_X1_isSpan wn_X1 wc_X1_isSpan
theorem wl_L_86 : Cond.methodLink RL 86 yX1_about ∈ kT := kT_in (List.mem_of_getElem? (i := 448) (by decide +kernel)) rfl
theorem gc_L_86 : GoodIn kT (wsV RL 86 RX1 yX1_about (kW yX1_about cX1_about 3 (some .int))) := gdV wl_L_86 wm_X1_about wx_X1_about wn_X1 wc_X1_about
theorem wl_L_90 : Cond.methodLink RL 90 yX1_bases ∈ kT := kT_in (List.mem_of_getElem? (i := 452) (by decide +kernel)) rfl
theorem gc_L_90 : GoodIn kT (wsV RL 90 RX1 yX1_bases (kW yX1_bases cX1_bases 4 (some .int))) := gdV wl_L_90 wm_X1_bases wx_X1_bases wn_X1 wc_X1_bases
theorem wl_L_94 : Cond.methodLink RL 94 yX1_count ∈ kT := kT_in (List.mem_of_getElem? (i := 456) (by decide +kernel)) rfl
theorem gc_L_94 : GoodIn kT (wsV RL 94 RX1 yX1_count (kW yX1_count cX1_count 2 (some .int))) := gdV wl_L_94 wm_X1_count wx_X1_count wn_X1 wc_X1_count
theorem wl_L_98 : Cond.methodLink RL 98 yX1_clear ∈ kT := kT_in (List.mem_of_getElem? (i := 460) (by decide +kernel)) rfl
theorem gc_L_98 : GoodIn kT (wsV RL 98 RX1 yX1_clear (kW yX1_clear cX1_clear 3 (some .int))) := gdV wl_L_98 wm_X1_clear wx_X1_clear wn_X1 wc_X1_clear
theorem wk_L_35 : Cond.constantLong RL 35 (4294967295 : Int64) ∈ kT := kT_in (List.mem_of_getElem? (i := 464) (by decide +kernel)) rfl
theorem wl_X0_1 : Cond.methodLink RX0 1 objectInit ∈ kT := kT_in (List.mem_of_getElem? (i := 43) (by decide +kernel)) rfl
theorem wl_X1_1 : Cond.methodLink RX1 1 objectInit ∈ kT := kT_in (List.mem_of_getElem? (i := 285) (by decide +kernel)) rfl
theorem wm_obj : Cond.instanceMethod objectInit ∈ kT := kT_in (List.mem_of_getElem? (i := 44) (by decide +kernel)) rfl
theorem wc_obj : Cond.code objectInit ⟨#[0xb1]⟩ 1 none ∈ kT := kT_in (List.mem_of_getElem? (i := 45) rfl) rfl
theorem wl_X0_64 : Cond.methodLink RX0 64 Lib.Math.max.name ∈ kT := kT_in (List.mem_of_getElem? (i := 124) (by decide +kernel)) rfl
theorem wt_max : Cond.static Lib.Math.max.name ∈ kT := kT_in (List.mem_of_getElem? (i := 125) (by decide +kernel)) rfl
theorem wn_math : Cond.initialized "java/lang/Math" ∈ kT := kT_in (List.mem_of_getElem? (i := 36) (by decide +kernel)) rfl
theorem wc_max : Cond.code Lib.Math.max.name Lib.Math.max.code 2 (some .int) ∈ kT := kT_in (List.mem_of_getElem? (i := 126) rfl) rfl
theorem wl_X0_148 : Cond.methodLink RX0 148 arraycopyName ∈ kT := kT_in (List.mem_of_getElem? (i := 237) (by decide +kernel)) rfl
theorem wt_copy : Cond.static arraycopyName ∈ kT := kT_in (List.mem_of_getElem? (i := 238) (by decide +kernel)) rfl
theorem wv_copy : Cond.native arraycopyName ∈ kT := kT_in (List.mem_of_getElem? (i := 239) (by decide +kernel)) rfl
theorem wn_sys : Cond.initialized "java/lang/System" ∈ kT := kT_in (List.mem_of_getElem? (i := 37) (by decide +kernel)) rfl
theorem wa_int : Cond.arrayClass .int ∈ kT := kT_in (List.mem_of_getElem? (i := 80) (by decide +kernel)) rfl
theorem wa_long : Cond.arrayClass .long ∈ kT := kT_in (List.mem_of_getElem? (i := 81) (by decide +kernel)) rfl
theorem wq_L_7 : Cond.classLink RL 7 RX0 ∈ kT := kT_in (List.mem_of_getElem? (i := 38) (by decide +kernel)) rfl
theorem wq_L_10 : Cond.classLink RL 10 RX1 ∈ kT := kT_in (List.mem_of_getElem? (i := 280) (by decide +kernel)) rfl
theorem wz_X0 : Cond.instantiable RX0 11 ∈ kT := kT_in (List.mem_of_getElem? (i := 39) (by decide +kernel)) rfl
theorem wz_X1 : Cond.instantiable RX1 16 ∈ kT := kT_in (List.mem_of_getElem? (i := 281) (by decide +kernel)) rfl
theorem wy_gf : Cond.laysStatic "DepotTrays" "GOES_FOR" "[I" ∈ lw_tbl := List.mem_of_getElem? (i := 151) (by decide +kernel)
end
section
/-! own words: rooms, places, 0 and 1 -/
def rk (k : Nat) : Room := { frames := k, cells := 0, slots := 0, locals := 64 * k }
theorem dd_same {A : Nat → Prop} : ∀ {ws ws' : va_W}, ws.map (fun q => q.1) = ws'.map (fun q => q.1) → va_D A ws → va_D A ws' := by
  intro ws ws' h hD
  have key : ∀ (k : Nat) (q : Nat × va_E), ws'[k]? = some q → ∃ q', ws[k]? = some q' ∧ q'.1 = q.1 := by
    intro k q hq
    have h1 : (ws'.map (fun q => q.1))[k]? = some q.1 := by rw [List.getElem?_map, hq]; rfl
    rw [← h, List.getElem?_map] at h1
    cases hw : ws[k]? with
    | none => rw [hw] at h1; cases h1
    | some q' => rw [hw] at h1; exact ⟨q', rfl, Option.some.inj h1⟩
  refine ⟨fun i j p q hp hq e => ?_, fun k q hq => ?_⟩
  · obtain ⟨p', h1, h2⟩ := key i p hp
    obtain ⟨q', h3, h4⟩ := key j q hq
    exact hD.1 i j p' q' h1 h3 (by rw [h2, h4]; exact e)
  · obtain ⟨q', h1, h2⟩ := key k q hq
    rw [← h2]
    exact hD.2 k q' h1
def bi (b : Bool) : Int32 := if b = true then 1 else 0
theorem bi_n (b : Bool) : narrow .boolean (.int (bi b)) = .int (bi b) := by cases b <;> rfl
def ni (t : FieldType) (r : Int32) : Prop := narrow t (.int r) = .int r
theorem ni_i (r : Int32) : ni .int r := rfl
theorem ni_0 : ni .boolean 0 := by unfold ni; decide +kernel
theorem ni_1 : ni .boolean 1 := by unfold ni; decide +kernel
theorem ni_b {r : Int32} (h : r = 0 ∨ r = 1) : ni .boolean r := by rcases h with rfl | rfl; exact ni_0; exact ni_1
abbrev kC : List vw_C := [(RX0, TX0, 11), (RX1, TX1, 16)]
def gfT : Nat → Int32 := fun j => match j with
  | 0 => 1
  | 1 => 19
  | 2 => 5
  | 3 => 29
  | 4 => 16
  | 5 => 32
  | _ => 64
def gfV (j : Nat) : Value := .int (gfT j)
def zX (g : Nat) (A : Nat → Prop) (U : State) (H : Heap) : Prop := va_Z "DepotTrays" "GOES_FOR" "[I" (.ref g) A U H ∧ va_T .int g 7 gfV A U H
def zM (_ : Nat) (_ : Nat → Prop) (_ : State) (_ : Heap) : Prop := True
theorem zX.moved {g : Nat} {A : Nat → Prop} {u U : State} {H : Heap} (hvm : u.vm.Alike U.vm) (h : zX g A u H) : zX g A U H := ⟨va_Z.moved hvm h.1, va_T.moved hvm h.2⟩
theorem zX.kept {g : Nat} {A : Nat → Prop} {U : State} {H H1 : Heap} (h : zX g A U H) (hq : ∀ a : Nat, a < H.size → ¬ A a → H1[a]? = H[a]?) : zX g A U H1 := ⟨h.1.kept hq, h.2.kept hq⟩
theorem zX.narrow {g : Nat} {A B : Nat → Prop} {U : State} {H : Heap} (h : zX g A U H) (hAB : ∀ q, B q → A q) : zX g B U H := ⟨h.1.narrow hAB, h.2.narrow hAB⟩
theorem zM.moved {g : Nat} {A : Nat → Prop} {u U : State} {H : Heap} (_ : u.vm.Alike U.vm) (_ : zM g A u H) : zM g A U H := trivial
theorem zM.kept {g : Nat} {A : Nat → Prop} {U : State} {H H1 : Heap} (_ : zM g A U H) (_ : ∀ a : Nat, a < H.size → ¬ A a → H1[a]? = H[a]?) : zM g A U H1 := trivial
theorem zM.narrow {g : Nat} {A B : Nat → Prop} {U : State} {H : Heap} (_ : zM g A U H) (_ : ∀ q, B q → A q) : zM g B U H := trivial
/-! static methods: no cells of their own -/
def Cs (l : Launch) (y : MethodName) (cc : ByteArray) (nL : Nat) (rt : FieldType) (k : Nat) (Z : State → Prop) (As : List Value) (r : Int32) : Prop := Met l y (kW y cc nL (some rt)) (rk k) (va_Pc As Z) (va_Qi (fun r' (_ : Unit) => r' = r) (fun _ _ => True) (fun _ => False)) 0 0 (fun _ => False)
def EnS (p : Program) (s : State) (m : MethodId) (c : Code) (args : Array Value) (cc : ByteArray) (nL : Nat) (meth : Method) (rt : FieldType) (own : String) : Prop :=
  CallFix p m c cc nL s args kT own ∧ meth.sig.returnType = some rt ∧ meth.locks = false
def SS (s : State) (H : Heap) (locs : List Loc) : Prop := va_S (fun _ => False) s.heap H locs
section StaticRows
variable {p : Program} {l : Launch} {e : Env} {R : Room} {s : State} {m : MethodId} {args : Array Value} {below : List Frame} {meth : Method} {c : Code} {H : Heap} {locs : List Loc} {cells slots : Nat} {Q : State → Prop}
variable {cc : ByteArray} {pc nL : Nat} {rt : FieldType} {ls : Array Slot} {own : String}
theorem Cs.of {y : MethodName} {k : Nat} {Z : State → Prop} {As : List Value} {r : Int32} (hy : plainName y.cls = true) (hlen : (lg_sl As).length ≤ nL)
    (body : ∀ (p : Program) (e : Env) (s : State) (m : MethodId) (below : List Frame) (meth : Method) (c : Code) (ls : Array Slot), EnS p s m c As.toArray cc nL meth rt y.cls → Z s → SS s s.heap [] → lv_has ls nL (lv_args 0 As) → W p l e (rk k) s m As.toArray below meth c s.heap [] 0 0 (MQ below (va_Qi (fun r' (_ : Unit) => r' = r) (fun _ _ => True) (fun _ => False)) As.toArray s 0 0 (fun _ => False)) (F0 m 0 ls [])) : Cs l y cc nL rt k Z As r := by
  refine Met.ofW (cc := cc) (maxL := nL) (ret := some rt) hy rfl ?_
  intro p e s m args below meth c s₁ B hml hv
  obtain ⟨rfl, hZ⟩ := hv
  have hts := atoms_spec (ws := kW y cc nL (some rt)) B.pre
  have hown := findClass_of_methodNamed B.named
  have hl := lv_entry As (n := nL) hlen
  rw [lg_entry_eq]
  generalize (lg_sl As ++ List.replicate (nL - (lg_sl As).length) Slot.unset).toArray = ls at hl ⊢
  exact body p e s m below meth c ls ⟨⟨B.exec, B.bytes, hml, hown, fun w h => hts w (List.mem_cons_of_mem _ h)⟩, B.returns, B.notSynchronized⟩ hZ va_S.rf hl
theorem EnS.iret {r r' : Int32} (E : EnS p s m c args cc nL meth rt own) (S : SS s H locs) (hn : ni rt r') (h : r' = r) (hdg : decode cc pc = .ok (.ireturn, 1)) : W p l e R s m args below meth c H locs 0 0 (MQ below (va_Qi (fun r' (_ : Unit) => r' = r) (fun _ _ => True) (fun _ => False)) args s 0 0 (fun _ => False)) (F0 m pc ls [.int r']) :=
  W.zret E.1.1 E.1.2.1 E.2.1 hn (fun t ht _ => ⟨⟨r', (), rfl, h, trivial⟩, S.F ht⟩) S.2.2 hdg E.2.2
theorem EnS.sti {y : MethodName} {cc' : ByteArray} {nL' j idx : Nat} {rt' : FieldType} {Z : State → Prop} {r : Int32} {st : List Value} (E : EnS p s m c args cc nL meth rt own) (S : SS s H locs) (As rest : List Value) (hM : Cs l y cc' nL' rt' j Z As r) (hZb : ∀ (a : Array Value) (U : State) (g : JFrame) (mk : MethodId), Z U → Z (U.calling g mk a)) (hZ : ∀ U : State, U.heap = H → s.vm.Alike U.vm → Z U) (hG : GoodIn kT (va_wsS own idx y (kW y cc' nL' (some rt'))))
    (hd : y.cls ≠ "java/lang/invoke/MethodHandle" ∧ y.cls ≠ "java/lang/invoke/VarHandle" ∧ (parseMethodDescriptor y.desc).map (fun d => d.parameters.length) = some As.length) (hR : (rk j).frames + 1 ≤ R.frames ∧ 8 + (nL' + 11) + (rk j).locals ≤ R.locals) (hst : st = As.reverse ++ rest) (hsize : ls.size = nL) (hroom : (rest.map fun v => v.category).sum ≤ 8) (hc : cells ≤ R.cells ∧ slots ≤ R.slots) (hdg : decode cc pc = .ok (.invokestatic idx, 3))
    (kk : ∀ (H1 : Heap) (locs1 : List Loc), SS s H1 locs1 → W p l e R s m args below meth c H1 locs1 cells slots Q (F0 m (pc + 3) ls (.int r :: rest))) : W p l e R s m args below meth c H locs cells slots Q (F0 m pc ls st) := by
  refine va_calli (va_runS (As := As) (rest := rest) E.1 hM (va_cwS As.length E.1.2.2.2.2 hG rfl rfl rfl hd hR) ⟨fun a U g mk q => ⟨q.1, hZb a U g mk q.2⟩, fun U hU hW => ⟨rfl, hZ U hU hW.alike⟩⟩ rfl rfl hsize hst (lv_room hroom) hdg hc) S (fun q _ h => h) (fun q h => h) (fun r1 v t H1 locs1 ht hvm hw hB hz1 hk1 hS1 => ?_)
  subst hw
  exact kk H1 locs1 hS1
end StaticRows
/-! ===== DepotTrays: state, world, rows ===== -/
abbrev XS : Type := (Nat → Int32) × (Nat → Int32) × (Nat → Int32) × (Nat → Int32) × (Nat → Int64) × (Nat → Int32) × (Nat → Int32) × Int32 × Int32 × Int32 × Int32
def x_thingBase (u : XS) : (Nat → Int32) := u.1
def x_thingDepth (u : XS) : (Nat → Int32) := u.2.1
def x_thingSize (u : XS) : (Nat → Int32) := u.2.2.1
def x_pieceWorth (u : XS) : (Nat → Int32) := u.2.2.2.1
def x_places (u : XS) : (Nat → Int64) := u.2.2.2.2.1
def x_doorBase (u : XS) : (Nat → Int32) := u.2.2.2.2.2.1
def x_doorDepth (u : XS) : (Nat → Int32) := u.2.2.2.2.2.2.1
def x_thingCount (u : XS) : Int32 := u.2.2.2.2.2.2.2.1
def x_failureCount (u : XS) : Int32 := u.2.2.2.2.2.2.2.2.1
def x_latestFailure (u : XS) : Int32 := u.2.2.2.2.2.2.2.2.2.1
def x_closedDoor (u : XS) : Int32 := u.2.2.2.2.2.2.2.2.2.2
def xs_thingBase (u : XS) (v : (Nat → Int32)) : XS := (v, u.2)
def xs_thingDepth (u : XS) (v : (Nat → Int32)) : XS := (u.1, v, u.2.2)
def xs_thingSize (u : XS) (v : (Nat → Int32)) : XS := (u.1, u.2.1, v, u.2.2.2)
def xs_pieceWorth (u : XS) (v : (Nat → Int32)) : XS := (u.1, u.2.1, u.2.2.1, v, u.2.2.2.2)
def xs_places (u : XS) (v : (Nat → Int64)) : XS := (u.1, u.2.1, u.2.2.1, u.2.2.2.1, v, u.2.2.2.2.2)
def xs_doorBase (u : XS) (v : (Nat → Int32)) : XS := (u.1, u.2.1, u.2.2.1, u.2.2.2.1, u.2.2.2.2.1, v, u.2.2.2.2.2.2)
def xs_doorDepth (u : XS) (v : (Nat → Int32)) : XS := (u.1, u.2.1, u.2.2.1, u.2.2.2.1, u.2.2.2.2.1, u.2.2.2.2.2.1, v, u.2.2.2.2.2.2.2)
def xs_thingCount (u : XS) (v : Int32) : XS := (u.1, u.2.1, u.2.2.1, u.2.2.2.1, u.2.2.2.2.1, u.2.2.2.2.2.1, u.2.2.2.2.2.2.1, v, u.2.2.2.2.2.2.2.2)
def xs_failureCount (u : XS) (v : Int32) : XS := (u.1, u.2.1, u.2.2.1, u.2.2.2.1, u.2.2.2.2.1, u.2.2.2.2.2.1, u.2.2.2.2.2.2.1, u.2.2.2.2.2.2.2.1, v, u.2.2.2.2.2.2.2.2.2)
def xs_latestFailure (u : XS) (v : Int32) : XS := (u.1, u.2.1, u.2.2.1, u.2.2.2.1, u.2.2.2.2.1, u.2.2.2.2.2.1, u.2.2.2.2.2.2.1, u.2.2.2.2.2.2.2.1, u.2.2.2.2.2.2.2.2.1, v, u.2.2.2.2.2.2.2.2.2.2)
def xs_closedDoor (u : XS) (v : Int32) : XS := (u.1, u.2.1, u.2.2.1, u.2.2.2.1, u.2.2.2.2.1, u.2.2.2.2.2.1, u.2.2.2.2.2.2.1, u.2.2.2.2.2.2.2.1, u.2.2.2.2.2.2.2.2.1, u.2.2.2.2.2.2.2.2.2.1, v)
theorem x_thingBase_thingBase (u : XS) (v : (Nat → Int32)) : x_thingBase (xs_thingBase u v) = v := rfl
theorem x_thingBase_thingDepth (u : XS) (v : (Nat → Int32)) : x_thingBase (xs_thingDepth u v) = x_thingBase u := rfl
theorem x_thingBase_thingSize (u : XS) (v : (Nat → Int32)) : x_thingBase (xs_thingSize u v) = x_thingBase u := rfl
theorem x_thingBase_pieceWorth (u : XS) (v : (Nat → Int32)) : x_thingBase (xs_pieceWorth u v) = x_thingBase u := rfl
theorem x_thingBase_places (u : XS) (v : (Nat → Int64)) : x_thingBase (xs_places u v) = x_thingBase u := rfl
theorem x_thingBase_doorBase (u : XS) (v : (Nat → Int32)) : x_thingBase (xs_doorBase u v) = x_thingBase u := rfl
theorem x_thingBase_doorDepth (u : XS) (v : (Nat → Int32)) : x_thingBase (xs_doorDepth u v) = x_thingBase u := rfl
theorem x_thingBase_thingCount (u : XS) (v : Int32) : x_thingBase (xs_thingCount u v) = x_thingBase u := rfl
theorem x_thingBase_failureCount (u : XS) (v : Int32) : x_thingBase (xs_failureCount u v) = x_thingBase u := rfl
theorem x_thingBase_latestFailure (u : XS) (v : Int32) : x_thingBase (xs_latestFailure u v) = x_thingBase u := rfl
theorem x_thingBase_closedDoor (u : XS) (v : Int32) : x_thingBase (xs_closedDoor u v) = x_thingBase u := rfl
theorem x_thingDepth_thingBase (u : XS) (v : (Nat → Int32)) : x_thingDepth (xs_thingBase u v) = x_thingDepth u := rfl
theorem x_thingDepth_thingDepth (u : XS) (v : (Nat → Int32)) : x_thingDepth (xs_thingDepth u v) = v := rfl
theorem x_thingDepth_thingSize (u : XS) (v : (Nat → Int32)) : x_thingDepth (xs_thingSize u v) = x_thingDepth u := rfl
theorem x_thingDepth_pieceWorth (u : XS) (v : (Nat → Int32)) : x_thingDepth (xs_pieceWorth u v) = x_thingDepth u := rfl
theorem x_thingDepth_places (u : XS) (v : (Nat → Int64)) : x_thingDepth (xs_places u v) = x_thingDepth u := rfl
theorem x_thingDepth_doorBase (u : XS) (v : (Nat → Int32)) : x_thingDepth (xs_doorBase u v) = x_thingDepth u := rfl
theorem x_thingDepth_doorDepth (u : XS) (v : (Nat → Int32)) : x_thingDepth (xs_doorDepth u v) = x_thingDepth u := rfl
theorem x_thingDepth_thingCount (u : XS) (v : Int32) : x_thingDepth (xs_thingCount u v) = x_thingDepth u := rfl
theorem x_thingDepth_failureCount (u : XS) (v : Int32) : x_thingDepth (xs_failureCount u v) = x_thingDepth u := rfl
theorem x_thingDepth_latestFailure (u : XS) (v : Int32) : x_thingDepth (xs_latestFailure u v) = x_thingDepth u := rfl
theorem x_thingDepth_closedDoor (u : XS) (v : Int32) : x_thingDepth (xs_closedDoor u v) = x_thingDepth u := rfl
theorem x_thingSize_thingBase (u : XS) (v : (Nat → Int32)) : x_thingSize (xs_thingBase u v) = x_thingSize u := rfl
theorem x_thingSize_thingDepth (u : XS) (v : (Nat → Int32)) : x_thingSize (xs_thingDepth u v) = x_thingSize u := rfl
theorem x_thingSize_thingSize (u : XS) (v : (Nat → Int32)) : x_thingSize (xs_thingSize u v) = v := rfl
theorem x_thingSize_pieceWorth (u : XS) (v : (Nat → Int32)) : x_thingSize (xs_pieceWorth u v) = x_thingSize u := rfl
theorem x_thingSize_places (u : XS) (v : (Nat → Int64)) : x_thingSize (xs_places u v) = x_thingSize u := rfl
theorem x_thingSize_doorBase (u : XS) (v : (Nat → Int32)) : x_thingSize (xs_doorBase u v) = x_thingSize u := rfl
theorem x_thingSize_doorDepth (u : XS) (v : (Nat → Int32)) : x_thingSize (xs_doorDepth u v) = x_thingSize u := rfl
theorem x_thingSize_thingCount (u : XS) (v : Int32) : x_thingSize (xs_thingCount u v) = x_thingSize u := rfl
theorem x_thingSize_failureCount (u : XS) (v : Int32) : x_thingSize (xs_failureCount u v) = x_thingSize u := rfl
theorem x_thingSize_latestFailure (u : XS) (v : Int32) : x_thingSize (xs_latestFailure u v) = x_thingSize u := rfl
theorem x_thingSize_closedDoor (u : XS) (v : Int32) : x_thingSize (xs_closedDoor u v) = x_thingSize u := rfl
theorem x_pieceWorth_thingBase (u : XS) (v : (Nat → Int32)) : x_pieceWorth (xs_thingBase u v) = x_pieceWorth u := rfl
theorem x_pieceWorth_thingDepth (u : XS) (v : (Nat → Int32)) : x_pieceWorth (xs_thingDepth u v) = x_pieceWorth u := rfl
theorem x_pieceWorth_thingSize (u : XS) (v : (Nat → Int32)) : x_pieceWorth (xs_thingSize u v) = x_pieceWorth u := rfl
theorem x_pieceWorth_pieceWorth (u : XS) (v : (Nat → Int32)) : x_pieceWorth (xs_pieceWorth u v) = v := rfl
theorem x_pieceWorth_places (u : XS) (v : (Nat → Int64)) : x_pieceWorth (xs_places u v) = x_pieceWorth u := rfl
theorem x_pieceWorth_doorBase (u : XS) (v : (Nat → Int32)) : x_pieceWorth (xs_doorBase u v) = x_pieceWorth u := rfl
theorem x_pieceWorth_doorDepth (u : XS) (v : (Nat → Int32)) : x_pieceWorth (xs_doorDepth u v) = x_pieceWorth u := rfl
theorem x_pieceWorth_thingCount (u : XS) (v : Int32) : x_pieceWorth (xs_thingCount u v) = x_pieceWorth u := rfl
theorem x_pieceWorth_failureCount (u : XS) (v : Int32) : x_pieceWorth (xs_failureCount u v) = x_pieceWorth u := rfl
theorem x_pieceWorth_latestFailure (u : XS) (v : Int32) : x_pieceWorth (xs_latestFailure u v) = x_pieceWorth u := rfl
theorem x_pieceWorth_closedDoor (u : XS) (v : Int32) : x_pieceWorth (xs_closedDoor u v) = x_pieceWorth u := rfl
theorem x_places_thingBase (u : XS) (v : (Nat → Int32)) : x_places (xs_thingBase u v) = x_places u := rfl
theorem x_places_thingDepth (u : XS) (v : (Nat → Int32)) : x_places (xs_thingDepth u v) = x_places u := rfl
theorem x_places_thingSize (u : XS) (v : (Nat → Int32)) : x_places (xs_thingSize u v) = x_places u := rfl
theorem x_places_pieceWorth (u : XS) (v : (Nat → Int32)) : x_places (xs_pieceWorth u v) = x_places u := rfl
theorem x_places_places (u : XS) (v : (Nat → Int64)) : x_places (xs_places u v) = v := rfl
theorem x_places_doorBase (u : XS) (v : (Nat → Int32)) : x_places (xs_doorBase u v) = x_places u := rfl
theorem x_places_doorDepth (u : XS) (v : (Nat → Int32)) : x_places (xs_doorDepth u v) = x_places u := rfl
theorem x_places_thingCount (u : XS) (v : Int32) : x_places (xs_thingCount u v) = x_places u := rfl
theorem x_places_failureCount (u : XS) (v : Int32) : x_places (xs_failureCount u v) = x_places u := rfl
theorem x_places_latestFailure (u : XS) (v : Int32) : x_places (xs_latestFailure u v) = x_places u := rfl
theorem x_places_closedDoor (u : XS) (v : Int32) : x_places (xs_closedDoor u v) = x_places u := rfl
theorem x_doorBase_thingBase (u : XS) (v : (Nat → Int32)) : x_doorBase (xs_thingBase u v) = x_doorBase u := rfl
theorem x_doorBase_thingDepth (u : XS) (v : (Nat → Int32)) : x_doorBase (xs_thingDepth u v) = x_doorBase u := rfl
theorem x_doorBase_thingSize (u : XS) (v : (Nat → Int32)) : x_doorBase (xs_thingSize u v) = x_doorBase u := rfl
theorem x_doorBase_pieceWorth (u : XS) (v : (Nat → Int32)) : x_doorBase (xs_pieceWorth u v) = x_doorBase u := rfl
theorem x_doorBase_places (u : XS) (v : (Nat → Int64)) : x_doorBase (xs_places u v) = x_doorBase u := rfl
theorem x_doorBase_doorBase (u : XS) (v : (Nat → Int32)) : x_doorBase (xs_doorBase u v) = v := rfl
theorem x_doorBase_doorDepth (u : XS) (v : (Nat → Int32)) : x_doorBase (xs_doorDepth u v) = x_doorBase u := rfl
theorem x_doorBase_thingCount (u : XS) (v : Int32) : x_doorBase (xs_thingCount u v) = x_doorBase u := rfl
theorem x_doorBase_failureCount (u : XS) (v : Int32) : x_doorBase (xs_failureCount u v) = x_doorBase u := rfl
theorem x_doorBase_latestFailure (u : XS) (v : Int32) : x_doorBase (xs_latestFailure u v) = x_doorBase u := rfl
theorem x_doorBase_closedDoor (u : XS) (v : Int32) : x_doorBase (xs_closedDoor u v) = x_doorBase u := rfl
theorem x_doorDepth_thingBase (u : XS) (v : (Nat → Int32)) : x_doorDepth (xs_thingBase u v) = x_doorDepth u := rfl
theorem x_doorDepth_thingDepth (u : XS) (v : (Nat → Int32)) : x_doorDepth (xs_thingDepth u v) = x_doorDepth u := rfl
theorem x_doorDepth_thingSize (u : XS) (v : (Nat → Int32)) : x_doorDepth (xs_thingSize u v) = x_doorDepth u := rfl
theorem x_doorDepth_pieceWorth (u : XS) (v : (Nat → Int32)) : x_doorDepth (xs_pieceWorth u v) = x_doorDepth u := rfl
theorem x_doorDepth_places (u : XS) (v : (Nat → Int64)) : x_doorDepth (xs_places u v) = x_doorDepth u := rfl
theorem x_doorDepth_doorBase (u : XS) (v : (Nat → Int32)) : x_doorDepth (xs_doorBase u v) = x_doorDepth u := rfl
theorem x_doorDepth_doorDepth (u : XS) (v : (Nat → Int32)) : x_doorDepth (xs_doorDepth u v) = v := rfl
theorem x_doorDepth_thingCount (u : XS) (v : Int32) : x_doorDepth (xs_thingCount u v) = x_doorDepth u := rfl
theorem x_doorDepth_failureCount (u : XS) (v : Int32) : x_doorDepth (xs_failureCount u v) = x_doorDepth u := rfl
theorem x_doorDepth_latestFailure (u : XS) (v : Int32) : x_doorDepth (xs_latestFailure u v) = x_doorDepth u := rfl
theorem x_doorDepth_closedDoor (u : XS) (v : Int32) : x_doorDepth (xs_closedDoor u v) = x_doorDepth u := rfl
theorem x_thingCount_thingBase (u : XS) (v : (Nat → Int32)) : x_thingCount (xs_thingBase u v) = x_thingCount u := rfl
theorem x_thingCount_thingDepth (u : XS) (v : (Nat → Int32)) : x_thingCount (xs_thingDepth u v) = x_thingCount u := rfl
theorem x_thingCount_thingSize (u : XS) (v : (Nat → Int32)) : x_thingCount (xs_thingSize u v) = x_thingCount u := rfl
theorem x_thingCount_pieceWorth (u : XS) (v : (Nat → Int32)) : x_thingCount (xs_pieceWorth u v) = x_thingCount u := rfl
theorem x_thingCount_places (u : XS) (v : (Nat → Int64)) : x_thingCount (xs_places u v) = x_thingCount u := rfl
theorem x_thingCount_doorBase (u : XS) (v : (Nat → Int32)) : x_thingCount (xs_doorBase u v) = x_thingCount u := rfl
theorem x_thingCount_doorDepth (u : XS) (v : (Nat → Int32)) : x_thingCount (xs_doorDepth u v) = x_thingCount u := rfl
theorem x_thingCount_thingCount (u : XS) (v : Int32) : x_thingCount (xs_thingCount u v) = v := rfl
theorem x_thingCount_failureCount (u : XS) (v : Int32) : x_thingCount (xs_failureCount u v) = x_thingCount u := rfl
theorem x_thingCount_latestFailure (u : XS) (v : Int32) : x_thingCount (xs_latestFailure u v) = x_thingCount u := rfl
theorem x_thingCount_closedDoor (u : XS) (v : Int32) : x_thingCount (xs_closedDoor u v) = x_thingCount u := rfl
theorem x_failureCount_thingBase (u : XS) (v : (Nat → Int32)) : x_failureCount (xs_thingBase u v) = x_failureCount u := rfl
theorem x_failureCount_thingDepth (u : XS) (v : (Nat → Int32)) : x_failureCount (xs_thingDepth u v) = x_failureCount u := rfl
theorem x_failureCount_thingSize (u : XS) (v : (Nat → Int32)) : x_failureCount (xs_thingSize u v) = x_failureCount u := rfl
theorem x_failureCount_pieceWorth (u : XS) (v : (Nat → Int32)) : x_failureCount (xs_pieceWorth u v) = x_failureCount u := rfl
theorem x_failureCount_places (u : XS) (v : (Nat → Int64)) : x_failureCount (xs_places u v) = x_failureCount u := rfl
theorem x_failureCount_doorBase (u : XS) (v : (Nat → Int32)) : x_failureCount (xs_doorBase u v) = x_failureCount u := rfl
theorem x_failureCount_doorDepth (u : XS) (v : (Nat → Int32)) : x_failureCount (xs_doorDepth u v) = x_failureCount u := rfl
theorem x_failureCount_thingCount (u : XS) (v : Int32) : x_failureCount (xs_thingCount u v) = x_failureCount u := rfl
theorem x_failureCount_failureCount (u : XS) (v : Int32) : x_failureCount (xs_failureCount u v) = v := rfl
theorem x_failureCount_latestFailure (u : XS) (v : Int32) : x_failureCount (xs_latestFailure u v) = x_failureCount u := rfl
theorem x_failureCount_closedDoor (u : XS) (v : Int32) : x_failureCount (xs_closedDoor u v) = x_failureCount u := rfl
theorem x_latestFailure_thingBase (u : XS) (v : (Nat → Int32)) : x_latestFailure (xs_thingBase u v) = x_latestFailure u := rfl
theorem x_latestFailure_thingDepth (u : XS) (v : (Nat → Int32)) : x_latestFailure (xs_thingDepth u v) = x_latestFailure u := rfl
theorem x_latestFailure_thingSize (u : XS) (v : (Nat → Int32)) : x_latestFailure (xs_thingSize u v) = x_latestFailure u := rfl
theorem x_latestFailure_pieceWorth (u : XS) (v : (Nat → Int32)) : x_latestFailure (xs_pieceWorth u v) = x_latestFailure u := rfl
theorem x_latestFailure_places (u : XS) (v : (Nat → Int64)) : x_latestFailure (xs_places u v) = x_latestFailure u := rfl
theorem x_latestFailure_doorBase (u : XS) (v : (Nat → Int32)) : x_latestFailure (xs_doorBase u v) = x_latestFailure u := rfl
theorem x_latestFailure_doorDepth (u : XS) (v : (Nat → Int32)) : x_latestFailure (xs_doorDepth u v) = x_latestFailure u := rfl
theorem x_latestFailure_thingCount (u : XS) (v : Int32) : x_latestFailure (xs_thingCount u v) = x_latestFailure u := rfl
theorem x_latestFailure_failureCount (u : XS) (v : Int32) : x_latestFailure (xs_failureCount u v) = x_latestFailure u := rfl
theorem x_latestFailure_latestFailure (u : XS) (v : Int32) : x_latestFailure (xs_latestFailure u v) = v := rfl
theorem x_latestFailure_closedDoor (u : XS) (v : Int32) : x_latestFailure (xs_closedDoor u v) = x_latestFailure u := rfl
theorem x_closedDoor_thingBase (u : XS) (v : (Nat → Int32)) : x_closedDoor (xs_thingBase u v) = x_closedDoor u := rfl
theorem x_closedDoor_thingDepth (u : XS) (v : (Nat → Int32)) : x_closedDoor (xs_thingDepth u v) = x_closedDoor u := rfl
theorem x_closedDoor_thingSize (u : XS) (v : (Nat → Int32)) : x_closedDoor (xs_thingSize u v) = x_closedDoor u := rfl
theorem x_closedDoor_pieceWorth (u : XS) (v : (Nat → Int32)) : x_closedDoor (xs_pieceWorth u v) = x_closedDoor u := rfl
theorem x_closedDoor_places (u : XS) (v : (Nat → Int64)) : x_closedDoor (xs_places u v) = x_closedDoor u := rfl
theorem x_closedDoor_doorBase (u : XS) (v : (Nat → Int32)) : x_closedDoor (xs_doorBase u v) = x_closedDoor u := rfl
theorem x_closedDoor_doorDepth (u : XS) (v : (Nat → Int32)) : x_closedDoor (xs_doorDepth u v) = x_closedDoor u := rfl
theorem x_closedDoor_thingCount (u : XS) (v : Int32) : x_closedDoor (xs_thingCount u v) = x_closedDoor u := rfl
theorem x_closedDoor_failureCount (u : XS) (v : Int32) : x_closedDoor (xs_failureCount u v) = x_closedDoor u := rfl
theorem x_closedDoor_latestFailure (u : XS) (v : Int32) : x_closedDoor (xs_latestFailure u v) = x_closedDoor u := rfl
theorem x_closedDoor_closedDoor (u : XS) (v : Int32) : x_closedDoor (xs_closedDoor u v) = v := rfl
def fX (ad : Nat → Nat) (u : XS) : List Value := [.ref (ad 1), .ref (ad 2), .ref (ad 3), .ref (ad 4), .ref (ad 5), .ref (ad 6), .ref (ad 7), .int (x_thingCount u), .int (x_failureCount u), .int (x_latestFailure u), .int (x_closedDoor u)]
def wX (ad : Nat → Nat) (ca : Nat → ClassId) (u : XS) : va_W := [(ad 0, .inr (0, fX ad u)), (ad 1, .inl (ca 1, 60, .inl (x_thingBase u))), (ad 2, .inl (ca 2, 60, .inl (x_thingDepth u))), (ad 3, .inl (ca 3, 60, .inl (x_thingSize u))), (ad 4, .inl (ca 4, 60, .inl (x_pieceWorth u))), (ad 5, .inl (ca 5, 480, .inr (.inl (x_places u)))), (ad 6, .inl (ca 6, 8, .inl (x_doorBase u))), (ad 7, .inl (ca 7, 8, .inl (x_doorDepth u)))]
def tX (ca : Nat → ClassId) : List (ClassId × FieldType) := [(ca 1, .int), (ca 2, .int), (ca 3, .int), (ca 4, .int), (ca 5, .long), (ca 6, .int), (ca 7, .int)]
theorem wX_same (ad : Nat → Nat) (ca : Nat → ClassId) (u v : XS) : (wX ad ca u).map (fun q => q.1) = (wX ad ca v).map (fun q => q.1) := rfl
def EnX (p : Program) (s : State) (m : MethodId) (c : Code) (args : Array Value) (cc : ByteArray) (nL : Nat) (meth : Method) (rt : Option FieldType) (D : va_G) (ca : Nat → ClassId) (g : Nat) (A : Nat → Prop) : Prop :=
  CallFix p m c cc nL s args kT RX0 ∧ meth.sig.returnType = rt ∧ meth.locks = false ∧ va_K D kC (tX ca) s ∧ zX g A s s.heap ∧ (∀ q : Nat, s.heap.size ≤ q → A q)
def SX (D : va_G) (ad : Nat → Nat) (ca : Nat → ClassId) (A : Nat → Prop) (s : State) (u : XS) (H : Heap) (locs : List Loc) : Prop := va_P D kC (wX ad ca u) H ∧ va_D A (wX ad ca u) ∧ va_S A s.heap H locs
def PreX (D : va_G) (ad : Nat → Nat) (ca : Nat → ClassId) (g sz : Nat) (u : XS) (U : State) : Prop := U.heap.size = sz ∧ va_P D kC (wX ad ca u) U.heap ∧ va_K D kC (tX ca) U ∧ va_D (fun _ => True) (wX ad ca u) ∧ zX g (va_A (wX ad ca u) sz) U U.heap
def BkX (D : va_G) (ad : Nat → Nat) (ca : Nat → ClassId) (v : XS) (t : State) : Prop := va_P D kC (wX ad ca v) t.heap
/-- contracts: an int (or 0, 1), a long, nothing -/
def CiX (l : Launch) (y : MethodName) (cc : ByteArray) (nL : Nat) (rt : FieldType) (k : Nat) (D : va_G) (ad : Nat → Nat) (ca : Nat → ClassId) (g : Nat) (As : List Value) (u : XS) (rv : Int32 × XS) : Prop :=
  ∀ sz : Nat, Met l y (kW y cc nL (some rt)) (rk k) (va_Pc (.ref (ad 0) :: As) (PreX D ad ca g sz u)) (va_Qi (fun r' v => (r', v) = rv) (BkX D ad ca) (va_A (wX ad ca u) sz)) 0 0 (va_A (wX ad ca u) sz)
def ClX (l : Launch) (y : MethodName) (cc : ByteArray) (nL : Nat) (k : Nat) (D : va_G) (ad : Nat → Nat) (ca : Nat → ClassId) (g : Nat) (As : List Value) (u : XS) (rv : Int64 × XS) : Prop :=
  ∀ sz : Nat, Met l y (kW y cc nL (some .long)) (rk k) (va_Pc (.ref (ad 0) :: As) (PreX D ad ca g sz u)) (va_Ql (fun r' v => (r', v) = rv) (BkX D ad ca) (va_A (wX ad ca u) sz)) 0 0 (va_A (wX ad ca u) sz)
def CvX (l : Launch) (y : MethodName) (cc : ByteArray) (nL : Nat) (k : Nat) (D : va_G) (ad : Nat → Nat) (ca : Nat → ClassId) (g : Nat) (As : List Value) (u u' : XS) : Prop :=
  ∀ sz : Nat, Met l y (kW y cc nL none) (rk k) (va_Pc (.ref (ad 0) :: As) (PreX D ad ca g sz u)) (va_Qv (fun v => v = u') (BkX D ad ca) (va_A (wX ad ca u) sz)) 0 0 (va_A (wX ad ca u) sz)
section RowsX
variable {p : Program} {l : Launch} {e : Env} {R : Room} {s : State} {m : MethodId} {args : Array Value} {below : List Frame} {meth : Method} {c : Code} {H : Heap} {locs : List Loc} {cells slots : Nat} {Q : State → Prop}
variable {cc : ByteArray} {pc nL : Nat} {rt : Option FieldType} {ls : Array Slot} {D : va_G} {ad : Nat → Nat} {ca : Nat → ClassId} {g : Nat} {A : Nat → Prop} {u : XS}
theorem zX_at (E : EnX p s m c args cc nL meth rt D ca g A) (S : SX D ad ca A s u H locs) {B : Nat → Prop} (hB : ∀ q, B q → A q) {U : State} (hU : U.heap = H) (hvm : s.vm.Alike U.vm) : zX g B U U.heap := by
  rw [hU]
  exact ((E.2.2.2.2.1.kept S.2.2.2.1).narrow hB).moved hvm
theorem frX (E : EnX p s m c args cc nL meth rt D ca g A) (S : SX D ad ca A s u H locs) : ∀ q, va_A (wX ad ca u) H.size q → A q :=
  va_free (wc := wX ad ca u) S.2.1 S.2.2 E.2.2.2.2.2 [0, 1, 2, 3, 4, 5, 6, 7] rfl
theorem CiX.of {y : MethodName} {k : Nat} {As : List Value} {rv : Int32 × XS} {rt1 : FieldType} (hy : plainName y.cls = true) (hyc : y.cls = RX0) (hlen : (lg_sl (.ref (ad 0) :: As)).length ≤ nL)
    (body : ∀ (p : Program) (e : Env) (s : State) (m : MethodId) (below : List Frame) (meth : Method) (c : Code) (A : Nat → Prop) (ls : Array Slot), EnX p s m c (Value.ref (ad 0) :: As).toArray cc nL meth (some rt1) D ca g A → SX D ad ca A s u s.heap [] → lv_has ls nL (lv_args 0 (.ref (ad 0) :: As)) → W p l e (rk k) s m (Value.ref (ad 0) :: As).toArray below meth c s.heap [] 0 0 (MQ below (va_Qi (fun r' v => (r', v) = rv) (BkX D ad ca) A) (Value.ref (ad 0) :: As).toArray s 0 0 A) (F0 m 0 ls [])) : CiX l y cc nL rt1 k D ad ca g As u rv := by
  intro sz
  refine Met.ofW (cc := cc) (maxL := nL) (ret := (some rt1)) hy rfl ?_
  intro p e s m args below meth c s₁ B hml hv
  obtain ⟨rfl, hsz, hP, hK, hD0, hZ⟩ := hv
  have hts := atoms_spec (ws := kW y cc nL (some rt1)) B.pre
  have hown := findClass_of_methodNamed B.named
  rw [hyc] at hown
  subst hsz
  have hl := lv_entry (.ref (ad 0) :: As) (n := nL) hlen
  rw [lg_entry_eq]
  generalize (lg_sl (.ref (ad 0) :: As) ++ List.replicate (nL - (lg_sl (.ref (ad 0) :: As)).length) Slot.unset).toArray = ls at hl ⊢
  exact body p e s m below meth c _ ls ⟨⟨B.exec, B.bytes, hml, hown, fun w h => hts w (List.mem_cons_of_mem _ h)⟩, B.returns, B.notSynchronized, hK, hZ, fun q h => Or.inr h⟩ ⟨hP, hD0.self, va_S.rf⟩ hl
theorem EnX.iret {rt1 : FieldType} {r : Int32} {v : XS} {rv : Int32 × XS} (E : EnX p s m c args cc nL meth (some rt1) D ca g A) (S : SX D ad ca A s v H locs) (hn : ni rt1 r) (h : (r, v) = rv) (hdg : decode cc pc = .ok (.ireturn, 1)) : W p l e R s m args below meth c H locs 0 0 (MQ below (va_Qi (fun r' v => (r', v) = rv) (BkX D ad ca) A) args s 0 0 A) (F0 m pc ls [.int r]) :=
  W.zret E.1.1 E.1.2.1 E.2.1 hn (fun t ht _ => ⟨⟨r, v, rfl, h, show va_P D kC (wX ad ca v) t.heap by rw [ht]; exact S.1⟩, S.2.2.F ht⟩) S.2.2.2.2 hdg E.2.2.1
theorem EnX.calli {y : MethodName} {cc2 : ByteArray} {nL2 j idx : Nat} {rt2 : FieldType} {r : Int32} {u2 : XS} {st : List Value} (E : EnX p s m c args cc nL meth rt D ca g A) (S : SX D ad ca A s u H locs) (As rest : List Value) (hM : CiX l y cc2 nL2 rt2 j D ad ca g As u (r, u2)) (hG : GoodIn kT (wsV RX0 idx RX0 y (kW y cc2 nL2 (some rt2))))
    (hd : y.cls = RX0 ∧ y.cls ≠ "java/lang/invoke/MethodHandle" ∧ y.cls ≠ "java/lang/invoke/VarHandle" ∧ (parseMethodDescriptor y.desc).map (fun d => d.parameters.length) = some As.length) (hR : (rk j).frames + 1 ≤ R.frames ∧ 8 + (nL2 + 11) + (rk j).locals ≤ R.locals) (hst : st = As.reverse ++ .ref (ad 0) :: rest) (hsize : ls.size = nL) (hroom : (rest.map fun v => v.category).sum ≤ 8) (hc : cells ≤ R.cells ∧ slots ≤ R.slots) (hdg : decode cc pc = .ok (.invokevirtual idx, 3))
    (kk : ∀ (H1 : Heap) (locs1 : List Loc), SX D ad ca A s u2 H1 locs1 → W p l e R s m args below meth c H1 locs1 cells slots Q (F0 m (pc + 3) ls (.int r :: rest))) : W p l e R s m args below meth c H locs cells slots Q (F0 m pc ls st) := by
  have hF := frX E S
  refine va_calli (va_runV (As := As) (rest := rest) E.1 (hM H.size) (cwV As.length E.1.2.2.2.2 hG rfl rfl rfl hd hR) ⟨fun a U g mk q => ?_, va_recv E.2.2.2.1 S.1 (ci := 0) (q0 := 0) rfl rfl, fun U hU hW => ⟨rfl, by rw [hU], by rw [hU]; exact S.1, va_K.moved hW.alike E.2.2.2.1, S.2.1.weaken (fun _ _ _ _ => trivial), zX_at E S hF hU hW.alike⟩⟩ rfl rfl hsize hst (lv_room hroom) hdg hc) S.2.2 (fun q _ h => hF q h) hF (fun r1 v t H1 locs1 ht hvm hw hB hz1 hk1 hS1 => ?_)
  · obtain ⟨q0, q1, qP, qK, qD, qZ⟩ := q
    exact ⟨q0, q1, qP, va_K.moved (u := U) (U := U.calling g mk a) (Vm.Alike.refl U.vm) qK, qD, zX.moved (u := U) (U := U.calling g mk a) (Vm.Alike.refl U.vm) qZ⟩
  · obtain ⟨rfl, rfl⟩ := Prod.mk.inj hw
    refine kk H1 locs1 ⟨?_, dd_same (wX_same ad ca u _) S.2.1, hS1⟩
    rw [← ht]
    exact hB
theorem ClX.of {y : MethodName} {k : Nat} {As : List Value} {rv : Int64 × XS} (hy : plainName y.cls = true) (hyc : y.cls = RX0) (hlen : (lg_sl (.ref (ad 0) :: As)).length ≤ nL)
    (body : ∀ (p : Program) (e : Env) (s : State) (m : MethodId) (below : List Frame) (meth : Method) (c : Code) (A : Nat → Prop) (ls : Array Slot), EnX p s m c (Value.ref (ad 0) :: As).toArray cc nL meth (some .long) D ca g A → SX D ad ca A s u s.heap [] → lv_has ls nL (lv_args 0 (.ref (ad 0) :: As)) → W p l e (rk k) s m (Value.ref (ad 0) :: As).toArray below meth c s.heap [] 0 0 (MQ below (va_Ql (fun r' v => (r', v) = rv) (BkX D ad ca) A) (Value.ref (ad 0) :: As).toArray s 0 0 A) (F0 m 0 ls [])) : ClX l y cc nL k D ad ca g As u rv := by
  intro sz
  refine Met.ofW (cc := cc) (maxL := nL) (ret := (some .long)) hy rfl ?_
  intro p e s m args below meth c s₁ B hml hv
  obtain ⟨rfl, hsz, hP, hK, hD0, hZ⟩ := hv
  have hts := atoms_spec (ws := kW y cc nL (some .long)) B.pre
  have hown := findClass_of_methodNamed B.named
  rw [hyc] at hown
  subst hsz
  have hl := lv_entry (.ref (ad 0) :: As) (n := nL) hlen
  rw [lg_entry_eq]
  generalize (lg_sl (.ref (ad 0) :: As) ++ List.replicate (nL - (lg_sl (.ref (ad 0) :: As)).length) Slot.unset).toArray = ls at hl ⊢
  exact body p e s m below meth c _ ls ⟨⟨B.exec, B.bytes, hml, hown, fun w h => hts w (List.mem_cons_of_mem _ h)⟩, B.returns, B.notSynchronized, hK, hZ, fun q h => Or.inr h⟩ ⟨hP, hD0.self, va_S.rf⟩ hl
theorem EnX.lret {r : Int64} {v : XS} {rv : Int64 × XS} (E : EnX p s m c args cc nL meth (some .long) D ca g A) (S : SX D ad ca A s v H locs) (h : (r, v) = rv) (hdg : decode cc pc = .ok (.lreturn, 1)) : W p l e R s m args below meth c H locs 0 0 (MQ below (va_Ql (fun r' v => (r', v) = rv) (BkX D ad ca) A) args s 0 0 A) (F0 m pc ls [.long r]) :=
  W.lret E.1.1 E.1.2.1 E.2.1 (fun t ht _ => ⟨⟨r, v, rfl, h, show va_P D kC (wX ad ca v) t.heap by rw [ht]; exact S.1⟩, S.2.2.F ht⟩) S.2.2.2.2 hdg E.2.2.1
theorem EnX.calll {y : MethodName} {cc2 : ByteArray} {nL2 j idx : Nat} {r : Int64} {u2 : XS} {st : List Value} (E : EnX p s m c args cc nL meth rt D ca g A) (S : SX D ad ca A s u H locs) (As rest : List Value) (hM : ClX l y cc2 nL2 j D ad ca g As u (r, u2)) (hG : GoodIn kT (wsV RX0 idx RX0 y (kW y cc2 nL2 (some .long))))
    (hd : y.cls = RX0 ∧ y.cls ≠ "java/lang/invoke/MethodHandle" ∧ y.cls ≠ "java/lang/invoke/VarHandle" ∧ (parseMethodDescriptor y.desc).map (fun d => d.parameters.length) = some As.length) (hR : (rk j).frames + 1 ≤ R.frames ∧ 8 + (nL2 + 11) + (rk j).locals ≤ R.locals) (hst : st = As.reverse ++ .ref (ad 0) :: rest) (hsize : ls.size = nL) (hroom : (rest.map fun v => v.category).sum ≤ 8) (hc : cells ≤ R.cells ∧ slots ≤ R.slots) (hdg : decode cc pc = .ok (.invokevirtual idx, 3))
    (kk : ∀ (H1 : Heap) (locs1 : List Loc), SX D ad ca A s u2 H1 locs1 → W p l e R s m args below meth c H1 locs1 cells slots Q (F0 m (pc + 3) ls (.long r :: rest))) : W p l e R s m args below meth c H locs cells slots Q (F0 m pc ls st) := by
  have hF := frX E S
  refine va_calll (va_runV (As := As) (rest := rest) E.1 (hM H.size) (cwV As.length E.1.2.2.2.2 hG rfl rfl rfl hd hR) ⟨fun a U g mk q => ?_, va_recv E.2.2.2.1 S.1 (ci := 0) (q0 := 0) rfl rfl, fun U hU hW => ⟨rfl, by rw [hU], by rw [hU]; exact S.1, va_K.moved hW.alike E.2.2.2.1, S.2.1.weaken (fun _ _ _ _ => trivial), zX_at E S hF hU hW.alike⟩⟩ rfl rfl hsize hst (lv_room hroom) hdg hc) S.2.2 (fun q _ h => hF q h) hF (fun r1 v t H1 locs1 ht hvm hw hB hz1 hk1 hS1 => ?_)
  · obtain ⟨q0, q1, qP, qK, qD, qZ⟩ := q
    exact ⟨q0, q1, qP, va_K.moved (u := U) (U := U.calling g mk a) (Vm.Alike.refl U.vm) qK, qD, zX.moved (u := U) (U := U.calling g mk a) (Vm.Alike.refl U.vm) qZ⟩
  · obtain ⟨rfl, rfl⟩ := Prod.mk.inj hw
    refine kk H1 locs1 ⟨?_, dd_same (wX_same ad ca u _) S.2.1, hS1⟩
    rw [← ht]
    exact hB
theorem CvX.of {y : MethodName} {k : Nat} {As : List Value} {u2 : XS} (hy : plainName y.cls = true) (hyc : y.cls = RX0) (hlen : (lg_sl (.ref (ad 0) :: As)).length ≤ nL)
    (body : ∀ (p : Program) (e : Env) (s : State) (m : MethodId) (below : List Frame) (meth : Method) (c : Code) (A : Nat → Prop) (ls : Array Slot), EnX p s m c (Value.ref (ad 0) :: As).toArray cc nL meth none D ca g A → SX D ad ca A s u s.heap [] → lv_has ls nL (lv_args 0 (.ref (ad 0) :: As)) → W p l e (rk k) s m (Value.ref (ad 0) :: As).toArray below meth c s.heap [] 0 0 (MQ below (va_Qv (fun v => v = u2) (BkX D ad ca) A) (Value.ref (ad 0) :: As).toArray s 0 0 A) (F0 m 0 ls [])) : CvX l y cc nL k D ad ca g As u u2 := by
  intro sz
  refine Met.ofW (cc := cc) (maxL := nL) (ret := none) hy rfl ?_
  intro p e s m args below meth c s₁ B hml hv
  obtain ⟨rfl, hsz, hP, hK, hD0, hZ⟩ := hv
  have hts := atoms_spec (ws := kW y cc nL none) B.pre
  have hown := findClass_of_methodNamed B.named
  rw [hyc] at hown
  subst hsz
  have hl := lv_entry (.ref (ad 0) :: As) (n := nL) hlen
  rw [lg_entry_eq]
  generalize (lg_sl (.ref (ad 0) :: As) ++ List.replicate (nL - (lg_sl (.ref (ad 0) :: As)).length) Slot.unset).toArray = ls at hl ⊢
  exact body p e s m below meth c _ ls ⟨⟨B.exec, B.bytes, hml, hown, fun w h => hts w (List.mem_cons_of_mem _ h)⟩, B.returns, B.notSynchronized, hK, hZ, fun q h => Or.inr h⟩ ⟨hP, hD0.self, va_S.rf⟩ hl
theorem EnX.vret {v u2 : XS} (E : EnX p s m c args cc nL meth none D ca g A) (S : SX D ad ca A s v H locs) (h : v = u2) (hdg : decode cc pc = .ok (.return_, 1)) : W p l e R s m args below meth c H locs 0 0 (MQ below (va_Qv (fun v => v = u2) (BkX D ad ca) A) args s 0 0 A) (F0 m pc ls []) :=
  W.vret E.1.1 E.1.2.1 E.2.1 (fun t ht _ => ⟨⟨v, rfl, h, show va_P D kC (wX ad ca v) t.heap by rw [ht]; exact S.1⟩, S.2.2.F ht⟩) S.2.2.2.2 hdg E.2.2.1
theorem EnX.callv {y : MethodName} {cc2 : ByteArray} {nL2 j idx : Nat} {u2 : XS} {st : List Value} (E : EnX p s m c args cc nL meth rt D ca g A) (S : SX D ad ca A s u H locs) (As rest : List Value) (hM : CvX l y cc2 nL2 j D ad ca g As u u2) (hG : GoodIn kT (wsV RX0 idx RX0 y (kW y cc2 nL2 none)))
    (hd : y.cls = RX0 ∧ y.cls ≠ "java/lang/invoke/MethodHandle" ∧ y.cls ≠ "java/lang/invoke/VarHandle" ∧ (parseMethodDescriptor y.desc).map (fun d => d.parameters.length) = some As.length) (hR : (rk j).frames + 1 ≤ R.frames ∧ 8 + (nL2 + 11) + (rk j).locals ≤ R.locals) (hst : st = As.reverse ++ .ref (ad 0) :: rest) (hsize : ls.size = nL) (hroom : (rest.map fun v => v.category).sum ≤ 8) (hc : cells ≤ R.cells ∧ slots ≤ R.slots) (hdg : decode cc pc = .ok (.invokevirtual idx, 3))
    (kk : ∀ (H1 : Heap) (locs1 : List Loc), SX D ad ca A s u2 H1 locs1 → W p l e R s m args below meth c H1 locs1 cells slots Q (F0 m (pc + 3) ls (rest))) : W p l e R s m args below meth c H locs cells slots Q (F0 m pc ls st) := by
  have hF := frX E S
  refine va_callv (va_runV (As := As) (rest := rest) E.1 (hM H.size) (cwV As.length E.1.2.2.2.2 hG rfl rfl rfl hd hR) ⟨fun a U g mk q => ?_, va_recv E.2.2.2.1 S.1 (ci := 0) (q0 := 0) rfl rfl, fun U hU hW => ⟨rfl, by rw [hU], by rw [hU]; exact S.1, va_K.moved hW.alike E.2.2.2.1, S.2.1.weaken (fun _ _ _ _ => trivial), zX_at E S hF hU hW.alike⟩⟩ rfl rfl hsize hst (lv_room hroom) hdg hc) S.2.2 (fun q _ h => hF q h) hF (fun v t H1 locs1 ht hvm hw hB hz1 hk1 hS1 => ?_)
  · obtain ⟨q0, q1, qP, qK, qD, qZ⟩ := q
    exact ⟨q0, q1, qP, va_K.moved (u := U) (U := U.calling g mk a) (Vm.Alike.refl U.vm) qK, qD, zX.moved (u := U) (U := U.calling g mk a) (Vm.Alike.refl U.vm) qZ⟩
  · subst hw
    refine kk H1 locs1 ⟨?_, dd_same (wX_same ad ca u _) S.2.1, hS1⟩
    rw [← ht]
    exact hB
theorem EnX.sti {y : MethodName} {cc2 : ByteArray} {nL2 j idx : Nat} {rt2 : FieldType} {Z : State → Prop} {r : Int32} {st : List Value} (E : EnX p s m c args cc nL meth rt D ca g A) (S : SX D ad ca A s u H locs) (As rest : List Value) (hM : Cs l y cc2 nL2 rt2 j Z As r) (hZb : ∀ (a : Array Value) (U : State) (g : JFrame) (mk : MethodId), Z U → Z (U.calling g mk a)) (hZ : ∀ U : State, U.heap = H → s.vm.Alike U.vm → Z U) (hG : GoodIn kT (va_wsS RX0 idx y (kW y cc2 nL2 (some rt2))))
    (hd : y.cls ≠ "java/lang/invoke/MethodHandle" ∧ y.cls ≠ "java/lang/invoke/VarHandle" ∧ (parseMethodDescriptor y.desc).map (fun d => d.parameters.length) = some As.length) (hR : (rk j).frames + 1 ≤ R.frames ∧ 8 + (nL2 + 11) + (rk j).locals ≤ R.locals) (hst : st = As.reverse ++ rest) (hsize : ls.size = nL) (hroom : (rest.map fun v => v.category).sum ≤ 8) (hc : cells ≤ R.cells ∧ slots ≤ R.slots) (hdg : decode cc pc = .ok (.invokestatic idx, 3))
    (kk : ∀ (H1 : Heap) (locs1 : List Loc), SX D ad ca A s u H1 locs1 → W p l e R s m args below meth c H1 locs1 cells slots Q (F0 m (pc + 3) ls (.int r :: rest))) : W p l e R s m args below meth c H locs cells slots Q (F0 m pc ls st) := by
  refine va_calli (A0 := A) (va_runS (As := As) (rest := rest) E.1 hM (va_cwS As.length E.1.2.2.2.2 hG rfl rfl rfl hd hR) ⟨fun a U g mk q => ⟨q.1, hZb a U g mk q.2⟩, fun U hU hW => ⟨rfl, hZ U hU hW.alike⟩⟩ rfl rfl hsize hst (lv_room hroom) hdg hc) S.2.2 (fun q _ h => h.elim) (fun q h => h.elim) (fun r1 v t H1 locs1 ht hvm hw hB hz1 hk1 hS1 => ?_)
  subst hw
  exact kk H1 locs1 ⟨S.1.kept (fun k q hq => hk1 q.1 ((S.1 k q hq).lt) (fun h => h)), S.2.1, hS1⟩
theorem gX_thingBase {rest : List Value} (E : EnX p s m c args cc nL meth rt D ca g A) (S : SX D ad ca A s u H locs) (hdg : decode cc pc = .ok (.getfield 9, 3)) (kk : W p l e R s m args below meth c H locs cells slots Q (F0 m (pc + 3) ls (.ref (ad 1) :: rest))) : W p l e R s m args below meth c H locs cells slots Q (F0 m pc ls (.ref (ad 0) :: rest)) := by
  exact va_get (D := D) (ci := 0) (v := .ref (ad 1)) (C := RX0) (T := TX0) (N := 11) E.1.1 E.1.2.1 E.1.2.2.2.2 wI_X0 E.1.2.2.2.1 E.2.2.2.1 S.1 0 rfl rfl 0 (by decide) (E.1.2.2.2.2 _ wf_X0_9) (fun _ h9 => h9) rfl hdg kk
theorem lX_thingBase {i : Int32} {v : Int32} {rest : List Value} (E : EnX p s m c args cc nL meth rt D ca g A) (S : SX D ad ca A s u H locs) (hin : vp_in i 60) (hv : x_thingBase u i.toNatClampNeg = v) (hdg : decode cc pc = .ok (.iaload, 1)) (kk : W p l e R s m args below meth c H locs cells slots Q (F0 m (pc + 1) ls (.int v :: rest))) : W p l e R s m args below meth c H locs cells slots Q (F0 m pc ls (.int i :: .ref (ad 1) :: rest)) := by
  subst hv
  exact va_iald E.1.1 E.1.2.1 E.2.2.2.1 S.1 1 0 rfl rfl hin hdg kk
theorem sX_thingBase {i : Int32} {v : Int32} {rest : List Value} (E : EnX p s m c args cc nL meth rt D ca g A) (S : SX D ad ca A s u H locs) (hin : vp_in i 60) (hdg : decode cc pc = .ok (.iastore, 1)) (kk : ∀ (H1 : Heap) (locs1 : List Loc), SX D ad ca A s (xs_thingBase u (upd (x_thingBase u) i.toNatClampNeg v)) H1 locs1 → W p l e R s m args below meth c H1 locs1 cells slots Q (F0 m (pc + 1) ls rest)) : W p l e R s m args below meth c H locs cells slots Q (F0 m pc ls (.int v :: .int i :: .ref (ad 1) :: rest)) :=
  va_iast E.1.1 E.1.2.1 E.2.2.2.1 S.1 S.2.1 S.2.2 1 0 rfl rfl hin hdg (fun H1 locs1 hP hD hS => kk H1 locs1 ⟨hP, hD, hS⟩)
theorem gX_thingDepth {rest : List Value} (E : EnX p s m c args cc nL meth rt D ca g A) (S : SX D ad ca A s u H locs) (hdg : decode cc pc = .ok (.getfield 13, 3)) (kk : W p l e R s m args below meth c H locs cells slots Q (F0 m (pc + 3) ls (.ref (ad 2) :: rest))) : W p l e R s m args below meth c H locs cells slots Q (F0 m pc ls (.ref (ad 0) :: rest)) := by
  exact va_get (D := D) (ci := 0) (v := .ref (ad 2)) (C := RX0) (T := TX0) (N := 11) E.1.1 E.1.2.1 E.1.2.2.2.2 wI_X0 E.1.2.2.2.1 E.2.2.2.1 S.1 0 rfl rfl 1 (by decide) (E.1.2.2.2.2 _ wf_X0_13) (fun _ h9 => h9) rfl hdg kk
theorem lX_thingDepth {i : Int32} {v : Int32} {rest : List Value} (E : EnX p s m c args cc nL meth rt D ca g A) (S : SX D ad ca A s u H locs) (hin : vp_in i 60) (hv : x_thingDepth u i.toNatClampNeg = v) (hdg : decode cc pc = .ok (.iaload, 1)) (kk : W p l e R s m args below meth c H locs cells slots Q (F0 m (pc + 1) ls (.int v :: rest))) : W p l e R s m args below meth c H locs cells slots Q (F0 m pc ls (.int i :: .ref (ad 2) :: rest)) := by
  subst hv
  exact va_iald E.1.1 E.1.2.1 E.2.2.2.1 S.1 2 1 rfl rfl hin hdg kk
theorem sX_thingDepth {i : Int32} {v : Int32} {rest : List Value} (E : EnX p s m c args cc nL meth rt D ca g A) (S : SX D ad ca A s u H locs) (hin : vp_in i 60) (hdg : decode cc pc = .ok (.iastore, 1)) (kk : ∀ (H1 : Heap) (locs1 : List Loc), SX D ad ca A s (xs_thingDepth u (upd (x_thingDepth u) i.toNatClampNeg v)) H1 locs1 → W p l e R s m args below meth c H1 locs1 cells slots Q (F0 m (pc + 1) ls rest)) : W p l e R s m args below meth c H locs cells slots Q (F0 m pc ls (.int v :: .int i :: .ref (ad 2) :: rest)) :=
  va_iast E.1.1 E.1.2.1 E.2.2.2.1 S.1 S.2.1 S.2.2 2 1 rfl rfl hin hdg (fun H1 locs1 hP hD hS => kk H1 locs1 ⟨hP, hD, hS⟩)
theorem gX_thingSize {rest : List Value} (E : EnX p s m c args cc nL meth rt D ca g A) (S : SX D ad ca A s u H locs) (hdg : decode cc pc = .ok (.getfield 16, 3)) (kk : W p l e R s m args below meth c H locs cells slots Q (F0 m (pc + 3) ls (.ref (ad 3) :: rest))) : W p l e R s m args below meth c H locs cells slots Q (F0 m pc ls (.ref (ad 0) :: rest)) := by
  exact va_get (D := D) (ci := 0) (v := .ref (ad 3)) (C := RX0) (T := TX0) (N := 11) E.1.1 E.1.2.1 E.1.2.2.2.2 wI_X0 E.1.2.2.2.1 E.2.2.2.1 S.1 0 rfl rfl 2 (by decide) (E.1.2.2.2.2 _ wf_X0_16) (fun _ h9 => h9) rfl hdg kk
theorem lX_thingSize {i : Int32} {v : Int32} {rest : List Value} (E : EnX p s m c args cc nL meth rt D ca g A) (S : SX D ad ca A s u H locs) (hin : vp_in i 60) (hv : x_thingSize u i.toNatClampNeg = v) (hdg : decode cc pc = .ok (.iaload, 1)) (kk : W p l e R s m args below meth c H locs cells slots Q (F0 m (pc + 1) ls (.int v :: rest))) : W p l e R s m args below meth c H locs cells slots Q (F0 m pc ls (.int i :: .ref (ad 3) :: rest)) := by
  subst hv
  exact va_iald E.1.1 E.1.2.1 E.2.2.2.1 S.1 3 2 rfl rfl hin hdg kk
theorem sX_thingSize {i : Int32} {v : Int32} {rest : List Value} (E : EnX p s m c args cc nL meth rt D ca g A) (S : SX D ad ca A s u H locs) (hin : vp_in i 60) (hdg : decode cc pc = .ok (.iastore, 1)) (kk : ∀ (H1 : Heap) (locs1 : List Loc), SX D ad ca A s (xs_thingSize u (upd (x_thingSize u) i.toNatClampNeg v)) H1 locs1 → W p l e R s m args below meth c H1 locs1 cells slots Q (F0 m (pc + 1) ls rest)) : W p l e R s m args below meth c H locs cells slots Q (F0 m pc ls (.int v :: .int i :: .ref (ad 3) :: rest)) :=
  va_iast E.1.1 E.1.2.1 E.2.2.2.1 S.1 S.2.1 S.2.2 3 2 rfl rfl hin hdg (fun H1 locs1 hP hD hS => kk H1 locs1 ⟨hP, hD, hS⟩)
theorem gX_pieceWorth {rest : List Value} (E : EnX p s m c args cc nL meth rt D ca g A) (S : SX D ad ca A s u H locs) (hdg : decode cc pc = .ok (.getfield 19, 3)) (kk : W p l e R s m args below meth c H locs cells slots Q (F0 m (pc + 3) ls (.ref (ad 4) :: rest))) : W p l e R s m args below meth c H locs cells slots Q (F0 m pc ls (.ref (ad 0) :: rest)) := by
  exact va_get (D := D) (ci := 0) (v := .ref (ad 4)) (C := RX0) (T := TX0) (N := 11) E.1.1 E.1.2.1 E.1.2.2.2.2 wI_X0 E.1.2.2.2.1 E.2.2.2.1 S.1 0 rfl rfl 3 (by decide) (E.1.2.2.2.2 _ wf_X0_19) (fun _ h9 => h9) rfl hdg kk
theorem lX_pieceWorth {i : Int32} {v : Int32} {rest : List Value} (E : EnX p s m c args cc nL meth rt D ca g A) (S : SX D ad ca A s u H locs) (hin : vp_in i 60) (hv : x_pieceWorth u i.toNatClampNeg = v) (hdg : decode cc pc = .ok (.iaload, 1)) (kk : W p l e R s m args below meth c H locs cells slots Q (F0 m (pc + 1) ls (.int v :: rest))) : W p l e R s m args below meth c H locs cells slots Q (F0 m pc ls (.int i :: .ref (ad 4) :: rest)) := by
  subst hv
  exact va_iald E.1.1 E.1.2.1 E.2.2.2.1 S.1 4 3 rfl rfl hin hdg kk
theorem sX_pieceWorth {i : Int32} {v : Int32} {rest : List Value} (E : EnX p s m c args cc nL meth rt D ca g A) (S : SX D ad ca A s u H locs) (hin : vp_in i 60) (hdg : decode cc pc = .ok (.iastore, 1)) (kk : ∀ (H1 : Heap) (locs1 : List Loc), SX D ad ca A s (xs_pieceWorth u (upd (x_pieceWorth u) i.toNatClampNeg v)) H1 locs1 → W p l e R s m args below meth c H1 locs1 cells slots Q (F0 m (pc + 1) ls rest)) : W p l e R s m args below meth c H locs cells slots Q (F0 m pc ls (.int v :: .int i :: .ref (ad 4) :: rest)) :=
  va_iast E.1.1 E.1.2.1 E.2.2.2.1 S.1 S.2.1 S.2.2 4 3 rfl rfl hin hdg (fun H1 locs1 hP hD hS => kk H1 locs1 ⟨hP, hD, hS⟩)
theorem gX_places {rest : List Value} (E : EnX p s m c args cc nL meth rt D ca g A) (S : SX D ad ca A s u H locs) (hdg : decode cc pc = .ok (.getfield 22, 3)) (kk : W p l e R s m args below meth c H locs cells slots Q (F0 m (pc + 3) ls (.ref (ad 5) :: rest))) : W p l e R s m args below meth c H locs cells slots Q (F0 m pc ls (.ref (ad 0) :: rest)) := by
  exact va_get (D := D) (ci := 0) (v := .ref (ad 5)) (C := RX0) (T := TX0) (N := 11) E.1.1 E.1.2.1 E.1.2.2.2.2 wI_X0 E.1.2.2.2.1 E.2.2.2.1 S.1 0 rfl rfl 4 (by decide) (E.1.2.2.2.2 _ wf_X0_22) (fun _ h9 => h9) rfl hdg kk
theorem lX_places {i : Int32} {v : Int64} {rest : List Value} (E : EnX p s m c args cc nL meth rt D ca g A) (S : SX D ad ca A s u H locs) (hin : vp_in i 480) (hv : x_places u i.toNatClampNeg = v) (hdg : decode cc pc = .ok (.laload, 1)) (kk : W p l e R s m args below meth c H locs cells slots Q (F0 m (pc + 1) ls (.long v :: rest))) : W p l e R s m args below meth c H locs cells slots Q (F0 m pc ls (.int i :: .ref (ad 5) :: rest)) := by
  subst hv
  exact va_lald E.1.1 E.1.2.1 E.2.2.2.1 S.1 5 4 rfl rfl hin hdg kk
theorem sX_places {i : Int32} {v : Int64} {rest : List Value} (E : EnX p s m c args cc nL meth rt D ca g A) (S : SX D ad ca A s u H locs) (hin : vp_in i 480) (hdg : decode cc pc = .ok (.lastore, 1)) (kk : ∀ (H1 : Heap) (locs1 : List Loc), SX D ad ca A s (xs_places u (vp_updL (x_places u) i.toNatClampNeg v)) H1 locs1 → W p l e R s m args below meth c H1 locs1 cells slots Q (F0 m (pc + 1) ls rest)) : W p l e R s m args below meth c H locs cells slots Q (F0 m pc ls (.long v :: .int i :: .ref (ad 5) :: rest)) :=
  va_last E.1.1 E.1.2.1 E.2.2.2.1 S.1 S.2.1 S.2.2 5 4 rfl rfl hin hdg (fun H1 locs1 hP hD hS => kk H1 locs1 ⟨hP, hD, hS⟩)
theorem gX_doorBase {rest : List Value} (E : EnX p s m c args cc nL meth rt D ca g A) (S : SX D ad ca A s u H locs) (hdg : decode cc pc = .ok (.getfield 26, 3)) (kk : W p l e R s m args below meth c H locs cells slots Q (F0 m (pc + 3) ls (.ref (ad 6) :: rest))) : W p l e R s m args below meth c H locs cells slots Q (F0 m pc ls (.ref (ad 0) :: rest)) := by
  exact va_get (D := D) (ci := 0) (v := .ref (ad 6)) (C := RX0) (T := TX0) (N := 11) E.1.1 E.1.2.1 E.1.2.2.2.2 wI_X0 E.1.2.2.2.1 E.2.2.2.1 S.1 0 rfl rfl 5 (by decide) (E.1.2.2.2.2 _ wf_X0_26) (fun _ h9 => h9) rfl hdg kk
theorem lX_doorBase {i : Int32} {v : Int32} {rest : List Value} (E : EnX p s m c args cc nL meth rt D ca g A) (S : SX D ad ca A s u H locs) (hin : vp_in i 8) (hv : x_doorBase u i.toNatClampNeg = v) (hdg : decode cc pc = .ok (.iaload, 1)) (kk : W p l e R s m args below meth c H locs cells slots Q (F0 m (pc + 1) ls (.int v :: rest))) : W p l e R s m args below meth c H locs cells slots Q (F0 m pc ls (.int i :: .ref (ad 6) :: rest)) := by
  subst hv
  exact va_iald E.1.1 E.1.2.1 E.2.2.2.1 S.1 6 5 rfl rfl hin hdg kk
theorem sX_doorBase {i : Int32} {v : Int32} {rest : List Value} (E : EnX p s m c args cc nL meth rt D ca g A) (S : SX D ad ca A s u H locs) (hin : vp_in i 8) (hdg : decode cc pc = .ok (.iastore, 1)) (kk : ∀ (H1 : Heap) (locs1 : List Loc), SX D ad ca A s (xs_doorBase u (upd (x_doorBase u) i.toNatClampNeg v)) H1 locs1 → W p l e R s m args below meth c H1 locs1 cells slots Q (F0 m (pc + 1) ls rest)) : W p l e R s m args below meth c H locs cells slots Q (F0 m pc ls (.int v :: .int i :: .ref (ad 6) :: rest)) :=
  va_iast E.1.1 E.1.2.1 E.2.2.2.1 S.1 S.2.1 S.2.2 6 5 rfl rfl hin hdg (fun H1 locs1 hP hD hS => kk H1 locs1 ⟨hP, hD, hS⟩)
theorem gX_doorDepth {rest : List Value} (E : EnX p s m c args cc nL meth rt D ca g A) (S : SX D ad ca A s u H locs) (hdg : decode cc pc = .ok (.getfield 29, 3)) (kk : W p l e R s m args below meth c H locs cells slots Q (F0 m (pc + 3) ls (.ref (ad 7) :: rest))) : W p l e R s m args below meth c H locs cells slots Q (F0 m pc ls (.ref (ad 0) :: rest)) := by
  exact va_get (D := D) (ci := 0) (v := .ref (ad 7)) (C := RX0) (T := TX0) (N := 11) E.1.1 E.1.2.1 E.1.2.2.2.2 wI_X0 E.1.2.2.2.1 E.2.2.2.1 S.1 0 rfl rfl 6 (by decide) (E.1.2.2.2.2 _ wf_X0_29) (fun _ h9 => h9) rfl hdg kk
theorem lX_doorDepth {i : Int32} {v : Int32} {rest : List Value} (E : EnX p s m c args cc nL meth rt D ca g A) (S : SX D ad ca A s u H locs) (hin : vp_in i 8) (hv : x_doorDepth u i.toNatClampNeg = v) (hdg : decode cc pc = .ok (.iaload, 1)) (kk : W p l e R s m args below meth c H locs cells slots Q (F0 m (pc + 1) ls (.int v :: rest))) : W p l e R s m args below meth c H locs cells slots Q (F0 m pc ls (.int i :: .ref (ad 7) :: rest)) := by
  subst hv
  exact va_iald E.1.1 E.1.2.1 E.2.2.2.1 S.1 7 6 rfl rfl hin hdg kk
theorem sX_doorDepth {i : Int32} {v : Int32} {rest : List Value} (E : EnX p s m c args cc nL meth rt D ca g A) (S : SX D ad ca A s u H locs) (hin : vp_in i 8) (hdg : decode cc pc = .ok (.iastore, 1)) (kk : ∀ (H1 : Heap) (locs1 : List Loc), SX D ad ca A s (xs_doorDepth u (upd (x_doorDepth u) i.toNatClampNeg v)) H1 locs1 → W p l e R s m args below meth c H1 locs1 cells slots Q (F0 m (pc + 1) ls rest)) : W p l e R s m args below meth c H locs cells slots Q (F0 m pc ls (.int v :: .int i :: .ref (ad 7) :: rest)) :=
  va_iast E.1.1 E.1.2.1 E.2.2.2.1 S.1 S.2.1 S.2.2 7 6 rfl rfl hin hdg (fun H1 locs1 hP hD hS => kk H1 locs1 ⟨hP, hD, hS⟩)
theorem gX_thingCount {v : Int32} {rest : List Value} (E : EnX p s m c args cc nL meth rt D ca g A) (S : SX D ad ca A s u H locs) (hv : x_thingCount u = v) (hdg : decode cc pc = .ok (.getfield 32, 3)) (kk : W p l e R s m args below meth c H locs cells slots Q (F0 m (pc + 3) ls (.int v :: rest))) : W p l e R s m args below meth c H locs cells slots Q (F0 m pc ls (.ref (ad 0) :: rest)) := by
  subst hv
  exact va_get (D := D) (ci := 0) (v := .int (x_thingCount u)) (C := RX0) (T := TX0) (N := 11) E.1.1 E.1.2.1 E.1.2.2.2.2 wI_X0 E.1.2.2.2.1 E.2.2.2.1 S.1 0 rfl rfl 7 (by decide) (E.1.2.2.2.2 _ wf_X0_32) (fun _ h9 => h9) rfl hdg kk
theorem pX_thingCount {v : Int32} {rest : List Value} (E : EnX p s m c args cc nL meth rt D ca g A) (S : SX D ad ca A s u H locs) (hdg : decode cc pc = .ok (.putfield 32, 3)) (kk : ∀ (H1 : Heap) (locs1 : List Loc), SX D ad ca A s (xs_thingCount u v) H1 locs1 → W p l e R s m args below meth c H1 locs1 cells slots Q (F0 m (pc + 3) ls rest)) : W p l e R s m args below meth c H locs cells slots Q (F0 m pc ls (.int v :: .ref (ad 0) :: rest)) :=
  va_put (D := D) (ci := 0) (v := .int v) (ty := .int) (C := RX0) (T := TX0) (N := 11) E.1.1 E.1.2.1 E.1.2.2.2.2 wI_X0 tyX0 tyX0_ok nmX0 E.1.2.2.2.1 E.2.2.2.1 S.1 S.2.1 S.2.2 0 rfl rfl 7 (by decide) (E.1.2.2.2.2 _ wf_X0_32) (fun _ h9 => h9) rfl (by decide +kernel) rfl rfl (Nat.le_of_ble_eq_true rfl) hdg (fun H1 locs1 hP hD hS => kk H1 locs1 ⟨hP, hD, hS⟩)
theorem gX_failureCount {v : Int32} {rest : List Value} (E : EnX p s m c args cc nL meth rt D ca g A) (S : SX D ad ca A s u H locs) (hv : x_failureCount u = v) (hdg : decode cc pc = .ok (.getfield 36, 3)) (kk : W p l e R s m args below meth c H locs cells slots Q (F0 m (pc + 3) ls (.int v :: rest))) : W p l e R s m args below meth c H locs cells slots Q (F0 m pc ls (.ref (ad 0) :: rest)) := by
  subst hv
  exact va_get (D := D) (ci := 0) (v := .int (x_failureCount u)) (C := RX0) (T := TX0) (N := 11) E.1.1 E.1.2.1 E.1.2.2.2.2 wI_X0 E.1.2.2.2.1 E.2.2.2.1 S.1 0 rfl rfl 8 (by decide) (E.1.2.2.2.2 _ wf_X0_36) (fun _ h9 => h9) rfl hdg kk
theorem pX_failureCount {v : Int32} {rest : List Value} (E : EnX p s m c args cc nL meth rt D ca g A) (S : SX D ad ca A s u H locs) (hdg : decode cc pc = .ok (.putfield 36, 3)) (kk : ∀ (H1 : Heap) (locs1 : List Loc), SX D ad ca A s (xs_failureCount u v) H1 locs1 → W p l e R s m args below meth c H1 locs1 cells slots Q (F0 m (pc + 3) ls rest)) : W p l e R s m args below meth c H locs cells slots Q (F0 m pc ls (.int v :: .ref (ad 0) :: rest)) :=
  va_put (D := D) (ci := 0) (v := .int v) (ty := .int) (C := RX0) (T := TX0) (N := 11) E.1.1 E.1.2.1 E.1.2.2.2.2 wI_X0 tyX0 tyX0_ok nmX0 E.1.2.2.2.1 E.2.2.2.1 S.1 S.2.1 S.2.2 0 rfl rfl 8 (by decide) (E.1.2.2.2.2 _ wf_X0_36) (fun _ h9 => h9) rfl (by decide +kernel) rfl rfl (Nat.le_of_ble_eq_true rfl) hdg (fun H1 locs1 hP hD hS => kk H1 locs1 ⟨hP, hD, hS⟩)
theorem gX_latestFailure {v : Int32} {rest : List Value} (E : EnX p s m c args cc nL meth rt D ca g A) (S : SX D ad ca A s u H locs) (hv : x_latestFailure u = v) (hdg : decode cc pc = .ok (.getfield 39, 3)) (kk : W p l e R s m args below meth c H locs cells slots Q (F0 m (pc + 3) ls (.int v :: rest))) : W p l e R s m args below meth c H locs cells slots Q (F0 m pc ls (.ref (ad 0) :: rest)) := by
  subst hv
  exact va_get (D := D) (ci := 0) (v := .int (x_latestFailure u)) (C := RX0) (T := TX0) (N := 11) E.1.1 E.1.2.1 E.1.2.2.2.2 wI_X0 E.1.2.2.2.1 E.2.2.2.1 S.1 0 rfl rfl 9 (by decide) (E.1.2.2.2.2 _ wf_X0_39) (fun _ h9 => h9) rfl hdg kk
theorem pX_latestFailure {v : Int32} {rest : List Value} (E : EnX p s m c args cc nL meth rt D ca g A) (S : SX D ad ca A s u H locs) (hdg : decode cc pc = .ok (.putfield 39, 3)) (kk : ∀ (H1 : Heap) (locs1 : List Loc), SX D ad ca A s (xs_latestFailure u v) H1 locs1 → W p l e R s m args below meth c H1 locs1 cells slots Q (F0 m (pc + 3) ls rest)) : W p l e R s m args below meth c H locs cells slots Q (F0 m pc ls (.int v :: .ref (ad 0) :: rest)) :=
  va_put (D := D) (ci := 0) (v := .int v) (ty := .int) (C := RX0) (T := TX0) (N := 11) E.1.1 E.1.2.1 E.1.2.2.2.2 wI_X0 tyX0 tyX0_ok nmX0 E.1.2.2.2.1 E.2.2.2.1 S.1 S.2.1 S.2.2 0 rfl rfl 9 (by decide) (E.1.2.2.2.2 _ wf_X0_39) (fun _ h9 => h9) rfl (by decide +kernel) rfl rfl (Nat.le_of_ble_eq_true rfl) hdg (fun H1 locs1 hP hD hS => kk H1 locs1 ⟨hP, hD, hS⟩)
theorem gX_closedDoor {v : Int32} {rest : List Value} (E : EnX p s m c args cc nL meth rt D ca g A) (S : SX D ad ca A s u H locs) (hv : x_closedDoor u = v) (hdg : decode cc pc = .ok (.getfield 42, 3)) (kk : W p l e R s m args below meth c H locs cells slots Q (F0 m (pc + 3) ls (.int v :: rest))) : W p l e R s m args below meth c H locs cells slots Q (F0 m pc ls (.ref (ad 0) :: rest)) := by
  subst hv
  exact va_get (D := D) (ci := 0) (v := .int (x_closedDoor u)) (C := RX0) (T := TX0) (N := 11) E.1.1 E.1.2.1 E.1.2.2.2.2 wI_X0 E.1.2.2.2.1 E.2.2.2.1 S.1 0 rfl rfl 10 (by decide) (E.1.2.2.2.2 _ wf_X0_42) (fun _ h9 => h9) rfl hdg kk
theorem pX_closedDoor {v : Int32} {rest : List Value} (E : EnX p s m c args cc nL meth rt D ca g A) (S : SX D ad ca A s u H locs) (hdg : decode cc pc = .ok (.putfield 42, 3)) (kk : ∀ (H1 : Heap) (locs1 : List Loc), SX D ad ca A s (xs_closedDoor u v) H1 locs1 → W p l e R s m args below meth c H1 locs1 cells slots Q (F0 m (pc + 3) ls rest)) : W p l e R s m args below meth c H locs cells slots Q (F0 m pc ls (.int v :: .ref (ad 0) :: rest)) :=
  va_put (D := D) (ci := 0) (v := .int v) (ty := .int) (C := RX0) (T := TX0) (N := 11) E.1.1 E.1.2.1 E.1.2.2.2.2 wI_X0 tyX0 tyX0_ok nmX0 E.1.2.2.2.1 E.2.2.2.1 S.1 S.2.1 S.2.2 0 rfl rfl 10 (by decide) (E.1.2.2.2.2 _ wf_X0_42) (fun _ h9 => h9) rfl (by decide +kernel) rfl rfl (Nat.le_of_ble_eq_true rfl) hdg (fun H1 locs1 hP hD hS => kk H1 locs1 ⟨hP, hD, hS⟩)
end RowsX
/-! ===== DepotTraysModel: state, world, rows ===== -/
abbrev MS : Type := Int32 × (Nat → Int32) × (Nat → Int32) × (Nat → Int32) × (Nat → Int32) × (Nat → Int32) × (Nat → Int64) × (Nat → Int32) × (Nat → Int32) × Int32 × Int32 × Int32 × (Nat → Int64) × (Nat → Int32) × (Nat → Int32) × (Nat → Int64)
def m_things (u : MS) : Int32 := u.1
def m_bases (u : MS) : (Nat → Int32) := u.2.1
def m_depths (u : MS) : (Nat → Int32) := u.2.2.1
def m_sizes (u : MS) : (Nat → Int32) := u.2.2.2.1
def m_worths (u : MS) : (Nat → Int32) := u.2.2.2.2.1
def m_lies (u : MS) : (Nat → Int32) := u.2.2.2.2.2.1
def m_numbers (u : MS) : (Nat → Int64) := u.2.2.2.2.2.2.1
def m_doorBase (u : MS) : (Nat → Int32) := u.2.2.2.2.2.2.2.1
def m_doorDepth (u : MS) : (Nat → Int32) := u.2.2.2.2.2.2.2.2.1
def m_failures (u : MS) : Int32 := u.2.2.2.2.2.2.2.2.2.1
def m_latest (u : MS) : Int32 := u.2.2.2.2.2.2.2.2.2.2.1
def m_last (u : MS) : Int32 := u.2.2.2.2.2.2.2.2.2.2.2.1
def m_sums (u : MS) : (Nat → Int64) := u.2.2.2.2.2.2.2.2.2.2.2.2.1
def m_counts (u : MS) : (Nat → Int32) := u.2.2.2.2.2.2.2.2.2.2.2.2.2.1
def m_moved (u : MS) : (Nat → Int32) := u.2.2.2.2.2.2.2.2.2.2.2.2.2.2.1
def m_movedNumbers (u : MS) : (Nat → Int64) := u.2.2.2.2.2.2.2.2.2.2.2.2.2.2.2
def ms_things (u : MS) (v : Int32) : MS := (v, u.2)
def ms_bases (u : MS) (v : (Nat → Int32)) : MS := (u.1, v, u.2.2)
def ms_depths (u : MS) (v : (Nat → Int32)) : MS := (u.1, u.2.1, v, u.2.2.2)
def ms_sizes (u : MS) (v : (Nat → Int32)) : MS := (u.1, u.2.1, u.2.2.1, v, u.2.2.2.2)
def ms_worths (u : MS) (v : (Nat → Int32)) : MS := (u.1, u.2.1, u.2.2.1, u.2.2.2.1, v, u.2.2.2.2.2)
def ms_lies (u : MS) (v : (Nat → Int32)) : MS := (u.1, u.2.1, u.2.2.1, u.2.2.2.1, u.2.2.2.2.1, v, u.2.2.2.2.2.2)
def ms_numbers (u : MS) (v : (Nat → Int64)) : MS := (u.1, u.2.1, u.2.2.1, u.2.2.2.1, u.2.2.2.2.1, u.2.2.2.2.2.1, v, u.2.2.2.2.2.2.2)
def ms_doorBase (u : MS) (v : (Nat → Int32)) : MS := (u.1, u.2.1, u.2.2.1, u.2.2.2.1, u.2.2.2.2.1, u.2.2.2.2.2.1, u.2.2.2.2.2.2.1, v, u.2.2.2.2.2.2.2.2)
def ms_doorDepth (u : MS) (v : (Nat → Int32)) : MS := (u.1, u.2.1, u.2.2.1, u.2.2.2.1, u.2.2.2.2.1, u.2.2.2.2.2.1, u.2.2.2.2.2.2.1, u.2.2.2.2.2.2.2.1, v, u.2.2.2.2.2.2.2.2.2)
def ms_failures (u : MS) (v : Int32) : MS := (u.1, u.2.1, u.2.2.1, u.2.2.2.1, u.2.2.2.2.1, u.2.2.2.2.2.1, u.2.2.2.2.2.2.1, u.2.2.2.2.2.2.2.1, u.2.2.2.2.2.2.2.2.1, v, u.2.2.2.2.2.2.2.2.2.2)
def ms_latest (u : MS) (v : Int32) : MS := (u.1, u.2.1, u.2.2.1, u.2.2.2.1, u.2.2.2.2.1, u.2.2.2.2.2.1, u.2.2.2.2.2.2.1, u.2.2.2.2.2.2.2.1, u.2.2.2.2.2.2.2.2.1, u.2.2.2.2.2.2.2.2.2.1, v, u.2.2.2.2.2.2.2.2.2.2.2)
def ms_last (u : MS) (v : Int32) : MS := (u.1, u.2.1, u.2.2.1, u.2.2.2.1, u.2.2.2.2.1, u.2.2.2.2.2.1, u.2.2.2.2.2.2.1, u.2.2.2.2.2.2.2.1, u.2.2.2.2.2.2.2.2.1, u.2.2.2.2.2.2.2.2.2.1, u.2.2.2.2.2.2.2.2.2.2.1, v, u.2.2.2.2.2.2.2.2.2.2.2.2)
def ms_sums (u : MS) (v : (Nat → Int64)) : MS := (u.1, u.2.1, u.2.2.1, u.2.2.2.1, u.2.2.2.2.1, u.2.2.2.2.2.1, u.2.2.2.2.2.2.1, u.2.2.2.2.2.2.2.1, u.2.2.2.2.2.2.2.2.1, u.2.2.2.2.2.2.2.2.2.1, u.2.2.2.2.2.2.2.2.2.2.1, u.2.2.2.2.2.2.2.2.2.2.2.1, v, u.2.2.2.2.2.2.2.2.2.2.2.2.2)
def ms_counts (u : MS) (v : (Nat → Int32)) : MS := (u.1, u.2.1, u.2.2.1, u.2.2.2.1, u.2.2.2.2.1, u.2.2.2.2.2.1, u.2.2.2.2.2.2.1, u.2.2.2.2.2.2.2.1, u.2.2.2.2.2.2.2.2.1, u.2.2.2.2.2.2.2.2.2.1, u.2.2.2.2.2.2.2.2.2.2.1, u.2.2.2.2.2.2.2.2.2.2.2.1, u.2.2.2.2.2.2.2.2.2.2.2.2.1, v, u.2.2.2.2.2.2.2.2.2.2.2.2.2.2)
def ms_moved (u : MS) (v : (Nat → Int32)) : MS := (u.1, u.2.1, u.2.2.1, u.2.2.2.1, u.2.2.2.2.1, u.2.2.2.2.2.1, u.2.2.2.2.2.2.1, u.2.2.2.2.2.2.2.1, u.2.2.2.2.2.2.2.2.1, u.2.2.2.2.2.2.2.2.2.1, u.2.2.2.2.2.2.2.2.2.2.1, u.2.2.2.2.2.2.2.2.2.2.2.1, u.2.2.2.2.2.2.2.2.2.2.2.2.1, u.2.2.2.2.2.2.2.2.2.2.2.2.2.1, v, u.2.2.2.2.2.2.2.2.2.2.2.2.2.2.2)
def ms_movedNumbers (u : MS) (v : (Nat → Int64)) : MS := (u.1, u.2.1, u.2.2.1, u.2.2.2.1, u.2.2.2.2.1, u.2.2.2.2.2.1, u.2.2.2.2.2.2.1, u.2.2.2.2.2.2.2.1, u.2.2.2.2.2.2.2.2.1, u.2.2.2.2.2.2.2.2.2.1, u.2.2.2.2.2.2.2.2.2.2.1, u.2.2.2.2.2.2.2.2.2.2.2.1, u.2.2.2.2.2.2.2.2.2.2.2.2.1, u.2.2.2.2.2.2.2.2.2.2.2.2.2.1, u.2.2.2.2.2.2.2.2.2.2.2.2.2.2.1, v)
theorem m_things_things (u : MS) (v : Int32) : m_things (ms_things u v) = v := rfl
theorem m_things_bases (u : MS) (v : (Nat → Int32)) : m_things (ms_bases u v) = m_things u := rfl
theorem m_things_depths (u : MS) (v : (Nat → Int32)) : m_things (ms_depths u v) = m_things u := rfl
theorem m_things_sizes (u : MS) (v : (Nat → Int32)) : m_things (ms_sizes u v) = m_things u := rfl
theorem m_things_worths (u : MS) (v : (Nat → Int32)) : m_things (ms_worths u v) = m_things u := rfl
theorem m_things_lies (u : MS) (v : (Nat → Int32)) : m_things (ms_lies u v) = m_things u := rfl
theorem m_things_numbers (u : MS) (v : (Nat → Int64)) : m_things (ms_numbers u v) = m_things u := rfl
theorem m_things_doorBase (u : MS) (v : (Nat → Int32)) : m_things (ms_doorBase u v) = m_things u := rfl
theorem m_things_doorDepth (u : MS) (v : (Nat → Int32)) : m_things (ms_doorDepth u v) = m_things u := rfl
theorem m_things_failures (u : MS) (v : Int32) : m_things (ms_failures u v) = m_things u := rfl
theorem m_things_latest (u : MS) (v : Int32) : m_things (ms_latest u v) = m_things u := rfl
theorem m_things_last (u : MS) (v : Int32) : m_things (ms_last u v) = m_things u := rfl
theorem m_things_sums (u : MS) (v : (Nat → Int64)) : m_things (ms_sums u v) = m_things u := rfl
theorem m_things_counts (u : MS) (v : (Nat → Int32)) : m_things (ms_counts u v) = m_things u := rfl
theorem m_things_moved (u : MS) (v : (Nat → Int32)) : m_things (ms_moved u v) = m_things u := rfl
theorem m_things_movedNumbers (u : MS) (v : (Nat → Int64)) : m_things (ms_movedNumbers u v) = m_things u := rfl
theorem m_bases_things (u : MS) (v : Int32) : m_bases (ms_things u v) = m_bases u := rfl
theorem m_bases_bases (u : MS) (v : (Nat → Int32)) : m_bases (ms_bases u v) = v := rfl
theorem m_bases_depths (u : MS) (v : (Nat → Int32)) : m_bases (ms_depths u v) = m_bases u := rfl
theorem m_bases_sizes (u : MS) (v : (Nat → Int32)) : m_bases (ms_sizes u v) = m_bases u := rfl
theorem m_bases_worths (u : MS) (v : (Nat → Int32)) : m_bases (ms_worths u v) = m_bases u := rfl
theorem m_bases_lies (u : MS) (v : (Nat → Int32)) : m_bases (ms_lies u v) = m_bases u := rfl
theorem m_bases_numbers (u : MS) (v : (Nat → Int64)) : m_bases (ms_numbers u v) = m_bases u := rfl
theorem m_bases_doorBase (u : MS) (v : (Nat → Int32)) : m_bases (ms_doorBase u v) = m_bases u := rfl
theorem m_bases_doorDepth (u : MS) (v : (Nat → Int32)) : m_bases (ms_doorDepth u v) = m_bases u := rfl
theorem m_bases_failures (u : MS) (v : Int32) : m_bases (ms_failures u v) = m_bases u := rfl
theorem m_bases_latest (u : MS) (v : Int32) : m_bases (ms_latest u v) = m_bases u := rfl
theorem m_bases_last (u : MS) (v : Int32) : m_bases (ms_last u v) = m_bases u := rfl
theorem m_bases_sums (u : MS) (v : (Nat → Int64)) : m_bases (ms_sums u v) = m_bases u := rfl
theorem m_bases_counts (u : MS) (v : (Nat → Int32)) : m_bases (ms_counts u v) = m_bases u := rfl
theorem m_bases_moved (u : MS) (v : (Nat → Int32)) : m_bases (ms_moved u v) = m_bases u := rfl
theorem m_bases_movedNumbers (u : MS) (v : (Nat → Int64)) : m_bases (ms_movedNumbers u v) = m_bases u := rfl
theorem m_depths_things (u : MS) (v : Int32) : m_depths (ms_things u v) = m_depths u := rfl
theorem m_depths_bases (u : MS) (v : (Nat → Int32)) : m_depths (ms_bases u v) = m_depths u := rfl
theorem m_depths_depths (u : MS) (v : (Nat → Int32)) : m_depths (ms_depths u v) = v := rfl
theorem m_depths_sizes (u : MS) (v : (Nat → Int32)) : m_depths (ms_sizes u v) = m_depths u := rfl
theorem m_depths_worths (u : MS) (v : (Nat → Int32)) : m_depths (ms_worths u v) = m_depths u := rfl
theorem m_depths_lies (u : MS) (v : (Nat → Int32)) : m_depths (ms_lies u v) = m_depths u := rfl
theorem m_depths_numbers (u : MS) (v : (Nat → Int64)) : m_depths (ms_numbers u v) = m_depths u := rfl
theorem m_depths_doorBase (u : MS) (v : (Nat → Int32)) : m_depths (ms_doorBase u v) = m_depths u := rfl
theorem m_depths_doorDepth (u : MS) (v : (Nat → Int32)) : m_depths (ms_doorDepth u v) = m_depths u := rfl
theorem m_depths_failures (u : MS) (v : Int32) : m_depths (ms_failures u v) = m_depths u := rfl
theorem m_depths_latest (u : MS) (v : Int32) : m_depths (ms_latest u v) = m_depths u := rfl
theorem m_depths_last (u : MS) (v : Int32) : m_depths (ms_last u v) = m_depths u := rfl
theorem m_depths_sums (u : MS) (v : (Nat → Int64)) : m_depths (ms_sums u v) = m_depths u := rfl
theorem m_depths_counts (u : MS) (v : (Nat → Int32)) : m_depths (ms_counts u v) = m_depths u := rfl
theorem m_depths_moved (u : MS) (v : (Nat → Int32)) : m_depths (ms_moved u v) = m_depths u := rfl
theorem m_depths_movedNumbers (u : MS) (v : (Nat → Int64)) : m_depths (ms_movedNumbers u v) = m_depths u := rfl
theorem m_sizes_things (u : MS) (v : Int32) : m_sizes (ms_things u v) = m_sizes u := rfl
theorem m_sizes_bases (u : MS) (v : (Nat → Int32)) : m_sizes (ms_bases u v) = m_sizes u := rfl
theorem m_sizes_depths (u : MS) (v : (Nat → Int32)) : m_sizes (ms_depths u v) = m_sizes u := rfl
theorem m_sizes_sizes (u : MS) (v : (Nat → Int32)) : m_sizes (ms_sizes u v) = v := rfl
theorem m_sizes_worths (u : MS) (v : (Nat → Int32)) : m_sizes (ms_worths u v) = m_sizes u := rfl
theorem m_sizes_lies (u : MS) (v : (Nat → Int32)) : m_sizes (ms_lies u v) = m_sizes u := rfl
theorem m_sizes_numbers (u : MS) (v : (Nat → Int64)) : m_sizes (ms_numbers u v) = m_sizes u := rfl
theorem m_sizes_doorBase (u : MS) (v : (Nat → Int32)) : m_sizes (ms_doorBase u v) = m_sizes u := rfl
theorem m_sizes_doorDepth (u : MS) (v : (Nat → Int32)) : m_sizes (ms_doorDepth u v) = m_sizes u := rfl
theorem m_sizes_failures (u : MS) (v : Int32) : m_sizes (ms_failures u v) = m_sizes u := rfl
theorem m_sizes_latest (u : MS) (v : Int32) : m_sizes (ms_latest u v) = m_sizes u := rfl
theorem m_sizes_last (u : MS) (v : Int32) : m_sizes (ms_last u v) = m_sizes u := rfl
theorem m_sizes_sums (u : MS) (v : (Nat → Int64)) : m_sizes (ms_sums u v) = m_sizes u := rfl
theorem m_sizes_counts (u : MS) (v : (Nat → Int32)) : m_sizes (ms_counts u v) = m_sizes u := rfl
theorem m_sizes_moved (u : MS) (v : (Nat → Int32)) : m_sizes (ms_moved u v) = m_sizes u := rfl
theorem m_sizes_movedNumbers (u : MS) (v : (Nat → Int64)) : m_sizes (ms_movedNumbers u v) = m_sizes u := rfl
theorem m_worths_things (u : MS) (v : Int32) : m_worths (ms_things u v) = m_worths u := rfl
theorem m_worths_bases (u : MS) (v : (Nat → Int32)) : m_worths (ms_bases u v) = m_worths u := rfl
theorem m_worths_depths (u : MS) (v : (Nat → Int32)) : m_worths (ms_depths u v) = m_worths u := rfl
theorem m_worths_sizes (u : MS) (v : (Nat → Int32)) : m_worths (ms_sizes u v) = m_worths u := rfl
theorem m_worths_worths (u : MS) (v : (Nat → Int32)) : m_worths (ms_worths u v) = v := rfl
theorem m_worths_lies (u : MS) (v : (Nat → Int32)) : m_worths (ms_lies u v) = m_worths u := rfl
theorem m_worths_numbers (u : MS) (v : (Nat → Int64)) : m_worths (ms_numbers u v) = m_worths u := rfl
theorem m_worths_doorBase (u : MS) (v : (Nat → Int32)) : m_worths (ms_doorBase u v) = m_worths u := rfl
theorem m_worths_doorDepth (u : MS) (v : (Nat → Int32)) : m_worths (ms_doorDepth u v) = m_worths u := rfl
theorem m_worths_failures (u : MS) (v : Int32) : m_worths (ms_failures u v) = m_worths u := rfl
theorem m_worths_latest (u : MS) (v : Int32) : m_worths (ms_latest u v) = m_worths u := rfl
theorem m_worths_last (u : MS) (v : Int32) : m_worths (ms_last u v) = m_worths u := rfl
theorem m_worths_sums (u : MS) (v : (Nat → Int64)) : m_worths (ms_sums u v) = m_worths u := rfl
theorem m_worths_counts (u : MS) (v : (Nat → Int32)) : m_worths (ms_counts u v) = m_worths u := rfl
theorem m_worths_moved (u : MS) (v : (Nat → Int32)) : m_worths (ms_moved u v) = m_worths u := rfl
theorem m_worths_movedNumbers (u : MS) (v : (Nat → Int64)) : m_worths (ms_movedNumbers u v) = m_worths u := rfl
theorem m_lies_things (u : MS) (v : Int32) : m_lies (ms_things u v) = m_lies u := rfl
theorem m_lies_bases (u : MS) (v : (Nat → Int32)) : m_lies (ms_bases u v) = m_lies u := rfl
theorem m_lies_depths (u : MS) (v : (Nat → Int32)) : m_lies (ms_depths u v) = m_lies u := rfl
theorem m_lies_sizes (u : MS) (v : (Nat → Int32)) : m_lies (ms_sizes u v) = m_lies u := rfl
theorem m_lies_worths (u : MS) (v : (Nat → Int32)) : m_lies (ms_worths u v) = m_lies u := rfl
theorem m_lies_lies (u : MS) (v : (Nat → Int32)) : m_lies (ms_lies u v) = v := rfl
theorem m_lies_numbers (u : MS) (v : (Nat → Int64)) : m_lies (ms_numbers u v) = m_lies u := rfl
theorem m_lies_doorBase (u : MS) (v : (Nat → Int32)) : m_lies (ms_doorBase u v) = m_lies u := rfl
theorem m_lies_doorDepth (u : MS) (v : (Nat → Int32)) : m_lies (ms_doorDepth u v) = m_lies u := rfl
theorem m_lies_failures (u : MS) (v : Int32) : m_lies (ms_failures u v) = m_lies u := rfl
theorem m_lies_latest (u : MS) (v : Int32) : m_lies (ms_latest u v) = m_lies u := rfl
theorem m_lies_last (u : MS) (v : Int32) : m_lies (ms_last u v) = m_lies u := rfl
theorem m_lies_sums (u : MS) (v : (Nat → Int64)) : m_lies (ms_sums u v) = m_lies u := rfl
theorem m_lies_counts (u : MS) (v : (Nat → Int32)) : m_lies (ms_counts u v) = m_lies u := rfl
theorem m_lies_moved (u : MS) (v : (Nat → Int32)) : m_lies (ms_moved u v) = m_lies u := rfl
theorem m_lies_movedNumbers (u : MS) (v : (Nat → Int64)) : m_lies (ms_movedNumbers u v) = m_lies u := rfl
theorem m_numbers_things (u : MS) (v : Int32) : m_numbers (ms_things u v) = m_numbers u := rfl
theorem m_numbers_bases (u : MS) (v : (Nat → Int32)) : m_numbers (ms_bases u v) = m_numbers u := rfl
theorem m_numbers_depths (u : MS) (v : (Nat → Int32)) : m_numbers (ms_depths u v) = m_numbers u := rfl
theorem m_numbers_sizes (u : MS) (v : (Nat → Int32)) : m_numbers (ms_sizes u v) = m_numbers u := rfl
theorem m_numbers_worths (u : MS) (v : (Nat → Int32)) : m_numbers (ms_worths u v) = m_numbers u := rfl
theorem m_numbers_lies (u : MS) (v : (Nat → Int32)) : m_numbers (ms_lies u v) = m_numbers u := rfl
theorem m_numbers_numbers (u : MS) (v : (Nat → Int64)) : m_numbers (ms_numbers u v) = v := rfl
theorem m_numbers_doorBase (u : MS) (v : (Nat → Int32)) : m_numbers (ms_doorBase u v) = m_numbers u := rfl
theorem m_numbers_doorDepth (u : MS) (v : (Nat → Int32)) : m_numbers (ms_doorDepth u v) = m_numbers u := rfl
theorem m_numbers_failures (u : MS) (v : Int32) : m_numbers (ms_failures u v) = m_numbers u := rfl
theorem m_numbers_latest (u : MS) (v : Int32) : m_numbers (ms_latest u v) = m_numbers u := rfl
theorem m_numbers_last (u : MS) (v : Int32) : m_numbers (ms_last u v) = m_numbers u := rfl
theorem m_numbers_sums (u : MS) (v : (Nat → Int64)) : m_numbers (ms_sums u v) = m_numbers u := rfl
theorem m_numbers_counts (u : MS) (v : (Nat → Int32)) : m_numbers (ms_counts u v) = m_numbers u := rfl
theorem m_numbers_moved (u : MS) (v : (Nat → Int32)) : m_numbers (ms_moved u v) = m_numbers u := rfl
theorem m_numbers_movedNumbers (u : MS) (v : (Nat → Int64)) : m_numbers (ms_movedNumbers u v) = m_numbers u := rfl
theorem m_doorBase_things (u : MS) (v : Int32) : m_doorBase (ms_things u v) = m_doorBase u := rfl
theorem m_doorBase_bases (u : MS) (v : (Nat → Int32)) : m_doorBase (ms_bases u v) = m_doorBase u := rfl
theorem m_doorBase_depths (u : MS) (v : (Nat → Int32)) : m_doorBase (ms_depths u v) = m_doorBase u := rfl
theorem m_doorBase_sizes (u : MS) (v : (Nat → Int32)) : m_doorBase (ms_sizes u v) = m_doorBase u := rfl
theorem m_doorBase_worths (u : MS) (v : (Nat → Int32)) : m_doorBase (ms_worths u v) = m_doorBase u := rfl
theorem m_doorBase_lies (u : MS) (v : (Nat → Int32)) : m_doorBase (ms_lies u v) = m_doorBase u := rfl
theorem m_doorBase_numbers (u : MS) (v : (Nat → Int64)) : m_doorBase (ms_numbers u v) = m_doorBase u := rfl
theorem m_doorBase_doorBase (u : MS) (v : (Nat → Int32)) : m_doorBase (ms_doorBase u v) = v := rfl
theorem m_doorBase_doorDepth (u : MS) (v : (Nat → Int32)) : m_doorBase (ms_doorDepth u v) = m_doorBase u := rfl
theorem m_doorBase_failures (u : MS) (v : Int32) : m_doorBase (ms_failures u v) = m_doorBase u := rfl
theorem m_doorBase_latest (u : MS) (v : Int32) : m_doorBase (ms_latest u v) = m_doorBase u := rfl
theorem m_doorBase_last (u : MS) (v : Int32) : m_doorBase (ms_last u v) = m_doorBase u := rfl
theorem m_doorBase_sums (u : MS) (v : (Nat → Int64)) : m_doorBase (ms_sums u v) = m_doorBase u := rfl
theorem m_doorBase_counts (u : MS) (v : (Nat → Int32)) : m_doorBase (ms_counts u v) = m_doorBase u := rfl
theorem m_doorBase_moved (u : MS) (v : (Nat → Int32)) : m_doorBase (ms_moved u v) = m_doorBase u := rfl
theorem m_doorBase_movedNumbers (u : MS) (v : (Nat → Int64)) : m_doorBase (ms_movedNumbers u v) = m_doorBase u := rfl
theorem m_doorDepth_things (u : MS) (v : Int32) : m_doorDepth (ms_things u v) = m_doorDepth u := rfl
theorem m_doorDepth_bases (u : MS) (v : (Nat → Int32)) : m_doorDepth (ms_bases u v) = m_doorDepth u := rfl
theorem m_doorDepth_depths (u : MS) (v : (Nat → Int32)) : m_doorDepth (ms_depths u v) = m_doorDepth u := rfl
theorem m_doorDepth_sizes (u : MS) (v : (Nat → Int32)) : m_doorDepth (ms_sizes u v) = m_doorDepth u := rfl
theorem m_doorDepth_worths (u : MS) (v : (Nat → Int32)) : m_doorDepth (ms_worths u v) = m_doorDepth u := rfl
theorem m_doorDepth_lies (u : MS) (v : (Nat → Int32)) : m_doorDepth (ms_lies u v) = m_doorDepth u := rfl
theorem m_doorDepth_numbers (u : MS) (v : (Nat → Int64)) : m_doorDepth (ms_numbers u v) = m_doorDepth u := rfl
theorem m_doorDepth_doorBase (u : MS) (v : (Nat → Int32)) : m_doorDepth (ms_doorBase u v) = m_doorDepth u := rfl
theorem m_doorDepth_doorDepth (u : MS) (v : (Nat → Int32)) : m_doorDepth (ms_doorDepth u v) = v := rfl
theorem m_doorDepth_failures (u : MS) (v : Int32) : m_doorDepth (ms_failures u v) = m_doorDepth u := rfl
theorem m_doorDepth_latest (u : MS) (v : Int32) : m_doorDepth (ms_latest u v) = m_doorDepth u := rfl
theorem m_doorDepth_last (u : MS) (v : Int32) : m_doorDepth (ms_last u v) = m_doorDepth u := rfl
theorem m_doorDepth_sums (u : MS) (v : (Nat → Int64)) : m_doorDepth (ms_sums u v) = m_doorDepth u := rfl
theorem m_doorDepth_counts (u : MS) (v : (Nat → Int32)) : m_doorDepth (ms_counts u v) = m_doorDepth u := rfl
theorem m_doorDepth_moved (u : MS) (v : (Nat → Int32)) : m_doorDepth (ms_moved u v) = m_doorDepth u := rfl
theorem m_doorDepth_movedNumbers (u : MS) (v : (Nat → Int64)) : m_doorDepth (ms_movedNumbers u v) = m_doorDepth u := rfl
theorem m_failures_things (u : MS) (v : Int32) : m_failures (ms_things u v) = m_failures u := rfl
theorem m_failures_bases (u : MS) (v : (Nat → Int32)) : m_failures (ms_bases u v) = m_failures u := rfl
theorem m_failures_depths (u : MS) (v : (Nat → Int32)) : m_failures (ms_depths u v) = m_failures u := rfl
theorem m_failures_sizes (u : MS) (v : (Nat → Int32)) : m_failures (ms_sizes u v) = m_failures u := rfl
theorem m_failures_worths (u : MS) (v : (Nat → Int32)) : m_failures (ms_worths u v) = m_failures u := rfl
theorem m_failures_lies (u : MS) (v : (Nat → Int32)) : m_failures (ms_lies u v) = m_failures u := rfl
theorem m_failures_numbers (u : MS) (v : (Nat → Int64)) : m_failures (ms_numbers u v) = m_failures u := rfl
theorem m_failures_doorBase (u : MS) (v : (Nat → Int32)) : m_failures (ms_doorBase u v) = m_failures u := rfl
theorem m_failures_doorDepth (u : MS) (v : (Nat → Int32)) : m_failures (ms_doorDepth u v) = m_failures u := rfl
theorem m_failures_failures (u : MS) (v : Int32) : m_failures (ms_failures u v) = v := rfl
theorem m_failures_latest (u : MS) (v : Int32) : m_failures (ms_latest u v) = m_failures u := rfl
theorem m_failures_last (u : MS) (v : Int32) : m_failures (ms_last u v) = m_failures u := rfl
theorem m_failures_sums (u : MS) (v : (Nat → Int64)) : m_failures (ms_sums u v) = m_failures u := rfl
theorem m_failures_counts (u : MS) (v : (Nat → Int32)) : m_failures (ms_counts u v) = m_failures u := rfl
theorem m_failures_moved (u : MS) (v : (Nat → Int32)) : m_failures (ms_moved u v) = m_failures u := rfl
theorem m_failures_movedNumbers (u : MS) (v : (Nat → Int64)) : m_failures (ms_movedNumbers u v) = m_failures u := rfl
theorem m_latest_things (u : MS) (v : Int32) : m_latest (ms_things u v) = m_latest u := rfl
theorem m_latest_bases (u : MS) (v : (Nat → Int32)) : m_latest (ms_bases u v) = m_latest u := rfl
theorem m_latest_depths (u : MS) (v : (Nat → Int32)) : m_latest (ms_depths u v) = m_latest u := rfl
theorem m_latest_sizes (u : MS) (v : (Nat → Int32)) : m_latest (ms_sizes u v) = m_latest u := rfl
theorem m_latest_worths (u : MS) (v : (Nat → Int32)) : m_latest (ms_worths u v) = m_latest u := rfl
theorem m_latest_lies (u : MS) (v : (Nat → Int32)) : m_latest (ms_lies u v) = m_latest u := rfl
theorem m_latest_numbers (u : MS) (v : (Nat → Int64)) : m_latest (ms_numbers u v) = m_latest u := rfl
theorem m_latest_doorBase (u : MS) (v : (Nat → Int32)) : m_latest (ms_doorBase u v) = m_latest u := rfl
theorem m_latest_doorDepth (u : MS) (v : (Nat → Int32)) : m_latest (ms_doorDepth u v) = m_latest u := rfl
theorem m_latest_failures (u : MS) (v : Int32) : m_latest (ms_failures u v) = m_latest u := rfl
theorem m_latest_latest (u : MS) (v : Int32) : m_latest (ms_latest u v) = v := rfl
theorem m_latest_last (u : MS) (v : Int32) : m_latest (ms_last u v) = m_latest u := rfl
theorem m_latest_sums (u : MS) (v : (Nat → Int64)) : m_latest (ms_sums u v) = m_latest u := rfl
theorem m_latest_counts (u : MS) (v : (Nat → Int32)) : m_latest (ms_counts u v) = m_latest u := rfl
theorem m_latest_moved (u : MS) (v : (Nat → Int32)) : m_latest (ms_moved u v) = m_latest u := rfl
theorem m_latest_movedNumbers (u : MS) (v : (Nat → Int64)) : m_latest (ms_movedNumbers u v) = m_latest u := rfl
theorem m_last_things (u : MS) (v : Int32) : m_last (ms_things u v) = m_last u := rfl
theorem m_last_bases (u : MS) (v : (Nat → Int32)) : m_last (ms_bases u v) = m_last u := rfl
theorem m_last_depths (u : MS) (v : (Nat → Int32)) : m_last (ms_depths u v) = m_last u := rfl
theorem m_last_sizes (u : MS) (v : (Nat → Int32)) : m_last (ms_sizes u v) = m_last u := rfl
theorem m_last_worths (u : MS) (v : (Nat → Int32)) : m_last (ms_worths u v) = m_last u := rfl
theorem m_last_lies (u : MS) (v : (Nat → Int32)) : m_last (ms_lies u v) = m_last u := rfl
theorem m_last_numbers (u : MS) (v : (Nat → Int64)) : m_last (ms_numbers u v) = m_last u := rfl
theorem m_last_doorBase (u : MS) (v : (Nat → Int32)) : m_last (ms_doorBase u v) = m_last u := rfl
theorem m_last_doorDepth (u : MS) (v : (Nat → Int32)) : m_last (ms_doorDepth u v) = m_last u := rfl
theorem m_last_failures (u : MS) (v : Int32) : m_last (ms_failures u v) = m_last u := rfl
theorem m_last_latest (u : MS) (v : Int32) : m_last (ms_latest u v) = m_last u := rfl
theorem m_last_last (u : MS) (v : Int32) : m_last (ms_last u v) = v := rfl
theorem m_last_sums (u : MS) (v : (Nat → Int64)) : m_last (ms_sums u v) = m_last u := rfl
theorem m_last_counts (u : MS) (v : (Nat → Int32)) : m_last (ms_counts u v) = m_last u := rfl
theorem m_last_moved (u : MS) (v : (Nat → Int32)) : m_last (ms_moved u v) = m_last u := rfl
theorem m_last_movedNumbers (u : MS) (v : (Nat → Int64)) : m_last (ms_movedNumbers u v) = m_last u := rfl
theorem m_sums_things (u : MS) (v : Int32) : m_sums (ms_things u v) = m_sums u := rfl
theorem m_sums_bases (u : MS) (v : (Nat → Int32)) : m_sums (ms_bases u v) = m_sums u := rfl
theorem m_sums_depths (u : MS) (v : (Nat → Int32)) : m_sums (ms_depths u v) = m_sums u := rfl
theorem m_sums_sizes (u : MS) (v : (Nat → Int32)) : m_sums (ms_sizes u v) = m_sums u := rfl
theorem m_sums_worths (u : MS) (v : (Nat → Int32)) : m_sums (ms_worths u v) = m_sums u := rfl
theorem m_sums_lies (u : MS) (v : (Nat → Int32)) : m_sums (ms_lies u v) = m_sums u := rfl
theorem m_sums_numbers (u : MS) (v : (Nat → Int64)) : m_sums (ms_numbers u v) = m_sums u := rfl
theorem m_sums_doorBase (u : MS) (v : (Nat → Int32)) : m_sums (ms_doorBase u v) = m_sums u := rfl
theorem m_sums_doorDepth (u : MS) (v : (Nat → Int32)) : m_sums (ms_doorDepth u v) = m_sums u := rfl
theorem m_sums_failures (u : MS) (v : Int32) : m_sums (ms_failures u v) = m_sums u := rfl
theorem m_sums_latest (u : MS) (v : Int32) : m_sums (ms_latest u v) = m_sums u := rfl
theorem m_sums_last (u : MS) (v : Int32) : m_sums (ms_last u v) = m_sums u := rfl
theorem m_sums_sums (u : MS) (v : (Nat → Int64)) : m_sums (ms_sums u v) = v := rfl
theorem m_sums_counts (u : MS) (v : (Nat → Int32)) : m_sums (ms_counts u v) = m_sums u := rfl
theorem m_sums_moved (u : MS) (v : (Nat → Int32)) : m_sums (ms_moved u v) = m_sums u := rfl
theorem m_sums_movedNumbers (u : MS) (v : (Nat → Int64)) : m_sums (ms_movedNumbers u v) = m_sums u := rfl
theorem m_counts_things (u : MS) (v : Int32) : m_counts (ms_things u v) = m_counts u := rfl
theorem m_counts_bases (u : MS) (v : (Nat → Int32)) : m_counts (ms_bases u v) = m_counts u := rfl
theorem m_counts_depths (u : MS) (v : (Nat → Int32)) : m_counts (ms_depths u v) = m_counts u := rfl
theorem m_counts_sizes (u : MS) (v : (Nat → Int32)) : m_counts (ms_sizes u v) = m_counts u := rfl
theorem m_counts_worths (u : MS) (v : (Nat → Int32)) : m_counts (ms_worths u v) = m_counts u := rfl
theorem m_counts_lies (u : MS) (v : (Nat → Int32)) : m_counts (ms_lies u v) = m_counts u := rfl
theorem m_counts_numbers (u : MS) (v : (Nat → Int64)) : m_counts (ms_numbers u v) = m_counts u := rfl
theorem m_counts_doorBase (u : MS) (v : (Nat → Int32)) : m_counts (ms_doorBase u v) = m_counts u := rfl
theorem m_counts_doorDepth (u : MS) (v : (Nat → Int32)) : m_counts (ms_doorDepth u v) = m_counts u := rfl
theorem m_counts_failures (u : MS) (v : Int32) : m_counts (ms_failures u v) = m_counts u := rfl
theorem m_counts_latest (u : MS) (v : Int32) : m_counts (ms_latest u v) = m_counts u := rfl
theorem m_counts_last (u : MS) (v : Int32) : m_counts (ms_last u v) = m_counts u := rfl
theorem m_counts_sums (u : MS) (v : (Nat → Int64)) : m_counts (ms_sums u v) = m_counts u := rfl
theorem m_counts_counts (u : MS) (v : (Nat → Int32)) : m_counts (ms_counts u v) = v := rfl
theorem m_counts_moved (u : MS) (v : (Nat → Int32)) : m_counts (ms_moved u v) = m_counts u := rfl
theorem m_counts_movedNumbers (u : MS) (v : (Nat → Int64)) : m_counts (ms_movedNumbers u v) = m_counts u := rfl
theorem m_moved_things (u : MS) (v : Int32) : m_moved (ms_things u v) = m_moved u := rfl
theorem m_moved_bases (u : MS) (v : (Nat → Int32)) : m_moved (ms_bases u v) = m_moved u := rfl
theorem m_moved_depths (u : MS) (v : (Nat → Int32)) : m_moved (ms_depths u v) = m_moved u := rfl
theorem m_moved_sizes (u : MS) (v : (Nat → Int32)) : m_moved (ms_sizes u v) = m_moved u := rfl
theorem m_moved_worths (u : MS) (v : (Nat → Int32)) : m_moved (ms_worths u v) = m_moved u := rfl
theorem m_moved_lies (u : MS) (v : (Nat → Int32)) : m_moved (ms_lies u v) = m_moved u := rfl
theorem m_moved_numbers (u : MS) (v : (Nat → Int64)) : m_moved (ms_numbers u v) = m_moved u := rfl
theorem m_moved_doorBase (u : MS) (v : (Nat → Int32)) : m_moved (ms_doorBase u v) = m_moved u := rfl
theorem m_moved_doorDepth (u : MS) (v : (Nat → Int32)) : m_moved (ms_doorDepth u v) = m_moved u := rfl
theorem m_moved_failures (u : MS) (v : Int32) : m_moved (ms_failures u v) = m_moved u := rfl
theorem m_moved_latest (u : MS) (v : Int32) : m_moved (ms_latest u v) = m_moved u := rfl
theorem m_moved_last (u : MS) (v : Int32) : m_moved (ms_last u v) = m_moved u := rfl
theorem m_moved_sums (u : MS) (v : (Nat → Int64)) : m_moved (ms_sums u v) = m_moved u := rfl
theorem m_moved_counts (u : MS) (v : (Nat → Int32)) : m_moved (ms_counts u v) = m_moved u := rfl
theorem m_moved_moved (u : MS) (v : (Nat → Int32)) : m_moved (ms_moved u v) = v := rfl
theorem m_moved_movedNumbers (u : MS) (v : (Nat → Int64)) : m_moved (ms_movedNumbers u v) = m_moved u := rfl
theorem m_movedNumbers_things (u : MS) (v : Int32) : m_movedNumbers (ms_things u v) = m_movedNumbers u := rfl
theorem m_movedNumbers_bases (u : MS) (v : (Nat → Int32)) : m_movedNumbers (ms_bases u v) = m_movedNumbers u := rfl
theorem m_movedNumbers_depths (u : MS) (v : (Nat → Int32)) : m_movedNumbers (ms_depths u v) = m_movedNumbers u := rfl
theorem m_movedNumbers_sizes (u : MS) (v : (Nat → Int32)) : m_movedNumbers (ms_sizes u v) = m_movedNumbers u := rfl
theorem m_movedNumbers_worths (u : MS) (v : (Nat → Int32)) : m_movedNumbers (ms_worths u v) = m_movedNumbers u := rfl
theorem m_movedNumbers_lies (u : MS) (v : (Nat → Int32)) : m_movedNumbers (ms_lies u v) = m_movedNumbers u := rfl
theorem m_movedNumbers_numbers (u : MS) (v : (Nat → Int64)) : m_movedNumbers (ms_numbers u v) = m_movedNumbers u := rfl
theorem m_movedNumbers_doorBase (u : MS) (v : (Nat → Int32)) : m_movedNumbers (ms_doorBase u v) = m_movedNumbers u := rfl
theorem m_movedNumbers_doorDepth (u : MS) (v : (Nat → Int32)) : m_movedNumbers (ms_doorDepth u v) = m_movedNumbers u := rfl
theorem m_movedNumbers_failures (u : MS) (v : Int32) : m_movedNumbers (ms_failures u v) = m_movedNumbers u := rfl
theorem m_movedNumbers_latest (u : MS) (v : Int32) : m_movedNumbers (ms_latest u v) = m_movedNumbers u := rfl
theorem m_movedNumbers_last (u : MS) (v : Int32) : m_movedNumbers (ms_last u v) = m_movedNumbers u := rfl
theorem m_movedNumbers_sums (u : MS) (v : (Nat → Int64)) : m_movedNumbers (ms_sums u v) = m_movedNumbers u := rfl
theorem m_movedNumbers_counts (u : MS) (v : (Nat → Int32)) : m_movedNumbers (ms_counts u v) = m_movedNumbers u := rfl
theorem m_movedNumbers_moved (u : MS) (v : (Nat → Int32)) : m_movedNumbers (ms_moved u v) = m_movedNumbers u := rfl
theorem m_movedNumbers_movedNumbers (u : MS) (v : (Nat → Int64)) : m_movedNumbers (ms_movedNumbers u v) = v := rfl
def fM (ad : Nat → Nat) (u : MS) : List Value := [.int (m_things u), .ref (ad 1), .ref (ad 2), .ref (ad 3), .ref (ad 4), .ref (ad 5), .ref (ad 6), .ref (ad 7), .ref (ad 8), .int (m_failures u), .int (m_latest u), .int (m_last u), .ref (ad 9), .ref (ad 10), .ref (ad 11), .ref (ad 12)]
def wM (ad : Nat → Nat) (ca : Nat → ClassId) (u : MS) : va_W := [(ad 0, .inr (1, fM ad u)), (ad 1, .inl (ca 1, 60, .inl (m_bases u))), (ad 2, .inl (ca 2, 60, .inl (m_depths u))), (ad 3, .inl (ca 3, 60, .inl (m_sizes u))), (ad 4, .inl (ca 4, 60, .inl (m_worths u))), (ad 5, .inl (ca 5, 480, .inl (m_lies u))), (ad 6, .inl (ca 6, 480, .inr (.inl (m_numbers u)))), (ad 7, .inl (ca 7, 8, .inl (m_doorBase u))), (ad 8, .inl (ca 8, 8, .inl (m_doorDepth u))), (ad 9, .inl (ca 9, 60, .inr (.inl (m_sums u)))), (ad 10, .inl (ca 10, 60, .inl (m_counts u))), (ad 11, .inl (ca 11, 8, .inl (m_moved u))), (ad 12, .inl (ca 12, 8, .inr (.inl (m_movedNumbers u))))]
def tM (ca : Nat → ClassId) : List (ClassId × FieldType) := [(ca 1, .int), (ca 2, .int), (ca 3, .int), (ca 4, .int), (ca 5, .int), (ca 6, .long), (ca 7, .int), (ca 8, .int), (ca 9, .long), (ca 10, .int), (ca 11, .int), (ca 12, .long)]
theorem wM_same (ad : Nat → Nat) (ca : Nat → ClassId) (u v : MS) : (wM ad ca u).map (fun q => q.1) = (wM ad ca v).map (fun q => q.1) := rfl
def EnM (p : Program) (s : State) (m : MethodId) (c : Code) (args : Array Value) (cc : ByteArray) (nL : Nat) (meth : Method) (rt : Option FieldType) (D : va_G) (ca : Nat → ClassId) (g : Nat) (A : Nat → Prop) : Prop :=
  CallFix p m c cc nL s args kT RX1 ∧ meth.sig.returnType = rt ∧ meth.locks = false ∧ va_K D kC (tM ca) s ∧ zM g A s s.heap ∧ (∀ q : Nat, s.heap.size ≤ q → A q)
def SM (D : va_G) (ad : Nat → Nat) (ca : Nat → ClassId) (A : Nat → Prop) (s : State) (u : MS) (H : Heap) (locs : List Loc) : Prop := va_P D kC (wM ad ca u) H ∧ va_D A (wM ad ca u) ∧ va_S A s.heap H locs
def PreM (D : va_G) (ad : Nat → Nat) (ca : Nat → ClassId) (g sz : Nat) (u : MS) (U : State) : Prop := U.heap.size = sz ∧ va_P D kC (wM ad ca u) U.heap ∧ va_K D kC (tM ca) U ∧ va_D (fun _ => True) (wM ad ca u) ∧ zM g (va_A (wM ad ca u) sz) U U.heap
def BkM (D : va_G) (ad : Nat → Nat) (ca : Nat → ClassId) (v : MS) (t : State) : Prop := va_P D kC (wM ad ca v) t.heap
/-- contracts: an int (or 0, 1), a long, nothing -/
def CiM (l : Launch) (y : MethodName) (cc : ByteArray) (nL : Nat) (rt : FieldType) (k : Nat) (D : va_G) (ad : Nat → Nat) (ca : Nat → ClassId) (g : Nat) (As : List Value) (u : MS) (rv : Int32 × MS) : Prop :=
  ∀ sz : Nat, Met l y (kW y cc nL (some rt)) (rk k) (va_Pc (.ref (ad 0) :: As) (PreM D ad ca g sz u)) (va_Qi (fun r' v => (r', v) = rv) (BkM D ad ca) (va_A (wM ad ca u) sz)) 0 0 (va_A (wM ad ca u) sz)
def ClM (l : Launch) (y : MethodName) (cc : ByteArray) (nL : Nat) (k : Nat) (D : va_G) (ad : Nat → Nat) (ca : Nat → ClassId) (g : Nat) (As : List Value) (u : MS) (rv : Int64 × MS) : Prop :=
  ∀ sz : Nat, Met l y (kW y cc nL (some .long)) (rk k) (va_Pc (.ref (ad 0) :: As) (PreM D ad ca g sz u)) (va_Ql (fun r' v => (r', v) = rv) (BkM D ad ca) (va_A (wM ad ca u) sz)) 0 0 (va_A (wM ad ca u) sz)
def CvM (l : Launch) (y : MethodName) (cc : ByteArray) (nL : Nat) (k : Nat) (D : va_G) (ad : Nat → Nat) (ca : Nat → ClassId) (g : Nat) (As : List Value) (u u' : MS) : Prop :=
  ∀ sz : Nat, Met l y (kW y cc nL none) (rk k) (va_Pc (.ref (ad 0) :: As) (PreM D ad ca g sz u)) (va_Qv (fun v => v = u') (BkM D ad ca) (va_A (wM ad ca u) sz)) 0 0 (va_A (wM ad ca u) sz)
section RowsM
variable {p : Program} {l : Launch} {e : Env} {R : Room} {s : State} {m : MethodId} {args : Array Value} {below : List Frame} {meth : Method} {c : Code} {H : Heap} {locs : List Loc} {cells slots : Nat} {Q : State → Prop}
variable {cc : ByteArray} {pc nL : Nat} {rt : Option FieldType} {ls : Array Slot} {D : va_G} {ad : Nat → Nat} {ca : Nat → ClassId} {g : Nat} {A : Nat → Prop} {u : MS}
theorem zM_at (E : EnM p s m c args cc nL meth rt D ca g A) (S : SM D ad ca A s u H locs) {B : Nat → Prop} (hB : ∀ q, B q → A q) {U : State} (hU : U.heap = H) (hvm : s.vm.Alike U.vm) : zM g B U U.heap := by
  rw [hU]
  exact ((E.2.2.2.2.1.kept S.2.2.2.1).narrow hB).moved hvm
theorem frM (E : EnM p s m c args cc nL meth rt D ca g A) (S : SM D ad ca A s u H locs) : ∀ q, va_A (wM ad ca u) H.size q → A q :=
  va_free (wc := wM ad ca u) S.2.1 S.2.2 E.2.2.2.2.2 [0, 1, 2, 3, 4, 5, 6, 7, 8, 9, 10, 11, 12] rfl
theorem CiM.of {y : MethodName} {k : Nat} {As : List Value} {rv : Int32 × MS} {rt1 : FieldType} (hy : plainName y.cls = true) (hyc : y.cls = RX1) (hlen : (lg_sl (.ref (ad 0) :: As)).length ≤ nL)
    (body : ∀ (p : Program) (e : Env) (s : State) (m : MethodId) (below : List Frame) (meth : Method) (c : Code) (A : Nat → Prop) (ls : Array Slot), EnM p s m c (Value.ref (ad 0) :: As).toArray cc nL meth (some rt1) D ca g A → SM D ad ca A s u s.heap [] → lv_has ls nL (lv_args 0 (.ref (ad 0) :: As)) → W p l e (rk k) s m (Value.ref (ad 0) :: As).toArray below meth c s.heap [] 0 0 (MQ below (va_Qi (fun r' v => (r', v) = rv) (BkM D ad ca) A) (Value.ref (ad 0) :: As).toArray s 0 0 A) (F0 m 0 ls [])) : CiM l y cc nL rt1 k D ad ca g As u rv := by
  intro sz
  refine Met.ofW (cc := cc) (maxL := nL) (ret := (some rt1)) hy rfl ?_
  intro p e s m args below meth c s₁ B hml hv
  obtain ⟨rfl, hsz, hP, hK, hD0, hZ⟩ := hv
  have hts := atoms_spec (ws := kW y cc nL (some rt1)) B.pre
  have hown := findClass_of_methodNamed B.named
  rw [hyc] at hown
  subst hsz
  have hl := lv_entry (.ref (ad 0) :: As) (n := nL) hlen
  rw [lg_entry_eq]
  generalize (lg_sl (.ref (ad 0) :: As) ++ List.replicate (nL - (lg_sl (.ref (ad 0) :: As)).length) Slot.unset).toArray = ls at hl ⊢
  exact body p e s m below meth c _ ls ⟨⟨B.exec, B.bytes, hml, hown, fun w h => hts w (List.mem_cons_of_mem _ h)⟩, B.returns, B.notSynchronized, hK, hZ, fun q h => Or.inr h⟩ ⟨hP, hD0.self, va_S.rf⟩ hl
theorem EnM.iret {rt1 : FieldType} {r : Int32} {v : MS} {rv : Int32 × MS} (E : EnM p s m c args cc nL meth (some rt1) D ca g A) (S : SM D ad ca A s v H locs) (hn : ni rt1 r) (h : (r, v) = rv) (hdg : decode cc pc = .ok (.ireturn, 1)) : W p l e R s m args below meth c H locs 0 0 (MQ below (va_Qi (fun r' v => (r', v) = rv) (BkM D ad ca) A) args s 0 0 A) (F0 m pc ls [.int r]) :=
  W.zret E.1.1 E.1.2.1 E.2.1 hn (fun t ht _ => ⟨⟨r, v, rfl, h, show va_P D kC (wM ad ca v) t.heap by rw [ht]; exact S.1⟩, S.2.2.F ht⟩) S.2.2.2.2 hdg E.2.2.1
theorem EnM.calli {y : MethodName} {cc2 : ByteArray} {nL2 j idx : Nat} {rt2 : FieldType} {r : Int32} {u2 : MS} {st : List Value} (E : EnM p s m c args cc nL meth rt D ca g A) (S : SM D ad ca A s u H locs) (As rest : List Value) (hM : CiM l y cc2 nL2 rt2 j D ad ca g As u (r, u2)) (hG : GoodIn kT (wsV RX1 idx RX1 y (kW y cc2 nL2 (some rt2))))
    (hd : y.cls = RX1 ∧ y.cls ≠ "java/lang/invoke/MethodHandle" ∧ y.cls ≠ "java/lang/invoke/VarHandle" ∧ (parseMethodDescriptor y.desc).map (fun d => d.parameters.length) = some As.length) (hR : (rk j).frames + 1 ≤ R.frames ∧ 8 + (nL2 + 11) + (rk j).locals ≤ R.locals) (hst : st = As.reverse ++ .ref (ad 0) :: rest) (hsize : ls.size = nL) (hroom : (rest.map fun v => v.category).sum ≤ 8) (hc : cells ≤ R.cells ∧ slots ≤ R.slots) (hdg : decode cc pc = .ok (.invokevirtual idx, 3))
    (kk : ∀ (H1 : Heap) (locs1 : List Loc), SM D ad ca A s u2 H1 locs1 → W p l e R s m args below meth c H1 locs1 cells slots Q (F0 m (pc + 3) ls (.int r :: rest))) : W p l e R s m args below meth c H locs cells slots Q (F0 m pc ls st) := by
  have hF := frM E S
  refine va_calli (va_runV (As := As) (rest := rest) E.1 (hM H.size) (cwV As.length E.1.2.2.2.2 hG rfl rfl rfl hd hR) ⟨fun a U g mk q => ?_, va_recv E.2.2.2.1 S.1 (ci := 1) (q0 := 0) rfl rfl, fun U hU hW => ⟨rfl, by rw [hU], by rw [hU]; exact S.1, va_K.moved hW.alike E.2.2.2.1, S.2.1.weaken (fun _ _ _ _ => trivial), zM_at E S hF hU hW.alike⟩⟩ rfl rfl hsize hst (lv_room hroom) hdg hc) S.2.2 (fun q _ h => hF q h) hF (fun r1 v t H1 locs1 ht hvm hw hB hz1 hk1 hS1 => ?_)
  · obtain ⟨q0, q1, qP, qK, qD, qZ⟩ := q
    exact ⟨q0, q1, qP, va_K.moved (u := U) (U := U.calling g mk a) (Vm.Alike.refl U.vm) qK, qD, zM.moved (u := U) (U := U.calling g mk a) (Vm.Alike.refl U.vm) qZ⟩
  · obtain ⟨rfl, rfl⟩ := Prod.mk.inj hw
    refine kk H1 locs1 ⟨?_, dd_same (wM_same ad ca u _) S.2.1, hS1⟩
    rw [← ht]
    exact hB
theorem ClM.of {y : MethodName} {k : Nat} {As : List Value} {rv : Int64 × MS} (hy : plainName y.cls = true) (hyc : y.cls = RX1) (hlen : (lg_sl (.ref (ad 0) :: As)).length ≤ nL)
    (body : ∀ (p : Program) (e : Env) (s : State) (m : MethodId) (below : List Frame) (meth : Method) (c : Code) (A : Nat → Prop) (ls : Array Slot), EnM p s m c (Value.ref (ad 0) :: As).toArray cc nL meth (some .long) D ca g A → SM D ad ca A s u s.heap [] → lv_has ls nL (lv_args 0 (.ref (ad 0) :: As)) → W p l e (rk k) s m (Value.ref (ad 0) :: As).toArray below meth c s.heap [] 0 0 (MQ below (va_Ql (fun r' v => (r', v) = rv) (BkM D ad ca) A) (Value.ref (ad 0) :: As).toArray s 0 0 A) (F0 m 0 ls [])) : ClM l y cc nL k D ad ca g As u rv := by
  intro sz
  refine Met.ofW (cc := cc) (maxL := nL) (ret := (some .long)) hy rfl ?_
  intro p e s m args below meth c s₁ B hml hv
  obtain ⟨rfl, hsz, hP, hK, hD0, hZ⟩ := hv
  have hts := atoms_spec (ws := kW y cc nL (some .long)) B.pre
  have hown := findClass_of_methodNamed B.named
  rw [hyc] at hown
  subst hsz
  have hl := lv_entry (.ref (ad 0) :: As) (n := nL) hlen
  rw [lg_entry_eq]
  generalize (lg_sl (.ref (ad 0) :: As) ++ List.replicate (nL - (lg_sl (.ref (ad 0) :: As)).length) Slot.unset).toArray = ls at hl ⊢
  exact body p e s m below meth c _ ls ⟨⟨B.exec, B.bytes, hml, hown, fun w h => hts w (List.mem_cons_of_mem _ h)⟩, B.returns, B.notSynchronized, hK, hZ, fun q h => Or.inr h⟩ ⟨hP, hD0.self, va_S.rf⟩ hl
theorem EnM.lret {r : Int64} {v : MS} {rv : Int64 × MS} (E : EnM p s m c args cc nL meth (some .long) D ca g A) (S : SM D ad ca A s v H locs) (h : (r, v) = rv) (hdg : decode cc pc = .ok (.lreturn, 1)) : W p l e R s m args below meth c H locs 0 0 (MQ below (va_Ql (fun r' v => (r', v) = rv) (BkM D ad ca) A) args s 0 0 A) (F0 m pc ls [.long r]) :=
  W.lret E.1.1 E.1.2.1 E.2.1 (fun t ht _ => ⟨⟨r, v, rfl, h, show va_P D kC (wM ad ca v) t.heap by rw [ht]; exact S.1⟩, S.2.2.F ht⟩) S.2.2.2.2 hdg E.2.2.1
theorem EnM.calll {y : MethodName} {cc2 : ByteArray} {nL2 j idx : Nat} {r : Int64} {u2 : MS} {st : List Value} (E : EnM p s m c args cc nL meth rt D ca g A) (S : SM D ad ca A s u H locs) (As rest : List Value) (hM : ClM l y cc2 nL2 j D ad ca g As u (r, u2)) (hG : GoodIn kT (wsV RX1 idx RX1 y (kW y cc2 nL2 (some .long))))
    (hd : y.cls = RX1 ∧ y.cls ≠ "java/lang/invoke/MethodHandle" ∧ y.cls ≠ "java/lang/invoke/VarHandle" ∧ (parseMethodDescriptor y.desc).map (fun d => d.parameters.length) = some As.length) (hR : (rk j).frames + 1 ≤ R.frames ∧ 8 + (nL2 + 11) + (rk j).locals ≤ R.locals) (hst : st = As.reverse ++ .ref (ad 0) :: rest) (hsize : ls.size = nL) (hroom : (rest.map fun v => v.category).sum ≤ 8) (hc : cells ≤ R.cells ∧ slots ≤ R.slots) (hdg : decode cc pc = .ok (.invokevirtual idx, 3))
    (kk : ∀ (H1 : Heap) (locs1 : List Loc), SM D ad ca A s u2 H1 locs1 → W p l e R s m args below meth c H1 locs1 cells slots Q (F0 m (pc + 3) ls (.long r :: rest))) : W p l e R s m args below meth c H locs cells slots Q (F0 m pc ls st) := by
  have hF := frM E S
  refine va_calll (va_runV (As := As) (rest := rest) E.1 (hM H.size) (cwV As.length E.1.2.2.2.2 hG rfl rfl rfl hd hR) ⟨fun a U g mk q => ?_, va_recv E.2.2.2.1 S.1 (ci := 1) (q0 := 0) rfl rfl, fun U hU hW => ⟨rfl, by rw [hU], by rw [hU]; exact S.1, va_K.moved hW.alike E.2.2.2.1, S.2.1.weaken (fun _ _ _ _ => trivial), zM_at E S hF hU hW.alike⟩⟩ rfl rfl hsize hst (lv_room hroom) hdg hc) S.2.2 (fun q _ h => hF q h) hF (fun r1 v t H1 locs1 ht hvm hw hB hz1 hk1 hS1 => ?_)
  · obtain ⟨q0, q1, qP, qK, qD, qZ⟩ := q
    exact ⟨q0, q1, qP, va_K.moved (u := U) (U := U.calling g mk a) (Vm.Alike.refl U.vm) qK, qD, zM.moved (u := U) (U := U.calling g mk a) (Vm.Alike.refl U.vm) qZ⟩
  · obtain ⟨rfl, rfl⟩ := Prod.mk.inj hw
    refine kk H1 locs1 ⟨?_, dd_same (wM_same ad ca u _) S.2.1, hS1⟩
    rw [← ht]
    exact hB
theorem CvM.of {y : MethodName} {k : Nat} {As : List Value} {u2 : MS} (hy : plainName y.cls = true) (hyc : y.cls = RX1) (hlen : (lg_sl (.ref (ad 0) :: As)).length ≤ nL)
    (body : ∀ (p : Program) (e : Env) (s : State) (m : MethodId) (below : List Frame) (meth : Method) (c : Code) (A : Nat → Prop) (ls : Array Slot), EnM p s m c (Value.ref (ad 0) :: As).toArray cc nL meth none D ca g A → SM D ad ca A s u s.heap [] → lv_has ls nL (lv_args 0 (.ref (ad 0) :: As)) → W p l e (rk k) s m (Value.ref (ad 0) :: As).toArray below meth c s.heap [] 0 0 (MQ below (va_Qv (fun v => v = u2) (BkM D ad ca) A) (Value.ref (ad 0) :: As).toArray s 0 0 A) (F0 m 0 ls [])) : CvM l y cc nL k D ad ca g As u u2 := by
  intro sz
  refine Met.ofW (cc := cc) (maxL := nL) (ret := none) hy rfl ?_
  intro p e s m args below meth c s₁ B hml hv
  obtain ⟨rfl, hsz, hP, hK, hD0, hZ⟩ := hv
  have hts := atoms_spec (ws := kW y cc nL none) B.pre
  have hown := findClass_of_methodNamed B.named
  rw [hyc] at hown
  subst hsz
  have hl := lv_entry (.ref (ad 0) :: As) (n := nL) hlen
  rw [lg_entry_eq]
  generalize (lg_sl (.ref (ad 0) :: As) ++ List.replicate (nL - (lg_sl (.ref (ad 0) :: As)).length) Slot.unset).toArray = ls at hl ⊢
  exact body p e s m below meth c _ ls ⟨⟨B.exec, B.bytes, hml, hown, fun w h => hts w (List.mem_cons_of_mem _ h)⟩, B.returns, B.notSynchronized, hK, hZ, fun q h => Or.inr h⟩ ⟨hP, hD0.self, va_S.rf⟩ hl
theorem EnM.vret {v u2 : MS} (E : EnM p s m c args cc nL meth none D ca g A) (S : SM D ad ca A s v H locs) (h : v = u2) (hdg : decode cc pc = .ok (.return_, 1)) : W p l e R s m args below meth c H locs 0 0 (MQ below (va_Qv (fun v => v = u2) (BkM D ad ca) A) args s 0 0 A) (F0 m pc ls []) :=
  W.vret E.1.1 E.1.2.1 E.2.1 (fun t ht _ => ⟨⟨v, rfl, h, show va_P D kC (wM ad ca v) t.heap by rw [ht]; exact S.1⟩, S.2.2.F ht⟩) S.2.2.2.2 hdg E.2.2.1
theorem EnM.callv {y : MethodName} {cc2 : ByteArray} {nL2 j idx : Nat} {u2 : MS} {st : List Value} (E : EnM p s m c args cc nL meth rt D ca g A) (S : SM D ad ca A s u H locs) (As rest : List Value) (hM : CvM l y cc2 nL2 j D ad ca g As u u2) (hG : GoodIn kT (wsV RX1 idx RX1 y (kW y cc2 nL2 none)))
    (hd : y.cls = RX1 ∧ y.cls ≠ "java/lang/invoke/MethodHandle" ∧ y.cls ≠ "java/lang/invoke/VarHandle" ∧ (parseMethodDescriptor y.desc).map (fun d => d.parameters.length) = some As.length) (hR : (rk j).frames + 1 ≤ R.frames ∧ 8 + (nL2 + 11) + (rk j).locals ≤ R.locals) (hst : st = As.reverse ++ .ref (ad 0) :: rest) (hsize : ls.size = nL) (hroom : (rest.map fun v => v.category).sum ≤ 8) (hc : cells ≤ R.cells ∧ slots ≤ R.slots) (hdg : decode cc pc = .ok (.invokevirtual idx, 3))
    (kk : ∀ (H1 : Heap) (locs1 : List Loc), SM D ad ca A s u2 H1 locs1 → W p l e R s m args below meth c H1 locs1 cells slots Q (F0 m (pc + 3) ls (rest))) : W p l e R s m args below meth c H locs cells slots Q (F0 m pc ls st) := by
  have hF := frM E S
  refine va_callv (va_runV (As := As) (rest := rest) E.1 (hM H.size) (cwV As.length E.1.2.2.2.2 hG rfl rfl rfl hd hR) ⟨fun a U g mk q => ?_, va_recv E.2.2.2.1 S.1 (ci := 1) (q0 := 0) rfl rfl, fun U hU hW => ⟨rfl, by rw [hU], by rw [hU]; exact S.1, va_K.moved hW.alike E.2.2.2.1, S.2.1.weaken (fun _ _ _ _ => trivial), zM_at E S hF hU hW.alike⟩⟩ rfl rfl hsize hst (lv_room hroom) hdg hc) S.2.2 (fun q _ h => hF q h) hF (fun v t H1 locs1 ht hvm hw hB hz1 hk1 hS1 => ?_)
  · obtain ⟨q0, q1, qP, qK, qD, qZ⟩ := q
    exact ⟨q0, q1, qP, va_K.moved (u := U) (U := U.calling g mk a) (Vm.Alike.refl U.vm) qK, qD, zM.moved (u := U) (U := U.calling g mk a) (Vm.Alike.refl U.vm) qZ⟩
  · subst hw
    refine kk H1 locs1 ⟨?_, dd_same (wM_same ad ca u _) S.2.1, hS1⟩
    rw [← ht]
    exact hB
theorem EnM.sti {y : MethodName} {cc2 : ByteArray} {nL2 j idx : Nat} {rt2 : FieldType} {Z : State → Prop} {r : Int32} {st : List Value} (E : EnM p s m c args cc nL meth rt D ca g A) (S : SM D ad ca A s u H locs) (As rest : List Value) (hM : Cs l y cc2 nL2 rt2 j Z As r) (hZb : ∀ (a : Array Value) (U : State) (g : JFrame) (mk : MethodId), Z U → Z (U.calling g mk a)) (hZ : ∀ U : State, U.heap = H → s.vm.Alike U.vm → Z U) (hG : GoodIn kT (va_wsS RX1 idx y (kW y cc2 nL2 (some rt2))))
    (hd : y.cls ≠ "java/lang/invoke/MethodHandle" ∧ y.cls ≠ "java/lang/invoke/VarHandle" ∧ (parseMethodDescriptor y.desc).map (fun d => d.parameters.length) = some As.length) (hR : (rk j).frames + 1 ≤ R.frames ∧ 8 + (nL2 + 11) + (rk j).locals ≤ R.locals) (hst : st = As.reverse ++ rest) (hsize : ls.size = nL) (hroom : (rest.map fun v => v.category).sum ≤ 8) (hc : cells ≤ R.cells ∧ slots ≤ R.slots) (hdg : decode cc pc = .ok (.invokestatic idx, 3))
    (kk : ∀ (H1 : Heap) (locs1 : List Loc), SM D ad ca A s u H1 locs1 → W p l e R s m args below meth c H1 locs1 cells slots Q (F0 m (pc + 3) ls (.int r :: rest))) : W p l e R s m args below meth c H locs cells slots Q (F0 m pc ls st) := by
  refine va_calli (A0 := A) (va_runS (As := As) (rest := rest) E.1 hM (va_cwS As.length E.1.2.2.2.2 hG rfl rfl rfl hd hR) ⟨fun a U g mk q => ⟨q.1, hZb a U g mk q.2⟩, fun U hU hW => ⟨rfl, hZ U hU hW.alike⟩⟩ rfl rfl hsize hst (lv_room hroom) hdg hc) S.2.2 (fun q _ h => h.elim) (fun q h => h.elim) (fun r1 v t H1 locs1 ht hvm hw hB hz1 hk1 hS1 => ?_)
  subst hw
  exact kk H1 locs1 ⟨S.1.kept (fun k q hq => hk1 q.1 ((S.1 k q hq).lt) (fun h => h)), S.2.1, hS1⟩
theorem gM_things {v : Int32} {rest : List Value} (E : EnM p s m c args cc nL meth rt D ca g A) (S : SM D ad ca A s u H locs) (hv : m_things u = v) (hdg : decode cc pc = .ok (.getfield 57, 3)) (kk : W p l e R s m args below meth c H locs cells slots Q (F0 m (pc + 3) ls (.int v :: rest))) : W p l e R s m args below meth c H locs cells slots Q (F0 m pc ls (.ref (ad 0) :: rest)) := by
  subst hv
  exact va_get (D := D) (ci := 1) (v := .int (m_things u)) (C := RX1) (T := TX1) (N := 16) E.1.1 E.1.2.1 E.1.2.2.2.2 wI_X1 E.1.2.2.2.1 E.2.2.2.1 S.1 0 rfl rfl 0 (by decide) (E.1.2.2.2.2 _ wf_X1_57) (fun _ h9 => h9) rfl hdg kk
theorem pM_things {v : Int32} {rest : List Value} (E : EnM p s m c args cc nL meth rt D ca g A) (S : SM D ad ca A s u H locs) (hdg : decode cc pc = .ok (.putfield 57, 3)) (kk : ∀ (H1 : Heap) (locs1 : List Loc), SM D ad ca A s (ms_things u v) H1 locs1 → W p l e R s m args below meth c H1 locs1 cells slots Q (F0 m (pc + 3) ls rest)) : W p l e R s m args below meth c H locs cells slots Q (F0 m pc ls (.int v :: .ref (ad 0) :: rest)) :=
  va_put (D := D) (ci := 1) (v := .int v) (ty := .int) (C := RX1) (T := TX1) (N := 16) E.1.1 E.1.2.1 E.1.2.2.2.2 wI_X1 tyX1 tyX1_ok nmX1 E.1.2.2.2.1 E.2.2.2.1 S.1 S.2.1 S.2.2 0 rfl rfl 0 (by decide) (E.1.2.2.2.2 _ wf_X1_57) (fun _ h9 => h9) rfl (by decide +kernel) rfl rfl (Nat.le_of_ble_eq_true rfl) hdg (fun H1 locs1 hP hD hS => kk H1 locs1 ⟨hP, hD, hS⟩)
theorem gM_bases {rest : List Value} (E : EnM p s m c args cc nL meth rt D ca g A) (S : SM D ad ca A s u H locs) (hdg : decode cc pc = .ok (.getfield 7, 3)) (kk : W p l e R s m args below meth c H locs cells slots Q (F0 m (pc + 3) ls (.ref (ad 1) :: rest))) : W p l e R s m args below meth c H locs cells slots Q (F0 m pc ls (.ref (ad 0) :: rest)) := by
  exact va_get (D := D) (ci := 1) (v := .ref (ad 1)) (C := RX1) (T := TX1) (N := 16) E.1.1 E.1.2.1 E.1.2.2.2.2 wI_X1 E.1.2.2.2.1 E.2.2.2.1 S.1 0 rfl rfl 1 (by decide) (E.1.2.2.2.2 _ wf_X1_7) (fun _ h9 => h9) rfl hdg kk
theorem lM_bases {i : Int32} {v : Int32} {rest : List Value} (E : EnM p s m c args cc nL meth rt D ca g A) (S : SM D ad ca A s u H locs) (hin : vp_in i 60) (hv : m_bases u i.toNatClampNeg = v) (hdg : decode cc pc = .ok (.iaload, 1)) (kk : W p l e R s m args below meth c H locs cells slots Q (F0 m (pc + 1) ls (.int v :: rest))) : W p l e R s m args below meth c H locs cells slots Q (F0 m pc ls (.int i :: .ref (ad 1) :: rest)) := by
  subst hv
  exact va_iald E.1.1 E.1.2.1 E.2.2.2.1 S.1 1 0 rfl rfl hin hdg kk
theorem sM_bases {i : Int32} {v : Int32} {rest : List Value} (E : EnM p s m c args cc nL meth rt D ca g A) (S : SM D ad ca A s u H locs) (hin : vp_in i 60) (hdg : decode cc pc = .ok (.iastore, 1)) (kk : ∀ (H1 : Heap) (locs1 : List Loc), SM D ad ca A s (ms_bases u (upd (m_bases u) i.toNatClampNeg v)) H1 locs1 → W p l e R s m args below meth c H1 locs1 cells slots Q (F0 m (pc + 1) ls rest)) : W p l e R s m args below meth c H locs cells slots Q (F0 m pc ls (.int v :: .int i :: .ref (ad 1) :: rest)) :=
  va_iast E.1.1 E.1.2.1 E.2.2.2.1 S.1 S.2.1 S.2.2 1 0 rfl rfl hin hdg (fun H1 locs1 hP hD hS => kk H1 locs1 ⟨hP, hD, hS⟩)
theorem gM_depths {rest : List Value} (E : EnM p s m c args cc nL meth rt D ca g A) (S : SM D ad ca A s u H locs) (hdg : decode cc pc = .ok (.getfield 13, 3)) (kk : W p l e R s m args below meth c H locs cells slots Q (F0 m (pc + 3) ls (.ref (ad 2) :: rest))) : W p l e R s m args below meth c H locs cells slots Q (F0 m pc ls (.ref (ad 0) :: rest)) := by
  exact va_get (D := D) (ci := 1) (v := .ref (ad 2)) (C := RX1) (T := TX1) (N := 16) E.1.1 E.1.2.1 E.1.2.2.2.2 wI_X1 E.1.2.2.2.1 E.2.2.2.1 S.1 0 rfl rfl 2 (by decide) (E.1.2.2.2.2 _ wf_X1_13) (fun _ h9 => h9) rfl hdg kk
theorem lM_depths {i : Int32} {v : Int32} {rest : List Value} (E : EnM p s m c args cc nL meth rt D ca g A) (S : SM D ad ca A s u H locs) (hin : vp_in i 60) (hv : m_depths u i.toNatClampNeg = v) (hdg : decode cc pc = .ok (.iaload, 1)) (kk : W p l e R s m args below meth c H locs cells slots Q (F0 m (pc + 1) ls (.int v :: rest))) : W p l e R s m args below meth c H locs cells slots Q (F0 m pc ls (.int i :: .ref (ad 2) :: rest)) := by
  subst hv
  exact va_iald E.1.1 E.1.2.1 E.2.2.2.1 S.1 2 1 rfl rfl hin hdg kk
theorem sM_depths {i : Int32} {v : Int32} {rest : List Value} (E : EnM p s m c args cc nL meth rt D ca g A) (S : SM D ad ca A s u H locs) (hin : vp_in i 60) (hdg : decode cc pc = .ok (.iastore, 1)) (kk : ∀ (H1 : Heap) (locs1 : List Loc), SM D ad ca A s (ms_depths u (upd (m_depths u) i.toNatClampNeg v)) H1 locs1 → W p l e R s m args below meth c H1 locs1 cells slots Q (F0 m (pc + 1) ls rest)) : W p l e R s m args below meth c H locs cells slots Q (F0 m pc ls (.int v :: .int i :: .ref (ad 2) :: rest)) :=
  va_iast E.1.1 E.1.2.1 E.2.2.2.1 S.1 S.2.1 S.2.2 2 1 rfl rfl hin hdg (fun H1 locs1 hP hD hS => kk H1 locs1 ⟨hP, hD, hS⟩)
theorem gM_sizes {rest : List Value} (E : EnM p s m c args cc nL meth rt D ca g A) (S : SM D ad ca A s u H locs) (hdg : decode cc pc = .ok (.getfield 16, 3)) (kk : W p l e R s m args below meth c H locs cells slots Q (F0 m (pc + 3) ls (.ref (ad 3) :: rest))) : W p l e R s m args below meth c H locs cells slots Q (F0 m pc ls (.ref (ad 0) :: rest)) := by
  exact va_get (D := D) (ci := 1) (v := .ref (ad 3)) (C := RX1) (T := TX1) (N := 16) E.1.1 E.1.2.1 E.1.2.2.2.2 wI_X1 E.1.2.2.2.1 E.2.2.2.1 S.1 0 rfl rfl 3 (by decide) (E.1.2.2.2.2 _ wf_X1_16) (fun _ h9 => h9) rfl hdg kk
theorem lM_sizes {i : Int32} {v : Int32} {rest : List Value} (E : EnM p s m c args cc nL meth rt D ca g A) (S : SM D ad ca A s u H locs) (hin : vp_in i 60) (hv : m_sizes u i.toNatClampNeg = v) (hdg : decode cc pc = .ok (.iaload, 1)) (kk : W p l e R s m args below meth c H locs cells slots Q (F0 m (pc + 1) ls (.int v :: rest))) : W p l e R s m args below meth c H locs cells slots Q (F0 m pc ls (.int i :: .ref (ad 3) :: rest)) := by
  subst hv
  exact va_iald E.1.1 E.1.2.1 E.2.2.2.1 S.1 3 2 rfl rfl hin hdg kk
theorem sM_sizes {i : Int32} {v : Int32} {rest : List Value} (E : EnM p s m c args cc nL meth rt D ca g A) (S : SM D ad ca A s u H locs) (hin : vp_in i 60) (hdg : decode cc pc = .ok (.iastore, 1)) (kk : ∀ (H1 : Heap) (locs1 : List Loc), SM D ad ca A s (ms_sizes u (upd (m_sizes u) i.toNatClampNeg v)) H1 locs1 → W p l e R s m args below meth c H1 locs1 cells slots Q (F0 m (pc + 1) ls rest)) : W p l e R s m args below meth c H locs cells slots Q (F0 m pc ls (.int v :: .int i :: .ref (ad 3) :: rest)) :=
  va_iast E.1.1 E.1.2.1 E.2.2.2.1 S.1 S.2.1 S.2.2 3 2 rfl rfl hin hdg (fun H1 locs1 hP hD hS => kk H1 locs1 ⟨hP, hD, hS⟩)
theorem gM_worths {rest : List Value} (E : EnM p s m c args cc nL meth rt D ca g A) (S : SM D ad ca A s u H locs) (hdg : decode cc pc = .ok (.getfield 19, 3)) (kk : W p l e R s m args below meth c H locs cells slots Q (F0 m (pc + 3) ls (.ref (ad 4) :: rest))) : W p l e R s m args below meth c H locs cells slots Q (F0 m pc ls (.ref (ad 0) :: rest)) := by
  exact va_get (D := D) (ci := 1) (v := .ref (ad 4)) (C := RX1) (T := TX1) (N := 16) E.1.1 E.1.2.1 E.1.2.2.2.2 wI_X1 E.1.2.2.2.1 E.2.2.2.1 S.1 0 rfl rfl 4 (by decide) (E.1.2.2.2.2 _ wf_X1_19) (fun _ h9 => h9) rfl hdg kk
theorem lM_worths {i : Int32} {v : Int32} {rest : List Value} (E : EnM p s m c args cc nL meth rt D ca g A) (S : SM D ad ca A s u H locs) (hin : vp_in i 60) (hv : m_worths u i.toNatClampNeg = v) (hdg : decode cc pc = .ok (.iaload, 1)) (kk : W p l e R s m args below meth c H locs cells slots Q (F0 m (pc + 1) ls (.int v :: rest))) : W p l e R s m args below meth c H locs cells slots Q (F0 m pc ls (.int i :: .ref (ad 4) :: rest)) := by
  subst hv
  exact va_iald E.1.1 E.1.2.1 E.2.2.2.1 S.1 4 3 rfl rfl hin hdg kk
theorem sM_worths {i : Int32} {v : Int32} {rest : List Value} (E : EnM p s m c args cc nL meth rt D ca g A) (S : SM D ad ca A s u H locs) (hin : vp_in i 60) (hdg : decode cc pc = .ok (.iastore, 1)) (kk : ∀ (H1 : Heap) (locs1 : List Loc), SM D ad ca A s (ms_worths u (upd (m_worths u) i.toNatClampNeg v)) H1 locs1 → W p l e R s m args below meth c H1 locs1 cells slots Q (F0 m (pc + 1) ls rest)) : W p l e R s m args below meth c H locs cells slots Q (F0 m pc ls (.int v :: .int i :: .ref (ad 4) :: rest)) :=
  va_iast E.1.1 E.1.2.1 E.2.2.2.1 S.1 S.2.1 S.2.2 4 3 rfl rfl hin hdg (fun H1 locs1 hP hD hS => kk H1 locs1 ⟨hP, hD, hS⟩)
theorem gM_lies {rest : List Value} (E : EnM p s m c args cc nL meth rt D ca g A) (S : SM D ad ca A s u H locs) (hdg : decode cc pc = .ok (.getfield 22, 3)) (kk : W p l e R s m args below meth c H locs cells slots Q (F0 m (pc + 3) ls (.ref (ad 5) :: rest))) : W p l e R s m args below meth c H locs cells slots Q (F0 m pc ls (.ref (ad 0) :: rest)) := by
  exact va_get (D := D) (ci := 1) (v := .ref (ad 5)) (C := RX1) (T := TX1) (N := 16) E.1.1 E.1.2.1 E.1.2.2.2.2 wI_X1 E.1.2.2.2.1 E.2.2.2.1 S.1 0 rfl rfl 5 (by decide) (E.1.2.2.2.2 _ wf_X1_22) (fun _ h9 => h9) rfl hdg kk
theorem lM_lies {i : Int32} {v : Int32} {rest : List Value} (E : EnM p s m c args cc nL meth rt D ca g A) (S : SM D ad ca A s u H locs) (hin : vp_in i 480) (hv : m_lies u i.toNatClampNeg = v) (hdg : decode cc pc = .ok (.iaload, 1)) (kk : W p l e R s m args below meth c H locs cells slots Q (F0 m (pc + 1) ls (.int v :: rest))) : W p l e R s m args below meth c H locs cells slots Q (F0 m pc ls (.int i :: .ref (ad 5) :: rest)) := by
  subst hv
  exact va_iald E.1.1 E.1.2.1 E.2.2.2.1 S.1 5 4 rfl rfl hin hdg kk
theorem sM_lies {i : Int32} {v : Int32} {rest : List Value} (E : EnM p s m c args cc nL meth rt D ca g A) (S : SM D ad ca A s u H locs) (hin : vp_in i 480) (hdg : decode cc pc = .ok (.iastore, 1)) (kk : ∀ (H1 : Heap) (locs1 : List Loc), SM D ad ca A s (ms_lies u (upd (m_lies u) i.toNatClampNeg v)) H1 locs1 → W p l e R s m args below meth c H1 locs1 cells slots Q (F0 m (pc + 1) ls rest)) : W p l e R s m args below meth c H locs cells slots Q (F0 m pc ls (.int v :: .int i :: .ref (ad 5) :: rest)) :=
  va_iast E.1.1 E.1.2.1 E.2.2.2.1 S.1 S.2.1 S.2.2 5 4 rfl rfl hin hdg (fun H1 locs1 hP hD hS => kk H1 locs1 ⟨hP, hD, hS⟩)
theorem gM_numbers {rest : List Value} (E : EnM p s m c args cc nL meth rt D ca g A) (S : SM D ad ca A s u H locs) (hdg : decode cc pc = .ok (.getfield 25, 3)) (kk : W p l e R s m args below meth c H locs cells slots Q (F0 m (pc + 3) ls (.ref (ad 6) :: rest))) : W p l e R s m args below meth c H locs cells slots Q (F0 m pc ls (.ref (ad 0) :: rest)) := by
  exact va_get (D := D) (ci := 1) (v := .ref (ad 6)) (C := RX1) (T := TX1) (N := 16) E.1.1 E.1.2.1 E.1.2.2.2.2 wI_X1 E.1.2.2.2.1 E.2.2.2.1 S.1 0 rfl rfl 6 (by decide) (E.1.2.2.2.2 _ wf_X1_25) (fun _ h9 => h9) rfl hdg kk
theorem lM_numbers {i : Int32} {v : Int64} {rest : List Value} (E : EnM p s m c args cc nL meth rt D ca g A) (S : SM D ad ca A s u H locs) (hin : vp_in i 480) (hv : m_numbers u i.toNatClampNeg = v) (hdg : decode cc pc = .ok (.laload, 1)) (kk : W p l e R s m args below meth c H locs cells slots Q (F0 m (pc + 1) ls (.long v :: rest))) : W p l e R s m args below meth c H locs cells slots Q (F0 m pc ls (.int i :: .ref (ad 6) :: rest)) := by
  subst hv
  exact va_lald E.1.1 E.1.2.1 E.2.2.2.1 S.1 6 5 rfl rfl hin hdg kk
theorem sM_numbers {i : Int32} {v : Int64} {rest : List Value} (E : EnM p s m c args cc nL meth rt D ca g A) (S : SM D ad ca A s u H locs) (hin : vp_in i 480) (hdg : decode cc pc = .ok (.lastore, 1)) (kk : ∀ (H1 : Heap) (locs1 : List Loc), SM D ad ca A s (ms_numbers u (vp_updL (m_numbers u) i.toNatClampNeg v)) H1 locs1 → W p l e R s m args below meth c H1 locs1 cells slots Q (F0 m (pc + 1) ls rest)) : W p l e R s m args below meth c H locs cells slots Q (F0 m pc ls (.long v :: .int i :: .ref (ad 6) :: rest)) :=
  va_last E.1.1 E.1.2.1 E.2.2.2.1 S.1 S.2.1 S.2.2 6 5 rfl rfl hin hdg (fun H1 locs1 hP hD hS => kk H1 locs1 ⟨hP, hD, hS⟩)
theorem gM_doorBase {rest : List Value} (E : EnM p s m c args cc nL meth rt D ca g A) (S : SM D ad ca A s u H locs) (hdg : decode cc pc = .ok (.getfield 29, 3)) (kk : W p l e R s m args below meth c H locs cells slots Q (F0 m (pc + 3) ls (.ref (ad 7) :: rest))) : W p l e R s m args below meth c H locs cells slots Q (F0 m pc ls (.ref (ad 0) :: rest)) := by
  exact va_get (D := D) (ci := 1) (v := .ref (ad 7)) (C := RX1) (T := TX1) (N := 16) E.1.1 E.1.2.1 E.1.2.2.2.2 wI_X1 E.1.2.2.2.1 E.2.2.2.1 S.1 0 rfl rfl 7 (by decide) (E.1.2.2.2.2 _ wf_X1_29) (fun _ h9 => h9) rfl hdg kk
theorem lM_doorBase {i : Int32} {v : Int32} {rest : List Value} (E : EnM p s m c args cc nL meth rt D ca g A) (S : SM D ad ca A s u H locs) (hin : vp_in i 8) (hv : m_doorBase u i.toNatClampNeg = v) (hdg : decode cc pc = .ok (.iaload, 1)) (kk : W p l e R s m args below meth c H locs cells slots Q (F0 m (pc + 1) ls (.int v :: rest))) : W p l e R s m args below meth c H locs cells slots Q (F0 m pc ls (.int i :: .ref (ad 7) :: rest)) := by
  subst hv
  exact va_iald E.1.1 E.1.2.1 E.2.2.2.1 S.1 7 6 rfl rfl hin hdg kk
theorem sM_doorBase {i : Int32} {v : Int32} {rest : List Value} (E : EnM p s m c args cc nL meth rt D ca g A) (S : SM D ad ca A s u H locs) (hin : vp_in i 8) (hdg : decode cc pc = .ok (.iastore, 1)) (kk : ∀ (H1 : Heap) (locs1 : List Loc), SM D ad ca A s (ms_doorBase u (upd (m_doorBase u) i.toNatClampNeg v)) H1 locs1 → W p l e R s m args below meth c H1 locs1 cells slots Q (F0 m (pc + 1) ls rest)) : W p l e R s m args below meth c H locs cells slots Q (F0 m pc ls (.int v :: .int i :: .ref (ad 7) :: rest)) :=
  va_iast E.1.1 E.1.2.1 E.2.2.2.1 S.1 S.2.1 S.2.2 7 6 rfl rfl hin hdg (fun H1 locs1 hP hD hS => kk H1 locs1 ⟨hP, hD, hS⟩)
theorem gM_doorDepth {rest : List Value} (E : EnM p s m c args cc nL meth rt D ca g A) (S : SM D ad ca A s u H locs) (hdg : decode cc pc = .ok (.getfield 32, 3)) (kk : W p l e R s m args below meth c H locs cells slots Q (F0 m (pc + 3) ls (.ref (ad 8) :: rest))) : W p l e R s m args below meth c H locs cells slots Q (F0 m pc ls (.ref (ad 0) :: rest)) := by
  exact va_get (D := D) (ci := 1) (v := .ref (ad 8)) (C := RX1) (T := TX1) (N := 16) E.1.1 E.1.2.1 E.1.2.2.2.2 wI_X1 E.1.2.2.2.1 E.2.2.2.1 S.1 0 rfl rfl 8 (by decide) (E.1.2.2.2.2 _ wf_X1_32) (fun _ h9 => h9) rfl hdg kk
theorem lM_doorDepth {i : Int32} {v : Int32} {rest : List Value} (E : EnM p s m c args cc nL meth rt D ca g A) (S : SM D ad ca A s u H locs) (hin : vp_in i 8) (hv : m_doorDepth u i.toNatClampNeg = v) (hdg : decode cc pc = .ok (.iaload, 1)) (kk : W p l e R s m args below meth c H locs cells slots Q (F0 m (pc + 1) ls (.int v :: rest))) : W p l e R s m args below meth c H locs cells slots Q (F0 m pc ls (.int i :: .ref (ad 8) :: rest)) := by
  subst hv
  exact va_iald E.1.1 E.1.2.1 E.2.2.2.1 S.1 8 7 rfl rfl hin hdg kk
theorem sM_doorDepth {i : Int32} {v : Int32} {rest : List Value} (E : EnM p s m c args cc nL meth rt D ca g A) (S : SM D ad ca A s u H locs) (hin : vp_in i 8) (hdg : decode cc pc = .ok (.iastore, 1)) (kk : ∀ (H1 : Heap) (locs1 : List Loc), SM D ad ca A s (ms_doorDepth u (upd (m_doorDepth u) i.toNatClampNeg v)) H1 locs1 → W p l e R s m args below meth c H1 locs1 cells slots Q (F0 m (pc + 1) ls rest)) : W p l e R s m args below meth c H locs cells slots Q (F0 m pc ls (.int v :: .int i :: .ref (ad 8) :: rest)) :=
  va_iast E.1.1 E.1.2.1 E.2.2.2.1 S.1 S.2.1 S.2.2 8 7 rfl rfl hin hdg (fun H1 locs1 hP hD hS => kk H1 locs1 ⟨hP, hD, hS⟩)
theorem gM_failures {v : Int32} {rest : List Value} (E : EnM p s m c args cc nL meth rt D ca g A) (S : SM D ad ca A s u H locs) (hv : m_failures u = v) (hdg : decode cc pc = .ok (.getfield 51, 3)) (kk : W p l e R s m args below meth c H locs cells slots Q (F0 m (pc + 3) ls (.int v :: rest))) : W p l e R s m args below meth c H locs cells slots Q (F0 m pc ls (.ref (ad 0) :: rest)) := by
  subst hv
  exact va_get (D := D) (ci := 1) (v := .int (m_failures u)) (C := RX1) (T := TX1) (N := 16) E.1.1 E.1.2.1 E.1.2.2.2.2 wI_X1 E.1.2.2.2.1 E.2.2.2.1 S.1 0 rfl rfl 9 (by decide) (E.1.2.2.2.2 _ wf_X1_51) (fun _ h9 => h9) rfl hdg kk
theorem pM_failures {v : Int32} {rest : List Value} (E : EnM p s m c args cc nL meth rt D ca g A) (S : SM D ad ca A s u H locs) (hdg : decode cc pc = .ok (.putfield 51, 3)) (kk : ∀ (H1 : Heap) (locs1 : List Loc), SM D ad ca A s (ms_failures u v) H1 locs1 → W p l e R s m args below meth c H1 locs1 cells slots Q (F0 m (pc + 3) ls rest)) : W p l e R s m args below meth c H locs cells slots Q (F0 m pc ls (.int v :: .ref (ad 0) :: rest)) :=
  va_put (D := D) (ci := 1) (v := .int v) (ty := .int) (C := RX1) (T := TX1) (N := 16) E.1.1 E.1.2.1 E.1.2.2.2.2 wI_X1 tyX1 tyX1_ok nmX1 E.1.2.2.2.1 E.2.2.2.1 S.1 S.2.1 S.2.2 0 rfl rfl 9 (by decide) (E.1.2.2.2.2 _ wf_X1_51) (fun _ h9 => h9) rfl (by decide +kernel) rfl rfl (Nat.le_of_ble_eq_true rfl) hdg (fun H1 locs1 hP hD hS => kk H1 locs1 ⟨hP, hD, hS⟩)
theorem gM_latest {v : Int32} {rest : List Value} (E : EnM p s m c args cc nL meth rt D ca g A) (S : SM D ad ca A s u H locs) (hv : m_latest u = v) (hdg : decode cc pc = .ok (.getfield 54, 3)) (kk : W p l e R s m args below meth c H locs cells slots Q (F0 m (pc + 3) ls (.int v :: rest))) : W p l e R s m args below meth c H locs cells slots Q (F0 m pc ls (.ref (ad 0) :: rest)) := by
  subst hv
  exact va_get (D := D) (ci := 1) (v := .int (m_latest u)) (C := RX1) (T := TX1) (N := 16) E.1.1 E.1.2.1 E.1.2.2.2.2 wI_X1 E.1.2.2.2.1 E.2.2.2.1 S.1 0 rfl rfl 10 (by decide) (E.1.2.2.2.2 _ wf_X1_54) (fun _ h9 => h9) rfl hdg kk
theorem pM_latest {v : Int32} {rest : List Value} (E : EnM p s m c args cc nL meth rt D ca g A) (S : SM D ad ca A s u H locs) (hdg : decode cc pc = .ok (.putfield 54, 3)) (kk : ∀ (H1 : Heap) (locs1 : List Loc), SM D ad ca A s (ms_latest u v) H1 locs1 → W p l e R s m args below meth c H1 locs1 cells slots Q (F0 m (pc + 3) ls rest)) : W p l e R s m args below meth c H locs cells slots Q (F0 m pc ls (.int v :: .ref (ad 0) :: rest)) :=
  va_put (D := D) (ci := 1) (v := .int v) (ty := .int) (C := RX1) (T := TX1) (N := 16) E.1.1 E.1.2.1 E.1.2.2.2.2 wI_X1 tyX1 tyX1_ok nmX1 E.1.2.2.2.1 E.2.2.2.1 S.1 S.2.1 S.2.2 0 rfl rfl 10 (by decide) (E.1.2.2.2.2 _ wf_X1_54) (fun _ h9 => h9) rfl (by decide +kernel) rfl rfl (Nat.le_of_ble_eq_true rfl) hdg (fun H1 locs1 hP hD hS => kk H1 locs1 ⟨hP, hD, hS⟩)
theorem gM_last {v : Int32} {rest : List Value} (E : EnM p s m c args cc nL meth rt D ca g A) (S : SM D ad ca A s u H locs) (hv : m_last u = v) (hdg : decode cc pc = .ok (.getfield 35, 3)) (kk : W p l e R s m args below meth c H locs cells slots Q (F0 m (pc + 3) ls (.int v :: rest))) : W p l e R s m args below meth c H locs cells slots Q (F0 m pc ls (.ref (ad 0) :: rest)) := by
  subst hv
  exact va_get (D := D) (ci := 1) (v := .int (m_last u)) (C := RX1) (T := TX1) (N := 16) E.1.1 E.1.2.1 E.1.2.2.2.2 wI_X1 E.1.2.2.2.1 E.2.2.2.1 S.1 0 rfl rfl 11 (by decide) (E.1.2.2.2.2 _ wf_X1_35) (fun _ h9 => h9) rfl hdg kk
theorem pM_last {v : Int32} {rest : List Value} (E : EnM p s m c args cc nL meth rt D ca g A) (S : SM D ad ca A s u H locs) (hdg : decode cc pc = .ok (.putfield 35, 3)) (kk : ∀ (H1 : Heap) (locs1 : List Loc), SM D ad ca A s (ms_last u v) H1 locs1 → W p l e R s m args below meth c H1 locs1 cells slots Q (F0 m (pc + 3) ls rest)) : W p l e R s m args below meth c H locs cells slots Q (F0 m pc ls (.int v :: .ref (ad 0) :: rest)) :=
  va_put (D := D) (ci := 1) (v := .int v) (ty := .int) (C := RX1) (T := TX1) (N := 16) E.1.1 E.1.2.1 E.1.2.2.2.2 wI_X1 tyX1 tyX1_ok nmX1 E.1.2.2.2.1 E.2.2.2.1 S.1 S.2.1 S.2.2 0 rfl rfl 11 (by decide) (E.1.2.2.2.2 _ wf_X1_35) (fun _ h9 => h9) rfl (by decide +kernel) rfl rfl (Nat.le_of_ble_eq_true rfl) hdg (fun H1 locs1 hP hD hS => kk H1 locs1 ⟨hP, hD, hS⟩)
theorem gM_sums {rest : List Value} (E : EnM p s m c args cc nL meth rt D ca g A) (S : SM D ad ca A s u H locs) (hdg : decode cc pc = .ok (.getfield 39, 3)) (kk : W p l e R s m args below meth c H locs cells slots Q (F0 m (pc + 3) ls (.ref (ad 9) :: rest))) : W p l e R s m args below meth c H locs cells slots Q (F0 m pc ls (.ref (ad 0) :: rest)) := by
  exact va_get (D := D) (ci := 1) (v := .ref (ad 9)) (C := RX1) (T := TX1) (N := 16) E.1.1 E.1.2.1 E.1.2.2.2.2 wI_X1 E.1.2.2.2.1 E.2.2.2.1 S.1 0 rfl rfl 12 (by decide) (E.1.2.2.2.2 _ wf_X1_39) (fun _ h9 => h9) rfl hdg kk
theorem lM_sums {i : Int32} {v : Int64} {rest : List Value} (E : EnM p s m c args cc nL meth rt D ca g A) (S : SM D ad ca A s u H locs) (hin : vp_in i 60) (hv : m_sums u i.toNatClampNeg = v) (hdg : decode cc pc = .ok (.laload, 1)) (kk : W p l e R s m args below meth c H locs cells slots Q (F0 m (pc + 1) ls (.long v :: rest))) : W p l e R s m args below meth c H locs cells slots Q (F0 m pc ls (.int i :: .ref (ad 9) :: rest)) := by
  subst hv
  exact va_lald E.1.1 E.1.2.1 E.2.2.2.1 S.1 9 8 rfl rfl hin hdg kk
theorem sM_sums {i : Int32} {v : Int64} {rest : List Value} (E : EnM p s m c args cc nL meth rt D ca g A) (S : SM D ad ca A s u H locs) (hin : vp_in i 60) (hdg : decode cc pc = .ok (.lastore, 1)) (kk : ∀ (H1 : Heap) (locs1 : List Loc), SM D ad ca A s (ms_sums u (vp_updL (m_sums u) i.toNatClampNeg v)) H1 locs1 → W p l e R s m args below meth c H1 locs1 cells slots Q (F0 m (pc + 1) ls rest)) : W p l e R s m args below meth c H locs cells slots Q (F0 m pc ls (.long v :: .int i :: .ref (ad 9) :: rest)) :=
  va_last E.1.1 E.1.2.1 E.2.2.2.1 S.1 S.2.1 S.2.2 9 8 rfl rfl hin hdg (fun H1 locs1 hP hD hS => kk H1 locs1 ⟨hP, hD, hS⟩)
theorem gM_counts {rest : List Value} (E : EnM p s m c args cc nL meth rt D ca g A) (S : SM D ad ca A s u H locs) (hdg : decode cc pc = .ok (.getfield 42, 3)) (kk : W p l e R s m args below meth c H locs cells slots Q (F0 m (pc + 3) ls (.ref (ad 10) :: rest))) : W p l e R s m args below meth c H locs cells slots Q (F0 m pc ls (.ref (ad 0) :: rest)) := by
  exact va_get (D := D) (ci := 1) (v := .ref (ad 10)) (C := RX1) (T := TX1) (N := 16) E.1.1 E.1.2.1 E.1.2.2.2.2 wI_X1 E.1.2.2.2.1 E.2.2.2.1 S.1 0 rfl rfl 13 (by decide) (E.1.2.2.2.2 _ wf_X1_42) (fun _ h9 => h9) rfl hdg kk
theorem lM_counts {i : Int32} {v : Int32} {rest : List Value} (E : EnM p s m c args cc nL meth rt D ca g A) (S : SM D ad ca A s u H locs) (hin : vp_in i 60) (hv : m_counts u i.toNatClampNeg = v) (hdg : decode cc pc = .ok (.iaload, 1)) (kk : W p l e R s m args below meth c H locs cells slots Q (F0 m (pc + 1) ls (.int v :: rest))) : W p l e R s m args below meth c H locs cells slots Q (F0 m pc ls (.int i :: .ref (ad 10) :: rest)) := by
  subst hv
  exact va_iald E.1.1 E.1.2.1 E.2.2.2.1 S.1 10 9 rfl rfl hin hdg kk
theorem sM_counts {i : Int32} {v : Int32} {rest : List Value} (E : EnM p s m c args cc nL meth rt D ca g A) (S : SM D ad ca A s u H locs) (hin : vp_in i 60) (hdg : decode cc pc = .ok (.iastore, 1)) (kk : ∀ (H1 : Heap) (locs1 : List Loc), SM D ad ca A s (ms_counts u (upd (m_counts u) i.toNatClampNeg v)) H1 locs1 → W p l e R s m args below meth c H1 locs1 cells slots Q (F0 m (pc + 1) ls rest)) : W p l e R s m args below meth c H locs cells slots Q (F0 m pc ls (.int v :: .int i :: .ref (ad 10) :: rest)) :=
  va_iast E.1.1 E.1.2.1 E.2.2.2.1 S.1 S.2.1 S.2.2 10 9 rfl rfl hin hdg (fun H1 locs1 hP hD hS => kk H1 locs1 ⟨hP, hD, hS⟩)
theorem gM_moved {rest : List Value} (E : EnM p s m c args cc nL meth rt D ca g A) (S : SM D ad ca A s u H locs) (hdg : decode cc pc = .ok (.getfield 45, 3)) (kk : W p l e R s m args below meth c H locs cells slots Q (F0 m (pc + 3) ls (.ref (ad 11) :: rest))) : W p l e R s m args below meth c H locs cells slots Q (F0 m pc ls (.ref (ad 0) :: rest)) := by
  exact va_get (D := D) (ci := 1) (v := .ref (ad 11)) (C := RX1) (T := TX1) (N := 16) E.1.1 E.1.2.1 E.1.2.2.2.2 wI_X1 E.1.2.2.2.1 E.2.2.2.1 S.1 0 rfl rfl 14 (by decide) (E.1.2.2.2.2 _ wf_X1_45) (fun _ h9 => h9) rfl hdg kk
theorem lM_moved {i : Int32} {v : Int32} {rest : List Value} (E : EnM p s m c args cc nL meth rt D ca g A) (S : SM D ad ca A s u H locs) (hin : vp_in i 8) (hv : m_moved u i.toNatClampNeg = v) (hdg : decode cc pc = .ok (.iaload, 1)) (kk : W p l e R s m args below meth c H locs cells slots Q (F0 m (pc + 1) ls (.int v :: rest))) : W p l e R s m args below meth c H locs cells slots Q (F0 m pc ls (.int i :: .ref (ad 11) :: rest)) := by
  subst hv
  exact va_iald E.1.1 E.1.2.1 E.2.2.2.1 S.1 11 10 rfl rfl hin hdg kk
theorem sM_moved {i : Int32} {v : Int32} {rest : List Value} (E : EnM p s m c args cc nL meth rt D ca g A) (S : SM D ad ca A s u H locs) (hin : vp_in i 8) (hdg : decode cc pc = .ok (.iastore, 1)) (kk : ∀ (H1 : Heap) (locs1 : List Loc), SM D ad ca A s (ms_moved u (upd (m_moved u) i.toNatClampNeg v)) H1 locs1 → W p l e R s m args below meth c H1 locs1 cells slots Q (F0 m (pc + 1) ls rest)) : W p l e R s m args below meth c H locs cells slots Q (F0 m pc ls (.int v :: .int i :: .ref (ad 11) :: rest)) :=
  va_iast E.1.1 E.1.2.1 E.2.2.2.1 S.1 S.2.1 S.2.2 11 10 rfl rfl hin hdg (fun H1 locs1 hP hD hS => kk H1 locs1 ⟨hP, hD, hS⟩)
theorem gM_movedNumbers {rest : List Value} (E : EnM p s m c args cc nL meth rt D ca g A) (S : SM D ad ca A s u H locs) (hdg : decode cc pc = .ok (.getfield 48, 3)) (kk : W p l e R s m args below meth c H locs cells slots Q (F0 m (pc + 3) ls (.ref (ad 12) :: rest))) : W p l e R s m args below meth c H locs cells slots Q (F0 m pc ls (.ref (ad 0) :: rest)) := by
  exact va_get (D := D) (ci := 1) (v := .ref (ad 12)) (C := RX1) (T := TX1) (N := 16) E.1.1 E.1.2.1 E.1.2.2.2.2 wI_X1 E.1.2.2.2.1 E.2.2.2.1 S.1 0 rfl rfl 15 (by decide) (E.1.2.2.2.2 _ wf_X1_48) (fun _ h9 => h9) rfl hdg kk
theorem lM_movedNumbers {i : Int32} {v : Int64} {rest : List Value} (E : EnM p s m c args cc nL meth rt D ca g A) (S : SM D ad ca A s u H locs) (hin : vp_in i 8) (hv : m_movedNumbers u i.toNatClampNeg = v) (hdg : decode cc pc = .ok (.laload, 1)) (kk : W p l e R s m args below meth c H locs cells slots Q (F0 m (pc + 1) ls (.long v :: rest))) : W p l e R s m args below meth c H locs cells slots Q (F0 m pc ls (.int i :: .ref (ad 12) :: rest)) := by
  subst hv
  exact va_lald E.1.1 E.1.2.1 E.2.2.2.1 S.1 12 11 rfl rfl hin hdg kk
theorem sM_movedNumbers {i : Int32} {v : Int64} {rest : List Value} (E : EnM p s m c args cc nL meth rt D ca g A) (S : SM D ad ca A s u H locs) (hin : vp_in i 8) (hdg : decode cc pc = .ok (.lastore, 1)) (kk : ∀ (H1 : Heap) (locs1 : List Loc), SM D ad ca A s (ms_movedNumbers u (vp_updL (m_movedNumbers u) i.toNatClampNeg v)) H1 locs1 → W p l e R s m args below meth c H1 locs1 cells slots Q (F0 m (pc + 1) ls rest)) : W p l e R s m args below meth c H locs cells slots Q (F0 m pc ls (.long v :: .int i :: .ref (ad 12) :: rest)) :=
  va_last E.1.1 E.1.2.1 E.2.2.2.1 S.1 S.2.1 S.2.2 12 11 rfl rfl hin hdg (fun H1 locs1 hP hD hS => kk H1 locs1 ⟨hP, hD, hS⟩)
end RowsM
end
section
/-! DepotTrays: what holds of its state between calls; small methods -/
def XI (u : XS) : Prop := (0 ≤ (x_thingCount u).toInt ∧ (x_thingCount u).toInt ≤ 60) ∧ (∀ i : Nat, vp_in (x_thingBase u i) 7) ∧ (∀ i : Nat, 0 ≤ (x_thingSize u i).toInt ∧ (x_thingSize u i).toInt ≤ 8)
theorem lt_ti {x y : Int32} : x < y ↔ x.toInt < y.toInt := Int32.lt_iff_toInt_lt
theorem le_ti {x y : Int32} : x ≤ y ↔ x.toInt ≤ y.toInt := Int32.le_iff_toInt_le
def fx_fail (u : XS) (q_failure : Int32) : Int32 × XS := ((-10) - q_failure, xs_latestFailure (xs_failureCount u ((x_failureCount u) + 1)) q_failure)
theorem hd_X0_fail : yX0_fail.cls = RX0 ∧ yX0_fail.cls ≠ "java/lang/invoke/MethodHandle" ∧ yX0_fail.cls ≠ "java/lang/invoke/VarHandle" ∧ (parseMethodDescriptor yX0_fail.desc).map (fun d => d.parameters.length) = some 1 := by decide +kernel
set_option maxRecDepth 100000 in
set_option maxHeartbeats 4000000 in
theorem kX0_fail (l : Launch) (D : va_G) (ad : Nat → Nat) (ca : Nat → ClassId) (g : Nat) (u : XS) (q_failure : Int32)  : CiX l yX0_fail cX0_fail 2 .int 1 D ad ca g [.int q_failure] u (fx_fail u q_failure) := by
  refine CiX.of (by decide) rfl (Nat.le_of_ble_eq_true rfl) ?_
  intro p e s m below meth c A ls E hS hl
  have hx := E.1.1
  have hb := E.1.2.1
  have hml := E.1.2.2.1
  have hown := E.1.2.2.2.1
  have hts := E.1.2.2.2.2
  have hl : lv_has ls 2 [(0, .ref (ad 0)), (1, .int q_failure)] := hl
  refine lv_aload_n hx hb dX0_fail_0 rfl (lv_at hl 0 rfl) ?_
  refine lv_dup hx hb dX0_fail_1 rfl ?_
  refine gX_failureCount (v := x_failureCount u) E hS rfl dX0_fail_2 ?_
  refine lv_iconst (v := 1) hx hb dX0_fail_5 (by decide) ?_
  refine lv_iadd hx hb dX0_fail_6 ?_
  refine pX_failureCount E hS dX0_fail_7 (fun H locs hS => ?_)
  have hS : SX D ad ca A s (xs_failureCount u ((x_failureCount u) + 1)) H locs := hS
  refine lv_aload_n hx hb dX0_fail_10 rfl (lv_at hl 0 rfl) ?_
  refine lv_iload_n hx hb dX0_fail_11 rfl (lv_at hl 1 rfl) ?_
  refine pX_latestFailure E hS dX0_fail_12 (fun H locs hS => ?_)
  have hS : SX D ad ca A s (xs_latestFailure (xs_failureCount u ((x_failureCount u) + 1)) q_failure) H locs := hS
  refine lv_bipush (v := (-10)) hx hb dX0_fail_15 (by decide) ?_
  refine lv_iload_n hx hb dX0_fail_17 rfl (lv_at hl 1 rfl) ?_
  refine lv_isub hx hb dX0_fail_18 ?_
  exact EnX.iret E hS (ni_i _) (by unfold fx_fail; rfl) dX0_fail_19
def fx_isThing (u : XS) (q_x : Int32) : Int32 := if q_x < 0 then 0 else (if (x_thingCount u) ≤ q_x then 0 else 1)
theorem fx_isThing_01 (u : XS) (q_x : Int32) : fx_isThing u q_x = 0 ∨ fx_isThing u q_x = 1 := by
  unfold fx_isThing
  (repeat' split) <;> first | exact Or.inl rfl | exact Or.inr rfl
theorem hd_X0_isThing : yX0_isThing.cls = RX0 ∧ yX0_isThing.cls ≠ "java/lang/invoke/MethodHandle" ∧ yX0_isThing.cls ≠ "java/lang/invoke/VarHandle" ∧ (parseMethodDescriptor yX0_isThing.desc).map (fun d => d.parameters.length) = some 1 := by decide +kernel
set_option maxRecDepth 100000 in
set_option maxHeartbeats 4000000 in
theorem kX0_isThing (l : Launch) (D : va_G) (ad : Nat → Nat) (ca : Nat → ClassId) (g : Nat) (u : XS) (q_x : Int32)  : CiX l yX0_isThing cX0_isThing 2 .boolean 1 D ad ca g [.int q_x] u ((fx_isThing u q_x, u)) := by
  refine CiX.of (by decide) rfl (Nat.le_of_ble_eq_true rfl) ?_
  intro p e s m below meth c A ls E hS hl
  have hx := E.1.1
  have hb := E.1.2.1
  have hml := E.1.2.2.1
  have hown := E.1.2.2.2.1
  have hts := E.1.2.2.2.2
  have hl : lv_has ls 2 [(0, .ref (ad 0)), (1, .int q_x)] := hl
  refine lv_iload_n hx hb dX0_isThing_0 rfl (lv_at hl 1 rfl) ?_
  refine lv_if_lt (tgt := 16) hx hb dX0_isThing_1 (by decide) (fun h1 => ?_) (fun h1 => ?_)
  · refine lv_iconst (v := 0) hx hb dX0_isThing_16 (by decide) ?_
    exact EnX.iret E hS ni_0 (congrArg (fun z => (z, u)) (show (0 : Int32) = fx_isThing u q_x by unfold fx_isThing; rw [if_pos h1])) dX0_isThing_17
  · refine lv_iload_n hx hb dX0_isThing_4 rfl (lv_at hl 1 rfl) ?_
    refine lv_aload_n hx hb dX0_isThing_5 rfl (lv_at hl 0 rfl) ?_
    refine gX_thingCount (v := x_thingCount u) E hS rfl dX0_isThing_6 ?_
    refine lv_icmp_ge (tgt := 16) hx hb dX0_isThing_9 (by decide) (fun h9 => ?_) (fun h9 => ?_)
    · refine lv_iconst (v := 0) hx hb dX0_isThing_16 (by decide) ?_
      exact EnX.iret E hS ni_0 (congrArg (fun z => (z, u)) (show (0 : Int32) = fx_isThing u q_x by unfold fx_isThing; rw [if_neg h1, if_pos h9])) dX0_isThing_17
    · refine lv_iconst (v := 1) hx hb dX0_isThing_12 (by decide) ?_
      refine lv_goto (tgt := 17) hx hb dX0_isThing_13 (by decide) ?_
      exact EnX.iret E hS ni_1 (congrArg (fun z => (z, u)) (show (1 : Int32) = fx_isThing u q_x by unfold fx_isThing; rw [if_neg h1, if_neg h9])) dX0_isThing_17
def fx_isThingOrNone (u : XS) (q_x : Int32) : Int32 := if q_x = (-1) then 1 else (if (fx_isThing u q_x) = 0 then 0 else 1)
theorem fx_isThingOrNone_01 (u : XS) (q_x : Int32) : fx_isThingOrNone u q_x = 0 ∨ fx_isThingOrNone u q_x = 1 := by
  unfold fx_isThingOrNone
  (repeat' split) <;> first | exact Or.inl rfl | exact Or.inr rfl | apply fx_isThing_01
theorem hd_X0_isThingOrNone : yX0_isThingOrNone.cls = RX0 ∧ yX0_isThingOrNone.cls ≠ "java/lang/invoke/MethodHandle" ∧ yX0_isThingOrNone.cls ≠ "java/lang/invoke/VarHandle" ∧ (parseMethodDescriptor yX0_isThingOrNone.desc).map (fun d => d.parameters.length) = some 1 := by decide +kernel
set_option maxRecDepth 100000 in
set_option maxHeartbeats 4000000 in
theorem kX0_isThingOrNone (l : Launch) (D : va_G) (ad : Nat → Nat) (ca : Nat → ClassId) (g : Nat) (u : XS) (q_x : Int32)  : CiX l yX0_isThingOrNone cX0_isThingOrNone 2 .boolean 2 D ad ca g [.int q_x] u ((fx_isThingOrNone u q_x, u)) := by
  refine CiX.of (by decide) rfl (Nat.le_of_ble_eq_true rfl) ?_
  intro p e s m below meth c A ls E hS hl
  have hx := E.1.1
  have hb := E.1.2.1
  have hml := E.1.2.2.1
  have hown := E.1.2.2.2.1
  have hts := E.1.2.2.2.2
  have hl : lv_has ls 2 [(0, .ref (ad 0)), (1, .int q_x)] := hl
  refine lv_iload_n hx hb dX0_isThingOrNone_0 rfl (lv_at hl 1 rfl) ?_
  refine lv_iconst (v := (-1)) hx hb dX0_isThingOrNone_1 (by decide) ?_
  refine lv_icmp_eq (tgt := 13) hx hb dX0_isThingOrNone_2 (by decide) (fun h2 => ?_) (fun h2 => ?_)
  · refine lv_iconst (v := 1) hx hb dX0_isThingOrNone_13 (by decide) ?_
    refine lv_goto (tgt := 18) hx hb dX0_isThingOrNone_14 (by decide) ?_
    exact EnX.iret E hS ni_1 (congrArg (fun z => (z, u)) (show (1 : Int32) = fx_isThingOrNone u q_x by unfold fx_isThingOrNone; rw [if_pos h2])) dX0_isThingOrNone_18
  · refine lv_aload_n hx hb dX0_isThingOrNone_5 rfl (lv_at hl 0 rfl) ?_
    refine lv_iload_n hx hb dX0_isThingOrNone_6 rfl (lv_at hl 1 rfl) ?_
    refine EnX.calli (r := fx_isThing u q_x) (u2 := u) E hS [.int q_x] [] (kX0_isThing l D ad ca g u q_x ) gc_X0_137 hd_X0_isThing ⟨Nat.le_of_ble_eq_true rfl, Nat.le_of_ble_eq_true rfl⟩ rfl hl.1 (Nat.le_of_ble_eq_true rfl) ⟨Nat.le_refl 0, Nat.le_refl 0⟩ dX0_isThingOrNone_7 (fun H locs hS => ?_)
    refine lv_if_eq (tgt := 17) hx hb dX0_isThingOrNone_10 (by decide) (fun h10 => ?_) (fun h10 => ?_)
    · refine lv_iconst (v := 0) hx hb dX0_isThingOrNone_17 (by decide) ?_
      exact EnX.iret E hS ni_0 (congrArg (fun z => (z, u)) (show (0 : Int32) = fx_isThingOrNone u q_x by unfold fx_isThingOrNone; rw [if_neg h2, if_pos h10])) dX0_isThingOrNone_18
    · refine lv_iconst (v := 1) hx hb dX0_isThingOrNone_13 (by decide) ?_
      refine lv_goto (tgt := 18) hx hb dX0_isThingOrNone_14 (by decide) ?_
      exact EnX.iret E hS ni_1 (congrArg (fun z => (z, u)) (show (1 : Int32) = fx_isThingOrNone u q_x by unfold fx_isThingOrNone; rw [if_neg h2, if_neg h10])) dX0_isThingOrNone_18
def fx_isDoor (q_k : Int32) : Int32 := if q_k < 0 then 0 else (if 8 ≤ q_k then 0 else 1)
theorem fx_isDoor_01 (q_k : Int32) : fx_isDoor q_k = 0 ∨ fx_isDoor q_k = 1 := by
  unfold fx_isDoor
  (repeat' split) <;> first | exact Or.inl rfl | exact Or.inr rfl
theorem hd_X0_isDoor : yX0_isDoor.cls ≠ "java/lang/invoke/MethodHandle" ∧ yX0_isDoor.cls ≠ "java/lang/invoke/VarHandle" ∧ (parseMethodDescriptor yX0_isDoor.desc).map (fun d => d.parameters.length) = some 1 := by decide +kernel
set_option maxRecDepth 100000 in
set_option maxHeartbeats 4000000 in
theorem kX0_isDoor (l : Launch) (q_k : Int32)  : Cs l yX0_isDoor cX0_isDoor 1 .boolean 1 (fun _ => True) [.int q_k] (fx_isDoor q_k) := by
  refine Cs.of (by decide) (Nat.le_of_ble_eq_true rfl) ?_
  intro p e s m below meth c ls E hZ hS hl
  have hx := E.1.1
  have hb := E.1.2.1
  have hml := E.1.2.2.1
  have hown := E.1.2.2.2.1
  have hts := E.1.2.2.2.2
  have hl : lv_has ls 1 [(0, .int q_k)] := hl
  refine lv_iload_n hx hb dX0_isDoor_0 rfl (lv_at hl 0 rfl) ?_
  refine lv_if_lt (tgt := 14) hx hb dX0_isDoor_1 (by decide) (fun h1 => ?_) (fun h1 => ?_)
  · refine lv_iconst (v := 0) hx hb dX0_isDoor_14 (by decide) ?_
    exact EnS.iret E hS ni_0 (by first | (simp only [fx_isDoor, if_pos h1]; done) | (unfold fx_isDoor; rw [if_pos h1])) dX0_isDoor_15
  · refine lv_iload_n hx hb dX0_isDoor_4 rfl (lv_at hl 0 rfl) ?_
    refine lv_bipush (v := 8) hx hb dX0_isDoor_5 (by decide) ?_
    refine lv_icmp_ge (tgt := 14) hx hb dX0_isDoor_7 (by decide) (fun h7 => ?_) (fun h7 => ?_)
    · refine lv_iconst (v := 0) hx hb dX0_isDoor_14 (by decide) ?_
      exact EnS.iret E hS ni_0 (by first | (simp only [fx_isDoor, if_neg h1, if_pos h7]; done) | (unfold fx_isDoor; rw [if_neg h1, if_pos h7])) dX0_isDoor_15
    · refine lv_iconst (v := 1) hx hb dX0_isDoor_10 (by decide) ?_
      refine lv_goto (tgt := 15) hx hb dX0_isDoor_11 (by decide) ?_
      exact EnS.iret E hS ni_1 (by first | (simp only [fx_isDoor, if_neg h1, if_neg h7]; done) | (unfold fx_isDoor; rw [if_neg h1, if_neg h7])) dX0_isDoor_15
def fx_isNumberBase (q_base : Int32) : Int32 := if q_base = 5 then 1 else (if q_base = 6 then 1 else 0)
theorem fx_isNumberBase_01 (q_base : Int32) : fx_isNumberBase q_base = 0 ∨ fx_isNumberBase q_base = 1 := by
  unfold fx_isNumberBase
  (repeat' split) <;> first | exact Or.inl rfl | exact Or.inr rfl
theorem hd_X0_isNumberBase : yX0_isNumberBase.cls ≠ "java/lang/invoke/MethodHandle" ∧ yX0_isNumberBase.cls ≠ "java/lang/invoke/VarHandle" ∧ (parseMethodDescriptor yX0_isNumberBase.desc).map (fun d => d.parameters.length) = some 1 := by decide +kernel
set_option maxRecDepth 100000 in
set_option maxHeartbeats 4000000 in
theorem kX0_isNumberBase (l : Launch) (q_base : Int32)  : Cs l yX0_isNumberBase cX0_isNumberBase 1 .boolean 1 (fun _ => True) [.int q_base] (fx_isNumberBase q_base) := by
  refine Cs.of (by decide) (Nat.le_of_ble_eq_true rfl) ?_
  intro p e s m below meth c ls E hZ hS hl
  have hx := E.1.1
  have hb := E.1.2.1
  have hml := E.1.2.2.1
  have hown := E.1.2.2.2.1
  have hts := E.1.2.2.2.2
  have hl : lv_has ls 1 [(0, .int q_base)] := hl
  refine lv_iload_n hx hb dX0_isNumberBase_0 rfl (lv_at hl 0 rfl) ?_
  refine lv_iconst (v := 5) hx hb dX0_isNumberBase_1 (by decide) ?_
  refine lv_icmp_eq (tgt := 11) hx hb dX0_isNumberBase_2 (by decide) (fun h2 => ?_) (fun h2 => ?_)
  · refine lv_iconst (v := 1) hx hb dX0_isNumberBase_11 (by decide) ?_
    refine lv_goto (tgt := 16) hx hb dX0_isNumberBase_12 (by decide) ?_
    exact EnS.iret E hS ni_1 (by first | (simp only [fx_isNumberBase, if_pos h2]; done) | (unfold fx_isNumberBase; rw [if_pos h2])) dX0_isNumberBase_16
  · refine lv_iload_n hx hb dX0_isNumberBase_5 rfl (lv_at hl 0 rfl) ?_
    refine lv_bipush (v := 6) hx hb dX0_isNumberBase_6 (by decide) ?_
    refine lv_icmp_ne (tgt := 15) hx hb dX0_isNumberBase_8 (by decide) (fun h8 => ?_) (fun h8 => ?_)
    · refine lv_iconst (v := 0) hx hb dX0_isNumberBase_15 (by decide) ?_
      exact EnS.iret E hS ni_0 (by first | (simp only [fx_isNumberBase, if_neg h2, if_neg h8]; done) | (unfold fx_isNumberBase; rw [if_neg h2, if_neg h8])) dX0_isNumberBase_16
    · refine lv_iconst (v := 1) hx hb dX0_isNumberBase_11 (by decide) ?_
      refine lv_goto (tgt := 16) hx hb dX0_isNumberBase_12 (by decide) ?_
      exact EnS.iret E hS ni_1 (by first | (simp only [fx_isNumberBase, if_neg h2, if_pos h8]; done) | (unfold fx_isNumberBase; rw [if_neg h2, if_pos h8])) dX0_isNumberBase_16
def fx_isKind (q_base : Int32) (q_depth : Int32) : Int32 := if q_base < 0 then 0 else (if q_base ≤ 6 then (if (fx_isNumberBase q_base) = 0 then (if q_depth < 0 then 0 else (if 3 < q_depth then 0 else 1)) else (if q_depth = 1 then 1 else (if q_depth = 2 then 1 else 0))) else 0)
theorem fx_isKind_01 (q_base : Int32) (q_depth : Int32) : fx_isKind q_base q_depth = 0 ∨ fx_isKind q_base q_depth = 1 := by
  unfold fx_isKind
  (repeat' split) <;> first | exact Or.inl rfl | exact Or.inr rfl | apply fx_isNumberBase_01
theorem hd_X0_isKind : yX0_isKind.cls ≠ "java/lang/invoke/MethodHandle" ∧ yX0_isKind.cls ≠ "java/lang/invoke/VarHandle" ∧ (parseMethodDescriptor yX0_isKind.desc).map (fun d => d.parameters.length) = some 2 := by decide +kernel
set_option maxRecDepth 100000 in
set_option maxHeartbeats 4000000 in
theorem kX0_isKind (l : Launch) (q_base : Int32) (q_depth : Int32)  : Cs l yX0_isKind cX0_isKind 2 .boolean 2 (fun _ => True) [.int q_base, .int q_depth] (fx_isKind q_base q_depth) := by
  refine Cs.of (by decide) (Nat.le_of_ble_eq_true rfl) ?_
  intro p e s m below meth c ls E hZ hS hl
  have hx := E.1.1
  have hb := E.1.2.1
  have hml := E.1.2.2.1
  have hown := E.1.2.2.2.1
  have hts := E.1.2.2.2.2
  have hl : lv_has ls 2 [(0, .int q_base), (1, .int q_depth)] := hl
  refine lv_iload_n hx hb dX0_isKind_0 rfl (lv_at hl 0 rfl) ?_
  refine lv_if_lt (tgt := 10) hx hb dX0_isKind_1 (by decide) (fun h1 => ?_) (fun h1 => ?_)
  · refine lv_iconst (v := 0) hx hb dX0_isKind_10 (by decide) ?_
    exact EnS.iret E hS ni_0 (by first | (simp only [fx_isKind, if_pos h1]; done) | (unfold fx_isKind; rw [if_pos h1])) dX0_isKind_11
  · refine lv_iload_n hx hb dX0_isKind_4 rfl (lv_at hl 0 rfl) ?_
    refine lv_bipush (v := 6) hx hb dX0_isKind_5 (by decide) ?_
    refine lv_icmp_le (tgt := 12) hx hb dX0_isKind_7 (by decide) (fun h7 => ?_) (fun h7 => ?_)
    · refine lv_iload_n hx hb dX0_isKind_12 rfl (lv_at hl 0 rfl) ?_
      refine EnS.sti (r := fx_isNumberBase q_base) E hS [.int q_base] [] (kX0_isNumberBase l q_base ) (fun _ _ _ _ h => h) (fun _ _ _ => trivial) gc_X0_131 hd_X0_isNumberBase ⟨Nat.le_of_ble_eq_true rfl, Nat.le_of_ble_eq_true rfl⟩ rfl hl.1 (Nat.le_of_ble_eq_true rfl) ⟨Nat.le_refl 0, Nat.le_refl 0⟩ dX0_isKind_13 (fun H locs hS => ?_)
      refine lv_if_eq (tgt := 35) hx hb dX0_isKind_16 (by decide) (fun h16 => ?_) (fun h16 => ?_)
      · refine lv_iload_n hx hb dX0_isKind_35 rfl (lv_at hl 1 rfl) ?_
        refine lv_if_lt (tgt := 48) hx hb dX0_isKind_36 (by decide) (fun h36 => ?_) (fun h36 => ?_)
        · refine lv_iconst (v := 0) hx hb dX0_isKind_48 (by decide) ?_
          exact EnS.iret E hS ni_0 (by first | (simp only [fx_isKind, if_neg h1, if_pos h7, if_pos h16, if_pos h36]; done) | (unfold fx_isKind; rw [if_neg h1, if_pos h7, if_pos h16, if_pos h36])) dX0_isKind_49
        · refine lv_iload_n hx hb dX0_isKind_39 rfl (lv_at hl 1 rfl) ?_
          refine lv_iconst (v := 3) hx hb dX0_isKind_40 (by decide) ?_
          refine lv_icmp_gt (tgt := 48) hx hb dX0_isKind_41 (by decide) (fun h41 => ?_) (fun h41 => ?_)
          · refine lv_iconst (v := 0) hx hb dX0_isKind_48 (by decide) ?_
            exact EnS.iret E hS ni_0 (by first | (simp only [fx_isKind, if_neg h1, if_pos h7, if_pos h16, if_neg h36, if_pos h41]; done) | (unfold fx_isKind; rw [if_neg h1, if_pos h7, if_pos h16, if_neg h36, if_pos h41])) dX0_isKind_49
          · refine lv_iconst (v := 1) hx hb dX0_isKind_44 (by decide) ?_
            refine lv_goto (tgt := 49) hx hb dX0_isKind_45 (by decide) ?_
            exact EnS.iret E hS ni_1 (by first | (simp only [fx_isKind, if_neg h1, if_pos h7, if_pos h16, if_neg h36, if_neg h41]; done) | (unfold fx_isKind; rw [if_neg h1, if_pos h7, if_pos h16, if_neg h36, if_neg h41])) dX0_isKind_49
      · refine lv_iload_n hx hb dX0_isKind_19 rfl (lv_at hl 1 rfl) ?_
        refine lv_iconst (v := 1) hx hb dX0_isKind_20 (by decide) ?_
        refine lv_icmp_eq (tgt := 29) hx hb dX0_isKind_21 (by decide) (fun h21 => ?_) (fun h21 => ?_)
        · refine lv_iconst (v := 1) hx hb dX0_isKind_29 (by decide) ?_
          refine lv_goto (tgt := 34) hx hb dX0_isKind_30 (by decide) ?_
          exact EnS.iret E hS ni_1 (by first | (simp only [fx_isKind, if_neg h1, if_pos h7, if_neg h16, if_pos h21]; done) | (unfold fx_isKind; rw [if_neg h1, if_pos h7, if_neg h16, if_pos h21])) dX0_isKind_34
        · refine lv_iload_n hx hb dX0_isKind_24 rfl (lv_at hl 1 rfl) ?_
          refine lv_iconst (v := 2) hx hb dX0_isKind_25 (by decide) ?_
          refine lv_icmp_ne (tgt := 33) hx hb dX0_isKind_26 (by decide) (fun h26 => ?_) (fun h26 => ?_)
          · refine lv_iconst (v := 0) hx hb dX0_isKind_33 (by decide) ?_
            exact EnS.iret E hS ni_0 (by first | (simp only [fx_isKind, if_neg h1, if_pos h7, if_neg h16, if_neg h21, if_neg h26]; done) | (unfold fx_isKind; rw [if_neg h1, if_pos h7, if_neg h16, if_neg h21, if_neg h26])) dX0_isKind_34
          · refine lv_iconst (v := 1) hx hb dX0_isKind_29 (by decide) ?_
            refine lv_goto (tgt := 34) hx hb dX0_isKind_30 (by decide) ?_
            exact EnS.iret E hS ni_1 (by first | (simp only [fx_isKind, if_neg h1, if_pos h7, if_neg h16, if_neg h21, if_pos h26]; done) | (unfold fx_isKind; rw [if_neg h1, if_pos h7, if_neg h16, if_neg h21, if_pos h26])) dX0_isKind_34
    · refine lv_iconst (v := 0) hx hb dX0_isKind_10 (by decide) ?_
      exact EnS.iret E hS ni_0 (by first | (simp only [fx_isKind, if_neg h1, if_neg h7]; done) | (unfold fx_isKind; rw [if_neg h1, if_neg h7])) dX0_isKind_11
def fx_placeIndex (q_r : Int32) (q_i : Int32) : Int32 := (q_r * 8) + q_i
theorem hd_X0_placeIndex : yX0_placeIndex.cls ≠ "java/lang/invoke/MethodHandle" ∧ yX0_placeIndex.cls ≠ "java/lang/invoke/VarHandle" ∧ (parseMethodDescriptor yX0_placeIndex.desc).map (fun d => d.parameters.length) = some 2 := by decide +kernel
set_option maxRecDepth 100000 in
set_option maxHeartbeats 4000000 in
theorem kX0_placeIndex (l : Launch) (q_r : Int32) (q_i : Int32)  : Cs l yX0_placeIndex cX0_placeIndex 2 .int 1 (fun _ => True) [.int q_r, .int q_i] (fx_placeIndex q_r q_i) := by
  refine Cs.of (by decide) (Nat.le_of_ble_eq_true rfl) ?_
  intro p e s m below meth c ls E hZ hS hl
  have hx := E.1.1
  have hb := E.1.2.1
  have hml := E.1.2.2.1
  have hown := E.1.2.2.2.1
  have hts := E.1.2.2.2.2
  have hl : lv_has ls 2 [(0, .int q_r), (1, .int q_i)] := hl
  refine lv_iload_n hx hb dX0_placeIndex_0 rfl (lv_at hl 0 rfl) ?_
  refine lv_bipush (v := 8) hx hb dX0_placeIndex_1 (by decide) ?_
  refine lv_imul hx hb dX0_placeIndex_3 ?_
  refine lv_iload_n hx hb dX0_placeIndex_4 rfl (lv_at hl 1 rfl) ?_
  refine lv_iadd hx hb dX0_placeIndex_5 ?_
  exact EnS.iret E hS (ni_i _) (by unfold fx_placeIndex; rfl) dX0_placeIndex_6
def fx_goesFor (q_base : Int32) (q_other : Int32) : Int32 := if (((gfT (q_base).toNatClampNeg) >>> (q_other &&& 31)) &&& 1) = 1 then 1 else 0
theorem fx_goesFor_01 (q_base : Int32) (q_other : Int32) : fx_goesFor q_base q_other = 0 ∨ fx_goesFor q_base q_other = 1 := by
  unfold fx_goesFor
  (repeat' split) <;> first | exact Or.inl rfl | exact Or.inr rfl
theorem hd_X0_goesFor : yX0_goesFor.cls ≠ "java/lang/invoke/MethodHandle" ∧ yX0_goesFor.cls ≠ "java/lang/invoke/VarHandle" ∧ (parseMethodDescriptor yX0_goesFor.desc).map (fun d => d.parameters.length) = some 2 := by decide +kernel
set_option maxRecDepth 100000 in
set_option maxHeartbeats 4000000 in
theorem kX0_goesFor (l : Launch) (g : Nat) (q_base : Int32) (q_other : Int32) (hb7 : vp_in q_base 7) : Cs l yX0_goesFor cX0_goesFor 2 .boolean 1 (fun U => zX g (fun _ => False) U U.heap) [.int q_base, .int q_other] (fx_goesFor q_base q_other) := by
  refine Cs.of (by decide) (Nat.le_of_ble_eq_true rfl) ?_
  intro p e s m below meth c ls E hZ hS hl
  have hx := E.1.1
  have hb := E.1.2.1
  have hml := E.1.2.2.1
  have hown := E.1.2.2.2.1
  have hts := E.1.2.2.2.2
  have hl : lv_has ls 2 [(0, .int q_base), (1, .int q_other)] := hl
  refine va_gets hx hb hZ.1 hS hown (hts _ wf_X0_140) (fun _ h => h) dX0_goesFor_0 ?_
  refine lv_iload_n hx hb dX0_goesFor_3 rfl (lv_at hl 0 rfl) ?_
  refine va_ti (v := .int (gfT (q_base).toNatClampNeg)) hx hb hZ.2 hS (show vp_in q_base 7 from by with_reducible assumption) rfl dX0_goesFor_4 ?_
  refine lv_iload_n hx hb dX0_goesFor_5 rfl (lv_at hl 1 rfl) ?_
  refine lv_ishr hx hb dX0_goesFor_6 ?_
  refine lv_iconst (v := 1) hx hb dX0_goesFor_7 (by decide) ?_
  refine lv_iand hx hb dX0_goesFor_8 ?_
  refine lv_iconst (v := 1) hx hb dX0_goesFor_9 (by decide) ?_
  refine lv_icmp_ne (tgt := 17) hx hb dX0_goesFor_10 (by decide) (fun h10 => ?_) (fun h10 => ?_)
  · refine lv_iconst (v := 0) hx hb dX0_goesFor_17 (by decide) ?_
    exact EnS.iret E hS ni_0 (by first | (simp only [fx_goesFor, if_neg h10]; done) | (unfold fx_goesFor; rw [if_neg h10])) dX0_goesFor_18
  · refine lv_iconst (v := 1) hx hb dX0_goesFor_13 (by decide) ?_
    refine lv_goto (tgt := 18) hx hb dX0_goesFor_14 (by decide) ?_
    exact EnS.iret E hS ni_1 (by first | (simp only [fx_goesFor, if_pos h10]; done) | (unfold fx_goesFor; rw [if_pos h10])) dX0_goesFor_18
def fx_isPiece (u : XS) (q_x : Int32) : Int32 := if (x_thingDepth u (q_x).toNatClampNeg) = 0 then 1 else 0
theorem fx_isPiece_01 (u : XS) (q_x : Int32) : fx_isPiece u q_x = 0 ∨ fx_isPiece u q_x = 1 := by
  unfold fx_isPiece
  (repeat' split) <;> first | exact Or.inl rfl | exact Or.inr rfl
theorem hd_X0_isPiece : yX0_isPiece.cls = RX0 ∧ yX0_isPiece.cls ≠ "java/lang/invoke/MethodHandle" ∧ yX0_isPiece.cls ≠ "java/lang/invoke/VarHandle" ∧ (parseMethodDescriptor yX0_isPiece.desc).map (fun d => d.parameters.length) = some 1 := by decide +kernel
set_option maxRecDepth 100000 in
set_option maxHeartbeats 4000000 in
theorem kX0_isPiece (l : Launch) (D : va_G) (ad : Nat → Nat) (ca : Nat → ClassId) (g : Nat) (u : XS) (q_x : Int32) (hqx : vp_in q_x 60) : CiX l yX0_isPiece cX0_isPiece 2 .boolean 1 D ad ca g [.int q_x] u ((fx_isPiece u q_x, u)) := by
  refine CiX.of (by decide) rfl (Nat.le_of_ble_eq_true rfl) ?_
  intro p e s m below meth c A ls E hS hl
  have hx := E.1.1
  have hb := E.1.2.1
  have hml := E.1.2.2.1
  have hown := E.1.2.2.2.1
  have hts := E.1.2.2.2.2
  have hl : lv_has ls 2 [(0, .ref (ad 0)), (1, .int q_x)] := hl
  refine lv_aload_n hx hb dX0_isPiece_0 rfl (lv_at hl 0 rfl) ?_
  refine gX_thingDepth E hS dX0_isPiece_1 ?_
  refine lv_iload_n hx hb dX0_isPiece_4 rfl (lv_at hl 1 rfl) ?_
  refine lX_thingDepth (v := x_thingDepth u (q_x).toNatClampNeg) E hS (show vp_in q_x 60 from by with_reducible assumption) rfl dX0_isPiece_5 ?_
  refine lv_if_ne (tgt := 13) hx hb dX0_isPiece_6 (by decide) (fun h6 => ?_) (fun h6 => ?_)
  · refine lv_iconst (v := 0) hx hb dX0_isPiece_13 (by decide) ?_
    exact EnX.iret E hS ni_0 (congrArg (fun z => (z, u)) (show (0 : Int32) = fx_isPiece u q_x by unfold fx_isPiece; rw [if_neg h6])) dX0_isPiece_14
  · refine lv_iconst (v := 1) hx hb dX0_isPiece_9 (by decide) ?_
    refine lv_goto (tgt := 14) hx hb dX0_isPiece_10 (by decide) ?_
    exact EnX.iret E hS ni_1 (congrArg (fun z => (z, u)) (show (1 : Int32) = fx_isPiece u q_x by unfold fx_isPiece; rw [if_pos h6])) dX0_isPiece_14
def fx_isLedger (u : XS) (q_x : Int32) : Int32 := if (x_thingDepth u (q_x).toNatClampNeg) = 1 then (if (fx_isNumberBase (x_thingBase u (q_x).toNatClampNeg)) = 0 then 0 else 1) else 0
theorem fx_isLedger_01 (u : XS) (q_x : Int32) : fx_isLedger u q_x = 0 ∨ fx_isLedger u q_x = 1 := by
  unfold fx_isLedger
  (repeat' split) <;> first | exact Or.inl rfl | exact Or.inr rfl | apply fx_isNumberBase_01
theorem hd_X0_isLedger : yX0_isLedger.cls = RX0 ∧ yX0_isLedger.cls ≠ "java/lang/invoke/MethodHandle" ∧ yX0_isLedger.cls ≠ "java/lang/invoke/VarHandle" ∧ (parseMethodDescriptor yX0_isLedger.desc).map (fun d => d.parameters.length) = some 1 := by decide +kernel
set_option maxRecDepth 100000 in
set_option maxHeartbeats 4000000 in
theorem kX0_isLedger (l : Launch) (D : va_G) (ad : Nat → Nat) (ca : Nat → ClassId) (g : Nat) (u : XS) (q_x : Int32) (hqx : vp_in q_x 60) : CiX l yX0_isLedger cX0_isLedger 2 .boolean 2 D ad ca g [.int q_x] u ((fx_isLedger u q_x, u)) := by
  refine CiX.of (by decide) rfl (Nat.le_of_ble_eq_true rfl) ?_
  intro p e s m below meth c A ls E hS hl
  have hx := E.1.1
  have hb := E.1.2.1
  have hml := E.1.2.2.1
  have hown := E.1.2.2.2.1
  have hts := E.1.2.2.2.2
  have hl : lv_has ls 2 [(0, .ref (ad 0)), (1, .int q_x)] := hl
  refine lv_aload_n hx hb dX0_isLedger_0 rfl (lv_at hl 0 rfl) ?_
  refine gX_thingDepth E hS dX0_isLedger_1 ?_
  refine lv_iload_n hx hb dX0_isLedger_4 rfl (lv_at hl 1 rfl) ?_
  refine lX_thingDepth (v := x_thingDepth u (q_x).toNatClampNeg) E hS (show vp_in q_x 60 from by with_reducible assumption) rfl dX0_isLedger_5 ?_
  refine lv_iconst (v := 1) hx hb dX0_isLedger_6 (by decide) ?_
  refine lv_icmp_ne (tgt := 26) hx hb dX0_isLedger_7 (by decide) (fun h7 => ?_) (fun h7 => ?_)
  · refine lv_iconst (v := 0) hx hb dX0_isLedger_26 (by decide) ?_
    exact EnX.iret E hS ni_0 (congrArg (fun z => (z, u)) (show (0 : Int32) = fx_isLedger u q_x by unfold fx_isLedger; rw [if_neg h7])) dX0_isLedger_27
  · refine lv_aload_n hx hb dX0_isLedger_10 rfl (lv_at hl 0 rfl) ?_
    refine gX_thingBase E hS dX0_isLedger_11 ?_
    refine lv_iload_n hx hb dX0_isLedger_14 rfl (lv_at hl 1 rfl) ?_
    refine lX_thingBase (v := x_thingBase u (q_x).toNatClampNeg) E hS (show vp_in q_x 60 from by with_reducible assumption) rfl dX0_isLedger_15 ?_
    refine EnX.sti (r := fx_isNumberBase (x_thingBase u (q_x).toNatClampNeg)) E hS [.int (x_thingBase u (q_x).toNatClampNeg)] [] (kX0_isNumberBase l (x_thingBase u (q_x).toNatClampNeg) ) (fun _ _ _ _ h => h) (fun _ _ _ => trivial) gc_X0_131 hd_X0_isNumberBase ⟨Nat.le_of_ble_eq_true rfl, Nat.le_of_ble_eq_true rfl⟩ rfl hl.1 (Nat.le_of_ble_eq_true rfl) ⟨Nat.le_refl 0, Nat.le_refl 0⟩ dX0_isLedger_16 (fun H locs hS => ?_)
    refine lv_if_eq (tgt := 26) hx hb dX0_isLedger_19 (by decide) (fun h19 => ?_) (fun h19 => ?_)
    · refine lv_iconst (v := 0) hx hb dX0_isLedger_26 (by decide) ?_
      exact EnX.iret E hS ni_0 (congrArg (fun z => (z, u)) (show (0 : Int32) = fx_isLedger u q_x by unfold fx_isLedger; rw [if_pos h7, if_pos h19])) dX0_isLedger_27
    · refine lv_iconst (v := 1) hx hb dX0_isLedger_22 (by decide) ?_
      refine lv_goto (tgt := 27) hx hb dX0_isLedger_23 (by decide) ?_
      exact EnX.iret E hS ni_1 (congrArg (fun z => (z, u)) (show (1 : Int32) = fx_isLedger u q_x by unfold fx_isLedger; rw [if_pos h7, if_neg h19])) dX0_isLedger_27
def fx_holdsThings (u : XS) (q_x : Int32) : Int32 := if (fx_isPiece u q_x) = 0 then (if (fx_isLedger u q_x) = 0 then 1 else 0) else 0
theorem fx_holdsThings_01 (u : XS) (q_x : Int32) : fx_holdsThings u q_x = 0 ∨ fx_holdsThings u q_x = 1 := by
  unfold fx_holdsThings
  (repeat' split) <;> first | exact Or.inl rfl | exact Or.inr rfl | apply fx_isLedger_01 | apply fx_isPiece_01
theorem hd_X0_holdsThings : yX0_holdsThings.cls = RX0 ∧ yX0_holdsThings.cls ≠ "java/lang/invoke/MethodHandle" ∧ yX0_holdsThings.cls ≠ "java/lang/invoke/VarHandle" ∧ (parseMethodDescriptor yX0_holdsThings.desc).map (fun d => d.parameters.length) = some 1 := by decide +kernel
set_option maxRecDepth 100000 in
set_option maxHeartbeats 4000000 in
theorem kX0_holdsThings (l : Launch) (D : va_G) (ad : Nat → Nat) (ca : Nat → ClassId) (g : Nat) (u : XS) (q_x : Int32) (hqx : vp_in q_x 60) : CiX l yX0_holdsThings cX0_holdsThings 2 .boolean 3 D ad ca g [.int q_x] u ((fx_holdsThings u q_x, u)) := by
  refine CiX.of (by decide) rfl (Nat.le_of_ble_eq_true rfl) ?_
  intro p e s m below meth c A ls E hS hl
  have hx := E.1.1
  have hb := E.1.2.1
  have hml := E.1.2.2.1
  have hown := E.1.2.2.2.1
  have hts := E.1.2.2.2.2
  have hl : lv_has ls 2 [(0, .ref (ad 0)), (1, .int q_x)] := hl
  refine lv_aload_n hx hb dX0_holdsThings_0 rfl (lv_at hl 0 rfl) ?_
  refine lv_iload_n hx hb dX0_holdsThings_1 rfl (lv_at hl 1 rfl) ?_
  refine EnX.calli (r := fx_isPiece u q_x) (u2 := u) E hS [.int q_x] [] (kX0_isPiece l D ad ca g u q_x (by with_reducible assumption)) gc_X0_111 hd_X0_isPiece ⟨Nat.le_of_ble_eq_true rfl, Nat.le_of_ble_eq_true rfl⟩ rfl hl.1 (Nat.le_of_ble_eq_true rfl) ⟨Nat.le_refl 0, Nat.le_refl 0⟩ dX0_holdsThings_2 (fun H locs hS => ?_)
  refine lv_if_ne (tgt := 20) hx hb dX0_holdsThings_5 (by decide) (fun h5 => ?_) (fun h5 => ?_)
  · refine lv_iconst (v := 0) hx hb dX0_holdsThings_20 (by decide) ?_
    exact EnX.iret E hS ni_0 (congrArg (fun z => (z, u)) (show (0 : Int32) = fx_holdsThings u q_x by unfold fx_holdsThings; rw [if_neg h5])) dX0_holdsThings_21
  · refine lv_aload_n hx hb dX0_holdsThings_8 rfl (lv_at hl 0 rfl) ?_
    refine lv_iload_n hx hb dX0_holdsThings_9 rfl (lv_at hl 1 rfl) ?_
    refine EnX.calli (r := fx_isLedger u q_x) (u2 := u) E hS [.int q_x] [] (kX0_isLedger l D ad ca g u q_x (by with_reducible assumption)) gc_X0_124 hd_X0_isLedger ⟨Nat.le_of_ble_eq_true rfl, Nat.le_of_ble_eq_true rfl⟩ rfl hl.1 (Nat.le_of_ble_eq_true rfl) ⟨Nat.le_refl 0, Nat.le_refl 0⟩ dX0_holdsThings_10 (fun H locs hS => ?_)
    refine lv_if_ne (tgt := 20) hx hb dX0_holdsThings_13 (by decide) (fun h13 => ?_) (fun h13 => ?_)
    · refine lv_iconst (v := 0) hx hb dX0_holdsThings_20 (by decide) ?_
      exact EnX.iret E hS ni_0 (congrArg (fun z => (z, u)) (show (0 : Int32) = fx_holdsThings u q_x by unfold fx_holdsThings; rw [if_pos h5, if_neg h13])) dX0_holdsThings_21
    · refine lv_iconst (v := 1) hx hb dX0_holdsThings_16 (by decide) ?_
      refine lv_goto (tgt := 21) hx hb dX0_holdsThings_17 (by decide) ?_
      exact EnX.iret E hS ni_1 (congrArg (fun z => (z, u)) (show (1 : Int32) = fx_holdsThings u q_x by unfold fx_holdsThings; rw [if_pos h5, if_pos h13])) dX0_holdsThings_21
theorem xt_in {u : XS} (hI : XI u) {x : Int32} (h : ¬ fx_isThing u x = 0) : vp_in x 60 := by
  have h2 := hI.1
  rw [vp_in_iff]
  unfold fx_isThing at h
  split at h
  · exact absurd rfl h
  · split at h
    · exact absurd rfl h
    · rename_i h3 h4
      rw [lt_ti] at h3
      rw [le_ti] at h4
      have e0 : (0 : Int32).toInt = 0 := by decide
      omega
theorem xb_in {u : XS} (hI : XI u) (i : Nat) : vp_in (x_thingBase u i) 7 := hI.2.1 i
theorem xn_in {u : XS} (hI : XI u) {x : Int32} (h : ¬ fx_isThingOrNone u x = 0) (h2 : ¬ x = (-1)) : vp_in x 60 := by
  unfold fx_isThingOrNone at h
  rw [if_neg h2] at h
  split at h
  · exact absurd rfl h
  · rename_i h3
    exact xt_in hI h3
def fx_isOfKind (u : XS) (q_x : Int32) (q_base : Int32) (q_depth : Int32) : Int32 := if (fx_isThing u q_x) = 0 then 0 else (if (x_thingDepth u (q_x).toNatClampNeg) = q_depth then (if (fx_goesFor (x_thingBase u (q_x).toNatClampNeg) q_base) = 0 then 0 else 1) else 0)
theorem fx_isOfKind_01 (u : XS) (q_x : Int32) (q_base : Int32) (q_depth : Int32) : fx_isOfKind u q_x q_base q_depth = 0 ∨ fx_isOfKind u q_x q_base q_depth = 1 := by
  unfold fx_isOfKind
  (repeat' split) <;> first | exact Or.inl rfl | exact Or.inr rfl | apply fx_goesFor_01 | apply fx_isThing_01
theorem hd_X0_isOfKind : yX0_isOfKind.cls = RX0 ∧ yX0_isOfKind.cls ≠ "java/lang/invoke/MethodHandle" ∧ yX0_isOfKind.cls ≠ "java/lang/invoke/VarHandle" ∧ (parseMethodDescriptor yX0_isOfKind.desc).map (fun d => d.parameters.length) = some 3 := by decide +kernel
set_option maxRecDepth 100000 in
set_option maxHeartbeats 4000000 in
theorem kX0_isOfKind (l : Launch) (D : va_G) (ad : Nat → Nat) (ca : Nat → ClassId) (g : Nat) (u : XS) (q_x : Int32) (q_base : Int32) (q_depth : Int32) (hI : XI u) : CiX l yX0_isOfKind cX0_isOfKind 4 .boolean 2 D ad ca g [.int q_x, .int q_base, .int q_depth] u ((fx_isOfKind u q_x q_base q_depth, u)) := by
  refine CiX.of (by decide) rfl (Nat.le_of_ble_eq_true rfl) ?_
  intro p e s m below meth c A ls E hS hl
  have hx := E.1.1
  have hb := E.1.2.1
  have hml := E.1.2.2.1
  have hown := E.1.2.2.2.1
  have hts := E.1.2.2.2.2
  have hl : lv_has ls 4 [(0, .ref (ad 0)), (1, .int q_x), (2, .int q_base), (3, .int q_depth)] := hl
  refine lv_aload_n hx hb dX0_isOfKind_0 rfl (lv_at hl 0 rfl) ?_
  refine lv_iload_n hx hb dX0_isOfKind_1 rfl (lv_at hl 1 rfl) ?_
  refine EnX.calli (r := fx_isThing u q_x) (u2 := u) E hS [.int q_x] [] (kX0_isThing l D ad ca g u q_x ) gc_X0_137 hd_X0_isThing ⟨Nat.le_of_ble_eq_true rfl, Nat.le_of_ble_eq_true rfl⟩ rfl hl.1 (Nat.le_of_ble_eq_true rfl) ⟨Nat.le_refl 0, Nat.le_refl 0⟩ dX0_isOfKind_2 (fun H locs hS => ?_)
  refine lv_if_eq (tgt := 35) hx hb dX0_isOfKind_5 (by decide) (fun h5 => ?_) (fun h5 => ?_)
  · refine lv_iconst (v := 0) hx hb dX0_isOfKind_35 (by decide) ?_
    exact EnX.iret E hS ni_0 (congrArg (fun z => (z, u)) (show (0 : Int32) = fx_isOfKind u q_x q_base q_depth by unfold fx_isOfKind; rw [if_pos h5])) dX0_isOfKind_36
  · refine lv_aload_n hx hb dX0_isOfKind_8 rfl (lv_at hl 0 rfl) ?_
    refine gX_thingDepth E hS dX0_isOfKind_9 ?_
    refine lv_iload_n hx hb dX0_isOfKind_12 rfl (lv_at hl 1 rfl) ?_
    refine lX_thingDepth (v := x_thingDepth u (q_x).toNatClampNeg) E hS (show vp_in q_x 60 from by first | with_reducible assumption | (refine hqr ?_; with_reducible assumption) | (refine xt_in hI ?_; with_reducible assumption) | (refine xn_in hI ?_ ?_ <;> with_reducible assumption) | with_reducible exact xb_in hI _) rfl dX0_isOfKind_13 ?_
    refine lv_iload_n hx hb dX0_isOfKind_14 rfl (lv_at hl 3 rfl) ?_
    refine lv_icmp_ne (tgt := 35) hx hb dX0_isOfKind_15 (by decide) (fun h15 => ?_) (fun h15 => ?_)
    · refine lv_iconst (v := 0) hx hb dX0_isOfKind_35 (by decide) ?_
      exact EnX.iret E hS ni_0 (congrArg (fun z => (z, u)) (show (0 : Int32) = fx_isOfKind u q_x q_base q_depth by unfold fx_isOfKind; rw [if_neg h5, if_neg h15])) dX0_isOfKind_36
    · refine lv_aload_n hx hb dX0_isOfKind_18 rfl (lv_at hl 0 rfl) ?_
      refine gX_thingBase E hS dX0_isOfKind_19 ?_
      refine lv_iload_n hx hb dX0_isOfKind_22 rfl (lv_at hl 1 rfl) ?_
      refine lX_thingBase (v := x_thingBase u (q_x).toNatClampNeg) E hS (show vp_in q_x 60 from by first | with_reducible assumption | (refine hqr ?_; with_reducible assumption) | (refine xt_in hI ?_; with_reducible assumption) | (refine xn_in hI ?_ ?_ <;> with_reducible assumption) | with_reducible exact xb_in hI _) rfl dX0_isOfKind_23 ?_
      refine lv_iload_n hx hb dX0_isOfKind_24 rfl (lv_at hl 2 rfl) ?_
      refine EnX.sti (r := fx_goesFor (x_thingBase u (q_x).toNatClampNeg) q_base) E hS [.int (x_thingBase u (q_x).toNatClampNeg), .int q_base] [] (kX0_goesFor l g (x_thingBase u (q_x).toNatClampNeg) q_base (by first | with_reducible assumption | (refine hqr ?_; with_reducible assumption) | (refine xt_in hI ?_; with_reducible assumption) | (refine xn_in hI ?_ ?_ <;> with_reducible assumption) | with_reducible exact xb_in hI _)) (fun _ U _ _ h => zX.moved (Vm.Alike.refl U.vm) h) (fun _ hU hvm => zX_at E hS (fun _ h => h.elim) hU hvm) gc_X0_143 hd_X0_goesFor ⟨Nat.le_of_ble_eq_true rfl, Nat.le_of_ble_eq_true rfl⟩ rfl hl.1 (Nat.le_of_ble_eq_true rfl) ⟨Nat.le_refl 0, Nat.le_refl 0⟩ dX0_isOfKind_25 (fun H locs hS => ?_)
      refine lv_if_eq (tgt := 35) hx hb dX0_isOfKind_28 (by decide) (fun h28 => ?_) (fun h28 => ?_)
      · refine lv_iconst (v := 0) hx hb dX0_isOfKind_35 (by decide) ?_
        exact EnX.iret E hS ni_0 (congrArg (fun z => (z, u)) (show (0 : Int32) = fx_isOfKind u q_x q_base q_depth by unfold fx_isOfKind; rw [if_neg h5, if_pos h15, if_pos h28])) dX0_isOfKind_36
      · refine lv_iconst (v := 1) hx hb dX0_isOfKind_31 (by decide) ?_
        refine lv_goto (tgt := 36) hx hb dX0_isOfKind_32 (by decide) ?_
        exact EnX.iret E hS ni_1 (congrArg (fun z => (z, u)) (show (1 : Int32) = fx_isOfKind u q_x q_base q_depth by unfold fx_isOfKind; rw [if_neg h5, if_pos h15, if_neg h28])) dX0_isOfKind_36
def fx_mayPass (u : XS) (q_x : Int32) (q_base : Int32) (q_depth : Int32) : Int32 := if q_x = (-1) then 1 else (if (fx_isOfKind u q_x q_base q_depth) = 0 then 0 else 1)
theorem fx_mayPass_01 (u : XS) (q_x : Int32) (q_base : Int32) (q_depth : Int32) : fx_mayPass u q_x q_base q_depth = 0 ∨ fx_mayPass u q_x q_base q_depth = 1 := by
  unfold fx_mayPass
  (repeat' split) <;> first | exact Or.inl rfl | exact Or.inr rfl | apply fx_isOfKind_01
theorem hd_X0_mayPass : yX0_mayPass.cls = RX0 ∧ yX0_mayPass.cls ≠ "java/lang/invoke/MethodHandle" ∧ yX0_mayPass.cls ≠ "java/lang/invoke/VarHandle" ∧ (parseMethodDescriptor yX0_mayPass.desc).map (fun d => d.parameters.length) = some 3 := by decide +kernel
set_option maxRecDepth 100000 in
set_option maxHeartbeats 4000000 in
theorem kX0_mayPass (l : Launch) (D : va_G) (ad : Nat → Nat) (ca : Nat → ClassId) (g : Nat) (u : XS) (q_x : Int32) (q_base : Int32) (q_depth : Int32) (hI : XI u) : CiX l yX0_mayPass cX0_mayPass 4 .boolean 3 D ad ca g [.int q_x, .int q_base, .int q_depth] u ((fx_mayPass u q_x q_base q_depth, u)) := by
  refine CiX.of (by decide) rfl (Nat.le_of_ble_eq_true rfl) ?_
  intro p e s m below meth c A ls E hS hl
  have hx := E.1.1
  have hb := E.1.2.1
  have hml := E.1.2.2.1
  have hown := E.1.2.2.2.1
  have hts := E.1.2.2.2.2
  have hl : lv_has ls 4 [(0, .ref (ad 0)), (1, .int q_x), (2, .int q_base), (3, .int q_depth)] := hl
  refine lv_iload_n hx hb dX0_mayPass_0 rfl (lv_at hl 1 rfl) ?_
  refine lv_iconst (v := (-1)) hx hb dX0_mayPass_1 (by decide) ?_
  refine lv_icmp_eq (tgt := 15) hx hb dX0_mayPass_2 (by decide) (fun h2 => ?_) (fun h2 => ?_)
  · refine lv_iconst (v := 1) hx hb dX0_mayPass_15 (by decide) ?_
    refine lv_goto (tgt := 20) hx hb dX0_mayPass_16 (by decide) ?_
    exact EnX.iret E hS ni_1 (congrArg (fun z => (z, u)) (show (1 : Int32) = fx_mayPass u q_x q_base q_depth by unfold fx_mayPass; rw [if_pos h2])) dX0_mayPass_20
  · refine lv_aload_n hx hb dX0_mayPass_5 rfl (lv_at hl 0 rfl) ?_
    refine lv_iload_n hx hb dX0_mayPass_6 rfl (lv_at hl 1 rfl) ?_
    refine lv_iload_n hx hb dX0_mayPass_7 rfl (lv_at hl 2 rfl) ?_
    refine lv_iload_n hx hb dX0_mayPass_8 rfl (lv_at hl 3 rfl) ?_
    refine EnX.calli (r := fx_isOfKind u q_x q_base q_depth) (u2 := u) E hS [.int q_x, .int q_base, .int q_depth] [] (kX0_isOfKind l D ad ca g u q_x q_base q_depth (by first | with_reducible assumption | (refine hqr ?_; with_reducible assumption) | (refine xt_in hI ?_; with_reducible assumption) | (refine xn_in hI ?_ ?_ <;> with_reducible assumption) | with_reducible exact xb_in hI _)) gc_X0_98 hd_X0_isOfKind ⟨Nat.le_of_ble_eq_true rfl, Nat.le_of_ble_eq_true rfl⟩ rfl hl.1 (Nat.le_of_ble_eq_true rfl) ⟨Nat.le_refl 0, Nat.le_refl 0⟩ dX0_mayPass_9 (fun H locs hS => ?_)
    refine lv_if_eq (tgt := 19) hx hb dX0_mayPass_12 (by decide) (fun h12 => ?_) (fun h12 => ?_)
    · refine lv_iconst (v := 0) hx hb dX0_mayPass_19 (by decide) ?_
      exact EnX.iret E hS ni_0 (congrArg (fun z => (z, u)) (show (0 : Int32) = fx_mayPass u q_x q_base q_depth by unfold fx_mayPass; rw [if_neg h2, if_pos h12])) dX0_mayPass_20
    · refine lv_iconst (v := 1) hx hb dX0_mayPass_15 (by decide) ?_
      refine lv_goto (tgt := 20) hx hb dX0_mayPass_16 (by decide) ?_
      exact EnX.iret E hS ni_1 (congrArg (fun z => (z, u)) (show (1 : Int32) = fx_mayPass u q_x q_base q_depth by unfold fx_mayPass; rw [if_neg h2, if_neg h12])) dX0_mayPass_20
def fx_goesInto (u : XS) (q_x : Int32) (q_r : Int32) : Int32 := fx_mayPass u q_x (x_thingBase u (q_r).toNatClampNeg) ((x_thingDepth u (q_r).toNatClampNeg) - 1)
theorem fx_goesInto_01 (u : XS) (q_x : Int32) (q_r : Int32) : fx_goesInto u q_x q_r = 0 ∨ fx_goesInto u q_x q_r = 1 := by
  unfold fx_goesInto
  (repeat' split) <;> first | exact Or.inl rfl | exact Or.inr rfl | apply fx_mayPass_01
theorem hd_X0_goesInto : yX0_goesInto.cls = RX0 ∧ yX0_goesInto.cls ≠ "java/lang/invoke/MethodHandle" ∧ yX0_goesInto.cls ≠ "java/lang/invoke/VarHandle" ∧ (parseMethodDescriptor yX0_goesInto.desc).map (fun d => d.parameters.length) = some 2 := by decide +kernel
set_option maxRecDepth 100000 in
set_option maxHeartbeats 4000000 in
theorem kX0_goesInto (l : Launch) (D : va_G) (ad : Nat → Nat) (ca : Nat → ClassId) (g : Nat) (u : XS) (q_x : Int32) (q_r : Int32) (hI : XI u) (hqr : vp_in q_r 60) : CiX l yX0_goesInto cX0_goesInto 3 .boolean 4 D ad ca g [.int q_x, .int q_r] u ((fx_goesInto u q_x q_r, u)) := by
  refine CiX.of (by decide) rfl (Nat.le_of_ble_eq_true rfl) ?_
  intro p e s m below meth c A ls E hS hl
  have hx := E.1.1
  have hb := E.1.2.1
  have hml := E.1.2.2.1
  have hown := E.1.2.2.2.1
  have hts := E.1.2.2.2.2
  have hl : lv_has ls 3 [(0, .ref (ad 0)), (1, .int q_x), (2, .int q_r)] := hl
  refine lv_aload_n hx hb dX0_goesInto_0 rfl (lv_at hl 0 rfl) ?_
  refine lv_iload_n hx hb dX0_goesInto_1 rfl (lv_at hl 1 rfl) ?_
  refine lv_aload_n hx hb dX0_goesInto_2 rfl (lv_at hl 0 rfl) ?_
  refine gX_thingBase E hS dX0_goesInto_3 ?_
  refine lv_iload_n hx hb dX0_goesInto_6 rfl (lv_at hl 2 rfl) ?_
  refine lX_thingBase (v := x_thingBase u (q_r).toNatClampNeg) E hS (show vp_in q_r 60 from by first | with_reducible assumption | (refine hqr ?_; with_reducible assumption) | (refine xt_in hI ?_; with_reducible assumption) | (refine xn_in hI ?_ ?_ <;> with_reducible assumption) | with_reducible exact xb_in hI _) rfl dX0_goesInto_7 ?_
  refine lv_aload_n hx hb dX0_goesInto_8 rfl (lv_at hl 0 rfl) ?_
  refine gX_thingDepth E hS dX0_goesInto_9 ?_
  refine lv_iload_n hx hb dX0_goesInto_12 rfl (lv_at hl 2 rfl) ?_
  refine lX_thingDepth (v := x_thingDepth u (q_r).toNatClampNeg) E hS (show vp_in q_r 60 from by first | with_reducible assumption | (refine hqr ?_; with_reducible assumption) | (refine xt_in hI ?_; with_reducible assumption) | (refine xn_in hI ?_ ?_ <;> with_reducible assumption) | with_reducible exact xb_in hI _) rfl dX0_goesInto_13 ?_
  refine lv_iconst (v := 1) hx hb dX0_goesInto_14 (by decide) ?_
  refine lv_isub hx hb dX0_goesInto_15 ?_
  refine EnX.calli (r := fx_mayPass u q_x (x_thingBase u (q_r).toNatClampNeg) ((x_thingDepth u (q_r).toNatClampNeg) - 1)) (u2 := u) E hS [.int q_x, .int (x_thingBase u (q_r).toNatClampNeg), .int ((x_thingDepth u (q_r).toNatClampNeg) - 1)] [] (kX0_mayPass l D ad ca g u q_x (x_thingBase u (q_r).toNatClampNeg) ((x_thingDepth u (q_r).toNatClampNeg) - 1) (by first | with_reducible assumption | (refine hqr ?_; with_reducible assumption) | (refine xt_in hI ?_; with_reducible assumption) | (refine xn_in hI ?_ ?_ <;> with_reducible assumption) | with_reducible exact xb_in hI _)) gc_X0_76 hd_X0_mayPass ⟨Nat.le_of_ble_eq_true rfl, Nat.le_of_ble_eq_true rfl⟩ rfl hl.1 (Nat.le_of_ble_eq_true rfl) ⟨Nat.le_refl 0, Nat.le_refl 0⟩ dX0_goesInto_16 (fun H locs hS => ?_)
  exact EnX.iret E hS (ni_b (fx_mayPass_01 u q_x (x_thingBase u (q_r).toNatClampNeg) ((x_thingDepth u (q_r).toNatClampNeg) - 1))) (congrArg (fun z => (z, u)) (show fx_mayPass u q_x (x_thingBase u (q_r).toNatClampNeg) ((x_thingDepth u (q_r).toNatClampNeg) - 1) = fx_goesInto u q_x q_r by unfold fx_goesInto; rfl)) dX0_goesInto_19
def fx_widestBase (u : XS) (q_r : Int32) : Int32 := if (fx_goesFor (x_thingBase u (q_r).toNatClampNeg) 0) = 0 then x_thingBase u (q_r).toNatClampNeg else 0
theorem hd_X0_widestBase : yX0_widestBase.cls = RX0 ∧ yX0_widestBase.cls ≠ "java/lang/invoke/MethodHandle" ∧ yX0_widestBase.cls ≠ "java/lang/invoke/VarHandle" ∧ (parseMethodDescriptor yX0_widestBase.desc).map (fun d => d.parameters.length) = some 1 := by decide +kernel
set_option maxRecDepth 100000 in
set_option maxHeartbeats 4000000 in
theorem kX0_widestBase (l : Launch) (D : va_G) (ad : Nat → Nat) (ca : Nat → ClassId) (g : Nat) (u : XS) (q_r : Int32) (hI : XI u) (hqr : vp_in q_r 60) : CiX l yX0_widestBase cX0_widestBase 2 .int 2 D ad ca g [.int q_r] u ((fx_widestBase u q_r, u)) := by
  refine CiX.of (by decide) rfl (Nat.le_of_ble_eq_true rfl) ?_
  intro p e s m below meth c A ls E hS hl
  have hx := E.1.1
  have hb := E.1.2.1
  have hml := E.1.2.2.1
  have hown := E.1.2.2.2.1
  have hts := E.1.2.2.2.2
  have hl : lv_has ls 2 [(0, .ref (ad 0)), (1, .int q_r)] := hl
  refine lv_aload_n hx hb dX0_widestBase_0 rfl (lv_at hl 0 rfl) ?_
  refine gX_thingBase E hS dX0_widestBase_1 ?_
  refine lv_iload_n hx hb dX0_widestBase_4 rfl (lv_at hl 1 rfl) ?_
  refine lX_thingBase (v := x_thingBase u (q_r).toNatClampNeg) E hS (show vp_in q_r 60 from by first | with_reducible assumption | (refine hqr ?_; with_reducible assumption) | (refine xt_in hI ?_; with_reducible assumption) | (refine xn_in hI ?_ ?_ <;> with_reducible assumption) | with_reducible exact xb_in hI _) rfl dX0_widestBase_5 ?_
  refine lv_iconst (v := 0) hx hb dX0_widestBase_6 (by decide) ?_
  refine EnX.sti (r := fx_goesFor (x_thingBase u (q_r).toNatClampNeg) 0) E hS [.int (x_thingBase u (q_r).toNatClampNeg), .int 0] [] (kX0_goesFor l g (x_thingBase u (q_r).toNatClampNeg) 0 (by first | with_reducible assumption | (refine hqr ?_; with_reducible assumption) | (refine xt_in hI ?_; with_reducible assumption) | (refine xn_in hI ?_ ?_ <;> with_reducible assumption) | with_reducible exact xb_in hI _)) (fun _ U _ _ h => zX.moved (Vm.Alike.refl U.vm) h) (fun _ hU hvm => zX_at E hS (fun _ h => h.elim) hU hvm) gc_X0_143 hd_X0_goesFor ⟨Nat.le_of_ble_eq_true rfl, Nat.le_of_ble_eq_true rfl⟩ rfl hl.1 (Nat.le_of_ble_eq_true rfl) ⟨Nat.le_refl 0, Nat.le_refl 0⟩ dX0_widestBase_7 (fun H locs hS => ?_)
  refine lv_if_eq (tgt := 17) hx hb dX0_widestBase_10 (by decide) (fun h10 => ?_) (fun h10 => ?_)
  · refine lv_aload_n hx hb dX0_widestBase_17 rfl (lv_at hl 0 rfl) ?_
    refine gX_thingBase E hS dX0_widestBase_18 ?_
    refine lv_iload_n hx hb dX0_widestBase_21 rfl (lv_at hl 1 rfl) ?_
    refine lX_thingBase (v := x_thingBase u (q_r).toNatClampNeg) E hS (show vp_in q_r 60 from by first | with_reducible assumption | (refine hqr ?_; with_reducible assumption) | (refine xt_in hI ?_; with_reducible assumption) | (refine xn_in hI ?_ ?_ <;> with_reducible assumption) | with_reducible exact xb_in hI _) rfl dX0_widestBase_22 ?_
    exact EnX.iret E hS (ni_i _) (congrArg (fun z => (z, u)) (show x_thingBase u (q_r).toNatClampNeg = fx_widestBase u q_r by unfold fx_widestBase; rw [if_pos h10])) dX0_widestBase_23
  · refine lv_iconst (v := 0) hx hb dX0_widestBase_13 (by decide) ?_
    refine lv_goto (tgt := 23) hx hb dX0_widestBase_14 (by decide) ?_
    exact EnX.iret E hS (ni_i _) (congrArg (fun z => (z, u)) (show (0 : Int32) = fx_widestBase u q_r by unfold fx_widestBase; rw [if_neg h10])) dX0_widestBase_23
def fx_hasPlace (u : XS) (q_r : Int32) (q_i : Int32) : Int32 := if q_i < 0 then 0 else (if (x_thingSize u (q_r).toNatClampNeg) ≤ q_i then 0 else 1)
theorem fx_hasPlace_01 (u : XS) (q_r : Int32) (q_i : Int32) : fx_hasPlace u q_r q_i = 0 ∨ fx_hasPlace u q_r q_i = 1 := by
  unfold fx_hasPlace
  (repeat' split) <;> first | exact Or.inl rfl | exact Or.inr rfl
theorem hd_X0_hasPlace : yX0_hasPlace.cls = RX0 ∧ yX0_hasPlace.cls ≠ "java/lang/invoke/MethodHandle" ∧ yX0_hasPlace.cls ≠ "java/lang/invoke/VarHandle" ∧ (parseMethodDescriptor yX0_hasPlace.desc).map (fun d => d.parameters.length) = some 2 := by decide +kernel
set_option maxRecDepth 100000 in
set_option maxHeartbeats 4000000 in
theorem kX0_hasPlace (l : Launch) (D : va_G) (ad : Nat → Nat) (ca : Nat → ClassId) (g : Nat) (u : XS) (q_r : Int32) (q_i : Int32) (hqr : vp_in q_r 60) : CiX l yX0_hasPlace cX0_hasPlace 3 .boolean 1 D ad ca g [.int q_r, .int q_i] u ((fx_hasPlace u q_r q_i, u)) := by
  refine CiX.of (by decide) rfl (Nat.le_of_ble_eq_true rfl) ?_
  intro p e s m below meth c A ls E hS hl
  have hx := E.1.1
  have hb := E.1.2.1
  have hml := E.1.2.2.1
  have hown := E.1.2.2.2.1
  have hts := E.1.2.2.2.2
  have hl : lv_has ls 3 [(0, .ref (ad 0)), (1, .int q_r), (2, .int q_i)] := hl
  refine lv_iload_n hx hb dX0_hasPlace_0 rfl (lv_at hl 2 rfl) ?_
  refine lv_if_lt (tgt := 18) hx hb dX0_hasPlace_1 (by decide) (fun h1 => ?_) (fun h1 => ?_)
  · refine lv_iconst (v := 0) hx hb dX0_hasPlace_18 (by decide) ?_
    exact EnX.iret E hS ni_0 (congrArg (fun z => (z, u)) (show (0 : Int32) = fx_hasPlace u q_r q_i by unfold fx_hasPlace; rw [if_pos h1])) dX0_hasPlace_19
  · refine lv_iload_n hx hb dX0_hasPlace_4 rfl (lv_at hl 2 rfl) ?_
    refine lv_aload_n hx hb dX0_hasPlace_5 rfl (lv_at hl 0 rfl) ?_
    refine gX_thingSize E hS dX0_hasPlace_6 ?_
    refine lv_iload_n hx hb dX0_hasPlace_9 rfl (lv_at hl 1 rfl) ?_
    refine lX_thingSize (v := x_thingSize u (q_r).toNatClampNeg) E hS (show vp_in q_r 60 from by first | with_reducible assumption | (refine hqr ?_; with_reducible assumption) | (refine xt_in hI ?_; with_reducible assumption) | (refine xn_in hI ?_ ?_ <;> with_reducible assumption) | with_reducible exact xb_in hI _) rfl dX0_hasPlace_10 ?_
    refine lv_icmp_ge (tgt := 18) hx hb dX0_hasPlace_11 (by decide) (fun h11 => ?_) (fun h11 => ?_)
    · refine lv_iconst (v := 0) hx hb dX0_hasPlace_18 (by decide) ?_
      exact EnX.iret E hS ni_0 (congrArg (fun z => (z, u)) (show (0 : Int32) = fx_hasPlace u q_r q_i by unfold fx_hasPlace; rw [if_neg h1, if_pos h11])) dX0_hasPlace_19
    · refine lv_iconst (v := 1) hx hb dX0_hasPlace_14 (by decide) ?_
      refine lv_goto (tgt := 19) hx hb dX0_hasPlace_15 (by decide) ?_
      exact EnX.iret E hS ni_1 (congrArg (fun z => (z, u)) (show (1 : Int32) = fx_hasPlace u q_r q_i by unfold fx_hasPlace; rw [if_neg h1, if_neg h11])) dX0_hasPlace_19
def fx_hasPlaces (u : XS) (q_r : Int32) (q_i : Int32) (q_n : Int32) : Int32 := if q_i < 0 then 0 else (if q_n < 0 then 0 else (if ((x_thingSize u (q_r).toNatClampNeg) - q_n) < q_i then 0 else 1))
theorem fx_hasPlaces_01 (u : XS) (q_r : Int32) (q_i : Int32) (q_n : Int32) : fx_hasPlaces u q_r q_i q_n = 0 ∨ fx_hasPlaces u q_r q_i q_n = 1 := by
  unfold fx_hasPlaces
  (repeat' split) <;> first | exact Or.inl rfl | exact Or.inr rfl
theorem hd_X0_hasPlaces : yX0_hasPlaces.cls = RX0 ∧ yX0_hasPlaces.cls ≠ "java/lang/invoke/MethodHandle" ∧ yX0_hasPlaces.cls ≠ "java/lang/invoke/VarHandle" ∧ (parseMethodDescriptor yX0_hasPlaces.desc).map (fun d => d.parameters.length) = some 3 := by decide +kernel
set_option maxRecDepth 100000 in
set_option maxHeartbeats 4000000 in
theorem kX0_hasPlaces (l : Launch) (D : va_G) (ad : Nat → Nat) (ca : Nat → ClassId) (g : Nat) (u : XS) (q_r : Int32) (q_i : Int32) (q_n : Int32) (hqr : vp_in q_r 60) : CiX l yX0_hasPlaces cX0_hasPlaces 4 .boolean 1 D ad ca g [.int q_r, .int q_i, .int q_n] u ((fx_hasPlaces u q_r q_i q_n, u)) := by
  refine CiX.of (by decide) rfl (Nat.le_of_ble_eq_true rfl) ?_
  intro p e s m below meth c A ls E hS hl
  have hx := E.1.1
  have hb := E.1.2.1
  have hml := E.1.2.2.1
  have hown := E.1.2.2.2.1
  have hts := E.1.2.2.2.2
  have hl : lv_has ls 4 [(0, .ref (ad 0)), (1, .int q_r), (2, .int q_i), (3, .int q_n)] := hl
  refine lv_iload_n hx hb dX0_hasPlaces_0 rfl (lv_at hl 2 rfl) ?_
  refine lv_if_lt (tgt := 24) hx hb dX0_hasPlaces_1 (by decide) (fun h1 => ?_) (fun h1 => ?_)
  · refine lv_iconst (v := 0) hx hb dX0_hasPlaces_24 (by decide) ?_
    exact EnX.iret E hS ni_0 (congrArg (fun z => (z, u)) (show (0 : Int32) = fx_hasPlaces u q_r q_i q_n by unfold fx_hasPlaces; rw [if_pos h1])) dX0_hasPlaces_25
  · refine lv_iload_n hx hb dX0_hasPlaces_4 rfl (lv_at hl 3 rfl) ?_
    refine lv_if_lt (tgt := 24) hx hb dX0_hasPlaces_5 (by decide) (fun h5 => ?_) (fun h5 => ?_)
    · refine lv_iconst (v := 0) hx hb dX0_hasPlaces_24 (by decide) ?_
      exact EnX.iret E hS ni_0 (congrArg (fun z => (z, u)) (show (0 : Int32) = fx_hasPlaces u q_r q_i q_n by unfold fx_hasPlaces; rw [if_neg h1, if_pos h5])) dX0_hasPlaces_25
    · refine lv_iload_n hx hb dX0_hasPlaces_8 rfl (lv_at hl 2 rfl) ?_
      refine lv_aload_n hx hb dX0_hasPlaces_9 rfl (lv_at hl 0 rfl) ?_
      refine gX_thingSize E hS dX0_hasPlaces_10 ?_
      refine lv_iload_n hx hb dX0_hasPlaces_13 rfl (lv_at hl 1 rfl) ?_
      refine lX_thingSize (v := x_thingSize u (q_r).toNatClampNeg) E hS (show vp_in q_r 60 from by first | with_reducible assumption | (refine hqr ?_; with_reducible assumption) | (refine xt_in hI ?_; with_reducible assumption) | (refine xn_in hI ?_ ?_ <;> with_reducible assumption) | with_reducible exact xb_in hI _) rfl dX0_hasPlaces_14 ?_
      refine lv_iload_n hx hb dX0_hasPlaces_15 rfl (lv_at hl 3 rfl) ?_
      refine lv_isub hx hb dX0_hasPlaces_16 ?_
      refine lv_icmp_gt (tgt := 24) hx hb dX0_hasPlaces_17 (by decide) (fun h17 => ?_) (fun h17 => ?_)
      · refine lv_iconst (v := 0) hx hb dX0_hasPlaces_24 (by decide) ?_
        exact EnX.iret E hS ni_0 (congrArg (fun z => (z, u)) (show (0 : Int32) = fx_hasPlaces u q_r q_i q_n by unfold fx_hasPlaces; rw [if_neg h1, if_neg h5, if_pos h17])) dX0_hasPlaces_25
      · refine lv_iconst (v := 1) hx hb dX0_hasPlaces_20 (by decide) ?_
        refine lv_goto (tgt := 25) hx hb dX0_hasPlaces_21 (by decide) ?_
        exact EnX.iret E hS ni_1 (congrArg (fun z => (z, u)) (show (1 : Int32) = fx_hasPlaces u q_r q_i q_n by unfold fx_hasPlaces; rw [if_neg h1, if_neg h5, if_neg h17])) dX0_hasPlaces_25
def fx_thingAt (u : XS) (q_r : Int32) (q_i : Int32) : Int32 := Int64.toInt32 (x_places u (fx_placeIndex q_r q_i).toNatClampNeg)
theorem hd_X0_thingAt : yX0_thingAt.cls = RX0 ∧ yX0_thingAt.cls ≠ "java/lang/invoke/MethodHandle" ∧ yX0_thingAt.cls ≠ "java/lang/invoke/VarHandle" ∧ (parseMethodDescriptor yX0_thingAt.desc).map (fun d => d.parameters.length) = some 2 := by decide +kernel
set_option maxRecDepth 100000 in
set_option maxHeartbeats 4000000 in
theorem kX0_thingAt (l : Launch) (D : va_G) (ad : Nat → Nat) (ca : Nat → ClassId) (g : Nat) (u : XS) (q_r : Int32) (q_i : Int32) (hpi : vp_in (fx_placeIndex q_r q_i) 480) : CiX l yX0_thingAt cX0_thingAt 3 .int 2 D ad ca g [.int q_r, .int q_i] u ((fx_thingAt u q_r q_i, u)) := by
  refine CiX.of (by decide) rfl (Nat.le_of_ble_eq_true rfl) ?_
  intro p e s m below meth c A ls E hS hl
  have hx := E.1.1
  have hb := E.1.2.1
  have hml := E.1.2.2.1
  have hown := E.1.2.2.2.1
  have hts := E.1.2.2.2.2
  have hl : lv_has ls 3 [(0, .ref (ad 0)), (1, .int q_r), (2, .int q_i)] := hl
  refine lv_aload_n hx hb dX0_thingAt_0 rfl (lv_at hl 0 rfl) ?_
  refine gX_places E hS dX0_thingAt_1 ?_
  refine lv_iload_n hx hb dX0_thingAt_4 rfl (lv_at hl 1 rfl) ?_
  refine lv_iload_n hx hb dX0_thingAt_5 rfl (lv_at hl 2 rfl) ?_
  refine EnX.sti (r := fx_placeIndex q_r q_i) E hS [.int q_r, .int q_i] [.ref (ad 5)] (kX0_placeIndex l q_r q_i ) (fun _ _ _ _ h => h) (fun _ _ _ => trivial) gc_X0_70 hd_X0_placeIndex ⟨Nat.le_of_ble_eq_true rfl, Nat.le_of_ble_eq_true rfl⟩ rfl hl.1 (Nat.le_of_ble_eq_true rfl) ⟨Nat.le_refl 0, Nat.le_refl 0⟩ dX0_thingAt_6 (fun H locs hS => ?_)
  refine lX_places (v := x_places u (fx_placeIndex q_r q_i).toNatClampNeg) E hS (show vp_in (fx_placeIndex q_r q_i) 480 from by first | with_reducible assumption | (refine hqr ?_; with_reducible assumption) | (refine xt_in hI ?_; with_reducible assumption) | (refine xn_in hI ?_ ?_ <;> with_reducible assumption) | with_reducible exact xb_in hI _) rfl dX0_thingAt_9 ?_
  refine lv_l2i (v := Int64.toInt32 (x_places u (fx_placeIndex q_r q_i).toNatClampNeg)) hx hb dX0_thingAt_10 rfl ?_
  exact EnX.iret E hS (ni_i _) (congrArg (fun z => (z, u)) (show Int64.toInt32 (x_places u (fx_placeIndex q_r q_i).toNatClampNeg) = fx_thingAt u q_r q_i by unfold fx_thingAt; rfl)) dX0_thingAt_11
def fx_ledgerFailure (u : XS) (q_r : Int32) (q_i : Int32) : Int32 := if q_r = (-1) then 1 else (if (fx_isLedger u q_r) = 0 then 2 else (if (fx_hasPlace u q_r q_i) = 0 then 3 else 0))
theorem hd_X0_ledgerFailure : yX0_ledgerFailure.cls = RX0 ∧ yX0_ledgerFailure.cls ≠ "java/lang/invoke/MethodHandle" ∧ yX0_ledgerFailure.cls ≠ "java/lang/invoke/VarHandle" ∧ (parseMethodDescriptor yX0_ledgerFailure.desc).map (fun d => d.parameters.length) = some 2 := by decide +kernel
set_option maxRecDepth 100000 in
set_option maxHeartbeats 4000000 in
theorem kX0_ledgerFailure (l : Launch) (D : va_G) (ad : Nat → Nat) (ca : Nat → ClassId) (g : Nat) (u : XS) (q_r : Int32) (q_i : Int32) (hqr : ¬ q_r = (-1) → vp_in q_r 60) : CiX l yX0_ledgerFailure cX0_ledgerFailure 3 .int 3 D ad ca g [.int q_r, .int q_i] u ((fx_ledgerFailure u q_r q_i, u)) := by
  refine CiX.of (by decide) rfl (Nat.le_of_ble_eq_true rfl) ?_
  intro p e s m below meth c A ls E hS hl
  have hx := E.1.1
  have hb := E.1.2.1
  have hml := E.1.2.2.1
  have hown := E.1.2.2.2.1
  have hts := E.1.2.2.2.2
  have hl : lv_has ls 3 [(0, .ref (ad 0)), (1, .int q_r), (2, .int q_i)] := hl
  refine lv_iload_n hx hb dX0_ledgerFailure_0 rfl (lv_at hl 1 rfl) ?_
  refine lv_iconst (v := (-1)) hx hb dX0_ledgerFailure_1 (by decide) ?_
  refine lv_icmp_ne (tgt := 7) hx hb dX0_ledgerFailure_2 (by decide) (fun h2 => ?_) (fun h2 => ?_)
  · refine lv_aload_n hx hb dX0_ledgerFailure_7 rfl (lv_at hl 0 rfl) ?_
    refine lv_iload_n hx hb dX0_ledgerFailure_8 rfl (lv_at hl 1 rfl) ?_
    refine EnX.calli (r := fx_isLedger u q_r) (u2 := u) E hS [.int q_r] [] (kX0_isLedger l D ad ca g u q_r (by first | with_reducible assumption | (refine hqr ?_; with_reducible assumption) | (refine xt_in hI ?_; with_reducible assumption) | (refine xn_in hI ?_ ?_ <;> with_reducible assumption) | with_reducible exact xb_in hI _)) gc_X0_124 hd_X0_isLedger ⟨Nat.le_of_ble_eq_true rfl, Nat.le_of_ble_eq_true rfl⟩ rfl hl.1 (Nat.le_of_ble_eq_true rfl) ⟨Nat.le_refl 0, Nat.le_refl 0⟩ dX0_ledgerFailure_9 (fun H locs hS => ?_)
    refine lv_if_ne (tgt := 17) hx hb dX0_ledgerFailure_12 (by decide) (fun h12 => ?_) (fun h12 => ?_)
    · refine lv_aload_n hx hb dX0_ledgerFailure_17 rfl (lv_at hl 0 rfl) ?_
      refine lv_iload_n hx hb dX0_ledgerFailure_18 rfl (lv_at hl 1 rfl) ?_
      refine lv_iload_n hx hb dX0_ledgerFailure_19 rfl (lv_at hl 2 rfl) ?_
      refine EnX.calli (r := fx_hasPlace u q_r q_i) (u2 := u) E hS [.int q_r, .int q_i] [] (kX0_hasPlace l D ad ca g u q_r q_i (by first | with_reducible assumption | (refine hqr ?_; with_reducible assumption) | (refine xt_in hI ?_; with_reducible assumption) | (refine xn_in hI ?_ ?_ <;> with_reducible assumption) | with_reducible exact xb_in hI _)) gc_X0_86 hd_X0_hasPlace ⟨Nat.le_of_ble_eq_true rfl, Nat.le_of_ble_eq_true rfl⟩ rfl hl.1 (Nat.le_of_ble_eq_true rfl) ⟨Nat.le_refl 0, Nat.le_refl 0⟩ dX0_ledgerFailure_20 (fun H locs hS => ?_)
      refine lv_if_eq (tgt := 30) hx hb dX0_ledgerFailure_23 (by decide) (fun h23 => ?_) (fun h23 => ?_)
      · refine lv_iconst (v := 3) hx hb dX0_ledgerFailure_30 (by decide) ?_
        exact EnX.iret E hS (ni_i _) (congrArg (fun z => (z, u)) (show (3 : Int32) = fx_ledgerFailure u q_r q_i by unfold fx_ledgerFailure; rw [if_neg h2, if_neg h12, if_pos h23])) dX0_ledgerFailure_31
      · refine lv_iconst (v := 0) hx hb dX0_ledgerFailure_26 (by decide) ?_
        refine lv_goto (tgt := 31) hx hb dX0_ledgerFailure_27 (by decide) ?_
        exact EnX.iret E hS (ni_i _) (congrArg (fun z => (z, u)) (show (0 : Int32) = fx_ledgerFailure u q_r q_i by unfold fx_ledgerFailure; rw [if_neg h2, if_neg h12, if_neg h23])) dX0_ledgerFailure_31
    · refine lv_iconst (v := 2) hx hb dX0_ledgerFailure_15 (by decide) ?_
      exact EnX.iret E hS (ni_i _) (congrArg (fun z => (z, u)) (show (2 : Int32) = fx_ledgerFailure u q_r q_i by unfold fx_ledgerFailure; rw [if_neg h2, if_pos h12])) dX0_ledgerFailure_16
  · refine lv_iconst (v := 1) hx hb dX0_ledgerFailure_5 (by decide) ?_
    exact EnX.iret E hS (ni_i _) (congrArg (fun z => (z, u)) (show (1 : Int32) = fx_ledgerFailure u q_r q_i by unfold fx_ledgerFailure; rw [if_pos h2])) dX0_ledgerFailure_6
def fx_hasRoomFor (u : XS) (q_more : Int32) : Int32 := if 60 < ((x_thingCount u) + q_more) then 0 else 1
theorem fx_hasRoomFor_01 (u : XS) (q_more : Int32) : fx_hasRoomFor u q_more = 0 ∨ fx_hasRoomFor u q_more = 1 := by
  unfold fx_hasRoomFor
  (repeat' split) <;> first | exact Or.inl rfl | exact Or.inr rfl
theorem hd_X0_hasRoomFor : yX0_hasRoomFor.cls = RX0 ∧ yX0_hasRoomFor.cls ≠ "java/lang/invoke/MethodHandle" ∧ yX0_hasRoomFor.cls ≠ "java/lang/invoke/VarHandle" ∧ (parseMethodDescriptor yX0_hasRoomFor.desc).map (fun d => d.parameters.length) = some 1 := by decide +kernel
set_option maxRecDepth 100000 in
set_option maxHeartbeats 4000000 in
theorem kX0_hasRoomFor (l : Launch) (D : va_G) (ad : Nat → Nat) (ca : Nat → ClassId) (g : Nat) (u : XS) (q_more : Int32)  : CiX l yX0_hasRoomFor cX0_hasRoomFor 2 .boolean 1 D ad ca g [.int q_more] u ((fx_hasRoomFor u q_more, u)) := by
  refine CiX.of (by decide) rfl (Nat.le_of_ble_eq_true rfl) ?_
  intro p e s m below meth c A ls E hS hl
  have hx := E.1.1
  have hb := E.1.2.1
  have hml := E.1.2.2.1
  have hown := E.1.2.2.2.1
  have hts := E.1.2.2.2.2
  have hl : lv_has ls 2 [(0, .ref (ad 0)), (1, .int q_more)] := hl
  refine lv_aload_n hx hb dX0_hasRoomFor_0 rfl (lv_at hl 0 rfl) ?_
  refine gX_thingCount (v := x_thingCount u) E hS rfl dX0_hasRoomFor_1 ?_
  refine lv_iload_n hx hb dX0_hasRoomFor_4 rfl (lv_at hl 1 rfl) ?_
  refine lv_iadd hx hb dX0_hasRoomFor_5 ?_
  refine lv_bipush (v := 60) hx hb dX0_hasRoomFor_6 (by decide) ?_
  refine lv_icmp_gt (tgt := 15) hx hb dX0_hasRoomFor_8 (by decide) (fun h8 => ?_) (fun h8 => ?_)
  · refine lv_iconst (v := 0) hx hb dX0_hasRoomFor_15 (by decide) ?_
    exact EnX.iret E hS ni_0 (congrArg (fun z => (z, u)) (show (0 : Int32) = fx_hasRoomFor u q_more by unfold fx_hasRoomFor; rw [if_pos h8])) dX0_hasRoomFor_16
  · refine lv_iconst (v := 1) hx hb dX0_hasRoomFor_11 (by decide) ?_
    refine lv_goto (tgt := 16) hx hb dX0_hasRoomFor_12 (by decide) ?_
    exact EnX.iret E hS ni_1 (congrArg (fun z => (z, u)) (show (1 : Int32) = fx_hasRoomFor u q_more by unfold fx_hasRoomFor; rw [if_neg h8])) dX0_hasRoomFor_16
def fx_addThing (u : XS) (q_base : Int32) (q_depth : Int32) (q_size : Int32) : Int32 × XS := (x_thingCount u, xs_thingCount (xs_thingSize (xs_thingDepth (xs_thingBase u (upd (x_thingBase u) (x_thingCount u).toNatClampNeg q_base)) (upd (x_thingDepth u) (x_thingCount u).toNatClampNeg q_depth)) (upd (x_thingSize u) (x_thingCount u).toNatClampNeg q_size)) ((x_thingCount u) + 1))
theorem hd_X0_addThing : yX0_addThing.cls = RX0 ∧ yX0_addThing.cls ≠ "java/lang/invoke/MethodHandle" ∧ yX0_addThing.cls ≠ "java/lang/invoke/VarHandle" ∧ (parseMethodDescriptor yX0_addThing.desc).map (fun d => d.parameters.length) = some 3 := by decide +kernel
set_option maxRecDepth 100000 in
set_option maxHeartbeats 4000000 in
theorem kX0_addThing (l : Launch) (D : va_G) (ad : Nat → Nat) (ca : Nat → ClassId) (g : Nat) (u : XS) (q_base : Int32) (q_depth : Int32) (q_size : Int32) (htc : vp_in (x_thingCount u) 60) : CiX l yX0_addThing cX0_addThing 5 .int 1 D ad ca g [.int q_base, .int q_depth, .int q_size] u (fx_addThing u q_base q_depth q_size) := by
  refine CiX.of (by decide) rfl (Nat.le_of_ble_eq_true rfl) ?_
  intro p e s m below meth c A ls E hS hl
  have hx := E.1.1
  have hb := E.1.2.1
  have hml := E.1.2.2.1
  have hown := E.1.2.2.2.1
  have hts := E.1.2.2.2.2
  have hl : lv_has ls 5 [(0, .ref (ad 0)), (1, .int q_base), (2, .int q_depth), (3, .int q_size)] := hl
  refine lv_aload_n hx hb dX0_addThing_0 rfl (lv_at hl 0 rfl) ?_
  refine gX_thingCount (v := x_thingCount u) E hS rfl dX0_addThing_1 ?_
  refine lv_istore (lv' := [(4, .int (x_thingCount u)), (0, .ref (ad 0)), (1, .int q_base), (2, .int q_depth), (3, .int q_size)]) hx hb dX0_addThing_4 hl (by decide) rfl (fun ls hl => ?_)
  refine lv_aload_n hx hb dX0_addThing_6 rfl (lv_at hl 1 rfl) ?_
  refine gX_thingBase E hS dX0_addThing_7 ?_
  refine lv_iload hx hb dX0_addThing_10 (lv_at hl 0 rfl) ?_
  refine lv_iload_n hx hb dX0_addThing_12 rfl (lv_at hl 2 rfl) ?_
  refine sX_thingBase E hS (show vp_in (x_thingCount u) 60 from by first | with_reducible assumption | (refine hqr ?_; with_reducible assumption) | (refine xt_in hI ?_; with_reducible assumption) | (refine xn_in hI ?_ ?_ <;> with_reducible assumption) | with_reducible exact xb_in hI _) dX0_addThing_13 (fun H locs hS => ?_)
  have hS : SX D ad ca A s (xs_thingBase u (upd (x_thingBase u) (x_thingCount u).toNatClampNeg q_base)) H locs := hS
  refine lv_aload_n hx hb dX0_addThing_14 rfl (lv_at hl 1 rfl) ?_
  refine gX_thingDepth E hS dX0_addThing_15 ?_
  refine lv_iload hx hb dX0_addThing_18 (lv_at hl 0 rfl) ?_
  refine lv_iload_n hx hb dX0_addThing_20 rfl (lv_at hl 3 rfl) ?_
  refine sX_thingDepth E hS (show vp_in (x_thingCount u) 60 from by first | with_reducible assumption | (refine hqr ?_; with_reducible assumption) | (refine xt_in hI ?_; with_reducible assumption) | (refine xn_in hI ?_ ?_ <;> with_reducible assumption) | with_reducible exact xb_in hI _) dX0_addThing_21 (fun H locs hS => ?_)
  have hS : SX D ad ca A s (xs_thingDepth (xs_thingBase u (upd (x_thingBase u) (x_thingCount u).toNatClampNeg q_base)) (upd (x_thingDepth u) (x_thingCount u).toNatClampNeg q_depth)) H locs := hS
  refine lv_aload_n hx hb dX0_addThing_22 rfl (lv_at hl 1 rfl) ?_
  refine gX_thingSize E hS dX0_addThing_23 ?_
  refine lv_iload hx hb dX0_addThing_26 (lv_at hl 0 rfl) ?_
  refine lv_iload_n hx hb dX0_addThing_28 rfl (lv_at hl 4 rfl) ?_
  refine sX_thingSize E hS (show vp_in (x_thingCount u) 60 from by first | with_reducible assumption | (refine hqr ?_; with_reducible assumption) | (refine xt_in hI ?_; with_reducible assumption) | (refine xn_in hI ?_ ?_ <;> with_reducible assumption) | with_reducible exact xb_in hI _) dX0_addThing_29 (fun H locs hS => ?_)
  have hS : SX D ad ca A s (xs_thingSize (xs_thingDepth (xs_thingBase u (upd (x_thingBase u) (x_thingCount u).toNatClampNeg q_base)) (upd (x_thingDepth u) (x_thingCount u).toNatClampNeg q_depth)) (upd (x_thingSize u) (x_thingCount u).toNatClampNeg q_size)) H locs := hS
  refine lv_aload_n hx hb dX0_addThing_30 rfl (lv_at hl 1 rfl) ?_
  refine lv_dup hx hb dX0_addThing_31 rfl ?_
  refine gX_thingCount (v := x_thingCount u) E hS rfl dX0_addThing_32 ?_
  refine lv_iconst (v := 1) hx hb dX0_addThing_35 (by decide) ?_
  refine lv_iadd hx hb dX0_addThing_36 ?_
  refine pX_thingCount E hS dX0_addThing_37 (fun H locs hS => ?_)
  have hS : SX D ad ca A s (xs_thingCount (xs_thingSize (xs_thingDepth (xs_thingBase u (upd (x_thingBase u) (x_thingCount u).toNatClampNeg q_base)) (upd (x_thingDepth u) (x_thingCount u).toNatClampNeg q_depth)) (upd (x_thingSize u) (x_thingCount u).toNatClampNeg q_size)) ((x_thingCount u) + 1)) H locs := hS
  refine lv_iload hx hb dX0_addThing_40 (lv_at hl 0 rfl) ?_
  exact EnX.iret E hS (ni_i _) (by unfold fx_addThing; rfl) dX0_addThing_42
def fx_worthOfPiece (u : XS) (q_x : Int32) : Int64 := if (x_thingBase u (q_x).toNatClampNeg) = 1 then 2 * (Int32.toInt64 (x_pieceWorth u (q_x).toNatClampNeg)) else (if (x_thingBase u (q_x).toNatClampNeg) = 3 then (Int32.toInt64 (x_pieceWorth u (q_x).toNatClampNeg)) + 100 else Int32.toInt64 (x_pieceWorth u (q_x).toNatClampNeg))
theorem hd_X0_worthOfPiece : yX0_worthOfPiece.cls = RX0 ∧ yX0_worthOfPiece.cls ≠ "java/lang/invoke/MethodHandle" ∧ yX0_worthOfPiece.cls ≠ "java/lang/invoke/VarHandle" ∧ (parseMethodDescriptor yX0_worthOfPiece.desc).map (fun d => d.parameters.length) = some 1 := by decide +kernel
set_option maxRecDepth 100000 in
set_option maxHeartbeats 4000000 in
theorem kX0_worthOfPiece (l : Launch) (D : va_G) (ad : Nat → Nat) (ca : Nat → ClassId) (g : Nat) (u : XS) (q_x : Int32) (hqx : vp_in q_x 60) : ClX l yX0_worthOfPiece cX0_worthOfPiece 4 1 D ad ca g [.int q_x] u ((fx_worthOfPiece u q_x, u)) := by
  refine ClX.of (by decide) rfl (Nat.le_of_ble_eq_true rfl) ?_
  intro p e s m below meth c A ls E hS hl
  have hx := E.1.1
  have hb := E.1.2.1
  have hml := E.1.2.2.1
  have hown := E.1.2.2.2.1
  have hts := E.1.2.2.2.2
  have hl : lv_has ls 4 [(0, .ref (ad 0)), (1, .int q_x)] := hl
  refine lv_aload_n hx hb dX0_worthOfPiece_0 rfl (lv_at hl 0 rfl) ?_
  refine gX_pieceWorth E hS dX0_worthOfPiece_1 ?_
  refine lv_iload_n hx hb dX0_worthOfPiece_4 rfl (lv_at hl 1 rfl) ?_
  refine lX_pieceWorth (v := x_pieceWorth u (q_x).toNatClampNeg) E hS (show vp_in q_x 60 from by first | with_reducible assumption | (refine hqr ?_; with_reducible assumption) | (refine xt_in hI ?_; with_reducible assumption) | (refine xn_in hI ?_ ?_ <;> with_reducible assumption) | with_reducible exact xb_in hI _) rfl dX0_worthOfPiece_5 ?_
  refine lv_i2l (v := Int32.toInt64 (x_pieceWorth u (q_x).toNatClampNeg)) hx hb dX0_worthOfPiece_6 rfl ?_
  refine lv_lstore_n (lv' := [(2, .long (Int32.toInt64 (x_pieceWorth u (q_x).toNatClampNeg))), (0, .ref (ad 0)), (1, .int q_x)]) hx hb dX0_worthOfPiece_7 rfl hl (by decide) rfl (fun ls hl => ?_)
  refine lv_aload_n hx hb dX0_worthOfPiece_8 rfl (lv_at hl 1 rfl) ?_
  refine gX_thingBase E hS dX0_worthOfPiece_9 ?_
  refine lv_iload_n hx hb dX0_worthOfPiece_12 rfl (lv_at hl 2 rfl) ?_
  refine lX_thingBase (v := x_thingBase u (q_x).toNatClampNeg) E hS (show vp_in q_x 60 from by first | with_reducible assumption | (refine hqr ?_; with_reducible assumption) | (refine xt_in hI ?_; with_reducible assumption) | (refine xn_in hI ?_ ?_ <;> with_reducible assumption) | with_reducible exact xb_in hI _) rfl dX0_worthOfPiece_13 ?_
  by_cases h14_1 : (x_thingBase u (q_x).toNatClampNeg) = 1
  · refine lv_lookup (off := 26) (tgt := 40) hx hb dX0_worthOfPiece_14 (by decide) (by rw [h14_1]; rfl) (by decide) ?_
    refine lv_ldc2 (v := 2) hx hb hown (hts _ wk_X0_158) dX0_worthOfPiece_40 ?_
    refine lv_lload_n hx hb dX0_worthOfPiece_43 rfl (lv_at hl 0 rfl) ?_
    refine lv_lmul hx hb dX0_worthOfPiece_44 ?_
    exact EnX.lret E hS (congrArg (fun z => (z, u)) (show 2 * (Int32.toInt64 (x_pieceWorth u (q_x).toNatClampNeg)) = fx_worthOfPiece u q_x by unfold fx_worthOfPiece; rw [if_pos h14_1])) dX0_worthOfPiece_45
  · by_cases h14_3 : (x_thingBase u (q_x).toNatClampNeg) = 3
    · refine lv_lookup (off := 32) (tgt := 46) hx hb dX0_worthOfPiece_14 (by decide) (by rw [h14_3]; rfl) (by decide) ?_
      refine lv_lload_n hx hb dX0_worthOfPiece_46 rfl (lv_at hl 0 rfl) ?_
      refine lv_ldc2 (v := 100) hx hb hown (hts _ wk_X0_160) dX0_worthOfPiece_47 ?_
      refine lv_ladd hx hb dX0_worthOfPiece_50 ?_
      exact EnX.lret E hS (congrArg (fun z => (z, u)) (show (Int32.toInt64 (x_pieceWorth u (q_x).toNatClampNeg)) + 100 = fx_worthOfPiece u q_x by unfold fx_worthOfPiece; rw [if_neg h14_1, if_pos h14_3])) dX0_worthOfPiece_51
    · have n14_1 := lv_neT h14_1 (a := 1) (by decide)
      have n14_3 := lv_neT h14_3 (a := 3) (by decide)
      refine lv_lookup (off := 38) (tgt := 52) hx hb dX0_worthOfPiece_14 (by decide) (by show Op.lookupswitch.offset [(1, 26), (3, 32)] 38 _ = 38; rw [lv_osw h14_1 (by decide)]; rw [lv_osw h14_3 (by decide)]; rfl) (by decide) ?_
      refine lv_lload_n hx hb dX0_worthOfPiece_52 rfl (lv_at hl 0 rfl) ?_
      exact EnX.lret E hS (congrArg (fun z => (z, u)) (show Int32.toInt64 (x_pieceWorth u (q_x).toNatClampNeg) = fx_worthOfPiece u q_x by unfold fx_worthOfPiece; rw [if_neg h14_1, if_neg h14_3])) dX0_worthOfPiece_53
def fx_areAlike (u : XS) (q_r : Int32) (q_s : Int32) : Int32 := if (fx_isPiece u q_r) = 0 then (if (fx_isPiece u q_s) = 0 then (if (fx_isLedger u q_r) = (fx_isLedger u q_s) then (if (fx_isLedger u q_r) = 0 then 1 else (if (x_thingBase u (q_r).toNatClampNeg) = (x_thingBase u (q_s).toNatClampNeg) then 1 else 0)) else 0) else 0) else 0
theorem fx_areAlike_01 (u : XS) (q_r : Int32) (q_s : Int32) : fx_areAlike u q_r q_s = 0 ∨ fx_areAlike u q_r q_s = 1 := by
  unfold fx_areAlike
  (repeat' split) <;> first | exact Or.inl rfl | exact Or.inr rfl | apply fx_isLedger_01 | apply fx_isPiece_01
theorem hd_X0_areAlike : yX0_areAlike.cls = RX0 ∧ yX0_areAlike.cls ≠ "java/lang/invoke/MethodHandle" ∧ yX0_areAlike.cls ≠ "java/lang/invoke/VarHandle" ∧ (parseMethodDescriptor yX0_areAlike.desc).map (fun d => d.parameters.length) = some 2 := by decide +kernel
set_option maxRecDepth 100000 in
set_option maxHeartbeats 4000000 in
theorem kX0_areAlike (l : Launch) (D : va_G) (ad : Nat → Nat) (ca : Nat → ClassId) (g : Nat) (u : XS) (q_r : Int32) (q_s : Int32) (hqr : vp_in q_r 60) (hqs : vp_in q_s 60) : CiX l yX0_areAlike cX0_areAlike 3 .boolean 3 D ad ca g [.int q_r, .int q_s] u ((fx_areAlike u q_r q_s, u)) := by
  refine CiX.of (by decide) rfl (Nat.le_of_ble_eq_true rfl) ?_
  intro p e s m below meth c A ls E hS hl
  have hx := E.1.1
  have hb := E.1.2.1
  have hml := E.1.2.2.1
  have hown := E.1.2.2.2.1
  have hts := E.1.2.2.2.2
  have hl : lv_has ls 3 [(0, .ref (ad 0)), (1, .int q_r), (2, .int q_s)] := hl
  refine lv_aload_n hx hb dX0_areAlike_0 rfl (lv_at hl 0 rfl) ?_
  refine lv_iload_n hx hb dX0_areAlike_1 rfl (lv_at hl 1 rfl) ?_
  refine EnX.calli (r := fx_isPiece u q_r) (u2 := u) E hS [.int q_r] [] (kX0_isPiece l D ad ca g u q_r (by first | with_reducible assumption | (refine hqr ?_; with_reducible assumption) | (refine xt_in hI ?_; with_reducible assumption) | (refine xn_in hI ?_ ?_ <;> with_reducible assumption) | with_reducible exact xb_in hI _)) gc_X0_111 hd_X0_isPiece ⟨Nat.le_of_ble_eq_true rfl, Nat.le_of_ble_eq_true rfl⟩ rfl hl.1 (Nat.le_of_ble_eq_true rfl) ⟨Nat.le_refl 0, Nat.le_refl 0⟩ dX0_areAlike_2 (fun H locs hS => ?_)
  refine lv_if_ne (tgt := 16) hx hb dX0_areAlike_5 (by decide) (fun h5 => ?_) (fun h5 => ?_)
  · refine lv_iconst (v := 0) hx hb dX0_areAlike_16 (by decide) ?_
    exact EnX.iret E hS ni_0 (congrArg (fun z => (z, u)) (show (0 : Int32) = fx_areAlike u q_r q_s by unfold fx_areAlike; rw [if_neg h5])) dX0_areAlike_17
  · refine lv_aload_n hx hb dX0_areAlike_8 rfl (lv_at hl 0 rfl) ?_
    refine lv_iload_n hx hb dX0_areAlike_9 rfl (lv_at hl 2 rfl) ?_
    refine EnX.calli (r := fx_isPiece u q_s) (u2 := u) E hS [.int q_s] [] (kX0_isPiece l D ad ca g u q_s (by first | with_reducible assumption | (refine hqr ?_; with_reducible assumption) | (refine xt_in hI ?_; with_reducible assumption) | (refine xn_in hI ?_ ?_ <;> with_reducible assumption) | with_reducible exact xb_in hI _)) gc_X0_111 hd_X0_isPiece ⟨Nat.le_of_ble_eq_true rfl, Nat.le_of_ble_eq_true rfl⟩ rfl hl.1 (Nat.le_of_ble_eq_true rfl) ⟨Nat.le_refl 0, Nat.le_refl 0⟩ dX0_areAlike_10 (fun H locs hS => ?_)
    refine lv_if_eq (tgt := 18) hx hb dX0_areAlike_13 (by decide) (fun h13 => ?_) (fun h13 => ?_)
    · refine lv_aload_n hx hb dX0_areAlike_18 rfl (lv_at hl 0 rfl) ?_
      refine lv_iload_n hx hb dX0_areAlike_19 rfl (lv_at hl 1 rfl) ?_
      refine EnX.calli (r := fx_isLedger u q_r) (u2 := u) E hS [.int q_r] [] (kX0_isLedger l D ad ca g u q_r (by first | with_reducible assumption | (refine hqr ?_; with_reducible assumption) | (refine xt_in hI ?_; with_reducible assumption) | (refine xn_in hI ?_ ?_ <;> with_reducible assumption) | with_reducible exact xb_in hI _)) gc_X0_124 hd_X0_isLedger ⟨Nat.le_of_ble_eq_true rfl, Nat.le_of_ble_eq_true rfl⟩ rfl hl.1 (Nat.le_of_ble_eq_true rfl) ⟨Nat.le_refl 0, Nat.le_refl 0⟩ dX0_areAlike_20 (fun H locs hS => ?_)
      refine lv_aload_n hx hb dX0_areAlike_23 rfl (lv_at hl 0 rfl) ?_
      refine lv_iload_n hx hb dX0_areAlike_24 rfl (lv_at hl 2 rfl) ?_
      refine EnX.calli (r := fx_isLedger u q_s) (u2 := u) E hS [.int q_s] [.int (fx_isLedger u q_r)] (kX0_isLedger l D ad ca g u q_s (by first | with_reducible assumption | (refine hqr ?_; with_reducible assumption) | (refine xt_in hI ?_; with_reducible assumption) | (refine xn_in hI ?_ ?_ <;> with_reducible assumption) | with_reducible exact xb_in hI _)) gc_X0_124 hd_X0_isLedger ⟨Nat.le_of_ble_eq_true rfl, Nat.le_of_ble_eq_true rfl⟩ rfl hl.1 (Nat.le_of_ble_eq_true rfl) ⟨Nat.le_refl 0, Nat.le_refl 0⟩ dX0_areAlike_25 (fun H locs hS => ?_)
      refine lv_icmp_eq (tgt := 33) hx hb dX0_areAlike_28 (by decide) (fun h28 => ?_) (fun h28 => ?_)
      · refine lv_aload_n hx hb dX0_areAlike_33 rfl (lv_at hl 0 rfl) ?_
        refine lv_iload_n hx hb dX0_areAlike_34 rfl (lv_at hl 1 rfl) ?_
        refine EnX.calli (r := fx_isLedger u q_r) (u2 := u) E hS [.int q_r] [] (kX0_isLedger l D ad ca g u q_r (by first | with_reducible assumption | (refine hqr ?_; with_reducible assumption) | (refine xt_in hI ?_; with_reducible assumption) | (refine xn_in hI ?_ ?_ <;> with_reducible assumption) | with_reducible exact xb_in hI _)) gc_X0_124 hd_X0_isLedger ⟨Nat.le_of_ble_eq_true rfl, Nat.le_of_ble_eq_true rfl⟩ rfl hl.1 (Nat.le_of_ble_eq_true rfl) ⟨Nat.le_refl 0, Nat.le_refl 0⟩ dX0_areAlike_35 (fun H locs hS => ?_)
        refine lv_if_eq (tgt := 56) hx hb dX0_areAlike_38 (by decide) (fun h38 => ?_) (fun h38 => ?_)
        · refine lv_iconst (v := 1) hx hb dX0_areAlike_56 (by decide) ?_
          refine lv_goto (tgt := 61) hx hb dX0_areAlike_57 (by decide) ?_
          exact EnX.iret E hS ni_1 (congrArg (fun z => (z, u)) (show (1 : Int32) = fx_areAlike u q_r q_s by unfold fx_areAlike; rw [if_pos h5, if_pos h13, if_pos h28, if_pos h38])) dX0_areAlike_61
        · refine lv_aload_n hx hb dX0_areAlike_41 rfl (lv_at hl 0 rfl) ?_
          refine gX_thingBase E hS dX0_areAlike_42 ?_
          refine lv_iload_n hx hb dX0_areAlike_45 rfl (lv_at hl 1 rfl) ?_
          refine lX_thingBase (v := x_thingBase u (q_r).toNatClampNeg) E hS (show vp_in q_r 60 from by first | with_reducible assumption | (refine hqr ?_; with_reducible assumption) | (refine xt_in hI ?_; with_reducible assumption) | (refine xn_in hI ?_ ?_ <;> with_reducible assumption) | with_reducible exact xb_in hI _) rfl dX0_areAlike_46 ?_
          refine lv_aload_n hx hb dX0_areAlike_47 rfl (lv_at hl 0 rfl) ?_
          refine gX_thingBase E hS dX0_areAlike_48 ?_
          refine lv_iload_n hx hb dX0_areAlike_51 rfl (lv_at hl 2 rfl) ?_
          refine lX_thingBase (v := x_thingBase u (q_s).toNatClampNeg) E hS (show vp_in q_s 60 from by first | with_reducible assumption | (refine hqr ?_; with_reducible assumption) | (refine xt_in hI ?_; with_reducible assumption) | (refine xn_in hI ?_ ?_ <;> with_reducible assumption) | with_reducible exact xb_in hI _) rfl dX0_areAlike_52 ?_
          refine lv_icmp_ne (tgt := 60) hx hb dX0_areAlike_53 (by decide) (fun h53 => ?_) (fun h53 => ?_)
          · refine lv_iconst (v := 0) hx hb dX0_areAlike_60 (by decide) ?_
            exact EnX.iret E hS ni_0 (congrArg (fun z => (z, u)) (show (0 : Int32) = fx_areAlike u q_r q_s by unfold fx_areAlike; rw [if_pos h5, if_pos h13, if_pos h28, if_neg h38, if_neg h53])) dX0_areAlike_61
          · refine lv_iconst (v := 1) hx hb dX0_areAlike_56 (by decide) ?_
            refine lv_goto (tgt := 61) hx hb dX0_areAlike_57 (by decide) ?_
            exact EnX.iret E hS ni_1 (congrArg (fun z => (z, u)) (show (1 : Int32) = fx_areAlike u q_r q_s by unfold fx_areAlike; rw [if_pos h5, if_pos h13, if_pos h28, if_neg h38, if_pos h53])) dX0_areAlike_61
      · refine lv_iconst (v := 0) hx hb dX0_areAlike_31 (by decide) ?_
        exact EnX.iret E hS ni_0 (congrArg (fun z => (z, u)) (show (0 : Int32) = fx_areAlike u q_r q_s by unfold fx_areAlike; rw [if_pos h5, if_pos h13, if_neg h28])) dX0_areAlike_32
    · refine lv_iconst (v := 0) hx hb dX0_areAlike_16 (by decide) ?_
      exact EnX.iret E hS ni_0 (congrArg (fun z => (z, u)) (show (0 : Int32) = fx_areAlike u q_r q_s by unfold fx_areAlike; rw [if_pos h5, if_neg h13])) dX0_areAlike_17
end
section
/-! DepotTrays: methods with loops -/
theorem ti0 : (0 : Int32).toInt = 0 := by decide
theorem ti1 : (1 : Int32).toInt = 1 := by decide
theorem ti8 : (8 : Int32).toInt = 8 := by decide
theorem tim1 : (-1 : Int32).toInt = -1 := by decide
theorem ti_add {a b : Int32} (h1 : -2147483648 ≤ a.toInt + b.toInt) (h2 : a.toInt + b.toInt < 2147483648) : (a + b).toInt = a.toInt + b.toInt := by
  rw [Int32.toInt_add]
  exact Int.bmod_eq_of_le (by omega) (by omega)
theorem ti_sub {a b : Int32} (h1 : -2147483648 ≤ a.toInt - b.toInt) (h2 : a.toInt - b.toInt < 2147483648) : (a - b).toInt = a.toInt - b.toInt := by
  rw [Int32.toInt_sub]
  exact Int.bmod_eq_of_le (by omega) (by omega)
theorem ti_mul {a b : Int32} (h1 : -2147483648 ≤ a.toInt * b.toInt) (h2 : a.toInt * b.toInt < 2147483648) : (a * b).toInt = a.toInt * b.toInt := by
  rw [Int32.toInt_mul]
  exact Int.bmod_eq_of_le (by omega) (by omega)
theorem ti_inc {a : Int32} (h1 : -2147483648 ≤ a.toInt) (h2 : a.toInt < 2147483647) : (a + 1).toInt = a.toInt + 1 := by
  have h := ti_add (a := a) (b := 1) (by rw [ti1]; omega) (by rw [ti1]; omega)
  rw [h, ti1]
theorem cl_ti {a : Int32} (h : 0 ≤ a.toInt) : (a.toNatClampNeg : Int) = a.toInt := by
  have := Int32.toNat_toInt a
  omega
theorem pi_ti {r i : Int32} (hr : vp_in r 60) (h0 : 0 ≤ i.toInt) (h8 : i.toInt ≤ 8) : (fx_placeIndex r i).toInt = r.toInt * 8 + i.toInt := by
  rw [vp_in_iff] at hr
  unfold fx_placeIndex
  have e1 : (r * 8).toInt = r.toInt * 8 := by
    have h := ti_mul (a := r) (b := 8) (by rw [ti8]; omega) (by rw [ti8]; omega)
    rw [h, ti8]
  rw [ti_add (by omega) (by omega), e1]
theorem pi_in {r i : Int32} (hr : vp_in r 60) (h0 : 0 ≤ i.toInt) (h8 : i.toInt < 8) : vp_in (fx_placeIndex r i) 480 := by
  have h := pi_ti hr h0 (by omega)
  rw [vp_in_iff] at hr ⊢
  omega
def fx_addRow_L : Nat → XS → Int32 → Int32 → Int32 → Int32 → Int64 → Int32 → Int32 × XS
  | 0, w, q_base, q_depth, q_n, v_4, v_5, v_7 => (0, w)
  | f_ + 1, w, q_base, q_depth, q_n, v_4, v_5, v_7 => (if q_n ≤ v_7 then (v_4, w) else fx_addRow_L f_ (xs_places w (vp_updL (x_places w) (fx_placeIndex v_4 v_7).toNatClampNeg v_5)) q_base q_depth q_n v_4 v_5 (v_7 + 1))
set_option maxRecDepth 100000 in
set_option maxHeartbeats 4000000 in
theorem loop_X0_addRow {p : Program} {e : Env} {s : State} {m : MethodId} {below : List Frame} {meth : Method} {c : Code} {args : Array Value} {A : Nat → Prop} (l : Launch) (D : va_G) (ad : Nat → Nat) (ca : Nat → ClassId) (g : Nat) (u : XS) (E : EnX p s m c args cX0_addRow 8 meth (some .int) D ca g A) : ∀ (f_ : Nat) (w : XS) (q_base : Int32) (q_depth : Int32) (q_n : Int32) (v_4 : Int32) (v_5 : Int64) (v_7 : Int32), vp_in v_4 60 → (0 ≤ q_n.toInt ∧ q_n.toInt ≤ 8) → (0 ≤ v_7.toInt ∧ v_7.toInt ≤ q_n.toInt) → q_n.toInt - v_7.toInt < (f_ : Int) → ∀ (H : Heap) (locs : List Loc) (ls : Array Slot), SX D ad ca A s w H locs → lv_has ls 8 [(0, .ref (ad 0)), (1, .int q_base), (2, .int q_depth), (3, .int q_n), (4, .int v_4), (5, .long v_5), (7, .int v_7)] → W p l e (rk 3) s m args below meth c H locs 0 0 (MQ below (va_Qi (fun r' v => (r', v) = fx_addRow_L f_ w q_base q_depth q_n v_4 v_5 v_7) (BkX D ad ca) A) args s 0 0 A) (F0 m 30 ls []) := by
  have hx := E.1.1
  have hb := E.1.2.1
  have hml := E.1.2.2.1
  have hown := E.1.2.2.2.1
  have hts := E.1.2.2.2.2
  intro f_
  induction f_ with
  | zero =>
    intro w q_base q_depth q_n v_4 v_5 v_7 hr4 hn hi hf H locs ls hS hl
    exfalso
    omega
  | succ f_ ih =>
    intro w q_base q_depth q_n v_4 v_5 v_7 hr4 hn hi hf H locs ls hS hl
    refine lv_iload hx hb dX0_addRow_30 (lv_at hl 6 rfl) ?_
    refine lv_iload_n hx hb dX0_addRow_32 rfl (lv_at hl 3 rfl) ?_
    refine lv_icmp_ge (tgt := 56) hx hb dX0_addRow_33 (by decide) (fun h33 => ?_) (fun h33 => ?_)
    · refine lv_iload hx hb dX0_addRow_56 (lv_at hl 4 rfl) ?_
      exact EnX.iret E hS (ni_i _) (by rw [fx_addRow_L, if_pos h33]) dX0_addRow_58
    · have g33 := h33
      rw [le_ti] at g33
      refine lv_aload_n hx hb dX0_addRow_36 rfl (lv_at hl 0 rfl) ?_
      refine gX_places E hS dX0_addRow_37 ?_
      refine lv_iload hx hb dX0_addRow_40 (lv_at hl 4 rfl) ?_
      refine lv_iload hx hb dX0_addRow_42 (lv_at hl 6 rfl) ?_
      refine EnX.sti (r := fx_placeIndex v_4 v_7) E hS [.int v_4, .int v_7] [.ref (ad 5)] (kX0_placeIndex l v_4 v_7 ) (fun _ _ _ _ h => h) (fun _ _ _ => trivial) gc_X0_70 hd_X0_placeIndex ⟨Nat.le_of_ble_eq_true rfl, Nat.le_of_ble_eq_true rfl⟩ rfl hl.1 (Nat.le_of_ble_eq_true rfl) ⟨Nat.le_refl 0, Nat.le_refl 0⟩ dX0_addRow_44 (fun H locs hS => ?_)
      refine lv_lload hx hb dX0_addRow_47 (lv_at hl 5 rfl) ?_
      refine sX_places E hS (show vp_in (fx_placeIndex v_4 v_7) 480 from pi_in hr4 (by omega) (by omega)) dX0_addRow_49 (fun H locs hS => ?_)
      have hS : SX D ad ca A s (xs_places w (vp_updL (x_places w) (fx_placeIndex v_4 v_7).toNatClampNeg v_5)) H locs := hS
      refine lv_iinc (v := v_7 + 1) (lv' := [(7, .int (v_7 + 1)), (0, .ref (ad 0)), (1, .int q_base), (2, .int q_depth), (3, .int q_n), (4, .int v_4), (5, .long v_5)]) hx hb dX0_addRow_50 hl (k := 6) rfl rfl (by decide) rfl (fun ls hl => ?_)
      refine lv_goto (tgt := 30) hx hb dX0_addRow_53 (by decide) ?_
      have hr : fx_addRow_L (f_ + 1) w q_base q_depth q_n v_4 v_5 v_7 = fx_addRow_L f_ (xs_places w (vp_updL (x_places w) (fx_placeIndex v_4 v_7).toNatClampNeg v_5)) q_base q_depth q_n v_4 v_5 (v_7 + 1) := by rw [fx_addRow_L, if_neg h33]
      have e7 : (v_7 + 1).toInt = v_7.toInt + 1 := ti_inc (by omega) (by omega)
      rw [hr]
      exact ih (xs_places w (vp_updL (x_places w) (fx_placeIndex v_4 v_7).toNatClampNeg v_5)) q_base q_depth q_n v_4 v_5 (v_7 + 1) hr4 hn (by omega) (by omega) _ _ ls hS (lv_sub hl [1, 2, 3, 4, 5, 6, 0] rfl)
def fx_addRow (u : XS) (q_base : Int32) (q_depth : Int32) (q_n : Int32) : Int32 × XS := if (fx_isLedger ((fx_addThing u q_base q_depth q_n).2) ((fx_addThing u q_base q_depth q_n).1)) = 0 then fx_addRow_L 9 ((fx_addThing u q_base q_depth q_n).2) q_base q_depth q_n ((fx_addThing u q_base q_depth q_n).1) (-1) 0 else fx_addRow_L 9 ((fx_addThing u q_base q_depth q_n).2) q_base q_depth q_n ((fx_addThing u q_base q_depth q_n).1) 0 0
theorem hd_X0_addRow : yX0_addRow.cls = RX0 ∧ yX0_addRow.cls ≠ "java/lang/invoke/MethodHandle" ∧ yX0_addRow.cls ≠ "java/lang/invoke/VarHandle" ∧ (parseMethodDescriptor yX0_addRow.desc).map (fun d => d.parameters.length) = some 3 := by decide +kernel
set_option maxRecDepth 100000 in
set_option maxHeartbeats 4000000 in
theorem kX0_addRow (l : Launch) (D : va_G) (ad : Nat → Nat) (ca : Nat → ClassId) (g : Nat) (u : XS) (q_base : Int32) (q_depth : Int32) (q_n : Int32) (htc : vp_in (x_thingCount u) 60) (hn : 0 ≤ q_n.toInt ∧ q_n.toInt ≤ 8) : CiX l yX0_addRow cX0_addRow 8 .int 3 D ad ca g [.int q_base, .int q_depth, .int q_n] u (fx_addRow u q_base q_depth q_n) := by
  refine CiX.of (by decide) rfl (Nat.le_of_ble_eq_true rfl) ?_
  intro p e s m below meth c A ls E hS hl
  have hx := E.1.1
  have hb := E.1.2.1
  have hml := E.1.2.2.1
  have hown := E.1.2.2.2.1
  have hts := E.1.2.2.2.2
  have hl : lv_has ls 8 [(0, .ref (ad 0)), (1, .int q_base), (2, .int q_depth), (3, .int q_n)] := hl
  refine lv_aload_n hx hb dX0_addRow_0 rfl (lv_at hl 0 rfl) ?_
  refine lv_iload_n hx hb dX0_addRow_1 rfl (lv_at hl 1 rfl) ?_
  refine lv_iload_n hx hb dX0_addRow_2 rfl (lv_at hl 2 rfl) ?_
  refine lv_iload_n hx hb dX0_addRow_3 rfl (lv_at hl 3 rfl) ?_
  refine EnX.calli (r := (fx_addThing u q_base q_depth q_n).1) (u2 := (fx_addThing u q_base q_depth q_n).2) E hS [.int q_base, .int q_depth, .int q_n] [] (kX0_addThing l D ad ca g u q_base q_depth q_n (by first | with_reducible assumption | (refine hqr ?_; with_reducible assumption) | (refine xt_in hI ?_; with_reducible assumption) | (refine xn_in hI ?_ ?_ <;> with_reducible assumption) | with_reducible exact xb_in hI _)) gc_X0_49 hd_X0_addThing ⟨Nat.le_of_ble_eq_true rfl, Nat.le_of_ble_eq_true rfl⟩ rfl hl.1 (Nat.le_of_ble_eq_true rfl) ⟨Nat.le_refl 0, Nat.le_refl 0⟩ dX0_addRow_4 (fun H locs hS => ?_)
  have hq4 : vp_in (fx_addThing u q_base q_depth q_n).1 60 := htc
  refine lv_istore (lv' := [(4, .int ((fx_addThing u q_base q_depth q_n).1)), (0, .ref (ad 0)), (1, .int q_base), (2, .int q_depth), (3, .int q_n)]) hx hb dX0_addRow_7 hl (by decide) rfl (fun ls hl => ?_)
  refine lv_aload_n hx hb dX0_addRow_9 rfl (lv_at hl 1 rfl) ?_
  refine lv_iload hx hb dX0_addRow_10 (lv_at hl 0 rfl) ?_
  refine EnX.calli (r := fx_isLedger ((fx_addThing u q_base q_depth q_n).2) ((fx_addThing u q_base q_depth q_n).1)) (u2 := (fx_addThing u q_base q_depth q_n).2) E hS [.int ((fx_addThing u q_base q_depth q_n).1)] [] (kX0_isLedger l D ad ca g ((fx_addThing u q_base q_depth q_n).2) ((fx_addThing u q_base q_depth q_n).1) (by first | with_reducible assumption | (refine hqr ?_; with_reducible assumption) | (refine xt_in hI ?_; with_reducible assumption) | (refine xn_in hI ?_ ?_ <;> with_reducible assumption) | with_reducible exact xb_in hI _)) gc_X0_124 hd_X0_isLedger ⟨Nat.le_of_ble_eq_true rfl, Nat.le_of_ble_eq_true rfl⟩ rfl hl.1 (Nat.le_of_ble_eq_true rfl) ⟨Nat.le_refl 0, Nat.le_refl 0⟩ dX0_addRow_12 (fun H locs hS => ?_)
  refine lv_if_eq (tgt := 22) hx hb dX0_addRow_15 (by decide) (fun h15 => ?_) (fun h15 => ?_)
  · refine lv_ldc2 (v := (-1)) hx hb hown (hts _ wk_X0_146) dX0_addRow_22 ?_
    refine lv_lstore (lv' := [(5, .long (-1)), (4, .int ((fx_addThing u q_base q_depth q_n).1)), (0, .ref (ad 0)), (1, .int q_base), (2, .int q_depth), (3, .int q_n)]) hx hb dX0_addRow_25 hl (by decide) rfl (fun ls hl => ?_)
    refine lv_iconst (v := 0) hx hb dX0_addRow_27 (by decide) ?_
    refine lv_istore (lv' := [(7, .int 0), (5, .long (-1)), (4, .int ((fx_addThing u q_base q_depth q_n).1)), (0, .ref (ad 0)), (1, .int q_base), (2, .int q_depth), (3, .int q_n)]) hx hb dX0_addRow_28 hl (by decide) rfl (fun ls hl => ?_)
    have hr : fx_addRow u q_base q_depth q_n = fx_addRow_L 9 ((fx_addThing u q_base q_depth q_n).2) q_base q_depth q_n ((fx_addThing u q_base q_depth q_n).1) (-1) 0 := by unfold fx_addRow; rw [if_pos h15]
    rw [hr]
    exact loop_X0_addRow l D ad ca g u  E 9 ((fx_addThing u q_base q_depth q_n).2) q_base q_depth q_n ((fx_addThing u q_base q_depth q_n).1) (-1) 0 hq4 hn (by rw [ti0]; omega) (by rw [ti0]; omega) _ _ ls hS (lv_sub hl [3, 4, 5, 6, 2, 1, 0] rfl)
  · refine lv_lconst (v := 0) hx hb dX0_addRow_18 (by decide) ?_
    refine lv_goto (tgt := 25) hx hb dX0_addRow_19 (by decide) ?_
    refine lv_lstore (lv' := [(5, .long 0), (4, .int ((fx_addThing u q_base q_depth q_n).1)), (0, .ref (ad 0)), (1, .int q_base), (2, .int q_depth), (3, .int q_n)]) hx hb dX0_addRow_25 hl (by decide) rfl (fun ls hl => ?_)
    refine lv_iconst (v := 0) hx hb dX0_addRow_27 (by decide) ?_
    refine lv_istore (lv' := [(7, .int 0), (5, .long 0), (4, .int ((fx_addThing u q_base q_depth q_n).1)), (0, .ref (ad 0)), (1, .int q_base), (2, .int q_depth), (3, .int q_n)]) hx hb dX0_addRow_28 hl (by decide) rfl (fun ls hl => ?_)
    have hr : fx_addRow u q_base q_depth q_n = fx_addRow_L 9 ((fx_addThing u q_base q_depth q_n).2) q_base q_depth q_n ((fx_addThing u q_base q_depth q_n).1) 0 0 := by unfold fx_addRow; rw [if_neg h15]
    rw [hr]
    exact loop_X0_addRow l D ad ca g u  E 9 ((fx_addThing u q_base q_depth q_n).2) q_base q_depth q_n ((fx_addThing u q_base q_depth q_n).1) 0 0 hq4 hn (by rw [ti0]; omega) (by rw [ti0]; omega) _ _ ls hS (lv_sub hl [3, 4, 5, 6, 2, 1, 0] rfl)
def fx_firstClosedDoor_L : Nat → XS → Int32 → Int32 → Int32 → Int32 → Int32
  | 0, u, q_x, q_k, q_n, v_4 => 0
  | f_ + 1, u, q_x, q_k, q_n, v_4 => (if (q_k + q_n) ≤ v_4 then (-1) else (if (fx_mayPass u q_x (x_doorBase u (v_4).toNatClampNeg) (x_doorDepth u (v_4).toNatClampNeg)) = 0 then v_4 else fx_firstClosedDoor_L f_ u q_x q_k q_n (v_4 + 1)))
set_option maxRecDepth 100000 in
set_option maxHeartbeats 4000000 in
theorem loop_X0_firstClosedDoor {p : Program} {e : Env} {s : State} {m : MethodId} {below : List Frame} {meth : Method} {c : Code} {args : Array Value} {A : Nat → Prop} (l : Launch) (D : va_G) (ad : Nat → Nat) (ca : Nat → ClassId) (g : Nat) (u : XS) (hI : XI u) (E : EnX p s m c args cX0_firstClosedDoor 5 meth (some .int) D ca g A) : ∀ (f_ : Nat) (q_x : Int32) (q_k : Int32) (q_n : Int32) (v_4 : Int32), (0 ≤ q_k.toInt ∧ 0 ≤ q_n.toInt ∧ q_k.toInt + q_n.toInt ≤ 8) → (q_k.toInt ≤ v_4.toInt ∧ v_4.toInt ≤ q_k.toInt + q_n.toInt) → q_k.toInt + q_n.toInt - v_4.toInt < (f_ : Int) → ∀ (H : Heap) (locs : List Loc) (ls : Array Slot), SX D ad ca A s u H locs → lv_has ls 5 [(0, .ref (ad 0)), (1, .int q_x), (2, .int q_k), (3, .int q_n), (4, .int v_4)] → W p l e (rk 4) s m args below meth c H locs 0 0 (MQ below (va_Qi (fun r' v => (r', v) = (fx_firstClosedDoor_L f_ u q_x q_k q_n v_4, u)) (BkX D ad ca) A) args s 0 0 A) (F0 m 3 ls []) := by
  have hx := E.1.1
  have hb := E.1.2.1
  have hml := E.1.2.2.1
  have hown := E.1.2.2.2.1
  have hts := E.1.2.2.2.2
  intro f_
  induction f_ with
  | zero =>
    intro q_x q_k q_n v_4 hkn hd hf H locs ls hS hl
    exfalso
    omega
  | succ f_ ih =>
    intro q_x q_k q_n v_4 hkn hd hf H locs ls hS hl
    refine lv_iload hx hb dX0_firstClosedDoor_3 (lv_at hl 4 rfl) ?_
    refine lv_iload_n hx hb dX0_firstClosedDoor_5 rfl (lv_at hl 2 rfl) ?_
    refine lv_iload_n hx hb dX0_firstClosedDoor_6 rfl (lv_at hl 3 rfl) ?_
    refine lv_iadd hx hb dX0_firstClosedDoor_7 ?_
    refine lv_icmp_ge (tgt := 42) hx hb dX0_firstClosedDoor_8 (by decide) (fun h8 => ?_) (fun h8 => ?_)
    · refine lv_iconst (v := (-1)) hx hb dX0_firstClosedDoor_42 (by decide) ?_
      exact EnX.iret E hS (ni_i _) (congrArg (fun z => (z, u)) (by rw [fx_firstClosedDoor_L, if_pos h8])) dX0_firstClosedDoor_43
    · have g8 := h8
      rw [le_ti, ti_add (by omega) (by omega)] at g8
      refine lv_aload_n hx hb dX0_firstClosedDoor_11 rfl (lv_at hl 0 rfl) ?_
      refine lv_iload_n hx hb dX0_firstClosedDoor_12 rfl (lv_at hl 1 rfl) ?_
      refine lv_aload_n hx hb dX0_firstClosedDoor_13 rfl (lv_at hl 0 rfl) ?_
      refine gX_doorBase E hS dX0_firstClosedDoor_14 ?_
      refine lv_iload hx hb dX0_firstClosedDoor_17 (lv_at hl 4 rfl) ?_
      refine lX_doorBase (v := x_doorBase u (v_4).toNatClampNeg) E hS (show vp_in v_4 8 from (by rw [vp_in_iff]; omega)) rfl dX0_firstClosedDoor_19 ?_
      refine lv_aload_n hx hb dX0_firstClosedDoor_20 rfl (lv_at hl 0 rfl) ?_
      refine gX_doorDepth E hS dX0_firstClosedDoor_21 ?_
      refine lv_iload hx hb dX0_firstClosedDoor_24 (lv_at hl 4 rfl) ?_
      refine lX_doorDepth (v := x_doorDepth u (v_4).toNatClampNeg) E hS (show vp_in v_4 8 from (by rw [vp_in_iff]; omega)) rfl dX0_firstClosedDoor_26 ?_
      refine EnX.calli (r := fx_mayPass u q_x (x_doorBase u (v_4).toNatClampNeg) (x_doorDepth u (v_4).toNatClampNeg)) (u2 := u) E hS [.int q_x, .int (x_doorBase u (v_4).toNatClampNeg), .int (x_doorDepth u (v_4).toNatClampNeg)] [] (kX0_mayPass l D ad ca g u q_x (x_doorBase u (v_4).toNatClampNeg) (x_doorDepth u (v_4).toNatClampNeg) (by first | with_reducible assumption | (refine hqr ?_; with_reducible assumption) | (refine xt_in hI ?_; with_reducible assumption) | (refine xn_in hI ?_ ?_ <;> with_reducible assumption) | with_reducible exact xb_in hI _)) gc_X0_76 hd_X0_mayPass ⟨Nat.le_of_ble_eq_true rfl, Nat.le_of_ble_eq_true rfl⟩ rfl hl.1 (Nat.le_of_ble_eq_true rfl) ⟨Nat.le_refl 0, Nat.le_refl 0⟩ dX0_firstClosedDoor_27 (fun H locs hS => ?_)
      refine lv_if_ne (tgt := 36) hx hb dX0_firstClosedDoor_30 (by decide) (fun h30 => ?_) (fun h30 => ?_)
      · refine lv_iinc (v := v_4 + 1) (lv' := [(4, .int (v_4 + 1)), (0, .ref (ad 0)), (1, .int q_x), (2, .int q_k), (3, .int q_n)]) hx hb dX0_firstClosedDoor_36 hl (k := 4) rfl rfl (by decide) rfl (fun ls hl => ?_)
        refine lv_goto (tgt := 3) hx hb dX0_firstClosedDoor_39 (by decide) ?_
        have hr : fx_firstClosedDoor_L (f_ + 1) u q_x q_k q_n v_4 = fx_firstClosedDoor_L f_ u q_x q_k q_n (v_4 + 1) := by rw [fx_firstClosedDoor_L, if_neg h8, if_neg h30]
        have e4 : (v_4 + 1).toInt = v_4.toInt + 1 := ti_inc (by omega) (by omega)
        rw [hr]
        exact ih q_x q_k q_n (v_4 + 1) hkn (by omega) (by omega) _ _ ls hS (lv_sub hl [1, 2, 3, 4, 0] rfl)
      · refine lv_iload hx hb dX0_firstClosedDoor_33 (lv_at hl 4 rfl) ?_
        exact EnX.iret E hS (ni_i _) (congrArg (fun z => (z, u)) (by rw [fx_firstClosedDoor_L, if_neg h8, if_pos h30])) dX0_firstClosedDoor_35
def fx_firstClosedDoor (u : XS) (q_x : Int32) (q_k : Int32) (q_n : Int32) : Int32 := fx_firstClosedDoor_L 9 u q_x q_k q_n q_k
theorem hd_X0_firstClosedDoor : yX0_firstClosedDoor.cls = RX0 ∧ yX0_firstClosedDoor.cls ≠ "java/lang/invoke/MethodHandle" ∧ yX0_firstClosedDoor.cls ≠ "java/lang/invoke/VarHandle" ∧ (parseMethodDescriptor yX0_firstClosedDoor.desc).map (fun d => d.parameters.length) = some 3 := by decide +kernel
set_option maxRecDepth 100000 in
set_option maxHeartbeats 4000000 in
theorem kX0_firstClosedDoor (l : Launch) (D : va_G) (ad : Nat → Nat) (ca : Nat → ClassId) (g : Nat) (u : XS) (q_x : Int32) (q_k : Int32) (q_n : Int32) (hI : XI u) (hkn : 0 ≤ q_k.toInt ∧ 0 ≤ q_n.toInt ∧ q_k.toInt + q_n.toInt ≤ 8) : CiX l yX0_firstClosedDoor cX0_firstClosedDoor 5 .int 4 D ad ca g [.int q_x, .int q_k, .int q_n] u ((fx_firstClosedDoor u q_x q_k q_n, u)) := by
  refine CiX.of (by decide) rfl (Nat.le_of_ble_eq_true rfl) ?_
  intro p e s m below meth c A ls E hS hl
  have hx := E.1.1
  have hb := E.1.2.1
  have hml := E.1.2.2.1
  have hown := E.1.2.2.2.1
  have hts := E.1.2.2.2.2
  have hl : lv_has ls 5 [(0, .ref (ad 0)), (1, .int q_x), (2, .int q_k), (3, .int q_n)] := hl
  refine lv_iload_n hx hb dX0_firstClosedDoor_0 rfl (lv_at hl 2 rfl) ?_
  refine lv_istore (lv' := [(4, .int q_k), (0, .ref (ad 0)), (1, .int q_x), (2, .int q_k), (3, .int q_n)]) hx hb dX0_firstClosedDoor_1 hl (by decide) rfl (fun ls hl => ?_)
  have hr : fx_firstClosedDoor u q_x q_k q_n = fx_firstClosedDoor_L 9 u q_x q_k q_n q_k := by unfold fx_firstClosedDoor; rfl
  rw [hr]
  exact loop_X0_firstClosedDoor l D ad ca g u hI E 9 q_x q_k q_n q_k hkn (by omega) (by omega) _ _ ls hS (lv_sub hl [1, 2, 3, 4, 0] rfl)
def fx_countGoing_L : Nat → XS → Int32 → Int32 → Int32 → Int32 → Int32 → Int32
  | 0, u, q_r, q_i, q_s, q_n, v_5 => 0
  | f_ + 1, u, q_r, q_i, q_s, q_n, v_5 => (if q_n ≤ v_5 then v_5 else (if (fx_goesInto u (fx_thingAt u q_r (q_i + v_5)) q_s) = 0 then v_5 else fx_countGoing_L f_ u q_r q_i q_s q_n (v_5 + 1)))
set_option maxRecDepth 100000 in
set_option maxHeartbeats 4000000 in
theorem loop_X0_countGoing {p : Program} {e : Env} {s : State} {m : MethodId} {below : List Frame} {meth : Method} {c : Code} {args : Array Value} {A : Nat → Prop} (l : Launch) (D : va_G) (ad : Nat → Nat) (ca : Nat → ClassId) (g : Nat) (u : XS) (hI : XI u) (E : EnX p s m c args cX0_countGoing 6 meth (some .int) D ca g A) : ∀ (f_ : Nat) (q_r : Int32) (q_i : Int32) (q_s : Int32) (q_n : Int32) (v_5 : Int32), (0 ≤ v_5.toInt ∧ v_5.toInt ≤ q_n.toInt) → q_n.toInt - v_5.toInt < (f_ : Int) → (0 ≤ q_i.toInt ∧ 0 ≤ q_n.toInt ∧ q_i.toInt + q_n.toInt ≤ 8) → vp_in q_r 60 → vp_in q_s 60 → ∀ (H : Heap) (locs : List Loc) (ls : Array Slot), SX D ad ca A s u H locs → lv_has ls 6 [(0, .ref (ad 0)), (1, .int q_r), (2, .int q_i), (3, .int q_s), (4, .int q_n), (5, .int v_5)] → W p l e (rk 5) s m args below meth c H locs 0 0 (MQ below (va_Qi (fun r' v => (r', v) = (fx_countGoing_L f_ u q_r q_i q_s q_n v_5, u)) (BkX D ad ca) A) args s 0 0 A) (F0 m 3 ls []) := by
  have hx := E.1.1
  have hb := E.1.2.1
  have hml := E.1.2.2.1
  have hown := E.1.2.2.2.1
  have hts := E.1.2.2.2.2
  intro f_
  induction f_ with
  | zero =>
    intro q_r q_i q_s q_n v_5 hi5 hf hin hqr hqs H locs ls hS hl
    exfalso
    omega
  | succ f_ ih =>
    intro q_r q_i q_s q_n v_5 hi5 hf hin hqr hqs H locs ls hS hl
    refine lv_iload hx hb dX0_countGoing_3 (lv_at hl 5 rfl) ?_
    refine lv_iload hx hb dX0_countGoing_5 (lv_at hl 4 rfl) ?_
    refine lv_icmp_ge (tgt := 33) hx hb dX0_countGoing_7 (by decide) (fun h7 => ?_) (fun h7 => ?_)
    · refine lv_iload hx hb dX0_countGoing_33 (lv_at hl 5 rfl) ?_
      exact EnX.iret E hS (ni_i _) (congrArg (fun z => (z, u)) (by rw [fx_countGoing_L, if_pos h7])) dX0_countGoing_35
    · have g7 := h7
      rw [le_ti] at g7
      have ei : (q_i + v_5).toInt = q_i.toInt + v_5.toInt := ti_add (by omega) (by omega)
      refine lv_aload_n hx hb dX0_countGoing_10 rfl (lv_at hl 0 rfl) ?_
      refine lv_aload_n hx hb dX0_countGoing_11 rfl (lv_at hl 0 rfl) ?_
      refine lv_iload_n hx hb dX0_countGoing_12 rfl (lv_at hl 1 rfl) ?_
      refine lv_iload_n hx hb dX0_countGoing_13 rfl (lv_at hl 2 rfl) ?_
      refine lv_iload hx hb dX0_countGoing_14 (lv_at hl 5 rfl) ?_
      refine lv_iadd hx hb dX0_countGoing_16 ?_
      refine EnX.calli (r := fx_thingAt u q_r (q_i + v_5)) (u2 := u) E hS [.int q_r, .int (q_i + v_5)] [.ref (ad 0)] (kX0_thingAt l D ad ca g u q_r (q_i + v_5) (pi_in hqr (by omega) (by omega))) gc_X0_92 hd_X0_thingAt ⟨Nat.le_of_ble_eq_true rfl, Nat.le_of_ble_eq_true rfl⟩ rfl hl.1 (Nat.le_of_ble_eq_true rfl) ⟨Nat.le_refl 0, Nat.le_refl 0⟩ dX0_countGoing_17 (fun H locs hS => ?_)
      refine lv_iload_n hx hb dX0_countGoing_20 rfl (lv_at hl 3 rfl) ?_
      refine EnX.calli (r := fx_goesInto u (fx_thingAt u q_r (q_i + v_5)) q_s) (u2 := u) E hS [.int (fx_thingAt u q_r (q_i + v_5)), .int q_s] [] (kX0_goesInto l D ad ca g u (fx_thingAt u q_r (q_i + v_5)) q_s (by first | with_reducible assumption | (refine hqr ?_; with_reducible assumption) | (refine xt_in hI ?_; with_reducible assumption) | (refine xn_in hI ?_ ?_ <;> with_reducible assumption) | with_reducible exact xb_in hI _) (by first | with_reducible assumption | (refine hqr ?_; with_reducible assumption) | (refine xt_in hI ?_; with_reducible assumption) | (refine xn_in hI ?_ ?_ <;> with_reducible assumption) | with_reducible exact xb_in hI _)) gc_X0_89 hd_X0_goesInto ⟨Nat.le_of_ble_eq_true rfl, Nat.le_of_ble_eq_true rfl⟩ rfl hl.1 (Nat.le_of_ble_eq_true rfl) ⟨Nat.le_refl 0, Nat.le_refl 0⟩ dX0_countGoing_21 (fun H locs hS => ?_)
      refine lv_if_eq (tgt := 33) hx hb dX0_countGoing_24 (by decide) (fun h24 => ?_) (fun h24 => ?_)
      · refine lv_iload hx hb dX0_countGoing_33 (lv_at hl 5 rfl) ?_
        exact EnX.iret E hS (ni_i _) (congrArg (fun z => (z, u)) (by rw [fx_countGoing_L, if_neg h7, if_pos h24])) dX0_countGoing_35
      · refine lv_iinc (v := v_5 + 1) (lv' := [(5, .int (v_5 + 1)), (0, .ref (ad 0)), (1, .int q_r), (2, .int q_i), (3, .int q_s), (4, .int q_n)]) hx hb dX0_countGoing_27 hl (k := 5) rfl rfl (by decide) rfl (fun ls hl => ?_)
        refine lv_goto (tgt := 3) hx hb dX0_countGoing_30 (by decide) ?_
        have hr : fx_countGoing_L (f_ + 1) u q_r q_i q_s q_n v_5 = fx_countGoing_L f_ u q_r q_i q_s q_n (v_5 + 1) := by rw [fx_countGoing_L, if_neg h7, if_neg h24]
        have e5 : (v_5 + 1).toInt = v_5.toInt + 1 := ti_inc (by omega) (by omega)
        rw [hr]
        exact ih q_r q_i q_s q_n (v_5 + 1) (by omega) (by omega) hin hqr hqs _ _ ls hS (lv_sub hl [1, 2, 3, 4, 5, 0] rfl)
def fx_countGoing (u : XS) (q_r : Int32) (q_i : Int32) (q_s : Int32) (q_n : Int32) : Int32 := fx_countGoing_L 9 u q_r q_i q_s q_n 0
theorem hd_X0_countGoing : yX0_countGoing.cls = RX0 ∧ yX0_countGoing.cls ≠ "java/lang/invoke/MethodHandle" ∧ yX0_countGoing.cls ≠ "java/lang/invoke/VarHandle" ∧ (parseMethodDescriptor yX0_countGoing.desc).map (fun d => d.parameters.length) = some 4 := by decide +kernel
set_option maxRecDepth 100000 in
set_option maxHeartbeats 4000000 in
theorem kX0_countGoing (l : Launch) (D : va_G) (ad : Nat → Nat) (ca : Nat → ClassId) (g : Nat) (u : XS) (q_r : Int32) (q_i : Int32) (q_s : Int32) (q_n : Int32) (hI : XI u) (hqr : vp_in q_r 60) (hqs : vp_in q_s 60) (hin : 0 ≤ q_i.toInt ∧ 0 ≤ q_n.toInt ∧ q_i.toInt + q_n.toInt ≤ 8) : CiX l yX0_countGoing cX0_countGoing 6 .int 5 D ad ca g [.int q_r, .int q_i, .int q_s, .int q_n] u ((fx_countGoing u q_r q_i q_s q_n, u)) := by
  refine CiX.of (by decide) rfl (Nat.le_of_ble_eq_true rfl) ?_
  intro p e s m below meth c A ls E hS hl
  have hx := E.1.1
  have hb := E.1.2.1
  have hml := E.1.2.2.1
  have hown := E.1.2.2.2.1
  have hts := E.1.2.2.2.2
  have hl : lv_has ls 6 [(0, .ref (ad 0)), (1, .int q_r), (2, .int q_i), (3, .int q_s), (4, .int q_n)] := hl
  refine lv_iconst (v := 0) hx hb dX0_countGoing_0 (by decide) ?_
  refine lv_istore (lv' := [(5, .int 0), (0, .ref (ad 0)), (1, .int q_r), (2, .int q_i), (3, .int q_s), (4, .int q_n)]) hx hb dX0_countGoing_1 hl (by decide) rfl (fun ls hl => ?_)
  have hr : fx_countGoing u q_r q_i q_s q_n = fx_countGoing_L 9 u q_r q_i q_s q_n 0 := by unfold fx_countGoing; rfl
  rw [hr]
  exact loop_X0_countGoing l D ad ca g u hI E 9 q_r q_i q_s q_n 0 (by rw [ti0]; omega) (by rw [ti0]; omega) hin hqr hqs _ _ ls hS (lv_sub hl [1, 2, 3, 4, 5, 0] rfl)
def fx_clear_L : Nat → XS → Int32 → Int32 → Int32 × XS
  | 0, w, v_1, v_2 => (0, w)
  | f_ + 1, w, v_1, v_2 => (if 8 ≤ v_2 then (v_1, w) else fx_clear_L f_ (xs_doorDepth (xs_doorBase w (upd (x_doorBase w) (v_2).toNatClampNeg 0)) (upd (x_doorDepth w) (v_2).toNatClampNeg 0)) v_1 (v_2 + 1))
set_option maxRecDepth 100000 in
set_option maxHeartbeats 4000000 in
theorem loop_X0_clear {p : Program} {e : Env} {s : State} {m : MethodId} {below : List Frame} {meth : Method} {c : Code} {args : Array Value} {A : Nat → Prop} (l : Launch) (D : va_G) (ad : Nat → Nat) (ca : Nat → ClassId) (g : Nat) (u : XS) (E : EnX p s m c args cX0_clear 3 meth (some .int) D ca g A) : ∀ (f_ : Nat) (w : XS) (v_1 : Int32) (v_2 : Int32), (0 ≤ v_2.toInt ∧ v_2.toInt ≤ 8) → 8 - v_2.toInt < (f_ : Int) → ∀ (H : Heap) (locs : List Loc) (ls : Array Slot), SX D ad ca A s w H locs → lv_has ls 3 [(0, .ref (ad 0)), (1, .int v_1), (2, .int v_2)] → W p l e (rk 1) s m args below meth c H locs 0 0 (MQ below (va_Qi (fun r' v => (r', v) = fx_clear_L f_ w v_1 v_2) (BkX D ad ca) A) args s 0 0 A) (F0 m 12 ls []) := by
  have hx := E.1.1
  have hb := E.1.2.1
  have hml := E.1.2.2.1
  have hown := E.1.2.2.2.1
  have hts := E.1.2.2.2.2
  intro f_
  induction f_ with
  | zero =>
    intro w v_1 v_2 hi hf H locs ls hS hl
    exfalso
    omega
  | succ f_ ih =>
    intro w v_1 v_2 hi hf H locs ls hS hl
    refine lv_iload_n hx hb dX0_clear_12 rfl (lv_at hl 2 rfl) ?_
    refine lv_bipush (v := 8) hx hb dX0_clear_13 (by decide) ?_
    refine lv_icmp_ge (tgt := 38) hx hb dX0_clear_15 (by decide) (fun h15 => ?_) (fun h15 => ?_)
    · refine lv_iload_n hx hb dX0_clear_38 rfl (lv_at hl 1 rfl) ?_
      exact EnX.iret E hS (ni_i _) (by rw [fx_clear_L, if_pos h15]) dX0_clear_39
    · have g15 := h15
      rw [le_ti, ti8] at g15
      refine lv_aload_n hx hb dX0_clear_18 rfl (lv_at hl 0 rfl) ?_
      refine gX_doorBase E hS dX0_clear_19 ?_
      refine lv_iload_n hx hb dX0_clear_22 rfl (lv_at hl 2 rfl) ?_
      refine lv_iconst (v := 0) hx hb dX0_clear_23 (by decide) ?_
      refine sX_doorBase E hS (show vp_in v_2 8 from (by rw [vp_in_iff]; omega)) dX0_clear_24 (fun H locs hS => ?_)
      have hS : SX D ad ca A s (xs_doorBase w (upd (x_doorBase w) (v_2).toNatClampNeg 0)) H locs := hS
      refine lv_aload_n hx hb dX0_clear_25 rfl (lv_at hl 0 rfl) ?_
      refine gX_doorDepth E hS dX0_clear_26 ?_
      refine lv_iload_n hx hb dX0_clear_29 rfl (lv_at hl 2 rfl) ?_
      refine lv_iconst (v := 0) hx hb dX0_clear_30 (by decide) ?_
      refine sX_doorDepth E hS (show vp_in v_2 8 from (by rw [vp_in_iff]; omega)) dX0_clear_31 (fun H locs hS => ?_)
      have hS : SX D ad ca A s (xs_doorDepth (xs_doorBase w (upd (x_doorBase w) (v_2).toNatClampNeg 0)) (upd (x_doorDepth w) (v_2).toNatClampNeg 0)) H locs := hS
      refine lv_iinc (v := v_2 + 1) (lv' := [(2, .int (v_2 + 1)), (0, .ref (ad 0)), (1, .int v_1)]) hx hb dX0_clear_32 hl (k := 2) rfl rfl (by decide) rfl (fun ls hl => ?_)
      refine lv_goto (tgt := 12) hx hb dX0_clear_35 (by decide) ?_
      have hr : fx_clear_L (f_ + 1) w v_1 v_2 = fx_clear_L f_ (xs_doorDepth (xs_doorBase w (upd (x_doorBase w) (v_2).toNatClampNeg 0)) (upd (x_doorDepth w) (v_2).toNatClampNeg 0)) v_1 (v_2 + 1) := by rw [fx_clear_L, if_neg h15]
      have e2 : (v_2 + 1).toInt = v_2.toInt + 1 := ti_inc (by omega) (by omega)
      rw [hr]
      exact ih (xs_doorDepth (xs_doorBase w (upd (x_doorBase w) (v_2).toNatClampNeg 0)) (upd (x_doorDepth w) (v_2).toNatClampNeg 0)) v_1 (v_2 + 1) (by omega) (by omega) _ _ ls hS (lv_sub hl [1, 2, 0] rfl)
def fx_clear (u : XS)  : Int32 × XS := fx_clear_L 9 (xs_thingCount u 0) (x_thingCount u) 0
theorem hd_X0_clear : yX0_clear.cls = RX0 ∧ yX0_clear.cls ≠ "java/lang/invoke/MethodHandle" ∧ yX0_clear.cls ≠ "java/lang/invoke/VarHandle" ∧ (parseMethodDescriptor yX0_clear.desc).map (fun d => d.parameters.length) = some 0 := by decide +kernel
set_option maxRecDepth 100000 in
set_option maxHeartbeats 4000000 in
theorem kX0_clear (l : Launch) (D : va_G) (ad : Nat → Nat) (ca : Nat → ClassId) (g : Nat) (u : XS)   : CiX l yX0_clear cX0_clear 3 .int 1 D ad ca g [] u (fx_clear u) := by
  refine CiX.of (by decide) rfl (Nat.le_of_ble_eq_true rfl) ?_
  intro p e s m below meth c A ls E hS hl
  have hx := E.1.1
  have hb := E.1.2.1
  have hml := E.1.2.2.1
  have hown := E.1.2.2.2.1
  have hts := E.1.2.2.2.2
  have hl : lv_has ls 3 [(0, .ref (ad 0))] := hl
  refine lv_aload_n hx hb dX0_clear_0 rfl (lv_at hl 0 rfl) ?_
  refine gX_thingCount (v := x_thingCount u) E hS rfl dX0_clear_1 ?_
  refine lv_istore_n (lv' := [(1, .int (x_thingCount u)), (0, .ref (ad 0))]) hx hb dX0_clear_4 rfl hl (by decide) rfl (fun ls hl => ?_)
  refine lv_aload_n hx hb dX0_clear_5 rfl (lv_at hl 1 rfl) ?_
  refine lv_iconst (v := 0) hx hb dX0_clear_6 (by decide) ?_
  refine pX_thingCount E hS dX0_clear_7 (fun H locs hS => ?_)
  have hS : SX D ad ca A s (xs_thingCount u 0) H locs := hS
  refine lv_iconst (v := 0) hx hb dX0_clear_10 (by decide) ?_
  refine lv_istore_n (lv' := [(2, .int 0), (1, .int (x_thingCount u)), (0, .ref (ad 0))]) hx hb dX0_clear_11 rfl hl (by decide) rfl (fun ls hl => ?_)
  have hr : fx_clear u = fx_clear_L 9 (xs_thingCount u 0) (x_thingCount u) 0 := by unfold fx_clear; rfl
  rw [hr]
  exact loop_X0_clear l D ad ca g u  E 9 (xs_thingCount u 0) (x_thingCount u) 0 (by rw [ti0]; omega) (by rw [ti0]; omega) _ _ ls hS (lv_sub hl [2, 1, 0] rfl)
def fx_movePlaces (u : XS) (q_r : Int32) (q_i : Int32) (q_s : Int32) (q_j : Int32) (q_n : Int32) : XS := xs_places u (va_cpy (x_places u) (x_places u) (fx_placeIndex q_r q_i).toNatClampNeg (fx_placeIndex q_s q_j).toNatClampNeg (q_n).toNatClampNeg)
theorem hd_X0_movePlaces : yX0_movePlaces.cls = RX0 ∧ yX0_movePlaces.cls ≠ "java/lang/invoke/MethodHandle" ∧ yX0_movePlaces.cls ≠ "java/lang/invoke/VarHandle" ∧ (parseMethodDescriptor yX0_movePlaces.desc).map (fun d => d.parameters.length) = some 5 := by decide +kernel
set_option maxRecDepth 100000 in
set_option maxHeartbeats 4000000 in
theorem kX0_movePlaces (l : Launch) (D : va_G) (ad : Nat → Nat) (ca : Nat → ClassId) (g : Nat) (u : XS) (q_r : Int32) (q_i : Int32) (q_s : Int32) (q_j : Int32) (q_n : Int32) (hm1 : ¬ fx_placeIndex q_r q_i < 0) (hm2 : ¬ fx_placeIndex q_s q_j < 0) (hm3 : ¬ q_n < 0) (hm4 : (fx_placeIndex q_r q_i).toNatClampNeg + q_n.toNatClampNeg ≤ 480) (hm5 : (fx_placeIndex q_s q_j).toNatClampNeg + q_n.toNatClampNeg ≤ 480) : CvX l yX0_movePlaces cX0_movePlaces 6 2 D ad ca g [.int q_r, .int q_i, .int q_s, .int q_j, .int q_n] u (fx_movePlaces u q_r q_i q_s q_j q_n) := by
  refine CvX.of (by decide) rfl (Nat.le_of_ble_eq_true rfl) ?_
  intro p e s m below meth c A ls E hS hl
  have hx := E.1.1
  have hb := E.1.2.1
  have hml := E.1.2.2.1
  have hown := E.1.2.2.2.1
  have hts := E.1.2.2.2.2
  have hl : lv_has ls 6 [(0, .ref (ad 0)), (1, .int q_r), (2, .int q_i), (3, .int q_s), (4, .int q_j), (5, .int q_n)] := hl
  refine lv_aload_n hx hb dX0_movePlaces_0 rfl (lv_at hl 0 rfl) ?_
  refine gX_places E hS dX0_movePlaces_1 ?_
  refine lv_iload_n hx hb dX0_movePlaces_4 rfl (lv_at hl 1 rfl) ?_
  refine lv_iload_n hx hb dX0_movePlaces_5 rfl (lv_at hl 2 rfl) ?_
  refine EnX.sti (r := fx_placeIndex q_r q_i) E hS [.int q_r, .int q_i] [.ref (ad 5)] (kX0_placeIndex l q_r q_i ) (fun _ _ _ _ h => h) (fun _ _ _ => trivial) gc_X0_70 hd_X0_placeIndex ⟨Nat.le_of_ble_eq_true rfl, Nat.le_of_ble_eq_true rfl⟩ rfl hl.1 (Nat.le_of_ble_eq_true rfl) ⟨Nat.le_refl 0, Nat.le_refl 0⟩ dX0_movePlaces_6 (fun H locs hS => ?_)
  refine lv_aload_n hx hb dX0_movePlaces_9 rfl (lv_at hl 0 rfl) ?_
  refine gX_places E hS dX0_movePlaces_10 ?_
  refine lv_iload_n hx hb dX0_movePlaces_13 rfl (lv_at hl 3 rfl) ?_
  refine lv_iload hx hb dX0_movePlaces_14 (lv_at hl 4 rfl) ?_
  refine EnX.sti (r := fx_placeIndex q_s q_j) E hS [.int q_s, .int q_j] [.ref (ad 5), .int (fx_placeIndex q_r q_i), .ref (ad 5)] (kX0_placeIndex l q_s q_j ) (fun _ _ _ _ h => h) (fun _ _ _ => trivial) gc_X0_70 hd_X0_placeIndex ⟨Nat.le_of_ble_eq_true rfl, Nat.le_of_ble_eq_true rfl⟩ rfl hl.1 (Nat.le_of_ble_eq_true rfl) ⟨Nat.le_refl 0, Nat.le_refl 0⟩ dX0_movePlaces_16 (fun H locs hS => ?_)
  refine lv_iload hx hb dX0_movePlaces_19 (lv_at hl 5 rfl) ?_
  refine va_copyl hx hb (hml.trans hl.1.symm) hown (hts _ wl_X0_148) (hts _ wv_copy) (hts _ wt_copy) (hts _ wn_sys) E.2.2.2.1 hS.1 hS.2.1 hS.2.2 5 5 4 4 rfl rfl rfl rfl rfl hm1 hm2 hm3 hm4 hm5 (fun _ _ => rfl) (Nat.le_of_ble_eq_true rfl) (Nat.le_of_ble_eq_true rfl) dX0_movePlaces_21 (fun H locs hP hD hS9 => ?_)
  have hS : SX D ad ca A s (xs_places u (va_cpy (x_places u) (x_places u) (fx_placeIndex q_r q_i).toNatClampNeg (fx_placeIndex q_s q_j).toNatClampNeg (q_n).toNatClampNeg)) H locs := ⟨hP, hD, hS9⟩
  exact EnX.vret E hS (by unfold fx_movePlaces; rfl) dX0_movePlaces_24
end
section
/-! DepotTrays: worth and frail, by depth -/
theorem hd_X0_worthWithin : yX0_worthWithin.cls = RX0 ∧ yX0_worthWithin.cls ≠ "java/lang/invoke/MethodHandle" ∧ yX0_worthWithin.cls ≠ "java/lang/invoke/VarHandle" ∧ (parseMethodDescriptor yX0_worthWithin.desc).map (fun d => d.parameters.length) = some 2 := by decide +kernel
def fx_worthStep_L (rec : Int32 → Int64) : Nat → XS → Int32 → Int64 → Int32 → Int64
  | 0, u, q_x, v_3, v_5 => 0
  | f_ + 1, u, q_x, v_3, v_5 => (if (x_thingSize u (q_x).toNatClampNeg) ≤ v_5 then v_3 else (if (fx_isLedger u q_x) = 0 then fx_worthStep_L rec f_ u q_x (v_3 + (rec (fx_thingAt u q_x v_5))) (v_5 + 1) else fx_worthStep_L rec f_ u q_x (v_3 + (x_places u (fx_placeIndex q_x v_5).toNatClampNeg)) (v_5 + 1)))
set_option maxRecDepth 100000 in
set_option maxHeartbeats 4000000 in
theorem loop_X0_worthWithin {p : Program} {e : Env} {s : State} {m : MethodId} {below : List Frame} {meth : Method} {c : Code} {args : Array Value} {A : Nat → Prop} (l : Launch) (D : va_G) (ad : Nat → Nat) (ca : Nat → ClassId) (g : Nat) (u : XS) (hI : XI u) (rec : Int32 → Int64) (k : Nat) (hk : 3 ≤ k) (q_levels : Int32) (hl0 : 0 ≤ q_levels) (hrec : 0 ≤ q_levels → ∀ y : Int32, ClX l yX0_worthWithin cX0_worthWithin 6 k D ad ca g [.int y, .int (q_levels - 1)] u (rec y, u)) (E : EnX p s m c args cX0_worthWithin 6 meth (some .long) D ca g A) : ∀ (f_ : Nat) (q_x : Int32) (v_3 : Int64) (v_5 : Int32), vp_in q_x 60 → (0 ≤ v_5.toInt ∧ v_5.toInt ≤ 8) → 8 - v_5.toInt < (f_ : Int) → ∀ (H : Heap) (locs : List Loc) (ls : Array Slot), SX D ad ca A s u H locs → lv_has ls 6 [(0, .ref (ad 0)), (2, .int q_levels), (1, .int q_x), (3, .long v_3), (5, .int v_5)] → W p l e (rk (k + 1)) s m args below meth c H locs 0 0 (MQ below (va_Ql (fun r' v => (r', v) = (fx_worthStep_L rec f_ u q_x v_3 v_5, u)) (BkX D ad ca) A) args s 0 0 A) (F0 m 33 ls []) := by
  have hx := E.1.1
  have hb := E.1.2.1
  have hml := E.1.2.2.1
  have hown := E.1.2.2.2.1
  have hts := E.1.2.2.2.2
  intro f_
  induction f_ with
  | zero =>
    intro q_x v_3 v_5 hqx hi hf H locs ls hS hl
    exfalso
    omega
  | succ f_ ih =>
    intro q_x v_3 v_5 hqx hi hf H locs ls hS hl
    refine lv_iload hx hb dX0_worthWithin_33 (lv_at hl 4 rfl) ?_
    refine lv_aload_n hx hb dX0_worthWithin_35 rfl (lv_at hl 0 rfl) ?_
    refine gX_thingSize E hS dX0_worthWithin_36 ?_
    refine lv_iload_n hx hb dX0_worthWithin_39 rfl (lv_at hl 2 rfl) ?_
    refine lX_thingSize (v := x_thingSize u (q_x).toNatClampNeg) E hS (show vp_in q_x 60 from hqx) rfl dX0_worthWithin_40 ?_
    refine lv_icmp_ge (tgt := 89) hx hb dX0_worthWithin_41 (by decide) (fun h41 => ?_) (fun h41 => ?_)
    · refine lv_lload_n hx hb dX0_worthWithin_89 rfl (lv_at hl 3 rfl) ?_
      exact EnX.lret E hS (congrArg (fun z => (z, u)) (by rw [fx_worthStep_L, if_pos h41])) dX0_worthWithin_90
    · have gs := hI.2.2 (q_x).toNatClampNeg
      have gc := h41
      rw [le_ti] at gc
      refine lv_lload_n hx hb dX0_worthWithin_44 rfl (lv_at hl 3 rfl) ?_
      refine lv_aload_n hx hb dX0_worthWithin_45 rfl (lv_at hl 0 rfl) ?_
      refine lv_iload_n hx hb dX0_worthWithin_46 rfl (lv_at hl 2 rfl) ?_
      refine EnX.calli (r := fx_isLedger u q_x) (u2 := u) E hS [.int q_x] [.long v_3] (kX0_isLedger l D ad ca g u q_x (by first | with_reducible assumption | (refine hqr ?_; with_reducible assumption) | (refine xt_in hI ?_; with_reducible assumption) | (refine xn_in hI ?_ ?_ <;> with_reducible assumption) | with_reducible exact xb_in hI _)) gc_X0_124 hd_X0_isLedger ⟨show 2 + 1 ≤ k + 1 by omega, show 8 + (2 + 11) + 64 * 2 ≤ 64 * (k + 1) by omega⟩ rfl hl.1 (Nat.le_of_ble_eq_true rfl) ⟨Nat.le_refl 0, Nat.le_refl 0⟩ dX0_worthWithin_47 (fun H locs hS => ?_)
      refine lv_if_eq (tgt := 67) hx hb dX0_worthWithin_50 (by decide) (fun h50 => ?_) (fun h50 => ?_)
      · refine lv_aload_n hx hb dX0_worthWithin_67 rfl (lv_at hl 0 rfl) ?_
        refine lv_aload_n hx hb dX0_worthWithin_68 rfl (lv_at hl 0 rfl) ?_
        refine lv_iload_n hx hb dX0_worthWithin_69 rfl (lv_at hl 2 rfl) ?_
        refine lv_iload hx hb dX0_worthWithin_70 (lv_at hl 4 rfl) ?_
        refine EnX.calli (r := fx_thingAt u q_x v_5) (u2 := u) E hS [.int q_x, .int v_5] [.ref (ad 0), .long v_3] (kX0_thingAt l D ad ca g u q_x v_5 (pi_in hqx (by omega) (by omega))) gc_X0_92 hd_X0_thingAt ⟨show 2 + 1 ≤ k + 1 by omega, show 8 + (3 + 11) + 64 * 2 ≤ 64 * (k + 1) by omega⟩ rfl hl.1 (Nat.le_of_ble_eq_true rfl) ⟨Nat.le_refl 0, Nat.le_refl 0⟩ dX0_worthWithin_72 (fun H locs hS => ?_)
        refine lv_iload_n hx hb dX0_worthWithin_75 rfl (lv_at hl 1 rfl) ?_
        refine lv_iconst (v := 1) hx hb dX0_worthWithin_76 (by decide) ?_
        refine lv_isub hx hb dX0_worthWithin_77 ?_
        refine EnX.calll (r := rec (fx_thingAt u q_x v_5)) (u2 := u) E hS [.int (fx_thingAt u q_x v_5), .int (q_levels - 1)] [.long v_3] (hrec hl0 (fx_thingAt u q_x v_5)) gc_X0_107 hd_X0_worthWithin ⟨show k + 1 ≤ k + 1 by omega, show 8 + (6 + 11) + 64 * k ≤ 64 * (k + 1) by omega⟩ rfl hl.1 (Nat.le_of_ble_eq_true rfl) ⟨Nat.le_refl 0, Nat.le_refl 0⟩ dX0_worthWithin_78 (fun H locs hS => ?_)
        refine lv_ladd hx hb dX0_worthWithin_81 ?_
        refine lv_lstore_n (lv' := [(3, .long (v_3 + (rec (fx_thingAt u q_x v_5)))), (0, .ref (ad 0)), (2, .int q_levels), (1, .int q_x), (5, .int v_5)]) hx hb dX0_worthWithin_82 rfl hl (by decide) rfl (fun ls hl => ?_)
        refine lv_iinc (v := v_5 + 1) (lv' := [(5, .int (v_5 + 1)), (3, .long (v_3 + (rec (fx_thingAt u q_x v_5)))), (0, .ref (ad 0)), (2, .int q_levels), (1, .int q_x)]) hx hb dX0_worthWithin_83 hl (k := 4) rfl rfl (by decide) rfl (fun ls hl => ?_)
        refine lv_goto (tgt := 33) hx hb dX0_worthWithin_86 (by decide) ?_
        have hr : fx_worthStep_L rec (f_ + 1) u q_x v_3 v_5 = fx_worthStep_L rec f_ u q_x (v_3 + (rec (fx_thingAt u q_x v_5))) (v_5 + 1) := by rw [fx_worthStep_L, if_neg h41, if_pos h50]
        have e5 : (v_5 + 1).toInt = v_5.toInt + 1 := ti_inc (by omega) (by omega)
        rw [hr]
        exact ih q_x (v_3 + (rec (fx_thingAt u q_x v_5))) (v_5 + 1) hqx (by omega) (by omega) _ _ ls hS (lv_sub hl [2, 3, 4, 1, 0] rfl)
      · refine lv_aload_n hx hb dX0_worthWithin_53 rfl (lv_at hl 0 rfl) ?_
        refine gX_places E hS dX0_worthWithin_54 ?_
        refine lv_iload_n hx hb dX0_worthWithin_57 rfl (lv_at hl 2 rfl) ?_
        refine lv_iload hx hb dX0_worthWithin_58 (lv_at hl 4 rfl) ?_
        refine EnX.sti (r := fx_placeIndex q_x v_5) E hS [.int q_x, .int v_5] [.ref (ad 5), .long v_3] (kX0_placeIndex l q_x v_5 ) (fun _ _ _ _ h => h) (fun _ _ _ => trivial) gc_X0_70 hd_X0_placeIndex ⟨show 1 + 1 ≤ k + 1 by omega, show 8 + (2 + 11) + 64 * 1 ≤ 64 * (k + 1) by omega⟩ rfl hl.1 (Nat.le_of_ble_eq_true rfl) ⟨Nat.le_refl 0, Nat.le_refl 0⟩ dX0_worthWithin_60 (fun H locs hS => ?_)
        refine lX_places (v := x_places u (fx_placeIndex q_x v_5).toNatClampNeg) E hS (show vp_in (fx_placeIndex q_x v_5) 480 from pi_in hqx (by omega) (by omega)) rfl dX0_worthWithin_63 ?_
        refine lv_goto (tgt := 81) hx hb dX0_worthWithin_64 (by decide) ?_
        refine lv_ladd hx hb dX0_worthWithin_81 ?_
        refine lv_lstore_n (lv' := [(3, .long (v_3 + (x_places u (fx_placeIndex q_x v_5).toNatClampNeg))), (0, .ref (ad 0)), (2, .int q_levels), (1, .int q_x), (5, .int v_5)]) hx hb dX0_worthWithin_82 rfl hl (by decide) rfl (fun ls hl => ?_)
        refine lv_iinc (v := v_5 + 1) (lv' := [(5, .int (v_5 + 1)), (3, .long (v_3 + (x_places u (fx_placeIndex q_x v_5).toNatClampNeg))), (0, .ref (ad 0)), (2, .int q_levels), (1, .int q_x)]) hx hb dX0_worthWithin_83 hl (k := 4) rfl rfl (by decide) rfl (fun ls hl => ?_)
        refine lv_goto (tgt := 33) hx hb dX0_worthWithin_86 (by decide) ?_
        have hr : fx_worthStep_L rec (f_ + 1) u q_x v_3 v_5 = fx_worthStep_L rec f_ u q_x (v_3 + (x_places u (fx_placeIndex q_x v_5).toNatClampNeg)) (v_5 + 1) := by rw [fx_worthStep_L, if_neg h41, if_neg h50]
        have e5 : (v_5 + 1).toInt = v_5.toInt + 1 := ti_inc (by omega) (by omega)
        rw [hr]
        exact ih q_x (v_3 + (x_places u (fx_placeIndex q_x v_5).toNatClampNeg)) (v_5 + 1) hqx (by omega) (by omega) _ _ ls hS (lv_sub hl [2, 3, 4, 1, 0] rfl)
def fx_worthStep (rec : Int32 → Int64) (u : XS) (q_x q_levels : Int32) : Int64 := if (fx_isThing u q_x) = 0 then 0 else (if 0 ≤ q_levels then (if (fx_isPiece u q_x) = 0 then fx_worthStep_L rec 9 u q_x 0 0 else fx_worthOfPiece u q_x) else 0)
set_option maxRecDepth 100000 in
set_option maxHeartbeats 4000000 in
theorem kX0_worthStep (l : Launch) (D : va_G) (ad : Nat → Nat) (ca : Nat → ClassId) (g : Nat) (u : XS) (q_x q_levels : Int32) (hI : XI u) (rec : Int32 → Int64) (k : Nat) (hk : 3 ≤ k) (hrec : 0 ≤ q_levels → ∀ y : Int32, ClX l yX0_worthWithin cX0_worthWithin 6 k D ad ca g [.int y, .int (q_levels - 1)] u (rec y, u)) : ClX l yX0_worthWithin cX0_worthWithin 6 (k + 1) D ad ca g [.int q_x, .int q_levels] u (fx_worthStep rec u q_x q_levels, u) := by
  refine ClX.of (by decide) rfl (Nat.le_of_ble_eq_true rfl) ?_
  intro p e s m below meth c A ls E hS hl
  have hx := E.1.1
  have hb := E.1.2.1
  have hml := E.1.2.2.1
  have hown := E.1.2.2.2.1
  have hts := E.1.2.2.2.2
  have hl : lv_has ls 6 [(0, .ref (ad 0)), (1, .int q_x), (2, .int q_levels)] := hl
  refine lv_aload_n hx hb dX0_worthWithin_0 rfl (lv_at hl 0 rfl) ?_
  refine lv_iload_n hx hb dX0_worthWithin_1 rfl (lv_at hl 1 rfl) ?_
  refine EnX.calli (r := fx_isThing u q_x) (u2 := u) E hS [.int q_x] [] (kX0_isThing l D ad ca g u q_x ) gc_X0_137 hd_X0_isThing ⟨show 1 + 1 ≤ k + 1 by omega, show 8 + (2 + 11) + 64 * 1 ≤ 64 * (k + 1) by omega⟩ rfl hl.1 (Nat.le_of_ble_eq_true rfl) ⟨Nat.le_refl 0, Nat.le_refl 0⟩ dX0_worthWithin_2 (fun H locs hS => ?_)
  refine lv_if_eq (tgt := 12) hx hb dX0_worthWithin_5 (by decide) (fun h5 => ?_) (fun h5 => ?_)
  · refine lv_lconst (v := 0) hx hb dX0_worthWithin_12 (by decide) ?_
    exact EnX.lret E hS (congrArg (fun z => (z, u)) (show (0 : Int64) = fx_worthStep rec u q_x q_levels by unfold fx_worthStep; rw [if_pos h5])) dX0_worthWithin_13
  · refine lv_iload_n hx hb dX0_worthWithin_8 rfl (lv_at hl 2 rfl) ?_
    refine lv_if_ge (tgt := 14) hx hb dX0_worthWithin_9 (by decide) (fun h9 => ?_) (fun h9 => ?_)
    · refine lv_aload_n hx hb dX0_worthWithin_14 rfl (lv_at hl 0 rfl) ?_
      refine lv_iload_n hx hb dX0_worthWithin_15 rfl (lv_at hl 1 rfl) ?_
      refine EnX.calli (r := fx_isPiece u q_x) (u2 := u) E hS [.int q_x] [] (kX0_isPiece l D ad ca g u q_x (by first | with_reducible assumption | (refine hqr ?_; with_reducible assumption) | (refine xt_in hI ?_; with_reducible assumption) | (refine xn_in hI ?_ ?_ <;> with_reducible assumption) | with_reducible exact xb_in hI _)) gc_X0_111 hd_X0_isPiece ⟨show 1 + 1 ≤ k + 1 by omega, show 8 + (2 + 11) + 64 * 1 ≤ 64 * (k + 1) by omega⟩ rfl hl.1 (Nat.le_of_ble_eq_true rfl) ⟨Nat.le_refl 0, Nat.le_refl 0⟩ dX0_worthWithin_16 (fun H locs hS => ?_)
      refine lv_if_eq (tgt := 28) hx hb dX0_worthWithin_19 (by decide) (fun h19 => ?_) (fun h19 => ?_)
      · refine lv_lconst (v := 0) hx hb dX0_worthWithin_28 (by decide) ?_
        refine lv_lstore_n (lv' := [(3, .long 0), (0, .ref (ad 0)), (1, .int q_x), (2, .int q_levels)]) hx hb dX0_worthWithin_29 rfl hl (by decide) rfl (fun ls hl => ?_)
        refine lv_iconst (v := 0) hx hb dX0_worthWithin_30 (by decide) ?_
        refine lv_istore (lv' := [(5, .int 0), (3, .long 0), (0, .ref (ad 0)), (1, .int q_x), (2, .int q_levels)]) hx hb dX0_worthWithin_31 hl (by decide) rfl (fun ls hl => ?_)
        have hr : fx_worthStep rec u q_x q_levels = fx_worthStep_L rec 9 u q_x 0 0 := by unfold fx_worthStep; rw [if_neg h5, if_pos h9, if_pos h19]
        have hl0 := h9
        rw [hr]
        exact loop_X0_worthWithin l D ad ca g u hI rec k hk q_levels hl0 hrec E 9 q_x 0 0 (xt_in hI h5) (by rw [ti0]; omega) (by rw [ti0]; omega) _ _ ls hS (lv_sub hl [2, 4, 3, 1, 0] rfl)
      · refine lv_aload_n hx hb dX0_worthWithin_22 rfl (lv_at hl 0 rfl) ?_
        refine lv_iload_n hx hb dX0_worthWithin_23 rfl (lv_at hl 1 rfl) ?_
        refine EnX.calll (r := fx_worthOfPiece u q_x) (u2 := u) E hS [.int q_x] [] (kX0_worthOfPiece l D ad ca g u q_x (by first | with_reducible assumption | (refine hqr ?_; with_reducible assumption) | (refine xt_in hI ?_; with_reducible assumption) | (refine xn_in hI ?_ ?_ <;> with_reducible assumption) | with_reducible exact xb_in hI _)) gc_X0_154 hd_X0_worthOfPiece ⟨show 1 + 1 ≤ k + 1 by omega, show 8 + (4 + 11) + 64 * 1 ≤ 64 * (k + 1) by omega⟩ rfl hl.1 (Nat.le_of_ble_eq_true rfl) ⟨Nat.le_refl 0, Nat.le_refl 0⟩ dX0_worthWithin_24 (fun H locs hS => ?_)
        exact EnX.lret E hS (congrArg (fun z => (z, u)) (show fx_worthOfPiece u q_x = fx_worthStep rec u q_x q_levels by unfold fx_worthStep; rw [if_neg h5, if_pos h9, if_neg h19])) dX0_worthWithin_27
    · refine lv_lconst (v := 0) hx hb dX0_worthWithin_12 (by decide) ?_
      exact EnX.lret E hS (congrArg (fun z => (z, u)) (show (0 : Int64) = fx_worthStep rec u q_x q_levels by unfold fx_worthStep; rw [if_neg h5, if_neg h9])) dX0_worthWithin_13
def fx_worthRec : Nat → XS → Int32 → Int32 → Int64
  | 0, _, _, _ => 0
  | n + 1, u, q_x, q_levels => fx_worthStep (fun y => fx_worthRec n u y (q_levels - 1)) u q_x q_levels
theorem kX0_worthRec (l : Launch) (D : va_G) (ad : Nat → Nat) (ca : Nat → ClassId) (g : Nat) (u : XS) (hI : XI u) : ∀ (n : Nat) (q_x q_levels : Int32), q_levels.toInt < (n : Int) → ClX l yX0_worthWithin cX0_worthWithin 6 (4 + n) D ad ca g [.int q_x, .int q_levels] u (fx_worthRec (n + 1) u q_x q_levels, u) := by
  intro n
  induction n with
  | zero =>
    intro q_x q_levels h
    rw [fx_worthRec]
    refine kX0_worthStep l D ad ca g u q_x q_levels hI _ 3 (by omega) (fun h0 => ?_)
    rw [le_ti, ti0] at h0
    omega
  | succ n ih =>
    intro q_x q_levels h
    rw [fx_worthRec]
    have e : 4 + (n + 1) = (4 + n) + 1 := by omega
    rw [e]
    refine kX0_worthStep l D ad ca g u q_x q_levels hI _ (4 + n) (by omega) (fun h0 y => ih y (q_levels - 1) ?_)
    rw [le_ti, ti0] at h0
    have hq := Int32.toInt_lt q_levels
    rw [ti_sub (by rw [ti1]; omega) (by rw [ti1]; omega), ti1]
    omega
def fx_worthWithin (u : XS) (q_x q_levels : Int32) : Int64 := fx_worthRec 5 u q_x q_levels
theorem kX0_worthWithin (l : Launch) (D : va_G) (ad : Nat → Nat) (ca : Nat → ClassId) (g : Nat) (u : XS) (q_x q_levels : Int32) (hI : XI u) (hlev : q_levels.toInt < 4) : ClX l yX0_worthWithin cX0_worthWithin 6 8 D ad ca g [.int q_x, .int q_levels] u (fx_worthWithin u q_x q_levels, u) := kX0_worthRec l D ad ca g u hI 4 q_x q_levels hlev
theorem hd_X0_frailWithin : yX0_frailWithin.cls = RX0 ∧ yX0_frailWithin.cls ≠ "java/lang/invoke/MethodHandle" ∧ yX0_frailWithin.cls ≠ "java/lang/invoke/VarHandle" ∧ (parseMethodDescriptor yX0_frailWithin.desc).map (fun d => d.parameters.length) = some 2 := by decide +kernel
def fx_frailStep_L (rec : Int32 → Int32) : Nat → XS → Int32 → Int32 → Int32 → Int32
  | 0, u, q_x, v_3, v_4 => 0
  | f_ + 1, u, q_x, v_3, v_4 => (if (x_thingSize u (q_x).toNatClampNeg) ≤ v_4 then v_3 else fx_frailStep_L rec f_ u q_x (v_3 + (rec (fx_thingAt u q_x v_4))) (v_4 + 1))
set_option maxRecDepth 100000 in
set_option maxHeartbeats 4000000 in
theorem loop_X0_frailWithin {p : Program} {e : Env} {s : State} {m : MethodId} {below : List Frame} {meth : Method} {c : Code} {args : Array Value} {A : Nat → Prop} (l : Launch) (D : va_G) (ad : Nat → Nat) (ca : Nat → ClassId) (g : Nat) (u : XS) (hI : XI u) (rec : Int32 → Int32) (k : Nat) (hk : 3 ≤ k) (q_levels : Int32) (hl0 : 0 ≤ q_levels) (hrec : 0 ≤ q_levels → ∀ y : Int32, CiX l yX0_frailWithin cX0_frailWithin 5 .int k D ad ca g [.int y, .int (q_levels - 1)] u (rec y, u)) (E : EnX p s m c args cX0_frailWithin 5 meth (some .int) D ca g A) : ∀ (f_ : Nat) (q_x : Int32) (v_3 : Int32) (v_4 : Int32), vp_in q_x 60 → (0 ≤ v_4.toInt ∧ v_4.toInt ≤ 8) → 8 - v_4.toInt < (f_ : Int) → ∀ (H : Heap) (locs : List Loc) (ls : Array Slot), SX D ad ca A s u H locs → lv_has ls 5 [(0, .ref (ad 0)), (2, .int q_levels), (1, .int q_x), (3, .int v_3), (4, .int v_4)] → W p l e (rk (k + 1)) s m args below meth c H locs 0 0 (MQ below (va_Qi (fun r' v => (r', v) = (fx_frailStep_L rec f_ u q_x v_3 v_4, u)) (BkX D ad ca) A) args s 0 0 A) (F0 m 46 ls []) := by
  have hx := E.1.1
  have hb := E.1.2.1
  have hml := E.1.2.2.1
  have hown := E.1.2.2.2.1
  have hts := E.1.2.2.2.2
  intro f_
  induction f_ with
  | zero =>
    intro q_x v_3 v_4 hqx hi hf H locs ls hS hl
    exfalso
    omega
  | succ f_ ih =>
    intro q_x v_3 v_4 hqx hi hf H locs ls hS hl
    refine lv_iload hx hb dX0_frailWithin_46 (lv_at hl 4 rfl) ?_
    refine lv_aload_n hx hb dX0_frailWithin_48 rfl (lv_at hl 0 rfl) ?_
    refine gX_thingSize E hS dX0_frailWithin_49 ?_
    refine lv_iload_n hx hb dX0_frailWithin_52 rfl (lv_at hl 2 rfl) ?_
    refine lX_thingSize (v := x_thingSize u (q_x).toNatClampNeg) E hS (show vp_in q_x 60 from hqx) rfl dX0_frailWithin_53 ?_
    refine lv_icmp_ge (tgt := 80) hx hb dX0_frailWithin_54 (by decide) (fun h54 => ?_) (fun h54 => ?_)
    · refine lv_iload_n hx hb dX0_frailWithin_80 rfl (lv_at hl 3 rfl) ?_
      exact EnX.iret E hS (ni_i _) (congrArg (fun z => (z, u)) (by rw [fx_frailStep_L, if_pos h54])) dX0_frailWithin_81
    · have gs := hI.2.2 (q_x).toNatClampNeg
      have gc := h54
      rw [le_ti] at gc
      refine lv_iload_n hx hb dX0_frailWithin_57 rfl (lv_at hl 3 rfl) ?_
      refine lv_aload_n hx hb dX0_frailWithin_58 rfl (lv_at hl 0 rfl) ?_
      refine lv_aload_n hx hb dX0_frailWithin_59 rfl (lv_at hl 0 rfl) ?_
      refine lv_iload_n hx hb dX0_frailWithin_60 rfl (lv_at hl 2 rfl) ?_
      refine lv_iload hx hb dX0_frailWithin_61 (lv_at hl 4 rfl) ?_
      refine EnX.calli (r := fx_thingAt u q_x v_4) (u2 := u) E hS [.int q_x, .int v_4] [.ref (ad 0), .int v_3] (kX0_thingAt l D ad ca g u q_x v_4 (pi_in hqx (by omega) (by omega))) gc_X0_92 hd_X0_thingAt ⟨show 2 + 1 ≤ k + 1 by omega, show 8 + (3 + 11) + 64 * 2 ≤ 64 * (k + 1) by omega⟩ rfl hl.1 (Nat.le_of_ble_eq_true rfl) ⟨Nat.le_refl 0, Nat.le_refl 0⟩ dX0_frailWithin_63 (fun H locs hS => ?_)
      refine lv_iload_n hx hb dX0_frailWithin_66 rfl (lv_at hl 1 rfl) ?_
      refine lv_iconst (v := 1) hx hb dX0_frailWithin_67 (by decide) ?_
      refine lv_isub hx hb dX0_frailWithin_68 ?_
      refine EnX.calli (r := rec (fx_thingAt u q_x v_4)) (u2 := u) E hS [.int (fx_thingAt u q_x v_4), .int (q_levels - 1)] [.int v_3] (hrec hl0 (fx_thingAt u q_x v_4)) gc_X0_134 hd_X0_frailWithin ⟨show k + 1 ≤ k + 1 by omega, show 8 + (5 + 11) + 64 * k ≤ 64 * (k + 1) by omega⟩ rfl hl.1 (Nat.le_of_ble_eq_true rfl) ⟨Nat.le_refl 0, Nat.le_refl 0⟩ dX0_frailWithin_69 (fun H locs hS => ?_)
      refine lv_iadd hx hb dX0_frailWithin_72 ?_
      refine lv_istore_n (lv' := [(3, .int (v_3 + (rec (fx_thingAt u q_x v_4)))), (0, .ref (ad 0)), (2, .int q_levels), (1, .int q_x), (4, .int v_4)]) hx hb dX0_frailWithin_73 rfl hl (by decide) rfl (fun ls hl => ?_)
      refine lv_iinc (v := v_4 + 1) (lv' := [(4, .int (v_4 + 1)), (3, .int (v_3 + (rec (fx_thingAt u q_x v_4)))), (0, .ref (ad 0)), (2, .int q_levels), (1, .int q_x)]) hx hb dX0_frailWithin_74 hl (k := 4) rfl rfl (by decide) rfl (fun ls hl => ?_)
      refine lv_goto (tgt := 46) hx hb dX0_frailWithin_77 (by decide) ?_
      have hr : fx_frailStep_L rec (f_ + 1) u q_x v_3 v_4 = fx_frailStep_L rec f_ u q_x (v_3 + (rec (fx_thingAt u q_x v_4))) (v_4 + 1) := by rw [fx_frailStep_L, if_neg h54]
      have e5 : (v_4 + 1).toInt = v_4.toInt + 1 := ti_inc (by omega) (by omega)
      rw [hr]
      exact ih q_x (v_3 + (rec (fx_thingAt u q_x v_4))) (v_4 + 1) hqx (by omega) (by omega) _ _ ls hS (lv_sub hl [2, 3, 4, 1, 0] rfl)
def fx_frailStep (rec : Int32 → Int32) (u : XS) (q_x q_levels : Int32) : Int32 := if (fx_isThing u q_x) = 0 then 0 else (if 0 ≤ q_levels then (if (fx_isPiece u q_x) = 0 then fx_frailStep_L rec 9 u q_x 0 0 else (if (fx_goesFor (x_thingBase u (q_x).toNatClampNeg) 4) = 0 then 0 else 1)) else 0)
set_option maxRecDepth 100000 in
set_option maxHeartbeats 4000000 in
theorem kX0_frailStep (l : Launch) (D : va_G) (ad : Nat → Nat) (ca : Nat → ClassId) (g : Nat) (u : XS) (q_x q_levels : Int32) (hI : XI u) (rec : Int32 → Int32) (k : Nat) (hk : 3 ≤ k) (hrec : 0 ≤ q_levels → ∀ y : Int32, CiX l yX0_frailWithin cX0_frailWithin 5 .int k D ad ca g [.int y, .int (q_levels - 1)] u (rec y, u)) : CiX l yX0_frailWithin cX0_frailWithin 5 .int (k + 1) D ad ca g [.int q_x, .int q_levels] u (fx_frailStep rec u q_x q_levels, u) := by
  refine CiX.of (by decide) rfl (Nat.le_of_ble_eq_true rfl) ?_
  intro p e s m below meth c A ls E hS hl
  have hx := E.1.1
  have hb := E.1.2.1
  have hml := E.1.2.2.1
  have hown := E.1.2.2.2.1
  have hts := E.1.2.2.2.2
  have hl : lv_has ls 5 [(0, .ref (ad 0)), (1, .int q_x), (2, .int q_levels)] := hl
  refine lv_aload_n hx hb dX0_frailWithin_0 rfl (lv_at hl 0 rfl) ?_
  refine lv_iload_n hx hb dX0_frailWithin_1 rfl (lv_at hl 1 rfl) ?_
  refine EnX.calli (r := fx_isThing u q_x) (u2 := u) E hS [.int q_x] [] (kX0_isThing l D ad ca g u q_x ) gc_X0_137 hd_X0_isThing ⟨show 1 + 1 ≤ k + 1 by omega, show 8 + (2 + 11) + 64 * 1 ≤ 64 * (k + 1) by omega⟩ rfl hl.1 (Nat.le_of_ble_eq_true rfl) ⟨Nat.le_refl 0, Nat.le_refl 0⟩ dX0_frailWithin_2 (fun H locs hS => ?_)
  refine lv_if_eq (tgt := 12) hx hb dX0_frailWithin_5 (by decide) (fun h5 => ?_) (fun h5 => ?_)
  · refine lv_iconst (v := 0) hx hb dX0_frailWithin_12 (by decide) ?_
    exact EnX.iret E hS (ni_i _) (congrArg (fun z => (z, u)) (show (0 : Int32) = fx_frailStep rec u q_x q_levels by unfold fx_frailStep; rw [if_pos h5])) dX0_frailWithin_13
  · refine lv_iload_n hx hb dX0_frailWithin_8 rfl (lv_at hl 2 rfl) ?_
    refine lv_if_ge (tgt := 14) hx hb dX0_frailWithin_9 (by decide) (fun h9 => ?_) (fun h9 => ?_)
    · refine lv_aload_n hx hb dX0_frailWithin_14 rfl (lv_at hl 0 rfl) ?_
      refine lv_iload_n hx hb dX0_frailWithin_15 rfl (lv_at hl 1 rfl) ?_
      refine EnX.calli (r := fx_isPiece u q_x) (u2 := u) E hS [.int q_x] [] (kX0_isPiece l D ad ca g u q_x (by first | with_reducible assumption | (refine hqr ?_; with_reducible assumption) | (refine xt_in hI ?_; with_reducible assumption) | (refine xn_in hI ?_ ?_ <;> with_reducible assumption) | with_reducible exact xb_in hI _)) gc_X0_111 hd_X0_isPiece ⟨show 1 + 1 ≤ k + 1 by omega, show 8 + (2 + 11) + 64 * 1 ≤ 64 * (k + 1) by omega⟩ rfl hl.1 (Nat.le_of_ble_eq_true rfl) ⟨Nat.le_refl 0, Nat.le_refl 0⟩ dX0_frailWithin_16 (fun H locs hS => ?_)
      refine lv_if_eq (tgt := 41) hx hb dX0_frailWithin_19 (by decide) (fun h19 => ?_) (fun h19 => ?_)
      · refine lv_iconst (v := 0) hx hb dX0_frailWithin_41 (by decide) ?_
        refine lv_istore_n (lv' := [(3, .int 0), (0, .ref (ad 0)), (1, .int q_x), (2, .int q_levels)]) hx hb dX0_frailWithin_42 rfl hl (by decide) rfl (fun ls hl => ?_)
        refine lv_iconst (v := 0) hx hb dX0_frailWithin_43 (by decide) ?_
        refine lv_istore (lv' := [(4, .int 0), (3, .int 0), (0, .ref (ad 0)), (1, .int q_x), (2, .int q_levels)]) hx hb dX0_frailWithin_44 hl (by decide) rfl (fun ls hl => ?_)
        have hr : fx_frailStep rec u q_x q_levels = fx_frailStep_L rec 9 u q_x 0 0 := by unfold fx_frailStep; rw [if_neg h5, if_pos h9, if_pos h19]
        have hl0 := h9
        rw [hr]
        exact loop_X0_frailWithin l D ad ca g u hI rec k hk q_levels hl0 hrec E 9 q_x 0 0 (xt_in hI h5) (by rw [ti0]; omega) (by rw [ti0]; omega) _ _ ls hS (lv_sub hl [2, 4, 3, 1, 0] rfl)
      · refine lv_aload_n hx hb dX0_frailWithin_22 rfl (lv_at hl 0 rfl) ?_
        refine gX_thingBase E hS dX0_frailWithin_23 ?_
        refine lv_iload_n hx hb dX0_frailWithin_26 rfl (lv_at hl 1 rfl) ?_
        refine lX_thingBase (v := x_thingBase u (q_x).toNatClampNeg) E hS (show vp_in q_x 60 from by first | with_reducible assumption | (refine hqr ?_; with_reducible assumption) | (refine xt_in hI ?_; with_reducible assumption) | (refine xn_in hI ?_ ?_ <;> with_reducible assumption) | with_reducible exact xb_in hI _) rfl dX0_frailWithin_27 ?_
        refine lv_iconst (v := 4) hx hb dX0_frailWithin_28 (by decide) ?_
        refine EnX.sti (r := fx_goesFor (x_thingBase u (q_x).toNatClampNeg) 4) E hS [.int (x_thingBase u (q_x).toNatClampNeg), .int 4] [] (kX0_goesFor l g (x_thingBase u (q_x).toNatClampNeg) 4 (by first | with_reducible assumption | (refine hqr ?_; with_reducible assumption) | (refine xt_in hI ?_; with_reducible assumption) | (refine xn_in hI ?_ ?_ <;> with_reducible assumption) | with_reducible exact xb_in hI _)) (fun _ U _ _ h => zX.moved (Vm.Alike.refl U.vm) h) (fun _ hU hvm => zX_at E hS (fun _ h => h.elim) hU hvm) gc_X0_143 hd_X0_goesFor ⟨show 1 + 1 ≤ k + 1 by omega, show 8 + (2 + 11) + 64 * 1 ≤ 64 * (k + 1) by omega⟩ rfl hl.1 (Nat.le_of_ble_eq_true rfl) ⟨Nat.le_refl 0, Nat.le_refl 0⟩ dX0_frailWithin_29 (fun H locs hS => ?_)
        refine lv_if_eq (tgt := 39) hx hb dX0_frailWithin_32 (by decide) (fun h32 => ?_) (fun h32 => ?_)
        · refine lv_iconst (v := 0) hx hb dX0_frailWithin_39 (by decide) ?_
          exact EnX.iret E hS (ni_i _) (congrArg (fun z => (z, u)) (show (0 : Int32) = fx_frailStep rec u q_x q_levels by unfold fx_frailStep; rw [if_neg h5, if_pos h9, if_neg h19, if_pos h32])) dX0_frailWithin_40
        · refine lv_iconst (v := 1) hx hb dX0_frailWithin_35 (by decide) ?_
          refine lv_goto (tgt := 40) hx hb dX0_frailWithin_36 (by decide) ?_
          exact EnX.iret E hS (ni_i _) (congrArg (fun z => (z, u)) (show (1 : Int32) = fx_frailStep rec u q_x q_levels by unfold fx_frailStep; rw [if_neg h5, if_pos h9, if_neg h19, if_neg h32])) dX0_frailWithin_40
    · refine lv_iconst (v := 0) hx hb dX0_frailWithin_12 (by decide) ?_
      exact EnX.iret E hS (ni_i _) (congrArg (fun z => (z, u)) (show (0 : Int32) = fx_frailStep rec u q_x q_levels by unfold fx_frailStep; rw [if_neg h5, if_neg h9])) dX0_frailWithin_13
def fx_frailRec : Nat → XS → Int32 → Int32 → Int32
  | 0, _, _, _ => 0
  | n + 1, u, q_x, q_levels => fx_frailStep (fun y => fx_frailRec n u y (q_levels - 1)) u q_x q_levels
theorem kX0_frailRec (l : Launch) (D : va_G) (ad : Nat → Nat) (ca : Nat → ClassId) (g : Nat) (u : XS) (hI : XI u) : ∀ (n : Nat) (q_x q_levels : Int32), q_levels.toInt < (n : Int) → CiX l yX0_frailWithin cX0_frailWithin 5 .int (4 + n) D ad ca g [.int q_x, .int q_levels] u (fx_frailRec (n + 1) u q_x q_levels, u) := by
  intro n
  induction n with
  | zero =>
    intro q_x q_levels h
    rw [fx_frailRec]
    refine kX0_frailStep l D ad ca g u q_x q_levels hI _ 3 (by omega) (fun h0 => ?_)
    rw [le_ti, ti0] at h0
    omega
  | succ n ih =>
    intro q_x q_levels h
    rw [fx_frailRec]
    have e : 4 + (n + 1) = (4 + n) + 1 := by omega
    rw [e]
    refine kX0_frailStep l D ad ca g u q_x q_levels hI _ (4 + n) (by omega) (fun h0 y => ih y (q_levels - 1) ?_)
    rw [le_ti, ti0] at h0
    have hq := Int32.toInt_lt q_levels
    rw [ti_sub (by rw [ti1]; omega) (by rw [ti1]; omega), ti1]
    omega
def fx_frailWithin (u : XS) (q_x q_levels : Int32) : Int32 := fx_frailRec 5 u q_x q_levels
theorem kX0_frailWithin (l : Launch) (D : va_G) (ad : Nat → Nat) (ca : Nat → ClassId) (g : Nat) (u : XS) (q_x q_levels : Int32) (hI : XI u) (hlev : q_levels.toInt < 4) : CiX l yX0_frailWithin cX0_frailWithin 5 .int 8 D ad ca g [.int q_x, .int q_levels] u (fx_frailWithin u q_x q_levels, u) := kX0_frailRec l D ad ca g u hI 4 q_x q_levels hlev
end
section
/-! DepotTrays: the public methods -/
theorem at_1 {u : XS} {b d n : Int32} : (fx_addThing u b d n).1 = x_thingCount u := rfl
theorem ti60 : (60 : Int32).toInt = 60 := by decide
theorem xr_n {u : XS} {k : Int32} (hI : XI u) (hk : 0 ≤ k.toInt ∧ k.toInt ≤ 100) (h : ¬ fx_hasRoomFor u k = 0) : (x_thingCount u).toInt + k.toInt ≤ 60 := by
  have h1 := hI.1
  unfold fx_hasRoomFor at h
  by_cases h2 : 60 < x_thingCount u + k
  · rw [if_pos h2] at h; exact absurd rfl h
  · rw [lt_ti, ti_add (by omega) (by omega), ti60] at h2; omega
theorem xr_in {u : XS} (hI : XI u) (h : ¬ fx_hasRoomFor u 1 = 0) : vp_in (x_thingCount u) 60 := by
  have h1 := hI.1
  have h2 := xr_n hI (by rw [ti1]; omega) h
  rw [ti1] at h2
  rw [vp_in_iff]; omega
theorem xd_in {k : Int32} (h : ¬ fx_isDoor k = 0) : vp_in k 8 := by
  unfold fx_isDoor at h
  by_cases h1 : k < 0
  · rw [if_pos h1] at h; exact absurd rfl h
  by_cases h2 : 8 ≤ k
  · rw [if_neg h1, if_pos h2] at h; exact absurd rfl h
  rw [lt_ti, ti0] at h1
  rw [le_ti, ti8] at h2
  rw [vp_in_iff]; omega
theorem xp_i {u : XS} {r i : Int32} (hI : XI u) (h : ¬ fx_hasPlace u r i = 0) : 0 ≤ i.toInt ∧ i.toInt < (x_thingSize u r.toNatClampNeg).toInt ∧ i.toInt < 8 := by
  unfold fx_hasPlace at h
  have h3 := hI.2.2 r.toNatClampNeg
  by_cases h1 : i < 0
  · rw [if_pos h1] at h; exact absurd rfl h
  by_cases h2 : x_thingSize u r.toNatClampNeg ≤ i
  · rw [if_neg h1, if_pos h2] at h; exact absurd rfl h
  rw [lt_ti, ti0] at h1
  rw [le_ti] at h2
  omega
theorem xp_in {u : XS} {r i : Int32} (hI : XI u) (hr : vp_in r 60) (h : ¬ fx_hasPlace u r i = 0) : vp_in (fx_placeIndex r i) 480 := by
  have h1 := xp_i hI h
  exact pi_in hr (by omega) (by omega)
theorem xl_0 {u : XS} {r i : Int32} (h : fx_ledgerFailure u r i = 0) : ¬ r = (-1) ∧ ¬ fx_isLedger u r = 0 ∧ ¬ fx_hasPlace u r i = 0 := by
  unfold fx_ledgerFailure at h
  by_cases h1 : r = (-1)
  · rw [if_pos h1] at h; exact absurd h (by decide)
  by_cases h2 : fx_isLedger u r = 0
  · rw [if_neg h1, if_pos h2] at h; exact absurd h (by decide)
  by_cases h3 : fx_hasPlace u r i = 0
  · rw [if_neg h1, if_neg h2, if_pos h3] at h; exact absurd h (by decide)
  exact ⟨h1, h2, h3⟩
theorem xl_in {u : XS} {r i : Int32} (hI : XI u) (h0 : ¬ fx_isThingOrNone u r = 0) (h : fx_ledgerFailure u r i = 0) : vp_in (fx_placeIndex r i) 480 := by
  obtain ⟨h1, h2, h3⟩ := xl_0 h
  exact xp_in hI (xn_in hI h0 h1) h3
theorem xps {u : XS} {r i n : Int32} (hI : XI u) (h : ¬ fx_hasPlaces u r i n = 0) : 0 ≤ i.toInt ∧ 0 ≤ n.toInt ∧ i.toInt + n.toInt ≤ (x_thingSize u r.toNatClampNeg).toInt ∧ i.toInt + n.toInt ≤ 8 := by
  unfold fx_hasPlaces at h
  have h3 := hI.2.2 r.toNatClampNeg
  by_cases h1 : i < 0
  · rw [if_pos h1] at h; exact absurd rfl h
  by_cases h2 : n < 0
  · rw [if_neg h1, if_pos h2] at h; exact absurd rfl h
  by_cases h4 : x_thingSize u r.toNatClampNeg - n < i
  · rw [if_neg h1, if_neg h2, if_pos h4] at h; exact absurd rfl h
  have hb := Int32.toInt_lt n
  rw [lt_ti, ti0] at h1 h2
  rw [lt_ti, ti_sub (by omega) (by omega)] at h4
  omega
theorem ar_eta (u : XS) : xs_places u (x_places u) = u := rfl
theorem ar_pp (u : XS) (f g : Nat → Int64) : xs_places (xs_places u f) g = xs_places u g := rfl
theorem pi_cl {r i : Int32} (hr : vp_in r 60) (h0 : 0 ≤ i.toInt) (h8 : i.toInt ≤ 8) : (fx_placeIndex r i).toNatClampNeg = 8 * r.toNatClampNeg + i.toNatClampNeg := by
  have h := pi_ti hr h0 h8
  rw [vp_in_iff] at hr
  have e1 := cl_ti (a := fx_placeIndex r i) (by omega)
  have e2 := cl_ti (a := r) (by omega)
  have e3 := cl_ti (a := i) (by omega)
  omega
def rowFill (f : Nat → Int64) (a b : Nat) (e : Int64) : Nat → Int64 := fun q => if a ≤ q ∧ q < b then e else f q
theorem arL : ∀ (f : Nat) (w : XS) (b d n r : Int32) (e : Int64) (i : Int32), vp_in r 60 → 0 ≤ n.toInt ∧ n.toInt ≤ 8 → 0 ≤ i.toInt ∧ i.toInt ≤ n.toInt → n.toInt - i.toInt < (f : Int) →
    fx_addRow_L f w b d n r e i = (r, xs_places w (rowFill (x_places w) (8 * r.toNatClampNeg + i.toNatClampNeg) (8 * r.toNatClampNeg + n.toNatClampNeg) e)) := by
  intro f
  induction f with
  | zero => intro w b d n r e i hr hn hi hf; exfalso; omega
  | succ f ih =>
    intro w b d n r e i hr hn hi hf
    rw [fx_addRow_L]
    by_cases h : n ≤ i
    · rw [if_pos h]
      rw [le_ti] at h
      have e2 := cl_ti (a := n) (by omega)
      have e3 := cl_ti (a := i) (by omega)
      have e4 : rowFill (x_places w) (8 * r.toNatClampNeg + i.toNatClampNeg) (8 * r.toNatClampNeg + n.toNatClampNeg) e = x_places w := by
        funext q
        unfold rowFill
        rw [if_neg (by omega)]
      rw [e4, ar_eta]
    · rw [if_neg h]
      rw [le_ti] at h
      have e7 : (i + 1).toInt = i.toInt + 1 := ti_inc (by omega) (by omega)
      rw [ih _ b d n r e (i + 1) hr hn (by omega) (by omega), ar_pp]
      have e1 := pi_cl hr (i := i) (by omega) (by omega)
      have e2 := cl_ti (a := n) (by omega)
      have e3 := cl_ti (a := i) (by omega)
      have e5 := cl_ti (a := i + 1) (by omega)
      have e4 : rowFill (x_places (xs_places w (vp_updL (x_places w) (fx_placeIndex r i).toNatClampNeg e))) (8 * r.toNatClampNeg + (i + 1).toNatClampNeg) (8 * r.toNatClampNeg + n.toNatClampNeg) e = rowFill (x_places w) (8 * r.toNatClampNeg + i.toNatClampNeg) (8 * r.toNatClampNeg + n.toNatClampNeg) e := by
        funext q
        rw [x_places_places]
        unfold rowFill vp_updL
        rw [e1]
        by_cases q1 : q = 8 * r.toNatClampNeg + i.toNatClampNeg
        · rw [if_neg (by omega), if_pos q1, if_pos (by omega)]
        · by_cases q2 : 8 * r.toNatClampNeg + i.toNatClampNeg ≤ q ∧ q < 8 * r.toNatClampNeg + n.toNatClampNeg
          · rw [if_pos (by omega), if_pos q2]
          · rw [if_neg (by omega), if_neg q1, if_neg q2]
      rw [e4]
/-- addRow, in one step -/
theorem ar_eq {u : XS} {b d n : Int32} (htc : vp_in (x_thingCount u) 60) (hn : 0 ≤ n.toInt ∧ n.toInt ≤ 8) : fx_addRow u b d n = (x_thingCount u, xs_places (fx_addThing u b d n).2 (rowFill (x_places u) (8 * (x_thingCount u).toNatClampNeg) (8 * (x_thingCount u).toNatClampNeg + n.toNatClampNeg) (if fx_isLedger (fx_addThing u b d n).2 (x_thingCount u) = 0 then -1 else 0))) := by
  have e1 : (fx_addThing u b d n).1 = x_thingCount u := rfl
  have e2 : x_places (fx_addThing u b d n).2 = x_places u := rfl
  have e0 : (0 : Int32).toNatClampNeg = 0 := by decide
  have k1 := arL 9 (fx_addThing u b d n).2 b d n (x_thingCount u) (-1) 0 htc hn (by rw [ti0]; omega) (by rw [ti0]; omega)
  have k2 := arL 9 (fx_addThing u b d n).2 b d n (x_thingCount u) 0 0 htc hn (by rw [ti0]; omega) (by rw [ti0]; omega)
  rw [e0, Nat.add_zero, e2] at k1 k2
  unfold fx_addRow
  rw [e1]
  by_cases h : fx_isLedger (fx_addThing u b d n).2 (x_thingCount u) = 0
  · rw [if_pos h, if_pos h, k1]
  · rw [if_neg h, if_neg h, k2]
theorem cg_b {u : XS} {r i s n : Int32} : ∀ (f : Nat) (v : Int32), 0 ≤ v.toInt ∧ v.toInt ≤ n.toInt → 0 ≤ n.toInt ∧ n.toInt ≤ 8 → 0 ≤ (fx_countGoing_L f u r i s n v).toInt ∧ (fx_countGoing_L f u r i s n v).toInt ≤ n.toInt := by
  intro f
  induction f with
  | zero => intro v hv hn; rw [fx_countGoing_L, ti0]; omega
  | succ f ih =>
    intro v hv hn
    rw [fx_countGoing_L]
    by_cases h : n ≤ v
    · rw [if_pos h]; exact hv
    rw [if_neg h]
    rw [le_ti] at h
    by_cases h2 : fx_goesInto u (fx_thingAt u r (i + v)) s = 0
    · rw [if_pos h2]; exact hv
    rw [if_neg h2]
    have e7 : (v + 1).toInt = v.toInt + 1 := ti_inc (by omega) (by omega)
    exact ih (v + 1) (by omega) hn
theorem cg_r {u : XS} {r i s n : Int32} (hn : 0 ≤ n.toInt ∧ n.toInt ≤ 8) : 0 ≤ (fx_countGoing u r i s n).toInt ∧ (fx_countGoing u r i s n).toInt ≤ n.toInt := cg_b 9 0 (by rw [ti0]; omega) hn
theorem mv_1 {r i : Int32} (hr : vp_in r 60) (h0 : 0 ≤ i.toInt) (h8 : i.toInt ≤ 8) : ¬ fx_placeIndex r i < 0 := by
  have h := pi_ti hr h0 h8
  rw [vp_in_iff] at hr
  rw [lt_ti, ti0]; omega
theorem mv_4 {r i n : Int32} (hr : vp_in r 60) (h0 : 0 ≤ i.toInt) (hn : 0 ≤ n.toInt) (h8 : i.toInt + n.toInt ≤ 8) : (fx_placeIndex r i).toNatClampNeg + n.toNatClampNeg ≤ 480 := by
  have h := pi_ti hr h0 (by omega)
  rw [vp_in_iff] at hr
  have e1 := cl_ti (a := fx_placeIndex r i) (by omega)
  have e3 := cl_ti (a := n) (by omega)
  omega
theorem mv_3 {n : Int32} (hn : 0 ≤ n.toInt) : ¬ n < 0 := by rw [lt_ti, ti0]; omega
theorem at_sz {u : XS} {b d n : Int32} (hI : XI u) (hn : 0 ≤ n.toInt ∧ n.toInt ≤ 8) (i : Nat) : 0 ≤ (x_thingSize (fx_addThing u b d n).2 i).toInt ∧ (x_thingSize (fx_addThing u b d n).2 i).toInt ≤ 8 := by
  show 0 ≤ (upd (x_thingSize u) (x_thingCount u).toNatClampNeg n i).toInt ∧ (upd (x_thingSize u) (x_thingCount u).toNatClampNeg n i).toInt ≤ 8
  unfold upd
  by_cases h : i = (x_thingCount u).toNatClampNeg
  · rw [if_pos h]; exact hn
  · rw [if_neg h]; exact hI.2.2 i
theorem xk8 {k : Int32} (h : vp_in k 8) : (8 - k : Int32).toInt = 8 - k.toInt := by
  rw [vp_in_iff] at h
  rw [ti_sub (by rw [ti8]; omega) (by rw [ti8]; omega), ti8]
def fx_piece (u : XS) (q_base : Int32) (q_worth : Int32) : Int32 × XS := if q_base < 0 then ((-2), u) else (if q_base ≤ 3 then (if (fx_hasRoomFor u 1) = 0 then ((-3), u) else ((fx_addThing u q_base 0 0).1, xs_pieceWorth ((fx_addThing u q_base 0 0).2) (upd (x_pieceWorth ((fx_addThing u q_base 0 0).2)) ((fx_addThing u q_base 0 0).1).toNatClampNeg q_worth))) else ((-2), u))
theorem hd_X0_piece : yX0_piece.cls = RX0 ∧ yX0_piece.cls ≠ "java/lang/invoke/MethodHandle" ∧ yX0_piece.cls ≠ "java/lang/invoke/VarHandle" ∧ (parseMethodDescriptor yX0_piece.desc).map (fun d => d.parameters.length) = some 2 := by decide +kernel
set_option maxRecDepth 100000 in
set_option maxHeartbeats 4000000 in
theorem kX0_piece (l : Launch) (D : va_G) (ad : Nat → Nat) (ca : Nat → ClassId) (g : Nat) (u : XS) (q_base : Int32) (q_worth : Int32) (hI : XI u) : CiX l yX0_piece cX0_piece 4 .int 2 D ad ca g [.int q_base, .int q_worth] u (fx_piece u q_base q_worth) := by
  refine CiX.of (by decide) rfl (Nat.le_of_ble_eq_true rfl) ?_
  intro p e s m below meth c A ls E hS hl
  have hx := E.1.1
  have hb := E.1.2.1
  have hml := E.1.2.2.1
  have hown := E.1.2.2.2.1
  have hts := E.1.2.2.2.2
  have hl : lv_has ls 4 [(0, .ref (ad 0)), (1, .int q_base), (2, .int q_worth)] := hl
  refine lv_iload_n hx hb dX0_piece_0 rfl (lv_at hl 1 rfl) ?_
  refine lv_if_lt (tgt := 9) hx hb dX0_piece_1 (by decide) (fun h1 => ?_) (fun h1 => ?_)
  · refine lv_bipush (v := (-2)) hx hb dX0_piece_9 (by decide) ?_
    exact EnX.iret E hS (ni_i _) (by first | (simp only [fx_piece, if_pos h1]; done) | (unfold fx_piece; rw [if_pos h1])) dX0_piece_11
  · refine lv_iload_n hx hb dX0_piece_4 rfl (lv_at hl 1 rfl) ?_
    refine lv_iconst (v := 3) hx hb dX0_piece_5 (by decide) ?_
    refine lv_icmp_le (tgt := 12) hx hb dX0_piece_6 (by decide) (fun h6 => ?_) (fun h6 => ?_)
    · refine lv_aload_n hx hb dX0_piece_12 rfl (lv_at hl 0 rfl) ?_
      refine lv_iconst (v := 1) hx hb dX0_piece_13 (by decide) ?_
      refine EnX.calli (r := fx_hasRoomFor u 1) (u2 := u) E hS [.int 1] [] (kX0_hasRoomFor l D ad ca g u 1 ) gc_X0_45 hd_X0_hasRoomFor ⟨Nat.le_of_ble_eq_true rfl, Nat.le_of_ble_eq_true rfl⟩ rfl hl.1 (Nat.le_of_ble_eq_true rfl) ⟨Nat.le_refl 0, Nat.le_refl 0⟩ dX0_piece_14 (fun H locs hS => ?_)
      refine lv_if_ne (tgt := 23) hx hb dX0_piece_17 (by decide) (fun h17 => ?_) (fun h17 => ?_)
      · refine lv_aload_n hx hb dX0_piece_23 rfl (lv_at hl 0 rfl) ?_
        refine lv_iload_n hx hb dX0_piece_24 rfl (lv_at hl 1 rfl) ?_
        refine lv_iconst (v := 0) hx hb dX0_piece_25 (by decide) ?_
        refine lv_iconst (v := 0) hx hb dX0_piece_26 (by decide) ?_
        refine EnX.calli (r := (fx_addThing u q_base 0 0).1) (u2 := (fx_addThing u q_base 0 0).2) E hS [.int q_base, .int 0, .int 0] [] (kX0_addThing l D ad ca g u q_base 0 0 (by first | with_reducible assumption | (refine xt_in hI ?_; with_reducible assumption) | (refine xn_in hI ?_ ?_ <;> with_reducible assumption) | with_reducible exact xb_in hI _ | (refine xr_in hI ?_; with_reducible assumption) | (refine xd_in ?_; with_reducible assumption))) gc_X0_49 hd_X0_addThing ⟨Nat.le_of_ble_eq_true rfl, Nat.le_of_ble_eq_true rfl⟩ rfl hl.1 (Nat.le_of_ble_eq_true rfl) ⟨Nat.le_refl 0, Nat.le_refl 0⟩ dX0_piece_27 (fun H locs hS => ?_)
        refine lv_istore_n (lv' := [(3, .int ((fx_addThing u q_base 0 0).1)), (0, .ref (ad 0)), (1, .int q_base), (2, .int q_worth)]) hx hb dX0_piece_30 rfl hl (by decide) rfl (fun ls hl => ?_)
        refine lv_aload_n hx hb dX0_piece_31 rfl (lv_at hl 1 rfl) ?_
        refine gX_pieceWorth E hS dX0_piece_32 ?_
        refine lv_iload_n hx hb dX0_piece_35 rfl (lv_at hl 0 rfl) ?_
        refine lv_iload_n hx hb dX0_piece_36 rfl (lv_at hl 3 rfl) ?_
        refine sX_pieceWorth E hS (show vp_in ((fx_addThing u q_base 0 0).1) 60 from (by rw [at_1]; exact xr_in hI h17)) dX0_piece_37 (fun H locs hS => ?_)
        have hS : SX D ad ca A s (xs_pieceWorth ((fx_addThing u q_base 0 0).2) (upd (x_pieceWorth ((fx_addThing u q_base 0 0).2)) ((fx_addThing u q_base 0 0).1).toNatClampNeg q_worth)) H locs := hS
        refine lv_iload_n hx hb dX0_piece_38 rfl (lv_at hl 0 rfl) ?_
        exact EnX.iret E hS (ni_i _) (by first | (simp only [fx_piece, if_neg h1, if_pos h6, if_neg h17]; done) | (unfold fx_piece; rw [if_neg h1, if_pos h6, if_neg h17])) dX0_piece_39
      · refine lv_bipush (v := (-3)) hx hb dX0_piece_20 (by decide) ?_
        exact EnX.iret E hS (ni_i _) (by first | (simp only [fx_piece, if_neg h1, if_pos h6, if_pos h17]; done) | (unfold fx_piece; rw [if_neg h1, if_pos h6, if_pos h17])) dX0_piece_22
    · refine lv_bipush (v := (-2)) hx hb dX0_piece_9 (by decide) ?_
      exact EnX.iret E hS (ni_i _) (by first | (simp only [fx_piece, if_neg h1, if_neg h6]; done) | (unfold fx_piece; rw [if_neg h1, if_neg h6])) dX0_piece_11
def fx_row (u : XS) (q_base : Int32) (q_depth : Int32) (q_n : Int32) : Int32 × XS := if (fx_isKind q_base q_depth) = 0 then ((-2), u) else (if q_depth < 1 then ((-2), u) else (if q_n ≤ 8 then (if (fx_hasRoomFor u 1) = 0 then ((-3), u) else (if 0 ≤ q_n then ((fx_addRow u q_base q_depth q_n).1, (fx_addRow u q_base q_depth q_n).2) else ((fx_fail u 5).1, (fx_fail u 5).2))) else ((-2), u)))
theorem hd_X0_row : yX0_row.cls = RX0 ∧ yX0_row.cls ≠ "java/lang/invoke/MethodHandle" ∧ yX0_row.cls ≠ "java/lang/invoke/VarHandle" ∧ (parseMethodDescriptor yX0_row.desc).map (fun d => d.parameters.length) = some 3 := by decide +kernel
set_option maxRecDepth 100000 in
set_option maxHeartbeats 4000000 in
theorem kX0_row (l : Launch) (D : va_G) (ad : Nat → Nat) (ca : Nat → ClassId) (g : Nat) (u : XS) (q_base : Int32) (q_depth : Int32) (q_n : Int32) (hI : XI u) : CiX l yX0_row cX0_row 4 .int 4 D ad ca g [.int q_base, .int q_depth, .int q_n] u (fx_row u q_base q_depth q_n) := by
  refine CiX.of (by decide) rfl (Nat.le_of_ble_eq_true rfl) ?_
  intro p e s m below meth c A ls E hS hl
  have hx := E.1.1
  have hb := E.1.2.1
  have hml := E.1.2.2.1
  have hown := E.1.2.2.2.1
  have hts := E.1.2.2.2.2
  have hl : lv_has ls 4 [(0, .ref (ad 0)), (1, .int q_base), (2, .int q_depth), (3, .int q_n)] := hl
  refine lv_iload_n hx hb dX0_row_0 rfl (lv_at hl 1 rfl) ?_
  refine lv_iload_n hx hb dX0_row_1 rfl (lv_at hl 2 rfl) ?_
  refine EnX.sti (r := fx_isKind q_base q_depth) E hS [.int q_base, .int q_depth] [] (kX0_isKind l q_base q_depth ) (fun _ _ _ _ h => h) (fun _ _ _ => trivial) gc_X0_53 hd_X0_isKind ⟨Nat.le_of_ble_eq_true rfl, Nat.le_of_ble_eq_true rfl⟩ rfl hl.1 (Nat.le_of_ble_eq_true rfl) ⟨Nat.le_refl 0, Nat.le_refl 0⟩ dX0_row_2 (fun H locs hS => ?_)
  refine lv_if_eq (tgt := 19) hx hb dX0_row_5 (by decide) (fun h5 => ?_) (fun h5 => ?_)
  · refine lv_bipush (v := (-2)) hx hb dX0_row_19 (by decide) ?_
    exact EnX.iret E hS (ni_i _) (by first | (simp only [fx_row, if_pos h5]; done) | (unfold fx_row; rw [if_pos h5])) dX0_row_21
  · refine lv_iload_n hx hb dX0_row_8 rfl (lv_at hl 2 rfl) ?_
    refine lv_iconst (v := 1) hx hb dX0_row_9 (by decide) ?_
    refine lv_icmp_lt (tgt := 19) hx hb dX0_row_10 (by decide) (fun h10 => ?_) (fun h10 => ?_)
    · refine lv_bipush (v := (-2)) hx hb dX0_row_19 (by decide) ?_
      exact EnX.iret E hS (ni_i _) (by first | (simp only [fx_row, if_neg h5, if_pos h10]; done) | (unfold fx_row; rw [if_neg h5, if_pos h10])) dX0_row_21
    · refine lv_iload_n hx hb dX0_row_13 rfl (lv_at hl 3 rfl) ?_
      refine lv_bipush (v := 8) hx hb dX0_row_14 (by decide) ?_
      refine lv_icmp_le (tgt := 22) hx hb dX0_row_16 (by decide) (fun h16 => ?_) (fun h16 => ?_)
      · refine lv_aload_n hx hb dX0_row_22 rfl (lv_at hl 0 rfl) ?_
        refine lv_iconst (v := 1) hx hb dX0_row_23 (by decide) ?_
        refine EnX.calli (r := fx_hasRoomFor u 1) (u2 := u) E hS [.int 1] [] (kX0_hasRoomFor l D ad ca g u 1 ) gc_X0_45 hd_X0_hasRoomFor ⟨Nat.le_of_ble_eq_true rfl, Nat.le_of_ble_eq_true rfl⟩ rfl hl.1 (Nat.le_of_ble_eq_true rfl) ⟨Nat.le_refl 0, Nat.le_refl 0⟩ dX0_row_24 (fun H locs hS => ?_)
        refine lv_if_ne (tgt := 33) hx hb dX0_row_27 (by decide) (fun h27 => ?_) (fun h27 => ?_)
        · refine lv_iload_n hx hb dX0_row_33 rfl (lv_at hl 3 rfl) ?_
          refine lv_if_ge (tgt := 43) hx hb dX0_row_34 (by decide) (fun h34 => ?_) (fun h34 => ?_)
          · refine lv_aload_n hx hb dX0_row_43 rfl (lv_at hl 0 rfl) ?_
            refine lv_iload_n hx hb dX0_row_44 rfl (lv_at hl 1 rfl) ?_
            refine lv_iload_n hx hb dX0_row_45 rfl (lv_at hl 2 rfl) ?_
            refine lv_iload_n hx hb dX0_row_46 rfl (lv_at hl 3 rfl) ?_
            refine EnX.calli (r := (fx_addRow u q_base q_depth q_n).1) (u2 := (fx_addRow u q_base q_depth q_n).2) E hS [.int q_base, .int q_depth, .int q_n] [] (kX0_addRow l D ad ca g u q_base q_depth q_n (xr_in hI h27) (by rw [le_ti] at h16; rw [le_ti, ti0] at h34; rw [ti8] at h16; omega)) gc_X0_61 hd_X0_addRow ⟨Nat.le_of_ble_eq_true rfl, Nat.le_of_ble_eq_true rfl⟩ rfl hl.1 (Nat.le_of_ble_eq_true rfl) ⟨Nat.le_refl 0, Nat.le_refl 0⟩ dX0_row_47 (fun H locs hS => ?_)
            exact EnX.iret E hS (ni_i _) (by first | (simp only [fx_row, if_neg h5, if_neg h10, if_pos h16, if_neg h27, if_pos h34]; done) | (unfold fx_row; rw [if_neg h5, if_neg h10, if_pos h16, if_neg h27, if_pos h34])) dX0_row_50
          · refine lv_aload_n hx hb dX0_row_37 rfl (lv_at hl 0 rfl) ?_
            refine lv_iconst (v := 5) hx hb dX0_row_38 (by decide) ?_
            refine EnX.calli (r := (fx_fail u 5).1) (u2 := (fx_fail u 5).2) E hS [.int 5] [] (kX0_fail l D ad ca g u 5 ) gc_X0_57 hd_X0_fail ⟨Nat.le_of_ble_eq_true rfl, Nat.le_of_ble_eq_true rfl⟩ rfl hl.1 (Nat.le_of_ble_eq_true rfl) ⟨Nat.le_refl 0, Nat.le_refl 0⟩ dX0_row_39 (fun H locs hS => ?_)
            exact EnX.iret E hS (ni_i _) (by first | (simp only [fx_row, if_neg h5, if_neg h10, if_pos h16, if_neg h27, if_neg h34]; done) | (unfold fx_row; rw [if_neg h5, if_neg h10, if_pos h16, if_neg h27, if_neg h34])) dX0_row_42
        · refine lv_bipush (v := (-3)) hx hb dX0_row_30 (by decide) ?_
          exact EnX.iret E hS (ni_i _) (by first | (simp only [fx_row, if_neg h5, if_neg h10, if_pos h16, if_pos h27]; done) | (unfold fx_row; rw [if_neg h5, if_neg h10, if_pos h16, if_pos h27])) dX0_row_32
      · refine lv_bipush (v := (-2)) hx hb dX0_row_19 (by decide) ?_
        exact EnX.iret E hS (ni_i _) (by first | (simp only [fx_row, if_neg h5, if_neg h10, if_neg h16]; done) | (unfold fx_row; rw [if_neg h5, if_neg h10, if_neg h16])) dX0_row_21
def fx_put (u : XS) (q_r : Int32) (q_i : Int32) (q_x : Int32) : Int32 × XS := if (fx_isThingOrNone u q_r) = 0 then ((-2), u) else (if (fx_isThingOrNone u q_x) = 0 then ((-2), u) else (if q_r = (-1) then (if (fx_mayPass u q_x 0 0) = 0 then ((fx_fail u 2).1, (fx_fail u 2).2) else ((fx_fail u 1).1, (fx_fail u 1).2)) else (if (fx_holdsThings u q_r) = 0 then ((fx_fail u 2).1, (fx_fail u 2).2) else (if (fx_mayPass u q_x (fx_widestBase u q_r) ((x_thingDepth u (q_r).toNatClampNeg) - 1)) = 0 then ((fx_fail u 2).1, (fx_fail u 2).2) else (if (fx_hasPlace u q_r q_i) = 0 then ((fx_fail u 3).1, (fx_fail u 3).2) else (if (fx_goesInto u q_x q_r) = 0 then ((fx_fail u 4).1, (fx_fail u 4).2) else (1, xs_places u (vp_updL (x_places u) (fx_placeIndex q_r q_i).toNatClampNeg (Int32.toInt64 q_x)))))))))
theorem hd_X0_put : yX0_put.cls = RX0 ∧ yX0_put.cls ≠ "java/lang/invoke/MethodHandle" ∧ yX0_put.cls ≠ "java/lang/invoke/VarHandle" ∧ (parseMethodDescriptor yX0_put.desc).map (fun d => d.parameters.length) = some 3 := by decide +kernel
set_option maxRecDepth 100000 in
set_option maxHeartbeats 4000000 in
theorem kX0_put (l : Launch) (D : va_G) (ad : Nat → Nat) (ca : Nat → ClassId) (g : Nat) (u : XS) (q_r : Int32) (q_i : Int32) (q_x : Int32) (hI : XI u) : CiX l yX0_put cX0_put 4 .int 5 D ad ca g [.int q_r, .int q_i, .int q_x] u (fx_put u q_r q_i q_x) := by
  refine CiX.of (by decide) rfl (Nat.le_of_ble_eq_true rfl) ?_
  intro p e s m below meth c A ls E hS hl
  have hx := E.1.1
  have hb := E.1.2.1
  have hml := E.1.2.2.1
  have hown := E.1.2.2.2.1
  have hts := E.1.2.2.2.2
  have hl : lv_has ls 4 [(0, .ref (ad 0)), (1, .int q_r), (2, .int q_i), (3, .int q_x)] := hl
  refine lv_aload_n hx hb dX0_put_0 rfl (lv_at hl 0 rfl) ?_
  refine lv_iload_n hx hb dX0_put_1 rfl (lv_at hl 1 rfl) ?_
  refine EnX.calli (r := fx_isThingOrNone u q_r) (u2 := u) E hS [.int q_r] [] (kX0_isThingOrNone l D ad ca g u q_r ) gc_X0_73 hd_X0_isThingOrNone ⟨Nat.le_of_ble_eq_true rfl, Nat.le_of_ble_eq_true rfl⟩ rfl hl.1 (Nat.le_of_ble_eq_true rfl) ⟨Nat.le_refl 0, Nat.le_refl 0⟩ dX0_put_2 (fun H locs hS => ?_)
  refine lv_if_eq (tgt := 16) hx hb dX0_put_5 (by decide) (fun h5 => ?_) (fun h5 => ?_)
  · refine lv_bipush (v := (-2)) hx hb dX0_put_16 (by decide) ?_
    exact EnX.iret E hS (ni_i _) (by first | (simp only [fx_put, if_pos h5]; done) | (unfold fx_put; rw [if_pos h5])) dX0_put_18
  · refine lv_aload_n hx hb dX0_put_8 rfl (lv_at hl 0 rfl) ?_
    refine lv_iload_n hx hb dX0_put_9 rfl (lv_at hl 3 rfl) ?_
    refine EnX.calli (r := fx_isThingOrNone u q_x) (u2 := u) E hS [.int q_x] [] (kX0_isThingOrNone l D ad ca g u q_x ) gc_X0_73 hd_X0_isThingOrNone ⟨Nat.le_of_ble_eq_true rfl, Nat.le_of_ble_eq_true rfl⟩ rfl hl.1 (Nat.le_of_ble_eq_true rfl) ⟨Nat.le_refl 0, Nat.le_refl 0⟩ dX0_put_10 (fun H locs hS => ?_)
    refine lv_if_ne (tgt := 19) hx hb dX0_put_13 (by decide) (fun h13 => ?_) (fun h13 => ?_)
    · refine lv_iload_n hx hb dX0_put_19 rfl (lv_at hl 1 rfl) ?_
      refine lv_iconst (v := (-1)) hx hb dX0_put_20 (by decide) ?_
      refine lv_icmp_ne (tgt := 44) hx hb dX0_put_21 (by decide) (fun h21 => ?_) (fun h21 => ?_)
      · refine lv_aload_n hx hb dX0_put_44 rfl (lv_at hl 0 rfl) ?_
        refine lv_iload_n hx hb dX0_put_45 rfl (lv_at hl 1 rfl) ?_
        refine EnX.calli (r := fx_holdsThings u q_r) (u2 := u) E hS [.int q_r] [] (kX0_holdsThings l D ad ca g u q_r (by first | with_reducible assumption | (refine xt_in hI ?_; with_reducible assumption) | (refine xn_in hI ?_ ?_ <;> with_reducible assumption) | with_reducible exact xb_in hI _ | (refine xr_in hI ?_; with_reducible assumption) | (refine xd_in ?_; with_reducible assumption))) gc_X0_80 hd_X0_holdsThings ⟨Nat.le_of_ble_eq_true rfl, Nat.le_of_ble_eq_true rfl⟩ rfl hl.1 (Nat.le_of_ble_eq_true rfl) ⟨Nat.le_refl 0, Nat.le_refl 0⟩ dX0_put_46 (fun H locs hS => ?_)
        refine lv_if_ne (tgt := 58) hx hb dX0_put_49 (by decide) (fun h49 => ?_) (fun h49 => ?_)
        · refine lv_aload_n hx hb dX0_put_58 rfl (lv_at hl 0 rfl) ?_
          refine lv_iload_n hx hb dX0_put_59 rfl (lv_at hl 3 rfl) ?_
          refine lv_aload_n hx hb dX0_put_60 rfl (lv_at hl 0 rfl) ?_
          refine lv_iload_n hx hb dX0_put_61 rfl (lv_at hl 1 rfl) ?_
          refine EnX.calli (r := fx_widestBase u q_r) (u2 := u) E hS [.int q_r] [.int q_x, .ref (ad 0)] (kX0_widestBase l D ad ca g u q_r (by first | with_reducible assumption | (refine xt_in hI ?_; with_reducible assumption) | (refine xn_in hI ?_ ?_ <;> with_reducible assumption) | with_reducible exact xb_in hI _ | (refine xr_in hI ?_; with_reducible assumption) | (refine xd_in ?_; with_reducible assumption)) (by first | with_reducible assumption | (refine xt_in hI ?_; with_reducible assumption) | (refine xn_in hI ?_ ?_ <;> with_reducible assumption) | with_reducible exact xb_in hI _ | (refine xr_in hI ?_; with_reducible assumption) | (refine xd_in ?_; with_reducible assumption))) gc_X0_83 hd_X0_widestBase ⟨Nat.le_of_ble_eq_true rfl, Nat.le_of_ble_eq_true rfl⟩ rfl hl.1 (Nat.le_of_ble_eq_true rfl) ⟨Nat.le_refl 0, Nat.le_refl 0⟩ dX0_put_62 (fun H locs hS => ?_)
          refine lv_aload_n hx hb dX0_put_65 rfl (lv_at hl 0 rfl) ?_
          refine gX_thingDepth E hS dX0_put_66 ?_
          refine lv_iload_n hx hb dX0_put_69 rfl (lv_at hl 1 rfl) ?_
          refine lX_thingDepth (v := x_thingDepth u (q_r).toNatClampNeg) E hS (show vp_in q_r 60 from by first | with_reducible assumption | (refine xt_in hI ?_; with_reducible assumption) | (refine xn_in hI ?_ ?_ <;> with_reducible assumption) | with_reducible exact xb_in hI _ | (refine xr_in hI ?_; with_reducible assumption) | (refine xd_in ?_; with_reducible assumption)) rfl dX0_put_70 ?_
          refine lv_iconst (v := 1) hx hb dX0_put_71 (by decide) ?_
          refine lv_isub hx hb dX0_put_72 ?_
          refine EnX.calli (r := fx_mayPass u q_x (fx_widestBase u q_r) ((x_thingDepth u (q_r).toNatClampNeg) - 1)) (u2 := u) E hS [.int q_x, .int (fx_widestBase u q_r), .int ((x_thingDepth u (q_r).toNatClampNeg) - 1)] [] (kX0_mayPass l D ad ca g u q_x (fx_widestBase u q_r) ((x_thingDepth u (q_r).toNatClampNeg) - 1) (by first | with_reducible assumption | (refine xt_in hI ?_; with_reducible assumption) | (refine xn_in hI ?_ ?_ <;> with_reducible assumption) | with_reducible exact xb_in hI _ | (refine xr_in hI ?_; with_reducible assumption) | (refine xd_in ?_; with_reducible assumption))) gc_X0_76 hd_X0_mayPass ⟨Nat.le_of_ble_eq_true rfl, Nat.le_of_ble_eq_true rfl⟩ rfl hl.1 (Nat.le_of_ble_eq_true rfl) ⟨Nat.le_refl 0, Nat.le_refl 0⟩ dX0_put_73 (fun H locs hS => ?_)
          refine lv_if_ne (tgt := 85) hx hb dX0_put_76 (by decide) (fun h76 => ?_) (fun h76 => ?_)
          · refine lv_aload_n hx hb dX0_put_85 rfl (lv_at hl 0 rfl) ?_
            refine lv_iload_n hx hb dX0_put_86 rfl (lv_at hl 1 rfl) ?_
            refine lv_iload_n hx hb dX0_put_87 rfl (lv_at hl 2 rfl) ?_
            refine EnX.calli (r := fx_hasPlace u q_r q_i) (u2 := u) E hS [.int q_r, .int q_i] [] (kX0_hasPlace l D ad ca g u q_r q_i (by first | with_reducible assumption | (refine xt_in hI ?_; with_reducible assumption) | (refine xn_in hI ?_ ?_ <;> with_reducible assumption) | with_reducible exact xb_in hI _ | (refine xr_in hI ?_; with_reducible assumption) | (refine xd_in ?_; with_reducible assumption))) gc_X0_86 hd_X0_hasPlace ⟨Nat.le_of_ble_eq_true rfl, Nat.le_of_ble_eq_true rfl⟩ rfl hl.1 (Nat.le_of_ble_eq_true rfl) ⟨Nat.le_refl 0, Nat.le_refl 0⟩ dX0_put_88 (fun H locs hS => ?_)
            refine lv_if_ne (tgt := 100) hx hb dX0_put_91 (by decide) (fun h91 => ?_) (fun h91 => ?_)
            · refine lv_aload_n hx hb dX0_put_100 rfl (lv_at hl 0 rfl) ?_
              refine lv_iload_n hx hb dX0_put_101 rfl (lv_at hl 3 rfl) ?_
              refine lv_iload_n hx hb dX0_put_102 rfl (lv_at hl 1 rfl) ?_
              refine EnX.calli (r := fx_goesInto u q_x q_r) (u2 := u) E hS [.int q_x, .int q_r] [] (kX0_goesInto l D ad ca g u q_x q_r (by first | with_reducible assumption | (refine xt_in hI ?_; with_reducible assumption) | (refine xn_in hI ?_ ?_ <;> with_reducible assumption) | with_reducible exact xb_in hI _ | (refine xr_in hI ?_; with_reducible assumption) | (refine xd_in ?_; with_reducible assumption)) (by first | with_reducible assumption | (refine xt_in hI ?_; with_reducible assumption) | (refine xn_in hI ?_ ?_ <;> with_reducible assumption) | with_reducible exact xb_in hI _ | (refine xr_in hI ?_; with_reducible assumption) | (refine xd_in ?_; with_reducible assumption))) gc_X0_89 hd_X0_goesInto ⟨Nat.le_of_ble_eq_true rfl, Nat.le_of_ble_eq_true rfl⟩ rfl hl.1 (Nat.le_of_ble_eq_true rfl) ⟨Nat.le_refl 0, Nat.le_refl 0⟩ dX0_put_103 (fun H locs hS => ?_)
              refine lv_if_ne (tgt := 115) hx hb dX0_put_106 (by decide) (fun h106 => ?_) (fun h106 => ?_)
              · refine lv_aload_n hx hb dX0_put_115 rfl (lv_at hl 0 rfl) ?_
                refine gX_places E hS dX0_put_116 ?_
                refine lv_iload_n hx hb dX0_put_119 rfl (lv_at hl 1 rfl) ?_
                refine lv_iload_n hx hb dX0_put_120 rfl (lv_at hl 2 rfl) ?_
                refine EnX.sti (r := fx_placeIndex q_r q_i) E hS [.int q_r, .int q_i] [.ref (ad 5)] (kX0_placeIndex l q_r q_i ) (fun _ _ _ _ h => h) (fun _ _ _ => trivial) gc_X0_70 hd_X0_placeIndex ⟨Nat.le_of_ble_eq_true rfl, Nat.le_of_ble_eq_true rfl⟩ rfl hl.1 (Nat.le_of_ble_eq_true rfl) ⟨Nat.le_refl 0, Nat.le_refl 0⟩ dX0_put_121 (fun H locs hS => ?_)
                refine lv_iload_n hx hb dX0_put_124 rfl (lv_at hl 3 rfl) ?_
                refine lv_i2l (v := Int32.toInt64 q_x) hx hb dX0_put_125 rfl ?_
                refine sX_places E hS (show vp_in (fx_placeIndex q_r q_i) 480 from xp_in hI (xn_in hI (by with_reducible assumption) (by with_reducible assumption)) (by with_reducible assumption)) dX0_put_126 (fun H locs hS => ?_)
                have hS : SX D ad ca A s (xs_places u (vp_updL (x_places u) (fx_placeIndex q_r q_i).toNatClampNeg (Int32.toInt64 q_x))) H locs := hS
                refine lv_iconst (v := 1) hx hb dX0_put_127 (by decide) ?_
                exact EnX.iret E hS (ni_i _) (by first | (simp only [fx_put, if_neg h5, if_neg h13, if_neg h21, if_neg h49, if_neg h76, if_neg h91, if_neg h106]; done) | (unfold fx_put; rw [if_neg h5, if_neg h13, if_neg h21, if_neg h49, if_neg h76, if_neg h91, if_neg h106])) dX0_put_128
              · refine lv_aload_n hx hb dX0_put_109 rfl (lv_at hl 0 rfl) ?_
                refine lv_iconst (v := 4) hx hb dX0_put_110 (by decide) ?_
                refine EnX.calli (r := (fx_fail u 4).1) (u2 := (fx_fail u 4).2) E hS [.int 4] [] (kX0_fail l D ad ca g u 4 ) gc_X0_57 hd_X0_fail ⟨Nat.le_of_ble_eq_true rfl, Nat.le_of_ble_eq_true rfl⟩ rfl hl.1 (Nat.le_of_ble_eq_true rfl) ⟨Nat.le_refl 0, Nat.le_refl 0⟩ dX0_put_111 (fun H locs hS => ?_)
                exact EnX.iret E hS (ni_i _) (by first | (simp only [fx_put, if_neg h5, if_neg h13, if_neg h21, if_neg h49, if_neg h76, if_neg h91, if_pos h106]; done) | (unfold fx_put; rw [if_neg h5, if_neg h13, if_neg h21, if_neg h49, if_neg h76, if_neg h91, if_pos h106])) dX0_put_114
            · refine lv_aload_n hx hb dX0_put_94 rfl (lv_at hl 0 rfl) ?_
              refine lv_iconst (v := 3) hx hb dX0_put_95 (by decide) ?_
              refine EnX.calli (r := (fx_fail u 3).1) (u2 := (fx_fail u 3).2) E hS [.int 3] [] (kX0_fail l D ad ca g u 3 ) gc_X0_57 hd_X0_fail ⟨Nat.le_of_ble_eq_true rfl, Nat.le_of_ble_eq_true rfl⟩ rfl hl.1 (Nat.le_of_ble_eq_true rfl) ⟨Nat.le_refl 0, Nat.le_refl 0⟩ dX0_put_96 (fun H locs hS => ?_)
              exact EnX.iret E hS (ni_i _) (by first | (simp only [fx_put, if_neg h5, if_neg h13, if_neg h21, if_neg h49, if_neg h76, if_pos h91]; done) | (unfold fx_put; rw [if_neg h5, if_neg h13, if_neg h21, if_neg h49, if_neg h76, if_pos h91])) dX0_put_99
          · refine lv_aload_n hx hb dX0_put_79 rfl (lv_at hl 0 rfl) ?_
            refine lv_iconst (v := 2) hx hb dX0_put_80 (by decide) ?_
            refine EnX.calli (r := (fx_fail u 2).1) (u2 := (fx_fail u 2).2) E hS [.int 2] [] (kX0_fail l D ad ca g u 2 ) gc_X0_57 hd_X0_fail ⟨Nat.le_of_ble_eq_true rfl, Nat.le_of_ble_eq_true rfl⟩ rfl hl.1 (Nat.le_of_ble_eq_true rfl) ⟨Nat.le_refl 0, Nat.le_refl 0⟩ dX0_put_81 (fun H locs hS => ?_)
            exact EnX.iret E hS (ni_i _) (by first | (simp only [fx_put, if_neg h5, if_neg h13, if_neg h21, if_neg h49, if_pos h76]; done) | (unfold fx_put; rw [if_neg h5, if_neg h13, if_neg h21, if_neg h49, if_pos h76])) dX0_put_84
        · refine lv_aload_n hx hb dX0_put_52 rfl (lv_at hl 0 rfl) ?_
          refine lv_iconst (v := 2) hx hb dX0_put_53 (by decide) ?_
          refine EnX.calli (r := (fx_fail u 2).1) (u2 := (fx_fail u 2).2) E hS [.int 2] [] (kX0_fail l D ad ca g u 2 ) gc_X0_57 hd_X0_fail ⟨Nat.le_of_ble_eq_true rfl, Nat.le_of_ble_eq_true rfl⟩ rfl hl.1 (Nat.le_of_ble_eq_true rfl) ⟨Nat.le_refl 0, Nat.le_refl 0⟩ dX0_put_54 (fun H locs hS => ?_)
          exact EnX.iret E hS (ni_i _) (by first | (simp only [fx_put, if_neg h5, if_neg h13, if_neg h21, if_pos h49]; done) | (unfold fx_put; rw [if_neg h5, if_neg h13, if_neg h21, if_pos h49])) dX0_put_57
      · refine lv_aload_n hx hb dX0_put_24 rfl (lv_at hl 0 rfl) ?_
        refine lv_aload_n hx hb dX0_put_25 rfl (lv_at hl 0 rfl) ?_
        refine lv_iload_n hx hb dX0_put_26 rfl (lv_at hl 3 rfl) ?_
        refine lv_iconst (v := 0) hx hb dX0_put_27 (by decide) ?_
        refine lv_iconst (v := 0) hx hb dX0_put_28 (by decide) ?_
        refine EnX.calli (r := fx_mayPass u q_x 0 0) (u2 := u) E hS [.int q_x, .int 0, .int 0] [.ref (ad 0)] (kX0_mayPass l D ad ca g u q_x 0 0 (by first | with_reducible assumption | (refine xt_in hI ?_; with_reducible assumption) | (refine xn_in hI ?_ ?_ <;> with_reducible assumption) | with_reducible exact xb_in hI _ | (refine xr_in hI ?_; with_reducible assumption) | (refine xd_in ?_; with_reducible assumption))) gc_X0_76 hd_X0_mayPass ⟨Nat.le_of_ble_eq_true rfl, Nat.le_of_ble_eq_true rfl⟩ rfl hl.1 (Nat.le_of_ble_eq_true rfl) ⟨Nat.le_refl 0, Nat.le_refl 0⟩ dX0_put_29 (fun H locs hS => ?_)
        refine lv_if_eq (tgt := 39) hx hb dX0_put_32 (by decide) (fun h32 => ?_) (fun h32 => ?_)
        · refine lv_iconst (v := 2) hx hb dX0_put_39 (by decide) ?_
          refine EnX.calli (r := (fx_fail u 2).1) (u2 := (fx_fail u 2).2) E hS [.int 2] [] (kX0_fail l D ad ca g u 2 ) gc_X0_57 hd_X0_fail ⟨Nat.le_of_ble_eq_true rfl, Nat.le_of_ble_eq_true rfl⟩ rfl hl.1 (Nat.le_of_ble_eq_true rfl) ⟨Nat.le_refl 0, Nat.le_refl 0⟩ dX0_put_40 (fun H locs hS => ?_)
          exact EnX.iret E hS (ni_i _) (by first | (simp only [fx_put, if_neg h5, if_neg h13, if_pos h21, if_pos h32]; done) | (unfold fx_put; rw [if_neg h5, if_neg h13, if_pos h21, if_pos h32])) dX0_put_43
        · refine lv_iconst (v := 1) hx hb dX0_put_35 (by decide) ?_
          refine lv_goto (tgt := 40) hx hb dX0_put_36 (by decide) ?_
          refine EnX.calli (r := (fx_fail u 1).1) (u2 := (fx_fail u 1).2) E hS [.int 1] [] (kX0_fail l D ad ca g u 1 ) gc_X0_57 hd_X0_fail ⟨Nat.le_of_ble_eq_true rfl, Nat.le_of_ble_eq_true rfl⟩ rfl hl.1 (Nat.le_of_ble_eq_true rfl) ⟨Nat.le_refl 0, Nat.le_refl 0⟩ dX0_put_40 (fun H locs hS => ?_)
          exact EnX.iret E hS (ni_i _) (by first | (simp only [fx_put, if_neg h5, if_neg h13, if_pos h21, if_neg h32]; done) | (unfold fx_put; rw [if_neg h5, if_neg h13, if_pos h21, if_neg h32])) dX0_put_43
    · refine lv_bipush (v := (-2)) hx hb dX0_put_16 (by decide) ?_
      exact EnX.iret E hS (ni_i _) (by first | (simp only [fx_put, if_neg h5, if_pos h13]; done) | (unfold fx_put; rw [if_neg h5, if_pos h13])) dX0_put_18
def fx_get (u : XS) (q_r : Int32) (q_i : Int32) : Int32 × XS := if (fx_isThingOrNone u q_r) = 0 then ((-2), u) else (if q_r = (-1) then ((fx_fail u 1).1, (fx_fail u 1).2) else (if (fx_holdsThings u q_r) = 0 then ((fx_fail u 2).1, (fx_fail u 2).2) else (if (fx_hasPlace u q_r q_i) = 0 then ((fx_fail u 3).1, (fx_fail u 3).2) else (fx_thingAt u q_r q_i, u))))
theorem hd_X0_get : yX0_get.cls = RX0 ∧ yX0_get.cls ≠ "java/lang/invoke/MethodHandle" ∧ yX0_get.cls ≠ "java/lang/invoke/VarHandle" ∧ (parseMethodDescriptor yX0_get.desc).map (fun d => d.parameters.length) = some 2 := by decide +kernel
set_option maxRecDepth 100000 in
set_option maxHeartbeats 4000000 in
theorem kX0_get (l : Launch) (D : va_G) (ad : Nat → Nat) (ca : Nat → ClassId) (g : Nat) (u : XS) (q_r : Int32) (q_i : Int32) (hI : XI u) : CiX l yX0_get cX0_get 3 .int 4 D ad ca g [.int q_r, .int q_i] u (fx_get u q_r q_i) := by
  refine CiX.of (by decide) rfl (Nat.le_of_ble_eq_true rfl) ?_
  intro p e s m below meth c A ls E hS hl
  have hx := E.1.1
  have hb := E.1.2.1
  have hml := E.1.2.2.1
  have hown := E.1.2.2.2.1
  have hts := E.1.2.2.2.2
  have hl : lv_has ls 3 [(0, .ref (ad 0)), (1, .int q_r), (2, .int q_i)] := hl
  refine lv_aload_n hx hb dX0_get_0 rfl (lv_at hl 0 rfl) ?_
  refine lv_iload_n hx hb dX0_get_1 rfl (lv_at hl 1 rfl) ?_
  refine EnX.calli (r := fx_isThingOrNone u q_r) (u2 := u) E hS [.int q_r] [] (kX0_isThingOrNone l D ad ca g u q_r ) gc_X0_73 hd_X0_isThingOrNone ⟨Nat.le_of_ble_eq_true rfl, Nat.le_of_ble_eq_true rfl⟩ rfl hl.1 (Nat.le_of_ble_eq_true rfl) ⟨Nat.le_refl 0, Nat.le_refl 0⟩ dX0_get_2 (fun H locs hS => ?_)
  refine lv_if_ne (tgt := 11) hx hb dX0_get_5 (by decide) (fun h5 => ?_) (fun h5 => ?_)
  · refine lv_iload_n hx hb dX0_get_11 rfl (lv_at hl 1 rfl) ?_
    refine lv_iconst (v := (-1)) hx hb dX0_get_12 (by decide) ?_
    refine lv_icmp_ne (tgt := 22) hx hb dX0_get_13 (by decide) (fun h13 => ?_) (fun h13 => ?_)
    · refine lv_aload_n hx hb dX0_get_22 rfl (lv_at hl 0 rfl) ?_
      refine lv_iload_n hx hb dX0_get_23 rfl (lv_at hl 1 rfl) ?_
      refine EnX.calli (r := fx_holdsThings u q_r) (u2 := u) E hS [.int q_r] [] (kX0_holdsThings l D ad ca g u q_r (by first | with_reducible assumption | (refine xt_in hI ?_; with_reducible assumption) | (refine xn_in hI ?_ ?_ <;> with_reducible assumption) | with_reducible exact xb_in hI _ | (refine xr_in hI ?_; with_reducible assumption) | (refine xd_in ?_; with_reducible assumption))) gc_X0_80 hd_X0_holdsThings ⟨Nat.le_of_ble_eq_true rfl, Nat.le_of_ble_eq_true rfl⟩ rfl hl.1 (Nat.le_of_ble_eq_true rfl) ⟨Nat.le_refl 0, Nat.le_refl 0⟩ dX0_get_24 (fun H locs hS => ?_)
      refine lv_if_ne (tgt := 36) hx hb dX0_get_27 (by decide) (fun h27 => ?_) (fun h27 => ?_)
      · refine lv_aload_n hx hb dX0_get_36 rfl (lv_at hl 0 rfl) ?_
        refine lv_iload_n hx hb dX0_get_37 rfl (lv_at hl 1 rfl) ?_
        refine lv_iload_n hx hb dX0_get_38 rfl (lv_at hl 2 rfl) ?_
        refine EnX.calli (r := fx_hasPlace u q_r q_i) (u2 := u) E hS [.int q_r, .int q_i] [] (kX0_hasPlace l D ad ca g u q_r q_i (by first | with_reducible assumption | (refine xt_in hI ?_; with_reducible assumption) | (refine xn_in hI ?_ ?_ <;> with_reducible assumption) | with_reducible exact xb_in hI _ | (refine xr_in hI ?_; with_reducible assumption) | (refine xd_in ?_; with_reducible assumption))) gc_X0_86 hd_X0_hasPlace ⟨Nat.le_of_ble_eq_true rfl, Nat.le_of_ble_eq_true rfl⟩ rfl hl.1 (Nat.le_of_ble_eq_true rfl) ⟨Nat.le_refl 0, Nat.le_refl 0⟩ dX0_get_39 (fun H locs hS => ?_)
        refine lv_if_ne (tgt := 51) hx hb dX0_get_42 (by decide) (fun h42 => ?_) (fun h42 => ?_)
        · refine lv_aload_n hx hb dX0_get_51 rfl (lv_at hl 0 rfl) ?_
          refine lv_iload_n hx hb dX0_get_52 rfl (lv_at hl 1 rfl) ?_
          refine lv_iload_n hx hb dX0_get_53 rfl (lv_at hl 2 rfl) ?_
          refine EnX.calli (r := fx_thingAt u q_r q_i) (u2 := u) E hS [.int q_r, .int q_i] [] (kX0_thingAt l D ad ca g u q_r q_i (xp_in hI (xn_in hI (by with_reducible assumption) (by with_reducible assumption)) (by with_reducible assumption))) gc_X0_92 hd_X0_thingAt ⟨Nat.le_of_ble_eq_true rfl, Nat.le_of_ble_eq_true rfl⟩ rfl hl.1 (Nat.le_of_ble_eq_true rfl) ⟨Nat.le_refl 0, Nat.le_refl 0⟩ dX0_get_54 (fun H locs hS => ?_)
          exact EnX.iret E hS (ni_i _) (by first | (simp only [fx_get, if_neg h5, if_neg h13, if_neg h27, if_neg h42]; done) | (unfold fx_get; rw [if_neg h5, if_neg h13, if_neg h27, if_neg h42])) dX0_get_57
        · refine lv_aload_n hx hb dX0_get_45 rfl (lv_at hl 0 rfl) ?_
          refine lv_iconst (v := 3) hx hb dX0_get_46 (by decide) ?_
          refine EnX.calli (r := (fx_fail u 3).1) (u2 := (fx_fail u 3).2) E hS [.int 3] [] (kX0_fail l D ad ca g u 3 ) gc_X0_57 hd_X0_fail ⟨Nat.le_of_ble_eq_true rfl, Nat.le_of_ble_eq_true rfl⟩ rfl hl.1 (Nat.le_of_ble_eq_true rfl) ⟨Nat.le_refl 0, Nat.le_refl 0⟩ dX0_get_47 (fun H locs hS => ?_)
          exact EnX.iret E hS (ni_i _) (by first | (simp only [fx_get, if_neg h5, if_neg h13, if_neg h27, if_pos h42]; done) | (unfold fx_get; rw [if_neg h5, if_neg h13, if_neg h27, if_pos h42])) dX0_get_50
      · refine lv_aload_n hx hb dX0_get_30 rfl (lv_at hl 0 rfl) ?_
        refine lv_iconst (v := 2) hx hb dX0_get_31 (by decide) ?_
        refine EnX.calli (r := (fx_fail u 2).1) (u2 := (fx_fail u 2).2) E hS [.int 2] [] (kX0_fail l D ad ca g u 2 ) gc_X0_57 hd_X0_fail ⟨Nat.le_of_ble_eq_true rfl, Nat.le_of_ble_eq_true rfl⟩ rfl hl.1 (Nat.le_of_ble_eq_true rfl) ⟨Nat.le_refl 0, Nat.le_refl 0⟩ dX0_get_32 (fun H locs hS => ?_)
        exact EnX.iret E hS (ni_i _) (by first | (simp only [fx_get, if_neg h5, if_neg h13, if_pos h27]; done) | (unfold fx_get; rw [if_neg h5, if_neg h13, if_pos h27])) dX0_get_35
    · refine lv_aload_n hx hb dX0_get_16 rfl (lv_at hl 0 rfl) ?_
      refine lv_iconst (v := 1) hx hb dX0_get_17 (by decide) ?_
      refine EnX.calli (r := (fx_fail u 1).1) (u2 := (fx_fail u 1).2) E hS [.int 1] [] (kX0_fail l D ad ca g u 1 ) gc_X0_57 hd_X0_fail ⟨Nat.le_of_ble_eq_true rfl, Nat.le_of_ble_eq_true rfl⟩ rfl hl.1 (Nat.le_of_ble_eq_true rfl) ⟨Nat.le_refl 0, Nat.le_refl 0⟩ dX0_get_18 (fun H locs hS => ?_)
      exact EnX.iret E hS (ni_i _) (by first | (simp only [fx_get, if_neg h5, if_pos h13]; done) | (unfold fx_get; rw [if_neg h5, if_pos h13])) dX0_get_21
  · refine lv_bipush (v := (-2)) hx hb dX0_get_8 (by decide) ?_
    exact EnX.iret E hS (ni_i _) (by first | (simp only [fx_get, if_pos h5]; done) | (unfold fx_get; rw [if_pos h5])) dX0_get_10
def fx_set (u : XS) (q_r : Int32) (q_i : Int32) (q_v : Int64) : Int32 × XS := if (fx_isThingOrNone u q_r) = 0 then ((-2), u) else (if (fx_ledgerFailure u q_r q_i) = 0 then (if (x_thingBase u (q_r).toNatClampNeg) = 5 then (1, xs_places u (vp_updL (x_places u) (fx_placeIndex q_r q_i).toNatClampNeg (Int32.toInt64 (Int64.toInt32 q_v)))) else (1, xs_places u (vp_updL (x_places u) (fx_placeIndex q_r q_i).toNatClampNeg q_v))) else ((fx_fail u (fx_ledgerFailure u q_r q_i)).1, (fx_fail u (fx_ledgerFailure u q_r q_i)).2))
theorem hd_X0_set : yX0_set.cls = RX0 ∧ yX0_set.cls ≠ "java/lang/invoke/MethodHandle" ∧ yX0_set.cls ≠ "java/lang/invoke/VarHandle" ∧ (parseMethodDescriptor yX0_set.desc).map (fun d => d.parameters.length) = some 3 := by decide +kernel
set_option maxRecDepth 100000 in
set_option maxHeartbeats 4000000 in
theorem kX0_set (l : Launch) (D : va_G) (ad : Nat → Nat) (ca : Nat → ClassId) (g : Nat) (u : XS) (q_r : Int32) (q_i : Int32) (q_v : Int64) (hI : XI u) : CiX l yX0_set cX0_set 6 .int 4 D ad ca g [.int q_r, .int q_i, .long q_v] u (fx_set u q_r q_i q_v) := by
  refine CiX.of (by decide) rfl (Nat.le_of_ble_eq_true rfl) ?_
  intro p e s m below meth c A ls E hS hl
  have hx := E.1.1
  have hb := E.1.2.1
  have hml := E.1.2.2.1
  have hown := E.1.2.2.2.1
  have hts := E.1.2.2.2.2
  have hl : lv_has ls 6 [(0, .ref (ad 0)), (1, .int q_r), (2, .int q_i), (3, .long q_v)] := hl
  refine lv_aload_n hx hb dX0_set_0 rfl (lv_at hl 0 rfl) ?_
  refine lv_iload_n hx hb dX0_set_1 rfl (lv_at hl 1 rfl) ?_
  refine EnX.calli (r := fx_isThingOrNone u q_r) (u2 := u) E hS [.int q_r] [] (kX0_isThingOrNone l D ad ca g u q_r ) gc_X0_73 hd_X0_isThingOrNone ⟨Nat.le_of_ble_eq_true rfl, Nat.le_of_ble_eq_true rfl⟩ rfl hl.1 (Nat.le_of_ble_eq_true rfl) ⟨Nat.le_refl 0, Nat.le_refl 0⟩ dX0_set_2 (fun H locs hS => ?_)
  refine lv_if_ne (tgt := 11) hx hb dX0_set_5 (by decide) (fun h5 => ?_) (fun h5 => ?_)
  · refine lv_aload_n hx hb dX0_set_11 rfl (lv_at hl 0 rfl) ?_
    refine lv_iload_n hx hb dX0_set_12 rfl (lv_at hl 1 rfl) ?_
    refine lv_iload_n hx hb dX0_set_13 rfl (lv_at hl 2 rfl) ?_
    refine EnX.calli (r := fx_ledgerFailure u q_r q_i) (u2 := u) E hS [.int q_r, .int q_i] [] (kX0_ledgerFailure l D ad ca g u q_r q_i (fun h => xn_in hI (by with_reducible assumption) h)) gc_X0_95 hd_X0_ledgerFailure ⟨Nat.le_of_ble_eq_true rfl, Nat.le_of_ble_eq_true rfl⟩ rfl hl.1 (Nat.le_of_ble_eq_true rfl) ⟨Nat.le_refl 0, Nat.le_refl 0⟩ dX0_set_14 (fun H locs hS => ?_)
    refine lv_istore (lv' := [(5, .int (fx_ledgerFailure u q_r q_i)), (0, .ref (ad 0)), (1, .int q_r), (2, .int q_i), (3, .long q_v)]) hx hb dX0_set_17 hl (by decide) rfl (fun ls hl => ?_)
    refine lv_iload hx hb dX0_set_19 (lv_at hl 0 rfl) ?_
    refine lv_if_eq (tgt := 31) hx hb dX0_set_21 (by decide) (fun h21 => ?_) (fun h21 => ?_)
    · refine lv_aload_n hx hb dX0_set_31 rfl (lv_at hl 1 rfl) ?_
      refine gX_places E hS dX0_set_32 ?_
      refine lv_iload_n hx hb dX0_set_35 rfl (lv_at hl 2 rfl) ?_
      refine lv_iload_n hx hb dX0_set_36 rfl (lv_at hl 3 rfl) ?_
      refine EnX.sti (r := fx_placeIndex q_r q_i) E hS [.int q_r, .int q_i] [.ref (ad 5)] (kX0_placeIndex l q_r q_i ) (fun _ _ _ _ h => h) (fun _ _ _ => trivial) gc_X0_70 hd_X0_placeIndex ⟨Nat.le_of_ble_eq_true rfl, Nat.le_of_ble_eq_true rfl⟩ rfl hl.1 (Nat.le_of_ble_eq_true rfl) ⟨Nat.le_refl 0, Nat.le_refl 0⟩ dX0_set_37 (fun H locs hS => ?_)
      refine lv_aload_n hx hb dX0_set_40 rfl (lv_at hl 1 rfl) ?_
      refine gX_thingBase E hS dX0_set_41 ?_
      refine lv_iload_n hx hb dX0_set_44 rfl (lv_at hl 2 rfl) ?_
      refine lX_thingBase (v := x_thingBase u (q_r).toNatClampNeg) E hS (show vp_in q_r 60 from xn_in hI (by with_reducible assumption) (xl_0 h21).1) rfl dX0_set_45 ?_
      refine lv_iconst (v := 5) hx hb dX0_set_46 (by decide) ?_
      refine lv_icmp_ne (tgt := 56) hx hb dX0_set_47 (by decide) (fun h47 => ?_) (fun h47 => ?_)
      · refine lv_lload_n hx hb dX0_set_56 rfl (lv_at hl 4 rfl) ?_
        refine sX_places E hS (show vp_in (fx_placeIndex q_r q_i) 480 from xl_in hI (by with_reducible assumption) h21) dX0_set_57 (fun H locs hS => ?_)
        have hS : SX D ad ca A s (xs_places u (vp_updL (x_places u) (fx_placeIndex q_r q_i).toNatClampNeg q_v)) H locs := hS
        refine lv_iconst (v := 1) hx hb dX0_set_58 (by decide) ?_
        exact EnX.iret E hS (ni_i _) (by first | (simp only [fx_set, if_neg h5, if_pos h21, if_neg h47]; done) | (unfold fx_set; rw [if_neg h5, if_pos h21, if_neg h47])) dX0_set_59
      · refine lv_lload_n hx hb dX0_set_50 rfl (lv_at hl 4 rfl) ?_
        refine lv_l2i (v := Int64.toInt32 q_v) hx hb dX0_set_51 rfl ?_
        refine lv_i2l (v := Int32.toInt64 (Int64.toInt32 q_v)) hx hb dX0_set_52 rfl ?_
        refine lv_goto (tgt := 57) hx hb dX0_set_53 (by decide) ?_
        refine sX_places E hS (show vp_in (fx_placeIndex q_r q_i) 480 from xl_in hI (by with_reducible assumption) h21) dX0_set_57 (fun H locs hS => ?_)
        have hS : SX D ad ca A s (xs_places u (vp_updL (x_places u) (fx_placeIndex q_r q_i).toNatClampNeg (Int32.toInt64 (Int64.toInt32 q_v)))) H locs := hS
        refine lv_iconst (v := 1) hx hb dX0_set_58 (by decide) ?_
        exact EnX.iret E hS (ni_i _) (by first | (simp only [fx_set, if_neg h5, if_pos h21, if_pos h47]; done) | (unfold fx_set; rw [if_neg h5, if_pos h21, if_pos h47])) dX0_set_59
    · refine lv_aload_n hx hb dX0_set_24 rfl (lv_at hl 1 rfl) ?_
      refine lv_iload hx hb dX0_set_25 (lv_at hl 0 rfl) ?_
      refine EnX.calli (r := (fx_fail u (fx_ledgerFailure u q_r q_i)).1) (u2 := (fx_fail u (fx_ledgerFailure u q_r q_i)).2) E hS [.int (fx_ledgerFailure u q_r q_i)] [] (kX0_fail l D ad ca g u (fx_ledgerFailure u q_r q_i) ) gc_X0_57 hd_X0_fail ⟨Nat.le_of_ble_eq_true rfl, Nat.le_of_ble_eq_true rfl⟩ rfl hl.1 (Nat.le_of_ble_eq_true rfl) ⟨Nat.le_refl 0, Nat.le_refl 0⟩ dX0_set_27 (fun H locs hS => ?_)
      exact EnX.iret E hS (ni_i _) (by first | (simp only [fx_set, if_neg h5, if_neg h21]; done) | (unfold fx_set; rw [if_neg h5, if_neg h21])) dX0_set_30
  · refine lv_bipush (v := (-2)) hx hb dX0_set_8 (by decide) ?_
    exact EnX.iret E hS (ni_i _) (by first | (simp only [fx_set, if_pos h5]; done) | (unfold fx_set; rw [if_pos h5])) dX0_set_10
def fx_number (u : XS) (q_r : Int32) (q_i : Int32) : Int64 := if (fx_isThingOrNone u q_r) = 0 then 0 else (if (fx_ledgerFailure u q_r q_i) = 0 then x_places u (fx_placeIndex q_r q_i).toNatClampNeg else 0)
theorem hd_X0_number : yX0_number.cls = RX0 ∧ yX0_number.cls ≠ "java/lang/invoke/MethodHandle" ∧ yX0_number.cls ≠ "java/lang/invoke/VarHandle" ∧ (parseMethodDescriptor yX0_number.desc).map (fun d => d.parameters.length) = some 2 := by decide +kernel
set_option maxRecDepth 100000 in
set_option maxHeartbeats 4000000 in
theorem kX0_number (l : Launch) (D : va_G) (ad : Nat → Nat) (ca : Nat → ClassId) (g : Nat) (u : XS) (q_r : Int32) (q_i : Int32) (hI : XI u) : ClX l yX0_number cX0_number 3 4 D ad ca g [.int q_r, .int q_i] u ((fx_number u q_r q_i, u)) := by
  refine ClX.of (by decide) rfl (Nat.le_of_ble_eq_true rfl) ?_
  intro p e s m below meth c A ls E hS hl
  have hx := E.1.1
  have hb := E.1.2.1
  have hml := E.1.2.2.1
  have hown := E.1.2.2.2.1
  have hts := E.1.2.2.2.2
  have hl : lv_has ls 3 [(0, .ref (ad 0)), (1, .int q_r), (2, .int q_i)] := hl
  refine lv_aload_n hx hb dX0_number_0 rfl (lv_at hl 0 rfl) ?_
  refine lv_iload_n hx hb dX0_number_1 rfl (lv_at hl 1 rfl) ?_
  refine EnX.calli (r := fx_isThingOrNone u q_r) (u2 := u) E hS [.int q_r] [] (kX0_isThingOrNone l D ad ca g u q_r ) gc_X0_73 hd_X0_isThingOrNone ⟨Nat.le_of_ble_eq_true rfl, Nat.le_of_ble_eq_true rfl⟩ rfl hl.1 (Nat.le_of_ble_eq_true rfl) ⟨Nat.le_refl 0, Nat.le_refl 0⟩ dX0_number_2 (fun H locs hS => ?_)
  refine lv_if_eq (tgt := 17) hx hb dX0_number_5 (by decide) (fun h5 => ?_) (fun h5 => ?_)
  · refine lv_lconst (v := 0) hx hb dX0_number_17 (by decide) ?_
    exact EnX.lret E hS (congrArg (fun z => (z, u)) (show (0 : Int64) = fx_number u q_r q_i by unfold fx_number; rw [if_pos h5])) dX0_number_18
  · refine lv_aload_n hx hb dX0_number_8 rfl (lv_at hl 0 rfl) ?_
    refine lv_iload_n hx hb dX0_number_9 rfl (lv_at hl 1 rfl) ?_
    refine lv_iload_n hx hb dX0_number_10 rfl (lv_at hl 2 rfl) ?_
    refine EnX.calli (r := fx_ledgerFailure u q_r q_i) (u2 := u) E hS [.int q_r, .int q_i] [] (kX0_ledgerFailure l D ad ca g u q_r q_i (fun h => xn_in hI (by with_reducible assumption) h)) gc_X0_95 hd_X0_ledgerFailure ⟨Nat.le_of_ble_eq_true rfl, Nat.le_of_ble_eq_true rfl⟩ rfl hl.1 (Nat.le_of_ble_eq_true rfl) ⟨Nat.le_refl 0, Nat.le_refl 0⟩ dX0_number_11 (fun H locs hS => ?_)
    refine lv_if_eq (tgt := 19) hx hb dX0_number_14 (by decide) (fun h14 => ?_) (fun h14 => ?_)
    · refine lv_aload_n hx hb dX0_number_19 rfl (lv_at hl 0 rfl) ?_
      refine gX_places E hS dX0_number_20 ?_
      refine lv_iload_n hx hb dX0_number_23 rfl (lv_at hl 1 rfl) ?_
      refine lv_iload_n hx hb dX0_number_24 rfl (lv_at hl 2 rfl) ?_
      refine EnX.sti (r := fx_placeIndex q_r q_i) E hS [.int q_r, .int q_i] [.ref (ad 5)] (kX0_placeIndex l q_r q_i ) (fun _ _ _ _ h => h) (fun _ _ _ => trivial) gc_X0_70 hd_X0_placeIndex ⟨Nat.le_of_ble_eq_true rfl, Nat.le_of_ble_eq_true rfl⟩ rfl hl.1 (Nat.le_of_ble_eq_true rfl) ⟨Nat.le_refl 0, Nat.le_refl 0⟩ dX0_number_25 (fun H locs hS => ?_)
      refine lX_places (v := x_places u (fx_placeIndex q_r q_i).toNatClampNeg) E hS (show vp_in (fx_placeIndex q_r q_i) 480 from xl_in hI (by with_reducible assumption) h14) rfl dX0_number_28 ?_
      exact EnX.lret E hS (congrArg (fun z => (z, u)) (show x_places u (fx_placeIndex q_r q_i).toNatClampNeg = fx_number u q_r q_i by unfold fx_number; rw [if_neg h5, if_pos h14])) dX0_number_29
    · refine lv_lconst (v := 0) hx hb dX0_number_17 (by decide) ?_
      exact EnX.lret E hS (congrArg (fun z => (z, u)) (show (0 : Int64) = fx_number u q_r q_i by unfold fx_number; rw [if_neg h5, if_neg h14])) dX0_number_18
def fx_is (u : XS) (q_x : Int32) (q_base : Int32) (q_depth : Int32) : Int32 := if (fx_isThingOrNone u q_x) = 0 then (-2) else (if (fx_isKind q_base q_depth) = 0 then (-2) else (if (fx_isOfKind u q_x q_base q_depth) = 0 then 0 else 1))
theorem hd_X0_is : yX0_is.cls = RX0 ∧ yX0_is.cls ≠ "java/lang/invoke/MethodHandle" ∧ yX0_is.cls ≠ "java/lang/invoke/VarHandle" ∧ (parseMethodDescriptor yX0_is.desc).map (fun d => d.parameters.length) = some 3 := by decide +kernel
set_option maxRecDepth 100000 in
set_option maxHeartbeats 4000000 in
theorem kX0_is (l : Launch) (D : va_G) (ad : Nat → Nat) (ca : Nat → ClassId) (g : Nat) (u : XS) (q_x : Int32) (q_base : Int32) (q_depth : Int32) (hI : XI u) : CiX l yX0_is cX0_is 4 .int 3 D ad ca g [.int q_x, .int q_base, .int q_depth] u ((fx_is u q_x q_base q_depth, u)) := by
  refine CiX.of (by decide) rfl (Nat.le_of_ble_eq_true rfl) ?_
  intro p e s m below meth c A ls E hS hl
  have hx := E.1.1
  have hb := E.1.2.1
  have hml := E.1.2.2.1
  have hown := E.1.2.2.2.1
  have hts := E.1.2.2.2.2
  have hl : lv_has ls 4 [(0, .ref (ad 0)), (1, .int q_x), (2, .int q_base), (3, .int q_depth)] := hl
  refine lv_aload_n hx hb dX0_is_0 rfl (lv_at hl 0 rfl) ?_
  refine lv_iload_n hx hb dX0_is_1 rfl (lv_at hl 1 rfl) ?_
  refine EnX.calli (r := fx_isThingOrNone u q_x) (u2 := u) E hS [.int q_x] [] (kX0_isThingOrNone l D ad ca g u q_x ) gc_X0_73 hd_X0_isThingOrNone ⟨Nat.le_of_ble_eq_true rfl, Nat.le_of_ble_eq_true rfl⟩ rfl hl.1 (Nat.le_of_ble_eq_true rfl) ⟨Nat.le_refl 0, Nat.le_refl 0⟩ dX0_is_2 (fun H locs hS => ?_)
  refine lv_if_eq (tgt := 16) hx hb dX0_is_5 (by decide) (fun h5 => ?_) (fun h5 => ?_)
  · refine lv_bipush (v := (-2)) hx hb dX0_is_16 (by decide) ?_
    exact EnX.iret E hS (ni_i _) (congrArg (fun z => (z, u)) (show ((-2) : Int32) = fx_is u q_x q_base q_depth by unfold fx_is; rw [if_pos h5])) dX0_is_18
  · refine lv_iload_n hx hb dX0_is_8 rfl (lv_at hl 2 rfl) ?_
    refine lv_iload_n hx hb dX0_is_9 rfl (lv_at hl 3 rfl) ?_
    refine EnX.sti (r := fx_isKind q_base q_depth) E hS [.int q_base, .int q_depth] [] (kX0_isKind l q_base q_depth ) (fun _ _ _ _ h => h) (fun _ _ _ => trivial) gc_X0_53 hd_X0_isKind ⟨Nat.le_of_ble_eq_true rfl, Nat.le_of_ble_eq_true rfl⟩ rfl hl.1 (Nat.le_of_ble_eq_true rfl) ⟨Nat.le_refl 0, Nat.le_refl 0⟩ dX0_is_10 (fun H locs hS => ?_)
    refine lv_if_ne (tgt := 19) hx hb dX0_is_13 (by decide) (fun h13 => ?_) (fun h13 => ?_)
    · refine lv_aload_n hx hb dX0_is_19 rfl (lv_at hl 0 rfl) ?_
      refine lv_iload_n hx hb dX0_is_20 rfl (lv_at hl 1 rfl) ?_
      refine lv_iload_n hx hb dX0_is_21 rfl (lv_at hl 2 rfl) ?_
      refine lv_iload_n hx hb dX0_is_22 rfl (lv_at hl 3 rfl) ?_
      refine EnX.calli (r := fx_isOfKind u q_x q_base q_depth) (u2 := u) E hS [.int q_x, .int q_base, .int q_depth] [] (kX0_isOfKind l D ad ca g u q_x q_base q_depth (by first | with_reducible assumption | (refine xt_in hI ?_; with_reducible assumption) | (refine xn_in hI ?_ ?_ <;> with_reducible assumption) | with_reducible exact xb_in hI _ | (refine xr_in hI ?_; with_reducible assumption) | (refine xd_in ?_; with_reducible assumption))) gc_X0_98 hd_X0_isOfKind ⟨Nat.le_of_ble_eq_true rfl, Nat.le_of_ble_eq_true rfl⟩ rfl hl.1 (Nat.le_of_ble_eq_true rfl) ⟨Nat.le_refl 0, Nat.le_refl 0⟩ dX0_is_23 (fun H locs hS => ?_)
      refine lv_if_eq (tgt := 33) hx hb dX0_is_26 (by decide) (fun h26 => ?_) (fun h26 => ?_)
      · refine lv_iconst (v := 0) hx hb dX0_is_33 (by decide) ?_
        exact EnX.iret E hS (ni_i _) (congrArg (fun z => (z, u)) (show (0 : Int32) = fx_is u q_x q_base q_depth by unfold fx_is; rw [if_neg h5, if_neg h13, if_pos h26])) dX0_is_34
      · refine lv_iconst (v := 1) hx hb dX0_is_29 (by decide) ?_
        refine lv_goto (tgt := 34) hx hb dX0_is_30 (by decide) ?_
        exact EnX.iret E hS (ni_i _) (congrArg (fun z => (z, u)) (show (1 : Int32) = fx_is u q_x q_base q_depth by unfold fx_is; rw [if_neg h5, if_neg h13, if_neg h26])) dX0_is_34
    · refine lv_bipush (v := (-2)) hx hb dX0_is_16 (by decide) ?_
      exact EnX.iret E hS (ni_i _) (congrArg (fun z => (z, u)) (show ((-2) : Int32) = fx_is u q_x q_base q_depth by unfold fx_is; rw [if_neg h5, if_pos h13])) dX0_is_18
def fx_door (u : XS) (q_k : Int32) (q_base : Int32) (q_depth : Int32) : Int32 × XS := if (fx_isDoor q_k) = 0 then ((-2), u) else (if (fx_isKind q_base q_depth) = 0 then ((-2), u) else (1, xs_doorDepth (xs_doorBase u (upd (x_doorBase u) (q_k).toNatClampNeg q_base)) (upd (x_doorDepth u) (q_k).toNatClampNeg q_depth)))
theorem hd_X0_door : yX0_door.cls = RX0 ∧ yX0_door.cls ≠ "java/lang/invoke/MethodHandle" ∧ yX0_door.cls ≠ "java/lang/invoke/VarHandle" ∧ (parseMethodDescriptor yX0_door.desc).map (fun d => d.parameters.length) = some 3 := by decide +kernel
set_option maxRecDepth 100000 in
set_option maxHeartbeats 4000000 in
theorem kX0_door (l : Launch) (D : va_G) (ad : Nat → Nat) (ca : Nat → ClassId) (g : Nat) (u : XS) (q_k : Int32) (q_base : Int32) (q_depth : Int32) (hI : XI u) : CiX l yX0_door cX0_door 4 .int 3 D ad ca g [.int q_k, .int q_base, .int q_depth] u (fx_door u q_k q_base q_depth) := by
  refine CiX.of (by decide) rfl (Nat.le_of_ble_eq_true rfl) ?_
  intro p e s m below meth c A ls E hS hl
  have hx := E.1.1
  have hb := E.1.2.1
  have hml := E.1.2.2.1
  have hown := E.1.2.2.2.1
  have hts := E.1.2.2.2.2
  have hl : lv_has ls 4 [(0, .ref (ad 0)), (1, .int q_k), (2, .int q_base), (3, .int q_depth)] := hl
  refine lv_iload_n hx hb dX0_door_0 rfl (lv_at hl 1 rfl) ?_
  refine EnX.sti (r := fx_isDoor q_k) E hS [.int q_k] [] (kX0_isDoor l q_k ) (fun _ _ _ _ h => h) (fun _ _ _ => trivial) gc_X0_101 hd_X0_isDoor ⟨Nat.le_of_ble_eq_true rfl, Nat.le_of_ble_eq_true rfl⟩ rfl hl.1 (Nat.le_of_ble_eq_true rfl) ⟨Nat.le_refl 0, Nat.le_refl 0⟩ dX0_door_1 (fun H locs hS => ?_)
  refine lv_if_eq (tgt := 15) hx hb dX0_door_4 (by decide) (fun h4 => ?_) (fun h4 => ?_)
  · refine lv_bipush (v := (-2)) hx hb dX0_door_15 (by decide) ?_
    exact EnX.iret E hS (ni_i _) (by first | (simp only [fx_door, if_pos h4]; done) | (unfold fx_door; rw [if_pos h4])) dX0_door_17
  · refine lv_iload_n hx hb dX0_door_7 rfl (lv_at hl 2 rfl) ?_
    refine lv_iload_n hx hb dX0_door_8 rfl (lv_at hl 3 rfl) ?_
    refine EnX.sti (r := fx_isKind q_base q_depth) E hS [.int q_base, .int q_depth] [] (kX0_isKind l q_base q_depth ) (fun _ _ _ _ h => h) (fun _ _ _ => trivial) gc_X0_53 hd_X0_isKind ⟨Nat.le_of_ble_eq_true rfl, Nat.le_of_ble_eq_true rfl⟩ rfl hl.1 (Nat.le_of_ble_eq_true rfl) ⟨Nat.le_refl 0, Nat.le_refl 0⟩ dX0_door_9 (fun H locs hS => ?_)
    refine lv_if_ne (tgt := 18) hx hb dX0_door_12 (by decide) (fun h12 => ?_) (fun h12 => ?_)
    · refine lv_aload_n hx hb dX0_door_18 rfl (lv_at hl 0 rfl) ?_
      refine gX_doorBase E hS dX0_door_19 ?_
      refine lv_iload_n hx hb dX0_door_22 rfl (lv_at hl 1 rfl) ?_
      refine lv_iload_n hx hb dX0_door_23 rfl (lv_at hl 2 rfl) ?_
      refine sX_doorBase E hS (show vp_in q_k 8 from by first | with_reducible assumption | (refine xt_in hI ?_; with_reducible assumption) | (refine xn_in hI ?_ ?_ <;> with_reducible assumption) | with_reducible exact xb_in hI _ | (refine xr_in hI ?_; with_reducible assumption) | (refine xd_in ?_; with_reducible assumption)) dX0_door_24 (fun H locs hS => ?_)
      have hS : SX D ad ca A s (xs_doorBase u (upd (x_doorBase u) (q_k).toNatClampNeg q_base)) H locs := hS
      refine lv_aload_n hx hb dX0_door_25 rfl (lv_at hl 0 rfl) ?_
      refine gX_doorDepth E hS dX0_door_26 ?_
      refine lv_iload_n hx hb dX0_door_29 rfl (lv_at hl 1 rfl) ?_
      refine lv_iload_n hx hb dX0_door_30 rfl (lv_at hl 3 rfl) ?_
      refine sX_doorDepth E hS (show vp_in q_k 8 from by first | with_reducible assumption | (refine xt_in hI ?_; with_reducible assumption) | (refine xn_in hI ?_ ?_ <;> with_reducible assumption) | with_reducible exact xb_in hI _ | (refine xr_in hI ?_; with_reducible assumption) | (refine xd_in ?_; with_reducible assumption)) dX0_door_31 (fun H locs hS => ?_)
      have hS : SX D ad ca A s (xs_doorDepth (xs_doorBase u (upd (x_doorBase u) (q_k).toNatClampNeg q_base)) (upd (x_doorDepth u) (q_k).toNatClampNeg q_depth)) H locs := hS
      refine lv_iconst (v := 1) hx hb dX0_door_32 (by decide) ?_
      exact EnX.iret E hS (ni_i _) (by first | (simp only [fx_door, if_neg h4, if_neg h12]; done) | (unfold fx_door; rw [if_neg h4, if_neg h12])) dX0_door_33
    · refine lv_bipush (v := (-2)) hx hb dX0_door_15 (by decide) ?_
      exact EnX.iret E hS (ni_i _) (by first | (simp only [fx_door, if_neg h4, if_pos h12]; done) | (unfold fx_door; rw [if_neg h4, if_pos h12])) dX0_door_17
def fx_through (u : XS) (q_x : Int32) (q_k : Int32) (q_n : Int32) : Int32 × XS := if (fx_isThingOrNone u q_x) = 0 then ((-2), u) else (if (fx_isDoor q_k) = 0 then ((-2), u) else (if q_n < 0 then ((-2), u) else (if q_n ≤ (8 - q_k) then (if (fx_firstClosedDoor u q_x q_k q_n) = (-1) then (1, xs_closedDoor u (fx_firstClosedDoor u q_x q_k q_n)) else ((fx_fail (xs_closedDoor u (fx_firstClosedDoor u q_x q_k q_n)) 2).1, (fx_fail (xs_closedDoor u (fx_firstClosedDoor u q_x q_k q_n)) 2).2)) else ((-2), u))))
theorem hd_X0_through : yX0_through.cls = RX0 ∧ yX0_through.cls ≠ "java/lang/invoke/MethodHandle" ∧ yX0_through.cls ≠ "java/lang/invoke/VarHandle" ∧ (parseMethodDescriptor yX0_through.desc).map (fun d => d.parameters.length) = some 3 := by decide +kernel
set_option maxRecDepth 100000 in
set_option maxHeartbeats 4000000 in
theorem kX0_through (l : Launch) (D : va_G) (ad : Nat → Nat) (ca : Nat → ClassId) (g : Nat) (u : XS) (q_x : Int32) (q_k : Int32) (q_n : Int32) (hI : XI u) : CiX l yX0_through cX0_through 4 .int 5 D ad ca g [.int q_x, .int q_k, .int q_n] u (fx_through u q_x q_k q_n) := by
  refine CiX.of (by decide) rfl (Nat.le_of_ble_eq_true rfl) ?_
  intro p e s m below meth c A ls E hS hl
  have hx := E.1.1
  have hb := E.1.2.1
  have hml := E.1.2.2.1
  have hown := E.1.2.2.2.1
  have hts := E.1.2.2.2.2
  have hl : lv_has ls 4 [(0, .ref (ad 0)), (1, .int q_x), (2, .int q_k), (3, .int q_n)] := hl
  refine lv_aload_n hx hb dX0_through_0 rfl (lv_at hl 0 rfl) ?_
  refine lv_iload_n hx hb dX0_through_1 rfl (lv_at hl 1 rfl) ?_
  refine EnX.calli (r := fx_isThingOrNone u q_x) (u2 := u) E hS [.int q_x] [] (kX0_isThingOrNone l D ad ca g u q_x ) gc_X0_73 hd_X0_isThingOrNone ⟨Nat.le_of_ble_eq_true rfl, Nat.le_of_ble_eq_true rfl⟩ rfl hl.1 (Nat.le_of_ble_eq_true rfl) ⟨Nat.le_refl 0, Nat.le_refl 0⟩ dX0_through_2 (fun H locs hS => ?_)
  refine lv_if_eq (tgt := 27) hx hb dX0_through_5 (by decide) (fun h5 => ?_) (fun h5 => ?_)
  · refine lv_bipush (v := (-2)) hx hb dX0_through_27 (by decide) ?_
    exact EnX.iret E hS (ni_i _) (by first | (simp only [fx_through, if_pos h5]; done) | (unfold fx_through; rw [if_pos h5])) dX0_through_29
  · refine lv_iload_n hx hb dX0_through_8 rfl (lv_at hl 2 rfl) ?_
    refine EnX.sti (r := fx_isDoor q_k) E hS [.int q_k] [] (kX0_isDoor l q_k ) (fun _ _ _ _ h => h) (fun _ _ _ => trivial) gc_X0_101 hd_X0_isDoor ⟨Nat.le_of_ble_eq_true rfl, Nat.le_of_ble_eq_true rfl⟩ rfl hl.1 (Nat.le_of_ble_eq_true rfl) ⟨Nat.le_refl 0, Nat.le_refl 0⟩ dX0_through_9 (fun H locs hS => ?_)
    refine lv_if_eq (tgt := 27) hx hb dX0_through_12 (by decide) (fun h12 => ?_) (fun h12 => ?_)
    · refine lv_bipush (v := (-2)) hx hb dX0_through_27 (by decide) ?_
      exact EnX.iret E hS (ni_i _) (by first | (simp only [fx_through, if_neg h5, if_pos h12]; done) | (unfold fx_through; rw [if_neg h5, if_pos h12])) dX0_through_29
    · refine lv_iload_n hx hb dX0_through_15 rfl (lv_at hl 3 rfl) ?_
      refine lv_if_lt (tgt := 27) hx hb dX0_through_16 (by decide) (fun h16 => ?_) (fun h16 => ?_)
      · refine lv_bipush (v := (-2)) hx hb dX0_through_27 (by decide) ?_
        exact EnX.iret E hS (ni_i _) (by first | (simp only [fx_through, if_neg h5, if_neg h12, if_pos h16]; done) | (unfold fx_through; rw [if_neg h5, if_neg h12, if_pos h16])) dX0_through_29
      · refine lv_iload_n hx hb dX0_through_19 rfl (lv_at hl 3 rfl) ?_
        refine lv_bipush (v := 8) hx hb dX0_through_20 (by decide) ?_
        refine lv_iload_n hx hb dX0_through_22 rfl (lv_at hl 2 rfl) ?_
        refine lv_isub hx hb dX0_through_23 ?_
        refine lv_icmp_le (tgt := 30) hx hb dX0_through_24 (by decide) (fun h24 => ?_) (fun h24 => ?_)
        · have hk8 := xd_in h12
          refine lv_aload_n hx hb dX0_through_30 rfl (lv_at hl 0 rfl) ?_
          refine lv_aload_n hx hb dX0_through_31 rfl (lv_at hl 0 rfl) ?_
          refine lv_iload_n hx hb dX0_through_32 rfl (lv_at hl 1 rfl) ?_
          refine lv_iload_n hx hb dX0_through_33 rfl (lv_at hl 2 rfl) ?_
          refine lv_iload_n hx hb dX0_through_34 rfl (lv_at hl 3 rfl) ?_
          refine EnX.calli (r := fx_firstClosedDoor u q_x q_k q_n) (u2 := u) E hS [.int q_x, .int q_k, .int q_n] [.ref (ad 0)] (kX0_firstClosedDoor l D ad ca g u q_x q_k q_n hI ⟨by rw [vp_in_iff] at hk8; omega, by rw [lt_ti, ti0] at h16; omega, by have hq := xk8 hk8; rw [le_ti, hq] at h24; omega⟩) gc_X0_104 hd_X0_firstClosedDoor ⟨Nat.le_of_ble_eq_true rfl, Nat.le_of_ble_eq_true rfl⟩ rfl hl.1 (Nat.le_of_ble_eq_true rfl) ⟨Nat.le_refl 0, Nat.le_refl 0⟩ dX0_through_35 (fun H locs hS => ?_)
          refine pX_closedDoor E hS dX0_through_38 (fun H locs hS => ?_)
          have hS : SX D ad ca A s (xs_closedDoor u (fx_firstClosedDoor u q_x q_k q_n)) H locs := hS
          refine lv_aload_n hx hb dX0_through_41 rfl (lv_at hl 0 rfl) ?_
          refine gX_closedDoor (v := fx_firstClosedDoor u q_x q_k q_n) E hS rfl dX0_through_42 ?_
          refine lv_iconst (v := (-1)) hx hb dX0_through_45 (by decide) ?_
          refine lv_icmp_ne (tgt := 53) hx hb dX0_through_46 (by decide) (fun h46 => ?_) (fun h46 => ?_)
          · refine lv_aload_n hx hb dX0_through_53 rfl (lv_at hl 0 rfl) ?_
            refine lv_iconst (v := 2) hx hb dX0_through_54 (by decide) ?_
            refine EnX.calli (r := (fx_fail (xs_closedDoor u (fx_firstClosedDoor u q_x q_k q_n)) 2).1) (u2 := (fx_fail (xs_closedDoor u (fx_firstClosedDoor u q_x q_k q_n)) 2).2) E hS [.int 2] [] (kX0_fail l D ad ca g (xs_closedDoor u (fx_firstClosedDoor u q_x q_k q_n)) 2 ) gc_X0_57 hd_X0_fail ⟨Nat.le_of_ble_eq_true rfl, Nat.le_of_ble_eq_true rfl⟩ rfl hl.1 (Nat.le_of_ble_eq_true rfl) ⟨Nat.le_refl 0, Nat.le_refl 0⟩ dX0_through_55 (fun H locs hS => ?_)
            exact EnX.iret E hS (ni_i _) (by first | (simp only [fx_through, if_neg h5, if_neg h12, if_neg h16, if_pos h24, if_neg h46]; done) | (unfold fx_through; rw [if_neg h5, if_neg h12, if_neg h16, if_pos h24, if_neg h46])) dX0_through_58
          · refine lv_iconst (v := 1) hx hb dX0_through_49 (by decide) ?_
            refine lv_goto (tgt := 58) hx hb dX0_through_50 (by decide) ?_
            exact EnX.iret E hS (ni_i _) (by first | (simp only [fx_through, if_neg h5, if_neg h12, if_neg h16, if_pos h24, if_pos h46]; done) | (unfold fx_through; rw [if_neg h5, if_neg h12, if_neg h16, if_pos h24, if_pos h46])) dX0_through_58
        · refine lv_bipush (v := (-2)) hx hb dX0_through_27 (by decide) ?_
          exact EnX.iret E hS (ni_i _) (by first | (simp only [fx_through, if_neg h5, if_neg h12, if_neg h16, if_neg h24]; done) | (unfold fx_through; rw [if_neg h5, if_neg h12, if_neg h16, if_neg h24])) dX0_through_29
def fx_lastDoor (u : XS)  : Int32 := x_closedDoor u
theorem hd_X0_lastDoor : yX0_lastDoor.cls = RX0 ∧ yX0_lastDoor.cls ≠ "java/lang/invoke/MethodHandle" ∧ yX0_lastDoor.cls ≠ "java/lang/invoke/VarHandle" ∧ (parseMethodDescriptor yX0_lastDoor.desc).map (fun d => d.parameters.length) = some 0 := by decide +kernel
set_option maxRecDepth 100000 in
set_option maxHeartbeats 4000000 in
theorem kX0_lastDoor (l : Launch) (D : va_G) (ad : Nat → Nat) (ca : Nat → ClassId) (g : Nat) (u : XS)   : CiX l yX0_lastDoor cX0_lastDoor 1 .int 1 D ad ca g [] u ((fx_lastDoor u, u)) := by
  refine CiX.of (by decide) rfl (Nat.le_of_ble_eq_true rfl) ?_
  intro p e s m below meth c A ls E hS hl
  have hx := E.1.1
  have hb := E.1.2.1
  have hml := E.1.2.2.1
  have hown := E.1.2.2.2.1
  have hts := E.1.2.2.2.2
  have hl : lv_has ls 1 [(0, .ref (ad 0))] := hl
  refine lv_aload_n hx hb dX0_lastDoor_0 rfl (lv_at hl 0 rfl) ?_
  refine gX_closedDoor (v := x_closedDoor u) E hS rfl dX0_lastDoor_1 ?_
  exact EnX.iret E hS (ni_i _) (congrArg (fun z => (z, u)) (show x_closedDoor u = fx_lastDoor u by unfold fx_lastDoor; rfl)) dX0_lastDoor_4
def fx_worth (u : XS) (q_x : Int32) : Int64 := fx_worthWithin u q_x 3
theorem hd_X0_worth : yX0_worth.cls = RX0 ∧ yX0_worth.cls ≠ "java/lang/invoke/MethodHandle" ∧ yX0_worth.cls ≠ "java/lang/invoke/VarHandle" ∧ (parseMethodDescriptor yX0_worth.desc).map (fun d => d.parameters.length) = some 1 := by decide +kernel
set_option maxRecDepth 100000 in
set_option maxHeartbeats 4000000 in
theorem kX0_worth (l : Launch) (D : va_G) (ad : Nat → Nat) (ca : Nat → ClassId) (g : Nat) (u : XS) (q_x : Int32) (hI : XI u) : ClX l yX0_worth cX0_worth 2 9 D ad ca g [.int q_x] u ((fx_worth u q_x, u)) := by
  refine ClX.of (by decide) rfl (Nat.le_of_ble_eq_true rfl) ?_
  intro p e s m below meth c A ls E hS hl
  have hx := E.1.1
  have hb := E.1.2.1
  have hml := E.1.2.2.1
  have hown := E.1.2.2.2.1
  have hts := E.1.2.2.2.2
  have hl : lv_has ls 2 [(0, .ref (ad 0)), (1, .int q_x)] := hl
  refine lv_aload_n hx hb dX0_worth_0 rfl (lv_at hl 0 rfl) ?_
  refine lv_iload_n hx hb dX0_worth_1 rfl (lv_at hl 1 rfl) ?_
  refine lv_iconst (v := 3) hx hb dX0_worth_2 (by decide) ?_
  refine EnX.calll (r := fx_worthWithin u q_x 3) (u2 := u) E hS [.int q_x, .int 3] [] (kX0_worthWithin l D ad ca g u q_x 3 hI (by decide)) gc_X0_107 hd_X0_worthWithin ⟨Nat.le_of_ble_eq_true rfl, Nat.le_of_ble_eq_true rfl⟩ rfl hl.1 (Nat.le_of_ble_eq_true rfl) ⟨Nat.le_refl 0, Nat.le_refl 0⟩ dX0_worth_3 (fun H locs hS => ?_)
  exact EnX.lret E hS (congrArg (fun z => (z, u)) (show fx_worthWithin u q_x 3 = fx_worth u q_x by unfold fx_worth; rfl)) dX0_worth_6
end
section
def fx_copy (u : XS) (q_x : Int32) : Int32 × XS := if (fx_isThingOrNone u q_x) = 0 then ((-2), u) else (if (fx_hasRoomFor u 1) = 0 then ((-3), u) else (if q_x = (-1) then ((fx_fail u 1).1, (fx_fail u 1).2) else (if (fx_isPiece u q_x) = 0 then ((fx_addThing u (x_thingBase u (q_x).toNatClampNeg) (x_thingDepth u (q_x).toNatClampNeg) (x_thingSize u (q_x).toNatClampNeg)).1, fx_movePlaces ((fx_addThing u (x_thingBase u (q_x).toNatClampNeg) (x_thingDepth u (q_x).toNatClampNeg) (x_thingSize u (q_x).toNatClampNeg)).2) q_x 0 ((fx_addThing u (x_thingBase u (q_x).toNatClampNeg) (x_thingDepth u (q_x).toNatClampNeg) (x_thingSize u (q_x).toNatClampNeg)).1) 0 (x_thingSize ((fx_addThing u (x_thingBase u (q_x).toNatClampNeg) (x_thingDepth u (q_x).toNatClampNeg) (x_thingSize u (q_x).toNatClampNeg)).2) (q_x).toNatClampNeg)) else ((fx_fail u 2).1, (fx_fail u 2).2))))
theorem hd_X0_copy : yX0_copy.cls = RX0 ∧ yX0_copy.cls ≠ "java/lang/invoke/MethodHandle" ∧ yX0_copy.cls ≠ "java/lang/invoke/VarHandle" ∧ (parseMethodDescriptor yX0_copy.desc).map (fun d => d.parameters.length) = some 1 := by decide +kernel
set_option maxRecDepth 100000 in
set_option maxHeartbeats 4000000 in
theorem kX0_copy (l : Launch) (D : va_G) (ad : Nat → Nat) (ca : Nat → ClassId) (g : Nat) (u : XS) (q_x : Int32) (hI : XI u) : CiX l yX0_copy cX0_copy 3 .int 3 D ad ca g [.int q_x] u (fx_copy u q_x) := by
  refine CiX.of (by decide) rfl (Nat.le_of_ble_eq_true rfl) ?_
  intro p e s m below meth c A ls E hS hl
  have hx := E.1.1
  have hb := E.1.2.1
  have hml := E.1.2.2.1
  have hown := E.1.2.2.2.1
  have hts := E.1.2.2.2.2
  have hl : lv_has ls 3 [(0, .ref (ad 0)), (1, .int q_x)] := hl
  refine lv_aload_n hx hb dX0_copy_0 rfl (lv_at hl 0 rfl) ?_
  refine lv_iload_n hx hb dX0_copy_1 rfl (lv_at hl 1 rfl) ?_
  refine EnX.calli (r := fx_isThingOrNone u q_x) (u2 := u) E hS [.int q_x] [] (kX0_isThingOrNone l D ad ca g u q_x ) gc_X0_73 hd_X0_isThingOrNone ⟨Nat.le_of_ble_eq_true rfl, Nat.le_of_ble_eq_true rfl⟩ rfl hl.1 (Nat.le_of_ble_eq_true rfl) ⟨Nat.le_refl 0, Nat.le_refl 0⟩ dX0_copy_2 (fun H locs hS => ?_)
  refine lv_if_ne (tgt := 11) hx hb dX0_copy_5 (by decide) (fun h5 => ?_) (fun h5 => ?_)
  · refine lv_aload_n hx hb dX0_copy_11 rfl (lv_at hl 0 rfl) ?_
    refine lv_iconst (v := 1) hx hb dX0_copy_12 (by decide) ?_
    refine EnX.calli (r := fx_hasRoomFor u 1) (u2 := u) E hS [.int 1] [] (kX0_hasRoomFor l D ad ca g u 1 ) gc_X0_45 hd_X0_hasRoomFor ⟨Nat.le_of_ble_eq_true rfl, Nat.le_of_ble_eq_true rfl⟩ rfl hl.1 (Nat.le_of_ble_eq_true rfl) ⟨Nat.le_refl 0, Nat.le_refl 0⟩ dX0_copy_13 (fun H locs hS => ?_)
    refine lv_if_ne (tgt := 22) hx hb dX0_copy_16 (by decide) (fun h16 => ?_) (fun h16 => ?_)
    · refine lv_iload_n hx hb dX0_copy_22 rfl (lv_at hl 1 rfl) ?_
      refine lv_iconst (v := (-1)) hx hb dX0_copy_23 (by decide) ?_
      refine lv_icmp_ne (tgt := 33) hx hb dX0_copy_24 (by decide) (fun h24 => ?_) (fun h24 => ?_)
      · refine lv_aload_n hx hb dX0_copy_33 rfl (lv_at hl 0 rfl) ?_
        refine lv_iload_n hx hb dX0_copy_34 rfl (lv_at hl 1 rfl) ?_
        refine EnX.calli (r := fx_isPiece u q_x) (u2 := u) E hS [.int q_x] [] (kX0_isPiece l D ad ca g u q_x (by first | with_reducible assumption | (refine xt_in hI ?_; with_reducible assumption) | (refine xn_in hI ?_ ?_ <;> with_reducible assumption) | with_reducible exact xb_in hI _ | (refine xr_in hI ?_; with_reducible assumption) | (refine xd_in ?_; with_reducible assumption))) gc_X0_111 hd_X0_isPiece ⟨Nat.le_of_ble_eq_true rfl, Nat.le_of_ble_eq_true rfl⟩ rfl hl.1 (Nat.le_of_ble_eq_true rfl) ⟨Nat.le_refl 0, Nat.le_refl 0⟩ dX0_copy_35 (fun H locs hS => ?_)
        refine lv_if_eq (tgt := 47) hx hb dX0_copy_38 (by decide) (fun h38 => ?_) (fun h38 => ?_)
        · refine lv_aload_n hx hb dX0_copy_47 rfl (lv_at hl 0 rfl) ?_
          refine lv_aload_n hx hb dX0_copy_48 rfl (lv_at hl 0 rfl) ?_
          refine gX_thingBase E hS dX0_copy_49 ?_
          refine lv_iload_n hx hb dX0_copy_52 rfl (lv_at hl 1 rfl) ?_
          refine lX_thingBase (v := x_thingBase u (q_x).toNatClampNeg) E hS (show vp_in q_x 60 from by first | with_reducible assumption | (refine xt_in hI ?_; with_reducible assumption) | (refine xn_in hI ?_ ?_ <;> with_reducible assumption) | with_reducible exact xb_in hI _ | (refine xr_in hI ?_; with_reducible assumption) | (refine xd_in ?_; with_reducible assumption)) rfl dX0_copy_53 ?_
          refine lv_aload_n hx hb dX0_copy_54 rfl (lv_at hl 0 rfl) ?_
          refine gX_thingDepth E hS dX0_copy_55 ?_
          refine lv_iload_n hx hb dX0_copy_58 rfl (lv_at hl 1 rfl) ?_
          refine lX_thingDepth (v := x_thingDepth u (q_x).toNatClampNeg) E hS (show vp_in q_x 60 from by first | with_reducible assumption | (refine xt_in hI ?_; with_reducible assumption) | (refine xn_in hI ?_ ?_ <;> with_reducible assumption) | with_reducible exact xb_in hI _ | (refine xr_in hI ?_; with_reducible assumption) | (refine xd_in ?_; with_reducible assumption)) rfl dX0_copy_59 ?_
          refine lv_aload_n hx hb dX0_copy_60 rfl (lv_at hl 0 rfl) ?_
          refine gX_thingSize E hS dX0_copy_61 ?_
          refine lv_iload_n hx hb dX0_copy_64 rfl (lv_at hl 1 rfl) ?_
          refine lX_thingSize (v := x_thingSize u (q_x).toNatClampNeg) E hS (show vp_in q_x 60 from by first | with_reducible assumption | (refine xt_in hI ?_; with_reducible assumption) | (refine xn_in hI ?_ ?_ <;> with_reducible assumption) | with_reducible exact xb_in hI _ | (refine xr_in hI ?_; with_reducible assumption) | (refine xd_in ?_; with_reducible assumption)) rfl dX0_copy_65 ?_
          refine EnX.calli (r := (fx_addThing u (x_thingBase u (q_x).toNatClampNeg) (x_thingDepth u (q_x).toNatClampNeg) (x_thingSize u (q_x).toNatClampNeg)).1) (u2 := (fx_addThing u (x_thingBase u (q_x).toNatClampNeg) (x_thingDepth u (q_x).toNatClampNeg) (x_thingSize u (q_x).toNatClampNeg)).2) E hS [.int (x_thingBase u (q_x).toNatClampNeg), .int (x_thingDepth u (q_x).toNatClampNeg), .int (x_thingSize u (q_x).toNatClampNeg)] [] (kX0_addThing l D ad ca g u (x_thingBase u (q_x).toNatClampNeg) (x_thingDepth u (q_x).toNatClampNeg) (x_thingSize u (q_x).toNatClampNeg) (by first | with_reducible assumption | (refine xt_in hI ?_; with_reducible assumption) | (refine xn_in hI ?_ ?_ <;> with_reducible assumption) | with_reducible exact xb_in hI _ | (refine xr_in hI ?_; with_reducible assumption) | (refine xd_in ?_; with_reducible assumption))) gc_X0_49 hd_X0_addThing ⟨Nat.le_of_ble_eq_true rfl, Nat.le_of_ble_eq_true rfl⟩ rfl hl.1 (Nat.le_of_ble_eq_true rfl) ⟨Nat.le_refl 0, Nat.le_refl 0⟩ dX0_copy_66 (fun H locs hS => ?_)
          have hz := at_sz (b := x_thingBase u (q_x).toNatClampNeg) (d := x_thingDepth u (q_x).toNatClampNeg) (n := x_thingSize u (q_x).toNatClampNeg) hI (hI.2.2 (q_x).toNatClampNeg) (q_x).toNatClampNeg
          refine lv_istore_n (lv' := [(2, .int ((fx_addThing u (x_thingBase u (q_x).toNatClampNeg) (x_thingDepth u (q_x).toNatClampNeg) (x_thingSize u (q_x).toNatClampNeg)).1)), (0, .ref (ad 0)), (1, .int q_x)]) hx hb dX0_copy_69 rfl hl (by decide) rfl (fun ls hl => ?_)
          refine lv_aload_n hx hb dX0_copy_70 rfl (lv_at hl 1 rfl) ?_
          refine lv_iload_n hx hb dX0_copy_71 rfl (lv_at hl 2 rfl) ?_
          refine lv_iconst (v := 0) hx hb dX0_copy_72 (by decide) ?_
          refine lv_iload_n hx hb dX0_copy_73 rfl (lv_at hl 0 rfl) ?_
          refine lv_iconst (v := 0) hx hb dX0_copy_74 (by decide) ?_
          refine lv_aload_n hx hb dX0_copy_75 rfl (lv_at hl 1 rfl) ?_
          refine gX_thingSize E hS dX0_copy_76 ?_
          refine lv_iload_n hx hb dX0_copy_79 rfl (lv_at hl 2 rfl) ?_
          refine lX_thingSize (v := x_thingSize ((fx_addThing u (x_thingBase u (q_x).toNatClampNeg) (x_thingDepth u (q_x).toNatClampNeg) (x_thingSize u (q_x).toNatClampNeg)).2) (q_x).toNatClampNeg) E hS (show vp_in q_x 60 from by first | with_reducible assumption | (refine xt_in hI ?_; with_reducible assumption) | (refine xn_in hI ?_ ?_ <;> with_reducible assumption) | with_reducible exact xb_in hI _ | (refine xr_in hI ?_; with_reducible assumption) | (refine xd_in ?_; with_reducible assumption)) rfl dX0_copy_80 ?_
          refine EnX.callv (u2 := fx_movePlaces ((fx_addThing u (x_thingBase u (q_x).toNatClampNeg) (x_thingDepth u (q_x).toNatClampNeg) (x_thingSize u (q_x).toNatClampNeg)).2) q_x 0 ((fx_addThing u (x_thingBase u (q_x).toNatClampNeg) (x_thingDepth u (q_x).toNatClampNeg) (x_thingSize u (q_x).toNatClampNeg)).1) 0 (x_thingSize ((fx_addThing u (x_thingBase u (q_x).toNatClampNeg) (x_thingDepth u (q_x).toNatClampNeg) (x_thingSize u (q_x).toNatClampNeg)).2) (q_x).toNatClampNeg)) E hS [.int q_x, .int 0, .int ((fx_addThing u (x_thingBase u (q_x).toNatClampNeg) (x_thingDepth u (q_x).toNatClampNeg) (x_thingSize u (q_x).toNatClampNeg)).1), .int 0, .int (x_thingSize ((fx_addThing u (x_thingBase u (q_x).toNatClampNeg) (x_thingDepth u (q_x).toNatClampNeg) (x_thingSize u (q_x).toNatClampNeg)).2) (q_x).toNatClampNeg)] [] (kX0_movePlaces l D ad ca g ((fx_addThing u (x_thingBase u (q_x).toNatClampNeg) (x_thingDepth u (q_x).toNatClampNeg) (x_thingSize u (q_x).toNatClampNeg)).2) q_x 0 ((fx_addThing u (x_thingBase u (q_x).toNatClampNeg) (x_thingDepth u (q_x).toNatClampNeg) (x_thingSize u (q_x).toNatClampNeg)).1) 0 (x_thingSize ((fx_addThing u (x_thingBase u (q_x).toNatClampNeg) (x_thingDepth u (q_x).toNatClampNeg) (x_thingSize u (q_x).toNatClampNeg)).2) (q_x).toNatClampNeg) (mv_1 (xn_in hI (by with_reducible assumption) (by with_reducible assumption)) (by decide) (by decide)) (mv_1 (by rw [at_1]; exact xr_in hI h16) (by decide) (by decide)) (mv_3 hz.1) (mv_4 (xn_in hI (by with_reducible assumption) (by with_reducible assumption)) (by decide) hz.1 (by rw [ti0]; omega)) (mv_4 (by rw [at_1]; exact xr_in hI h16) (by decide) hz.1 (by rw [ti0]; omega))) gc_X0_114 hd_X0_movePlaces ⟨Nat.le_of_ble_eq_true rfl, Nat.le_of_ble_eq_true rfl⟩ rfl hl.1 (Nat.le_of_ble_eq_true rfl) ⟨Nat.le_refl 0, Nat.le_refl 0⟩ dX0_copy_81 (fun H locs hS => ?_)
          refine lv_iload_n hx hb dX0_copy_84 rfl (lv_at hl 0 rfl) ?_
          exact EnX.iret E hS (ni_i _) (by first | (simp only [fx_copy, if_neg h5, if_neg h16, if_neg h24, if_pos h38]; done) | (unfold fx_copy; rw [if_neg h5, if_neg h16, if_neg h24, if_pos h38])) dX0_copy_85
        · refine lv_aload_n hx hb dX0_copy_41 rfl (lv_at hl 0 rfl) ?_
          refine lv_iconst (v := 2) hx hb dX0_copy_42 (by decide) ?_
          refine EnX.calli (r := (fx_fail u 2).1) (u2 := (fx_fail u 2).2) E hS [.int 2] [] (kX0_fail l D ad ca g u 2 ) gc_X0_57 hd_X0_fail ⟨Nat.le_of_ble_eq_true rfl, Nat.le_of_ble_eq_true rfl⟩ rfl hl.1 (Nat.le_of_ble_eq_true rfl) ⟨Nat.le_refl 0, Nat.le_refl 0⟩ dX0_copy_43 (fun H locs hS => ?_)
          exact EnX.iret E hS (ni_i _) (by first | (simp only [fx_copy, if_neg h5, if_neg h16, if_neg h24, if_neg h38]; done) | (unfold fx_copy; rw [if_neg h5, if_neg h16, if_neg h24, if_neg h38])) dX0_copy_46
      · refine lv_aload_n hx hb dX0_copy_27 rfl (lv_at hl 0 rfl) ?_
        refine lv_iconst (v := 1) hx hb dX0_copy_28 (by decide) ?_
        refine EnX.calli (r := (fx_fail u 1).1) (u2 := (fx_fail u 1).2) E hS [.int 1] [] (kX0_fail l D ad ca g u 1 ) gc_X0_57 hd_X0_fail ⟨Nat.le_of_ble_eq_true rfl, Nat.le_of_ble_eq_true rfl⟩ rfl hl.1 (Nat.le_of_ble_eq_true rfl) ⟨Nat.le_refl 0, Nat.le_refl 0⟩ dX0_copy_29 (fun H locs hS => ?_)
        exact EnX.iret E hS (ni_i _) (by first | (simp only [fx_copy, if_neg h5, if_neg h16, if_pos h24]; done) | (unfold fx_copy; rw [if_neg h5, if_neg h16, if_pos h24])) dX0_copy_32
    · refine lv_bipush (v := (-3)) hx hb dX0_copy_19 (by decide) ?_
      exact EnX.iret E hS (ni_i _) (by first | (simp only [fx_copy, if_neg h5, if_pos h16]; done) | (unfold fx_copy; rw [if_neg h5, if_pos h16])) dX0_copy_21
  · refine lv_bipush (v := (-2)) hx hb dX0_copy_8 (by decide) ?_
    exact EnX.iret E hS (ni_i _) (by first | (simp only [fx_copy, if_pos h5]; done) | (unfold fx_copy; rw [if_pos h5])) dX0_copy_10
end
section
def fx_carry (u : XS) (q_r : Int32) (q_i : Int32) (q_s : Int32) (q_j : Int32) (q_n : Int32) : Int32 × XS := if (fx_isThingOrNone u q_r) = 0 then ((-2), u) else (if (fx_isThingOrNone u q_s) = 0 then ((-2), u) else (if q_r = (-1) then ((fx_fail u 1).1, (fx_fail u 1).2) else (if q_s = (-1) then ((fx_fail u 1).1, (fx_fail u 1).2) else (if (fx_areAlike u q_r q_s) = 0 then ((fx_fail u 4).1, (fx_fail u 4).2) else (if (fx_hasPlaces u q_r q_i q_n) = 0 then ((fx_fail u 3).1, (fx_fail u 3).2) else (if (fx_hasPlaces u q_s q_j q_n) = 0 then ((fx_fail u 3).1, (fx_fail u 3).2) else (if (fx_isLedger u q_s) = 0 then (if (fx_countGoing u q_r q_i q_s q_n) = q_n then (1, fx_movePlaces u q_r q_i q_s q_j (fx_countGoing u q_r q_i q_s q_n)) else ((fx_fail (fx_movePlaces u q_r q_i q_s q_j (fx_countGoing u q_r q_i q_s q_n)) 4).1, (fx_fail (fx_movePlaces u q_r q_i q_s q_j (fx_countGoing u q_r q_i q_s q_n)) 4).2)) else (if q_n = q_n then (1, fx_movePlaces u q_r q_i q_s q_j q_n) else ((fx_fail (fx_movePlaces u q_r q_i q_s q_j q_n) 4).1, (fx_fail (fx_movePlaces u q_r q_i q_s q_j q_n) 4).2)))))))))
theorem hd_X0_carry : yX0_carry.cls = RX0 ∧ yX0_carry.cls ≠ "java/lang/invoke/MethodHandle" ∧ yX0_carry.cls ≠ "java/lang/invoke/VarHandle" ∧ (parseMethodDescriptor yX0_carry.desc).map (fun d => d.parameters.length) = some 5 := by decide +kernel
set_option maxRecDepth 100000 in
set_option maxHeartbeats 4000000 in
theorem kX0_carry (l : Launch) (D : va_G) (ad : Nat → Nat) (ca : Nat → ClassId) (g : Nat) (u : XS) (q_r : Int32) (q_i : Int32) (q_s : Int32) (q_j : Int32) (q_n : Int32) (hI : XI u) : CiX l yX0_carry cX0_carry 7 .int 6 D ad ca g [.int q_r, .int q_i, .int q_s, .int q_j, .int q_n] u (fx_carry u q_r q_i q_s q_j q_n) := by
  refine CiX.of (by decide) rfl (Nat.le_of_ble_eq_true rfl) ?_
  intro p e s m below meth c A ls E hS hl
  have hx := E.1.1
  have hb := E.1.2.1
  have hml := E.1.2.2.1
  have hown := E.1.2.2.2.1
  have hts := E.1.2.2.2.2
  have hl : lv_has ls 7 [(0, .ref (ad 0)), (1, .int q_r), (2, .int q_i), (3, .int q_s), (4, .int q_j), (5, .int q_n)] := hl
  refine lv_aload_n hx hb dX0_carry_0 rfl (lv_at hl 0 rfl) ?_
  refine lv_iload_n hx hb dX0_carry_1 rfl (lv_at hl 1 rfl) ?_
  refine EnX.calli (r := fx_isThingOrNone u q_r) (u2 := u) E hS [.int q_r] [] (kX0_isThingOrNone l D ad ca g u q_r ) gc_X0_73 hd_X0_isThingOrNone ⟨Nat.le_of_ble_eq_true rfl, Nat.le_of_ble_eq_true rfl⟩ rfl hl.1 (Nat.le_of_ble_eq_true rfl) ⟨Nat.le_refl 0, Nat.le_refl 0⟩ dX0_carry_2 (fun H locs hS => ?_)
  refine lv_if_eq (tgt := 16) hx hb dX0_carry_5 (by decide) (fun h5 => ?_) (fun h5 => ?_)
  · refine lv_bipush (v := (-2)) hx hb dX0_carry_16 (by decide) ?_
    exact EnX.iret E hS (ni_i _) (by first | (simp only [fx_carry, if_pos h5]; done) | (unfold fx_carry; rw [if_pos h5])) dX0_carry_18
  · refine lv_aload_n hx hb dX0_carry_8 rfl (lv_at hl 0 rfl) ?_
    refine lv_iload_n hx hb dX0_carry_9 rfl (lv_at hl 3 rfl) ?_
    refine EnX.calli (r := fx_isThingOrNone u q_s) (u2 := u) E hS [.int q_s] [] (kX0_isThingOrNone l D ad ca g u q_s ) gc_X0_73 hd_X0_isThingOrNone ⟨Nat.le_of_ble_eq_true rfl, Nat.le_of_ble_eq_true rfl⟩ rfl hl.1 (Nat.le_of_ble_eq_true rfl) ⟨Nat.le_refl 0, Nat.le_refl 0⟩ dX0_carry_10 (fun H locs hS => ?_)
    refine lv_if_ne (tgt := 19) hx hb dX0_carry_13 (by decide) (fun h13 => ?_) (fun h13 => ?_)
    · refine lv_iload_n hx hb dX0_carry_19 rfl (lv_at hl 1 rfl) ?_
      refine lv_iconst (v := (-1)) hx hb dX0_carry_20 (by decide) ?_
      refine lv_icmp_eq (tgt := 29) hx hb dX0_carry_21 (by decide) (fun h21 => ?_) (fun h21 => ?_)
      · refine lv_aload_n hx hb dX0_carry_29 rfl (lv_at hl 0 rfl) ?_
        refine lv_iconst (v := 1) hx hb dX0_carry_30 (by decide) ?_
        refine EnX.calli (r := (fx_fail u 1).1) (u2 := (fx_fail u 1).2) E hS [.int 1] [] (kX0_fail l D ad ca g u 1 ) gc_X0_57 hd_X0_fail ⟨Nat.le_of_ble_eq_true rfl, Nat.le_of_ble_eq_true rfl⟩ rfl hl.1 (Nat.le_of_ble_eq_true rfl) ⟨Nat.le_refl 0, Nat.le_refl 0⟩ dX0_carry_31 (fun H locs hS => ?_)
        exact EnX.iret E hS (ni_i _) (by first | (simp only [fx_carry, if_neg h5, if_neg h13, if_pos h21]; done) | (unfold fx_carry; rw [if_neg h5, if_neg h13, if_pos h21])) dX0_carry_34
      · refine lv_iload_n hx hb dX0_carry_24 rfl (lv_at hl 3 rfl) ?_
        refine lv_iconst (v := (-1)) hx hb dX0_carry_25 (by decide) ?_
        refine lv_icmp_ne (tgt := 35) hx hb dX0_carry_26 (by decide) (fun h26 => ?_) (fun h26 => ?_)
        · refine lv_aload_n hx hb dX0_carry_35 rfl (lv_at hl 0 rfl) ?_
          refine lv_iload_n hx hb dX0_carry_36 rfl (lv_at hl 1 rfl) ?_
          refine lv_iload_n hx hb dX0_carry_37 rfl (lv_at hl 3 rfl) ?_
          refine EnX.calli (r := fx_areAlike u q_r q_s) (u2 := u) E hS [.int q_r, .int q_s] [] (kX0_areAlike l D ad ca g u q_r q_s (by first | with_reducible assumption | (refine xt_in hI ?_; with_reducible assumption) | (refine xn_in hI ?_ ?_ <;> with_reducible assumption) | with_reducible exact xb_in hI _ | (refine xr_in hI ?_; with_reducible assumption) | (refine xd_in ?_; with_reducible assumption)) (by first | with_reducible assumption | (refine xt_in hI ?_; with_reducible assumption) | (refine xn_in hI ?_ ?_ <;> with_reducible assumption) | with_reducible exact xb_in hI _ | (refine xr_in hI ?_; with_reducible assumption) | (refine xd_in ?_; with_reducible assumption))) gc_X0_118 hd_X0_areAlike ⟨Nat.le_of_ble_eq_true rfl, Nat.le_of_ble_eq_true rfl⟩ rfl hl.1 (Nat.le_of_ble_eq_true rfl) ⟨Nat.le_refl 0, Nat.le_refl 0⟩ dX0_carry_38 (fun H locs hS => ?_)
          refine lv_if_ne (tgt := 50) hx hb dX0_carry_41 (by decide) (fun h41 => ?_) (fun h41 => ?_)
          · refine lv_aload_n hx hb dX0_carry_50 rfl (lv_at hl 0 rfl) ?_
            refine lv_iload_n hx hb dX0_carry_51 rfl (lv_at hl 1 rfl) ?_
            refine lv_iload_n hx hb dX0_carry_52 rfl (lv_at hl 2 rfl) ?_
            refine lv_iload hx hb dX0_carry_53 (lv_at hl 5 rfl) ?_
            refine EnX.calli (r := fx_hasPlaces u q_r q_i q_n) (u2 := u) E hS [.int q_r, .int q_i, .int q_n] [] (kX0_hasPlaces l D ad ca g u q_r q_i q_n (by first | with_reducible assumption | (refine xt_in hI ?_; with_reducible assumption) | (refine xn_in hI ?_ ?_ <;> with_reducible assumption) | with_reducible exact xb_in hI _ | (refine xr_in hI ?_; with_reducible assumption) | (refine xd_in ?_; with_reducible assumption))) gc_X0_121 hd_X0_hasPlaces ⟨Nat.le_of_ble_eq_true rfl, Nat.le_of_ble_eq_true rfl⟩ rfl hl.1 (Nat.le_of_ble_eq_true rfl) ⟨Nat.le_refl 0, Nat.le_refl 0⟩ dX0_carry_55 (fun H locs hS => ?_)
            refine lv_if_eq (tgt := 73) hx hb dX0_carry_58 (by decide) (fun h58 => ?_) (fun h58 => ?_)
            · refine lv_aload_n hx hb dX0_carry_73 rfl (lv_at hl 0 rfl) ?_
              refine lv_iconst (v := 3) hx hb dX0_carry_74 (by decide) ?_
              refine EnX.calli (r := (fx_fail u 3).1) (u2 := (fx_fail u 3).2) E hS [.int 3] [] (kX0_fail l D ad ca g u 3 ) gc_X0_57 hd_X0_fail ⟨Nat.le_of_ble_eq_true rfl, Nat.le_of_ble_eq_true rfl⟩ rfl hl.1 (Nat.le_of_ble_eq_true rfl) ⟨Nat.le_refl 0, Nat.le_refl 0⟩ dX0_carry_75 (fun H locs hS => ?_)
              exact EnX.iret E hS (ni_i _) (by first | (simp only [fx_carry, if_neg h5, if_neg h13, if_neg h21, if_neg h26, if_neg h41, if_pos h58]; done) | (unfold fx_carry; rw [if_neg h5, if_neg h13, if_neg h21, if_neg h26, if_neg h41, if_pos h58])) dX0_carry_78
            · refine lv_aload_n hx hb dX0_carry_61 rfl (lv_at hl 0 rfl) ?_
              refine lv_iload_n hx hb dX0_carry_62 rfl (lv_at hl 3 rfl) ?_
              refine lv_iload hx hb dX0_carry_63 (lv_at hl 4 rfl) ?_
              refine lv_iload hx hb dX0_carry_65 (lv_at hl 5 rfl) ?_
              refine EnX.calli (r := fx_hasPlaces u q_s q_j q_n) (u2 := u) E hS [.int q_s, .int q_j, .int q_n] [] (kX0_hasPlaces l D ad ca g u q_s q_j q_n (by first | with_reducible assumption | (refine xt_in hI ?_; with_reducible assumption) | (refine xn_in hI ?_ ?_ <;> with_reducible assumption) | with_reducible exact xb_in hI _ | (refine xr_in hI ?_; with_reducible assumption) | (refine xd_in ?_; with_reducible assumption))) gc_X0_121 hd_X0_hasPlaces ⟨Nat.le_of_ble_eq_true rfl, Nat.le_of_ble_eq_true rfl⟩ rfl hl.1 (Nat.le_of_ble_eq_true rfl) ⟨Nat.le_refl 0, Nat.le_refl 0⟩ dX0_carry_67 (fun H locs hS => ?_)
              refine lv_if_ne (tgt := 79) hx hb dX0_carry_70 (by decide) (fun h70 => ?_) (fun h70 => ?_)
              · have hqr := xn_in hI h5 h21
                have hqs := xn_in hI h13 h26
                have b1 := xps hI h58
                have b2 := xps hI h70
                have b3 := cg_r (u := u) (r := q_r) (i := q_i) (s := q_s) (n := q_n) (by omega)
                refine lv_aload_n hx hb dX0_carry_79 rfl (lv_at hl 0 rfl) ?_
                refine lv_iload_n hx hb dX0_carry_80 rfl (lv_at hl 3 rfl) ?_
                refine EnX.calli (r := fx_isLedger u q_s) (u2 := u) E hS [.int q_s] [] (kX0_isLedger l D ad ca g u q_s (by first | with_reducible assumption | (refine xt_in hI ?_; with_reducible assumption) | (refine xn_in hI ?_ ?_ <;> with_reducible assumption) | with_reducible exact xb_in hI _ | (refine xr_in hI ?_; with_reducible assumption) | (refine xd_in ?_; with_reducible assumption))) gc_X0_124 hd_X0_isLedger ⟨Nat.le_of_ble_eq_true rfl, Nat.le_of_ble_eq_true rfl⟩ rfl hl.1 (Nat.le_of_ble_eq_true rfl) ⟨Nat.le_refl 0, Nat.le_refl 0⟩ dX0_carry_81 (fun H locs hS => ?_)
                refine lv_if_eq (tgt := 92) hx hb dX0_carry_84 (by decide) (fun h84 => ?_) (fun h84 => ?_)
                · refine lv_aload_n hx hb dX0_carry_92 rfl (lv_at hl 0 rfl) ?_
                  refine lv_iload_n hx hb dX0_carry_93 rfl (lv_at hl 1 rfl) ?_
                  refine lv_iload_n hx hb dX0_carry_94 rfl (lv_at hl 2 rfl) ?_
                  refine lv_iload_n hx hb dX0_carry_95 rfl (lv_at hl 3 rfl) ?_
                  refine lv_iload hx hb dX0_carry_96 (lv_at hl 5 rfl) ?_
                  refine EnX.calli (r := fx_countGoing u q_r q_i q_s q_n) (u2 := u) E hS [.int q_r, .int q_i, .int q_s, .int q_n] [] (kX0_countGoing l D ad ca g u q_r q_i q_s q_n hI hqr hqs (by omega)) gc_X0_127 hd_X0_countGoing ⟨Nat.le_of_ble_eq_true rfl, Nat.le_of_ble_eq_true rfl⟩ rfl hl.1 (Nat.le_of_ble_eq_true rfl) ⟨Nat.le_refl 0, Nat.le_refl 0⟩ dX0_carry_98 (fun H locs hS => ?_)
                  refine lv_istore (lv' := [(6, .int (fx_countGoing u q_r q_i q_s q_n)), (0, .ref (ad 0)), (1, .int q_r), (2, .int q_i), (3, .int q_s), (4, .int q_j), (5, .int q_n)]) hx hb dX0_carry_101 hl (by decide) rfl (fun ls hl => ?_)
                  refine lv_aload_n hx hb dX0_carry_103 rfl (lv_at hl 1 rfl) ?_
                  refine lv_iload_n hx hb dX0_carry_104 rfl (lv_at hl 2 rfl) ?_
                  refine lv_iload_n hx hb dX0_carry_105 rfl (lv_at hl 3 rfl) ?_
                  refine lv_iload_n hx hb dX0_carry_106 rfl (lv_at hl 4 rfl) ?_
                  refine lv_iload hx hb dX0_carry_107 (lv_at hl 5 rfl) ?_
                  refine lv_iload hx hb dX0_carry_109 (lv_at hl 0 rfl) ?_
                  refine EnX.callv (u2 := fx_movePlaces u q_r q_i q_s q_j (fx_countGoing u q_r q_i q_s q_n)) E hS [.int q_r, .int q_i, .int q_s, .int q_j, .int (fx_countGoing u q_r q_i q_s q_n)] [] (kX0_movePlaces l D ad ca g u q_r q_i q_s q_j (fx_countGoing u q_r q_i q_s q_n) (mv_1 hqr (by omega) (by omega)) (mv_1 hqs (by omega) (by omega)) (mv_3 (by omega)) (mv_4 hqr (by omega) (by omega) (by omega)) (mv_4 hqs (by omega) (by omega) (by omega))) gc_X0_114 hd_X0_movePlaces ⟨Nat.le_of_ble_eq_true rfl, Nat.le_of_ble_eq_true rfl⟩ rfl hl.1 (Nat.le_of_ble_eq_true rfl) ⟨Nat.le_refl 0, Nat.le_refl 0⟩ dX0_carry_111 (fun H locs hS => ?_)
                  refine lv_iload hx hb dX0_carry_114 (lv_at hl 0 rfl) ?_
                  refine lv_iload hx hb dX0_carry_116 (lv_at hl 6 rfl) ?_
                  refine lv_icmp_ne (tgt := 125) hx hb dX0_carry_118 (by decide) (fun h118 => ?_) (fun h118 => ?_)
                  · refine lv_aload_n hx hb dX0_carry_125 rfl (lv_at hl 1 rfl) ?_
                    refine lv_iconst (v := 4) hx hb dX0_carry_126 (by decide) ?_
                    refine EnX.calli (r := (fx_fail (fx_movePlaces u q_r q_i q_s q_j (fx_countGoing u q_r q_i q_s q_n)) 4).1) (u2 := (fx_fail (fx_movePlaces u q_r q_i q_s q_j (fx_countGoing u q_r q_i q_s q_n)) 4).2) E hS [.int 4] [] (kX0_fail l D ad ca g (fx_movePlaces u q_r q_i q_s q_j (fx_countGoing u q_r q_i q_s q_n)) 4 ) gc_X0_57 hd_X0_fail ⟨Nat.le_of_ble_eq_true rfl, Nat.le_of_ble_eq_true rfl⟩ rfl hl.1 (Nat.le_of_ble_eq_true rfl) ⟨Nat.le_refl 0, Nat.le_refl 0⟩ dX0_carry_127 (fun H locs hS => ?_)
                    exact EnX.iret E hS (ni_i _) (by first | (simp only [fx_carry, if_neg h5, if_neg h13, if_neg h21, if_neg h26, if_neg h41, if_neg h58, if_neg h70, if_pos h84, if_neg h118]; done) | (unfold fx_carry; rw [if_neg h5, if_neg h13, if_neg h21, if_neg h26, if_neg h41, if_neg h58, if_neg h70, if_pos h84, if_neg h118])) dX0_carry_130
                  · refine lv_iconst (v := 1) hx hb dX0_carry_121 (by decide) ?_
                    refine lv_goto (tgt := 130) hx hb dX0_carry_122 (by decide) ?_
                    exact EnX.iret E hS (ni_i _) (by first | (simp only [fx_carry, if_neg h5, if_neg h13, if_neg h21, if_neg h26, if_neg h41, if_neg h58, if_neg h70, if_pos h84, if_pos h118]; done) | (unfold fx_carry; rw [if_neg h5, if_neg h13, if_neg h21, if_neg h26, if_neg h41, if_neg h58, if_neg h70, if_pos h84, if_pos h118])) dX0_carry_130
                · refine lv_iload hx hb dX0_carry_87 (lv_at hl 5 rfl) ?_
                  refine lv_goto (tgt := 101) hx hb dX0_carry_89 (by decide) ?_
                  refine lv_istore (lv' := [(6, .int q_n), (0, .ref (ad 0)), (1, .int q_r), (2, .int q_i), (3, .int q_s), (4, .int q_j), (5, .int q_n)]) hx hb dX0_carry_101 hl (by decide) rfl (fun ls hl => ?_)
                  refine lv_aload_n hx hb dX0_carry_103 rfl (lv_at hl 1 rfl) ?_
                  refine lv_iload_n hx hb dX0_carry_104 rfl (lv_at hl 2 rfl) ?_
                  refine lv_iload_n hx hb dX0_carry_105 rfl (lv_at hl 3 rfl) ?_
                  refine lv_iload_n hx hb dX0_carry_106 rfl (lv_at hl 4 rfl) ?_
                  refine lv_iload hx hb dX0_carry_107 (lv_at hl 5 rfl) ?_
                  refine lv_iload hx hb dX0_carry_109 (lv_at hl 0 rfl) ?_
                  refine EnX.callv (u2 := fx_movePlaces u q_r q_i q_s q_j q_n) E hS [.int q_r, .int q_i, .int q_s, .int q_j, .int q_n] [] (kX0_movePlaces l D ad ca g u q_r q_i q_s q_j q_n (mv_1 hqr (by omega) (by omega)) (mv_1 hqs (by omega) (by omega)) (mv_3 (by omega)) (mv_4 hqr (by omega) (by omega) (by omega)) (mv_4 hqs (by omega) (by omega) (by omega))) gc_X0_114 hd_X0_movePlaces ⟨Nat.le_of_ble_eq_true rfl, Nat.le_of_ble_eq_true rfl⟩ rfl hl.1 (Nat.le_of_ble_eq_true rfl) ⟨Nat.le_refl 0, Nat.le_refl 0⟩ dX0_carry_111 (fun H locs hS => ?_)
                  refine lv_iload hx hb dX0_carry_114 (lv_at hl 0 rfl) ?_
                  refine lv_iload hx hb dX0_carry_116 (lv_at hl 6 rfl) ?_
                  refine lv_icmp_ne (tgt := 125) hx hb dX0_carry_118 (by decide) (fun h118 => ?_) (fun h118 => ?_)
                  · refine lv_aload_n hx hb dX0_carry_125 rfl (lv_at hl 1 rfl) ?_
                    refine lv_iconst (v := 4) hx hb dX0_carry_126 (by decide) ?_
                    refine EnX.calli (r := (fx_fail (fx_movePlaces u q_r q_i q_s q_j q_n) 4).1) (u2 := (fx_fail (fx_movePlaces u q_r q_i q_s q_j q_n) 4).2) E hS [.int 4] [] (kX0_fail l D ad ca g (fx_movePlaces u q_r q_i q_s q_j q_n) 4 ) gc_X0_57 hd_X0_fail ⟨Nat.le_of_ble_eq_true rfl, Nat.le_of_ble_eq_true rfl⟩ rfl hl.1 (Nat.le_of_ble_eq_true rfl) ⟨Nat.le_refl 0, Nat.le_refl 0⟩ dX0_carry_127 (fun H locs hS => ?_)
                    exact EnX.iret E hS (ni_i _) (by first | (simp only [fx_carry, if_neg h5, if_neg h13, if_neg h21, if_neg h26, if_neg h41, if_neg h58, if_neg h70, if_neg h84, if_neg h118]; done) | (unfold fx_carry; rw [if_neg h5, if_neg h13, if_neg h21, if_neg h26, if_neg h41, if_neg h58, if_neg h70, if_neg h84, if_neg h118])) dX0_carry_130
                  · refine lv_iconst (v := 1) hx hb dX0_carry_121 (by decide) ?_
                    refine lv_goto (tgt := 130) hx hb dX0_carry_122 (by decide) ?_
                    exact EnX.iret E hS (ni_i _) (by first | (simp only [fx_carry, if_neg h5, if_neg h13, if_neg h21, if_neg h26, if_neg h41, if_neg h58, if_neg h70, if_neg h84, if_pos h118]; done) | (unfold fx_carry; rw [if_neg h5, if_neg h13, if_neg h21, if_neg h26, if_neg h41, if_neg h58, if_neg h70, if_neg h84, if_pos h118])) dX0_carry_130
              · refine lv_aload_n hx hb dX0_carry_73 rfl (lv_at hl 0 rfl) ?_
                refine lv_iconst (v := 3) hx hb dX0_carry_74 (by decide) ?_
                refine EnX.calli (r := (fx_fail u 3).1) (u2 := (fx_fail u 3).2) E hS [.int 3] [] (kX0_fail l D ad ca g u 3 ) gc_X0_57 hd_X0_fail ⟨Nat.le_of_ble_eq_true rfl, Nat.le_of_ble_eq_true rfl⟩ rfl hl.1 (Nat.le_of_ble_eq_true rfl) ⟨Nat.le_refl 0, Nat.le_refl 0⟩ dX0_carry_75 (fun H locs hS => ?_)
                exact EnX.iret E hS (ni_i _) (by first | (simp only [fx_carry, if_neg h5, if_neg h13, if_neg h21, if_neg h26, if_neg h41, if_neg h58, if_pos h70]; done) | (unfold fx_carry; rw [if_neg h5, if_neg h13, if_neg h21, if_neg h26, if_neg h41, if_neg h58, if_pos h70])) dX0_carry_78
          · refine lv_aload_n hx hb dX0_carry_44 rfl (lv_at hl 0 rfl) ?_
            refine lv_iconst (v := 4) hx hb dX0_carry_45 (by decide) ?_
            refine EnX.calli (r := (fx_fail u 4).1) (u2 := (fx_fail u 4).2) E hS [.int 4] [] (kX0_fail l D ad ca g u 4 ) gc_X0_57 hd_X0_fail ⟨Nat.le_of_ble_eq_true rfl, Nat.le_of_ble_eq_true rfl⟩ rfl hl.1 (Nat.le_of_ble_eq_true rfl) ⟨Nat.le_refl 0, Nat.le_refl 0⟩ dX0_carry_46 (fun H locs hS => ?_)
            exact EnX.iret E hS (ni_i _) (by first | (simp only [fx_carry, if_neg h5, if_neg h13, if_neg h21, if_neg h26, if_pos h41]; done) | (unfold fx_carry; rw [if_neg h5, if_neg h13, if_neg h21, if_neg h26, if_pos h41])) dX0_carry_49
        · refine lv_aload_n hx hb dX0_carry_29 rfl (lv_at hl 0 rfl) ?_
          refine lv_iconst (v := 1) hx hb dX0_carry_30 (by decide) ?_
          refine EnX.calli (r := (fx_fail u 1).1) (u2 := (fx_fail u 1).2) E hS [.int 1] [] (kX0_fail l D ad ca g u 1 ) gc_X0_57 hd_X0_fail ⟨Nat.le_of_ble_eq_true rfl, Nat.le_of_ble_eq_true rfl⟩ rfl hl.1 (Nat.le_of_ble_eq_true rfl) ⟨Nat.le_refl 0, Nat.le_refl 0⟩ dX0_carry_31 (fun H locs hS => ?_)
          exact EnX.iret E hS (ni_i _) (by first | (simp only [fx_carry, if_neg h5, if_neg h13, if_neg h21, if_pos h26]; done) | (unfold fx_carry; rw [if_neg h5, if_neg h13, if_neg h21, if_pos h26])) dX0_carry_34
    · refine lv_bipush (v := (-2)) hx hb dX0_carry_16 (by decide) ?_
      exact EnX.iret E hS (ni_i _) (by first | (simp only [fx_carry, if_neg h5, if_pos h13]; done) | (unfold fx_carry; rw [if_neg h5, if_pos h13])) dX0_carry_18
end
section
def fx_frail (u : XS) (q_x : Int32) : Int32 × XS := if (fx_isThingOrNone u q_x) = 0 then ((-2), u) else (if q_x = (-1) then ((fx_fail u 1).1, (fx_fail u 1).2) else (if (fx_isNumberBase (x_thingBase u (q_x).toNatClampNeg)) = 0 then (fx_frailWithin u q_x 3, u) else ((fx_fail u 2).1, (fx_fail u 2).2)))
theorem hd_X0_frail : yX0_frail.cls = RX0 ∧ yX0_frail.cls ≠ "java/lang/invoke/MethodHandle" ∧ yX0_frail.cls ≠ "java/lang/invoke/VarHandle" ∧ (parseMethodDescriptor yX0_frail.desc).map (fun d => d.parameters.length) = some 1 := by decide +kernel
set_option maxRecDepth 100000 in
set_option maxHeartbeats 4000000 in
theorem kX0_frail (l : Launch) (D : va_G) (ad : Nat → Nat) (ca : Nat → ClassId) (g : Nat) (u : XS) (q_x : Int32) (hI : XI u) : CiX l yX0_frail cX0_frail 2 .int 9 D ad ca g [.int q_x] u (fx_frail u q_x) := by
  refine CiX.of (by decide) rfl (Nat.le_of_ble_eq_true rfl) ?_
  intro p e s m below meth c A ls E hS hl
  have hx := E.1.1
  have hb := E.1.2.1
  have hml := E.1.2.2.1
  have hown := E.1.2.2.2.1
  have hts := E.1.2.2.2.2
  have hl : lv_has ls 2 [(0, .ref (ad 0)), (1, .int q_x)] := hl
  refine lv_aload_n hx hb dX0_frail_0 rfl (lv_at hl 0 rfl) ?_
  refine lv_iload_n hx hb dX0_frail_1 rfl (lv_at hl 1 rfl) ?_
  refine EnX.calli (r := fx_isThingOrNone u q_x) (u2 := u) E hS [.int q_x] [] (kX0_isThingOrNone l D ad ca g u q_x ) gc_X0_73 hd_X0_isThingOrNone ⟨Nat.le_of_ble_eq_true rfl, Nat.le_of_ble_eq_true rfl⟩ rfl hl.1 (Nat.le_of_ble_eq_true rfl) ⟨Nat.le_refl 0, Nat.le_refl 0⟩ dX0_frail_2 (fun H locs hS => ?_)
  refine lv_if_ne (tgt := 11) hx hb dX0_frail_5 (by decide) (fun h5 => ?_) (fun h5 => ?_)
  · refine lv_iload_n hx hb dX0_frail_11 rfl (lv_at hl 1 rfl) ?_
    refine lv_iconst (v := (-1)) hx hb dX0_frail_12 (by decide) ?_
    refine lv_icmp_ne (tgt := 22) hx hb dX0_frail_13 (by decide) (fun h13 => ?_) (fun h13 => ?_)
    · refine lv_aload_n hx hb dX0_frail_22 rfl (lv_at hl 0 rfl) ?_
      refine gX_thingBase E hS dX0_frail_23 ?_
      refine lv_iload_n hx hb dX0_frail_26 rfl (lv_at hl 1 rfl) ?_
      refine lX_thingBase (v := x_thingBase u (q_x).toNatClampNeg) E hS (show vp_in q_x 60 from by first | with_reducible assumption | (refine xt_in hI ?_; with_reducible assumption) | (refine xn_in hI ?_ ?_ <;> with_reducible assumption) | with_reducible exact xb_in hI _ | (refine xr_in hI ?_; with_reducible assumption) | (refine xd_in ?_; with_reducible assumption)) rfl dX0_frail_27 ?_
      refine EnX.sti (r := fx_isNumberBase (x_thingBase u (q_x).toNatClampNeg)) E hS [.int (x_thingBase u (q_x).toNatClampNeg)] [] (kX0_isNumberBase l (x_thingBase u (q_x).toNatClampNeg) ) (fun _ _ _ _ h => h) (fun _ _ _ => trivial) gc_X0_131 hd_X0_isNumberBase ⟨Nat.le_of_ble_eq_true rfl, Nat.le_of_ble_eq_true rfl⟩ rfl hl.1 (Nat.le_of_ble_eq_true rfl) ⟨Nat.le_refl 0, Nat.le_refl 0⟩ dX0_frail_28 (fun H locs hS => ?_)
      refine lv_if_eq (tgt := 40) hx hb dX0_frail_31 (by decide) (fun h31 => ?_) (fun h31 => ?_)
      · refine lv_aload_n hx hb dX0_frail_40 rfl (lv_at hl 0 rfl) ?_
        refine lv_iload_n hx hb dX0_frail_41 rfl (lv_at hl 1 rfl) ?_
        refine lv_iconst (v := 3) hx hb dX0_frail_42 (by decide) ?_
        refine EnX.calli (r := fx_frailWithin u q_x 3) (u2 := u) E hS [.int q_x, .int 3] [] (kX0_frailWithin l D ad ca g u q_x 3 hI (by decide)) gc_X0_134 hd_X0_frailWithin ⟨Nat.le_of_ble_eq_true rfl, Nat.le_of_ble_eq_true rfl⟩ rfl hl.1 (Nat.le_of_ble_eq_true rfl) ⟨Nat.le_refl 0, Nat.le_refl 0⟩ dX0_frail_43 (fun H locs hS => ?_)
        exact EnX.iret E hS (ni_i _) (by first | (simp only [fx_frail, if_neg h5, if_neg h13, if_pos h31]; done) | (unfold fx_frail; rw [if_neg h5, if_neg h13, if_pos h31])) dX0_frail_46
      · refine lv_aload_n hx hb dX0_frail_34 rfl (lv_at hl 0 rfl) ?_
        refine lv_iconst (v := 2) hx hb dX0_frail_35 (by decide) ?_
        refine EnX.calli (r := (fx_fail u 2).1) (u2 := (fx_fail u 2).2) E hS [.int 2] [] (kX0_fail l D ad ca g u 2 ) gc_X0_57 hd_X0_fail ⟨Nat.le_of_ble_eq_true rfl, Nat.le_of_ble_eq_true rfl⟩ rfl hl.1 (Nat.le_of_ble_eq_true rfl) ⟨Nat.le_refl 0, Nat.le_refl 0⟩ dX0_frail_36 (fun H locs hS => ?_)
        exact EnX.iret E hS (ni_i _) (by first | (simp only [fx_frail, if_neg h5, if_neg h13, if_neg h31]; done) | (unfold fx_frail; rw [if_neg h5, if_neg h13, if_neg h31])) dX0_frail_39
    · refine lv_aload_n hx hb dX0_frail_16 rfl (lv_at hl 0 rfl) ?_
      refine lv_iconst (v := 1) hx hb dX0_frail_17 (by decide) ?_
      refine EnX.calli (r := (fx_fail u 1).1) (u2 := (fx_fail u 1).2) E hS [.int 1] [] (kX0_fail l D ad ca g u 1 ) gc_X0_57 hd_X0_fail ⟨Nat.le_of_ble_eq_true rfl, Nat.le_of_ble_eq_true rfl⟩ rfl hl.1 (Nat.le_of_ble_eq_true rfl) ⟨Nat.le_refl 0, Nat.le_refl 0⟩ dX0_frail_18 (fun H locs hS => ?_)
      exact EnX.iret E hS (ni_i _) (by first | (simp only [fx_frail, if_neg h5, if_pos h13]; done) | (unfold fx_frail; rw [if_neg h5, if_pos h13])) dX0_frail_21
  · refine lv_bipush (v := (-2)) hx hb dX0_frail_8 (by decide) ?_
    exact EnX.iret E hS (ni_i _) (by first | (simp only [fx_frail, if_pos h5]; done) | (unfold fx_frail; rw [if_pos h5])) dX0_frail_10
def fx_about (u : XS) (q_x : Int32) (q_what : Int32) : Int32 := if (fx_isThing u q_x) = 0 then (-2) else (if q_what = 0 then x_thingBase u (q_x).toNatClampNeg else (if q_what = 1 then x_thingDepth u (q_x).toNatClampNeg else (if q_what = 2 then (if (fx_isPiece u q_x) = 0 then x_thingSize u (q_x).toNatClampNeg else (-1)) else (-2))))
theorem hd_X0_about : yX0_about.cls = RX0 ∧ yX0_about.cls ≠ "java/lang/invoke/MethodHandle" ∧ yX0_about.cls ≠ "java/lang/invoke/VarHandle" ∧ (parseMethodDescriptor yX0_about.desc).map (fun d => d.parameters.length) = some 2 := by decide +kernel
set_option maxRecDepth 100000 in
set_option maxHeartbeats 4000000 in
theorem kX0_about (l : Launch) (D : va_G) (ad : Nat → Nat) (ca : Nat → ClassId) (g : Nat) (u : XS) (q_x : Int32) (q_what : Int32) (hI : XI u) : CiX l yX0_about cX0_about 3 .int 2 D ad ca g [.int q_x, .int q_what] u ((fx_about u q_x q_what, u)) := by
  refine CiX.of (by decide) rfl (Nat.le_of_ble_eq_true rfl) ?_
  intro p e s m below meth c A ls E hS hl
  have hx := E.1.1
  have hb := E.1.2.1
  have hml := E.1.2.2.1
  have hown := E.1.2.2.2.1
  have hts := E.1.2.2.2.2
  have hl : lv_has ls 3 [(0, .ref (ad 0)), (1, .int q_x), (2, .int q_what)] := hl
  refine lv_aload_n hx hb dX0_about_0 rfl (lv_at hl 0 rfl) ?_
  refine lv_iload_n hx hb dX0_about_1 rfl (lv_at hl 1 rfl) ?_
  refine EnX.calli (r := fx_isThing u q_x) (u2 := u) E hS [.int q_x] [] (kX0_isThing l D ad ca g u q_x ) gc_X0_137 hd_X0_isThing ⟨Nat.le_of_ble_eq_true rfl, Nat.le_of_ble_eq_true rfl⟩ rfl hl.1 (Nat.le_of_ble_eq_true rfl) ⟨Nat.le_refl 0, Nat.le_refl 0⟩ dX0_about_2 (fun H locs hS => ?_)
  refine lv_if_ne (tgt := 11) hx hb dX0_about_5 (by decide) (fun h5 => ?_) (fun h5 => ?_)
  · refine lv_iload_n hx hb dX0_about_11 rfl (lv_at hl 2 rfl) ?_
    by_cases h12_0 : q_what = 0
    · refine lv_tableIn (off := 28) (tgt := 40) hx hb dX0_about_12 (by rw [h12_0]; decide) (by rw [h12_0]; decide) (by rw [h12_0]; rfl) (by decide) ?_
      refine lv_aload_n hx hb dX0_about_40 rfl (lv_at hl 0 rfl) ?_
      refine gX_thingBase E hS dX0_about_41 ?_
      refine lv_iload_n hx hb dX0_about_44 rfl (lv_at hl 1 rfl) ?_
      refine lX_thingBase (v := x_thingBase u (q_x).toNatClampNeg) E hS (show vp_in q_x 60 from by first | with_reducible assumption | (refine xt_in hI ?_; with_reducible assumption) | (refine xn_in hI ?_ ?_ <;> with_reducible assumption) | with_reducible exact xb_in hI _ | (refine xr_in hI ?_; with_reducible assumption) | (refine xd_in ?_; with_reducible assumption)) rfl dX0_about_45 ?_
      exact EnX.iret E hS (ni_i _) (congrArg (fun z => (z, u)) (show x_thingBase u (q_x).toNatClampNeg = fx_about u q_x q_what by unfold fx_about; rw [if_neg h5, if_pos h12_0])) dX0_about_46
    · by_cases h12_1 : q_what = 1
      · refine lv_tableIn (off := 35) (tgt := 47) hx hb dX0_about_12 (by rw [h12_1]; decide) (by rw [h12_1]; decide) (by rw [h12_1]; rfl) (by decide) ?_
        refine lv_aload_n hx hb dX0_about_47 rfl (lv_at hl 0 rfl) ?_
        refine gX_thingDepth E hS dX0_about_48 ?_
        refine lv_iload_n hx hb dX0_about_51 rfl (lv_at hl 1 rfl) ?_
        refine lX_thingDepth (v := x_thingDepth u (q_x).toNatClampNeg) E hS (show vp_in q_x 60 from by first | with_reducible assumption | (refine xt_in hI ?_; with_reducible assumption) | (refine xn_in hI ?_ ?_ <;> with_reducible assumption) | with_reducible exact xb_in hI _ | (refine xr_in hI ?_; with_reducible assumption) | (refine xd_in ?_; with_reducible assumption)) rfl dX0_about_52 ?_
        exact EnX.iret E hS (ni_i _) (congrArg (fun z => (z, u)) (show x_thingDepth u (q_x).toNatClampNeg = fx_about u q_x q_what by unfold fx_about; rw [if_neg h5, if_neg h12_0, if_pos h12_1])) dX0_about_53
      · by_cases h12_2 : q_what = 2
        · refine lv_tableIn (off := 42) (tgt := 54) hx hb dX0_about_12 (by rw [h12_2]; decide) (by rw [h12_2]; decide) (by rw [h12_2]; rfl) (by decide) ?_
          refine lv_aload_n hx hb dX0_about_54 rfl (lv_at hl 0 rfl) ?_
          refine lv_iload_n hx hb dX0_about_55 rfl (lv_at hl 1 rfl) ?_
          refine EnX.calli (r := fx_isPiece u q_x) (u2 := u) E hS [.int q_x] [] (kX0_isPiece l D ad ca g u q_x (by first | with_reducible assumption | (refine xt_in hI ?_; with_reducible assumption) | (refine xn_in hI ?_ ?_ <;> with_reducible assumption) | with_reducible exact xb_in hI _ | (refine xr_in hI ?_; with_reducible assumption) | (refine xd_in ?_; with_reducible assumption))) gc_X0_111 hd_X0_isPiece ⟨Nat.le_of_ble_eq_true rfl, Nat.le_of_ble_eq_true rfl⟩ rfl hl.1 (Nat.le_of_ble_eq_true rfl) ⟨Nat.le_refl 0, Nat.le_refl 0⟩ dX0_about_56 (fun H locs hS => ?_)
          refine lv_if_eq (tgt := 66) hx hb dX0_about_59 (by decide) (fun h59 => ?_) (fun h59 => ?_)
          · refine lv_aload_n hx hb dX0_about_66 rfl (lv_at hl 0 rfl) ?_
            refine gX_thingSize E hS dX0_about_67 ?_
            refine lv_iload_n hx hb dX0_about_70 rfl (lv_at hl 1 rfl) ?_
            refine lX_thingSize (v := x_thingSize u (q_x).toNatClampNeg) E hS (show vp_in q_x 60 from by first | with_reducible assumption | (refine xt_in hI ?_; with_reducible assumption) | (refine xn_in hI ?_ ?_ <;> with_reducible assumption) | with_reducible exact xb_in hI _ | (refine xr_in hI ?_; with_reducible assumption) | (refine xd_in ?_; with_reducible assumption)) rfl dX0_about_71 ?_
            exact EnX.iret E hS (ni_i _) (congrArg (fun z => (z, u)) (show x_thingSize u (q_x).toNatClampNeg = fx_about u q_x q_what by unfold fx_about; rw [if_neg h5, if_neg h12_0, if_neg h12_1, if_pos h12_2, if_pos h59])) dX0_about_72
          · refine lv_iconst (v := (-1)) hx hb dX0_about_62 (by decide) ?_
            refine lv_goto (tgt := 72) hx hb dX0_about_63 (by decide) ?_
            exact EnX.iret E hS (ni_i _) (congrArg (fun z => (z, u)) (show ((-1) : Int32) = fx_about u q_x q_what by unfold fx_about; rw [if_neg h5, if_neg h12_0, if_neg h12_1, if_pos h12_2, if_neg h59])) dX0_about_72
        · have n12_0 := lv_neT h12_0 (a := 0) (by decide)
          have n12_1 := lv_neT h12_1 (a := 1) (by decide)
          have n12_2 := lv_neT h12_2 (a := 2) (by decide)
          refine lv_tableOut (tgt := 73) hx hb dX0_about_12 (by omega) (by decide) ?_
          refine lv_bipush (v := (-2)) hx hb dX0_about_73 (by decide) ?_
          exact EnX.iret E hS (ni_i _) (congrArg (fun z => (z, u)) (show ((-2) : Int32) = fx_about u q_x q_what by unfold fx_about; rw [if_neg h5, if_neg h12_0, if_neg h12_1, if_neg h12_2])) dX0_about_75
  · refine lv_bipush (v := (-2)) hx hb dX0_about_8 (by decide) ?_
    exact EnX.iret E hS (ni_i _) (congrArg (fun z => (z, u)) (show ((-2) : Int32) = fx_about u q_x q_what by unfold fx_about; rw [if_pos h5])) dX0_about_10
def fx_bases (u : XS) (q_x : Int32) : Int32 := if (fx_isThing u q_x) = 0 then (-2) else gfT (x_thingBase u (q_x).toNatClampNeg).toNatClampNeg
theorem hd_X0_bases : yX0_bases.cls = RX0 ∧ yX0_bases.cls ≠ "java/lang/invoke/MethodHandle" ∧ yX0_bases.cls ≠ "java/lang/invoke/VarHandle" ∧ (parseMethodDescriptor yX0_bases.desc).map (fun d => d.parameters.length) = some 1 := by decide +kernel
set_option maxRecDepth 100000 in
set_option maxHeartbeats 4000000 in
theorem kX0_bases (l : Launch) (D : va_G) (ad : Nat → Nat) (ca : Nat → ClassId) (g : Nat) (u : XS) (q_x : Int32) (hI : XI u) : CiX l yX0_bases cX0_bases 2 .int 2 D ad ca g [.int q_x] u ((fx_bases u q_x, u)) := by
  refine CiX.of (by decide) rfl (Nat.le_of_ble_eq_true rfl) ?_
  intro p e s m below meth c A ls E hS hl
  have hx := E.1.1
  have hb := E.1.2.1
  have hml := E.1.2.2.1
  have hown := E.1.2.2.2.1
  have hts := E.1.2.2.2.2
  have hl : lv_has ls 2 [(0, .ref (ad 0)), (1, .int q_x)] := hl
  refine lv_aload_n hx hb dX0_bases_0 rfl (lv_at hl 0 rfl) ?_
  refine lv_iload_n hx hb dX0_bases_1 rfl (lv_at hl 1 rfl) ?_
  refine EnX.calli (r := fx_isThing u q_x) (u2 := u) E hS [.int q_x] [] (kX0_isThing l D ad ca g u q_x ) gc_X0_137 hd_X0_isThing ⟨Nat.le_of_ble_eq_true rfl, Nat.le_of_ble_eq_true rfl⟩ rfl hl.1 (Nat.le_of_ble_eq_true rfl) ⟨Nat.le_refl 0, Nat.le_refl 0⟩ dX0_bases_2 (fun H locs hS => ?_)
  refine lv_if_eq (tgt := 21) hx hb dX0_bases_5 (by decide) (fun h5 => ?_) (fun h5 => ?_)
  · refine lv_bipush (v := (-2)) hx hb dX0_bases_21 (by decide) ?_
    exact EnX.iret E hS (ni_i _) (congrArg (fun z => (z, u)) (show ((-2) : Int32) = fx_bases u q_x by unfold fx_bases; rw [if_pos h5])) dX0_bases_23
  · refine va_gets hx hb E.2.2.2.2.1.1 hS.2.2 hown (hts _ wf_X0_140) (fun _ h => h) dX0_bases_8 ?_
    refine lv_aload_n hx hb dX0_bases_11 rfl (lv_at hl 0 rfl) ?_
    refine gX_thingBase E hS dX0_bases_12 ?_
    refine lv_iload_n hx hb dX0_bases_15 rfl (lv_at hl 1 rfl) ?_
    refine lX_thingBase (v := x_thingBase u (q_x).toNatClampNeg) E hS (show vp_in q_x 60 from by first | with_reducible assumption | (refine xt_in hI ?_; with_reducible assumption) | (refine xn_in hI ?_ ?_ <;> with_reducible assumption) | with_reducible exact xb_in hI _ | (refine xr_in hI ?_; with_reducible assumption) | (refine xd_in ?_; with_reducible assumption)) rfl dX0_bases_16 ?_
    refine va_ti (v := .int (gfT (x_thingBase u (q_x).toNatClampNeg).toNatClampNeg)) hx hb E.2.2.2.2.1.2 hS.2.2 (show vp_in (x_thingBase u (q_x).toNatClampNeg) 7 from by first | with_reducible assumption | (refine xt_in hI ?_; with_reducible assumption) | (refine xn_in hI ?_ ?_ <;> with_reducible assumption) | with_reducible exact xb_in hI _ | (refine xr_in hI ?_; with_reducible assumption) | (refine xd_in ?_; with_reducible assumption)) rfl dX0_bases_17 ?_
    refine lv_goto (tgt := 23) hx hb dX0_bases_18 (by decide) ?_
    exact EnX.iret E hS (ni_i _) (congrArg (fun z => (z, u)) (show gfT (x_thingBase u (q_x).toNatClampNeg).toNatClampNeg = fx_bases u q_x by unfold fx_bases; rw [if_neg h5])) dX0_bases_23
def fx_count (u : XS) (q_what : Int32) : Int32 := if q_what = 0 then x_thingCount u else (if q_what = 1 then x_failureCount u else (if q_what = 2 then x_latestFailure u else (-2)))
theorem hd_X0_count : yX0_count.cls = RX0 ∧ yX0_count.cls ≠ "java/lang/invoke/MethodHandle" ∧ yX0_count.cls ≠ "java/lang/invoke/VarHandle" ∧ (parseMethodDescriptor yX0_count.desc).map (fun d => d.parameters.length) = some 1 := by decide +kernel
set_option maxRecDepth 100000 in
set_option maxHeartbeats 4000000 in
theorem kX0_count (l : Launch) (D : va_G) (ad : Nat → Nat) (ca : Nat → ClassId) (g : Nat) (u : XS) (q_what : Int32)  : CiX l yX0_count cX0_count 2 .int 1 D ad ca g [.int q_what] u ((fx_count u q_what, u)) := by
  refine CiX.of (by decide) rfl (Nat.le_of_ble_eq_true rfl) ?_
  intro p e s m below meth c A ls E hS hl
  have hx := E.1.1
  have hb := E.1.2.1
  have hml := E.1.2.2.1
  have hown := E.1.2.2.2.1
  have hts := E.1.2.2.2.2
  have hl : lv_has ls 2 [(0, .ref (ad 0)), (1, .int q_what)] := hl
  refine lv_iload_n hx hb dX0_count_0 rfl (lv_at hl 1 rfl) ?_
  by_cases h1_0 : q_what = 0
  · refine lv_tableIn (off := 27) (tgt := 28) hx hb dX0_count_1 (by rw [h1_0]; decide) (by rw [h1_0]; decide) (by rw [h1_0]; rfl) (by decide) ?_
    refine lv_aload_n hx hb dX0_count_28 rfl (lv_at hl 0 rfl) ?_
    refine gX_thingCount (v := x_thingCount u) E hS rfl dX0_count_29 ?_
    exact EnX.iret E hS (ni_i _) (congrArg (fun z => (z, u)) (show x_thingCount u = fx_count u q_what by unfold fx_count; rw [if_pos h1_0])) dX0_count_32
  · by_cases h1_1 : q_what = 1
    · refine lv_tableIn (off := 32) (tgt := 33) hx hb dX0_count_1 (by rw [h1_1]; decide) (by rw [h1_1]; decide) (by rw [h1_1]; rfl) (by decide) ?_
      refine lv_aload_n hx hb dX0_count_33 rfl (lv_at hl 0 rfl) ?_
      refine gX_failureCount (v := x_failureCount u) E hS rfl dX0_count_34 ?_
      exact EnX.iret E hS (ni_i _) (congrArg (fun z => (z, u)) (show x_failureCount u = fx_count u q_what by unfold fx_count; rw [if_neg h1_0, if_pos h1_1])) dX0_count_37
    · by_cases h1_2 : q_what = 2
      · refine lv_tableIn (off := 37) (tgt := 38) hx hb dX0_count_1 (by rw [h1_2]; decide) (by rw [h1_2]; decide) (by rw [h1_2]; rfl) (by decide) ?_
        refine lv_aload_n hx hb dX0_count_38 rfl (lv_at hl 0 rfl) ?_
        refine gX_latestFailure (v := x_latestFailure u) E hS rfl dX0_count_39 ?_
        exact EnX.iret E hS (ni_i _) (congrArg (fun z => (z, u)) (show x_latestFailure u = fx_count u q_what by unfold fx_count; rw [if_neg h1_0, if_neg h1_1, if_pos h1_2])) dX0_count_42
      · have n1_0 := lv_neT h1_0 (a := 0) (by decide)
        have n1_1 := lv_neT h1_1 (a := 1) (by decide)
        have n1_2 := lv_neT h1_2 (a := 2) (by decide)
        refine lv_tableOut (tgt := 43) hx hb dX0_count_1 (by omega) (by decide) ?_
        refine lv_bipush (v := (-2)) hx hb dX0_count_43 (by decide) ?_
        exact EnX.iret E hS (ni_i _) (congrArg (fun z => (z, u)) (show ((-2) : Int32) = fx_count u q_what by unfold fx_count; rw [if_neg h1_0, if_neg h1_1, if_neg h1_2])) dX0_count_45
end
section
theorem gr_mx (n : Int32) (hn : n.toInt ≤ 8) : 1 ≤ (1 + (if n < 0 then 0 else n) : Int32).toInt ∧ (1 + (if n < 0 then 0 else n) : Int32).toInt ≤ 9 ∧ (0 ≤ n.toInt → (1 + (if n < 0 then 0 else n) : Int32).toInt = 1 + n.toInt) := by
  by_cases h : n < 0
  · rw [if_pos h]
    rw [lt_ti, ti0] at h
    have e : (1 + 0 : Int32).toInt = 1 := by decide
    rw [e]; omega
  · rw [if_neg h]
    rw [lt_ti, ti0] at h
    rw [ti_add (by rw [ti1]; omega) (by rw [ti1]; omega), ti1]
    omega
theorem gr_any (n : Int32) (hn : n.toInt ≤ 8) : 0 ≤ (1 + (if n < 0 then 0 else n) : Int32).toInt ∧ (1 + (if n < 0 then 0 else n) : Int32).toInt ≤ 100 := by
  have := gr_mx n hn; omega
theorem gr_le {u : XS} {n : Int32} (hI : XI u) (hn : n.toInt ≤ 8) (h : ¬ fx_hasRoomFor u (1 + (if n < 0 then 0 else n)) = 0) : (x_thingCount u).toInt + (1 + (if n < 0 then 0 else n) : Int32).toInt ≤ 60 := xr_n hI (gr_any n hn) h
theorem gr_tcx {u : XS} {n : Int32} (hI : XI u) (hn : n.toInt ≤ 8) (h : ¬ fx_hasRoomFor u (1 + (if n < 0 then 0 else n)) = 0) : vp_in (x_thingCount u) 60 := by
  have h1 := gr_le hI hn h
  have h2 := gr_mx n hn
  have h3 := hI.1
  rw [vp_in_iff]; omega
theorem gr_rm {u : XS} {n : Int32} (hI : XI u) (hn : 0 ≤ n.toInt ∧ n.toInt ≤ 8) (h : ¬ fx_hasRoomFor u (1 + (if n < 0 then 0 else n)) = 0) : (x_thingCount u).toInt + 1 + n.toInt ≤ 60 := by
  have h1 := gr_le hI hn.2 h
  have h2 := gr_mx n hn.2
  omega
def fx_grid_L : Nat → XS → Int32 → Int32 → Int32 → Int32 → Int32 → Int32 × XS
  | 0, w, q_base, q_n, q_m, v_4, v_5 => (0, w)
  | f_ + 1, w, q_base, q_n, q_m, v_4, v_5 => (if q_n ≤ v_5 then (v_4, w) else fx_grid_L f_ (xs_places ((fx_addRow w q_base 1 q_m).2) (vp_updL (x_places ((fx_addRow w q_base 1 q_m).2)) (fx_placeIndex v_4 v_5).toNatClampNeg (Int32.toInt64 ((fx_addRow w q_base 1 q_m).1)))) q_base q_n q_m v_4 (v_5 + 1))
set_option maxRecDepth 100000 in
set_option maxHeartbeats 4000000 in
theorem loop_X0_grid {p : Program} {e : Env} {s : State} {m : MethodId} {below : List Frame} {meth : Method} {c : Code} {args : Array Value} {A : Nat → Prop} (l : Launch) (D : va_G) (ad : Nat → Nat) (ca : Nat → ClassId) (g : Nat) (u : XS) (E : EnX p s m c args cX0_grid 6 meth (some .int) D ca g A) : ∀ (f_ : Nat) (w : XS) (q_base : Int32) (q_n : Int32) (q_m : Int32) (v_4 : Int32) (v_5 : Int32), vp_in v_4 60 → (0 ≤ q_n.toInt ∧ q_n.toInt ≤ 8) → (0 ≤ q_m.toInt ∧ q_m.toInt ≤ 8) → (0 ≤ v_5.toInt ∧ v_5.toInt ≤ q_n.toInt) → (0 ≤ (x_thingCount w).toInt ∧ (x_thingCount w).toInt + (q_n.toInt - v_5.toInt) ≤ 60) → q_n.toInt - v_5.toInt < (f_ : Int) → ∀ (H : Heap) (locs : List Loc) (ls : Array Slot), SX D ad ca A s w H locs → lv_has ls 6 [(0, .ref (ad 0)), (1, .int q_base), (2, .int q_n), (3, .int q_m), (4, .int v_4), (5, .int v_5)] → W p l e (rk 4) s m args below meth c H locs 0 0 (MQ below (va_Qi (fun r' v => (r', v) = fx_grid_L f_ w q_base q_n q_m v_4 v_5) (BkX D ad ca) A) args s 0 0 A) (F0 m 66 ls []) := by
  have hx := E.1.1
  have hb := E.1.2.1
  have hml := E.1.2.2.1
  have hown := E.1.2.2.2.1
  have hts := E.1.2.2.2.2
  intro f_
  induction f_ with
  | zero =>
    intro w q_base q_n q_m v_4 v_5 hr4 hn hm8 hi hw hf H locs ls hS hl
    exfalso
    omega
  | succ f_ ih =>
    intro w q_base q_n q_m v_4 v_5 hr4 hn hm8 hi hw hf H locs ls hS hl
    refine lv_iload hx hb dX0_grid_66 (lv_at hl 5 rfl) ?_
    refine lv_iload_n hx hb dX0_grid_68 rfl (lv_at hl 2 rfl) ?_
    refine lv_icmp_ge (tgt := 98) hx hb dX0_grid_69 (by decide) (fun h69 => ?_) (fun h69 => ?_)
    · refine lv_iload hx hb dX0_grid_98 (lv_at hl 4 rfl) ?_
      exact EnX.iret E hS (ni_i _) (by rw [fx_grid_L, if_pos h69]) dX0_grid_100
    · have g69 := h69
      rw [le_ti] at g69
      refine lv_aload_n hx hb dX0_grid_72 rfl (lv_at hl 0 rfl) ?_
      refine gX_places E hS dX0_grid_73 ?_
      refine lv_iload hx hb dX0_grid_76 (lv_at hl 4 rfl) ?_
      refine lv_iload hx hb dX0_grid_78 (lv_at hl 5 rfl) ?_
      refine EnX.sti (r := fx_placeIndex v_4 v_5) E hS [.int v_4, .int v_5] [.ref (ad 5)] (kX0_placeIndex l v_4 v_5 ) (fun _ _ _ _ h => h) (fun _ _ _ => trivial) gc_X0_70 hd_X0_placeIndex ⟨Nat.le_of_ble_eq_true rfl, Nat.le_of_ble_eq_true rfl⟩ rfl hl.1 (Nat.le_of_ble_eq_true rfl) ⟨Nat.le_refl 0, Nat.le_refl 0⟩ dX0_grid_80 (fun H locs hS => ?_)
      refine lv_aload_n hx hb dX0_grid_83 rfl (lv_at hl 0 rfl) ?_
      refine lv_iload_n hx hb dX0_grid_84 rfl (lv_at hl 1 rfl) ?_
      refine lv_iconst (v := 1) hx hb dX0_grid_85 (by decide) ?_
      refine lv_iload_n hx hb dX0_grid_86 rfl (lv_at hl 3 rfl) ?_
      refine EnX.calli (r := (fx_addRow w q_base 1 q_m).1) (u2 := (fx_addRow w q_base 1 q_m).2) E hS [.int q_base, .int 1, .int q_m] [.int (fx_placeIndex v_4 v_5), .ref (ad 5)] (kX0_addRow l D ad ca g w q_base 1 q_m (by rw [vp_in_iff]; omega) hm8) gc_X0_61 hd_X0_addRow ⟨Nat.le_of_ble_eq_true rfl, Nat.le_of_ble_eq_true rfl⟩ rfl hl.1 (Nat.le_of_ble_eq_true rfl) ⟨Nat.le_refl 0, Nat.le_refl 0⟩ dX0_grid_87 (fun H locs hS => ?_)
      refine lv_i2l (v := Int32.toInt64 ((fx_addRow w q_base 1 q_m).1)) hx hb dX0_grid_90 rfl ?_
      refine sX_places E hS (show vp_in (fx_placeIndex v_4 v_5) 480 from pi_in hr4 (by omega) (by omega)) dX0_grid_91 (fun H locs hS => ?_)
      have hS : SX D ad ca A s (xs_places ((fx_addRow w q_base 1 q_m).2) (vp_updL (x_places ((fx_addRow w q_base 1 q_m).2)) (fx_placeIndex v_4 v_5).toNatClampNeg (Int32.toInt64 ((fx_addRow w q_base 1 q_m).1)))) H locs := hS
      refine lv_iinc (v := v_5 + 1) (lv' := [(5, .int (v_5 + 1)), (0, .ref (ad 0)), (1, .int q_base), (2, .int q_n), (3, .int q_m), (4, .int v_4)]) hx hb dX0_grid_92 hl (k := 5) rfl rfl (by decide) rfl (fun ls hl => ?_)
      refine lv_goto (tgt := 66) hx hb dX0_grid_95 (by decide) ?_
      have hr : fx_grid_L (f_ + 1) w q_base q_n q_m v_4 v_5 = fx_grid_L f_ (xs_places ((fx_addRow w q_base 1 q_m).2) (vp_updL (x_places ((fx_addRow w q_base 1 q_m).2)) (fx_placeIndex v_4 v_5).toNatClampNeg (Int32.toInt64 ((fx_addRow w q_base 1 q_m).1)))) q_base q_n q_m v_4 (v_5 + 1) := by rw [fx_grid_L, if_neg h69]
      have e5 : (v_5 + 1).toInt = v_5.toInt + 1 := ti_inc (by omega) (by omega)
      have ew : x_thingCount (xs_places ((fx_addRow w q_base 1 q_m).2) (vp_updL (x_places ((fx_addRow w q_base 1 q_m).2)) (fx_placeIndex v_4 v_5).toNatClampNeg (Int32.toInt64 ((fx_addRow w q_base 1 q_m).1)))) = x_thingCount w + 1 := by rw [x_thingCount_places, ar_eq (by rw [vp_in_iff]; omega) hm8]; rfl
      have et : (x_thingCount w + 1).toInt = (x_thingCount w).toInt + 1 := ti_inc (by omega) (by omega)
      rw [hr]
      exact ih (xs_places ((fx_addRow w q_base 1 q_m).2) (vp_updL (x_places ((fx_addRow w q_base 1 q_m).2)) (fx_placeIndex v_4 v_5).toNatClampNeg (Int32.toInt64 ((fx_addRow w q_base 1 q_m).1)))) q_base q_n q_m v_4 (v_5 + 1) hr4 hn hm8 (by omega) (by rw [ew]; omega) (by omega) _ _ ls hS (lv_sub hl [1, 2, 3, 4, 5, 0] rfl)
def fx_grid (u : XS) (q_base : Int32) (q_n : Int32) (q_m : Int32) : Int32 × XS := if (fx_isKind q_base 2) = 0 then ((-2), u) else (if 8 < q_n then ((-2), u) else (if q_m ≤ 8 then (if (fx_hasRoomFor u (1 + (if q_n < 0 then 0 else q_n))) = 0 then ((-3), u) else (if q_n < 0 then ((fx_fail u 5).1, (fx_fail u 5).2) else (if 0 ≤ q_m then fx_grid_L 9 ((fx_addRow u q_base 2 q_n).2) q_base q_n q_m ((fx_addRow u q_base 2 q_n).1) 0 else ((fx_fail u 5).1, (fx_fail u 5).2)))) else ((-2), u)))
theorem hd_X0_grid : yX0_grid.cls = RX0 ∧ yX0_grid.cls ≠ "java/lang/invoke/MethodHandle" ∧ yX0_grid.cls ≠ "java/lang/invoke/VarHandle" ∧ (parseMethodDescriptor yX0_grid.desc).map (fun d => d.parameters.length) = some 3 := by decide +kernel
set_option maxRecDepth 100000 in
set_option maxHeartbeats 4000000 in
theorem kX0_grid (l : Launch) (D : va_G) (ad : Nat → Nat) (ca : Nat → ClassId) (g : Nat) (u : XS) (q_base : Int32) (q_n : Int32) (q_m : Int32) (hI : XI u) : CiX l yX0_grid cX0_grid 6 .int 4 D ad ca g [.int q_base, .int q_n, .int q_m] u (fx_grid u q_base q_n q_m) := by
  refine CiX.of (by decide) rfl (Nat.le_of_ble_eq_true rfl) ?_
  intro p e s m below meth c A ls E hS hl
  have hx := E.1.1
  have hb := E.1.2.1
  have hml := E.1.2.2.1
  have hown := E.1.2.2.2.1
  have hts := E.1.2.2.2.2
  have hl : lv_has ls 6 [(0, .ref (ad 0)), (1, .int q_base), (2, .int q_n), (3, .int q_m)] := hl
  refine lv_iload_n hx hb dX0_grid_0 rfl (lv_at hl 1 rfl) ?_
  refine lv_iconst (v := 2) hx hb dX0_grid_1 (by decide) ?_
  refine EnX.sti (r := fx_isKind q_base 2) E hS [.int q_base, .int 2] [] (kX0_isKind l q_base 2 ) (fun _ _ _ _ h => h) (fun _ _ _ => trivial) gc_X0_53 hd_X0_isKind ⟨Nat.le_of_ble_eq_true rfl, Nat.le_of_ble_eq_true rfl⟩ rfl hl.1 (Nat.le_of_ble_eq_true rfl) ⟨Nat.le_refl 0, Nat.le_refl 0⟩ dX0_grid_2 (fun H locs hS => ?_)
  refine lv_if_eq (tgt := 20) hx hb dX0_grid_5 (by decide) (fun h5 => ?_) (fun h5 => ?_)
  · refine lv_bipush (v := (-2)) hx hb dX0_grid_20 (by decide) ?_
    exact EnX.iret E hS (ni_i _) (by first | (simp only [fx_grid, if_pos h5]; done) | (unfold fx_grid; rw [if_pos h5])) dX0_grid_22
  · refine lv_iload_n hx hb dX0_grid_8 rfl (lv_at hl 2 rfl) ?_
    refine lv_bipush (v := 8) hx hb dX0_grid_9 (by decide) ?_
    refine lv_icmp_gt (tgt := 20) hx hb dX0_grid_11 (by decide) (fun h11 => ?_) (fun h11 => ?_)
    · refine lv_bipush (v := (-2)) hx hb dX0_grid_20 (by decide) ?_
      exact EnX.iret E hS (ni_i _) (by first | (simp only [fx_grid, if_neg h5, if_pos h11]; done) | (unfold fx_grid; rw [if_neg h5, if_pos h11])) dX0_grid_22
    · refine lv_iload_n hx hb dX0_grid_14 rfl (lv_at hl 3 rfl) ?_
      refine lv_bipush (v := 8) hx hb dX0_grid_15 (by decide) ?_
      refine lv_icmp_le (tgt := 23) hx hb dX0_grid_17 (by decide) (fun h17 => ?_) (fun h17 => ?_)
      · refine lv_aload_n hx hb dX0_grid_23 rfl (lv_at hl 0 rfl) ?_
        refine lv_iconst (v := 1) hx hb dX0_grid_24 (by decide) ?_
        refine lv_iload_n hx hb dX0_grid_25 rfl (lv_at hl 2 rfl) ?_
        refine lv_iconst (v := 0) hx hb dX0_grid_26 (by decide) ?_
        refine va_mmax (x := q_n) (y := 0) hx hb (hml.trans hl.1.symm) hown (hts _ wl_X0_64) (hts _ wt_max) (hts _ wn_math) (hts _ wc_max) (Nat.le_of_ble_eq_true rfl) (Nat.le_of_ble_eq_true rfl) (Nat.le_refl 0) (Nat.le_refl 0) dX0_grid_27 ?_
        refine lv_iadd hx hb dX0_grid_30 ?_
        refine EnX.calli (r := fx_hasRoomFor u (1 + (if q_n < 0 then 0 else q_n))) (u2 := u) E hS [.int (1 + (if q_n < 0 then 0 else q_n))] [] (kX0_hasRoomFor l D ad ca g u (1 + (if q_n < 0 then 0 else q_n)) ) gc_X0_45 hd_X0_hasRoomFor ⟨Nat.le_of_ble_eq_true rfl, Nat.le_of_ble_eq_true rfl⟩ rfl hl.1 (Nat.le_of_ble_eq_true rfl) ⟨Nat.le_refl 0, Nat.le_refl 0⟩ dX0_grid_31 (fun H locs hS => ?_)
        refine lv_if_ne (tgt := 40) hx hb dX0_grid_34 (by decide) (fun h34 => ?_) (fun h34 => ?_)
        · refine lv_iload_n hx hb dX0_grid_40 rfl (lv_at hl 2 rfl) ?_
          refine lv_if_lt (tgt := 48) hx hb dX0_grid_41 (by decide) (fun h41 => ?_) (fun h41 => ?_)
          · refine lv_aload_n hx hb dX0_grid_48 rfl (lv_at hl 0 rfl) ?_
            refine lv_iconst (v := 5) hx hb dX0_grid_49 (by decide) ?_
            refine EnX.calli (r := (fx_fail u 5).1) (u2 := (fx_fail u 5).2) E hS [.int 5] [] (kX0_fail l D ad ca g u 5 ) gc_X0_57 hd_X0_fail ⟨Nat.le_of_ble_eq_true rfl, Nat.le_of_ble_eq_true rfl⟩ rfl hl.1 (Nat.le_of_ble_eq_true rfl) ⟨Nat.le_refl 0, Nat.le_refl 0⟩ dX0_grid_50 (fun H locs hS => ?_)
            exact EnX.iret E hS (ni_i _) (by first | (simp only [fx_grid, if_neg h5, if_neg h11, if_pos h17, if_neg h34, if_pos h41]; done) | (unfold fx_grid; rw [if_neg h5, if_neg h11, if_pos h17, if_neg h34, if_pos h41])) dX0_grid_53
          · refine lv_iload_n hx hb dX0_grid_44 rfl (lv_at hl 3 rfl) ?_
            refine lv_if_ge (tgt := 54) hx hb dX0_grid_45 (by decide) (fun h45 => ?_) (fun h45 => ?_)
            · refine lv_aload_n hx hb dX0_grid_54 rfl (lv_at hl 0 rfl) ?_
              refine lv_iload_n hx hb dX0_grid_55 rfl (lv_at hl 1 rfl) ?_
              refine lv_iconst (v := 2) hx hb dX0_grid_56 (by decide) ?_
              refine lv_iload_n hx hb dX0_grid_57 rfl (lv_at hl 2 rfl) ?_
              refine EnX.calli (r := (fx_addRow u q_base 2 q_n).1) (u2 := (fx_addRow u q_base 2 q_n).2) E hS [.int q_base, .int 2, .int q_n] [] (kX0_addRow l D ad ca g u q_base 2 q_n (gr_tcx hI (by rw [lt_ti, ti8] at h11; omega) h34) (by rw [lt_ti, ti8] at h11; rw [lt_ti, ti0] at h41; omega)) gc_X0_61 hd_X0_addRow ⟨Nat.le_of_ble_eq_true rfl, Nat.le_of_ble_eq_true rfl⟩ rfl hl.1 (Nat.le_of_ble_eq_true rfl) ⟨Nat.le_refl 0, Nat.le_refl 0⟩ dX0_grid_58 (fun H locs hS => ?_)
              refine lv_istore (lv' := [(4, .int ((fx_addRow u q_base 2 q_n).1)), (0, .ref (ad 0)), (1, .int q_base), (2, .int q_n), (3, .int q_m)]) hx hb dX0_grid_61 hl (by decide) rfl (fun ls hl => ?_)
              refine lv_iconst (v := 0) hx hb dX0_grid_63 (by decide) ?_
              refine lv_istore (lv' := [(5, .int 0), (4, .int ((fx_addRow u q_base 2 q_n).1)), (0, .ref (ad 0)), (1, .int q_base), (2, .int q_n), (3, .int q_m)]) hx hb dX0_grid_64 hl (by decide) rfl (fun ls hl => ?_)
              have hr : fx_grid u q_base q_n q_m = fx_grid_L 9 ((fx_addRow u q_base 2 q_n).2) q_base q_n q_m ((fx_addRow u q_base 2 q_n).1) 0 := by unfold fx_grid; rw [if_neg h5, if_neg h11, if_pos h17, if_neg h34, if_neg h41, if_pos h45]
              have htc := gr_tcx hI (by rw [lt_ti, ti8] at h11; omega) h34
              have hn8 : 0 ≤ q_n.toInt ∧ q_n.toInt ≤ 8 := by rw [lt_ti, ti8] at h11; rw [lt_ti, ti0] at h41; omega
              have hm8 : 0 ≤ q_m.toInt ∧ q_m.toInt ≤ 8 := by rw [le_ti, ti8] at h17; rw [le_ti, ti0] at h45; omega
              have hrm := gr_rm hI hn8 h34
              have e1 : (x_thingCount u + 1).toInt = (x_thingCount u).toInt + 1 := ti_inc (by have := hI.1; omega) (by have := hI.1; omega)
              have h1 := hI.1
              have ha := ar_eq (b := q_base) (d := 2) htc hn8
              have ha1 : (fx_addRow u q_base 2 q_n).1 = x_thingCount u := by rw [ha]
              have ha2 : x_thingCount (fx_addRow u q_base 2 q_n).2 = x_thingCount u + 1 := by rw [ha]; rfl
              rw [hr]
              exact loop_X0_grid l D ad ca g u  E 9 ((fx_addRow u q_base 2 q_n).2) q_base q_n q_m ((fx_addRow u q_base 2 q_n).1) 0 (by rw [ha1]; exact htc) hn8 hm8 (by rw [ti0]; omega) (by rw [ha2, ti0]; omega) (by rw [ti0]; omega) _ _ ls hS (lv_sub hl [2, 3, 4, 5, 1, 0] rfl)
            · refine lv_aload_n hx hb dX0_grid_48 rfl (lv_at hl 0 rfl) ?_
              refine lv_iconst (v := 5) hx hb dX0_grid_49 (by decide) ?_
              refine EnX.calli (r := (fx_fail u 5).1) (u2 := (fx_fail u 5).2) E hS [.int 5] [] (kX0_fail l D ad ca g u 5 ) gc_X0_57 hd_X0_fail ⟨Nat.le_of_ble_eq_true rfl, Nat.le_of_ble_eq_true rfl⟩ rfl hl.1 (Nat.le_of_ble_eq_true rfl) ⟨Nat.le_refl 0, Nat.le_refl 0⟩ dX0_grid_50 (fun H locs hS => ?_)
              exact EnX.iret E hS (ni_i _) (by first | (simp only [fx_grid, if_neg h5, if_neg h11, if_pos h17, if_neg h34, if_neg h41, if_neg h45]; done) | (unfold fx_grid; rw [if_neg h5, if_neg h11, if_pos h17, if_neg h34, if_neg h41, if_neg h45])) dX0_grid_53
        · refine lv_bipush (v := (-3)) hx hb dX0_grid_37 (by decide) ?_
          exact EnX.iret E hS (ni_i _) (by first | (simp only [fx_grid, if_neg h5, if_neg h11, if_pos h17, if_pos h34]; done) | (unfold fx_grid; rw [if_neg h5, if_neg h11, if_pos h17, if_pos h34])) dX0_grid_39
      · refine lv_bipush (v := (-2)) hx hb dX0_grid_20 (by decide) ?_
        exact EnX.iret E hS (ni_i _) (by first | (simp only [fx_grid, if_neg h5, if_neg h11, if_neg h17]; done) | (unfold fx_grid; rw [if_neg h5, if_neg h11, if_neg h17])) dX0_grid_22
end
section
/-! DepotTraysModel: what holds of its state between calls; small methods -/
def MI (u : MS) : Prop := (0 ≤ (m_things u).toInt ∧ (m_things u).toInt ≤ 60) ∧ (∀ i : Nat, 0 ≤ (m_sizes u i).toInt ∧ (m_sizes u i).toInt ≤ 8) ∧ (∀ q : Nat, -1 ≤ (m_lies u q).toInt ∧ (m_lies u q).toInt < 60)
def fm_isIn (q_v : Int32) (q_least : Int32) (q_most : Int32) : Int32 := if q_v < q_least then 0 else (if q_most < q_v then 0 else 1)
theorem fm_isIn_01 (q_v : Int32) (q_least : Int32) (q_most : Int32) : fm_isIn q_v q_least q_most = 0 ∨ fm_isIn q_v q_least q_most = 1 := by
  unfold fm_isIn
  (repeat' split) <;> first | exact Or.inl rfl | exact Or.inr rfl
theorem hd_X1_isIn : yX1_isIn.cls ≠ "java/lang/invoke/MethodHandle" ∧ yX1_isIn.cls ≠ "java/lang/invoke/VarHandle" ∧ (parseMethodDescriptor yX1_isIn.desc).map (fun d => d.parameters.length) = some 3 := by decide +kernel
set_option maxRecDepth 100000 in
set_option maxHeartbeats 4000000 in
theorem kX1_isIn (l : Launch) (q_v : Int32) (q_least : Int32) (q_most : Int32)  : Cs l yX1_isIn cX1_isIn 3 .boolean 1 (fun _ => True) [.int q_v, .int q_least, .int q_most] (fm_isIn q_v q_least q_most) := by
  refine Cs.of (by decide) (Nat.le_of_ble_eq_true rfl) ?_
  intro p e s m below meth c ls E hZ hS hl
  have hx := E.1.1
  have hb := E.1.2.1
  have hml := E.1.2.2.1
  have hown := E.1.2.2.2.1
  have hts := E.1.2.2.2.2
  have hl : lv_has ls 3 [(0, .int q_v), (1, .int q_least), (2, .int q_most)] := hl
  refine lv_iload_n hx hb dX1_isIn_0 rfl (lv_at hl 0 rfl) ?_
  refine lv_iload_n hx hb dX1_isIn_1 rfl (lv_at hl 1 rfl) ?_
  refine lv_icmp_lt (tgt := 14) hx hb dX1_isIn_2 (by decide) (fun h2 => ?_) (fun h2 => ?_)
  · refine lv_iconst (v := 0) hx hb dX1_isIn_14 (by decide) ?_
    exact EnS.iret E hS ni_0 (by first | (simp only [fm_isIn, if_pos h2]; done) | (unfold fm_isIn; rw [if_pos h2])) dX1_isIn_15
  · refine lv_iload_n hx hb dX1_isIn_5 rfl (lv_at hl 0 rfl) ?_
    refine lv_iload_n hx hb dX1_isIn_6 rfl (lv_at hl 2 rfl) ?_
    refine lv_icmp_gt (tgt := 14) hx hb dX1_isIn_7 (by decide) (fun h7 => ?_) (fun h7 => ?_)
    · refine lv_iconst (v := 0) hx hb dX1_isIn_14 (by decide) ?_
      exact EnS.iret E hS ni_0 (by first | (simp only [fm_isIn, if_neg h2, if_pos h7]; done) | (unfold fm_isIn; rw [if_neg h2, if_pos h7])) dX1_isIn_15
    · refine lv_iconst (v := 1) hx hb dX1_isIn_10 (by decide) ?_
      refine lv_goto (tgt := 15) hx hb dX1_isIn_11 (by decide) ?_
      exact EnS.iret E hS ni_1 (by first | (simp only [fm_isIn, if_neg h2, if_neg h7]; done) | (unfold fm_isIn; rw [if_neg h2, if_neg h7])) dX1_isIn_15
def fm_fails (u : MS) (q_with : Int32) : Int32 × MS := ((-10) - q_with, ms_latest (ms_failures u ((m_failures u) + 1)) q_with)
theorem hd_X1_fails : yX1_fails.cls = RX1 ∧ yX1_fails.cls ≠ "java/lang/invoke/MethodHandle" ∧ yX1_fails.cls ≠ "java/lang/invoke/VarHandle" ∧ (parseMethodDescriptor yX1_fails.desc).map (fun d => d.parameters.length) = some 1 := by decide +kernel
set_option maxRecDepth 100000 in
set_option maxHeartbeats 4000000 in
theorem kX1_fails (l : Launch) (D : va_G) (ad : Nat → Nat) (ca : Nat → ClassId) (g : Nat) (u : MS) (q_with : Int32)  : CiM l yX1_fails cX1_fails 2 .int 1 D ad ca g [.int q_with] u (fm_fails u q_with) := by
  refine CiM.of (by decide) rfl (Nat.le_of_ble_eq_true rfl) ?_
  intro p e s m below meth c A ls E hS hl
  have hx := E.1.1
  have hb := E.1.2.1
  have hml := E.1.2.2.1
  have hown := E.1.2.2.2.1
  have hts := E.1.2.2.2.2
  have hl : lv_has ls 2 [(0, .ref (ad 0)), (1, .int q_with)] := hl
  refine lv_aload_n hx hb dX1_fails_0 rfl (lv_at hl 0 rfl) ?_
  refine lv_dup hx hb dX1_fails_1 rfl ?_
  refine gM_failures (v := m_failures u) E hS rfl dX1_fails_2 ?_
  refine lv_iconst (v := 1) hx hb dX1_fails_5 (by decide) ?_
  refine lv_iadd hx hb dX1_fails_6 ?_
  refine pM_failures E hS dX1_fails_7 (fun H locs hS => ?_)
  have hS : SM D ad ca A s (ms_failures u ((m_failures u) + 1)) H locs := hS
  refine lv_aload_n hx hb dX1_fails_10 rfl (lv_at hl 0 rfl) ?_
  refine lv_iload_n hx hb dX1_fails_11 rfl (lv_at hl 1 rfl) ?_
  refine pM_latest E hS dX1_fails_12 (fun H locs hS => ?_)
  have hS : SM D ad ca A s (ms_latest (ms_failures u ((m_failures u) + 1)) q_with) H locs := hS
  refine lv_bipush (v := (-10)) hx hb dX1_fails_15 (by decide) ?_
  refine lv_iload_n hx hb dX1_fails_17 rfl (lv_at hl 1 rfl) ?_
  refine lv_isub hx hb dX1_fails_18 ?_
  exact EnM.iret E hS (ni_i _) (by unfold fm_fails; rfl) dX1_fails_19
def fm_isThing (u : MS) (q_x : Int32) : Int32 := fm_isIn q_x 0 ((m_things u) - 1)
theorem fm_isThing_01 (u : MS) (q_x : Int32) : fm_isThing u q_x = 0 ∨ fm_isThing u q_x = 1 := by
  unfold fm_isThing
  (repeat' split) <;> first | exact Or.inl rfl | exact Or.inr rfl | apply fm_isIn_01
theorem hd_X1_isThing : yX1_isThing.cls = RX1 ∧ yX1_isThing.cls ≠ "java/lang/invoke/MethodHandle" ∧ yX1_isThing.cls ≠ "java/lang/invoke/VarHandle" ∧ (parseMethodDescriptor yX1_isThing.desc).map (fun d => d.parameters.length) = some 1 := by decide +kernel
set_option maxRecDepth 100000 in
set_option maxHeartbeats 4000000 in
theorem kX1_isThing (l : Launch) (D : va_G) (ad : Nat → Nat) (ca : Nat → ClassId) (g : Nat) (u : MS) (q_x : Int32)  : CiM l yX1_isThing cX1_isThing 2 .boolean 2 D ad ca g [.int q_x] u ((fm_isThing u q_x, u)) := by
  refine CiM.of (by decide) rfl (Nat.le_of_ble_eq_true rfl) ?_
  intro p e s m below meth c A ls E hS hl
  have hx := E.1.1
  have hb := E.1.2.1
  have hml := E.1.2.2.1
  have hown := E.1.2.2.2.1
  have hts := E.1.2.2.2.2
  have hl : lv_has ls 2 [(0, .ref (ad 0)), (1, .int q_x)] := hl
  refine lv_iload_n hx hb dX1_isThing_0 rfl (lv_at hl 1 rfl) ?_
  refine lv_iconst (v := 0) hx hb dX1_isThing_1 (by decide) ?_
  refine lv_aload_n hx hb dX1_isThing_2 rfl (lv_at hl 0 rfl) ?_
  refine gM_things (v := m_things u) E hS rfl dX1_isThing_3 ?_
  refine lv_iconst (v := 1) hx hb dX1_isThing_6 (by decide) ?_
  refine lv_isub hx hb dX1_isThing_7 ?_
  refine EnM.sti (r := fm_isIn q_x 0 ((m_things u) - 1)) E hS [.int q_x, .int 0, .int ((m_things u) - 1)] [] (kX1_isIn l q_x 0 ((m_things u) - 1) ) (fun _ _ _ _ h => h) (fun _ _ _ => trivial) gc_X1_60 hd_X1_isIn ⟨Nat.le_of_ble_eq_true rfl, Nat.le_of_ble_eq_true rfl⟩ rfl hl.1 (Nat.le_of_ble_eq_true rfl) ⟨Nat.le_refl 0, Nat.le_refl 0⟩ dX1_isThing_8 (fun H locs hS => ?_)
  exact EnM.iret E hS (ni_b (fm_isIn_01 q_x 0 ((m_things u) - 1))) (congrArg (fun z => (z, u)) (show fm_isIn q_x 0 ((m_things u) - 1) = fm_isThing u q_x by unfold fm_isThing; rfl)) dX1_isThing_11
def fm_mayBe (u : MS) (q_x : Int32) : Int32 := fm_isIn q_x (-1) ((m_things u) - 1)
theorem fm_mayBe_01 (u : MS) (q_x : Int32) : fm_mayBe u q_x = 0 ∨ fm_mayBe u q_x = 1 := by
  unfold fm_mayBe
  (repeat' split) <;> first | exact Or.inl rfl | exact Or.inr rfl | apply fm_isIn_01
theorem hd_X1_mayBe : yX1_mayBe.cls = RX1 ∧ yX1_mayBe.cls ≠ "java/lang/invoke/MethodHandle" ∧ yX1_mayBe.cls ≠ "java/lang/invoke/VarHandle" ∧ (parseMethodDescriptor yX1_mayBe.desc).map (fun d => d.parameters.length) = some 1 := by decide +kernel
set_option maxRecDepth 100000 in
set_option maxHeartbeats 4000000 in
theorem kX1_mayBe (l : Launch) (D : va_G) (ad : Nat → Nat) (ca : Nat → ClassId) (g : Nat) (u : MS) (q_x : Int32)  : CiM l yX1_mayBe cX1_mayBe 2 .boolean 2 D ad ca g [.int q_x] u ((fm_mayBe u q_x, u)) := by
  refine CiM.of (by decide) rfl (Nat.le_of_ble_eq_true rfl) ?_
  intro p e s m below meth c A ls E hS hl
  have hx := E.1.1
  have hb := E.1.2.1
  have hml := E.1.2.2.1
  have hown := E.1.2.2.2.1
  have hts := E.1.2.2.2.2
  have hl : lv_has ls 2 [(0, .ref (ad 0)), (1, .int q_x)] := hl
  refine lv_iload_n hx hb dX1_mayBe_0 rfl (lv_at hl 1 rfl) ?_
  refine lv_iconst (v := (-1)) hx hb dX1_mayBe_1 (by decide) ?_
  refine lv_aload_n hx hb dX1_mayBe_2 rfl (lv_at hl 0 rfl) ?_
  refine gM_things (v := m_things u) E hS rfl dX1_mayBe_3 ?_
  refine lv_iconst (v := 1) hx hb dX1_mayBe_6 (by decide) ?_
  refine lv_isub hx hb dX1_mayBe_7 ?_
  refine EnM.sti (r := fm_isIn q_x (-1) ((m_things u) - 1)) E hS [.int q_x, .int (-1), .int ((m_things u) - 1)] [] (kX1_isIn l q_x (-1) ((m_things u) - 1) ) (fun _ _ _ _ h => h) (fun _ _ _ => trivial) gc_X1_60 hd_X1_isIn ⟨Nat.le_of_ble_eq_true rfl, Nat.le_of_ble_eq_true rfl⟩ rfl hl.1 (Nat.le_of_ble_eq_true rfl) ⟨Nat.le_refl 0, Nat.le_refl 0⟩ dX1_mayBe_8 (fun H locs hS => ?_)
  exact EnM.iret E hS (ni_b (fm_isIn_01 q_x (-1) ((m_things u) - 1))) (congrArg (fun z => (z, u)) (show fm_isIn q_x (-1) ((m_things u) - 1) = fm_mayBe u q_x by unfold fm_mayBe; rfl)) dX1_mayBe_11
def fm_goesFor (q_a : Int32) (q_b : Int32) : Int32 := if q_a = q_b then 1 else (if q_b = 0 then (if (fm_isIn q_a 1 3) = 0 then (if q_a = 3 then (if q_b = 2 then 1 else (if q_b = 4 then (if q_a = 1 then 1 else (if q_a = 3 then 1 else 0)) else 0)) else (if q_b = 4 then (if q_a = 1 then 1 else (if q_a = 3 then 1 else 0)) else 0)) else 1) else (if q_a = 3 then (if q_b = 2 then 1 else (if q_b = 4 then (if q_a = 1 then 1 else (if q_a = 3 then 1 else 0)) else 0)) else (if q_b = 4 then (if q_a = 1 then 1 else (if q_a = 3 then 1 else 0)) else 0)))
theorem fm_goesFor_01 (q_a : Int32) (q_b : Int32) : fm_goesFor q_a q_b = 0 ∨ fm_goesFor q_a q_b = 1 := by
  unfold fm_goesFor
  (repeat' split) <;> first | exact Or.inl rfl | exact Or.inr rfl | apply fm_isIn_01
theorem hd_X1_goesFor : yX1_goesFor.cls ≠ "java/lang/invoke/MethodHandle" ∧ yX1_goesFor.cls ≠ "java/lang/invoke/VarHandle" ∧ (parseMethodDescriptor yX1_goesFor.desc).map (fun d => d.parameters.length) = some 2 := by decide +kernel
set_option maxRecDepth 100000 in
set_option maxHeartbeats 4000000 in
theorem kX1_goesFor (l : Launch) (q_a : Int32) (q_b : Int32)  : Cs l yX1_goesFor cX1_goesFor 2 .boolean 2 (fun _ => True) [.int q_a, .int q_b] (fm_goesFor q_a q_b) := by
  refine Cs.of (by decide) (Nat.le_of_ble_eq_true rfl) ?_
  intro p e s m below meth c ls E hZ hS hl
  have hx := E.1.1
  have hb := E.1.2.1
  have hml := E.1.2.2.1
  have hown := E.1.2.2.2.1
  have hts := E.1.2.2.2.2
  have hl : lv_has ls 2 [(0, .int q_a), (1, .int q_b)] := hl
  refine lv_iload_n hx hb dX1_goesFor_0 rfl (lv_at hl 0 rfl) ?_
  refine lv_iload_n hx hb dX1_goesFor_1 rfl (lv_at hl 1 rfl) ?_
  refine lv_icmp_eq (tgt := 43) hx hb dX1_goesFor_2 (by decide) (fun h2 => ?_) (fun h2 => ?_)
  · refine lv_iconst (v := 1) hx hb dX1_goesFor_43 (by decide) ?_
    refine lv_goto (tgt := 48) hx hb dX1_goesFor_44 (by decide) ?_
    exact EnS.iret E hS ni_1 (by first | (simp only [fm_goesFor, if_pos h2]; done) | (unfold fm_goesFor; rw [if_pos h2])) dX1_goesFor_48
  · refine lv_iload_n hx hb dX1_goesFor_5 rfl (lv_at hl 1 rfl) ?_
    refine lv_if_ne (tgt := 18) hx hb dX1_goesFor_6 (by decide) (fun h6 => ?_) (fun h6 => ?_)
    · refine lv_iload_n hx hb dX1_goesFor_18 rfl (lv_at hl 0 rfl) ?_
      refine lv_iconst (v := 3) hx hb dX1_goesFor_19 (by decide) ?_
      refine lv_icmp_ne (tgt := 28) hx hb dX1_goesFor_20 (by decide) (fun h20 => ?_) (fun h20 => ?_)
      · refine lv_iload_n hx hb dX1_goesFor_28 rfl (lv_at hl 1 rfl) ?_
        refine lv_iconst (v := 4) hx hb dX1_goesFor_29 (by decide) ?_
        refine lv_icmp_ne (tgt := 47) hx hb dX1_goesFor_30 (by decide) (fun h30 => ?_) (fun h30 => ?_)
        · refine lv_iconst (v := 0) hx hb dX1_goesFor_47 (by decide) ?_
          exact EnS.iret E hS ni_0 (by first | (simp only [fm_goesFor, if_neg h2, if_neg h6, if_neg h20, if_neg h30]; done) | (unfold fm_goesFor; rw [if_neg h2, if_neg h6, if_neg h20, if_neg h30])) dX1_goesFor_48
        · refine lv_iload_n hx hb dX1_goesFor_33 rfl (lv_at hl 0 rfl) ?_
          refine lv_iconst (v := 1) hx hb dX1_goesFor_34 (by decide) ?_
          refine lv_icmp_eq (tgt := 43) hx hb dX1_goesFor_35 (by decide) (fun h35 => ?_) (fun h35 => ?_)
          · refine lv_iconst (v := 1) hx hb dX1_goesFor_43 (by decide) ?_
            refine lv_goto (tgt := 48) hx hb dX1_goesFor_44 (by decide) ?_
            exact EnS.iret E hS ni_1 (by first | (simp only [fm_goesFor, if_neg h2, if_neg h6, if_neg h20, if_pos h30, if_pos h35]; done) | (unfold fm_goesFor; rw [if_neg h2, if_neg h6, if_neg h20, if_pos h30, if_pos h35])) dX1_goesFor_48
          · refine lv_iload_n hx hb dX1_goesFor_38 rfl (lv_at hl 0 rfl) ?_
            refine lv_iconst (v := 3) hx hb dX1_goesFor_39 (by decide) ?_
            refine lv_icmp_ne (tgt := 47) hx hb dX1_goesFor_40 (by decide) (fun h40 => ?_) (fun h40 => ?_)
            · refine lv_iconst (v := 0) hx hb dX1_goesFor_47 (by decide) ?_
              exact EnS.iret E hS ni_0 (by first | (simp only [fm_goesFor, if_neg h2, if_neg h6, if_neg h20, if_pos h30, if_neg h35, if_neg h40]; done) | (unfold fm_goesFor; rw [if_neg h2, if_neg h6, if_neg h20, if_pos h30, if_neg h35, if_neg h40])) dX1_goesFor_48
            · refine lv_iconst (v := 1) hx hb dX1_goesFor_43 (by decide) ?_
              refine lv_goto (tgt := 48) hx hb dX1_goesFor_44 (by decide) ?_
              exact EnS.iret E hS ni_1 (by first | (simp only [fm_goesFor, if_neg h2, if_neg h6, if_neg h20, if_pos h30, if_neg h35, if_pos h40]; done) | (unfold fm_goesFor; rw [if_neg h2, if_neg h6, if_neg h20, if_pos h30, if_neg h35, if_pos h40])) dX1_goesFor_48
      · refine lv_iload_n hx hb dX1_goesFor_23 rfl (lv_at hl 1 rfl) ?_
        refine lv_iconst (v := 2) hx hb dX1_goesFor_24 (by decide) ?_
        refine lv_icmp_eq (tgt := 43) hx hb dX1_goesFor_25 (by decide) (fun h25 => ?_) (fun h25 => ?_)
        · refine lv_iconst (v := 1) hx hb dX1_goesFor_43 (by decide) ?_
          refine lv_goto (tgt := 48) hx hb dX1_goesFor_44 (by decide) ?_
          exact EnS.iret E hS ni_1 (by first | (simp only [fm_goesFor, if_neg h2, if_neg h6, if_pos h20, if_pos h25]; done) | (unfold fm_goesFor; rw [if_neg h2, if_neg h6, if_pos h20, if_pos h25])) dX1_goesFor_48
        · refine lv_iload_n hx hb dX1_goesFor_28 rfl (lv_at hl 1 rfl) ?_
          refine lv_iconst (v := 4) hx hb dX1_goesFor_29 (by decide) ?_
          refine lv_icmp_ne (tgt := 47) hx hb dX1_goesFor_30 (by decide) (fun h30 => ?_) (fun h30 => ?_)
          · refine lv_iconst (v := 0) hx hb dX1_goesFor_47 (by decide) ?_
            exact EnS.iret E hS ni_0 (by first | (simp only [fm_goesFor, if_neg h2, if_neg h6, if_pos h20, if_neg h25, if_neg h30]; done) | (unfold fm_goesFor; rw [if_neg h2, if_neg h6, if_pos h20, if_neg h25, if_neg h30])) dX1_goesFor_48
          · refine lv_iload_n hx hb dX1_goesFor_33 rfl (lv_at hl 0 rfl) ?_
            refine lv_iconst (v := 1) hx hb dX1_goesFor_34 (by decide) ?_
            refine lv_icmp_eq (tgt := 43) hx hb dX1_goesFor_35 (by decide) (fun h35 => ?_) (fun h35 => ?_)
            · refine lv_iconst (v := 1) hx hb dX1_goesFor_43 (by decide) ?_
              refine lv_goto (tgt := 48) hx hb dX1_goesFor_44 (by decide) ?_
              exact EnS.iret E hS ni_1 (by first | (simp only [fm_goesFor, if_neg h2, if_neg h6, if_pos h20, if_neg h25, if_pos h30, if_pos h35]; done) | (unfold fm_goesFor; rw [if_neg h2, if_neg h6, if_pos h20, if_neg h25, if_pos h30, if_pos h35])) dX1_goesFor_48
            · refine lv_iload_n hx hb dX1_goesFor_38 rfl (lv_at hl 0 rfl) ?_
              refine lv_iconst (v := 3) hx hb dX1_goesFor_39 (by decide) ?_
              refine lv_icmp_ne (tgt := 47) hx hb dX1_goesFor_40 (by decide) (fun h40 => ?_) (fun h40 => ?_)
              · refine lv_iconst (v := 0) hx hb dX1_goesFor_47 (by decide) ?_
                exact EnS.iret E hS ni_0 (by first | (simp only [fm_goesFor, if_neg h2, if_neg h6, if_pos h20, if_neg h25, if_pos h30, if_neg h35, if_neg h40]; done) | (unfold fm_goesFor; rw [if_neg h2, if_neg h6, if_pos h20, if_neg h25, if_pos h30, if_neg h35, if_neg h40])) dX1_goesFor_48
              · refine lv_iconst (v := 1) hx hb dX1_goesFor_43 (by decide) ?_
                refine lv_goto (tgt := 48) hx hb dX1_goesFor_44 (by decide) ?_
                exact EnS.iret E hS ni_1 (by first | (simp only [fm_goesFor, if_neg h2, if_neg h6, if_pos h20, if_neg h25, if_pos h30, if_neg h35, if_pos h40]; done) | (unfold fm_goesFor; rw [if_neg h2, if_neg h6, if_pos h20, if_neg h25, if_pos h30, if_neg h35, if_pos h40])) dX1_goesFor_48
    · refine lv_iload_n hx hb dX1_goesFor_9 rfl (lv_at hl 0 rfl) ?_
      refine lv_iconst (v := 1) hx hb dX1_goesFor_10 (by decide) ?_
      refine lv_iconst (v := 3) hx hb dX1_goesFor_11 (by decide) ?_
      refine EnS.sti (r := fm_isIn q_a 1 3) E hS [.int q_a, .int 1, .int 3] [] (kX1_isIn l q_a 1 3 ) (fun _ _ _ _ h => h) (fun _ _ _ => trivial) gc_X1_60 hd_X1_isIn ⟨Nat.le_of_ble_eq_true rfl, Nat.le_of_ble_eq_true rfl⟩ rfl hl.1 (Nat.le_of_ble_eq_true rfl) ⟨Nat.le_refl 0, Nat.le_refl 0⟩ dX1_goesFor_12 (fun H locs hS => ?_)
      refine lv_if_ne (tgt := 43) hx hb dX1_goesFor_15 (by decide) (fun h15 => ?_) (fun h15 => ?_)
      · refine lv_iconst (v := 1) hx hb dX1_goesFor_43 (by decide) ?_
        refine lv_goto (tgt := 48) hx hb dX1_goesFor_44 (by decide) ?_
        exact EnS.iret E hS ni_1 (by first | (simp only [fm_goesFor, if_neg h2, if_pos h6, if_neg h15]; done) | (unfold fm_goesFor; rw [if_neg h2, if_pos h6, if_neg h15])) dX1_goesFor_48
      · refine lv_iload_n hx hb dX1_goesFor_18 rfl (lv_at hl 0 rfl) ?_
        refine lv_iconst (v := 3) hx hb dX1_goesFor_19 (by decide) ?_
        refine lv_icmp_ne (tgt := 28) hx hb dX1_goesFor_20 (by decide) (fun h20 => ?_) (fun h20 => ?_)
        · refine lv_iload_n hx hb dX1_goesFor_28 rfl (lv_at hl 1 rfl) ?_
          refine lv_iconst (v := 4) hx hb dX1_goesFor_29 (by decide) ?_
          refine lv_icmp_ne (tgt := 47) hx hb dX1_goesFor_30 (by decide) (fun h30 => ?_) (fun h30 => ?_)
          · refine lv_iconst (v := 0) hx hb dX1_goesFor_47 (by decide) ?_
            exact EnS.iret E hS ni_0 (by first | (simp only [fm_goesFor, if_neg h2, if_pos h6, if_pos h15, if_neg h20, if_neg h30]; done) | (unfold fm_goesFor; rw [if_neg h2, if_pos h6, if_pos h15, if_neg h20, if_neg h30])) dX1_goesFor_48
          · refine lv_iload_n hx hb dX1_goesFor_33 rfl (lv_at hl 0 rfl) ?_
            refine lv_iconst (v := 1) hx hb dX1_goesFor_34 (by decide) ?_
            refine lv_icmp_eq (tgt := 43) hx hb dX1_goesFor_35 (by decide) (fun h35 => ?_) (fun h35 => ?_)
            · refine lv_iconst (v := 1) hx hb dX1_goesFor_43 (by decide) ?_
              refine lv_goto (tgt := 48) hx hb dX1_goesFor_44 (by decide) ?_
              exact EnS.iret E hS ni_1 (by first | (simp only [fm_goesFor, if_neg h2, if_pos h6, if_pos h15, if_neg h20, if_pos h30, if_pos h35]; done) | (unfold fm_goesFor; rw [if_neg h2, if_pos h6, if_pos h15, if_neg h20, if_pos h30, if_pos h35])) dX1_goesFor_48
            · refine lv_iload_n hx hb dX1_goesFor_38 rfl (lv_at hl 0 rfl) ?_
              refine lv_iconst (v := 3) hx hb dX1_goesFor_39 (by decide) ?_
              refine lv_icmp_ne (tgt := 47) hx hb dX1_goesFor_40 (by decide) (fun h40 => ?_) (fun h40 => ?_)
              · refine lv_iconst (v := 0) hx hb dX1_goesFor_47 (by decide) ?_
                exact EnS.iret E hS ni_0 (by first | (simp only [fm_goesFor, if_neg h2, if_pos h6, if_pos h15, if_neg h20, if_pos h30, if_neg h35, if_neg h40]; done) | (unfold fm_goesFor; rw [if_neg h2, if_pos h6, if_pos h15, if_neg h20, if_pos h30, if_neg h35, if_neg h40])) dX1_goesFor_48
              · refine lv_iconst (v := 1) hx hb dX1_goesFor_43 (by decide) ?_
                refine lv_goto (tgt := 48) hx hb dX1_goesFor_44 (by decide) ?_
                exact EnS.iret E hS ni_1 (by first | (simp only [fm_goesFor, if_neg h2, if_pos h6, if_pos h15, if_neg h20, if_pos h30, if_neg h35, if_pos h40]; done) | (unfold fm_goesFor; rw [if_neg h2, if_pos h6, if_pos h15, if_neg h20, if_pos h30, if_neg h35, if_pos h40])) dX1_goesFor_48
        · refine lv_iload_n hx hb dX1_goesFor_23 rfl (lv_at hl 1 rfl) ?_
          refine lv_iconst (v := 2) hx hb dX1_goesFor_24 (by decide) ?_
          refine lv_icmp_eq (tgt := 43) hx hb dX1_goesFor_25 (by decide) (fun h25 => ?_) (fun h25 => ?_)
          · refine lv_iconst (v := 1) hx hb dX1_goesFor_43 (by decide) ?_
            refine lv_goto (tgt := 48) hx hb dX1_goesFor_44 (by decide) ?_
            exact EnS.iret E hS ni_1 (by first | (simp only [fm_goesFor, if_neg h2, if_pos h6, if_pos h15, if_pos h20, if_pos h25]; done) | (unfold fm_goesFor; rw [if_neg h2, if_pos h6, if_pos h15, if_pos h20, if_pos h25])) dX1_goesFor_48
          · refine lv_iload_n hx hb dX1_goesFor_28 rfl (lv_at hl 1 rfl) ?_
            refine lv_iconst (v := 4) hx hb dX1_goesFor_29 (by decide) ?_
            refine lv_icmp_ne (tgt := 47) hx hb dX1_goesFor_30 (by decide) (fun h30 => ?_) (fun h30 => ?_)
            · refine lv_iconst (v := 0) hx hb dX1_goesFor_47 (by decide) ?_
              exact EnS.iret E hS ni_0 (by first | (simp only [fm_goesFor, if_neg h2, if_pos h6, if_pos h15, if_pos h20, if_neg h25, if_neg h30]; done) | (unfold fm_goesFor; rw [if_neg h2, if_pos h6, if_pos h15, if_pos h20, if_neg h25, if_neg h30])) dX1_goesFor_48
            · refine lv_iload_n hx hb dX1_goesFor_33 rfl (lv_at hl 0 rfl) ?_
              refine lv_iconst (v := 1) hx hb dX1_goesFor_34 (by decide) ?_
              refine lv_icmp_eq (tgt := 43) hx hb dX1_goesFor_35 (by decide) (fun h35 => ?_) (fun h35 => ?_)
              · refine lv_iconst (v := 1) hx hb dX1_goesFor_43 (by decide) ?_
                refine lv_goto (tgt := 48) hx hb dX1_goesFor_44 (by decide) ?_
                exact EnS.iret E hS ni_1 (by first | (simp only [fm_goesFor, if_neg h2, if_pos h6, if_pos h15, if_pos h20, if_neg h25, if_pos h30, if_pos h35]; done) | (unfold fm_goesFor; rw [if_neg h2, if_pos h6, if_pos h15, if_pos h20, if_neg h25, if_pos h30, if_pos h35])) dX1_goesFor_48
              · refine lv_iload_n hx hb dX1_goesFor_38 rfl (lv_at hl 0 rfl) ?_
                refine lv_iconst (v := 3) hx hb dX1_goesFor_39 (by decide) ?_
                refine lv_icmp_ne (tgt := 47) hx hb dX1_goesFor_40 (by decide) (fun h40 => ?_) (fun h40 => ?_)
                · refine lv_iconst (v := 0) hx hb dX1_goesFor_47 (by decide) ?_
                  exact EnS.iret E hS ni_0 (by first | (simp only [fm_goesFor, if_neg h2, if_pos h6, if_pos h15, if_pos h20, if_neg h25, if_pos h30, if_neg h35, if_neg h40]; done) | (unfold fm_goesFor; rw [if_neg h2, if_pos h6, if_pos h15, if_pos h20, if_neg h25, if_pos h30, if_neg h35, if_neg h40])) dX1_goesFor_48
                · refine lv_iconst (v := 1) hx hb dX1_goesFor_43 (by decide) ?_
                  refine lv_goto (tgt := 48) hx hb dX1_goesFor_44 (by decide) ?_
                  exact EnS.iret E hS ni_1 (by first | (simp only [fm_goesFor, if_neg h2, if_pos h6, if_pos h15, if_pos h20, if_neg h25, if_pos h30, if_neg h35, if_pos h40]; done) | (unfold fm_goesFor; rw [if_neg h2, if_pos h6, if_pos h15, if_pos h20, if_neg h25, if_pos h30, if_neg h35, if_pos h40])) dX1_goesFor_48
def fm_isLedger (u : MS) (q_x : Int32) : Int32 := if (m_depths u (q_x).toNatClampNeg) = 1 then (if (m_bases u (q_x).toNatClampNeg) ≤ 4 then 0 else 1) else 0
theorem fm_isLedger_01 (u : MS) (q_x : Int32) : fm_isLedger u q_x = 0 ∨ fm_isLedger u q_x = 1 := by
  unfold fm_isLedger
  (repeat' split) <;> first | exact Or.inl rfl | exact Or.inr rfl
theorem hd_X1_isLedger : yX1_isLedger.cls = RX1 ∧ yX1_isLedger.cls ≠ "java/lang/invoke/MethodHandle" ∧ yX1_isLedger.cls ≠ "java/lang/invoke/VarHandle" ∧ (parseMethodDescriptor yX1_isLedger.desc).map (fun d => d.parameters.length) = some 1 := by decide +kernel
set_option maxRecDepth 100000 in
set_option maxHeartbeats 4000000 in
theorem kX1_isLedger (l : Launch) (D : va_G) (ad : Nat → Nat) (ca : Nat → ClassId) (g : Nat) (u : MS) (q_x : Int32) (hqx : vp_in q_x 60) : CiM l yX1_isLedger cX1_isLedger 2 .boolean 1 D ad ca g [.int q_x] u ((fm_isLedger u q_x, u)) := by
  refine CiM.of (by decide) rfl (Nat.le_of_ble_eq_true rfl) ?_
  intro p e s m below meth c A ls E hS hl
  have hx := E.1.1
  have hb := E.1.2.1
  have hml := E.1.2.2.1
  have hown := E.1.2.2.2.1
  have hts := E.1.2.2.2.2
  have hl : lv_has ls 2 [(0, .ref (ad 0)), (1, .int q_x)] := hl
  refine lv_aload_n hx hb dX1_isLedger_0 rfl (lv_at hl 0 rfl) ?_
  refine gM_depths E hS dX1_isLedger_1 ?_
  refine lv_iload_n hx hb dX1_isLedger_4 rfl (lv_at hl 1 rfl) ?_
  refine lM_depths (v := m_depths u (q_x).toNatClampNeg) E hS (show vp_in q_x 60 from by first | with_reducible assumption | (refine hqr ?_; with_reducible assumption)) rfl dX1_isLedger_5 ?_
  refine lv_iconst (v := 1) hx hb dX1_isLedger_6 (by decide) ?_
  refine lv_icmp_ne (tgt := 24) hx hb dX1_isLedger_7 (by decide) (fun h7 => ?_) (fun h7 => ?_)
  · refine lv_iconst (v := 0) hx hb dX1_isLedger_24 (by decide) ?_
    exact EnM.iret E hS ni_0 (congrArg (fun z => (z, u)) (show (0 : Int32) = fm_isLedger u q_x by unfold fm_isLedger; rw [if_neg h7])) dX1_isLedger_25
  · refine lv_aload_n hx hb dX1_isLedger_10 rfl (lv_at hl 0 rfl) ?_
    refine gM_bases E hS dX1_isLedger_11 ?_
    refine lv_iload_n hx hb dX1_isLedger_14 rfl (lv_at hl 1 rfl) ?_
    refine lM_bases (v := m_bases u (q_x).toNatClampNeg) E hS (show vp_in q_x 60 from by first | with_reducible assumption | (refine hqr ?_; with_reducible assumption)) rfl dX1_isLedger_15 ?_
    refine lv_iconst (v := 4) hx hb dX1_isLedger_16 (by decide) ?_
    refine lv_icmp_le (tgt := 24) hx hb dX1_isLedger_17 (by decide) (fun h17 => ?_) (fun h17 => ?_)
    · refine lv_iconst (v := 0) hx hb dX1_isLedger_24 (by decide) ?_
      exact EnM.iret E hS ni_0 (congrArg (fun z => (z, u)) (show (0 : Int32) = fm_isLedger u q_x by unfold fm_isLedger; rw [if_pos h7, if_pos h17])) dX1_isLedger_25
    · refine lv_iconst (v := 1) hx hb dX1_isLedger_20 (by decide) ?_
      refine lv_goto (tgt := 25) hx hb dX1_isLedger_21 (by decide) ?_
      exact EnM.iret E hS ni_1 (congrArg (fun z => (z, u)) (show (1 : Int32) = fm_isLedger u q_x by unfold fm_isLedger; rw [if_pos h7, if_neg h17])) dX1_isLedger_25
def fm_isShape (q_base : Int32) (q_depth : Int32) : Int32 := if (fm_isIn q_base 0 6) = 0 then 0 else (if q_base ≤ 4 then (if (fm_isIn q_depth 1 3) = 0 then 0 else 1) else (if (fm_isIn q_depth 1 2) = 0 then 0 else 1))
theorem fm_isShape_01 (q_base : Int32) (q_depth : Int32) : fm_isShape q_base q_depth = 0 ∨ fm_isShape q_base q_depth = 1 := by
  unfold fm_isShape
  (repeat' split) <;> first | exact Or.inl rfl | exact Or.inr rfl | apply fm_isIn_01
theorem hd_X1_isShape : yX1_isShape.cls ≠ "java/lang/invoke/MethodHandle" ∧ yX1_isShape.cls ≠ "java/lang/invoke/VarHandle" ∧ (parseMethodDescriptor yX1_isShape.desc).map (fun d => d.parameters.length) = some 2 := by decide +kernel
set_option maxRecDepth 100000 in
set_option maxHeartbeats 4000000 in
theorem kX1_isShape (l : Launch) (q_base : Int32) (q_depth : Int32)  : Cs l yX1_isShape cX1_isShape 2 .boolean 2 (fun _ => True) [.int q_base, .int q_depth] (fm_isShape q_base q_depth) := by
  refine Cs.of (by decide) (Nat.le_of_ble_eq_true rfl) ?_
  intro p e s m below meth c ls E hZ hS hl
  have hx := E.1.1
  have hb := E.1.2.1
  have hml := E.1.2.2.1
  have hown := E.1.2.2.2.1
  have hts := E.1.2.2.2.2
  have hl : lv_has ls 2 [(0, .int q_base), (1, .int q_depth)] := hl
  refine lv_iload_n hx hb dX1_isShape_0 rfl (lv_at hl 0 rfl) ?_
  refine lv_iconst (v := 0) hx hb dX1_isShape_1 (by decide) ?_
  refine lv_bipush (v := 6) hx hb dX1_isShape_2 (by decide) ?_
  refine EnS.sti (r := fm_isIn q_base 0 6) E hS [.int q_base, .int 0, .int 6] [] (kX1_isIn l q_base 0 6 ) (fun _ _ _ _ h => h) (fun _ _ _ => trivial) gc_X1_60 hd_X1_isIn ⟨Nat.le_of_ble_eq_true rfl, Nat.le_of_ble_eq_true rfl⟩ rfl hl.1 (Nat.le_of_ble_eq_true rfl) ⟨Nat.le_refl 0, Nat.le_refl 0⟩ dX1_isShape_4 (fun H locs hS => ?_)
  refine lv_if_eq (tgt := 32) hx hb dX1_isShape_7 (by decide) (fun h7 => ?_) (fun h7 => ?_)
  · refine lv_iconst (v := 0) hx hb dX1_isShape_32 (by decide) ?_
    exact EnS.iret E hS ni_0 (by first | (simp only [fm_isShape, if_pos h7]; done) | (unfold fm_isShape; rw [if_pos h7])) dX1_isShape_33
  · refine lv_iload_n hx hb dX1_isShape_10 rfl (lv_at hl 1 rfl) ?_
    refine lv_iconst (v := 1) hx hb dX1_isShape_11 (by decide) ?_
    refine lv_iload_n hx hb dX1_isShape_12 rfl (lv_at hl 0 rfl) ?_
    refine lv_iconst (v := 4) hx hb dX1_isShape_13 (by decide) ?_
    refine lv_icmp_le (tgt := 21) hx hb dX1_isShape_14 (by decide) (fun h14 => ?_) (fun h14 => ?_)
    · refine lv_iconst (v := 3) hx hb dX1_isShape_21 (by decide) ?_
      refine EnS.sti (r := fm_isIn q_depth 1 3) E hS [.int q_depth, .int 1, .int 3] [] (kX1_isIn l q_depth 1 3 ) (fun _ _ _ _ h => h) (fun _ _ _ => trivial) gc_X1_60 hd_X1_isIn ⟨Nat.le_of_ble_eq_true rfl, Nat.le_of_ble_eq_true rfl⟩ rfl hl.1 (Nat.le_of_ble_eq_true rfl) ⟨Nat.le_refl 0, Nat.le_refl 0⟩ dX1_isShape_22 (fun H locs hS => ?_)
      refine lv_if_eq (tgt := 32) hx hb dX1_isShape_25 (by decide) (fun h25 => ?_) (fun h25 => ?_)
      · refine lv_iconst (v := 0) hx hb dX1_isShape_32 (by decide) ?_
        exact EnS.iret E hS ni_0 (by first | (simp only [fm_isShape, if_neg h7, if_pos h14, if_pos h25]; done) | (unfold fm_isShape; rw [if_neg h7, if_pos h14, if_pos h25])) dX1_isShape_33
      · refine lv_iconst (v := 1) hx hb dX1_isShape_28 (by decide) ?_
        refine lv_goto (tgt := 33) hx hb dX1_isShape_29 (by decide) ?_
        exact EnS.iret E hS ni_1 (by first | (simp only [fm_isShape, if_neg h7, if_pos h14, if_neg h25]; done) | (unfold fm_isShape; rw [if_neg h7, if_pos h14, if_neg h25])) dX1_isShape_33
    · refine lv_iconst (v := 2) hx hb dX1_isShape_17 (by decide) ?_
      refine lv_goto (tgt := 22) hx hb dX1_isShape_18 (by decide) ?_
      refine EnS.sti (r := fm_isIn q_depth 1 2) E hS [.int q_depth, .int 1, .int 2] [] (kX1_isIn l q_depth 1 2 ) (fun _ _ _ _ h => h) (fun _ _ _ => trivial) gc_X1_60 hd_X1_isIn ⟨Nat.le_of_ble_eq_true rfl, Nat.le_of_ble_eq_true rfl⟩ rfl hl.1 (Nat.le_of_ble_eq_true rfl) ⟨Nat.le_refl 0, Nat.le_refl 0⟩ dX1_isShape_22 (fun H locs hS => ?_)
      refine lv_if_eq (tgt := 32) hx hb dX1_isShape_25 (by decide) (fun h25 => ?_) (fun h25 => ?_)
      · refine lv_iconst (v := 0) hx hb dX1_isShape_32 (by decide) ?_
        exact EnS.iret E hS ni_0 (by first | (simp only [fm_isShape, if_neg h7, if_neg h14, if_pos h25]; done) | (unfold fm_isShape; rw [if_neg h7, if_neg h14, if_pos h25])) dX1_isShape_33
      · refine lv_iconst (v := 1) hx hb dX1_isShape_28 (by decide) ?_
        refine lv_goto (tgt := 33) hx hb dX1_isShape_29 (by decide) ?_
        exact EnS.iret E hS ni_1 (by first | (simp only [fm_isShape, if_neg h7, if_neg h14, if_neg h25]; done) | (unfold fm_isShape; rw [if_neg h7, if_neg h14, if_neg h25])) dX1_isShape_33
def fm_isAsked (q_base : Int32) (q_depth : Int32) : Int32 := if (fm_isIn q_base 0 6) = 0 then 0 else (if (fm_isIn q_depth 0 3) = 0 then 0 else (if q_base ≤ 4 then 1 else (if (fm_isIn q_depth 1 2) = 0 then 0 else 1)))
theorem fm_isAsked_01 (q_base : Int32) (q_depth : Int32) : fm_isAsked q_base q_depth = 0 ∨ fm_isAsked q_base q_depth = 1 := by
  unfold fm_isAsked
  (repeat' split) <;> first | exact Or.inl rfl | exact Or.inr rfl | apply fm_isIn_01
theorem hd_X1_isAsked : yX1_isAsked.cls ≠ "java/lang/invoke/MethodHandle" ∧ yX1_isAsked.cls ≠ "java/lang/invoke/VarHandle" ∧ (parseMethodDescriptor yX1_isAsked.desc).map (fun d => d.parameters.length) = some 2 := by decide +kernel
set_option maxRecDepth 100000 in
set_option maxHeartbeats 4000000 in
theorem kX1_isAsked (l : Launch) (q_base : Int32) (q_depth : Int32)  : Cs l yX1_isAsked cX1_isAsked 2 .boolean 2 (fun _ => True) [.int q_base, .int q_depth] (fm_isAsked q_base q_depth) := by
  refine Cs.of (by decide) (Nat.le_of_ble_eq_true rfl) ?_
  intro p e s m below meth c ls E hZ hS hl
  have hx := E.1.1
  have hb := E.1.2.1
  have hml := E.1.2.2.1
  have hown := E.1.2.2.2.1
  have hts := E.1.2.2.2.2
  have hl : lv_has ls 2 [(0, .int q_base), (1, .int q_depth)] := hl
  refine lv_iload_n hx hb dX1_isAsked_0 rfl (lv_at hl 0 rfl) ?_
  refine lv_iconst (v := 0) hx hb dX1_isAsked_1 (by decide) ?_
  refine lv_bipush (v := 6) hx hb dX1_isAsked_2 (by decide) ?_
  refine EnS.sti (r := fm_isIn q_base 0 6) E hS [.int q_base, .int 0, .int 6] [] (kX1_isIn l q_base 0 6 ) (fun _ _ _ _ h => h) (fun _ _ _ => trivial) gc_X1_60 hd_X1_isIn ⟨Nat.le_of_ble_eq_true rfl, Nat.le_of_ble_eq_true rfl⟩ rfl hl.1 (Nat.le_of_ble_eq_true rfl) ⟨Nat.le_refl 0, Nat.le_refl 0⟩ dX1_isAsked_4 (fun H locs hS => ?_)
  refine lv_if_eq (tgt := 37) hx hb dX1_isAsked_7 (by decide) (fun h7 => ?_) (fun h7 => ?_)
  · refine lv_iconst (v := 0) hx hb dX1_isAsked_37 (by decide) ?_
    exact EnS.iret E hS ni_0 (by first | (simp only [fm_isAsked, if_pos h7]; done) | (unfold fm_isAsked; rw [if_pos h7])) dX1_isAsked_38
  · refine lv_iload_n hx hb dX1_isAsked_10 rfl (lv_at hl 1 rfl) ?_
    refine lv_iconst (v := 0) hx hb dX1_isAsked_11 (by decide) ?_
    refine lv_iconst (v := 3) hx hb dX1_isAsked_12 (by decide) ?_
    refine EnS.sti (r := fm_isIn q_depth 0 3) E hS [.int q_depth, .int 0, .int 3] [] (kX1_isIn l q_depth 0 3 ) (fun _ _ _ _ h => h) (fun _ _ _ => trivial) gc_X1_60 hd_X1_isIn ⟨Nat.le_of_ble_eq_true rfl, Nat.le_of_ble_eq_true rfl⟩ rfl hl.1 (Nat.le_of_ble_eq_true rfl) ⟨Nat.le_refl 0, Nat.le_refl 0⟩ dX1_isAsked_13 (fun H locs hS => ?_)
    refine lv_if_eq (tgt := 37) hx hb dX1_isAsked_16 (by decide) (fun h16 => ?_) (fun h16 => ?_)
    · refine lv_iconst (v := 0) hx hb dX1_isAsked_37 (by decide) ?_
      exact EnS.iret E hS ni_0 (by first | (simp only [fm_isAsked, if_neg h7, if_pos h16]; done) | (unfold fm_isAsked; rw [if_neg h7, if_pos h16])) dX1_isAsked_38
    · refine lv_iload_n hx hb dX1_isAsked_19 rfl (lv_at hl 0 rfl) ?_
      refine lv_iconst (v := 4) hx hb dX1_isAsked_20 (by decide) ?_
      refine lv_icmp_le (tgt := 33) hx hb dX1_isAsked_21 (by decide) (fun h21 => ?_) (fun h21 => ?_)
      · refine lv_iconst (v := 1) hx hb dX1_isAsked_33 (by decide) ?_
        refine lv_goto (tgt := 38) hx hb dX1_isAsked_34 (by decide) ?_
        exact EnS.iret E hS ni_1 (by first | (simp only [fm_isAsked, if_neg h7, if_neg h16, if_pos h21]; done) | (unfold fm_isAsked; rw [if_neg h7, if_neg h16, if_pos h21])) dX1_isAsked_38
      · refine lv_iload_n hx hb dX1_isAsked_24 rfl (lv_at hl 1 rfl) ?_
        refine lv_iconst (v := 1) hx hb dX1_isAsked_25 (by decide) ?_
        refine lv_iconst (v := 2) hx hb dX1_isAsked_26 (by decide) ?_
        refine EnS.sti (r := fm_isIn q_depth 1 2) E hS [.int q_depth, .int 1, .int 2] [] (kX1_isIn l q_depth 1 2 ) (fun _ _ _ _ h => h) (fun _ _ _ => trivial) gc_X1_60 hd_X1_isIn ⟨Nat.le_of_ble_eq_true rfl, Nat.le_of_ble_eq_true rfl⟩ rfl hl.1 (Nat.le_of_ble_eq_true rfl) ⟨Nat.le_refl 0, Nat.le_refl 0⟩ dX1_isAsked_27 (fun H locs hS => ?_)
        refine lv_if_eq (tgt := 37) hx hb dX1_isAsked_30 (by decide) (fun h30 => ?_) (fun h30 => ?_)
        · refine lv_iconst (v := 0) hx hb dX1_isAsked_37 (by decide) ?_
          exact EnS.iret E hS ni_0 (by first | (simp only [fm_isAsked, if_neg h7, if_neg h16, if_neg h21, if_pos h30]; done) | (unfold fm_isAsked; rw [if_neg h7, if_neg h16, if_neg h21, if_pos h30])) dX1_isAsked_38
        · refine lv_iconst (v := 1) hx hb dX1_isAsked_33 (by decide) ?_
          refine lv_goto (tgt := 38) hx hb dX1_isAsked_34 (by decide) ?_
          exact EnS.iret E hS ni_1 (by first | (simp only [fm_isAsked, if_neg h7, if_neg h16, if_neg h21, if_neg h30]; done) | (unfold fm_isAsked; rw [if_neg h7, if_neg h16, if_neg h21, if_neg h30])) dX1_isAsked_38
def fm_isSpan (q_i : Int32) (q_n : Int32) (q_size : Int32) : Int32 := if q_i < 0 then 0 else (if q_n < 0 then 0 else (if (q_size - q_n) < q_i then 0 else 1))
theorem fm_isSpan_01 (q_i : Int32) (q_n : Int32) (q_size : Int32) : fm_isSpan q_i q_n q_size = 0 ∨ fm_isSpan q_i q_n q_size = 1 := by
  unfold fm_isSpan
  (repeat' split) <;> first | exact Or.inl rfl | exact Or.inr rfl
theorem hd_X1_isSpan : yX1_isSpan.cls ≠ "java/lang/invoke/MethodHandle" ∧ yX1_isSpan.cls ≠ "java/lang/invoke/VarHandle" ∧ (parseMethodDescriptor yX1_isSpan.desc).map (fun d => d.parameters.length) = some 3 := by decide +kernel
set_option maxRecDepth 100000 in
set_option maxHeartbeats 4000000 in
theorem kX1_isSpan (l : Launch) (q_i : Int32) (q_n : Int32) (q_size : Int32)  : Cs l yX1_isSpan cX1_isSpan 3 .boolean 1 (fun _ => True) [.int q_i, .int q_n, .int q_size] (fm_isSpan q_i q_n q_size) := by
  refine Cs.of (by decide) (Nat.le_of_ble_eq_true rfl) ?_
  intro p e s m below meth c ls E hZ hS hl
  have hx := E.1.1
  have hb := E.1.2.1
  have hml := E.1.2.2.1
  have hown := E.1.2.2.2.1
  have hts := E.1.2.2.2.2
  have hl : lv_has ls 3 [(0, .int q_i), (1, .int q_n), (2, .int q_size)] := hl
  refine lv_iload_n hx hb dX1_isSpan_0 rfl (lv_at hl 0 rfl) ?_
  refine lv_if_lt (tgt := 19) hx hb dX1_isSpan_1 (by decide) (fun h1 => ?_) (fun h1 => ?_)
  · refine lv_iconst (v := 0) hx hb dX1_isSpan_19 (by decide) ?_
    exact EnS.iret E hS ni_0 (by first | (simp only [fm_isSpan, if_pos h1]; done) | (unfold fm_isSpan; rw [if_pos h1])) dX1_isSpan_20
  · refine lv_iload_n hx hb dX1_isSpan_4 rfl (lv_at hl 1 rfl) ?_
    refine lv_if_lt (tgt := 19) hx hb dX1_isSpan_5 (by decide) (fun h5 => ?_) (fun h5 => ?_)
    · refine lv_iconst (v := 0) hx hb dX1_isSpan_19 (by decide) ?_
      exact EnS.iret E hS ni_0 (by first | (simp only [fm_isSpan, if_neg h1, if_pos h5]; done) | (unfold fm_isSpan; rw [if_neg h1, if_pos h5])) dX1_isSpan_20
    · refine lv_iload_n hx hb dX1_isSpan_8 rfl (lv_at hl 0 rfl) ?_
      refine lv_iload_n hx hb dX1_isSpan_9 rfl (lv_at hl 2 rfl) ?_
      refine lv_iload_n hx hb dX1_isSpan_10 rfl (lv_at hl 1 rfl) ?_
      refine lv_isub hx hb dX1_isSpan_11 ?_
      refine lv_icmp_gt (tgt := 19) hx hb dX1_isSpan_12 (by decide) (fun h12 => ?_) (fun h12 => ?_)
      · refine lv_iconst (v := 0) hx hb dX1_isSpan_19 (by decide) ?_
        exact EnS.iret E hS ni_0 (by first | (simp only [fm_isSpan, if_neg h1, if_neg h5, if_pos h12]; done) | (unfold fm_isSpan; rw [if_neg h1, if_neg h5, if_pos h12])) dX1_isSpan_20
      · refine lv_iconst (v := 1) hx hb dX1_isSpan_15 (by decide) ?_
        refine lv_goto (tgt := 20) hx hb dX1_isSpan_16 (by decide) ?_
        exact EnS.iret E hS ni_1 (by first | (simp only [fm_isSpan, if_neg h1, if_neg h5, if_neg h12]; done) | (unfold fm_isSpan; rw [if_neg h1, if_neg h5, if_neg h12])) dX1_isSpan_20
theorem isIn_iff {a b c : Int32} : ¬ fm_isIn a b c = 0 ↔ b.toInt ≤ a.toInt ∧ a.toInt ≤ c.toInt := by
  unfold fm_isIn
  by_cases h1 : a < b
  · rw [if_pos h1]; rw [lt_ti] at h1
    constructor
    · intro h; exact absurd rfl h
    · intro h; omega
  rw [if_neg h1]; rw [lt_ti] at h1
  by_cases h2 : c < a
  · rw [if_pos h2]; rw [lt_ti] at h2
    constructor
    · intro h; exact absurd rfl h
    · intro h; omega
  rw [if_neg h2]; rw [lt_ti] at h2
  constructor
  · intro _; omega
  · intro _; decide
theorem th_1 {u : MS} (hI : MI u) : (m_things u - 1).toInt = (m_things u).toInt - 1 := by
  have h := hI.1
  rw [ti_sub (by rw [ti1]; omega) (by rw [ti1]; omega), ti1]
theorem mthing_iff {u : MS} (hI : MI u) {x : Int32} : ¬ fm_isThing u x = 0 ↔ 0 ≤ x.toInt ∧ x.toInt < (m_things u).toInt := by
  unfold fm_isThing
  rw [isIn_iff, th_1 hI, ti0]; omega
theorem mmay_iff {u : MS} (hI : MI u) {x : Int32} : ¬ fm_mayBe u x = 0 ↔ -1 ≤ x.toInt ∧ x.toInt < (m_things u).toInt := by
  unfold fm_mayBe
  rw [isIn_iff, th_1 hI, tim1]; omega
theorem mt_in {u : MS} (hI : MI u) {x : Int32} (h : ¬ fm_isThing u x = 0) : vp_in x 60 := by
  have h1 := (mthing_iff hI).mp h
  have h2 := hI.1
  rw [vp_in_iff]; omega
theorem mb_lt {u : MS} (hI : MI u) {x : Int32} (h : ¬ fm_mayBe u x = 0) : x.toInt < 60 := by
  have h1 := (mmay_iff hI).mp h
  have h2 := hI.1
  omega
theorem ne_m1 {x : Int32} : ¬ x = (-1) ↔ ¬ x.toInt = -1 := by
  rw [← tim1]
  exact not_congr (Int32.toInt_inj.symm)
theorem mn_in {u : MS} (hI : MI u) {x : Int32} (h : ¬ fm_mayBe u x = 0) (h2 : ¬ x = (-1)) : vp_in x 60 := by
  have h1 := (mmay_iff hI).mp h
  have h3 := hI.1
  rw [ne_m1] at h2
  rw [vp_in_iff]; omega
theorem mi_ti {r i : Int32} (hr : vp_in r 60) (h0 : 0 ≤ i.toInt) (h8 : i.toInt ≤ 8) : ((8 * r) + i).toInt = 8 * r.toInt + i.toInt := by
  rw [vp_in_iff] at hr
  have e1 : (8 * r).toInt = 8 * r.toInt := by
    have h := ti_mul (a := 8) (b := r) (by rw [ti8]; omega) (by rw [ti8]; omega)
    rw [h, ti8]
  rw [ti_add (by omega) (by omega), e1]
theorem mi_8 {r : Int32} (hr : vp_in r 60) : (8 * r).toInt = 8 * r.toInt := by
  rw [vp_in_iff] at hr
  have h := ti_mul (a := 8) (b := r) (by rw [ti8]; omega) (by rw [ti8]; omega)
  rw [h, ti8]
theorem mi_in {r i : Int32} (hr : vp_in r 60) (h0 : 0 ≤ i.toInt) (h8 : i.toInt < 8) : vp_in ((8 * r) + i) 480 := by
  have h := mi_ti hr h0 (by omega)
  rw [vp_in_iff] at hr ⊢
  omega
theorem mi_cl {r i : Int32} (hr : vp_in r 60) (h0 : 0 ≤ i.toInt) (h8 : i.toInt ≤ 8) : ((8 * r) + i).toNatClampNeg = 8 * r.toNatClampNeg + i.toNatClampNeg := by
  have h := mi_ti hr h0 h8
  rw [vp_in_iff] at hr
  have e1 := cl_ti (a := (8 * r) + i) (by omega)
  have e2 := cl_ti (a := r) (by omega)
  have e3 := cl_ti (a := i) (by omega)
  omega
theorem mj_ti {r i k : Int32} (hr : vp_in r 60) (h0 : 0 ≤ i.toInt) (hk : 0 ≤ k.toInt) (h8 : i.toInt + k.toInt ≤ 8) : (((8 * r) + i) + k).toInt = 8 * r.toInt + i.toInt + k.toInt := by
  have h := mi_ti hr h0 (by omega)
  rw [vp_in_iff] at hr
  rw [ti_add (by omega) (by omega), h]
theorem mj_in {r i k : Int32} (hr : vp_in r 60) (h0 : 0 ≤ i.toInt) (hk : 0 ≤ k.toInt) (h8 : i.toInt + k.toInt < 8) : vp_in (((8 * r) + i) + k) 480 := by
  have h := mj_ti hr h0 hk (by omega)
  rw [vp_in_iff] at hr ⊢
  omega
theorem mj_cl {r i k : Int32} (hr : vp_in r 60) (h0 : 0 ≤ i.toInt) (hk : 0 ≤ k.toInt) (h8 : i.toInt + k.toInt ≤ 8) : (((8 * r) + i) + k).toNatClampNeg = 8 * r.toNatClampNeg + i.toNatClampNeg + k.toNatClampNeg := by
  have h := mj_ti hr h0 hk h8
  rw [vp_in_iff] at hr
  have e1 := cl_ti (a := ((8 * r) + i) + k) (by omega)
  have e2 := cl_ti (a := r) (by omega)
  have e3 := cl_ti (a := i) (by omega)
  have e4 := cl_ti (a := k) (by omega)
  omega
theorem ge0_ti {x : Int32} (h : ¬ x < 0) : 0 ≤ x.toInt := by rw [lt_ti, ti0] at h; omega
theorem in_of {x : Int32} (h : ¬ x < 0) (h2 : x.toInt < 60) : vp_in x 60 := by
  have := ge0_ti h
  rw [vp_in_iff]; omega
def fm_isSuch (u : MS) (q_x : Int32) (q_base : Int32) (q_depth : Int32) : Int32 := if q_x < 0 then 0 else (if (m_depths u (q_x).toNatClampNeg) = q_depth then (if (fm_goesFor (m_bases u (q_x).toNatClampNeg) q_base) = 0 then 0 else 1) else 0)
theorem fm_isSuch_01 (u : MS) (q_x : Int32) (q_base : Int32) (q_depth : Int32) : fm_isSuch u q_x q_base q_depth = 0 ∨ fm_isSuch u q_x q_base q_depth = 1 := by
  unfold fm_isSuch
  (repeat' split) <;> first | exact Or.inl rfl | exact Or.inr rfl | apply fm_goesFor_01
theorem hd_X1_isSuch : yX1_isSuch.cls = RX1 ∧ yX1_isSuch.cls ≠ "java/lang/invoke/MethodHandle" ∧ yX1_isSuch.cls ≠ "java/lang/invoke/VarHandle" ∧ (parseMethodDescriptor yX1_isSuch.desc).map (fun d => d.parameters.length) = some 3 := by decide +kernel
set_option maxRecDepth 100000 in
set_option maxHeartbeats 4000000 in
theorem kX1_isSuch (l : Launch) (D : va_G) (ad : Nat → Nat) (ca : Nat → ClassId) (g : Nat) (u : MS) (q_x : Int32) (q_base : Int32) (q_depth : Int32) (hx60 : q_x.toInt < 60) : CiM l yX1_isSuch cX1_isSuch 4 .boolean 3 D ad ca g [.int q_x, .int q_base, .int q_depth] u ((fm_isSuch u q_x q_base q_depth, u)) := by
  refine CiM.of (by decide) rfl (Nat.le_of_ble_eq_true rfl) ?_
  intro p e s m below meth c A ls E hS hl
  have hx := E.1.1
  have hb := E.1.2.1
  have hml := E.1.2.2.1
  have hown := E.1.2.2.2.1
  have hts := E.1.2.2.2.2
  have hl : lv_has ls 4 [(0, .ref (ad 0)), (1, .int q_x), (2, .int q_base), (3, .int q_depth)] := hl
  refine lv_iload_n hx hb dX1_isSuch_0 rfl (lv_at hl 1 rfl) ?_
  refine lv_if_lt (tgt := 31) hx hb dX1_isSuch_1 (by decide) (fun h1 => ?_) (fun h1 => ?_)
  · refine lv_iconst (v := 0) hx hb dX1_isSuch_31 (by decide) ?_
    exact EnM.iret E hS ni_0 (congrArg (fun z => (z, u)) (show (0 : Int32) = fm_isSuch u q_x q_base q_depth by unfold fm_isSuch; rw [if_pos h1])) dX1_isSuch_32
  · refine lv_aload_n hx hb dX1_isSuch_4 rfl (lv_at hl 0 rfl) ?_
    refine gM_depths E hS dX1_isSuch_5 ?_
    refine lv_iload_n hx hb dX1_isSuch_8 rfl (lv_at hl 1 rfl) ?_
    refine lM_depths (v := m_depths u (q_x).toNatClampNeg) E hS (show vp_in q_x 60 from by first | with_reducible assumption | (refine in_of ?_ ?_ <;> with_reducible assumption) | (refine hqr ?_; with_reducible assumption)) rfl dX1_isSuch_9 ?_
    refine lv_iload_n hx hb dX1_isSuch_10 rfl (lv_at hl 3 rfl) ?_
    refine lv_icmp_ne (tgt := 31) hx hb dX1_isSuch_11 (by decide) (fun h11 => ?_) (fun h11 => ?_)
    · refine lv_iconst (v := 0) hx hb dX1_isSuch_31 (by decide) ?_
      exact EnM.iret E hS ni_0 (congrArg (fun z => (z, u)) (show (0 : Int32) = fm_isSuch u q_x q_base q_depth by unfold fm_isSuch; rw [if_neg h1, if_neg h11])) dX1_isSuch_32
    · refine lv_aload_n hx hb dX1_isSuch_14 rfl (lv_at hl 0 rfl) ?_
      refine gM_bases E hS dX1_isSuch_15 ?_
      refine lv_iload_n hx hb dX1_isSuch_18 rfl (lv_at hl 1 rfl) ?_
      refine lM_bases (v := m_bases u (q_x).toNatClampNeg) E hS (show vp_in q_x 60 from by first | with_reducible assumption | (refine in_of ?_ ?_ <;> with_reducible assumption) | (refine hqr ?_; with_reducible assumption)) rfl dX1_isSuch_19 ?_
      refine lv_iload_n hx hb dX1_isSuch_20 rfl (lv_at hl 2 rfl) ?_
      refine EnM.sti (r := fm_goesFor (m_bases u (q_x).toNatClampNeg) q_base) E hS [.int (m_bases u (q_x).toNatClampNeg), .int q_base] [] (kX1_goesFor l (m_bases u (q_x).toNatClampNeg) q_base ) (fun _ _ _ _ h => h) (fun _ _ _ => trivial) gc_X1_64 hd_X1_goesFor ⟨Nat.le_of_ble_eq_true rfl, Nat.le_of_ble_eq_true rfl⟩ rfl hl.1 (Nat.le_of_ble_eq_true rfl) ⟨Nat.le_refl 0, Nat.le_refl 0⟩ dX1_isSuch_21 (fun H locs hS => ?_)
      refine lv_if_eq (tgt := 31) hx hb dX1_isSuch_24 (by decide) (fun h24 => ?_) (fun h24 => ?_)
      · refine lv_iconst (v := 0) hx hb dX1_isSuch_31 (by decide) ?_
        exact EnM.iret E hS ni_0 (congrArg (fun z => (z, u)) (show (0 : Int32) = fm_isSuch u q_x q_base q_depth by unfold fm_isSuch; rw [if_neg h1, if_pos h11, if_pos h24])) dX1_isSuch_32
      · refine lv_iconst (v := 1) hx hb dX1_isSuch_27 (by decide) ?_
        refine lv_goto (tgt := 32) hx hb dX1_isSuch_28 (by decide) ?_
        exact EnM.iret E hS ni_1 (congrArg (fun z => (z, u)) (show (1 : Int32) = fm_isSuch u q_x q_base q_depth by unfold fm_isSuch; rw [if_neg h1, if_pos h11, if_neg h24])) dX1_isSuch_32
def fm_refused (u : MS) (q_r : Int32) (q_i : Int32) : Int32 := if q_r = (-1) then 1 else (if (fm_isLedger u q_r) = 0 then 2 else (if (fm_isIn q_i 0 ((m_sizes u (q_r).toNatClampNeg) - 1)) = 0 then 3 else 0))
theorem hd_X1_refused : yX1_refused.cls = RX1 ∧ yX1_refused.cls ≠ "java/lang/invoke/MethodHandle" ∧ yX1_refused.cls ≠ "java/lang/invoke/VarHandle" ∧ (parseMethodDescriptor yX1_refused.desc).map (fun d => d.parameters.length) = some 2 := by decide +kernel
set_option maxRecDepth 100000 in
set_option maxHeartbeats 4000000 in
theorem kX1_refused (l : Launch) (D : va_G) (ad : Nat → Nat) (ca : Nat → ClassId) (g : Nat) (u : MS) (q_r : Int32) (q_i : Int32) (hqr : ¬ q_r = (-1) → vp_in q_r 60) : CiM l yX1_refused cX1_refused 3 .int 2 D ad ca g [.int q_r, .int q_i] u ((fm_refused u q_r q_i, u)) := by
  refine CiM.of (by decide) rfl (Nat.le_of_ble_eq_true rfl) ?_
  intro p e s m below meth c A ls E hS hl
  have hx := E.1.1
  have hb := E.1.2.1
  have hml := E.1.2.2.1
  have hown := E.1.2.2.2.1
  have hts := E.1.2.2.2.2
  have hl : lv_has ls 3 [(0, .ref (ad 0)), (1, .int q_r), (2, .int q_i)] := hl
  refine lv_iload_n hx hb dX1_refused_0 rfl (lv_at hl 1 rfl) ?_
  refine lv_iconst (v := (-1)) hx hb dX1_refused_1 (by decide) ?_
  refine lv_icmp_ne (tgt := 7) hx hb dX1_refused_2 (by decide) (fun h2 => ?_) (fun h2 => ?_)
  · refine lv_aload_n hx hb dX1_refused_7 rfl (lv_at hl 0 rfl) ?_
    refine lv_iload_n hx hb dX1_refused_8 rfl (lv_at hl 1 rfl) ?_
    refine EnM.calli (r := fm_isLedger u q_r) (u2 := u) E hS [.int q_r] [] (kX1_isLedger l D ad ca g u q_r (by first | with_reducible assumption | (refine in_of ?_ ?_ <;> with_reducible assumption) | (refine hqr ?_; with_reducible assumption))) gc_X1_86 hd_X1_isLedger ⟨Nat.le_of_ble_eq_true rfl, Nat.le_of_ble_eq_true rfl⟩ rfl hl.1 (Nat.le_of_ble_eq_true rfl) ⟨Nat.le_refl 0, Nat.le_refl 0⟩ dX1_refused_9 (fun H locs hS => ?_)
    refine lv_if_ne (tgt := 19) hx hb dX1_refused_12 (by decide) (fun h12 => ?_) (fun h12 => ?_)
    · refine lv_iload_n hx hb dX1_refused_19 rfl (lv_at hl 2 rfl) ?_
      refine lv_iconst (v := 0) hx hb dX1_refused_20 (by decide) ?_
      refine lv_aload_n hx hb dX1_refused_21 rfl (lv_at hl 0 rfl) ?_
      refine gM_sizes E hS dX1_refused_22 ?_
      refine lv_iload_n hx hb dX1_refused_25 rfl (lv_at hl 1 rfl) ?_
      refine lM_sizes (v := m_sizes u (q_r).toNatClampNeg) E hS (show vp_in q_r 60 from by first | with_reducible assumption | (refine in_of ?_ ?_ <;> with_reducible assumption) | (refine hqr ?_; with_reducible assumption)) rfl dX1_refused_26 ?_
      refine lv_iconst (v := 1) hx hb dX1_refused_27 (by decide) ?_
      refine lv_isub hx hb dX1_refused_28 ?_
      refine EnM.sti (r := fm_isIn q_i 0 ((m_sizes u (q_r).toNatClampNeg) - 1)) E hS [.int q_i, .int 0, .int ((m_sizes u (q_r).toNatClampNeg) - 1)] [] (kX1_isIn l q_i 0 ((m_sizes u (q_r).toNatClampNeg) - 1) ) (fun _ _ _ _ h => h) (fun _ _ _ => trivial) gc_X1_60 hd_X1_isIn ⟨Nat.le_of_ble_eq_true rfl, Nat.le_of_ble_eq_true rfl⟩ rfl hl.1 (Nat.le_of_ble_eq_true rfl) ⟨Nat.le_refl 0, Nat.le_refl 0⟩ dX1_refused_29 (fun H locs hS => ?_)
      refine lv_if_eq (tgt := 39) hx hb dX1_refused_32 (by decide) (fun h32 => ?_) (fun h32 => ?_)
      · refine lv_iconst (v := 3) hx hb dX1_refused_39 (by decide) ?_
        exact EnM.iret E hS (ni_i _) (congrArg (fun z => (z, u)) (show (3 : Int32) = fm_refused u q_r q_i by unfold fm_refused; rw [if_neg h2, if_neg h12, if_pos h32])) dX1_refused_40
      · refine lv_iconst (v := 0) hx hb dX1_refused_35 (by decide) ?_
        refine lv_goto (tgt := 40) hx hb dX1_refused_36 (by decide) ?_
        exact EnM.iret E hS (ni_i _) (congrArg (fun z => (z, u)) (show (0 : Int32) = fm_refused u q_r q_i by unfold fm_refused; rw [if_neg h2, if_neg h12, if_neg h32])) dX1_refused_40
    · refine lv_iconst (v := 2) hx hb dX1_refused_15 (by decide) ?_
      refine lv_goto (tgt := 40) hx hb dX1_refused_16 (by decide) ?_
      exact EnM.iret E hS (ni_i _) (congrArg (fun z => (z, u)) (show (2 : Int32) = fm_refused u q_r q_i by unfold fm_refused; rw [if_neg h2, if_pos h12])) dX1_refused_40
  · refine lv_iconst (v := 1) hx hb dX1_refused_5 (by decide) ?_
    exact EnM.iret E hS (ni_i _) (congrArg (fun z => (z, u)) (show (1 : Int32) = fm_refused u q_r q_i by unfold fm_refused; rw [if_pos h2])) dX1_refused_6
def fm_make_L : Nat → MS → Int32 → Int32 → Int32 → Int32 → Int32 → Int32 → Int32 × MS
  | 0, w, q_base, q_depth, q_n, q_worth, v_5, v_6 => (0, w)
  | f_ + 1, w, q_base, q_depth, q_n, q_worth, v_5, v_6 => (if 8 ≤ v_6 then (v_5, w) else fm_make_L f_ (ms_numbers (ms_lies w (upd (m_lies w) ((8 * v_5) + v_6).toNatClampNeg (-1))) (vp_updL (m_numbers w) ((8 * v_5) + v_6).toNatClampNeg 0)) q_base q_depth q_n q_worth v_5 (v_6 + 1))
set_option maxRecDepth 100000 in
set_option maxHeartbeats 4000000 in
theorem loop_X1_make_L {p : Program} {e : Env} {s : State} {m : MethodId} {below : List Frame} {meth : Method} {c : Code} {args : Array Value} {A : Nat → Prop} (l : Launch) (D : va_G) (ad : Nat → Nat) (ca : Nat → ClassId) (g : Nat) (u : MS) (E : EnM p s m c args cX1_make 7 meth (some .int) D ca g A) : ∀ (f_ : Nat) (w : MS) (q_base : Int32) (q_depth : Int32) (q_n : Int32) (q_worth : Int32) (v_5 : Int32) (v_6 : Int32), vp_in v_5 60 → (0 ≤ v_6.toInt ∧ v_6.toInt ≤ 8) → 8 - v_6.toInt < (f_ : Int) → ∀ (H : Heap) (locs : List Loc) (ls : Array Slot), SM D ad ca A s w H locs → lv_has ls 7 [(0, .ref (ad 0)), (1, .int q_base), (2, .int q_depth), (3, .int q_n), (4, .int q_worth), (5, .int v_5), (6, .int v_6)] → W p l e (rk 1) s m args below meth c H locs 0 0 (MQ below (va_Qi (fun r' v => (r', v) = fm_make_L f_ w q_base q_depth q_n q_worth v_5 v_6) (BkM D ad ca) A) args s 0 0 A) (F0 m 52 ls []) := by
  have hx := E.1.1
  have hb := E.1.2.1
  have hml := E.1.2.2.1
  have hown := E.1.2.2.2.1
  have hts := E.1.2.2.2.2
  intro f_
  induction f_ with
  | zero =>
    intro w q_base q_depth q_n q_worth v_5 v_6 hr5 hi hf H locs ls hS hl
    exfalso
    omega
  | succ f_ ih =>
    intro w q_base q_depth q_n q_worth v_5 v_6 hr5 hi hf H locs ls hS hl
    refine lv_iload hx hb dX1_make_52 (lv_at hl 6 rfl) ?_
    refine lv_bipush (v := 8) hx hb dX1_make_54 (by decide) ?_
    refine lv_icmp_ge (tgt := 93) hx hb dX1_make_56 (by decide) (fun h56 => ?_) (fun h56 => ?_)
    · refine lv_iload hx hb dX1_make_93 (lv_at hl 5 rfl) ?_
      exact EnM.iret E hS (ni_i _) (by rw [fm_make_L, if_pos h56]) dX1_make_95
    · have g56 := h56
      rw [le_ti, ti8] at g56
      have hmi : vp_in ((8 * v_5) + v_6) 480 := mi_in hr5 (by omega) (by omega)
      refine lv_aload_n hx hb dX1_make_59 rfl (lv_at hl 0 rfl) ?_
      refine gM_lies E hS dX1_make_60 ?_
      refine lv_bipush (v := 8) hx hb dX1_make_63 (by decide) ?_
      refine lv_iload hx hb dX1_make_65 (lv_at hl 5 rfl) ?_
      refine lv_imul hx hb dX1_make_67 ?_
      refine lv_iload hx hb dX1_make_68 (lv_at hl 6 rfl) ?_
      refine lv_iadd hx hb dX1_make_70 ?_
      refine lv_iconst (v := (-1)) hx hb dX1_make_71 (by decide) ?_
      refine sM_lies E hS (show vp_in ((8 * v_5) + v_6) 480 from by first | with_reducible assumption | (refine in_of ?_ ?_ <;> with_reducible assumption) | (refine hqr ?_; with_reducible assumption)) dX1_make_72 (fun H locs hS => ?_)
      have hS : SM D ad ca A s (ms_lies w (upd (m_lies w) ((8 * v_5) + v_6).toNatClampNeg (-1))) H locs := hS
      refine lv_aload_n hx hb dX1_make_73 rfl (lv_at hl 0 rfl) ?_
      refine gM_numbers E hS dX1_make_74 ?_
      refine lv_bipush (v := 8) hx hb dX1_make_77 (by decide) ?_
      refine lv_iload hx hb dX1_make_79 (lv_at hl 5 rfl) ?_
      refine lv_imul hx hb dX1_make_81 ?_
      refine lv_iload hx hb dX1_make_82 (lv_at hl 6 rfl) ?_
      refine lv_iadd hx hb dX1_make_84 ?_
      refine lv_lconst (v := 0) hx hb dX1_make_85 (by decide) ?_
      refine sM_numbers E hS (show vp_in ((8 * v_5) + v_6) 480 from by first | with_reducible assumption | (refine in_of ?_ ?_ <;> with_reducible assumption) | (refine hqr ?_; with_reducible assumption)) dX1_make_86 (fun H locs hS => ?_)
      have hS : SM D ad ca A s (ms_numbers (ms_lies w (upd (m_lies w) ((8 * v_5) + v_6).toNatClampNeg (-1))) (vp_updL (m_numbers w) ((8 * v_5) + v_6).toNatClampNeg 0)) H locs := hS
      refine lv_iinc (v := v_6 + 1) (lv' := [(6, .int (v_6 + 1)), (0, .ref (ad 0)), (1, .int q_base), (2, .int q_depth), (3, .int q_n), (4, .int q_worth), (5, .int v_5)]) hx hb dX1_make_87 hl (k := 6) rfl rfl (by decide) rfl (fun ls hl => ?_)
      refine lv_goto (tgt := 52) hx hb dX1_make_90 (by decide) ?_
      have hr : fm_make_L (f_ + 1) w q_base q_depth q_n q_worth v_5 v_6 = fm_make_L f_ (ms_numbers (ms_lies w (upd (m_lies w) ((8 * v_5) + v_6).toNatClampNeg (-1))) (vp_updL (m_numbers w) ((8 * v_5) + v_6).toNatClampNeg 0)) q_base q_depth q_n q_worth v_5 (v_6 + 1) := by rw [fm_make_L, if_neg h56]
      have e6 : (v_6 + 1).toInt = v_6.toInt + 1 := ti_inc (by omega) (by omega)
      rw [hr]
      exact ih (ms_numbers (ms_lies w (upd (m_lies w) ((8 * v_5) + v_6).toNatClampNeg (-1))) (vp_updL (m_numbers w) ((8 * v_5) + v_6).toNatClampNeg 0)) q_base q_depth q_n q_worth v_5 (v_6 + 1) hr5 (by omega) (by omega) _ _ ls hS (lv_sub hl [1, 2, 3, 4, 5, 6, 0] rfl)
def fm_make (u : MS) (q_base : Int32) (q_depth : Int32) (q_n : Int32) (q_worth : Int32) : Int32 × MS := fm_make_L 9 (ms_worths (ms_sizes (ms_depths (ms_bases (ms_things u ((m_things u) + 1)) (upd (m_bases u) (m_things u).toNatClampNeg q_base)) (upd (m_depths u) (m_things u).toNatClampNeg q_depth)) (upd (m_sizes u) (m_things u).toNatClampNeg q_n)) (upd (m_worths u) (m_things u).toNatClampNeg q_worth)) q_base q_depth q_n q_worth (m_things u) 0
theorem hd_X1_make : yX1_make.cls = RX1 ∧ yX1_make.cls ≠ "java/lang/invoke/MethodHandle" ∧ yX1_make.cls ≠ "java/lang/invoke/VarHandle" ∧ (parseMethodDescriptor yX1_make.desc).map (fun d => d.parameters.length) = some 4 := by decide +kernel
set_option maxRecDepth 100000 in
set_option maxHeartbeats 4000000 in
theorem kX1_make (l : Launch) (D : va_G) (ad : Nat → Nat) (ca : Nat → ClassId) (g : Nat) (u : MS) (q_base : Int32) (q_depth : Int32) (q_n : Int32) (q_worth : Int32) (htc : vp_in (m_things u) 60) : CiM l yX1_make cX1_make 7 .int 1 D ad ca g [.int q_base, .int q_depth, .int q_n, .int q_worth] u (fm_make u q_base q_depth q_n q_worth) := by
  refine CiM.of (by decide) rfl (Nat.le_of_ble_eq_true rfl) ?_
  intro p e s m below meth c A ls E hS hl
  have hx := E.1.1
  have hb := E.1.2.1
  have hml := E.1.2.2.1
  have hown := E.1.2.2.2.1
  have hts := E.1.2.2.2.2
  have hl : lv_has ls 7 [(0, .ref (ad 0)), (1, .int q_base), (2, .int q_depth), (3, .int q_n), (4, .int q_worth)] := hl
  refine lv_aload_n hx hb dX1_make_0 rfl (lv_at hl 0 rfl) ?_
  refine gM_things (v := m_things u) E hS rfl dX1_make_1 ?_
  refine lv_istore (lv' := [(5, .int (m_things u)), (0, .ref (ad 0)), (1, .int q_base), (2, .int q_depth), (3, .int q_n), (4, .int q_worth)]) hx hb dX1_make_4 hl (by decide) rfl (fun ls hl => ?_)
  refine lv_aload_n hx hb dX1_make_6 rfl (lv_at hl 1 rfl) ?_
  refine lv_dup hx hb dX1_make_7 rfl ?_
  refine gM_things (v := m_things u) E hS rfl dX1_make_8 ?_
  refine lv_iconst (v := 1) hx hb dX1_make_11 (by decide) ?_
  refine lv_iadd hx hb dX1_make_12 ?_
  refine pM_things E hS dX1_make_13 (fun H locs hS => ?_)
  have hS : SM D ad ca A s (ms_things u ((m_things u) + 1)) H locs := hS
  refine lv_aload_n hx hb dX1_make_16 rfl (lv_at hl 1 rfl) ?_
  refine gM_bases E hS dX1_make_17 ?_
  refine lv_iload hx hb dX1_make_20 (lv_at hl 0 rfl) ?_
  refine lv_iload_n hx hb dX1_make_22 rfl (lv_at hl 2 rfl) ?_
  refine sM_bases E hS (show vp_in (m_things u) 60 from by first | with_reducible assumption | (refine in_of ?_ ?_ <;> with_reducible assumption) | (refine hqr ?_; with_reducible assumption)) dX1_make_23 (fun H locs hS => ?_)
  have hS : SM D ad ca A s (ms_bases (ms_things u ((m_things u) + 1)) (upd (m_bases u) (m_things u).toNatClampNeg q_base)) H locs := hS
  refine lv_aload_n hx hb dX1_make_24 rfl (lv_at hl 1 rfl) ?_
  refine gM_depths E hS dX1_make_25 ?_
  refine lv_iload hx hb dX1_make_28 (lv_at hl 0 rfl) ?_
  refine lv_iload_n hx hb dX1_make_30 rfl (lv_at hl 3 rfl) ?_
  refine sM_depths E hS (show vp_in (m_things u) 60 from by first | with_reducible assumption | (refine in_of ?_ ?_ <;> with_reducible assumption) | (refine hqr ?_; with_reducible assumption)) dX1_make_31 (fun H locs hS => ?_)
  have hS : SM D ad ca A s (ms_depths (ms_bases (ms_things u ((m_things u) + 1)) (upd (m_bases u) (m_things u).toNatClampNeg q_base)) (upd (m_depths u) (m_things u).toNatClampNeg q_depth)) H locs := hS
  refine lv_aload_n hx hb dX1_make_32 rfl (lv_at hl 1 rfl) ?_
  refine gM_sizes E hS dX1_make_33 ?_
  refine lv_iload hx hb dX1_make_36 (lv_at hl 0 rfl) ?_
  refine lv_iload_n hx hb dX1_make_38 rfl (lv_at hl 4 rfl) ?_
  refine sM_sizes E hS (show vp_in (m_things u) 60 from by first | with_reducible assumption | (refine in_of ?_ ?_ <;> with_reducible assumption) | (refine hqr ?_; with_reducible assumption)) dX1_make_39 (fun H locs hS => ?_)
  have hS : SM D ad ca A s (ms_sizes (ms_depths (ms_bases (ms_things u ((m_things u) + 1)) (upd (m_bases u) (m_things u).toNatClampNeg q_base)) (upd (m_depths u) (m_things u).toNatClampNeg q_depth)) (upd (m_sizes u) (m_things u).toNatClampNeg q_n)) H locs := hS
  refine lv_aload_n hx hb dX1_make_40 rfl (lv_at hl 1 rfl) ?_
  refine gM_worths E hS dX1_make_41 ?_
  refine lv_iload hx hb dX1_make_44 (lv_at hl 0 rfl) ?_
  refine lv_iload hx hb dX1_make_46 (lv_at hl 5 rfl) ?_
  refine sM_worths E hS (show vp_in (m_things u) 60 from by first | with_reducible assumption | (refine in_of ?_ ?_ <;> with_reducible assumption) | (refine hqr ?_; with_reducible assumption)) dX1_make_48 (fun H locs hS => ?_)
  have hS : SM D ad ca A s (ms_worths (ms_sizes (ms_depths (ms_bases (ms_things u ((m_things u) + 1)) (upd (m_bases u) (m_things u).toNatClampNeg q_base)) (upd (m_depths u) (m_things u).toNatClampNeg q_depth)) (upd (m_sizes u) (m_things u).toNatClampNeg q_n)) (upd (m_worths u) (m_things u).toNatClampNeg q_worth)) H locs := hS
  refine lv_iconst (v := 0) hx hb dX1_make_49 (by decide) ?_
  refine lv_istore (lv' := [(6, .int 0), (5, .int (m_things u)), (0, .ref (ad 0)), (1, .int q_base), (2, .int q_depth), (3, .int q_n), (4, .int q_worth)]) hx hb dX1_make_50 hl (by decide) rfl (fun ls hl => ?_)
  have hr : fm_make u q_base q_depth q_n q_worth = fm_make_L 9 (ms_worths (ms_sizes (ms_depths (ms_bases (ms_things u ((m_things u) + 1)) (upd (m_bases u) (m_things u).toNatClampNeg q_base)) (upd (m_depths u) (m_things u).toNatClampNeg q_depth)) (upd (m_sizes u) (m_things u).toNatClampNeg q_n)) (upd (m_worths u) (m_things u).toNatClampNeg q_worth)) q_base q_depth q_n q_worth (m_things u) 0 := by unfold fm_make; rfl
  rw [hr]
  exact loop_X1_make_L l D ad ca g u  E 9 (ms_worths (ms_sizes (ms_depths (ms_bases (ms_things u ((m_things u) + 1)) (upd (m_bases u) (m_things u).toNatClampNeg q_base)) (upd (m_depths u) (m_things u).toNatClampNeg q_depth)) (upd (m_sizes u) (m_things u).toNatClampNeg q_n)) (upd (m_worths u) (m_things u).toNatClampNeg q_worth)) q_base q_depth q_n q_worth (m_things u) 0 htc (by rw [ti0]; omega) (by rw [ti0]; omega) _ _ ls hS (lv_sub hl [2, 3, 4, 5, 6, 1, 0] rfl)
end
section
/-! DepotTraysModel: public methods, loops -/
theorem m6_in {u : MS} (hI : MI u) (h : ¬ m_things u = 60) : vp_in (m_things u) 60 := by
  have h1 := hI.1
  have h2 : ¬ (m_things u).toInt = 60 := by
    rw [← ti60]
    exact fun q => h (Int32.toInt_inj.mp q)
  rw [vp_in_iff]; omega
theorem sz_1 {u : MS} (hI : MI u) (i : Nat) : (m_sizes u i - 1).toInt = (m_sizes u i).toInt - 1 := by
  have h := hI.2.1 i
  rw [ti_sub (by rw [ti1]; omega) (by rw [ti1]; omega), ti1]
theorem mp_iff {u : MS} (hI : MI u) {i : Int32} {r : Nat} : ¬ fm_isIn i 0 (m_sizes u r - 1) = 0 ↔ 0 ≤ i.toInt ∧ i.toInt < (m_sizes u r).toInt := by
  rw [isIn_iff, sz_1 hI, ti0]; omega
theorem mp_in {u : MS} (hI : MI u) {r i : Int32} (hr : vp_in r 60) (h : ¬ fm_isIn i 0 (m_sizes u r.toNatClampNeg - 1) = 0) : vp_in ((8 * r) + i) 480 := by
  have h1 := (mp_iff hI).mp h
  have h2 := hI.2.1 r.toNatClampNeg
  exact mi_in hr (by omega) (by omega)
theorem mr_0 {u : MS} {r i : Int32} (h : fm_refused u r i = 0) : ¬ r = (-1) ∧ ¬ fm_isLedger u r = 0 ∧ ¬ fm_isIn i 0 (m_sizes u r.toNatClampNeg - 1) = 0 := by
  unfold fm_refused at h
  by_cases h1 : r = (-1)
  · rw [if_pos h1] at h; exact absurd h (by decide)
  by_cases h2 : fm_isLedger u r = 0
  · rw [if_neg h1, if_pos h2] at h; exact absurd h (by decide)
  by_cases h3 : fm_isIn i 0 (m_sizes u r.toNatClampNeg - 1) = 0
  · rw [if_neg h1, if_neg h2, if_pos h3] at h; exact absurd h (by decide)
  exact ⟨h1, h2, h3⟩
theorem mr_le {u : MS} {r i : Int32} (h : fm_refused u r i ≤ 0) : fm_refused u r i = 0 := by
  unfold fm_refused at h ⊢
  by_cases h1 : r = (-1)
  · rw [if_pos h1] at h; exact absurd h (by decide)
  rw [if_neg h1] at h ⊢
  by_cases h2 : fm_isLedger u r = 0
  · rw [if_pos h2] at h; exact absurd h (by decide)
  rw [if_neg h2] at h ⊢
  by_cases h3 : fm_isIn i 0 (m_sizes u r.toNatClampNeg - 1) = 0
  · rw [if_pos h3] at h; exact absurd h (by decide)
  rw [if_neg h3]
theorem mr_in {u : MS} {r i : Int32} (hI : MI u) (h0 : ¬ fm_mayBe u r = 0) (h : fm_refused u r i = 0) : vp_in ((8 * r) + i) 480 := by
  obtain ⟨h1, h2, h3⟩ := mr_0 h
  exact mp_in hI (mn_in hI h0 h1) h3
theorem md_in {k : Int32} (h : ¬ fm_isIn k 0 7 = 0) : vp_in k 8 := by
  have h1 := isIn_iff.mp h
  rw [ti0, show (7 : Int32).toInt = 7 by decide] at h1
  rw [vp_in_iff]; omega
def rowFillI (f : Nat → Int32) (a b : Nat) (e : Int32) : Nat → Int32 := fun q => if a ≤ q ∧ q < b then e else f q
theorem fillI_0 {f : Nat → Int32} {a b : Nat} {e : Int32} (h : b ≤ a) : rowFillI f a b e = f := by
  funext q; unfold rowFillI; rw [if_neg (by omega)]
theorem fill_0 {f : Nat → Int64} {a b : Nat} {e : Int64} (h : b ≤ a) : rowFill f a b e = f := by
  funext q; unfold rowFill; rw [if_neg (by omega)]
theorem fillI_s {f : Nat → Int32} {a b : Nat} {e : Int32} (h : a < b) : rowFillI (upd f a e) (a + 1) b e = rowFillI f a b e := by
  funext q
  unfold rowFillI upd
  by_cases q1 : q = a
  · rw [if_neg (by omega), if_pos q1, if_pos (by omega)]
  · by_cases q2 : a ≤ q ∧ q < b
    · rw [if_pos (by omega), if_pos q2]
    · rw [if_neg (by omega), if_neg q1, if_neg q2]
theorem fill_s {f : Nat → Int64} {a b : Nat} {e : Int64} (h : a < b) : rowFill (vp_updL f a e) (a + 1) b e = rowFill f a b e := by
  funext q
  unfold rowFill vp_updL
  by_cases q1 : q = a
  · rw [if_neg (by omega), if_pos q1, if_pos (by omega)]
  · by_cases q2 : a ≤ q ∧ q < b
    · rw [if_pos (by omega), if_pos q2]
    · rw [if_neg (by omega), if_neg q1, if_neg q2]
theorem mk_eta (u : MS) : ms_numbers (ms_lies u (m_lies u)) (m_numbers u) = u := rfl
theorem mk_pp (u : MS) (f f2 : Nat → Int32) (g g2 : Nat → Int64) : ms_numbers (ms_lies (ms_numbers (ms_lies u f) g) f2) g2 = ms_numbers (ms_lies u f2) g2 := rfl
theorem mk_l (u : MS) (f : Nat → Int32) (g : Nat → Int64) : m_lies (ms_numbers (ms_lies u f) g) = f := rfl
theorem mk_n (u : MS) (f : Nat → Int32) (g : Nat → Int64) : m_numbers (ms_numbers (ms_lies u f) g) = g := rfl
theorem mkL : ∀ (f : Nat) (w : MS) (b d n wo x k : Int32), vp_in x 60 → 0 ≤ k.toInt ∧ k.toInt ≤ 8 → 8 - k.toInt < (f : Int) →
    fm_make_L f w b d n wo x k = (x, ms_numbers (ms_lies w (rowFillI (m_lies w) (8 * x.toNatClampNeg + k.toNatClampNeg) (8 * x.toNatClampNeg + 8) (-1))) (rowFill (m_numbers w) (8 * x.toNatClampNeg + k.toNatClampNeg) (8 * x.toNatClampNeg + 8) 0)) := by
  intro f
  induction f with
  | zero => intro w b d n wo x k hx hk hf; exfalso; omega
  | succ f ih =>
    intro w b d n wo x k hx hk hf
    have e3 := cl_ti (a := k) (by omega)
    rw [fm_make_L]
    by_cases h : 8 ≤ k
    · rw [if_pos h]
      rw [le_ti, ti8] at h
      rw [fillI_0 (by omega), fill_0 (by omega), mk_eta]
    · rw [if_neg h]
      rw [le_ti, ti8] at h
      have e7 : (k + 1).toInt = k.toInt + 1 := ti_inc (by omega) (by omega)
      have e5 := cl_ti (a := k + 1) (by omega)
      rw [ih _ b d n wo x (k + 1) hx (by omega) (by omega), mk_pp, mk_l, mk_n, mi_cl hx (by omega) (by omega)]
      have e6 : 8 * x.toNatClampNeg + (k + 1).toNatClampNeg = (8 * x.toNatClampNeg + k.toNatClampNeg) + 1 := by omega
      rw [e6, fillI_s (by omega), fill_s (by omega)]
/-- a state with one thing more, its rows not yet laid -/
def mAdd (u : MS) (b d n wo : Int32) : MS := ms_worths (ms_sizes (ms_depths (ms_bases (ms_things u ((m_things u) + 1)) (upd (m_bases u) (m_things u).toNatClampNeg b)) (upd (m_depths u) (m_things u).toNatClampNeg d)) (upd (m_sizes u) (m_things u).toNatClampNeg n)) (upd (m_worths u) (m_things u).toNatClampNeg wo)
theorem mk_eq {u : MS} {b d n wo : Int32} (htc : vp_in (m_things u) 60) : fm_make u b d n wo = (m_things u, ms_numbers (ms_lies (mAdd u b d n wo) (rowFillI (m_lies u) (8 * (m_things u).toNatClampNeg) (8 * (m_things u).toNatClampNeg + 8) (-1))) (rowFill (m_numbers u) (8 * (m_things u).toNatClampNeg) (8 * (m_things u).toNatClampNeg + 8) 0)) := by
  have e0 : (0 : Int32).toNatClampNeg = 0 := by decide
  unfold fm_make
  have k1 := mkL 9 (mAdd u b d n wo) b d n wo (m_things u) 0 htc (by rw [ti0]; omega) (by rw [ti0]; omega)
  rw [e0, Nat.add_zero] at k1
  exact k1
theorem mk_1 {u : MS} {b d n wo : Int32} (htc : vp_in (m_things u) 60) : (fm_make u b d n wo).1 = m_things u := by rw [mk_eq htc]
theorem mk_t {u : MS} {b d n wo : Int32} (htc : vp_in (m_things u) 60) : m_things (fm_make u b d n wo).2 = m_things u + 1 := by rw [mk_eq htc]; rfl
def fm_piece (u : MS) (q_base : Int32) (q_worth : Int32) : Int32 × MS := if (fm_isIn q_base 0 3) = 0 then ((-2), u) else (if (m_things u) = 60 then ((-3), u) else ((fm_make u q_base 0 0 q_worth).1, (fm_make u q_base 0 0 q_worth).2))
theorem hd_X1_piece : yX1_piece.cls = RX1 ∧ yX1_piece.cls ≠ "java/lang/invoke/MethodHandle" ∧ yX1_piece.cls ≠ "java/lang/invoke/VarHandle" ∧ (parseMethodDescriptor yX1_piece.desc).map (fun d => d.parameters.length) = some 2 := by decide +kernel
set_option maxRecDepth 100000 in
set_option maxHeartbeats 4000000 in
theorem kX1_piece (l : Launch) (D : va_G) (ad : Nat → Nat) (ca : Nat → ClassId) (g : Nat) (u : MS) (q_base : Int32) (q_worth : Int32) (hI : MI u) : CiM l yX1_piece cX1_piece 3 .int 2 D ad ca g [.int q_base, .int q_worth] u (fm_piece u q_base q_worth) := by
  refine CiM.of (by decide) rfl (Nat.le_of_ble_eq_true rfl) ?_
  intro p e s m below meth c A ls E hS hl
  have hx := E.1.1
  have hb := E.1.2.1
  have hml := E.1.2.2.1
  have hown := E.1.2.2.2.1
  have hts := E.1.2.2.2.2
  have hl : lv_has ls 3 [(0, .ref (ad 0)), (1, .int q_base), (2, .int q_worth)] := hl
  refine lv_iload_n hx hb dX1_piece_0 rfl (lv_at hl 1 rfl) ?_
  refine lv_iconst (v := 0) hx hb dX1_piece_1 (by decide) ?_
  refine lv_iconst (v := 3) hx hb dX1_piece_2 (by decide) ?_
  refine EnM.sti (r := fm_isIn q_base 0 3) E hS [.int q_base, .int 0, .int 3] [] (kX1_isIn l q_base 0 3 ) (fun _ _ _ _ h => h) (fun _ _ _ => trivial) gc_X1_60 hd_X1_isIn ⟨Nat.le_of_ble_eq_true rfl, Nat.le_of_ble_eq_true rfl⟩ rfl hl.1 (Nat.le_of_ble_eq_true rfl) ⟨Nat.le_refl 0, Nat.le_refl 0⟩ dX1_piece_3 (fun H locs hS => ?_)
  refine lv_if_ne (tgt := 12) hx hb dX1_piece_6 (by decide) (fun h6 => ?_) (fun h6 => ?_)
  · refine lv_aload_n hx hb dX1_piece_12 rfl (lv_at hl 0 rfl) ?_
    refine gM_things (v := m_things u) E hS rfl dX1_piece_13 ?_
    refine lv_bipush (v := 60) hx hb dX1_piece_16 (by decide) ?_
    refine lv_icmp_ne (tgt := 26) hx hb dX1_piece_18 (by decide) (fun h18 => ?_) (fun h18 => ?_)
    · refine lv_aload_n hx hb dX1_piece_26 rfl (lv_at hl 0 rfl) ?_
      refine lv_iload_n hx hb dX1_piece_27 rfl (lv_at hl 1 rfl) ?_
      refine lv_iconst (v := 0) hx hb dX1_piece_28 (by decide) ?_
      refine lv_iconst (v := 0) hx hb dX1_piece_29 (by decide) ?_
      refine lv_iload_n hx hb dX1_piece_30 rfl (lv_at hl 2 rfl) ?_
      refine EnM.calli (r := (fm_make u q_base 0 0 q_worth).1) (u2 := (fm_make u q_base 0 0 q_worth).2) E hS [.int q_base, .int 0, .int 0, .int q_worth] [] (kX1_make l D ad ca g u q_base 0 0 q_worth (by first | with_reducible assumption | (refine mt_in hI ?_; with_reducible assumption) | (refine mn_in hI ?_ ?_ <;> with_reducible assumption) | (refine mb_lt hI ?_; with_reducible assumption) | (refine m6_in hI ?_; with_reducible assumption))) gc_X1_68 hd_X1_make ⟨Nat.le_of_ble_eq_true rfl, Nat.le_of_ble_eq_true rfl⟩ rfl hl.1 (Nat.le_of_ble_eq_true rfl) ⟨Nat.le_refl 0, Nat.le_refl 0⟩ dX1_piece_31 (fun H locs hS => ?_)
      exact EnM.iret E hS (ni_i _) (by first | (simp only [fm_piece, if_neg h6, if_neg h18]; done) | (unfold fm_piece; rw [if_neg h6, if_neg h18])) dX1_piece_34
    · refine lv_bipush (v := (-3)) hx hb dX1_piece_21 (by decide) ?_
      refine lv_goto (tgt := 34) hx hb dX1_piece_23 (by decide) ?_
      exact EnM.iret E hS (ni_i _) (by first | (simp only [fm_piece, if_neg h6, if_pos h18]; done) | (unfold fm_piece; rw [if_neg h6, if_pos h18])) dX1_piece_34
  · refine lv_bipush (v := (-2)) hx hb dX1_piece_9 (by decide) ?_
    exact EnM.iret E hS (ni_i _) (by first | (simp only [fm_piece, if_pos h6]; done) | (unfold fm_piece; rw [if_pos h6])) dX1_piece_11
def fm_row (u : MS) (q_base : Int32) (q_depth : Int32) (q_n : Int32) : Int32 × MS := if (fm_isShape q_base q_depth) = 0 then ((-2), u) else (if q_n ≤ 8 then (if (m_things u) = 60 then ((-3), u) else (if 0 ≤ q_n then ((fm_make u q_base q_depth q_n 0).1, (fm_make u q_base q_depth q_n 0).2) else ((fm_fails u 5).1, (fm_fails u 5).2))) else ((-2), u))
theorem hd_X1_row : yX1_row.cls = RX1 ∧ yX1_row.cls ≠ "java/lang/invoke/MethodHandle" ∧ yX1_row.cls ≠ "java/lang/invoke/VarHandle" ∧ (parseMethodDescriptor yX1_row.desc).map (fun d => d.parameters.length) = some 3 := by decide +kernel
set_option maxRecDepth 100000 in
set_option maxHeartbeats 4000000 in
theorem kX1_row (l : Launch) (D : va_G) (ad : Nat → Nat) (ca : Nat → ClassId) (g : Nat) (u : MS) (q_base : Int32) (q_depth : Int32) (q_n : Int32) (hI : MI u) : CiM l yX1_row cX1_row 4 .int 3 D ad ca g [.int q_base, .int q_depth, .int q_n] u (fm_row u q_base q_depth q_n) := by
  refine CiM.of (by decide) rfl (Nat.le_of_ble_eq_true rfl) ?_
  intro p e s m below meth c A ls E hS hl
  have hx := E.1.1
  have hb := E.1.2.1
  have hml := E.1.2.2.1
  have hown := E.1.2.2.2.1
  have hts := E.1.2.2.2.2
  have hl : lv_has ls 4 [(0, .ref (ad 0)), (1, .int q_base), (2, .int q_depth), (3, .int q_n)] := hl
  refine lv_iload_n hx hb dX1_row_0 rfl (lv_at hl 1 rfl) ?_
  refine lv_iload_n hx hb dX1_row_1 rfl (lv_at hl 2 rfl) ?_
  refine EnM.sti (r := fm_isShape q_base q_depth) E hS [.int q_base, .int q_depth] [] (kX1_isShape l q_base q_depth ) (fun _ _ _ _ h => h) (fun _ _ _ => trivial) gc_X1_72 hd_X1_isShape ⟨Nat.le_of_ble_eq_true rfl, Nat.le_of_ble_eq_true rfl⟩ rfl hl.1 (Nat.le_of_ble_eq_true rfl) ⟨Nat.le_refl 0, Nat.le_refl 0⟩ dX1_row_2 (fun H locs hS => ?_)
  refine lv_if_eq (tgt := 14) hx hb dX1_row_5 (by decide) (fun h5 => ?_) (fun h5 => ?_)
  · refine lv_bipush (v := (-2)) hx hb dX1_row_14 (by decide) ?_
    exact EnM.iret E hS (ni_i _) (by first | (simp only [fm_row, if_pos h5]; done) | (unfold fm_row; rw [if_pos h5])) dX1_row_16
  · refine lv_iload_n hx hb dX1_row_8 rfl (lv_at hl 3 rfl) ?_
    refine lv_bipush (v := 8) hx hb dX1_row_9 (by decide) ?_
    refine lv_icmp_le (tgt := 17) hx hb dX1_row_11 (by decide) (fun h11 => ?_) (fun h11 => ?_)
    · refine lv_aload_n hx hb dX1_row_17 rfl (lv_at hl 0 rfl) ?_
      refine gM_things (v := m_things u) E hS rfl dX1_row_18 ?_
      refine lv_bipush (v := 60) hx hb dX1_row_21 (by decide) ?_
      refine lv_icmp_ne (tgt := 29) hx hb dX1_row_23 (by decide) (fun h23 => ?_) (fun h23 => ?_)
      · refine lv_iload_n hx hb dX1_row_29 rfl (lv_at hl 3 rfl) ?_
        refine lv_if_ge (tgt := 41) hx hb dX1_row_30 (by decide) (fun h30 => ?_) (fun h30 => ?_)
        · refine lv_aload_n hx hb dX1_row_41 rfl (lv_at hl 0 rfl) ?_
          refine lv_iload_n hx hb dX1_row_42 rfl (lv_at hl 1 rfl) ?_
          refine lv_iload_n hx hb dX1_row_43 rfl (lv_at hl 2 rfl) ?_
          refine lv_iload_n hx hb dX1_row_44 rfl (lv_at hl 3 rfl) ?_
          refine lv_iconst (v := 0) hx hb dX1_row_45 (by decide) ?_
          refine EnM.calli (r := (fm_make u q_base q_depth q_n 0).1) (u2 := (fm_make u q_base q_depth q_n 0).2) E hS [.int q_base, .int q_depth, .int q_n, .int 0] [] (kX1_make l D ad ca g u q_base q_depth q_n 0 (by first | with_reducible assumption | (refine mt_in hI ?_; with_reducible assumption) | (refine mn_in hI ?_ ?_ <;> with_reducible assumption) | (refine mb_lt hI ?_; with_reducible assumption) | (refine m6_in hI ?_; with_reducible assumption))) gc_X1_68 hd_X1_make ⟨Nat.le_of_ble_eq_true rfl, Nat.le_of_ble_eq_true rfl⟩ rfl hl.1 (Nat.le_of_ble_eq_true rfl) ⟨Nat.le_refl 0, Nat.le_refl 0⟩ dX1_row_46 (fun H locs hS => ?_)
          exact EnM.iret E hS (ni_i _) (by first | (simp only [fm_row, if_neg h5, if_pos h11, if_neg h23, if_pos h30]; done) | (unfold fm_row; rw [if_neg h5, if_pos h11, if_neg h23, if_pos h30])) dX1_row_49
        · refine lv_aload_n hx hb dX1_row_33 rfl (lv_at hl 0 rfl) ?_
          refine lv_iconst (v := 5) hx hb dX1_row_34 (by decide) ?_
          refine EnM.calli (r := (fm_fails u 5).1) (u2 := (fm_fails u 5).2) E hS [.int 5] [] (kX1_fails l D ad ca g u 5 ) gc_X1_75 hd_X1_fails ⟨Nat.le_of_ble_eq_true rfl, Nat.le_of_ble_eq_true rfl⟩ rfl hl.1 (Nat.le_of_ble_eq_true rfl) ⟨Nat.le_refl 0, Nat.le_refl 0⟩ dX1_row_35 (fun H locs hS => ?_)
          refine lv_goto (tgt := 49) hx hb dX1_row_38 (by decide) ?_
          exact EnM.iret E hS (ni_i _) (by first | (simp only [fm_row, if_neg h5, if_pos h11, if_neg h23, if_neg h30]; done) | (unfold fm_row; rw [if_neg h5, if_pos h11, if_neg h23, if_neg h30])) dX1_row_49
      · refine lv_bipush (v := (-3)) hx hb dX1_row_26 (by decide) ?_
        exact EnM.iret E hS (ni_i _) (by first | (simp only [fm_row, if_neg h5, if_pos h11, if_pos h23]; done) | (unfold fm_row; rw [if_neg h5, if_pos h11, if_pos h23])) dX1_row_28
    · refine lv_bipush (v := (-2)) hx hb dX1_row_14 (by decide) ?_
      exact EnM.iret E hS (ni_i _) (by first | (simp only [fm_row, if_neg h5, if_neg h11]; done) | (unfold fm_row; rw [if_neg h5, if_neg h11])) dX1_row_16
def fm_put (u : MS) (q_r : Int32) (q_i : Int32) (q_x : Int32) : Int32 × MS := if (fm_mayBe u q_r) = 0 then ((-2), u) else (if (fm_mayBe u q_x) = 0 then ((-2), u) else (if q_r = (-1) then (if q_x = (-1) then ((fm_fails u 1).1, (fm_fails u 1).2) else (if (fm_isSuch u q_x 0 0) = 0 then ((fm_fails u 2).1, (fm_fails u 2).2) else ((fm_fails u 1).1, (fm_fails u 1).2))) else (if (m_depths u (q_r).toNatClampNeg) = 0 then ((fm_fails u 2).1, (fm_fails u 2).2) else (if (fm_isLedger u q_r) = 0 then (if 4 ≤ (m_bases u (q_r).toNatClampNeg) then (if q_x = (-1) then (if (fm_isIn q_i 0 ((m_sizes u (q_r).toNatClampNeg) - 1)) = 0 then ((fm_fails u 3).1, (fm_fails u 3).2) else (if q_x = (-1) then (1, ms_lies u (upd (m_lies u) ((8 * q_r) + q_i).toNatClampNeg q_x)) else (if (fm_isSuch u q_x (m_bases u (q_r).toNatClampNeg) ((m_depths u (q_r).toNatClampNeg) - 1)) = 0 then ((fm_fails u 4).1, (fm_fails u 4).2) else (1, ms_lies u (upd (m_lies u) ((8 * q_r) + q_i).toNatClampNeg q_x))))) else (if (fm_isSuch u q_x (m_bases u (q_r).toNatClampNeg) ((m_depths u (q_r).toNatClampNeg) - 1)) = 0 then ((fm_fails u 2).1, (fm_fails u 2).2) else (if (fm_isIn q_i 0 ((m_sizes u (q_r).toNatClampNeg) - 1)) = 0 then ((fm_fails u 3).1, (fm_fails u 3).2) else (if q_x = (-1) then (1, ms_lies u (upd (m_lies u) ((8 * q_r) + q_i).toNatClampNeg q_x)) else (if (fm_isSuch u q_x (m_bases u (q_r).toNatClampNeg) ((m_depths u (q_r).toNatClampNeg) - 1)) = 0 then ((fm_fails u 4).1, (fm_fails u 4).2) else (1, ms_lies u (upd (m_lies u) ((8 * q_r) + q_i).toNatClampNeg q_x))))))) else (if q_x = (-1) then (if (fm_isIn q_i 0 ((m_sizes u (q_r).toNatClampNeg) - 1)) = 0 then ((fm_fails u 3).1, (fm_fails u 3).2) else (if q_x = (-1) then (1, ms_lies u (upd (m_lies u) ((8 * q_r) + q_i).toNatClampNeg q_x)) else (if (fm_isSuch u q_x (m_bases u (q_r).toNatClampNeg) ((m_depths u (q_r).toNatClampNeg) - 1)) = 0 then ((fm_fails u 4).1, (fm_fails u 4).2) else (1, ms_lies u (upd (m_lies u) ((8 * q_r) + q_i).toNatClampNeg q_x))))) else (if (fm_isSuch u q_x 0 ((m_depths u (q_r).toNatClampNeg) - 1)) = 0 then ((fm_fails u 2).1, (fm_fails u 2).2) else (if (fm_isIn q_i 0 ((m_sizes u (q_r).toNatClampNeg) - 1)) = 0 then ((fm_fails u 3).1, (fm_fails u 3).2) else (if q_x = (-1) then (1, ms_lies u (upd (m_lies u) ((8 * q_r) + q_i).toNatClampNeg q_x)) else (if (fm_isSuch u q_x (m_bases u (q_r).toNatClampNeg) ((m_depths u (q_r).toNatClampNeg) - 1)) = 0 then ((fm_fails u 4).1, (fm_fails u 4).2) else (1, ms_lies u (upd (m_lies u) ((8 * q_r) + q_i).toNatClampNeg q_x)))))))) else ((fm_fails u 2).1, (fm_fails u 2).2)))))
theorem hd_X1_put : yX1_put.cls = RX1 ∧ yX1_put.cls ≠ "java/lang/invoke/MethodHandle" ∧ yX1_put.cls ≠ "java/lang/invoke/VarHandle" ∧ (parseMethodDescriptor yX1_put.desc).map (fun d => d.parameters.length) = some 3 := by decide +kernel
set_option maxRecDepth 100000 in
set_option maxHeartbeats 4000000 in
theorem kX1_put (l : Launch) (D : va_G) (ad : Nat → Nat) (ca : Nat → ClassId) (g : Nat) (u : MS) (q_r : Int32) (q_i : Int32) (q_x : Int32) (hI : MI u) : CiM l yX1_put cX1_put 5 .int 4 D ad ca g [.int q_r, .int q_i, .int q_x] u (fm_put u q_r q_i q_x) := by
  refine CiM.of (by decide) rfl (Nat.le_of_ble_eq_true rfl) ?_
  intro p e s m below meth c A ls E hS hl
  have hx := E.1.1
  have hb := E.1.2.1
  have hml := E.1.2.2.1
  have hown := E.1.2.2.2.1
  have hts := E.1.2.2.2.2
  have hl : lv_has ls 5 [(0, .ref (ad 0)), (1, .int q_r), (2, .int q_i), (3, .int q_x)] := hl
  refine lv_aload_n hx hb dX1_put_0 rfl (lv_at hl 0 rfl) ?_
  refine lv_iload_n hx hb dX1_put_1 rfl (lv_at hl 1 rfl) ?_
  refine EnM.calli (r := fm_mayBe u q_r) (u2 := u) E hS [.int q_r] [] (kX1_mayBe l D ad ca g u q_r ) gc_X1_79 hd_X1_mayBe ⟨Nat.le_of_ble_eq_true rfl, Nat.le_of_ble_eq_true rfl⟩ rfl hl.1 (Nat.le_of_ble_eq_true rfl) ⟨Nat.le_refl 0, Nat.le_refl 0⟩ dX1_put_2 (fun H locs hS => ?_)
  refine lv_if_eq (tgt := 16) hx hb dX1_put_5 (by decide) (fun h5 => ?_) (fun h5 => ?_)
  · refine lv_bipush (v := (-2)) hx hb dX1_put_16 (by decide) ?_
    exact EnM.iret E hS (ni_i _) (by first | (simp only [fm_put, if_pos h5]; done) | (unfold fm_put; rw [if_pos h5])) dX1_put_18
  · refine lv_aload_n hx hb dX1_put_8 rfl (lv_at hl 0 rfl) ?_
    refine lv_iload_n hx hb dX1_put_9 rfl (lv_at hl 3 rfl) ?_
    refine EnM.calli (r := fm_mayBe u q_x) (u2 := u) E hS [.int q_x] [] (kX1_mayBe l D ad ca g u q_x ) gc_X1_79 hd_X1_mayBe ⟨Nat.le_of_ble_eq_true rfl, Nat.le_of_ble_eq_true rfl⟩ rfl hl.1 (Nat.le_of_ble_eq_true rfl) ⟨Nat.le_refl 0, Nat.le_refl 0⟩ dX1_put_10 (fun H locs hS => ?_)
    refine lv_if_ne (tgt := 19) hx hb dX1_put_13 (by decide) (fun h13 => ?_) (fun h13 => ?_)
    · refine lv_iload_n hx hb dX1_put_19 rfl (lv_at hl 1 rfl) ?_
      refine lv_iconst (v := (-1)) hx hb dX1_put_20 (by decide) ?_
      refine lv_icmp_ne (tgt := 49) hx hb dX1_put_21 (by decide) (fun h21 => ?_) (fun h21 => ?_)
      · refine lv_aload_n hx hb dX1_put_49 rfl (lv_at hl 0 rfl) ?_
        refine gM_depths E hS dX1_put_50 ?_
        refine lv_iload_n hx hb dX1_put_53 rfl (lv_at hl 1 rfl) ?_
        refine lM_depths (v := m_depths u (q_r).toNatClampNeg) E hS (show vp_in q_r 60 from by first | with_reducible assumption | (refine mt_in hI ?_; with_reducible assumption) | (refine mn_in hI ?_ ?_ <;> with_reducible assumption) | (refine mb_lt hI ?_; with_reducible assumption) | (refine m6_in hI ?_; with_reducible assumption)) rfl dX1_put_54 ?_
        refine lv_if_eq (tgt := 66) hx hb dX1_put_55 (by decide) (fun h55 => ?_) (fun h55 => ?_)
        · refine lv_aload_n hx hb dX1_put_66 rfl (lv_at hl 0 rfl) ?_
          refine lv_iconst (v := 2) hx hb dX1_put_67 (by decide) ?_
          refine EnM.calli (r := (fm_fails u 2).1) (u2 := (fm_fails u 2).2) E hS [.int 2] [] (kX1_fails l D ad ca g u 2 ) gc_X1_75 hd_X1_fails ⟨Nat.le_of_ble_eq_true rfl, Nat.le_of_ble_eq_true rfl⟩ rfl hl.1 (Nat.le_of_ble_eq_true rfl) ⟨Nat.le_refl 0, Nat.le_refl 0⟩ dX1_put_68 (fun H locs hS => ?_)
          exact EnM.iret E hS (ni_i _) (by first | (simp only [fm_put, if_neg h5, if_neg h13, if_neg h21, if_pos h55]; done) | (unfold fm_put; rw [if_neg h5, if_neg h13, if_neg h21, if_pos h55])) dX1_put_71
        · refine lv_aload_n hx hb dX1_put_58 rfl (lv_at hl 0 rfl) ?_
          refine lv_iload_n hx hb dX1_put_59 rfl (lv_at hl 1 rfl) ?_
          refine EnM.calli (r := fm_isLedger u q_r) (u2 := u) E hS [.int q_r] [] (kX1_isLedger l D ad ca g u q_r (by first | with_reducible assumption | (refine mt_in hI ?_; with_reducible assumption) | (refine mn_in hI ?_ ?_ <;> with_reducible assumption) | (refine mb_lt hI ?_; with_reducible assumption) | (refine m6_in hI ?_; with_reducible assumption))) gc_X1_86 hd_X1_isLedger ⟨Nat.le_of_ble_eq_true rfl, Nat.le_of_ble_eq_true rfl⟩ rfl hl.1 (Nat.le_of_ble_eq_true rfl) ⟨Nat.le_refl 0, Nat.le_refl 0⟩ dX1_put_60 (fun H locs hS => ?_)
          refine lv_if_eq (tgt := 72) hx hb dX1_put_63 (by decide) (fun h63 => ?_) (fun h63 => ?_)
          · refine lv_aload_n hx hb dX1_put_72 rfl (lv_at hl 0 rfl) ?_
            refine gM_bases E hS dX1_put_73 ?_
            refine lv_iload_n hx hb dX1_put_76 rfl (lv_at hl 1 rfl) ?_
            refine lM_bases (v := m_bases u (q_r).toNatClampNeg) E hS (show vp_in q_r 60 from by first | with_reducible assumption | (refine mt_in hI ?_; with_reducible assumption) | (refine mn_in hI ?_ ?_ <;> with_reducible assumption) | (refine mb_lt hI ?_; with_reducible assumption) | (refine m6_in hI ?_; with_reducible assumption)) rfl dX1_put_77 ?_
            refine lv_iconst (v := 4) hx hb dX1_put_78 (by decide) ?_
            refine lv_icmp_ge (tgt := 86) hx hb dX1_put_79 (by decide) (fun h79 => ?_) (fun h79 => ?_)
            · refine lv_aload_n hx hb dX1_put_86 rfl (lv_at hl 0 rfl) ?_
              refine gM_bases E hS dX1_put_87 ?_
              refine lv_iload_n hx hb dX1_put_90 rfl (lv_at hl 1 rfl) ?_
              refine lM_bases (v := m_bases u (q_r).toNatClampNeg) E hS (show vp_in q_r 60 from by first | with_reducible assumption | (refine mt_in hI ?_; with_reducible assumption) | (refine mn_in hI ?_ ?_ <;> with_reducible assumption) | (refine mb_lt hI ?_; with_reducible assumption) | (refine m6_in hI ?_; with_reducible assumption)) rfl dX1_put_91 ?_
              refine lv_istore (lv' := [(4, .int (m_bases u (q_r).toNatClampNeg)), (0, .ref (ad 0)), (1, .int q_r), (2, .int q_i), (3, .int q_x)]) hx hb dX1_put_92 hl (by decide) rfl (fun ls hl => ?_)
              refine lv_iload_n hx hb dX1_put_94 rfl (lv_at hl 4 rfl) ?_
              refine lv_iconst (v := (-1)) hx hb dX1_put_95 (by decide) ?_
              refine lv_icmp_eq (tgt := 123) hx hb dX1_put_96 (by decide) (fun h96 => ?_) (fun h96 => ?_)
              · refine lv_iload_n hx hb dX1_put_123 rfl (lv_at hl 3 rfl) ?_
                refine lv_iconst (v := 0) hx hb dX1_put_124 (by decide) ?_
                refine lv_aload_n hx hb dX1_put_125 rfl (lv_at hl 1 rfl) ?_
                refine gM_sizes E hS dX1_put_126 ?_
                refine lv_iload_n hx hb dX1_put_129 rfl (lv_at hl 2 rfl) ?_
                refine lM_sizes (v := m_sizes u (q_r).toNatClampNeg) E hS (show vp_in q_r 60 from by first | with_reducible assumption | (refine mt_in hI ?_; with_reducible assumption) | (refine mn_in hI ?_ ?_ <;> with_reducible assumption) | (refine mb_lt hI ?_; with_reducible assumption) | (refine m6_in hI ?_; with_reducible assumption)) rfl dX1_put_130 ?_
                refine lv_iconst (v := 1) hx hb dX1_put_131 (by decide) ?_
                refine lv_isub hx hb dX1_put_132 ?_
                refine EnM.sti (r := fm_isIn q_i 0 ((m_sizes u (q_r).toNatClampNeg) - 1)) E hS [.int q_i, .int 0, .int ((m_sizes u (q_r).toNatClampNeg) - 1)] [] (kX1_isIn l q_i 0 ((m_sizes u (q_r).toNatClampNeg) - 1) ) (fun _ _ _ _ h => h) (fun _ _ _ => trivial) gc_X1_60 hd_X1_isIn ⟨Nat.le_of_ble_eq_true rfl, Nat.le_of_ble_eq_true rfl⟩ rfl hl.1 (Nat.le_of_ble_eq_true rfl) ⟨Nat.le_refl 0, Nat.le_refl 0⟩ dX1_put_133 (fun H locs hS => ?_)
                refine lv_if_ne (tgt := 145) hx hb dX1_put_136 (by decide) (fun h136 => ?_) (fun h136 => ?_)
                · refine lv_iload_n hx hb dX1_put_145 rfl (lv_at hl 4 rfl) ?_
                  refine lv_iconst (v := (-1)) hx hb dX1_put_146 (by decide) ?_
                  refine lv_icmp_eq (tgt := 178) hx hb dX1_put_147 (by decide) (fun h147 => ?_) (fun h147 => ?_)
                  · refine lv_aload_n hx hb dX1_put_178 rfl (lv_at hl 1 rfl) ?_
                    refine gM_lies E hS dX1_put_179 ?_
                    refine lv_bipush (v := 8) hx hb dX1_put_182 (by decide) ?_
                    refine lv_iload_n hx hb dX1_put_184 rfl (lv_at hl 2 rfl) ?_
                    refine lv_imul hx hb dX1_put_185 ?_
                    refine lv_iload_n hx hb dX1_put_186 rfl (lv_at hl 3 rfl) ?_
                    refine lv_iadd hx hb dX1_put_187 ?_
                    refine lv_iload_n hx hb dX1_put_188 rfl (lv_at hl 4 rfl) ?_
                    refine sM_lies E hS (show vp_in ((8 * q_r) + q_i) 480 from mp_in hI (mn_in hI (by with_reducible assumption) (by with_reducible assumption)) (by with_reducible assumption)) dX1_put_189 (fun H locs hS => ?_)
                    have hS : SM D ad ca A s (ms_lies u (upd (m_lies u) ((8 * q_r) + q_i).toNatClampNeg q_x)) H locs := hS
                    refine lv_iconst (v := 1) hx hb dX1_put_190 (by decide) ?_
                    exact EnM.iret E hS (ni_i _) (by first | (simp only [fm_put, if_neg h5, if_neg h13, if_neg h21, if_neg h55, if_pos h63, if_pos h79, if_pos h96, if_neg h136, if_pos h147]; done) | (unfold fm_put; rw [if_neg h5, if_neg h13, if_neg h21, if_neg h55, if_pos h63, if_pos h79, if_pos h96, if_neg h136, if_pos h147])) dX1_put_191
                  · refine lv_aload_n hx hb dX1_put_150 rfl (lv_at hl 1 rfl) ?_
                    refine lv_iload_n hx hb dX1_put_151 rfl (lv_at hl 4 rfl) ?_
                    refine lv_aload_n hx hb dX1_put_152 rfl (lv_at hl 1 rfl) ?_
                    refine gM_bases E hS dX1_put_153 ?_
                    refine lv_iload_n hx hb dX1_put_156 rfl (lv_at hl 2 rfl) ?_
                    refine lM_bases (v := m_bases u (q_r).toNatClampNeg) E hS (show vp_in q_r 60 from by first | with_reducible assumption | (refine mt_in hI ?_; with_reducible assumption) | (refine mn_in hI ?_ ?_ <;> with_reducible assumption) | (refine mb_lt hI ?_; with_reducible assumption) | (refine m6_in hI ?_; with_reducible assumption)) rfl dX1_put_157 ?_
                    refine lv_aload_n hx hb dX1_put_158 rfl (lv_at hl 1 rfl) ?_
                    refine gM_depths E hS dX1_put_159 ?_
                    refine lv_iload_n hx hb dX1_put_162 rfl (lv_at hl 2 rfl) ?_
                    refine lM_depths (v := m_depths u (q_r).toNatClampNeg) E hS (show vp_in q_r 60 from by first | with_reducible assumption | (refine mt_in hI ?_; with_reducible assumption) | (refine mn_in hI ?_ ?_ <;> with_reducible assumption) | (refine mb_lt hI ?_; with_reducible assumption) | (refine m6_in hI ?_; with_reducible assumption)) rfl dX1_put_163 ?_
                    refine lv_iconst (v := 1) hx hb dX1_put_164 (by decide) ?_
                    refine lv_isub hx hb dX1_put_165 ?_
                    refine EnM.calli (r := fm_isSuch u q_x (m_bases u (q_r).toNatClampNeg) ((m_depths u (q_r).toNatClampNeg) - 1)) (u2 := u) E hS [.int q_x, .int (m_bases u (q_r).toNatClampNeg), .int ((m_depths u (q_r).toNatClampNeg) - 1)] [] (kX1_isSuch l D ad ca g u q_x (m_bases u (q_r).toNatClampNeg) ((m_depths u (q_r).toNatClampNeg) - 1) (by first | with_reducible assumption | (refine mt_in hI ?_; with_reducible assumption) | (refine mn_in hI ?_ ?_ <;> with_reducible assumption) | (refine mb_lt hI ?_; with_reducible assumption) | (refine m6_in hI ?_; with_reducible assumption))) gc_X1_83 hd_X1_isSuch ⟨Nat.le_of_ble_eq_true rfl, Nat.le_of_ble_eq_true rfl⟩ rfl hl.1 (Nat.le_of_ble_eq_true rfl) ⟨Nat.le_refl 0, Nat.le_refl 0⟩ dX1_put_166 (fun H locs hS => ?_)
                    refine lv_if_ne (tgt := 178) hx hb dX1_put_169 (by decide) (fun h169 => ?_) (fun h169 => ?_)
                    · refine lv_aload_n hx hb dX1_put_178 rfl (lv_at hl 1 rfl) ?_
                      refine gM_lies E hS dX1_put_179 ?_
                      refine lv_bipush (v := 8) hx hb dX1_put_182 (by decide) ?_
                      refine lv_iload_n hx hb dX1_put_184 rfl (lv_at hl 2 rfl) ?_
                      refine lv_imul hx hb dX1_put_185 ?_
                      refine lv_iload_n hx hb dX1_put_186 rfl (lv_at hl 3 rfl) ?_
                      refine lv_iadd hx hb dX1_put_187 ?_
                      refine lv_iload_n hx hb dX1_put_188 rfl (lv_at hl 4 rfl) ?_
                      refine sM_lies E hS (show vp_in ((8 * q_r) + q_i) 480 from mp_in hI (mn_in hI (by with_reducible assumption) (by with_reducible assumption)) (by with_reducible assumption)) dX1_put_189 (fun H locs hS => ?_)
                      have hS : SM D ad ca A s (ms_lies u (upd (m_lies u) ((8 * q_r) + q_i).toNatClampNeg q_x)) H locs := hS
                      refine lv_iconst (v := 1) hx hb dX1_put_190 (by decide) ?_
                      exact EnM.iret E hS (ni_i _) (by first | (simp only [fm_put, if_neg h5, if_neg h13, if_neg h21, if_neg h55, if_pos h63, if_pos h79, if_pos h96, if_neg h136, if_neg h147, if_neg h169]; done) | (unfold fm_put; rw [if_neg h5, if_neg h13, if_neg h21, if_neg h55, if_pos h63, if_pos h79, if_pos h96, if_neg h136, if_neg h147, if_neg h169])) dX1_put_191
                    · refine lv_aload_n hx hb dX1_put_172 rfl (lv_at hl 1 rfl) ?_
                      refine lv_iconst (v := 4) hx hb dX1_put_173 (by decide) ?_
                      refine EnM.calli (r := (fm_fails u 4).1) (u2 := (fm_fails u 4).2) E hS [.int 4] [] (kX1_fails l D ad ca g u 4 ) gc_X1_75 hd_X1_fails ⟨Nat.le_of_ble_eq_true rfl, Nat.le_of_ble_eq_true rfl⟩ rfl hl.1 (Nat.le_of_ble_eq_true rfl) ⟨Nat.le_refl 0, Nat.le_refl 0⟩ dX1_put_174 (fun H locs hS => ?_)
                      exact EnM.iret E hS (ni_i _) (by first | (simp only [fm_put, if_neg h5, if_neg h13, if_neg h21, if_neg h55, if_pos h63, if_pos h79, if_pos h96, if_neg h136, if_neg h147, if_pos h169]; done) | (unfold fm_put; rw [if_neg h5, if_neg h13, if_neg h21, if_neg h55, if_pos h63, if_pos h79, if_pos h96, if_neg h136, if_neg h147, if_pos h169])) dX1_put_177
                · refine lv_aload_n hx hb dX1_put_139 rfl (lv_at hl 1 rfl) ?_
                  refine lv_iconst (v := 3) hx hb dX1_put_140 (by decide) ?_
                  refine EnM.calli (r := (fm_fails u 3).1) (u2 := (fm_fails u 3).2) E hS [.int 3] [] (kX1_fails l D ad ca g u 3 ) gc_X1_75 hd_X1_fails ⟨Nat.le_of_ble_eq_true rfl, Nat.le_of_ble_eq_true rfl⟩ rfl hl.1 (Nat.le_of_ble_eq_true rfl) ⟨Nat.le_refl 0, Nat.le_refl 0⟩ dX1_put_141 (fun H locs hS => ?_)
                  exact EnM.iret E hS (ni_i _) (by first | (simp only [fm_put, if_neg h5, if_neg h13, if_neg h21, if_neg h55, if_pos h63, if_pos h79, if_pos h96, if_pos h136]; done) | (unfold fm_put; rw [if_neg h5, if_neg h13, if_neg h21, if_neg h55, if_pos h63, if_pos h79, if_pos h96, if_pos h136])) dX1_put_144
              · refine lv_aload_n hx hb dX1_put_99 rfl (lv_at hl 1 rfl) ?_
                refine lv_iload_n hx hb dX1_put_100 rfl (lv_at hl 4 rfl) ?_
                refine lv_iload hx hb dX1_put_101 (lv_at hl 0 rfl) ?_
                refine lv_aload_n hx hb dX1_put_103 rfl (lv_at hl 1 rfl) ?_
                refine gM_depths E hS dX1_put_104 ?_
                refine lv_iload_n hx hb dX1_put_107 rfl (lv_at hl 2 rfl) ?_
                refine lM_depths (v := m_depths u (q_r).toNatClampNeg) E hS (show vp_in q_r 60 from by first | with_reducible assumption | (refine mt_in hI ?_; with_reducible assumption) | (refine mn_in hI ?_ ?_ <;> with_reducible assumption) | (refine mb_lt hI ?_; with_reducible assumption) | (refine m6_in hI ?_; with_reducible assumption)) rfl dX1_put_108 ?_
                refine lv_iconst (v := 1) hx hb dX1_put_109 (by decide) ?_
                refine lv_isub hx hb dX1_put_110 ?_
                refine EnM.calli (r := fm_isSuch u q_x (m_bases u (q_r).toNatClampNeg) ((m_depths u (q_r).toNatClampNeg) - 1)) (u2 := u) E hS [.int q_x, .int (m_bases u (q_r).toNatClampNeg), .int ((m_depths u (q_r).toNatClampNeg) - 1)] [] (kX1_isSuch l D ad ca g u q_x (m_bases u (q_r).toNatClampNeg) ((m_depths u (q_r).toNatClampNeg) - 1) (by first | with_reducible assumption | (refine mt_in hI ?_; with_reducible assumption) | (refine mn_in hI ?_ ?_ <;> with_reducible assumption) | (refine mb_lt hI ?_; with_reducible assumption) | (refine m6_in hI ?_; with_reducible assumption))) gc_X1_83 hd_X1_isSuch ⟨Nat.le_of_ble_eq_true rfl, Nat.le_of_ble_eq_true rfl⟩ rfl hl.1 (Nat.le_of_ble_eq_true rfl) ⟨Nat.le_refl 0, Nat.le_refl 0⟩ dX1_put_111 (fun H locs hS => ?_)
                refine lv_if_ne (tgt := 123) hx hb dX1_put_114 (by decide) (fun h114 => ?_) (fun h114 => ?_)
                · refine lv_iload_n hx hb dX1_put_123 rfl (lv_at hl 3 rfl) ?_
                  refine lv_iconst (v := 0) hx hb dX1_put_124 (by decide) ?_
                  refine lv_aload_n hx hb dX1_put_125 rfl (lv_at hl 1 rfl) ?_
                  refine gM_sizes E hS dX1_put_126 ?_
                  refine lv_iload_n hx hb dX1_put_129 rfl (lv_at hl 2 rfl) ?_
                  refine lM_sizes (v := m_sizes u (q_r).toNatClampNeg) E hS (show vp_in q_r 60 from by first | with_reducible assumption | (refine mt_in hI ?_; with_reducible assumption) | (refine mn_in hI ?_ ?_ <;> with_reducible assumption) | (refine mb_lt hI ?_; with_reducible assumption) | (refine m6_in hI ?_; with_reducible assumption)) rfl dX1_put_130 ?_
                  refine lv_iconst (v := 1) hx hb dX1_put_131 (by decide) ?_
                  refine lv_isub hx hb dX1_put_132 ?_
                  refine EnM.sti (r := fm_isIn q_i 0 ((m_sizes u (q_r).toNatClampNeg) - 1)) E hS [.int q_i, .int 0, .int ((m_sizes u (q_r).toNatClampNeg) - 1)] [] (kX1_isIn l q_i 0 ((m_sizes u (q_r).toNatClampNeg) - 1) ) (fun _ _ _ _ h => h) (fun _ _ _ => trivial) gc_X1_60 hd_X1_isIn ⟨Nat.le_of_ble_eq_true rfl, Nat.le_of_ble_eq_true rfl⟩ rfl hl.1 (Nat.le_of_ble_eq_true rfl) ⟨Nat.le_refl 0, Nat.le_refl 0⟩ dX1_put_133 (fun H locs hS => ?_)
                  refine lv_if_ne (tgt := 145) hx hb dX1_put_136 (by decide) (fun h136 => ?_) (fun h136 => ?_)
                  · refine lv_iload_n hx hb dX1_put_145 rfl (lv_at hl 4 rfl) ?_
                    refine lv_iconst (v := (-1)) hx hb dX1_put_146 (by decide) ?_
                    refine lv_icmp_eq (tgt := 178) hx hb dX1_put_147 (by decide) (fun h147 => ?_) (fun h147 => ?_)
                    · refine lv_aload_n hx hb dX1_put_178 rfl (lv_at hl 1 rfl) ?_
                      refine gM_lies E hS dX1_put_179 ?_
                      refine lv_bipush (v := 8) hx hb dX1_put_182 (by decide) ?_
                      refine lv_iload_n hx hb dX1_put_184 rfl (lv_at hl 2 rfl) ?_
                      refine lv_imul hx hb dX1_put_185 ?_
                      refine lv_iload_n hx hb dX1_put_186 rfl (lv_at hl 3 rfl) ?_
                      refine lv_iadd hx hb dX1_put_187 ?_
                      refine lv_iload_n hx hb dX1_put_188 rfl (lv_at hl 4 rfl) ?_
                      refine sM_lies E hS (show vp_in ((8 * q_r) + q_i) 480 from mp_in hI (mn_in hI (by with_reducible assumption) (by with_reducible assumption)) (by with_reducible assumption)) dX1_put_189 (fun H locs hS => ?_)
                      have hS : SM D ad ca A s (ms_lies u (upd (m_lies u) ((8 * q_r) + q_i).toNatClampNeg q_x)) H locs := hS
                      refine lv_iconst (v := 1) hx hb dX1_put_190 (by decide) ?_
                      exact EnM.iret E hS (ni_i _) (by first | (simp only [fm_put, if_neg h5, if_neg h13, if_neg h21, if_neg h55, if_pos h63, if_pos h79, if_neg h96, if_neg h114, if_neg h136, if_pos h147]; done) | (unfold fm_put; rw [if_neg h5, if_neg h13, if_neg h21, if_neg h55, if_pos h63, if_pos h79, if_neg h96, if_neg h114, if_neg h136, if_pos h147])) dX1_put_191
                    · refine lv_aload_n hx hb dX1_put_150 rfl (lv_at hl 1 rfl) ?_
                      refine lv_iload_n hx hb dX1_put_151 rfl (lv_at hl 4 rfl) ?_
                      refine lv_aload_n hx hb dX1_put_152 rfl (lv_at hl 1 rfl) ?_
                      refine gM_bases E hS dX1_put_153 ?_
                      refine lv_iload_n hx hb dX1_put_156 rfl (lv_at hl 2 rfl) ?_
                      refine lM_bases (v := m_bases u (q_r).toNatClampNeg) E hS (show vp_in q_r 60 from by first | with_reducible assumption | (refine mt_in hI ?_; with_reducible assumption) | (refine mn_in hI ?_ ?_ <;> with_reducible assumption) | (refine mb_lt hI ?_; with_reducible assumption) | (refine m6_in hI ?_; with_reducible assumption)) rfl dX1_put_157 ?_
                      refine lv_aload_n hx hb dX1_put_158 rfl (lv_at hl 1 rfl) ?_
                      refine gM_depths E hS dX1_put_159 ?_
                      refine lv_iload_n hx hb dX1_put_162 rfl (lv_at hl 2 rfl) ?_
                      refine lM_depths (v := m_depths u (q_r).toNatClampNeg) E hS (show vp_in q_r 60 from by first | with_reducible assumption | (refine mt_in hI ?_; with_reducible assumption) | (refine mn_in hI ?_ ?_ <;> with_reducible assumption) | (refine mb_lt hI ?_; with_reducible assumption) | (refine m6_in hI ?_; with_reducible assumption)) rfl dX1_put_163 ?_
                      refine lv_iconst (v := 1) hx hb dX1_put_164 (by decide) ?_
                      refine lv_isub hx hb dX1_put_165 ?_
                      refine EnM.calli (r := fm_isSuch u q_x (m_bases u (q_r).toNatClampNeg) ((m_depths u (q_r).toNatClampNeg) - 1)) (u2 := u) E hS [.int q_x, .int (m_bases u (q_r).toNatClampNeg), .int ((m_depths u (q_r).toNatClampNeg) - 1)] [] (kX1_isSuch l D ad ca g u q_x (m_bases u (q_r).toNatClampNeg) ((m_depths u (q_r).toNatClampNeg) - 1) (by first | with_reducible assumption | (refine mt_in hI ?_; with_reducible assumption) | (refine mn_in hI ?_ ?_ <;> with_reducible assumption) | (refine mb_lt hI ?_; with_reducible assumption) | (refine m6_in hI ?_; with_reducible assumption))) gc_X1_83 hd_X1_isSuch ⟨Nat.le_of_ble_eq_true rfl, Nat.le_of_ble_eq_true rfl⟩ rfl hl.1 (Nat.le_of_ble_eq_true rfl) ⟨Nat.le_refl 0, Nat.le_refl 0⟩ dX1_put_166 (fun H locs hS => ?_)
                      refine lv_if_ne (tgt := 178) hx hb dX1_put_169 (by decide) (fun h169 => ?_) (fun h169 => ?_)
                      · refine lv_aload_n hx hb dX1_put_178 rfl (lv_at hl 1 rfl) ?_
                        refine gM_lies E hS dX1_put_179 ?_
                        refine lv_bipush (v := 8) hx hb dX1_put_182 (by decide) ?_
                        refine lv_iload_n hx hb dX1_put_184 rfl (lv_at hl 2 rfl) ?_
                        refine lv_imul hx hb dX1_put_185 ?_
                        refine lv_iload_n hx hb dX1_put_186 rfl (lv_at hl 3 rfl) ?_
                        refine lv_iadd hx hb dX1_put_187 ?_
                        refine lv_iload_n hx hb dX1_put_188 rfl (lv_at hl 4 rfl) ?_
                        refine sM_lies E hS (show vp_in ((8 * q_r) + q_i) 480 from mp_in hI (mn_in hI (by with_reducible assumption) (by with_reducible assumption)) (by with_reducible assumption)) dX1_put_189 (fun H locs hS => ?_)
                        have hS : SM D ad ca A s (ms_lies u (upd (m_lies u) ((8 * q_r) + q_i).toNatClampNeg q_x)) H locs := hS
                        refine lv_iconst (v := 1) hx hb dX1_put_190 (by decide) ?_
                        exact EnM.iret E hS (ni_i _) (by first | (simp only [fm_put, if_neg h5, if_neg h13, if_neg h21, if_neg h55, if_pos h63, if_pos h79, if_neg h96, if_neg h114, if_neg h136, if_neg h147, if_neg h169]; done) | (unfold fm_put; rw [if_neg h5, if_neg h13, if_neg h21, if_neg h55, if_pos h63, if_pos h79, if_neg h96, if_neg h114, if_neg h136, if_neg h147, if_neg h169])) dX1_put_191
                      · refine lv_aload_n hx hb dX1_put_172 rfl (lv_at hl 1 rfl) ?_
                        refine lv_iconst (v := 4) hx hb dX1_put_173 (by decide) ?_
                        refine EnM.calli (r := (fm_fails u 4).1) (u2 := (fm_fails u 4).2) E hS [.int 4] [] (kX1_fails l D ad ca g u 4 ) gc_X1_75 hd_X1_fails ⟨Nat.le_of_ble_eq_true rfl, Nat.le_of_ble_eq_true rfl⟩ rfl hl.1 (Nat.le_of_ble_eq_true rfl) ⟨Nat.le_refl 0, Nat.le_refl 0⟩ dX1_put_174 (fun H locs hS => ?_)
                        exact EnM.iret E hS (ni_i _) (by first | (simp only [fm_put, if_neg h5, if_neg h13, if_neg h21, if_neg h55, if_pos h63, if_pos h79, if_neg h96, if_neg h114, if_neg h136, if_neg h147, if_pos h169]; done) | (unfold fm_put; rw [if_neg h5, if_neg h13, if_neg h21, if_neg h55, if_pos h63, if_pos h79, if_neg h96, if_neg h114, if_neg h136, if_neg h147, if_pos h169])) dX1_put_177
                  · refine lv_aload_n hx hb dX1_put_139 rfl (lv_at hl 1 rfl) ?_
                    refine lv_iconst (v := 3) hx hb dX1_put_140 (by decide) ?_
                    refine EnM.calli (r := (fm_fails u 3).1) (u2 := (fm_fails u 3).2) E hS [.int 3] [] (kX1_fails l D ad ca g u 3 ) gc_X1_75 hd_X1_fails ⟨Nat.le_of_ble_eq_true rfl, Nat.le_of_ble_eq_true rfl⟩ rfl hl.1 (Nat.le_of_ble_eq_true rfl) ⟨Nat.le_refl 0, Nat.le_refl 0⟩ dX1_put_141 (fun H locs hS => ?_)
                    exact EnM.iret E hS (ni_i _) (by first | (simp only [fm_put, if_neg h5, if_neg h13, if_neg h21, if_neg h55, if_pos h63, if_pos h79, if_neg h96, if_neg h114, if_pos h136]; done) | (unfold fm_put; rw [if_neg h5, if_neg h13, if_neg h21, if_neg h55, if_pos h63, if_pos h79, if_neg h96, if_neg h114, if_pos h136])) dX1_put_144
                · refine lv_aload_n hx hb dX1_put_117 rfl (lv_at hl 1 rfl) ?_
                  refine lv_iconst (v := 2) hx hb dX1_put_118 (by decide) ?_
                  refine EnM.calli (r := (fm_fails u 2).1) (u2 := (fm_fails u 2).2) E hS [.int 2] [] (kX1_fails l D ad ca g u 2 ) gc_X1_75 hd_X1_fails ⟨Nat.le_of_ble_eq_true rfl, Nat.le_of_ble_eq_true rfl⟩ rfl hl.1 (Nat.le_of_ble_eq_true rfl) ⟨Nat.le_refl 0, Nat.le_refl 0⟩ dX1_put_119 (fun H locs hS => ?_)
                  exact EnM.iret E hS (ni_i _) (by first | (simp only [fm_put, if_neg h5, if_neg h13, if_neg h21, if_neg h55, if_pos h63, if_pos h79, if_neg h96, if_pos h114]; done) | (unfold fm_put; rw [if_neg h5, if_neg h13, if_neg h21, if_neg h55, if_pos h63, if_pos h79, if_neg h96, if_pos h114])) dX1_put_122
            · refine lv_iconst (v := 0) hx hb dX1_put_82 (by decide) ?_
              refine lv_goto (tgt := 92) hx hb dX1_put_83 (by decide) ?_
              refine lv_istore (lv' := [(4, .int 0), (0, .ref (ad 0)), (1, .int q_r), (2, .int q_i), (3, .int q_x)]) hx hb dX1_put_92 hl (by decide) rfl (fun ls hl => ?_)
              refine lv_iload_n hx hb dX1_put_94 rfl (lv_at hl 4 rfl) ?_
              refine lv_iconst (v := (-1)) hx hb dX1_put_95 (by decide) ?_
              refine lv_icmp_eq (tgt := 123) hx hb dX1_put_96 (by decide) (fun h96 => ?_) (fun h96 => ?_)
              · refine lv_iload_n hx hb dX1_put_123 rfl (lv_at hl 3 rfl) ?_
                refine lv_iconst (v := 0) hx hb dX1_put_124 (by decide) ?_
                refine lv_aload_n hx hb dX1_put_125 rfl (lv_at hl 1 rfl) ?_
                refine gM_sizes E hS dX1_put_126 ?_
                refine lv_iload_n hx hb dX1_put_129 rfl (lv_at hl 2 rfl) ?_
                refine lM_sizes (v := m_sizes u (q_r).toNatClampNeg) E hS (show vp_in q_r 60 from by first | with_reducible assumption | (refine mt_in hI ?_; with_reducible assumption) | (refine mn_in hI ?_ ?_ <;> with_reducible assumption) | (refine mb_lt hI ?_; with_reducible assumption) | (refine m6_in hI ?_; with_reducible assumption)) rfl dX1_put_130 ?_
                refine lv_iconst (v := 1) hx hb dX1_put_131 (by decide) ?_
                refine lv_isub hx hb dX1_put_132 ?_
                refine EnM.sti (r := fm_isIn q_i 0 ((m_sizes u (q_r).toNatClampNeg) - 1)) E hS [.int q_i, .int 0, .int ((m_sizes u (q_r).toNatClampNeg) - 1)] [] (kX1_isIn l q_i 0 ((m_sizes u (q_r).toNatClampNeg) - 1) ) (fun _ _ _ _ h => h) (fun _ _ _ => trivial) gc_X1_60 hd_X1_isIn ⟨Nat.le_of_ble_eq_true rfl, Nat.le_of_ble_eq_true rfl⟩ rfl hl.1 (Nat.le_of_ble_eq_true rfl) ⟨Nat.le_refl 0, Nat.le_refl 0⟩ dX1_put_133 (fun H locs hS => ?_)
                refine lv_if_ne (tgt := 145) hx hb dX1_put_136 (by decide) (fun h136 => ?_) (fun h136 => ?_)
                · refine lv_iload_n hx hb dX1_put_145 rfl (lv_at hl 4 rfl) ?_
                  refine lv_iconst (v := (-1)) hx hb dX1_put_146 (by decide) ?_
                  refine lv_icmp_eq (tgt := 178) hx hb dX1_put_147 (by decide) (fun h147 => ?_) (fun h147 => ?_)
                  · refine lv_aload_n hx hb dX1_put_178 rfl (lv_at hl 1 rfl) ?_
                    refine gM_lies E hS dX1_put_179 ?_
                    refine lv_bipush (v := 8) hx hb dX1_put_182 (by decide) ?_
                    refine lv_iload_n hx hb dX1_put_184 rfl (lv_at hl 2 rfl) ?_
                    refine lv_imul hx hb dX1_put_185 ?_
                    refine lv_iload_n hx hb dX1_put_186 rfl (lv_at hl 3 rfl) ?_
                    refine lv_iadd hx hb dX1_put_187 ?_
                    refine lv_iload_n hx hb dX1_put_188 rfl (lv_at hl 4 rfl) ?_
                    refine sM_lies E hS (show vp_in ((8 * q_r) + q_i) 480 from mp_in hI (mn_in hI (by with_reducible assumption) (by with_reducible assumption)) (by with_reducible assumption)) dX1_put_189 (fun H locs hS => ?_)
                    have hS : SM D ad ca A s (ms_lies u (upd (m_lies u) ((8 * q_r) + q_i).toNatClampNeg q_x)) H locs := hS
                    refine lv_iconst (v := 1) hx hb dX1_put_190 (by decide) ?_
                    exact EnM.iret E hS (ni_i _) (by first | (simp only [fm_put, if_neg h5, if_neg h13, if_neg h21, if_neg h55, if_pos h63, if_neg h79, if_pos h96, if_neg h136, if_pos h147]; done) | (unfold fm_put; rw [if_neg h5, if_neg h13, if_neg h21, if_neg h55, if_pos h63, if_neg h79, if_pos h96, if_neg h136, if_pos h147])) dX1_put_191
                  · refine lv_aload_n hx hb dX1_put_150 rfl (lv_at hl 1 rfl) ?_
                    refine lv_iload_n hx hb dX1_put_151 rfl (lv_at hl 4 rfl) ?_
                    refine lv_aload_n hx hb dX1_put_152 rfl (lv_at hl 1 rfl) ?_
                    refine gM_bases E hS dX1_put_153 ?_
                    refine lv_iload_n hx hb dX1_put_156 rfl (lv_at hl 2 rfl) ?_
                    refine lM_bases (v := m_bases u (q_r).toNatClampNeg) E hS (show vp_in q_r 60 from by first | with_reducible assumption | (refine mt_in hI ?_; with_reducible assumption) | (refine mn_in hI ?_ ?_ <;> with_reducible assumption) | (refine mb_lt hI ?_; with_reducible assumption) | (refine m6_in hI ?_; with_reducible assumption)) rfl dX1_put_157 ?_
                    refine lv_aload_n hx hb dX1_put_158 rfl (lv_at hl 1 rfl) ?_
                    refine gM_depths E hS dX1_put_159 ?_
                    refine lv_iload_n hx hb dX1_put_162 rfl (lv_at hl 2 rfl) ?_
                    refine lM_depths (v := m_depths u (q_r).toNatClampNeg) E hS (show vp_in q_r 60 from by first | with_reducible assumption | (refine mt_in hI ?_; with_reducible assumption) | (refine mn_in hI ?_ ?_ <;> with_reducible assumption) | (refine mb_lt hI ?_; with_reducible assumption) | (refine m6_in hI ?_; with_reducible assumption)) rfl dX1_put_163 ?_
                    refine lv_iconst (v := 1) hx hb dX1_put_164 (by decide) ?_
                    refine lv_isub hx hb dX1_put_165 ?_
                    refine EnM.calli (r := fm_isSuch u q_x (m_bases u (q_r).toNatClampNeg) ((m_depths u (q_r).toNatClampNeg) - 1)) (u2 := u) E hS [.int q_x, .int (m_bases u (q_r).toNatClampNeg), .int ((m_depths u (q_r).toNatClampNeg) - 1)] [] (kX1_isSuch l D ad ca g u q_x (m_bases u (q_r).toNatClampNeg) ((m_depths u (q_r).toNatClampNeg) - 1) (by first | with_reducible assumption | (refine mt_in hI ?_; with_reducible assumption) | (refine mn_in hI ?_ ?_ <;> with_reducible assumption) | (refine mb_lt hI ?_; with_reducible assumption) | (refine m6_in hI ?_; with_reducible assumption))) gc_X1_83 hd_X1_isSuch ⟨Nat.le_of_ble_eq_true rfl, Nat.le_of_ble_eq_true rfl⟩ rfl hl.1 (Nat.le_of_ble_eq_true rfl) ⟨Nat.le_refl 0, Nat.le_refl 0⟩ dX1_put_166 (fun H locs hS => ?_)
                    refine lv_if_ne (tgt := 178) hx hb dX1_put_169 (by decide) (fun h169 => ?_) (fun h169 => ?_)
                    · refine lv_aload_n hx hb dX1_put_178 rfl (lv_at hl 1 rfl) ?_
                      refine gM_lies E hS dX1_put_179 ?_
                      refine lv_bipush (v := 8) hx hb dX1_put_182 (by decide) ?_
                      refine lv_iload_n hx hb dX1_put_184 rfl (lv_at hl 2 rfl) ?_
                      refine lv_imul hx hb dX1_put_185 ?_
                      refine lv_iload_n hx hb dX1_put_186 rfl (lv_at hl 3 rfl) ?_
                      refine lv_iadd hx hb dX1_put_187 ?_
                      refine lv_iload_n hx hb dX1_put_188 rfl (lv_at hl 4 rfl) ?_
                      refine sM_lies E hS (show vp_in ((8 * q_r) + q_i) 480 from mp_in hI (mn_in hI (by with_reducible assumption) (by with_reducible assumption)) (by with_reducible assumption)) dX1_put_189 (fun H locs hS => ?_)
                      have hS : SM D ad ca A s (ms_lies u (upd (m_lies u) ((8 * q_r) + q_i).toNatClampNeg q_x)) H locs := hS
                      refine lv_iconst (v := 1) hx hb dX1_put_190 (by decide) ?_
                      exact EnM.iret E hS (ni_i _) (by first | (simp only [fm_put, if_neg h5, if_neg h13, if_neg h21, if_neg h55, if_pos h63, if_neg h79, if_pos h96, if_neg h136, if_neg h147, if_neg h169]; done) | (unfold fm_put; rw [if_neg h5, if_neg h13, if_neg h21, if_neg h55, if_pos h63, if_neg h79, if_pos h96, if_neg h136, if_neg h147, if_neg h169])) dX1_put_191
                    · refine lv_aload_n hx hb dX1_put_172 rfl (lv_at hl 1 rfl) ?_
                      refine lv_iconst (v := 4) hx hb dX1_put_173 (by decide) ?_
                      refine EnM.calli (r := (fm_fails u 4).1) (u2 := (fm_fails u 4).2) E hS [.int 4] [] (kX1_fails l D ad ca g u 4 ) gc_X1_75 hd_X1_fails ⟨Nat.le_of_ble_eq_true rfl, Nat.le_of_ble_eq_true rfl⟩ rfl hl.1 (Nat.le_of_ble_eq_true rfl) ⟨Nat.le_refl 0, Nat.le_refl 0⟩ dX1_put_174 (fun H locs hS => ?_)
                      exact EnM.iret E hS (ni_i _) (by first | (simp only [fm_put, if_neg h5, if_neg h13, if_neg h21, if_neg h55, if_pos h63, if_neg h79, if_pos h96, if_neg h136, if_neg h147, if_pos h169]; done) | (unfold fm_put; rw [if_neg h5, if_neg h13, if_neg h21, if_neg h55, if_pos h63, if_neg h79, if_pos h96, if_neg h136, if_neg h147, if_pos h169])) dX1_put_177
                · refine lv_aload_n hx hb dX1_put_139 rfl (lv_at hl 1 rfl) ?_
                  refine lv_iconst (v := 3) hx hb dX1_put_140 (by decide) ?_
                  refine EnM.calli (r := (fm_fails u 3).1) (u2 := (fm_fails u 3).2) E hS [.int 3] [] (kX1_fails l D ad ca g u 3 ) gc_X1_75 hd_X1_fails ⟨Nat.le_of_ble_eq_true rfl, Nat.le_of_ble_eq_true rfl⟩ rfl hl.1 (Nat.le_of_ble_eq_true rfl) ⟨Nat.le_refl 0, Nat.le_refl 0⟩ dX1_put_141 (fun H locs hS => ?_)
                  exact EnM.iret E hS (ni_i _) (by first | (simp only [fm_put, if_neg h5, if_neg h13, if_neg h21, if_neg h55, if_pos h63, if_neg h79, if_pos h96, if_pos h136]; done) | (unfold fm_put; rw [if_neg h5, if_neg h13, if_neg h21, if_neg h55, if_pos h63, if_neg h79, if_pos h96, if_pos h136])) dX1_put_144
              · refine lv_aload_n hx hb dX1_put_99 rfl (lv_at hl 1 rfl) ?_
                refine lv_iload_n hx hb dX1_put_100 rfl (lv_at hl 4 rfl) ?_
                refine lv_iload hx hb dX1_put_101 (lv_at hl 0 rfl) ?_
                refine lv_aload_n hx hb dX1_put_103 rfl (lv_at hl 1 rfl) ?_
                refine gM_depths E hS dX1_put_104 ?_
                refine lv_iload_n hx hb dX1_put_107 rfl (lv_at hl 2 rfl) ?_
                refine lM_depths (v := m_depths u (q_r).toNatClampNeg) E hS (show vp_in q_r 60 from by first | with_reducible assumption | (refine mt_in hI ?_; with_reducible assumption) | (refine mn_in hI ?_ ?_ <;> with_reducible assumption) | (refine mb_lt hI ?_; with_reducible assumption) | (refine m6_in hI ?_; with_reducible assumption)) rfl dX1_put_108 ?_
                refine lv_iconst (v := 1) hx hb dX1_put_109 (by decide) ?_
                refine lv_isub hx hb dX1_put_110 ?_
                refine EnM.calli (r := fm_isSuch u q_x 0 ((m_depths u (q_r).toNatClampNeg) - 1)) (u2 := u) E hS [.int q_x, .int 0, .int ((m_depths u (q_r).toNatClampNeg) - 1)] [] (kX1_isSuch l D ad ca g u q_x 0 ((m_depths u (q_r).toNatClampNeg) - 1) (by first | with_reducible assumption | (refine mt_in hI ?_; with_reducible assumption) | (refine mn_in hI ?_ ?_ <;> with_reducible assumption) | (refine mb_lt hI ?_; with_reducible assumption) | (refine m6_in hI ?_; with_reducible assumption))) gc_X1_83 hd_X1_isSuch ⟨Nat.le_of_ble_eq_true rfl, Nat.le_of_ble_eq_true rfl⟩ rfl hl.1 (Nat.le_of_ble_eq_true rfl) ⟨Nat.le_refl 0, Nat.le_refl 0⟩ dX1_put_111 (fun H locs hS => ?_)
                refine lv_if_ne (tgt := 123) hx hb dX1_put_114 (by decide) (fun h114 => ?_) (fun h114 => ?_)
                · refine lv_iload_n hx hb dX1_put_123 rfl (lv_at hl 3 rfl) ?_
                  refine lv_iconst (v := 0) hx hb dX1_put_124 (by decide) ?_
                  refine lv_aload_n hx hb dX1_put_125 rfl (lv_at hl 1 rfl) ?_
                  refine gM_sizes E hS dX1_put_126 ?_
                  refine lv_iload_n hx hb dX1_put_129 rfl (lv_at hl 2 rfl) ?_
                  refine lM_sizes (v := m_sizes u (q_r).toNatClampNeg) E hS (show vp_in q_r 60 from by first | with_reducible assumption | (refine mt_in hI ?_; with_reducible assumption) | (refine mn_in hI ?_ ?_ <;> with_reducible assumption) | (refine mb_lt hI ?_; with_reducible assumption) | (refine m6_in hI ?_; with_reducible assumption)) rfl dX1_put_130 ?_
                  refine lv_iconst (v := 1) hx hb dX1_put_131 (by decide) ?_
                  refine lv_isub hx hb dX1_put_132 ?_
                  refine EnM.sti (r := fm_isIn q_i 0 ((m_sizes u (q_r).toNatClampNeg) - 1)) E hS [.int q_i, .int 0, .int ((m_sizes u (q_r).toNatClampNeg) - 1)] [] (kX1_isIn l q_i 0 ((m_sizes u (q_r).toNatClampNeg) - 1) ) (fun _ _ _ _ h => h) (fun _ _ _ => trivial) gc_X1_60 hd_X1_isIn ⟨Nat.le_of_ble_eq_true rfl, Nat.le_of_ble_eq_true rfl⟩ rfl hl.1 (Nat.le_of_ble_eq_true rfl) ⟨Nat.le_refl 0, Nat.le_refl 0⟩ dX1_put_133 (fun H locs hS => ?_)
                  refine lv_if_ne (tgt := 145) hx hb dX1_put_136 (by decide) (fun h136 => ?_) (fun h136 => ?_)
                  · refine lv_iload_n hx hb dX1_put_145 rfl (lv_at hl 4 rfl) ?_
                    refine lv_iconst (v := (-1)) hx hb dX1_put_146 (by decide) ?_
                    refine lv_icmp_eq (tgt := 178) hx hb dX1_put_147 (by decide) (fun h147 => ?_) (fun h147 => ?_)
                    · refine lv_aload_n hx hb dX1_put_178 rfl (lv_at hl 1 rfl) ?_
                      refine gM_lies E hS dX1_put_179 ?_
                      refine lv_bipush (v := 8) hx hb dX1_put_182 (by decide) ?_
                      refine lv_iload_n hx hb dX1_put_184 rfl (lv_at hl 2 rfl) ?_
                      refine lv_imul hx hb dX1_put_185 ?_
                      refine lv_iload_n hx hb dX1_put_186 rfl (lv_at hl 3 rfl) ?_
                      refine lv_iadd hx hb dX1_put_187 ?_
                      refine lv_iload_n hx hb dX1_put_188 rfl (lv_at hl 4 rfl) ?_
                      refine sM_lies E hS (show vp_in ((8 * q_r) + q_i) 480 from mp_in hI (mn_in hI (by with_reducible assumption) (by with_reducible assumption)) (by with_reducible assumption)) dX1_put_189 (fun H locs hS => ?_)
                      have hS : SM D ad ca A s (ms_lies u (upd (m_lies u) ((8 * q_r) + q_i).toNatClampNeg q_x)) H locs := hS
                      refine lv_iconst (v := 1) hx hb dX1_put_190 (by decide) ?_
                      exact EnM.iret E hS (ni_i _) (by first | (simp only [fm_put, if_neg h5, if_neg h13, if_neg h21, if_neg h55, if_pos h63, if_neg h79, if_neg h96, if_neg h114, if_neg h136, if_pos h147]; done) | (unfold fm_put; rw [if_neg h5, if_neg h13, if_neg h21, if_neg h55, if_pos h63, if_neg h79, if_neg h96, if_neg h114, if_neg h136, if_pos h147])) dX1_put_191
                    · refine lv_aload_n hx hb dX1_put_150 rfl (lv_at hl 1 rfl) ?_
                      refine lv_iload_n hx hb dX1_put_151 rfl (lv_at hl 4 rfl) ?_
                      refine lv_aload_n hx hb dX1_put_152 rfl (lv_at hl 1 rfl) ?_
                      refine gM_bases E hS dX1_put_153 ?_
                      refine lv_iload_n hx hb dX1_put_156 rfl (lv_at hl 2 rfl) ?_
                      refine lM_bases (v := m_bases u (q_r).toNatClampNeg) E hS (show vp_in q_r 60 from by first | with_reducible assumption | (refine mt_in hI ?_; with_reducible assumption) | (refine mn_in hI ?_ ?_ <;> with_reducible assumption) | (refine mb_lt hI ?_; with_reducible assumption) | (refine m6_in hI ?_; with_reducible assumption)) rfl dX1_put_157 ?_
                      refine lv_aload_n hx hb dX1_put_158 rfl (lv_at hl 1 rfl) ?_
                      refine gM_depths E hS dX1_put_159 ?_
                      refine lv_iload_n hx hb dX1_put_162 rfl (lv_at hl 2 rfl) ?_
                      refine lM_depths (v := m_depths u (q_r).toNatClampNeg) E hS (show vp_in q_r 60 from by first | with_reducible assumption | (refine mt_in hI ?_; with_reducible assumption) | (refine mn_in hI ?_ ?_ <;> with_reducible assumption) | (refine mb_lt hI ?_; with_reducible assumption) | (refine m6_in hI ?_; with_reducible assumption)) rfl dX1_put_163 ?_
                      refine lv_iconst (v := 1) hx hb dX1_put_164 (by decide) ?_
                      refine lv_isub hx hb dX1_put_165 ?_
                      refine EnM.calli (r := fm_isSuch u q_x (m_bases u (q_r).toNatClampNeg) ((m_depths u (q_r).toNatClampNeg) - 1)) (u2 := u) E hS [.int q_x, .int (m_bases u (q_r).toNatClampNeg), .int ((m_depths u (q_r).toNatClampNeg) - 1)] [] (kX1_isSuch l D ad ca g u q_x (m_bases u (q_r).toNatClampNeg) ((m_depths u (q_r).toNatClampNeg) - 1) (by first | with_reducible assumption | (refine mt_in hI ?_; with_reducible assumption) | (refine mn_in hI ?_ ?_ <;> with_reducible assumption) | (refine mb_lt hI ?_; with_reducible assumption) | (refine m6_in hI ?_; with_reducible assumption))) gc_X1_83 hd_X1_isSuch ⟨Nat.le_of_ble_eq_true rfl, Nat.le_of_ble_eq_true rfl⟩ rfl hl.1 (Nat.le_of_ble_eq_true rfl) ⟨Nat.le_refl 0, Nat.le_refl 0⟩ dX1_put_166 (fun H locs hS => ?_)
                      refine lv_if_ne (tgt := 178) hx hb dX1_put_169 (by decide) (fun h169 => ?_) (fun h169 => ?_)
                      · refine lv_aload_n hx hb dX1_put_178 rfl (lv_at hl 1 rfl) ?_
                        refine gM_lies E hS dX1_put_179 ?_
                        refine lv_bipush (v := 8) hx hb dX1_put_182 (by decide) ?_
                        refine lv_iload_n hx hb dX1_put_184 rfl (lv_at hl 2 rfl) ?_
                        refine lv_imul hx hb dX1_put_185 ?_
                        refine lv_iload_n hx hb dX1_put_186 rfl (lv_at hl 3 rfl) ?_
                        refine lv_iadd hx hb dX1_put_187 ?_
                        refine lv_iload_n hx hb dX1_put_188 rfl (lv_at hl 4 rfl) ?_
                        refine sM_lies E hS (show vp_in ((8 * q_r) + q_i) 480 from mp_in hI (mn_in hI (by with_reducible assumption) (by with_reducible assumption)) (by with_reducible assumption)) dX1_put_189 (fun H locs hS => ?_)
                        have hS : SM D ad ca A s (ms_lies u (upd (m_lies u) ((8 * q_r) + q_i).toNatClampNeg q_x)) H locs := hS
                        refine lv_iconst (v := 1) hx hb dX1_put_190 (by decide) ?_
                        exact EnM.iret E hS (ni_i _) (by first | (simp only [fm_put, if_neg h5, if_neg h13, if_neg h21, if_neg h55, if_pos h63, if_neg h79, if_neg h96, if_neg h114, if_neg h136, if_neg h147, if_neg h169]; done) | (unfold fm_put; rw [if_neg h5, if_neg h13, if_neg h21, if_neg h55, if_pos h63, if_neg h79, if_neg h96, if_neg h114, if_neg h136, if_neg h147, if_neg h169])) dX1_put_191
                      · refine lv_aload_n hx hb dX1_put_172 rfl (lv_at hl 1 rfl) ?_
                        refine lv_iconst (v := 4) hx hb dX1_put_173 (by decide) ?_
                        refine EnM.calli (r := (fm_fails u 4).1) (u2 := (fm_fails u 4).2) E hS [.int 4] [] (kX1_fails l D ad ca g u 4 ) gc_X1_75 hd_X1_fails ⟨Nat.le_of_ble_eq_true rfl, Nat.le_of_ble_eq_true rfl⟩ rfl hl.1 (Nat.le_of_ble_eq_true rfl) ⟨Nat.le_refl 0, Nat.le_refl 0⟩ dX1_put_174 (fun H locs hS => ?_)
                        exact EnM.iret E hS (ni_i _) (by first | (simp only [fm_put, if_neg h5, if_neg h13, if_neg h21, if_neg h55, if_pos h63, if_neg h79, if_neg h96, if_neg h114, if_neg h136, if_neg h147, if_pos h169]; done) | (unfold fm_put; rw [if_neg h5, if_neg h13, if_neg h21, if_neg h55, if_pos h63, if_neg h79, if_neg h96, if_neg h114, if_neg h136, if_neg h147, if_pos h169])) dX1_put_177
                  · refine lv_aload_n hx hb dX1_put_139 rfl (lv_at hl 1 rfl) ?_
                    refine lv_iconst (v := 3) hx hb dX1_put_140 (by decide) ?_
                    refine EnM.calli (r := (fm_fails u 3).1) (u2 := (fm_fails u 3).2) E hS [.int 3] [] (kX1_fails l D ad ca g u 3 ) gc_X1_75 hd_X1_fails ⟨Nat.le_of_ble_eq_true rfl, Nat.le_of_ble_eq_true rfl⟩ rfl hl.1 (Nat.le_of_ble_eq_true rfl) ⟨Nat.le_refl 0, Nat.le_refl 0⟩ dX1_put_141 (fun H locs hS => ?_)
                    exact EnM.iret E hS (ni_i _) (by first | (simp only [fm_put, if_neg h5, if_neg h13, if_neg h21, if_neg h55, if_pos h63, if_neg h79, if_neg h96, if_neg h114, if_pos h136]; done) | (unfold fm_put; rw [if_neg h5, if_neg h13, if_neg h21, if_neg h55, if_pos h63, if_neg h79, if_neg h96, if_neg h114, if_pos h136])) dX1_put_144
                · refine lv_aload_n hx hb dX1_put_117 rfl (lv_at hl 1 rfl) ?_
                  refine lv_iconst (v := 2) hx hb dX1_put_118 (by decide) ?_
                  refine EnM.calli (r := (fm_fails u 2).1) (u2 := (fm_fails u 2).2) E hS [.int 2] [] (kX1_fails l D ad ca g u 2 ) gc_X1_75 hd_X1_fails ⟨Nat.le_of_ble_eq_true rfl, Nat.le_of_ble_eq_true rfl⟩ rfl hl.1 (Nat.le_of_ble_eq_true rfl) ⟨Nat.le_refl 0, Nat.le_refl 0⟩ dX1_put_119 (fun H locs hS => ?_)
                  exact EnM.iret E hS (ni_i _) (by first | (simp only [fm_put, if_neg h5, if_neg h13, if_neg h21, if_neg h55, if_pos h63, if_neg h79, if_neg h96, if_pos h114]; done) | (unfold fm_put; rw [if_neg h5, if_neg h13, if_neg h21, if_neg h55, if_pos h63, if_neg h79, if_neg h96, if_pos h114])) dX1_put_122
          · refine lv_aload_n hx hb dX1_put_66 rfl (lv_at hl 0 rfl) ?_
            refine lv_iconst (v := 2) hx hb dX1_put_67 (by decide) ?_
            refine EnM.calli (r := (fm_fails u 2).1) (u2 := (fm_fails u 2).2) E hS [.int 2] [] (kX1_fails l D ad ca g u 2 ) gc_X1_75 hd_X1_fails ⟨Nat.le_of_ble_eq_true rfl, Nat.le_of_ble_eq_true rfl⟩ rfl hl.1 (Nat.le_of_ble_eq_true rfl) ⟨Nat.le_refl 0, Nat.le_refl 0⟩ dX1_put_68 (fun H locs hS => ?_)
            exact EnM.iret E hS (ni_i _) (by first | (simp only [fm_put, if_neg h5, if_neg h13, if_neg h21, if_neg h55, if_neg h63]; done) | (unfold fm_put; rw [if_neg h5, if_neg h13, if_neg h21, if_neg h55, if_neg h63])) dX1_put_71
      · refine lv_aload_n hx hb dX1_put_24 rfl (lv_at hl 0 rfl) ?_
        refine lv_iload_n hx hb dX1_put_25 rfl (lv_at hl 3 rfl) ?_
        refine lv_iconst (v := (-1)) hx hb dX1_put_26 (by decide) ?_
        refine lv_icmp_eq (tgt := 44) hx hb dX1_put_27 (by decide) (fun h27 => ?_) (fun h27 => ?_)
        · refine lv_iconst (v := 1) hx hb dX1_put_44 (by decide) ?_
          refine EnM.calli (r := (fm_fails u 1).1) (u2 := (fm_fails u 1).2) E hS [.int 1] [] (kX1_fails l D ad ca g u 1 ) gc_X1_75 hd_X1_fails ⟨Nat.le_of_ble_eq_true rfl, Nat.le_of_ble_eq_true rfl⟩ rfl hl.1 (Nat.le_of_ble_eq_true rfl) ⟨Nat.le_refl 0, Nat.le_refl 0⟩ dX1_put_45 (fun H locs hS => ?_)
          exact EnM.iret E hS (ni_i _) (by first | (simp only [fm_put, if_neg h5, if_neg h13, if_pos h21, if_pos h27]; done) | (unfold fm_put; rw [if_neg h5, if_neg h13, if_pos h21, if_pos h27])) dX1_put_48
        · refine lv_aload_n hx hb dX1_put_30 rfl (lv_at hl 0 rfl) ?_
          refine lv_iload_n hx hb dX1_put_31 rfl (lv_at hl 3 rfl) ?_
          refine lv_iconst (v := 0) hx hb dX1_put_32 (by decide) ?_
          refine lv_iconst (v := 0) hx hb dX1_put_33 (by decide) ?_
          refine EnM.calli (r := fm_isSuch u q_x 0 0) (u2 := u) E hS [.int q_x, .int 0, .int 0] [.ref (ad 0)] (kX1_isSuch l D ad ca g u q_x 0 0 (by first | with_reducible assumption | (refine mt_in hI ?_; with_reducible assumption) | (refine mn_in hI ?_ ?_ <;> with_reducible assumption) | (refine mb_lt hI ?_; with_reducible assumption) | (refine m6_in hI ?_; with_reducible assumption))) gc_X1_83 hd_X1_isSuch ⟨Nat.le_of_ble_eq_true rfl, Nat.le_of_ble_eq_true rfl⟩ rfl hl.1 (Nat.le_of_ble_eq_true rfl) ⟨Nat.le_refl 0, Nat.le_refl 0⟩ dX1_put_34 (fun H locs hS => ?_)
          refine lv_if_ne (tgt := 44) hx hb dX1_put_37 (by decide) (fun h37 => ?_) (fun h37 => ?_)
          · refine lv_iconst (v := 1) hx hb dX1_put_44 (by decide) ?_
            refine EnM.calli (r := (fm_fails u 1).1) (u2 := (fm_fails u 1).2) E hS [.int 1] [] (kX1_fails l D ad ca g u 1 ) gc_X1_75 hd_X1_fails ⟨Nat.le_of_ble_eq_true rfl, Nat.le_of_ble_eq_true rfl⟩ rfl hl.1 (Nat.le_of_ble_eq_true rfl) ⟨Nat.le_refl 0, Nat.le_refl 0⟩ dX1_put_45 (fun H locs hS => ?_)
            exact EnM.iret E hS (ni_i _) (by first | (simp only [fm_put, if_neg h5, if_neg h13, if_pos h21, if_neg h27, if_neg h37]; done) | (unfold fm_put; rw [if_neg h5, if_neg h13, if_pos h21, if_neg h27, if_neg h37])) dX1_put_48
          · refine lv_iconst (v := 2) hx hb dX1_put_40 (by decide) ?_
            refine lv_goto (tgt := 45) hx hb dX1_put_41 (by decide) ?_
            refine EnM.calli (r := (fm_fails u 2).1) (u2 := (fm_fails u 2).2) E hS [.int 2] [] (kX1_fails l D ad ca g u 2 ) gc_X1_75 hd_X1_fails ⟨Nat.le_of_ble_eq_true rfl, Nat.le_of_ble_eq_true rfl⟩ rfl hl.1 (Nat.le_of_ble_eq_true rfl) ⟨Nat.le_refl 0, Nat.le_refl 0⟩ dX1_put_45 (fun H locs hS => ?_)
            exact EnM.iret E hS (ni_i _) (by first | (simp only [fm_put, if_neg h5, if_neg h13, if_pos h21, if_neg h27, if_pos h37]; done) | (unfold fm_put; rw [if_neg h5, if_neg h13, if_pos h21, if_neg h27, if_pos h37])) dX1_put_48
    · refine lv_bipush (v := (-2)) hx hb dX1_put_16 (by decide) ?_
      exact EnM.iret E hS (ni_i _) (by first | (simp only [fm_put, if_neg h5, if_pos h13]; done) | (unfold fm_put; rw [if_neg h5, if_pos h13])) dX1_put_18
def fm_get (u : MS) (q_r : Int32) (q_i : Int32) : Int32 × MS := if (fm_mayBe u q_r) = 0 then ((-2), u) else (if q_r = (-1) then ((fm_fails u 1).1, (fm_fails u 1).2) else (if (m_depths u (q_r).toNatClampNeg) = 0 then ((fm_fails u 2).1, (fm_fails u 2).2) else (if (fm_isLedger u q_r) = 0 then (if (fm_isIn q_i 0 ((m_sizes u (q_r).toNatClampNeg) - 1)) = 0 then ((fm_fails u 3).1, (fm_fails u 3).2) else (m_lies u ((8 * q_r) + q_i).toNatClampNeg, u)) else ((fm_fails u 2).1, (fm_fails u 2).2))))
theorem hd_X1_get : yX1_get.cls = RX1 ∧ yX1_get.cls ≠ "java/lang/invoke/MethodHandle" ∧ yX1_get.cls ≠ "java/lang/invoke/VarHandle" ∧ (parseMethodDescriptor yX1_get.desc).map (fun d => d.parameters.length) = some 2 := by decide +kernel
set_option maxRecDepth 100000 in
set_option maxHeartbeats 4000000 in
theorem kX1_get (l : Launch) (D : va_G) (ad : Nat → Nat) (ca : Nat → ClassId) (g : Nat) (u : MS) (q_r : Int32) (q_i : Int32) (hI : MI u) : CiM l yX1_get cX1_get 3 .int 3 D ad ca g [.int q_r, .int q_i] u (fm_get u q_r q_i) := by
  refine CiM.of (by decide) rfl (Nat.le_of_ble_eq_true rfl) ?_
  intro p e s m below meth c A ls E hS hl
  have hx := E.1.1
  have hb := E.1.2.1
  have hml := E.1.2.2.1
  have hown := E.1.2.2.2.1
  have hts := E.1.2.2.2.2
  have hl : lv_has ls 3 [(0, .ref (ad 0)), (1, .int q_r), (2, .int q_i)] := hl
  refine lv_aload_n hx hb dX1_get_0 rfl (lv_at hl 0 rfl) ?_
  refine lv_iload_n hx hb dX1_get_1 rfl (lv_at hl 1 rfl) ?_
  refine EnM.calli (r := fm_mayBe u q_r) (u2 := u) E hS [.int q_r] [] (kX1_mayBe l D ad ca g u q_r ) gc_X1_79 hd_X1_mayBe ⟨Nat.le_of_ble_eq_true rfl, Nat.le_of_ble_eq_true rfl⟩ rfl hl.1 (Nat.le_of_ble_eq_true rfl) ⟨Nat.le_refl 0, Nat.le_refl 0⟩ dX1_get_2 (fun H locs hS => ?_)
  refine lv_if_ne (tgt := 11) hx hb dX1_get_5 (by decide) (fun h5 => ?_) (fun h5 => ?_)
  · refine lv_iload_n hx hb dX1_get_11 rfl (lv_at hl 1 rfl) ?_
    refine lv_iconst (v := (-1)) hx hb dX1_get_12 (by decide) ?_
    refine lv_icmp_ne (tgt := 22) hx hb dX1_get_13 (by decide) (fun h13 => ?_) (fun h13 => ?_)
    · refine lv_aload_n hx hb dX1_get_22 rfl (lv_at hl 0 rfl) ?_
      refine gM_depths E hS dX1_get_23 ?_
      refine lv_iload_n hx hb dX1_get_26 rfl (lv_at hl 1 rfl) ?_
      refine lM_depths (v := m_depths u (q_r).toNatClampNeg) E hS (show vp_in q_r 60 from by first | with_reducible assumption | (refine mt_in hI ?_; with_reducible assumption) | (refine mn_in hI ?_ ?_ <;> with_reducible assumption) | (refine mb_lt hI ?_; with_reducible assumption) | (refine m6_in hI ?_; with_reducible assumption)) rfl dX1_get_27 ?_
      refine lv_if_eq (tgt := 39) hx hb dX1_get_28 (by decide) (fun h28 => ?_) (fun h28 => ?_)
      · refine lv_aload_n hx hb dX1_get_39 rfl (lv_at hl 0 rfl) ?_
        refine lv_iconst (v := 2) hx hb dX1_get_40 (by decide) ?_
        refine EnM.calli (r := (fm_fails u 2).1) (u2 := (fm_fails u 2).2) E hS [.int 2] [] (kX1_fails l D ad ca g u 2 ) gc_X1_75 hd_X1_fails ⟨Nat.le_of_ble_eq_true rfl, Nat.le_of_ble_eq_true rfl⟩ rfl hl.1 (Nat.le_of_ble_eq_true rfl) ⟨Nat.le_refl 0, Nat.le_refl 0⟩ dX1_get_41 (fun H locs hS => ?_)
        exact EnM.iret E hS (ni_i _) (by first | (simp only [fm_get, if_neg h5, if_neg h13, if_pos h28]; done) | (unfold fm_get; rw [if_neg h5, if_neg h13, if_pos h28])) dX1_get_44
      · refine lv_aload_n hx hb dX1_get_31 rfl (lv_at hl 0 rfl) ?_
        refine lv_iload_n hx hb dX1_get_32 rfl (lv_at hl 1 rfl) ?_
        refine EnM.calli (r := fm_isLedger u q_r) (u2 := u) E hS [.int q_r] [] (kX1_isLedger l D ad ca g u q_r (by first | with_reducible assumption | (refine mt_in hI ?_; with_reducible assumption) | (refine mn_in hI ?_ ?_ <;> with_reducible assumption) | (refine mb_lt hI ?_; with_reducible assumption) | (refine m6_in hI ?_; with_reducible assumption))) gc_X1_86 hd_X1_isLedger ⟨Nat.le_of_ble_eq_true rfl, Nat.le_of_ble_eq_true rfl⟩ rfl hl.1 (Nat.le_of_ble_eq_true rfl) ⟨Nat.le_refl 0, Nat.le_refl 0⟩ dX1_get_33 (fun H locs hS => ?_)
        refine lv_if_eq (tgt := 45) hx hb dX1_get_36 (by decide) (fun h36 => ?_) (fun h36 => ?_)
        · refine lv_iload_n hx hb dX1_get_45 rfl (lv_at hl 2 rfl) ?_
          refine lv_iconst (v := 0) hx hb dX1_get_46 (by decide) ?_
          refine lv_aload_n hx hb dX1_get_47 rfl (lv_at hl 0 rfl) ?_
          refine gM_sizes E hS dX1_get_48 ?_
          refine lv_iload_n hx hb dX1_get_51 rfl (lv_at hl 1 rfl) ?_
          refine lM_sizes (v := m_sizes u (q_r).toNatClampNeg) E hS (show vp_in q_r 60 from by first | with_reducible assumption | (refine mt_in hI ?_; with_reducible assumption) | (refine mn_in hI ?_ ?_ <;> with_reducible assumption) | (refine mb_lt hI ?_; with_reducible assumption) | (refine m6_in hI ?_; with_reducible assumption)) rfl dX1_get_52 ?_
          refine lv_iconst (v := 1) hx hb dX1_get_53 (by decide) ?_
          refine lv_isub hx hb dX1_get_54 ?_
          refine EnM.sti (r := fm_isIn q_i 0 ((m_sizes u (q_r).toNatClampNeg) - 1)) E hS [.int q_i, .int 0, .int ((m_sizes u (q_r).toNatClampNeg) - 1)] [] (kX1_isIn l q_i 0 ((m_sizes u (q_r).toNatClampNeg) - 1) ) (fun _ _ _ _ h => h) (fun _ _ _ => trivial) gc_X1_60 hd_X1_isIn ⟨Nat.le_of_ble_eq_true rfl, Nat.le_of_ble_eq_true rfl⟩ rfl hl.1 (Nat.le_of_ble_eq_true rfl) ⟨Nat.le_refl 0, Nat.le_refl 0⟩ dX1_get_55 (fun H locs hS => ?_)
          refine lv_if_eq (tgt := 75) hx hb dX1_get_58 (by decide) (fun h58 => ?_) (fun h58 => ?_)
          · refine lv_aload_n hx hb dX1_get_75 rfl (lv_at hl 0 rfl) ?_
            refine lv_iconst (v := 3) hx hb dX1_get_76 (by decide) ?_
            refine EnM.calli (r := (fm_fails u 3).1) (u2 := (fm_fails u 3).2) E hS [.int 3] [] (kX1_fails l D ad ca g u 3 ) gc_X1_75 hd_X1_fails ⟨Nat.le_of_ble_eq_true rfl, Nat.le_of_ble_eq_true rfl⟩ rfl hl.1 (Nat.le_of_ble_eq_true rfl) ⟨Nat.le_refl 0, Nat.le_refl 0⟩ dX1_get_77 (fun H locs hS => ?_)
            exact EnM.iret E hS (ni_i _) (by first | (simp only [fm_get, if_neg h5, if_neg h13, if_neg h28, if_pos h36, if_pos h58]; done) | (unfold fm_get; rw [if_neg h5, if_neg h13, if_neg h28, if_pos h36, if_pos h58])) dX1_get_80
          · refine lv_aload_n hx hb dX1_get_61 rfl (lv_at hl 0 rfl) ?_
            refine gM_lies E hS dX1_get_62 ?_
            refine lv_bipush (v := 8) hx hb dX1_get_65 (by decide) ?_
            refine lv_iload_n hx hb dX1_get_67 rfl (lv_at hl 1 rfl) ?_
            refine lv_imul hx hb dX1_get_68 ?_
            refine lv_iload_n hx hb dX1_get_69 rfl (lv_at hl 2 rfl) ?_
            refine lv_iadd hx hb dX1_get_70 ?_
            refine lM_lies (v := m_lies u ((8 * q_r) + q_i).toNatClampNeg) E hS (show vp_in ((8 * q_r) + q_i) 480 from mp_in hI (mn_in hI (by with_reducible assumption) (by with_reducible assumption)) (by with_reducible assumption)) rfl dX1_get_71 ?_
            refine lv_goto (tgt := 80) hx hb dX1_get_72 (by decide) ?_
            exact EnM.iret E hS (ni_i _) (by first | (simp only [fm_get, if_neg h5, if_neg h13, if_neg h28, if_pos h36, if_neg h58]; done) | (unfold fm_get; rw [if_neg h5, if_neg h13, if_neg h28, if_pos h36, if_neg h58])) dX1_get_80
        · refine lv_aload_n hx hb dX1_get_39 rfl (lv_at hl 0 rfl) ?_
          refine lv_iconst (v := 2) hx hb dX1_get_40 (by decide) ?_
          refine EnM.calli (r := (fm_fails u 2).1) (u2 := (fm_fails u 2).2) E hS [.int 2] [] (kX1_fails l D ad ca g u 2 ) gc_X1_75 hd_X1_fails ⟨Nat.le_of_ble_eq_true rfl, Nat.le_of_ble_eq_true rfl⟩ rfl hl.1 (Nat.le_of_ble_eq_true rfl) ⟨Nat.le_refl 0, Nat.le_refl 0⟩ dX1_get_41 (fun H locs hS => ?_)
          exact EnM.iret E hS (ni_i _) (by first | (simp only [fm_get, if_neg h5, if_neg h13, if_neg h28, if_neg h36]; done) | (unfold fm_get; rw [if_neg h5, if_neg h13, if_neg h28, if_neg h36])) dX1_get_44
    · refine lv_aload_n hx hb dX1_get_16 rfl (lv_at hl 0 rfl) ?_
      refine lv_iconst (v := 1) hx hb dX1_get_17 (by decide) ?_
      refine EnM.calli (r := (fm_fails u 1).1) (u2 := (fm_fails u 1).2) E hS [.int 1] [] (kX1_fails l D ad ca g u 1 ) gc_X1_75 hd_X1_fails ⟨Nat.le_of_ble_eq_true rfl, Nat.le_of_ble_eq_true rfl⟩ rfl hl.1 (Nat.le_of_ble_eq_true rfl) ⟨Nat.le_refl 0, Nat.le_refl 0⟩ dX1_get_18 (fun H locs hS => ?_)
      exact EnM.iret E hS (ni_i _) (by first | (simp only [fm_get, if_neg h5, if_pos h13]; done) | (unfold fm_get; rw [if_neg h5, if_pos h13])) dX1_get_21
  · refine lv_bipush (v := (-2)) hx hb dX1_get_8 (by decide) ?_
    exact EnM.iret E hS (ni_i _) (by first | (simp only [fm_get, if_pos h5]; done) | (unfold fm_get; rw [if_pos h5])) dX1_get_10
def fm_set (u : MS) (q_r : Int32) (q_i : Int32) (q_v : Int64) : Int32 × MS := if (fm_mayBe u q_r) = 0 then ((-2), u) else (if (fm_refused u q_r q_i) ≤ 0 then (if (m_bases u (q_r).toNatClampNeg) = 5 then (1, ms_numbers u (vp_updL (m_numbers u) ((8 * q_r) + q_i).toNatClampNeg (Int32.toInt64 (Int64.toInt32 q_v)))) else (1, ms_numbers u (vp_updL (m_numbers u) ((8 * q_r) + q_i).toNatClampNeg q_v))) else ((fm_fails u (fm_refused u q_r q_i)).1, (fm_fails u (fm_refused u q_r q_i)).2))
theorem hd_X1_set : yX1_set.cls = RX1 ∧ yX1_set.cls ≠ "java/lang/invoke/MethodHandle" ∧ yX1_set.cls ≠ "java/lang/invoke/VarHandle" ∧ (parseMethodDescriptor yX1_set.desc).map (fun d => d.parameters.length) = some 3 := by decide +kernel
set_option maxRecDepth 100000 in
set_option maxHeartbeats 4000000 in
theorem kX1_set (l : Launch) (D : va_G) (ad : Nat → Nat) (ca : Nat → ClassId) (g : Nat) (u : MS) (q_r : Int32) (q_i : Int32) (q_v : Int64) (hI : MI u) : CiM l yX1_set cX1_set 6 .int 3 D ad ca g [.int q_r, .int q_i, .long q_v] u (fm_set u q_r q_i q_v) := by
  refine CiM.of (by decide) rfl (Nat.le_of_ble_eq_true rfl) ?_
  intro p e s m below meth c A ls E hS hl
  have hx := E.1.1
  have hb := E.1.2.1
  have hml := E.1.2.2.1
  have hown := E.1.2.2.2.1
  have hts := E.1.2.2.2.2
  have hl : lv_has ls 6 [(0, .ref (ad 0)), (1, .int q_r), (2, .int q_i), (3, .long q_v)] := hl
  refine lv_aload_n hx hb dX1_set_0 rfl (lv_at hl 0 rfl) ?_
  refine lv_iload_n hx hb dX1_set_1 rfl (lv_at hl 1 rfl) ?_
  refine EnM.calli (r := fm_mayBe u q_r) (u2 := u) E hS [.int q_r] [] (kX1_mayBe l D ad ca g u q_r ) gc_X1_79 hd_X1_mayBe ⟨Nat.le_of_ble_eq_true rfl, Nat.le_of_ble_eq_true rfl⟩ rfl hl.1 (Nat.le_of_ble_eq_true rfl) ⟨Nat.le_refl 0, Nat.le_refl 0⟩ dX1_set_2 (fun H locs hS => ?_)
  refine lv_if_ne (tgt := 11) hx hb dX1_set_5 (by decide) (fun h5 => ?_) (fun h5 => ?_)
  · refine lv_aload_n hx hb dX1_set_11 rfl (lv_at hl 0 rfl) ?_
    refine lv_iload_n hx hb dX1_set_12 rfl (lv_at hl 1 rfl) ?_
    refine lv_iload_n hx hb dX1_set_13 rfl (lv_at hl 2 rfl) ?_
    refine EnM.calli (r := fm_refused u q_r q_i) (u2 := u) E hS [.int q_r, .int q_i] [] (kX1_refused l D ad ca g u q_r q_i (fun h => mn_in hI (by with_reducible assumption) h)) gc_X1_89 hd_X1_refused ⟨Nat.le_of_ble_eq_true rfl, Nat.le_of_ble_eq_true rfl⟩ rfl hl.1 (Nat.le_of_ble_eq_true rfl) ⟨Nat.le_refl 0, Nat.le_refl 0⟩ dX1_set_14 (fun H locs hS => ?_)
    refine lv_istore (lv' := [(5, .int (fm_refused u q_r q_i)), (0, .ref (ad 0)), (1, .int q_r), (2, .int q_i), (3, .long q_v)]) hx hb dX1_set_17 hl (by decide) rfl (fun ls hl => ?_)
    refine lv_iload hx hb dX1_set_19 (lv_at hl 0 rfl) ?_
    refine lv_if_le (tgt := 31) hx hb dX1_set_21 (by decide) (fun h21 => ?_) (fun h21 => ?_)
    · refine lv_aload_n hx hb dX1_set_31 rfl (lv_at hl 1 rfl) ?_
      refine gM_numbers E hS dX1_set_32 ?_
      refine lv_bipush (v := 8) hx hb dX1_set_35 (by decide) ?_
      refine lv_iload_n hx hb dX1_set_37 rfl (lv_at hl 2 rfl) ?_
      refine lv_imul hx hb dX1_set_38 ?_
      refine lv_iload_n hx hb dX1_set_39 rfl (lv_at hl 3 rfl) ?_
      refine lv_iadd hx hb dX1_set_40 ?_
      refine lv_aload_n hx hb dX1_set_41 rfl (lv_at hl 1 rfl) ?_
      refine gM_bases E hS dX1_set_42 ?_
      refine lv_iload_n hx hb dX1_set_45 rfl (lv_at hl 2 rfl) ?_
      refine lM_bases (v := m_bases u (q_r).toNatClampNeg) E hS (show vp_in q_r 60 from mn_in hI (by with_reducible assumption) (mr_0 (mr_le h21)).1) rfl dX1_set_46 ?_
      refine lv_iconst (v := 5) hx hb dX1_set_47 (by decide) ?_
      refine lv_icmp_ne (tgt := 57) hx hb dX1_set_48 (by decide) (fun h48 => ?_) (fun h48 => ?_)
      · refine lv_lload_n hx hb dX1_set_57 rfl (lv_at hl 4 rfl) ?_
        refine sM_numbers E hS (show vp_in ((8 * q_r) + q_i) 480 from mr_in hI (by with_reducible assumption) (mr_le h21)) dX1_set_58 (fun H locs hS => ?_)
        have hS : SM D ad ca A s (ms_numbers u (vp_updL (m_numbers u) ((8 * q_r) + q_i).toNatClampNeg q_v)) H locs := hS
        refine lv_iconst (v := 1) hx hb dX1_set_59 (by decide) ?_
        exact EnM.iret E hS (ni_i _) (by first | (simp only [fm_set, if_neg h5, if_pos h21, if_neg h48]; done) | (unfold fm_set; rw [if_neg h5, if_pos h21, if_neg h48])) dX1_set_60
      · refine lv_lload_n hx hb dX1_set_51 rfl (lv_at hl 4 rfl) ?_
        refine lv_l2i (v := Int64.toInt32 q_v) hx hb dX1_set_52 rfl ?_
        refine lv_i2l (v := Int32.toInt64 (Int64.toInt32 q_v)) hx hb dX1_set_53 rfl ?_
        refine lv_goto (tgt := 58) hx hb dX1_set_54 (by decide) ?_
        refine sM_numbers E hS (show vp_in ((8 * q_r) + q_i) 480 from mr_in hI (by with_reducible assumption) (mr_le h21)) dX1_set_58 (fun H locs hS => ?_)
        have hS : SM D ad ca A s (ms_numbers u (vp_updL (m_numbers u) ((8 * q_r) + q_i).toNatClampNeg (Int32.toInt64 (Int64.toInt32 q_v)))) H locs := hS
        refine lv_iconst (v := 1) hx hb dX1_set_59 (by decide) ?_
        exact EnM.iret E hS (ni_i _) (by first | (simp only [fm_set, if_neg h5, if_pos h21, if_pos h48]; done) | (unfold fm_set; rw [if_neg h5, if_pos h21, if_pos h48])) dX1_set_60
    · refine lv_aload_n hx hb dX1_set_24 rfl (lv_at hl 1 rfl) ?_
      refine lv_iload hx hb dX1_set_25 (lv_at hl 0 rfl) ?_
      refine EnM.calli (r := (fm_fails u (fm_refused u q_r q_i)).1) (u2 := (fm_fails u (fm_refused u q_r q_i)).2) E hS [.int (fm_refused u q_r q_i)] [] (kX1_fails l D ad ca g u (fm_refused u q_r q_i) ) gc_X1_75 hd_X1_fails ⟨Nat.le_of_ble_eq_true rfl, Nat.le_of_ble_eq_true rfl⟩ rfl hl.1 (Nat.le_of_ble_eq_true rfl) ⟨Nat.le_refl 0, Nat.le_refl 0⟩ dX1_set_27 (fun H locs hS => ?_)
      exact EnM.iret E hS (ni_i _) (by first | (simp only [fm_set, if_neg h5, if_neg h21]; done) | (unfold fm_set; rw [if_neg h5, if_neg h21])) dX1_set_30
  · refine lv_bipush (v := (-2)) hx hb dX1_set_8 (by decide) ?_
    exact EnM.iret E hS (ni_i _) (by first | (simp only [fm_set, if_pos h5]; done) | (unfold fm_set; rw [if_pos h5])) dX1_set_10
def fm_number (u : MS) (q_r : Int32) (q_i : Int32) : Int64 := if (fm_mayBe u q_r) = 0 then 0 else (if (fm_refused u q_r q_i) = 0 then m_numbers u ((8 * q_r) + q_i).toNatClampNeg else 0)
theorem hd_X1_number : yX1_number.cls = RX1 ∧ yX1_number.cls ≠ "java/lang/invoke/MethodHandle" ∧ yX1_number.cls ≠ "java/lang/invoke/VarHandle" ∧ (parseMethodDescriptor yX1_number.desc).map (fun d => d.parameters.length) = some 2 := by decide +kernel
set_option maxRecDepth 100000 in
set_option maxHeartbeats 4000000 in
theorem kX1_number (l : Launch) (D : va_G) (ad : Nat → Nat) (ca : Nat → ClassId) (g : Nat) (u : MS) (q_r : Int32) (q_i : Int32) (hI : MI u) : ClM l yX1_number cX1_number 3 3 D ad ca g [.int q_r, .int q_i] u ((fm_number u q_r q_i, u)) := by
  refine ClM.of (by decide) rfl (Nat.le_of_ble_eq_true rfl) ?_
  intro p e s m below meth c A ls E hS hl
  have hx := E.1.1
  have hb := E.1.2.1
  have hml := E.1.2.2.1
  have hown := E.1.2.2.2.1
  have hts := E.1.2.2.2.2
  have hl : lv_has ls 3 [(0, .ref (ad 0)), (1, .int q_r), (2, .int q_i)] := hl
  refine lv_aload_n hx hb dX1_number_0 rfl (lv_at hl 0 rfl) ?_
  refine lv_iload_n hx hb dX1_number_1 rfl (lv_at hl 1 rfl) ?_
  refine EnM.calli (r := fm_mayBe u q_r) (u2 := u) E hS [.int q_r] [] (kX1_mayBe l D ad ca g u q_r ) gc_X1_79 hd_X1_mayBe ⟨Nat.le_of_ble_eq_true rfl, Nat.le_of_ble_eq_true rfl⟩ rfl hl.1 (Nat.le_of_ble_eq_true rfl) ⟨Nat.le_refl 0, Nat.le_refl 0⟩ dX1_number_2 (fun H locs hS => ?_)
  refine lv_if_eq (tgt := 31) hx hb dX1_number_5 (by decide) (fun h5 => ?_) (fun h5 => ?_)
  · refine lv_lconst (v := 0) hx hb dX1_number_31 (by decide) ?_
    exact EnM.lret E hS (congrArg (fun z => (z, u)) (show (0 : Int64) = fm_number u q_r q_i by unfold fm_number; rw [if_pos h5])) dX1_number_32
  · refine lv_aload_n hx hb dX1_number_8 rfl (lv_at hl 0 rfl) ?_
    refine lv_iload_n hx hb dX1_number_9 rfl (lv_at hl 1 rfl) ?_
    refine lv_iload_n hx hb dX1_number_10 rfl (lv_at hl 2 rfl) ?_
    refine EnM.calli (r := fm_refused u q_r q_i) (u2 := u) E hS [.int q_r, .int q_i] [] (kX1_refused l D ad ca g u q_r q_i (fun h => mn_in hI (by with_reducible assumption) h)) gc_X1_89 hd_X1_refused ⟨Nat.le_of_ble_eq_true rfl, Nat.le_of_ble_eq_true rfl⟩ rfl hl.1 (Nat.le_of_ble_eq_true rfl) ⟨Nat.le_refl 0, Nat.le_refl 0⟩ dX1_number_11 (fun H locs hS => ?_)
    refine lv_if_ne (tgt := 31) hx hb dX1_number_14 (by decide) (fun h14 => ?_) (fun h14 => ?_)
    · refine lv_lconst (v := 0) hx hb dX1_number_31 (by decide) ?_
      exact EnM.lret E hS (congrArg (fun z => (z, u)) (show (0 : Int64) = fm_number u q_r q_i by unfold fm_number; rw [if_neg h5, if_neg h14])) dX1_number_32
    · refine lv_aload_n hx hb dX1_number_17 rfl (lv_at hl 0 rfl) ?_
      refine gM_numbers E hS dX1_number_18 ?_
      refine lv_bipush (v := 8) hx hb dX1_number_21 (by decide) ?_
      refine lv_iload_n hx hb dX1_number_23 rfl (lv_at hl 1 rfl) ?_
      refine lv_imul hx hb dX1_number_24 ?_
      refine lv_iload_n hx hb dX1_number_25 rfl (lv_at hl 2 rfl) ?_
      refine lv_iadd hx hb dX1_number_26 ?_
      refine lM_numbers (v := m_numbers u ((8 * q_r) + q_i).toNatClampNeg) E hS (show vp_in ((8 * q_r) + q_i) 480 from mr_in hI (by with_reducible assumption) h14) rfl dX1_number_27 ?_
      refine lv_goto (tgt := 32) hx hb dX1_number_28 (by decide) ?_
      exact EnM.lret E hS (congrArg (fun z => (z, u)) (show m_numbers u ((8 * q_r) + q_i).toNatClampNeg = fm_number u q_r q_i by unfold fm_number; rw [if_neg h5, if_pos h14])) dX1_number_32
def fm_is (u : MS) (q_x : Int32) (q_base : Int32) (q_depth : Int32) : Int32 := if (fm_mayBe u q_x) = 0 then (-2) else (if (fm_isAsked q_base q_depth) = 0 then (-2) else (if (fm_isSuch u q_x q_base q_depth) = 0 then 0 else 1))
theorem hd_X1_is : yX1_is.cls = RX1 ∧ yX1_is.cls ≠ "java/lang/invoke/MethodHandle" ∧ yX1_is.cls ≠ "java/lang/invoke/VarHandle" ∧ (parseMethodDescriptor yX1_is.desc).map (fun d => d.parameters.length) = some 3 := by decide +kernel
set_option maxRecDepth 100000 in
set_option maxHeartbeats 4000000 in
theorem kX1_is (l : Launch) (D : va_G) (ad : Nat → Nat) (ca : Nat → ClassId) (g : Nat) (u : MS) (q_x : Int32) (q_base : Int32) (q_depth : Int32) (hI : MI u) : CiM l yX1_is cX1_is 4 .int 4 D ad ca g [.int q_x, .int q_base, .int q_depth] u ((fm_is u q_x q_base q_depth, u)) := by
  refine CiM.of (by decide) rfl (Nat.le_of_ble_eq_true rfl) ?_
  intro p e s m below meth c A ls E hS hl
  have hx := E.1.1
  have hb := E.1.2.1
  have hml := E.1.2.2.1
  have hown := E.1.2.2.2.1
  have hts := E.1.2.2.2.2
  have hl : lv_has ls 4 [(0, .ref (ad 0)), (1, .int q_x), (2, .int q_base), (3, .int q_depth)] := hl
  refine lv_aload_n hx hb dX1_is_0 rfl (lv_at hl 0 rfl) ?_
  refine lv_iload_n hx hb dX1_is_1 rfl (lv_at hl 1 rfl) ?_
  refine EnM.calli (r := fm_mayBe u q_x) (u2 := u) E hS [.int q_x] [] (kX1_mayBe l D ad ca g u q_x ) gc_X1_79 hd_X1_mayBe ⟨Nat.le_of_ble_eq_true rfl, Nat.le_of_ble_eq_true rfl⟩ rfl hl.1 (Nat.le_of_ble_eq_true rfl) ⟨Nat.le_refl 0, Nat.le_refl 0⟩ dX1_is_2 (fun H locs hS => ?_)
  refine lv_if_eq (tgt := 16) hx hb dX1_is_5 (by decide) (fun h5 => ?_) (fun h5 => ?_)
  · refine lv_bipush (v := (-2)) hx hb dX1_is_16 (by decide) ?_
    exact EnM.iret E hS (ni_i _) (congrArg (fun z => (z, u)) (show ((-2) : Int32) = fm_is u q_x q_base q_depth by unfold fm_is; rw [if_pos h5])) dX1_is_18
  · refine lv_iload_n hx hb dX1_is_8 rfl (lv_at hl 2 rfl) ?_
    refine lv_iload_n hx hb dX1_is_9 rfl (lv_at hl 3 rfl) ?_
    refine EnM.sti (r := fm_isAsked q_base q_depth) E hS [.int q_base, .int q_depth] [] (kX1_isAsked l q_base q_depth ) (fun _ _ _ _ h => h) (fun _ _ _ => trivial) gc_X1_93 hd_X1_isAsked ⟨Nat.le_of_ble_eq_true rfl, Nat.le_of_ble_eq_true rfl⟩ rfl hl.1 (Nat.le_of_ble_eq_true rfl) ⟨Nat.le_refl 0, Nat.le_refl 0⟩ dX1_is_10 (fun H locs hS => ?_)
    refine lv_if_ne (tgt := 19) hx hb dX1_is_13 (by decide) (fun h13 => ?_) (fun h13 => ?_)
    · refine lv_aload_n hx hb dX1_is_19 rfl (lv_at hl 0 rfl) ?_
      refine lv_iload_n hx hb dX1_is_20 rfl (lv_at hl 1 rfl) ?_
      refine lv_iload_n hx hb dX1_is_21 rfl (lv_at hl 2 rfl) ?_
      refine lv_iload_n hx hb dX1_is_22 rfl (lv_at hl 3 rfl) ?_
      refine EnM.calli (r := fm_isSuch u q_x q_base q_depth) (u2 := u) E hS [.int q_x, .int q_base, .int q_depth] [] (kX1_isSuch l D ad ca g u q_x q_base q_depth (by first | with_reducible assumption | (refine mt_in hI ?_; with_reducible assumption) | (refine mn_in hI ?_ ?_ <;> with_reducible assumption) | (refine mb_lt hI ?_; with_reducible assumption) | (refine m6_in hI ?_; with_reducible assumption))) gc_X1_83 hd_X1_isSuch ⟨Nat.le_of_ble_eq_true rfl, Nat.le_of_ble_eq_true rfl⟩ rfl hl.1 (Nat.le_of_ble_eq_true rfl) ⟨Nat.le_refl 0, Nat.le_refl 0⟩ dX1_is_23 (fun H locs hS => ?_)
      refine lv_if_eq (tgt := 33) hx hb dX1_is_26 (by decide) (fun h26 => ?_) (fun h26 => ?_)
      · refine lv_iconst (v := 0) hx hb dX1_is_33 (by decide) ?_
        exact EnM.iret E hS (ni_i _) (congrArg (fun z => (z, u)) (show (0 : Int32) = fm_is u q_x q_base q_depth by unfold fm_is; rw [if_neg h5, if_neg h13, if_pos h26])) dX1_is_34
      · refine lv_iconst (v := 1) hx hb dX1_is_29 (by decide) ?_
        refine lv_goto (tgt := 34) hx hb dX1_is_30 (by decide) ?_
        exact EnM.iret E hS (ni_i _) (congrArg (fun z => (z, u)) (show (1 : Int32) = fm_is u q_x q_base q_depth by unfold fm_is; rw [if_neg h5, if_neg h13, if_neg h26])) dX1_is_34
    · refine lv_bipush (v := (-2)) hx hb dX1_is_16 (by decide) ?_
      exact EnM.iret E hS (ni_i _) (congrArg (fun z => (z, u)) (show ((-2) : Int32) = fm_is u q_x q_base q_depth by unfold fm_is; rw [if_neg h5, if_pos h13])) dX1_is_18
def fm_door (u : MS) (q_k : Int32) (q_base : Int32) (q_depth : Int32) : Int32 × MS := if (fm_isIn q_k 0 7) = 0 then ((-2), u) else (if (fm_isAsked q_base q_depth) = 0 then ((-2), u) else (1, ms_doorDepth (ms_doorBase u (upd (m_doorBase u) (q_k).toNatClampNeg q_base)) (upd (m_doorDepth u) (q_k).toNatClampNeg q_depth)))
theorem hd_X1_door : yX1_door.cls = RX1 ∧ yX1_door.cls ≠ "java/lang/invoke/MethodHandle" ∧ yX1_door.cls ≠ "java/lang/invoke/VarHandle" ∧ (parseMethodDescriptor yX1_door.desc).map (fun d => d.parameters.length) = some 3 := by decide +kernel
set_option maxRecDepth 100000 in
set_option maxHeartbeats 4000000 in
theorem kX1_door (l : Launch) (D : va_G) (ad : Nat → Nat) (ca : Nat → ClassId) (g : Nat) (u : MS) (q_k : Int32) (q_base : Int32) (q_depth : Int32) (hI : MI u) : CiM l yX1_door cX1_door 4 .int 3 D ad ca g [.int q_k, .int q_base, .int q_depth] u (fm_door u q_k q_base q_depth) := by
  refine CiM.of (by decide) rfl (Nat.le_of_ble_eq_true rfl) ?_
  intro p e s m below meth c A ls E hS hl
  have hx := E.1.1
  have hb := E.1.2.1
  have hml := E.1.2.2.1
  have hown := E.1.2.2.2.1
  have hts := E.1.2.2.2.2
  have hl : lv_has ls 4 [(0, .ref (ad 0)), (1, .int q_k), (2, .int q_base), (3, .int q_depth)] := hl
  refine lv_iload_n hx hb dX1_door_0 rfl (lv_at hl 1 rfl) ?_
  refine lv_iconst (v := 0) hx hb dX1_door_1 (by decide) ?_
  refine lv_bipush (v := 7) hx hb dX1_door_2 (by decide) ?_
  refine EnM.sti (r := fm_isIn q_k 0 7) E hS [.int q_k, .int 0, .int 7] [] (kX1_isIn l q_k 0 7 ) (fun _ _ _ _ h => h) (fun _ _ _ => trivial) gc_X1_60 hd_X1_isIn ⟨Nat.le_of_ble_eq_true rfl, Nat.le_of_ble_eq_true rfl⟩ rfl hl.1 (Nat.le_of_ble_eq_true rfl) ⟨Nat.le_refl 0, Nat.le_refl 0⟩ dX1_door_4 (fun H locs hS => ?_)
  refine lv_if_eq (tgt := 18) hx hb dX1_door_7 (by decide) (fun h7 => ?_) (fun h7 => ?_)
  · refine lv_bipush (v := (-2)) hx hb dX1_door_18 (by decide) ?_
    exact EnM.iret E hS (ni_i _) (by first | (simp only [fm_door, if_pos h7]; done) | (unfold fm_door; rw [if_pos h7])) dX1_door_20
  · refine lv_iload_n hx hb dX1_door_10 rfl (lv_at hl 2 rfl) ?_
    refine lv_iload_n hx hb dX1_door_11 rfl (lv_at hl 3 rfl) ?_
    refine EnM.sti (r := fm_isAsked q_base q_depth) E hS [.int q_base, .int q_depth] [] (kX1_isAsked l q_base q_depth ) (fun _ _ _ _ h => h) (fun _ _ _ => trivial) gc_X1_93 hd_X1_isAsked ⟨Nat.le_of_ble_eq_true rfl, Nat.le_of_ble_eq_true rfl⟩ rfl hl.1 (Nat.le_of_ble_eq_true rfl) ⟨Nat.le_refl 0, Nat.le_refl 0⟩ dX1_door_12 (fun H locs hS => ?_)
    refine lv_if_ne (tgt := 21) hx hb dX1_door_15 (by decide) (fun h15 => ?_) (fun h15 => ?_)
    · refine lv_aload_n hx hb dX1_door_21 rfl (lv_at hl 0 rfl) ?_
      refine gM_doorBase E hS dX1_door_22 ?_
      refine lv_iload_n hx hb dX1_door_25 rfl (lv_at hl 1 rfl) ?_
      refine lv_iload_n hx hb dX1_door_26 rfl (lv_at hl 2 rfl) ?_
      refine sM_doorBase E hS (show vp_in q_k 8 from md_in h7) dX1_door_27 (fun H locs hS => ?_)
      have hS : SM D ad ca A s (ms_doorBase u (upd (m_doorBase u) (q_k).toNatClampNeg q_base)) H locs := hS
      refine lv_aload_n hx hb dX1_door_28 rfl (lv_at hl 0 rfl) ?_
      refine gM_doorDepth E hS dX1_door_29 ?_
      refine lv_iload_n hx hb dX1_door_32 rfl (lv_at hl 1 rfl) ?_
      refine lv_iload_n hx hb dX1_door_33 rfl (lv_at hl 3 rfl) ?_
      refine sM_doorDepth E hS (show vp_in q_k 8 from md_in h7) dX1_door_34 (fun H locs hS => ?_)
      have hS : SM D ad ca A s (ms_doorDepth (ms_doorBase u (upd (m_doorBase u) (q_k).toNatClampNeg q_base)) (upd (m_doorDepth u) (q_k).toNatClampNeg q_depth)) H locs := hS
      refine lv_iconst (v := 1) hx hb dX1_door_35 (by decide) ?_
      exact EnM.iret E hS (ni_i _) (by first | (simp only [fm_door, if_neg h7, if_neg h15]; done) | (unfold fm_door; rw [if_neg h7, if_neg h15])) dX1_door_36
    · refine lv_bipush (v := (-2)) hx hb dX1_door_18 (by decide) ?_
      exact EnM.iret E hS (ni_i _) (by first | (simp only [fm_door, if_neg h7, if_pos h15]; done) | (unfold fm_door; rw [if_neg h7, if_pos h15])) dX1_door_20
def fm_lastDoor (u : MS)  : Int32 := m_last u
theorem hd_X1_lastDoor : yX1_lastDoor.cls = RX1 ∧ yX1_lastDoor.cls ≠ "java/lang/invoke/MethodHandle" ∧ yX1_lastDoor.cls ≠ "java/lang/invoke/VarHandle" ∧ (parseMethodDescriptor yX1_lastDoor.desc).map (fun d => d.parameters.length) = some 0 := by decide +kernel
set_option maxRecDepth 100000 in
set_option maxHeartbeats 4000000 in
theorem kX1_lastDoor (l : Launch) (D : va_G) (ad : Nat → Nat) (ca : Nat → ClassId) (g : Nat) (u : MS)   : CiM l yX1_lastDoor cX1_lastDoor 1 .int 1 D ad ca g [] u ((fm_lastDoor u, u)) := by
  refine CiM.of (by decide) rfl (Nat.le_of_ble_eq_true rfl) ?_
  intro p e s m below meth c A ls E hS hl
  have hx := E.1.1
  have hb := E.1.2.1
  have hml := E.1.2.2.1
  have hown := E.1.2.2.2.1
  have hts := E.1.2.2.2.2
  have hl : lv_has ls 1 [(0, .ref (ad 0))] := hl
  refine lv_aload_n hx hb dX1_lastDoor_0 rfl (lv_at hl 0 rfl) ?_
  refine gM_last (v := m_last u) E hS rfl dX1_lastDoor_1 ?_
  exact EnM.iret E hS (ni_i _) (congrArg (fun z => (z, u)) (show m_last u = fm_lastDoor u by unfold fm_lastDoor; rfl)) dX1_lastDoor_4
def fm_about (u : MS) (q_x : Int32) (q_what : Int32) : Int32 := if (fm_isThing u q_x) = 0 then (-2) else (if (fm_isIn q_what 0 2) = 0 then (-2) else (if q_what = 0 then m_bases u (q_x).toNatClampNeg else (if q_what = 1 then m_depths u (q_x).toNatClampNeg else (if (m_depths u (q_x).toNatClampNeg) = 0 then (-1) else m_sizes u (q_x).toNatClampNeg))))
theorem hd_X1_about : yX1_about.cls = RX1 ∧ yX1_about.cls ≠ "java/lang/invoke/MethodHandle" ∧ yX1_about.cls ≠ "java/lang/invoke/VarHandle" ∧ (parseMethodDescriptor yX1_about.desc).map (fun d => d.parameters.length) = some 2 := by decide +kernel
set_option maxRecDepth 100000 in
set_option maxHeartbeats 4000000 in
theorem kX1_about (l : Launch) (D : va_G) (ad : Nat → Nat) (ca : Nat → ClassId) (g : Nat) (u : MS) (q_x : Int32) (q_what : Int32) (hI : MI u) : CiM l yX1_about cX1_about 3 .int 3 D ad ca g [.int q_x, .int q_what] u ((fm_about u q_x q_what, u)) := by
  refine CiM.of (by decide) rfl (Nat.le_of_ble_eq_true rfl) ?_
  intro p e s m below meth c A ls E hS hl
  have hx := E.1.1
  have hb := E.1.2.1
  have hml := E.1.2.2.1
  have hown := E.1.2.2.2.1
  have hts := E.1.2.2.2.2
  have hl : lv_has ls 3 [(0, .ref (ad 0)), (1, .int q_x), (2, .int q_what)] := hl
  refine lv_aload_n hx hb dX1_about_0 rfl (lv_at hl 0 rfl) ?_
  refine lv_iload_n hx hb dX1_about_1 rfl (lv_at hl 1 rfl) ?_
  refine EnM.calli (r := fm_isThing u q_x) (u2 := u) E hS [.int q_x] [] (kX1_isThing l D ad ca g u q_x ) gc_X1_104 hd_X1_isThing ⟨Nat.le_of_ble_eq_true rfl, Nat.le_of_ble_eq_true rfl⟩ rfl hl.1 (Nat.le_of_ble_eq_true rfl) ⟨Nat.le_refl 0, Nat.le_refl 0⟩ dX1_about_2 (fun H locs hS => ?_)
  refine lv_if_eq (tgt := 17) hx hb dX1_about_5 (by decide) (fun h5 => ?_) (fun h5 => ?_)
  · refine lv_bipush (v := (-2)) hx hb dX1_about_17 (by decide) ?_
    exact EnM.iret E hS (ni_i _) (congrArg (fun z => (z, u)) (show ((-2) : Int32) = fm_about u q_x q_what by unfold fm_about; rw [if_pos h5])) dX1_about_19
  · refine lv_iload_n hx hb dX1_about_8 rfl (lv_at hl 2 rfl) ?_
    refine lv_iconst (v := 0) hx hb dX1_about_9 (by decide) ?_
    refine lv_iconst (v := 2) hx hb dX1_about_10 (by decide) ?_
    refine EnM.sti (r := fm_isIn q_what 0 2) E hS [.int q_what, .int 0, .int 2] [] (kX1_isIn l q_what 0 2 ) (fun _ _ _ _ h => h) (fun _ _ _ => trivial) gc_X1_60 hd_X1_isIn ⟨Nat.le_of_ble_eq_true rfl, Nat.le_of_ble_eq_true rfl⟩ rfl hl.1 (Nat.le_of_ble_eq_true rfl) ⟨Nat.le_refl 0, Nat.le_refl 0⟩ dX1_about_11 (fun H locs hS => ?_)
    refine lv_if_ne (tgt := 20) hx hb dX1_about_14 (by decide) (fun h14 => ?_) (fun h14 => ?_)
    · refine lv_iload_n hx hb dX1_about_20 rfl (lv_at hl 2 rfl) ?_
      refine lv_if_ne (tgt := 33) hx hb dX1_about_21 (by decide) (fun h21 => ?_) (fun h21 => ?_)
      · refine lv_iload_n hx hb dX1_about_33 rfl (lv_at hl 2 rfl) ?_
        refine lv_iconst (v := 1) hx hb dX1_about_34 (by decide) ?_
        refine lv_icmp_ne (tgt := 47) hx hb dX1_about_35 (by decide) (fun h35 => ?_) (fun h35 => ?_)
        · refine lv_aload_n hx hb dX1_about_47 rfl (lv_at hl 0 rfl) ?_
          refine gM_depths E hS dX1_about_48 ?_
          refine lv_iload_n hx hb dX1_about_51 rfl (lv_at hl 1 rfl) ?_
          refine lM_depths (v := m_depths u (q_x).toNatClampNeg) E hS (show vp_in q_x 60 from by first | with_reducible assumption | (refine mt_in hI ?_; with_reducible assumption) | (refine mn_in hI ?_ ?_ <;> with_reducible assumption) | (refine mb_lt hI ?_; with_reducible assumption) | (refine m6_in hI ?_; with_reducible assumption)) rfl dX1_about_52 ?_
          refine lv_if_ne (tgt := 60) hx hb dX1_about_53 (by decide) (fun h53 => ?_) (fun h53 => ?_)
          · refine lv_aload_n hx hb dX1_about_60 rfl (lv_at hl 0 rfl) ?_
            refine gM_sizes E hS dX1_about_61 ?_
            refine lv_iload_n hx hb dX1_about_64 rfl (lv_at hl 1 rfl) ?_
            refine lM_sizes (v := m_sizes u (q_x).toNatClampNeg) E hS (show vp_in q_x 60 from by first | with_reducible assumption | (refine mt_in hI ?_; with_reducible assumption) | (refine mn_in hI ?_ ?_ <;> with_reducible assumption) | (refine mb_lt hI ?_; with_reducible assumption) | (refine m6_in hI ?_; with_reducible assumption)) rfl dX1_about_65 ?_
            exact EnM.iret E hS (ni_i _) (congrArg (fun z => (z, u)) (show m_sizes u (q_x).toNatClampNeg = fm_about u q_x q_what by unfold fm_about; rw [if_neg h5, if_neg h14, if_neg h21, if_neg h35, if_neg h53])) dX1_about_66
          · refine lv_iconst (v := (-1)) hx hb dX1_about_56 (by decide) ?_
            refine lv_goto (tgt := 66) hx hb dX1_about_57 (by decide) ?_
            exact EnM.iret E hS (ni_i _) (congrArg (fun z => (z, u)) (show ((-1) : Int32) = fm_about u q_x q_what by unfold fm_about; rw [if_neg h5, if_neg h14, if_neg h21, if_neg h35, if_pos h53])) dX1_about_66
        · refine lv_aload_n hx hb dX1_about_38 rfl (lv_at hl 0 rfl) ?_
          refine gM_depths E hS dX1_about_39 ?_
          refine lv_iload_n hx hb dX1_about_42 rfl (lv_at hl 1 rfl) ?_
          refine lM_depths (v := m_depths u (q_x).toNatClampNeg) E hS (show vp_in q_x 60 from by first | with_reducible assumption | (refine mt_in hI ?_; with_reducible assumption) | (refine mn_in hI ?_ ?_ <;> with_reducible assumption) | (refine mb_lt hI ?_; with_reducible assumption) | (refine m6_in hI ?_; with_reducible assumption)) rfl dX1_about_43 ?_
          refine lv_goto (tgt := 66) hx hb dX1_about_44 (by decide) ?_
          exact EnM.iret E hS (ni_i _) (congrArg (fun z => (z, u)) (show m_depths u (q_x).toNatClampNeg = fm_about u q_x q_what by unfold fm_about; rw [if_neg h5, if_neg h14, if_neg h21, if_pos h35])) dX1_about_66
      · refine lv_aload_n hx hb dX1_about_24 rfl (lv_at hl 0 rfl) ?_
        refine gM_bases E hS dX1_about_25 ?_
        refine lv_iload_n hx hb dX1_about_28 rfl (lv_at hl 1 rfl) ?_
        refine lM_bases (v := m_bases u (q_x).toNatClampNeg) E hS (show vp_in q_x 60 from by first | with_reducible assumption | (refine mt_in hI ?_; with_reducible assumption) | (refine mn_in hI ?_ ?_ <;> with_reducible assumption) | (refine mb_lt hI ?_; with_reducible assumption) | (refine m6_in hI ?_; with_reducible assumption)) rfl dX1_about_29 ?_
        refine lv_goto (tgt := 66) hx hb dX1_about_30 (by decide) ?_
        exact EnM.iret E hS (ni_i _) (congrArg (fun z => (z, u)) (show m_bases u (q_x).toNatClampNeg = fm_about u q_x q_what by unfold fm_about; rw [if_neg h5, if_neg h14, if_pos h21])) dX1_about_66
    · refine lv_bipush (v := (-2)) hx hb dX1_about_17 (by decide) ?_
      exact EnM.iret E hS (ni_i _) (congrArg (fun z => (z, u)) (show ((-2) : Int32) = fm_about u q_x q_what by unfold fm_about; rw [if_neg h5, if_pos h14])) dX1_about_19
def fm_count (u : MS) (q_what : Int32) : Int32 := if q_what = 0 then m_things u else (if q_what = 1 then m_failures u else (if q_what = 2 then m_latest u else (-2)))
theorem hd_X1_count : yX1_count.cls = RX1 ∧ yX1_count.cls ≠ "java/lang/invoke/MethodHandle" ∧ yX1_count.cls ≠ "java/lang/invoke/VarHandle" ∧ (parseMethodDescriptor yX1_count.desc).map (fun d => d.parameters.length) = some 1 := by decide +kernel
set_option maxRecDepth 100000 in
set_option maxHeartbeats 4000000 in
theorem kX1_count (l : Launch) (D : va_G) (ad : Nat → Nat) (ca : Nat → ClassId) (g : Nat) (u : MS) (q_what : Int32)  : CiM l yX1_count cX1_count 2 .int 1 D ad ca g [.int q_what] u ((fm_count u q_what, u)) := by
  refine CiM.of (by decide) rfl (Nat.le_of_ble_eq_true rfl) ?_
  intro p e s m below meth c A ls E hS hl
  have hx := E.1.1
  have hb := E.1.2.1
  have hml := E.1.2.2.1
  have hown := E.1.2.2.2.1
  have hts := E.1.2.2.2.2
  have hl : lv_has ls 2 [(0, .ref (ad 0)), (1, .int q_what)] := hl
  refine lv_iload_n hx hb dX1_count_0 rfl (lv_at hl 1 rfl) ?_
  refine lv_if_ne (tgt := 11) hx hb dX1_count_1 (by decide) (fun h1 => ?_) (fun h1 => ?_)
  · refine lv_iload_n hx hb dX1_count_11 rfl (lv_at hl 1 rfl) ?_
    refine lv_iconst (v := 1) hx hb dX1_count_12 (by decide) ?_
    refine lv_icmp_ne (tgt := 23) hx hb dX1_count_13 (by decide) (fun h13 => ?_) (fun h13 => ?_)
    · refine lv_iload_n hx hb dX1_count_23 rfl (lv_at hl 1 rfl) ?_
      refine lv_iconst (v := 2) hx hb dX1_count_24 (by decide) ?_
      refine lv_icmp_ne (tgt := 35) hx hb dX1_count_25 (by decide) (fun h25 => ?_) (fun h25 => ?_)
      · refine lv_bipush (v := (-2)) hx hb dX1_count_35 (by decide) ?_
        exact EnM.iret E hS (ni_i _) (congrArg (fun z => (z, u)) (show ((-2) : Int32) = fm_count u q_what by unfold fm_count; rw [if_neg h1, if_neg h13, if_neg h25])) dX1_count_37
      · refine lv_aload_n hx hb dX1_count_28 rfl (lv_at hl 0 rfl) ?_
        refine gM_latest (v := m_latest u) E hS rfl dX1_count_29 ?_
        refine lv_goto (tgt := 37) hx hb dX1_count_32 (by decide) ?_
        exact EnM.iret E hS (ni_i _) (congrArg (fun z => (z, u)) (show m_latest u = fm_count u q_what by unfold fm_count; rw [if_neg h1, if_neg h13, if_pos h25])) dX1_count_37
    · refine lv_aload_n hx hb dX1_count_16 rfl (lv_at hl 0 rfl) ?_
      refine gM_failures (v := m_failures u) E hS rfl dX1_count_17 ?_
      refine lv_goto (tgt := 37) hx hb dX1_count_20 (by decide) ?_
      exact EnM.iret E hS (ni_i _) (congrArg (fun z => (z, u)) (show m_failures u = fm_count u q_what by unfold fm_count; rw [if_neg h1, if_pos h13])) dX1_count_37
  · refine lv_aload_n hx hb dX1_count_4 rfl (lv_at hl 0 rfl) ?_
    refine gM_things (v := m_things u) E hS rfl dX1_count_5 ?_
    refine lv_goto (tgt := 37) hx hb dX1_count_8 (by decide) ?_
    exact EnM.iret E hS (ni_i _) (congrArg (fun z => (z, u)) (show m_things u = fm_count u q_what by unfold fm_count; rw [if_pos h1])) dX1_count_37
def fm_clear_L : Nat → MS → Int32 → Int32 → Int32 × MS
  | 0, w, v_1, v_2 => (0, w)
  | f_ + 1, w, v_1, v_2 => (if 8 ≤ v_2 then (v_1, w) else fm_clear_L f_ (ms_doorDepth (ms_doorBase w (upd (m_doorBase w) (v_2).toNatClampNeg 0)) (upd (m_doorDepth w) (v_2).toNatClampNeg 0)) v_1 (v_2 + 1))
set_option maxRecDepth 100000 in
set_option maxHeartbeats 4000000 in
theorem loop_X1_clear_L {p : Program} {e : Env} {s : State} {m : MethodId} {below : List Frame} {meth : Method} {c : Code} {args : Array Value} {A : Nat → Prop} (l : Launch) (D : va_G) (ad : Nat → Nat) (ca : Nat → ClassId) (g : Nat) (u : MS) (E : EnM p s m c args cX1_clear 3 meth (some .int) D ca g A) : ∀ (f_ : Nat) (w : MS) (v_1 : Int32) (v_2 : Int32), (0 ≤ v_2.toInt ∧ v_2.toInt ≤ 8) → 8 - v_2.toInt < (f_ : Int) → ∀ (H : Heap) (locs : List Loc) (ls : Array Slot), SM D ad ca A s w H locs → lv_has ls 3 [(0, .ref (ad 0)), (1, .int v_1), (2, .int v_2)] → W p l e (rk 1) s m args below meth c H locs 0 0 (MQ below (va_Qi (fun r' v => (r', v) = fm_clear_L f_ w v_1 v_2) (BkM D ad ca) A) args s 0 0 A) (F0 m 12 ls []) := by
  have hx := E.1.1
  have hb := E.1.2.1
  have hml := E.1.2.2.1
  have hown := E.1.2.2.2.1
  have hts := E.1.2.2.2.2
  intro f_
  induction f_ with
  | zero =>
    intro w v_1 v_2 hi hf H locs ls hS hl
    exfalso
    omega
  | succ f_ ih =>
    intro w v_1 v_2 hi hf H locs ls hS hl
    refine lv_iload_n hx hb dX1_clear_12 rfl (lv_at hl 2 rfl) ?_
    refine lv_bipush (v := 8) hx hb dX1_clear_13 (by decide) ?_
    refine lv_icmp_ge (tgt := 38) hx hb dX1_clear_15 (by decide) (fun h15 => ?_) (fun h15 => ?_)
    · refine lv_iload_n hx hb dX1_clear_38 rfl (lv_at hl 1 rfl) ?_
      exact EnM.iret E hS (ni_i _) (by rw [fm_clear_L, if_pos h15]) dX1_clear_39
    · have g15 := h15
      rw [le_ti, ti8] at g15
      refine lv_aload_n hx hb dX1_clear_18 rfl (lv_at hl 0 rfl) ?_
      refine gM_doorBase E hS dX1_clear_19 ?_
      refine lv_iload_n hx hb dX1_clear_22 rfl (lv_at hl 2 rfl) ?_
      refine lv_iconst (v := 0) hx hb dX1_clear_23 (by decide) ?_
      refine sM_doorBase E hS (show vp_in v_2 8 from (by rw [vp_in_iff]; omega)) dX1_clear_24 (fun H locs hS => ?_)
      have hS : SM D ad ca A s (ms_doorBase w (upd (m_doorBase w) (v_2).toNatClampNeg 0)) H locs := hS
      refine lv_aload_n hx hb dX1_clear_25 rfl (lv_at hl 0 rfl) ?_
      refine gM_doorDepth E hS dX1_clear_26 ?_
      refine lv_iload_n hx hb dX1_clear_29 rfl (lv_at hl 2 rfl) ?_
      refine lv_iconst (v := 0) hx hb dX1_clear_30 (by decide) ?_
      refine sM_doorDepth E hS (show vp_in v_2 8 from (by rw [vp_in_iff]; omega)) dX1_clear_31 (fun H locs hS => ?_)
      have hS : SM D ad ca A s (ms_doorDepth (ms_doorBase w (upd (m_doorBase w) (v_2).toNatClampNeg 0)) (upd (m_doorDepth w) (v_2).toNatClampNeg 0)) H locs := hS
      refine lv_iinc (v := v_2 + 1) (lv' := [(2, .int (v_2 + 1)), (0, .ref (ad 0)), (1, .int v_1)]) hx hb dX1_clear_32 hl (k := 2) rfl rfl (by decide) rfl (fun ls hl => ?_)
      refine lv_goto (tgt := 12) hx hb dX1_clear_35 (by decide) ?_
      have hr : fm_clear_L (f_ + 1) w v_1 v_2 = fm_clear_L f_ (ms_doorDepth (ms_doorBase w (upd (m_doorBase w) (v_2).toNatClampNeg 0)) (upd (m_doorDepth w) (v_2).toNatClampNeg 0)) v_1 (v_2 + 1) := by rw [fm_clear_L, if_neg h15]
      have e2 : (v_2 + 1).toInt = v_2.toInt + 1 := ti_inc (by omega) (by omega)
      rw [hr]
      exact ih (ms_doorDepth (ms_doorBase w (upd (m_doorBase w) (v_2).toNatClampNeg 0)) (upd (m_doorDepth w) (v_2).toNatClampNeg 0)) v_1 (v_2 + 1) (by omega) (by omega) _ _ ls hS (lv_sub hl [1, 2, 0] rfl)
def fm_clear (u : MS)  : Int32 × MS := fm_clear_L 9 (ms_things u 0) (m_things u) 0
theorem hd_X1_clear : yX1_clear.cls = RX1 ∧ yX1_clear.cls ≠ "java/lang/invoke/MethodHandle" ∧ yX1_clear.cls ≠ "java/lang/invoke/VarHandle" ∧ (parseMethodDescriptor yX1_clear.desc).map (fun d => d.parameters.length) = some 0 := by decide +kernel
set_option maxRecDepth 100000 in
set_option maxHeartbeats 4000000 in
theorem kX1_clear (l : Launch) (D : va_G) (ad : Nat → Nat) (ca : Nat → ClassId) (g : Nat) (u : MS)   : CiM l yX1_clear cX1_clear 3 .int 1 D ad ca g [] u (fm_clear u) := by
  refine CiM.of (by decide) rfl (Nat.le_of_ble_eq_true rfl) ?_
  intro p e s m below meth c A ls E hS hl
  have hx := E.1.1
  have hb := E.1.2.1
  have hml := E.1.2.2.1
  have hown := E.1.2.2.2.1
  have hts := E.1.2.2.2.2
  have hl : lv_has ls 3 [(0, .ref (ad 0))] := hl
  refine lv_aload_n hx hb dX1_clear_0 rfl (lv_at hl 0 rfl) ?_
  refine gM_things (v := m_things u) E hS rfl dX1_clear_1 ?_
  refine lv_istore_n (lv' := [(1, .int (m_things u)), (0, .ref (ad 0))]) hx hb dX1_clear_4 rfl hl (by decide) rfl (fun ls hl => ?_)
  refine lv_aload_n hx hb dX1_clear_5 rfl (lv_at hl 1 rfl) ?_
  refine lv_iconst (v := 0) hx hb dX1_clear_6 (by decide) ?_
  refine pM_things E hS dX1_clear_7 (fun H locs hS => ?_)
  have hS : SM D ad ca A s (ms_things u 0) H locs := hS
  refine lv_iconst (v := 0) hx hb dX1_clear_10 (by decide) ?_
  refine lv_istore_n (lv' := [(2, .int 0), (1, .int (m_things u)), (0, .ref (ad 0))]) hx hb dX1_clear_11 rfl hl (by decide) rfl (fun ls hl => ?_)
  have hr : fm_clear u = fm_clear_L 9 (ms_things u 0) (m_things u) 0 := by unfold fm_clear; rfl
  rw [hr]
  exact loop_X1_clear_L l D ad ca g u  E 9 (ms_things u 0) (m_things u) 0 (by rw [ti0]; omega) (by rw [ti0]; omega) _ _ ls hS (lv_sub hl [2, 1, 0] rfl)
def fm_bases_L : Nat → MS → Int32 → Int32 → Int32 → Int32
  | 0, u, q_x, v_2, v_3 => 0
  | f_ + 1, u, q_x, v_2, v_3 => (if 7 ≤ v_3 then v_2 else (if (fm_goesFor (m_bases u (q_x).toNatClampNeg) v_3) = 0 then fm_bases_L f_ u q_x (v_2 ||| 0) (v_3 + 1) else fm_bases_L f_ u q_x (v_2 ||| (1 <<< (v_3 &&& 31))) (v_3 + 1)))
set_option maxRecDepth 100000 in
set_option maxHeartbeats 4000000 in
theorem loop_X1_bases_L {p : Program} {e : Env} {s : State} {m : MethodId} {below : List Frame} {meth : Method} {c : Code} {args : Array Value} {A : Nat → Prop} (l : Launch) (D : va_G) (ad : Nat → Nat) (ca : Nat → ClassId) (g : Nat) (u : MS) (E : EnM p s m c args cX1_bases 4 meth (some .int) D ca g A) : ∀ (f_ : Nat) (q_x : Int32) (v_2 : Int32) (v_3 : Int32), vp_in q_x 60 → (0 ≤ v_3.toInt ∧ v_3.toInt ≤ 7) → 7 - v_3.toInt < (f_ : Int) → ∀ (H : Heap) (locs : List Loc) (ls : Array Slot), SM D ad ca A s u H locs → lv_has ls 4 [(0, .ref (ad 0)), (1, .int q_x), (2, .int v_2), (3, .int v_3)] → W p l e (rk 3) s m args below meth c H locs 0 0 (MQ below (va_Qi (fun r' v => (r', v) = (fm_bases_L f_ u q_x v_2 v_3, u)) (BkM D ad ca) A) args s 0 0 A) (F0 m 15 ls []) := by
  have hx := E.1.1
  have hb := E.1.2.1
  have hml := E.1.2.2.1
  have hown := E.1.2.2.2.1
  have hts := E.1.2.2.2.2
  intro f_
  induction f_ with
  | zero =>
    intro q_x v_2 v_3 hqx hi hf H locs ls hS hl
    exfalso
    omega
  | succ f_ ih =>
    intro q_x v_2 v_3 hqx hi hf H locs ls hS hl
    refine lv_iload_n hx hb dX1_bases_15 rfl (lv_at hl 3 rfl) ?_
    refine lv_bipush (v := 7) hx hb dX1_bases_16 (by decide) ?_
    refine lv_icmp_ge (tgt := 50) hx hb dX1_bases_18 (by decide) (fun h18 => ?_) (fun h18 => ?_)
    · refine lv_iload_n hx hb dX1_bases_50 rfl (lv_at hl 2 rfl) ?_
      exact EnM.iret E hS (ni_i _) (congrArg (fun z => (z, u)) (by rw [fm_bases_L, if_pos h18])) dX1_bases_51
    · have g18 := h18
      rw [le_ti, show (7 : Int32).toInt = 7 by decide] at g18
      refine lv_iload_n hx hb dX1_bases_21 rfl (lv_at hl 2 rfl) ?_
      refine lv_aload_n hx hb dX1_bases_22 rfl (lv_at hl 0 rfl) ?_
      refine gM_bases E hS dX1_bases_23 ?_
      refine lv_iload_n hx hb dX1_bases_26 rfl (lv_at hl 1 rfl) ?_
      refine lM_bases (v := m_bases u (q_x).toNatClampNeg) E hS (show vp_in q_x 60 from hqx) rfl dX1_bases_27 ?_
      refine lv_iload_n hx hb dX1_bases_28 rfl (lv_at hl 3 rfl) ?_
      refine EnM.sti (r := fm_goesFor (m_bases u (q_x).toNatClampNeg) v_3) E hS [.int (m_bases u (q_x).toNatClampNeg), .int v_3] [.int v_2] (kX1_goesFor l (m_bases u (q_x).toNatClampNeg) v_3 ) (fun _ _ _ _ h => h) (fun _ _ _ => trivial) gc_X1_64 hd_X1_goesFor ⟨Nat.le_of_ble_eq_true rfl, Nat.le_of_ble_eq_true rfl⟩ rfl hl.1 (Nat.le_of_ble_eq_true rfl) ⟨Nat.le_refl 0, Nat.le_refl 0⟩ dX1_bases_29 (fun H locs hS => ?_)
      refine lv_if_eq (tgt := 41) hx hb dX1_bases_32 (by decide) (fun h32 => ?_) (fun h32 => ?_)
      · refine lv_iconst (v := 0) hx hb dX1_bases_41 (by decide) ?_
        refine lv_ior hx hb dX1_bases_42 ?_
        refine lv_istore_n (lv' := [(2, .int (v_2 ||| 0)), (0, .ref (ad 0)), (1, .int q_x), (3, .int v_3)]) hx hb dX1_bases_43 rfl hl (by decide) rfl (fun ls hl => ?_)
        refine lv_iinc (v := v_3 + 1) (lv' := [(3, .int (v_3 + 1)), (2, .int (v_2 ||| 0)), (0, .ref (ad 0)), (1, .int q_x)]) hx hb dX1_bases_44 hl (k := 3) rfl rfl (by decide) rfl (fun ls hl => ?_)
        refine lv_goto (tgt := 15) hx hb dX1_bases_47 (by decide) ?_
        have hr : fm_bases_L (f_ + 1) u q_x v_2 v_3 = fm_bases_L f_ u q_x (v_2 ||| 0) (v_3 + 1) := by rw [fm_bases_L, if_neg h18, if_pos h32]
        have e2 : (v_3 + 1).toInt = v_3.toInt + 1 := ti_inc (by omega) (by omega)
        rw [hr]
        exact ih q_x (v_2 ||| 0) (v_3 + 1) hqx (by omega) (by omega) _ _ ls hS (lv_sub hl [2, 3, 1, 0] rfl)
      · refine lv_iconst (v := 1) hx hb dX1_bases_35 (by decide) ?_
        refine lv_iload_n hx hb dX1_bases_36 rfl (lv_at hl 3 rfl) ?_
        refine lv_ishl hx hb dX1_bases_37 ?_
        refine lv_goto (tgt := 42) hx hb dX1_bases_38 (by decide) ?_
        refine lv_ior hx hb dX1_bases_42 ?_
        refine lv_istore_n (lv' := [(2, .int (v_2 ||| (1 <<< (v_3 &&& 31)))), (0, .ref (ad 0)), (1, .int q_x), (3, .int v_3)]) hx hb dX1_bases_43 rfl hl (by decide) rfl (fun ls hl => ?_)
        refine lv_iinc (v := v_3 + 1) (lv' := [(3, .int (v_3 + 1)), (2, .int (v_2 ||| (1 <<< (v_3 &&& 31)))), (0, .ref (ad 0)), (1, .int q_x)]) hx hb dX1_bases_44 hl (k := 3) rfl rfl (by decide) rfl (fun ls hl => ?_)
        refine lv_goto (tgt := 15) hx hb dX1_bases_47 (by decide) ?_
        have hr : fm_bases_L (f_ + 1) u q_x v_2 v_3 = fm_bases_L f_ u q_x (v_2 ||| (1 <<< (v_3 &&& 31))) (v_3 + 1) := by rw [fm_bases_L, if_neg h18, if_neg h32]
        have e2 : (v_3 + 1).toInt = v_3.toInt + 1 := ti_inc (by omega) (by omega)
        rw [hr]
        exact ih q_x (v_2 ||| (1 <<< (v_3 &&& 31))) (v_3 + 1) hqx (by omega) (by omega) _ _ ls hS (lv_sub hl [2, 3, 1, 0] rfl)
def fm_bases (u : MS) (q_x : Int32) : Int32 := if (fm_isThing u q_x) = 0 then (-2) else fm_bases_L 8 u q_x 0 0
theorem hd_X1_bases : yX1_bases.cls = RX1 ∧ yX1_bases.cls ≠ "java/lang/invoke/MethodHandle" ∧ yX1_bases.cls ≠ "java/lang/invoke/VarHandle" ∧ (parseMethodDescriptor yX1_bases.desc).map (fun d => d.parameters.length) = some 1 := by decide +kernel
set_option maxRecDepth 100000 in
set_option maxHeartbeats 4000000 in
theorem kX1_bases (l : Launch) (D : va_G) (ad : Nat → Nat) (ca : Nat → ClassId) (g : Nat) (u : MS) (q_x : Int32) (hI : MI u) : CiM l yX1_bases cX1_bases 4 .int 3 D ad ca g [.int q_x] u ((fm_bases u q_x, u)) := by
  refine CiM.of (by decide) rfl (Nat.le_of_ble_eq_true rfl) ?_
  intro p e s m below meth c A ls E hS hl
  have hx := E.1.1
  have hb := E.1.2.1
  have hml := E.1.2.2.1
  have hown := E.1.2.2.2.1
  have hts := E.1.2.2.2.2
  have hl : lv_has ls 4 [(0, .ref (ad 0)), (1, .int q_x)] := hl
  refine lv_aload_n hx hb dX1_bases_0 rfl (lv_at hl 0 rfl) ?_
  refine lv_iload_n hx hb dX1_bases_1 rfl (lv_at hl 1 rfl) ?_
  refine EnM.calli (r := fm_isThing u q_x) (u2 := u) E hS [.int q_x] [] (kX1_isThing l D ad ca g u q_x ) gc_X1_104 hd_X1_isThing ⟨Nat.le_of_ble_eq_true rfl, Nat.le_of_ble_eq_true rfl⟩ rfl hl.1 (Nat.le_of_ble_eq_true rfl) ⟨Nat.le_refl 0, Nat.le_refl 0⟩ dX1_bases_2 (fun H locs hS => ?_)
  refine lv_if_ne (tgt := 11) hx hb dX1_bases_5 (by decide) (fun h5 => ?_) (fun h5 => ?_)
  · refine lv_iconst (v := 0) hx hb dX1_bases_11 (by decide) ?_
    refine lv_istore_n (lv' := [(2, .int 0), (0, .ref (ad 0)), (1, .int q_x)]) hx hb dX1_bases_12 rfl hl (by decide) rfl (fun ls hl => ?_)
    refine lv_iconst (v := 0) hx hb dX1_bases_13 (by decide) ?_
    refine lv_istore_n (lv' := [(3, .int 0), (2, .int 0), (0, .ref (ad 0)), (1, .int q_x)]) hx hb dX1_bases_14 rfl hl (by decide) rfl (fun ls hl => ?_)
    have hr : fm_bases u q_x = fm_bases_L 8 u q_x 0 0 := by unfold fm_bases; rw [if_neg h5]
    rw [hr]
    exact loop_X1_bases_L l D ad ca g u  E 8 q_x 0 0 (mt_in hI h5) (by rw [ti0]; omega) (by rw [ti0]; omega) _ _ ls hS (lv_sub hl [2, 3, 1, 0] rfl)
  · refine lv_bipush (v := (-2)) hx hb dX1_bases_8 (by decide) ?_
    exact EnM.iret E hS (ni_i _) (congrArg (fun z => (z, u)) (show ((-2) : Int32) = fm_bases u q_x by unfold fm_bases; rw [if_pos h5])) dX1_bases_10
def fm_copy_L : Nat → MS → Int32 → Int32 → Int32 → Int32 × MS
  | 0, w, q_x, v_2, v_3 => (0, w)
  | f_ + 1, w, q_x, v_2, v_3 => (if 8 ≤ v_3 then (v_2, w) else fm_copy_L f_ (ms_numbers (ms_lies w (upd (m_lies w) ((8 * v_2) + v_3).toNatClampNeg (m_lies w ((8 * q_x) + v_3).toNatClampNeg))) (vp_updL (m_numbers w) ((8 * v_2) + v_3).toNatClampNeg (m_numbers w ((8 * q_x) + v_3).toNatClampNeg))) q_x v_2 (v_3 + 1))
set_option maxRecDepth 100000 in
set_option maxHeartbeats 4000000 in
theorem loop_X1_copy_L {p : Program} {e : Env} {s : State} {m : MethodId} {below : List Frame} {meth : Method} {c : Code} {args : Array Value} {A : Nat → Prop} (l : Launch) (D : va_G) (ad : Nat → Nat) (ca : Nat → ClassId) (g : Nat) (u : MS) (E : EnM p s m c args cX1_copy 4 meth (some .int) D ca g A) : ∀ (f_ : Nat) (w : MS) (q_x : Int32) (v_2 : Int32) (v_3 : Int32), vp_in q_x 60 → vp_in v_2 60 → (0 ≤ v_3.toInt ∧ v_3.toInt ≤ 8) → 8 - v_3.toInt < (f_ : Int) → ∀ (H : Heap) (locs : List Loc) (ls : Array Slot), SM D ad ca A s w H locs → lv_has ls 4 [(0, .ref (ad 0)), (1, .int q_x), (2, .int v_2), (3, .int v_3)] → W p l e (rk 3) s m args below meth c H locs 0 0 (MQ below (va_Qi (fun r' v => (r', v) = fm_copy_L f_ w q_x v_2 v_3) (BkM D ad ca) A) args s 0 0 A) (F0 m 78 ls []) := by
  have hx := E.1.1
  have hb := E.1.2.1
  have hml := E.1.2.2.1
  have hown := E.1.2.2.2.1
  have hts := E.1.2.2.2.2
  intro f_
  induction f_ with
  | zero =>
    intro w q_x v_2 v_3 hqx hr2 hi hf H locs ls hS hl
    exfalso
    omega
  | succ f_ ih =>
    intro w q_x v_2 v_3 hqx hr2 hi hf H locs ls hS hl
    refine lv_iload_n hx hb dX1_copy_78 rfl (lv_at hl 3 rfl) ?_
    refine lv_bipush (v := 8) hx hb dX1_copy_79 (by decide) ?_
    refine lv_icmp_ge (tgt := 134) hx hb dX1_copy_81 (by decide) (fun h81 => ?_) (fun h81 => ?_)
    · refine lv_iload_n hx hb dX1_copy_134 rfl (lv_at hl 2 rfl) ?_
      exact EnM.iret E hS (ni_i _) (by rw [fm_copy_L, if_pos h81]) dX1_copy_135
    · have g81 := h81
      rw [le_ti, ti8] at g81
      have hm1 := mi_in hqx (i := v_3) (by omega) (by omega)
      have hm2 := mi_in hr2 (i := v_3) (by omega) (by omega)
      refine lv_aload_n hx hb dX1_copy_84 rfl (lv_at hl 0 rfl) ?_
      refine gM_lies E hS dX1_copy_85 ?_
      refine lv_bipush (v := 8) hx hb dX1_copy_88 (by decide) ?_
      refine lv_iload_n hx hb dX1_copy_90 rfl (lv_at hl 2 rfl) ?_
      refine lv_imul hx hb dX1_copy_91 ?_
      refine lv_iload_n hx hb dX1_copy_92 rfl (lv_at hl 3 rfl) ?_
      refine lv_iadd hx hb dX1_copy_93 ?_
      refine lv_aload_n hx hb dX1_copy_94 rfl (lv_at hl 0 rfl) ?_
      refine gM_lies E hS dX1_copy_95 ?_
      refine lv_bipush (v := 8) hx hb dX1_copy_98 (by decide) ?_
      refine lv_iload_n hx hb dX1_copy_100 rfl (lv_at hl 1 rfl) ?_
      refine lv_imul hx hb dX1_copy_101 ?_
      refine lv_iload_n hx hb dX1_copy_102 rfl (lv_at hl 3 rfl) ?_
      refine lv_iadd hx hb dX1_copy_103 ?_
      refine lM_lies (v := m_lies w ((8 * q_x) + v_3).toNatClampNeg) E hS (show vp_in ((8 * q_x) + v_3) 480 from by first | with_reducible assumption | (refine mt_in hI ?_; with_reducible assumption) | (refine mn_in hI ?_ ?_ <;> with_reducible assumption) | (refine mb_lt hI ?_; with_reducible assumption) | (refine m6_in hI ?_; with_reducible assumption)) rfl dX1_copy_104 ?_
      refine sM_lies E hS (show vp_in ((8 * v_2) + v_3) 480 from by first | with_reducible assumption | (refine mt_in hI ?_; with_reducible assumption) | (refine mn_in hI ?_ ?_ <;> with_reducible assumption) | (refine mb_lt hI ?_; with_reducible assumption) | (refine m6_in hI ?_; with_reducible assumption)) dX1_copy_105 (fun H locs hS => ?_)
      have hS : SM D ad ca A s (ms_lies w (upd (m_lies w) ((8 * v_2) + v_3).toNatClampNeg (m_lies w ((8 * q_x) + v_3).toNatClampNeg))) H locs := hS
      refine lv_aload_n hx hb dX1_copy_106 rfl (lv_at hl 0 rfl) ?_
      refine gM_numbers E hS dX1_copy_107 ?_
      refine lv_bipush (v := 8) hx hb dX1_copy_110 (by decide) ?_
      refine lv_iload_n hx hb dX1_copy_112 rfl (lv_at hl 2 rfl) ?_
      refine lv_imul hx hb dX1_copy_113 ?_
      refine lv_iload_n hx hb dX1_copy_114 rfl (lv_at hl 3 rfl) ?_
      refine lv_iadd hx hb dX1_copy_115 ?_
      refine lv_aload_n hx hb dX1_copy_116 rfl (lv_at hl 0 rfl) ?_
      refine gM_numbers E hS dX1_copy_117 ?_
      refine lv_bipush (v := 8) hx hb dX1_copy_120 (by decide) ?_
      refine lv_iload_n hx hb dX1_copy_122 rfl (lv_at hl 1 rfl) ?_
      refine lv_imul hx hb dX1_copy_123 ?_
      refine lv_iload_n hx hb dX1_copy_124 rfl (lv_at hl 3 rfl) ?_
      refine lv_iadd hx hb dX1_copy_125 ?_
      refine lM_numbers (v := m_numbers w ((8 * q_x) + v_3).toNatClampNeg) E hS (show vp_in ((8 * q_x) + v_3) 480 from by first | with_reducible assumption | (refine mt_in hI ?_; with_reducible assumption) | (refine mn_in hI ?_ ?_ <;> with_reducible assumption) | (refine mb_lt hI ?_; with_reducible assumption) | (refine m6_in hI ?_; with_reducible assumption)) rfl dX1_copy_126 ?_
      refine sM_numbers E hS (show vp_in ((8 * v_2) + v_3) 480 from by first | with_reducible assumption | (refine mt_in hI ?_; with_reducible assumption) | (refine mn_in hI ?_ ?_ <;> with_reducible assumption) | (refine mb_lt hI ?_; with_reducible assumption) | (refine m6_in hI ?_; with_reducible assumption)) dX1_copy_127 (fun H locs hS => ?_)
      have hS : SM D ad ca A s (ms_numbers (ms_lies w (upd (m_lies w) ((8 * v_2) + v_3).toNatClampNeg (m_lies w ((8 * q_x) + v_3).toNatClampNeg))) (vp_updL (m_numbers w) ((8 * v_2) + v_3).toNatClampNeg (m_numbers w ((8 * q_x) + v_3).toNatClampNeg))) H locs := hS
      refine lv_iinc (v := v_3 + 1) (lv' := [(3, .int (v_3 + 1)), (0, .ref (ad 0)), (1, .int q_x), (2, .int v_2)]) hx hb dX1_copy_128 hl (k := 3) rfl rfl (by decide) rfl (fun ls hl => ?_)
      refine lv_goto (tgt := 78) hx hb dX1_copy_131 (by decide) ?_
      have hr : fm_copy_L (f_ + 1) w q_x v_2 v_3 = fm_copy_L f_ (ms_numbers (ms_lies w (upd (m_lies w) ((8 * v_2) + v_3).toNatClampNeg (m_lies w ((8 * q_x) + v_3).toNatClampNeg))) (vp_updL (m_numbers w) ((8 * v_2) + v_3).toNatClampNeg (m_numbers w ((8 * q_x) + v_3).toNatClampNeg))) q_x v_2 (v_3 + 1) := by rw [fm_copy_L, if_neg h81]
      have e2 : (v_3 + 1).toInt = v_3.toInt + 1 := ti_inc (by omega) (by omega)
      rw [hr]
      exact ih (ms_numbers (ms_lies w (upd (m_lies w) ((8 * v_2) + v_3).toNatClampNeg (m_lies w ((8 * q_x) + v_3).toNatClampNeg))) (vp_updL (m_numbers w) ((8 * v_2) + v_3).toNatClampNeg (m_numbers w ((8 * q_x) + v_3).toNatClampNeg))) q_x v_2 (v_3 + 1) hqx hr2 (by omega) (by omega) _ _ ls hS (lv_sub hl [1, 2, 3, 0] rfl)
def fm_copy (u : MS) (q_x : Int32) : Int32 × MS := if (fm_mayBe u q_x) = 0 then ((-2), u) else (if (m_things u) = 60 then ((-3), u) else (if q_x = (-1) then (if q_x = (-1) then ((fm_fails u 1).1, (fm_fails u 1).2) else ((fm_fails u 2).1, (fm_fails u 2).2)) else (if (m_depths u (q_x).toNatClampNeg) = 0 then (if q_x = (-1) then ((fm_fails u 1).1, (fm_fails u 1).2) else ((fm_fails u 2).1, (fm_fails u 2).2)) else fm_copy_L 9 ((fm_make u (m_bases u (q_x).toNatClampNeg) (m_depths u (q_x).toNatClampNeg) (m_sizes u (q_x).toNatClampNeg) 0).2) q_x ((fm_make u (m_bases u (q_x).toNatClampNeg) (m_depths u (q_x).toNatClampNeg) (m_sizes u (q_x).toNatClampNeg) 0).1) 0)))
theorem hd_X1_copy : yX1_copy.cls = RX1 ∧ yX1_copy.cls ≠ "java/lang/invoke/MethodHandle" ∧ yX1_copy.cls ≠ "java/lang/invoke/VarHandle" ∧ (parseMethodDescriptor yX1_copy.desc).map (fun d => d.parameters.length) = some 1 := by decide +kernel
set_option maxRecDepth 100000 in
set_option maxHeartbeats 4000000 in
theorem kX1_copy (l : Launch) (D : va_G) (ad : Nat → Nat) (ca : Nat → ClassId) (g : Nat) (u : MS) (q_x : Int32) (hI : MI u) : CiM l yX1_copy cX1_copy 4 .int 3 D ad ca g [.int q_x] u (fm_copy u q_x) := by
  refine CiM.of (by decide) rfl (Nat.le_of_ble_eq_true rfl) ?_
  intro p e s m below meth c A ls E hS hl
  have hx := E.1.1
  have hb := E.1.2.1
  have hml := E.1.2.2.1
  have hown := E.1.2.2.2.1
  have hts := E.1.2.2.2.2
  have hl : lv_has ls 4 [(0, .ref (ad 0)), (1, .int q_x)] := hl
  refine lv_aload_n hx hb dX1_copy_0 rfl (lv_at hl 0 rfl) ?_
  refine lv_iload_n hx hb dX1_copy_1 rfl (lv_at hl 1 rfl) ?_
  refine EnM.calli (r := fm_mayBe u q_x) (u2 := u) E hS [.int q_x] [] (kX1_mayBe l D ad ca g u q_x ) gc_X1_79 hd_X1_mayBe ⟨Nat.le_of_ble_eq_true rfl, Nat.le_of_ble_eq_true rfl⟩ rfl hl.1 (Nat.le_of_ble_eq_true rfl) ⟨Nat.le_refl 0, Nat.le_refl 0⟩ dX1_copy_2 (fun H locs hS => ?_)
  refine lv_if_ne (tgt := 11) hx hb dX1_copy_5 (by decide) (fun h5 => ?_) (fun h5 => ?_)
  · refine lv_aload_n hx hb dX1_copy_11 rfl (lv_at hl 0 rfl) ?_
    refine gM_things (v := m_things u) E hS rfl dX1_copy_12 ?_
    refine lv_bipush (v := 60) hx hb dX1_copy_15 (by decide) ?_
    refine lv_icmp_ne (tgt := 23) hx hb dX1_copy_17 (by decide) (fun h17 => ?_) (fun h17 => ?_)
    · refine lv_iload_n hx hb dX1_copy_23 rfl (lv_at hl 1 rfl) ?_
      refine lv_iconst (v := (-1)) hx hb dX1_copy_24 (by decide) ?_
      refine lv_icmp_eq (tgt := 37) hx hb dX1_copy_25 (by decide) (fun h25 => ?_) (fun h25 => ?_)
      · refine lv_aload_n hx hb dX1_copy_37 rfl (lv_at hl 0 rfl) ?_
        refine lv_iload_n hx hb dX1_copy_38 rfl (lv_at hl 1 rfl) ?_
        refine lv_iconst (v := (-1)) hx hb dX1_copy_39 (by decide) ?_
        refine lv_icmp_ne (tgt := 47) hx hb dX1_copy_40 (by decide) (fun h40 => ?_) (fun h40 => ?_)
        · refine lv_iconst (v := 2) hx hb dX1_copy_47 (by decide) ?_
          refine EnM.calli (r := (fm_fails u 2).1) (u2 := (fm_fails u 2).2) E hS [.int 2] [] (kX1_fails l D ad ca g u 2 ) gc_X1_75 hd_X1_fails ⟨Nat.le_of_ble_eq_true rfl, Nat.le_of_ble_eq_true rfl⟩ rfl hl.1 (Nat.le_of_ble_eq_true rfl) ⟨Nat.le_refl 0, Nat.le_refl 0⟩ dX1_copy_48 (fun H locs hS => ?_)
          exact EnM.iret E hS (ni_i _) (by first | (simp only [fm_copy, if_neg h5, if_neg h17, if_pos h25, if_neg h40]; done) | (unfold fm_copy; rw [if_neg h5, if_neg h17, if_pos h25, if_neg h40])) dX1_copy_51
        · refine lv_iconst (v := 1) hx hb dX1_copy_43 (by decide) ?_
          refine lv_goto (tgt := 48) hx hb dX1_copy_44 (by decide) ?_
          refine EnM.calli (r := (fm_fails u 1).1) (u2 := (fm_fails u 1).2) E hS [.int 1] [] (kX1_fails l D ad ca g u 1 ) gc_X1_75 hd_X1_fails ⟨Nat.le_of_ble_eq_true rfl, Nat.le_of_ble_eq_true rfl⟩ rfl hl.1 (Nat.le_of_ble_eq_true rfl) ⟨Nat.le_refl 0, Nat.le_refl 0⟩ dX1_copy_48 (fun H locs hS => ?_)
          exact EnM.iret E hS (ni_i _) (by first | (simp only [fm_copy, if_neg h5, if_neg h17, if_pos h25, if_pos h40]; done) | (unfold fm_copy; rw [if_neg h5, if_neg h17, if_pos h25, if_pos h40])) dX1_copy_51
      · refine lv_aload_n hx hb dX1_copy_28 rfl (lv_at hl 0 rfl) ?_
        refine gM_depths E hS dX1_copy_29 ?_
        refine lv_iload_n hx hb dX1_copy_32 rfl (lv_at hl 1 rfl) ?_
        refine lM_depths (v := m_depths u (q_x).toNatClampNeg) E hS (show vp_in q_x 60 from by first | with_reducible assumption | (refine mt_in hI ?_; with_reducible assumption) | (refine mn_in hI ?_ ?_ <;> with_reducible assumption) | (refine mb_lt hI ?_; with_reducible assumption) | (refine m6_in hI ?_; with_reducible assumption)) rfl dX1_copy_33 ?_
        refine lv_if_ne (tgt := 52) hx hb dX1_copy_34 (by decide) (fun h34 => ?_) (fun h34 => ?_)
        · refine lv_aload_n hx hb dX1_copy_52 rfl (lv_at hl 0 rfl) ?_
          refine lv_aload_n hx hb dX1_copy_53 rfl (lv_at hl 0 rfl) ?_
          refine gM_bases E hS dX1_copy_54 ?_
          refine lv_iload_n hx hb dX1_copy_57 rfl (lv_at hl 1 rfl) ?_
          refine lM_bases (v := m_bases u (q_x).toNatClampNeg) E hS (show vp_in q_x 60 from by first | with_reducible assumption | (refine mt_in hI ?_; with_reducible assumption) | (refine mn_in hI ?_ ?_ <;> with_reducible assumption) | (refine mb_lt hI ?_; with_reducible assumption) | (refine m6_in hI ?_; with_reducible assumption)) rfl dX1_copy_58 ?_
          refine lv_aload_n hx hb dX1_copy_59 rfl (lv_at hl 0 rfl) ?_
          refine gM_depths E hS dX1_copy_60 ?_
          refine lv_iload_n hx hb dX1_copy_63 rfl (lv_at hl 1 rfl) ?_
          refine lM_depths (v := m_depths u (q_x).toNatClampNeg) E hS (show vp_in q_x 60 from by first | with_reducible assumption | (refine mt_in hI ?_; with_reducible assumption) | (refine mn_in hI ?_ ?_ <;> with_reducible assumption) | (refine mb_lt hI ?_; with_reducible assumption) | (refine m6_in hI ?_; with_reducible assumption)) rfl dX1_copy_64 ?_
          refine lv_aload_n hx hb dX1_copy_65 rfl (lv_at hl 0 rfl) ?_
          refine gM_sizes E hS dX1_copy_66 ?_
          refine lv_iload_n hx hb dX1_copy_69 rfl (lv_at hl 1 rfl) ?_
          refine lM_sizes (v := m_sizes u (q_x).toNatClampNeg) E hS (show vp_in q_x 60 from by first | with_reducible assumption | (refine mt_in hI ?_; with_reducible assumption) | (refine mn_in hI ?_ ?_ <;> with_reducible assumption) | (refine mb_lt hI ?_; with_reducible assumption) | (refine m6_in hI ?_; with_reducible assumption)) rfl dX1_copy_70 ?_
          refine lv_iconst (v := 0) hx hb dX1_copy_71 (by decide) ?_
          refine EnM.calli (r := (fm_make u (m_bases u (q_x).toNatClampNeg) (m_depths u (q_x).toNatClampNeg) (m_sizes u (q_x).toNatClampNeg) 0).1) (u2 := (fm_make u (m_bases u (q_x).toNatClampNeg) (m_depths u (q_x).toNatClampNeg) (m_sizes u (q_x).toNatClampNeg) 0).2) E hS [.int (m_bases u (q_x).toNatClampNeg), .int (m_depths u (q_x).toNatClampNeg), .int (m_sizes u (q_x).toNatClampNeg), .int 0] [] (kX1_make l D ad ca g u (m_bases u (q_x).toNatClampNeg) (m_depths u (q_x).toNatClampNeg) (m_sizes u (q_x).toNatClampNeg) 0 (by first | with_reducible assumption | (refine mt_in hI ?_; with_reducible assumption) | (refine mn_in hI ?_ ?_ <;> with_reducible assumption) | (refine mb_lt hI ?_; with_reducible assumption) | (refine m6_in hI ?_; with_reducible assumption))) gc_X1_68 hd_X1_make ⟨Nat.le_of_ble_eq_true rfl, Nat.le_of_ble_eq_true rfl⟩ rfl hl.1 (Nat.le_of_ble_eq_true rfl) ⟨Nat.le_refl 0, Nat.le_refl 0⟩ dX1_copy_72 (fun H locs hS => ?_)
          refine lv_istore_n (lv' := [(2, .int ((fm_make u (m_bases u (q_x).toNatClampNeg) (m_depths u (q_x).toNatClampNeg) (m_sizes u (q_x).toNatClampNeg) 0).1)), (0, .ref (ad 0)), (1, .int q_x)]) hx hb dX1_copy_75 rfl hl (by decide) rfl (fun ls hl => ?_)
          refine lv_iconst (v := 0) hx hb dX1_copy_76 (by decide) ?_
          refine lv_istore_n (lv' := [(3, .int 0), (2, .int ((fm_make u (m_bases u (q_x).toNatClampNeg) (m_depths u (q_x).toNatClampNeg) (m_sizes u (q_x).toNatClampNeg) 0).1)), (0, .ref (ad 0)), (1, .int q_x)]) hx hb dX1_copy_77 rfl hl (by decide) rfl (fun ls hl => ?_)
          have hr : fm_copy u q_x = fm_copy_L 9 ((fm_make u (m_bases u (q_x).toNatClampNeg) (m_depths u (q_x).toNatClampNeg) (m_sizes u (q_x).toNatClampNeg) 0).2) q_x ((fm_make u (m_bases u (q_x).toNatClampNeg) (m_depths u (q_x).toNatClampNeg) (m_sizes u (q_x).toNatClampNeg) 0).1) 0 := by unfold fm_copy; rw [if_neg h5, if_neg h17, if_neg h25, if_neg h34]
          have htc := m6_in hI h17
          rw [hr]
          exact loop_X1_copy_L l D ad ca g u  E 9 ((fm_make u (m_bases u (q_x).toNatClampNeg) (m_depths u (q_x).toNatClampNeg) (m_sizes u (q_x).toNatClampNeg) 0).2) q_x ((fm_make u (m_bases u (q_x).toNatClampNeg) (m_depths u (q_x).toNatClampNeg) (m_sizes u (q_x).toNatClampNeg) 0).1) 0 (mn_in hI (by with_reducible assumption) (by with_reducible assumption)) (by rw [mk_1 htc]; exact htc) (by rw [ti0]; omega) (by rw [ti0]; omega) _ _ ls hS (lv_sub hl [2, 3, 1, 0] rfl)
        · refine lv_aload_n hx hb dX1_copy_37 rfl (lv_at hl 0 rfl) ?_
          refine lv_iload_n hx hb dX1_copy_38 rfl (lv_at hl 1 rfl) ?_
          refine lv_iconst (v := (-1)) hx hb dX1_copy_39 (by decide) ?_
          refine lv_icmp_ne (tgt := 47) hx hb dX1_copy_40 (by decide) (fun h40 => ?_) (fun h40 => ?_)
          · refine lv_iconst (v := 2) hx hb dX1_copy_47 (by decide) ?_
            refine EnM.calli (r := (fm_fails u 2).1) (u2 := (fm_fails u 2).2) E hS [.int 2] [] (kX1_fails l D ad ca g u 2 ) gc_X1_75 hd_X1_fails ⟨Nat.le_of_ble_eq_true rfl, Nat.le_of_ble_eq_true rfl⟩ rfl hl.1 (Nat.le_of_ble_eq_true rfl) ⟨Nat.le_refl 0, Nat.le_refl 0⟩ dX1_copy_48 (fun H locs hS => ?_)
            exact EnM.iret E hS (ni_i _) (by first | (simp only [fm_copy, if_neg h5, if_neg h17, if_neg h25, if_pos h34, if_neg h40]; done) | (unfold fm_copy; rw [if_neg h5, if_neg h17, if_neg h25, if_pos h34, if_neg h40])) dX1_copy_51
          · refine lv_iconst (v := 1) hx hb dX1_copy_43 (by decide) ?_
            refine lv_goto (tgt := 48) hx hb dX1_copy_44 (by decide) ?_
            refine EnM.calli (r := (fm_fails u 1).1) (u2 := (fm_fails u 1).2) E hS [.int 1] [] (kX1_fails l D ad ca g u 1 ) gc_X1_75 hd_X1_fails ⟨Nat.le_of_ble_eq_true rfl, Nat.le_of_ble_eq_true rfl⟩ rfl hl.1 (Nat.le_of_ble_eq_true rfl) ⟨Nat.le_refl 0, Nat.le_refl 0⟩ dX1_copy_48 (fun H locs hS => ?_)
            exact EnM.iret E hS (ni_i _) (by first | (simp only [fm_copy, if_neg h5, if_neg h17, if_neg h25, if_pos h34, if_pos h40]; done) | (unfold fm_copy; rw [if_neg h5, if_neg h17, if_neg h25, if_pos h34, if_pos h40])) dX1_copy_51
    · refine lv_bipush (v := (-3)) hx hb dX1_copy_20 (by decide) ?_
      exact EnM.iret E hS (ni_i _) (by first | (simp only [fm_copy, if_neg h5, if_pos h17]; done) | (unfold fm_copy; rw [if_neg h5, if_pos h17])) dX1_copy_22
  · refine lv_bipush (v := (-2)) hx hb dX1_copy_8 (by decide) ?_
    exact EnM.iret E hS (ni_i _) (by first | (simp only [fm_copy, if_pos h5]; done) | (unfold fm_copy; rw [if_pos h5])) dX1_copy_10
def fm_through_L : Nat → MS → Int32 → Int32 → Int32 → Int32 → Int32 × MS
  | 0, w, q_x, q_k, q_n, v_4 => (0, w)
  | f_ + 1, w, q_x, q_k, q_n, v_4 => (if (q_k + q_n) ≤ v_4 then (if (m_last w) = (-1) then (1, w) else ((fm_fails w 2).1, (fm_fails w 2).2)) else (if (m_last w) = (-1) then (if q_x = (-1) then fm_through_L f_ (ms_last w (-1)) q_x q_k q_n (v_4 + 1) else (if (fm_isSuch w q_x (m_doorBase w (v_4).toNatClampNeg) (m_doorDepth w (v_4).toNatClampNeg)) = 0 then fm_through_L f_ (ms_last w v_4) q_x q_k q_n (v_4 + 1) else fm_through_L f_ (ms_last w (-1)) q_x q_k q_n (v_4 + 1))) else (if (m_last w) = (-1) then (1, w) else ((fm_fails w 2).1, (fm_fails w 2).2))))
set_option maxRecDepth 100000 in
set_option maxHeartbeats 4000000 in
theorem loop_X1_through_L {p : Program} {e : Env} {s : State} {m : MethodId} {below : List Frame} {meth : Method} {c : Code} {args : Array Value} {A : Nat → Prop} (l : Launch) (D : va_G) (ad : Nat → Nat) (ca : Nat → ClassId) (g : Nat) (u : MS) (E : EnM p s m c args cX1_through 5 meth (some .int) D ca g A) : ∀ (f_ : Nat) (w : MS) (q_x : Int32) (q_k : Int32) (q_n : Int32) (v_4 : Int32), q_x.toInt < 60 → (0 ≤ q_k.toInt ∧ 0 ≤ q_n.toInt ∧ q_k.toInt + q_n.toInt ≤ 8) → (q_k.toInt ≤ v_4.toInt ∧ v_4.toInt ≤ q_k.toInt + q_n.toInt) → q_k.toInt + q_n.toInt - v_4.toInt < (f_ : Int) → ∀ (H : Heap) (locs : List Loc) (ls : Array Slot), SM D ad ca A s w H locs → lv_has ls 5 [(0, .ref (ad 0)), (1, .int q_x), (2, .int q_k), (3, .int q_n), (4, .int v_4)] → W p l e (rk 4) s m args below meth c H locs 0 0 (MQ below (va_Qi (fun r' v => (r', v) = fm_through_L f_ w q_x q_k q_n v_4) (BkM D ad ca) A) args s 0 0 A) (F0 m 41 ls []) := by
  have hx := E.1.1
  have hb := E.1.2.1
  have hml := E.1.2.2.1
  have hown := E.1.2.2.2.1
  have hts := E.1.2.2.2.2
  intro f_
  induction f_ with
  | zero =>
    intro w q_x q_k q_n v_4 hx60 hkn hd hf H locs ls hS hl
    exfalso
    omega
  | succ f_ ih =>
    intro w q_x q_k q_n v_4 hx60 hkn hd hf H locs ls hS hl
    refine lv_iload hx hb dX1_through_41 (lv_at hl 4 rfl) ?_
    refine lv_iload_n hx hb dX1_through_43 rfl (lv_at hl 2 rfl) ?_
    refine lv_iload_n hx hb dX1_through_44 rfl (lv_at hl 3 rfl) ?_
    refine lv_iadd hx hb dX1_through_45 ?_
    refine lv_icmp_ge (tgt := 100) hx hb dX1_through_46 (by decide) (fun h46 => ?_) (fun h46 => ?_)
    · refine lv_aload_n hx hb dX1_through_100 rfl (lv_at hl 0 rfl) ?_
      refine gM_last (v := m_last w) E hS rfl dX1_through_101 ?_
      refine lv_iconst (v := (-1)) hx hb dX1_through_104 (by decide) ?_
      refine lv_icmp_ne (tgt := 112) hx hb dX1_through_105 (by decide) (fun h105 => ?_) (fun h105 => ?_)
      · refine lv_aload_n hx hb dX1_through_112 rfl (lv_at hl 0 rfl) ?_
        refine lv_iconst (v := 2) hx hb dX1_through_113 (by decide) ?_
        refine EnM.calli (r := (fm_fails w 2).1) (u2 := (fm_fails w 2).2) E hS [.int 2] [] (kX1_fails l D ad ca g w 2 ) gc_X1_75 hd_X1_fails ⟨Nat.le_of_ble_eq_true rfl, Nat.le_of_ble_eq_true rfl⟩ rfl hl.1 (Nat.le_of_ble_eq_true rfl) ⟨Nat.le_refl 0, Nat.le_refl 0⟩ dX1_through_114 (fun H locs hS => ?_)
        exact EnM.iret E hS (ni_i _) (by rw [fm_through_L, if_pos h46, if_neg h105]) dX1_through_117
      · refine lv_iconst (v := 1) hx hb dX1_through_108 (by decide) ?_
        refine lv_goto (tgt := 117) hx hb dX1_through_109 (by decide) ?_
        exact EnM.iret E hS (ni_i _) (by rw [fm_through_L, if_pos h46, if_pos h105]) dX1_through_117
    · have g46 := h46
      rw [le_ti, ti_add (by omega) (by omega)] at g46
      refine lv_aload_n hx hb dX1_through_49 rfl (lv_at hl 0 rfl) ?_
      refine gM_last (v := m_last w) E hS rfl dX1_through_50 ?_
      refine lv_iconst (v := (-1)) hx hb dX1_through_53 (by decide) ?_
      refine lv_icmp_ne (tgt := 100) hx hb dX1_through_54 (by decide) (fun h54 => ?_) (fun h54 => ?_)
      · refine lv_aload_n hx hb dX1_through_100 rfl (lv_at hl 0 rfl) ?_
        refine gM_last (v := m_last w) E hS rfl dX1_through_101 ?_
        refine lv_iconst (v := (-1)) hx hb dX1_through_104 (by decide) ?_
        refine lv_icmp_ne (tgt := 112) hx hb dX1_through_105 (by decide) (fun h105 => ?_) (fun h105 => ?_)
        · refine lv_aload_n hx hb dX1_through_112 rfl (lv_at hl 0 rfl) ?_
          refine lv_iconst (v := 2) hx hb dX1_through_113 (by decide) ?_
          refine EnM.calli (r := (fm_fails w 2).1) (u2 := (fm_fails w 2).2) E hS [.int 2] [] (kX1_fails l D ad ca g w 2 ) gc_X1_75 hd_X1_fails ⟨Nat.le_of_ble_eq_true rfl, Nat.le_of_ble_eq_true rfl⟩ rfl hl.1 (Nat.le_of_ble_eq_true rfl) ⟨Nat.le_refl 0, Nat.le_refl 0⟩ dX1_through_114 (fun H locs hS => ?_)
          exact EnM.iret E hS (ni_i _) (by rw [fm_through_L, if_neg h46, if_neg h54, if_neg h105]) dX1_through_117
        · refine lv_iconst (v := 1) hx hb dX1_through_108 (by decide) ?_
          refine lv_goto (tgt := 117) hx hb dX1_through_109 (by decide) ?_
          exact EnM.iret E hS (ni_i _) (by rw [fm_through_L, if_neg h46, if_neg h54, if_pos h105]) dX1_through_117
      · refine lv_aload_n hx hb dX1_through_57 rfl (lv_at hl 0 rfl) ?_
        refine lv_iload_n hx hb dX1_through_58 rfl (lv_at hl 1 rfl) ?_
        refine lv_iconst (v := (-1)) hx hb dX1_through_59 (by decide) ?_
        refine lv_icmp_eq (tgt := 85) hx hb dX1_through_60 (by decide) (fun h60 => ?_) (fun h60 => ?_)
        · refine lv_iconst (v := (-1)) hx hb dX1_through_85 (by decide) ?_
          refine lv_goto (tgt := 91) hx hb dX1_through_86 (by decide) ?_
          refine pM_last E hS dX1_through_91 (fun H locs hS => ?_)
          have hS : SM D ad ca A s (ms_last w (-1)) H locs := hS
          refine lv_iinc (v := v_4 + 1) (lv' := [(4, .int (v_4 + 1)), (0, .ref (ad 0)), (1, .int q_x), (2, .int q_k), (3, .int q_n)]) hx hb dX1_through_94 hl (k := 4) rfl rfl (by decide) rfl (fun ls hl => ?_)
          refine lv_goto (tgt := 41) hx hb dX1_through_97 (by decide) ?_
          have hr : fm_through_L (f_ + 1) w q_x q_k q_n v_4 = fm_through_L f_ (ms_last w (-1)) q_x q_k q_n (v_4 + 1) := by rw [fm_through_L, if_neg h46, if_pos h54, if_pos h60]
          have e4 : (v_4 + 1).toInt = v_4.toInt + 1 := ti_inc (by omega) (by omega)
          rw [hr]
          exact ih (ms_last w (-1)) q_x q_k q_n (v_4 + 1) hx60 hkn (by omega) (by omega) _ _ ls hS (lv_sub hl [1, 2, 3, 4, 0] rfl)
        · refine lv_aload_n hx hb dX1_through_63 rfl (lv_at hl 0 rfl) ?_
          refine lv_iload_n hx hb dX1_through_64 rfl (lv_at hl 1 rfl) ?_
          refine lv_aload_n hx hb dX1_through_65 rfl (lv_at hl 0 rfl) ?_
          refine gM_doorBase E hS dX1_through_66 ?_
          refine lv_iload hx hb dX1_through_69 (lv_at hl 4 rfl) ?_
          refine lM_doorBase (v := m_doorBase w (v_4).toNatClampNeg) E hS (show vp_in v_4 8 from (by rw [vp_in_iff]; omega)) rfl dX1_through_71 ?_
          refine lv_aload_n hx hb dX1_through_72 rfl (lv_at hl 0 rfl) ?_
          refine gM_doorDepth E hS dX1_through_73 ?_
          refine lv_iload hx hb dX1_through_76 (lv_at hl 4 rfl) ?_
          refine lM_doorDepth (v := m_doorDepth w (v_4).toNatClampNeg) E hS (show vp_in v_4 8 from (by rw [vp_in_iff]; omega)) rfl dX1_through_78 ?_
          refine EnM.calli (r := fm_isSuch w q_x (m_doorBase w (v_4).toNatClampNeg) (m_doorDepth w (v_4).toNatClampNeg)) (u2 := w) E hS [.int q_x, .int (m_doorBase w (v_4).toNatClampNeg), .int (m_doorDepth w (v_4).toNatClampNeg)] [.ref (ad 0)] (kX1_isSuch l D ad ca g w q_x (m_doorBase w (v_4).toNatClampNeg) (m_doorDepth w (v_4).toNatClampNeg) hx60) gc_X1_83 hd_X1_isSuch ⟨Nat.le_of_ble_eq_true rfl, Nat.le_of_ble_eq_true rfl⟩ rfl hl.1 (Nat.le_of_ble_eq_true rfl) ⟨Nat.le_refl 0, Nat.le_refl 0⟩ dX1_through_79 (fun H locs hS => ?_)
          refine lv_if_eq (tgt := 89) hx hb dX1_through_82 (by decide) (fun h82 => ?_) (fun h82 => ?_)
          · refine lv_iload hx hb dX1_through_89 (lv_at hl 4 rfl) ?_
            refine pM_last E hS dX1_through_91 (fun H locs hS => ?_)
            have hS : SM D ad ca A s (ms_last w v_4) H locs := hS
            refine lv_iinc (v := v_4 + 1) (lv' := [(4, .int (v_4 + 1)), (0, .ref (ad 0)), (1, .int q_x), (2, .int q_k), (3, .int q_n)]) hx hb dX1_through_94 hl (k := 4) rfl rfl (by decide) rfl (fun ls hl => ?_)
            refine lv_goto (tgt := 41) hx hb dX1_through_97 (by decide) ?_
            have hr : fm_through_L (f_ + 1) w q_x q_k q_n v_4 = fm_through_L f_ (ms_last w v_4) q_x q_k q_n (v_4 + 1) := by rw [fm_through_L, if_neg h46, if_pos h54, if_neg h60, if_pos h82]
            have e4 : (v_4 + 1).toInt = v_4.toInt + 1 := ti_inc (by omega) (by omega)
            rw [hr]
            exact ih (ms_last w v_4) q_x q_k q_n (v_4 + 1) hx60 hkn (by omega) (by omega) _ _ ls hS (lv_sub hl [1, 2, 3, 4, 0] rfl)
          · refine lv_iconst (v := (-1)) hx hb dX1_through_85 (by decide) ?_
            refine lv_goto (tgt := 91) hx hb dX1_through_86 (by decide) ?_
            refine pM_last E hS dX1_through_91 (fun H locs hS => ?_)
            have hS : SM D ad ca A s (ms_last w (-1)) H locs := hS
            refine lv_iinc (v := v_4 + 1) (lv' := [(4, .int (v_4 + 1)), (0, .ref (ad 0)), (1, .int q_x), (2, .int q_k), (3, .int q_n)]) hx hb dX1_through_94 hl (k := 4) rfl rfl (by decide) rfl (fun ls hl => ?_)
            refine lv_goto (tgt := 41) hx hb dX1_through_97 (by decide) ?_
            have hr : fm_through_L (f_ + 1) w q_x q_k q_n v_4 = fm_through_L f_ (ms_last w (-1)) q_x q_k q_n (v_4 + 1) := by rw [fm_through_L, if_neg h46, if_pos h54, if_neg h60, if_neg h82]
            have e4 : (v_4 + 1).toInt = v_4.toInt + 1 := ti_inc (by omega) (by omega)
            rw [hr]
            exact ih (ms_last w (-1)) q_x q_k q_n (v_4 + 1) hx60 hkn (by omega) (by omega) _ _ ls hS (lv_sub hl [1, 2, 3, 4, 0] rfl)
def fm_through (u : MS) (q_x : Int32) (q_k : Int32) (q_n : Int32) : Int32 × MS := if (fm_mayBe u q_x) = 0 then ((-2), u) else (if (fm_isIn q_k 0 7) = 0 then ((-2), u) else (if (fm_isIn q_n 0 (8 - q_k)) = 0 then ((-2), u) else fm_through_L 9 (ms_last u (-1)) q_x q_k q_n q_k))
theorem hd_X1_through : yX1_through.cls = RX1 ∧ yX1_through.cls ≠ "java/lang/invoke/MethodHandle" ∧ yX1_through.cls ≠ "java/lang/invoke/VarHandle" ∧ (parseMethodDescriptor yX1_through.desc).map (fun d => d.parameters.length) = some 3 := by decide +kernel
set_option maxRecDepth 100000 in
set_option maxHeartbeats 4000000 in
theorem kX1_through (l : Launch) (D : va_G) (ad : Nat → Nat) (ca : Nat → ClassId) (g : Nat) (u : MS) (q_x : Int32) (q_k : Int32) (q_n : Int32) (hI : MI u) : CiM l yX1_through cX1_through 5 .int 4 D ad ca g [.int q_x, .int q_k, .int q_n] u (fm_through u q_x q_k q_n) := by
  refine CiM.of (by decide) rfl (Nat.le_of_ble_eq_true rfl) ?_
  intro p e s m below meth c A ls E hS hl
  have hx := E.1.1
  have hb := E.1.2.1
  have hml := E.1.2.2.1
  have hown := E.1.2.2.2.1
  have hts := E.1.2.2.2.2
  have hl : lv_has ls 5 [(0, .ref (ad 0)), (1, .int q_x), (2, .int q_k), (3, .int q_n)] := hl
  refine lv_aload_n hx hb dX1_through_0 rfl (lv_at hl 0 rfl) ?_
  refine lv_iload_n hx hb dX1_through_1 rfl (lv_at hl 1 rfl) ?_
  refine EnM.calli (r := fm_mayBe u q_x) (u2 := u) E hS [.int q_x] [] (kX1_mayBe l D ad ca g u q_x ) gc_X1_79 hd_X1_mayBe ⟨Nat.le_of_ble_eq_true rfl, Nat.le_of_ble_eq_true rfl⟩ rfl hl.1 (Nat.le_of_ble_eq_true rfl) ⟨Nat.le_refl 0, Nat.le_refl 0⟩ dX1_through_2 (fun H locs hS => ?_)
  refine lv_if_eq (tgt := 30) hx hb dX1_through_5 (by decide) (fun h5 => ?_) (fun h5 => ?_)
  · refine lv_bipush (v := (-2)) hx hb dX1_through_30 (by decide) ?_
    exact EnM.iret E hS (ni_i _) (by first | (simp only [fm_through, if_pos h5]; done) | (unfold fm_through; rw [if_pos h5])) dX1_through_32
  · refine lv_iload_n hx hb dX1_through_8 rfl (lv_at hl 2 rfl) ?_
    refine lv_iconst (v := 0) hx hb dX1_through_9 (by decide) ?_
    refine lv_bipush (v := 7) hx hb dX1_through_10 (by decide) ?_
    refine EnM.sti (r := fm_isIn q_k 0 7) E hS [.int q_k, .int 0, .int 7] [] (kX1_isIn l q_k 0 7 ) (fun _ _ _ _ h => h) (fun _ _ _ => trivial) gc_X1_60 hd_X1_isIn ⟨Nat.le_of_ble_eq_true rfl, Nat.le_of_ble_eq_true rfl⟩ rfl hl.1 (Nat.le_of_ble_eq_true rfl) ⟨Nat.le_refl 0, Nat.le_refl 0⟩ dX1_through_12 (fun H locs hS => ?_)
    refine lv_if_eq (tgt := 30) hx hb dX1_through_15 (by decide) (fun h15 => ?_) (fun h15 => ?_)
    · refine lv_bipush (v := (-2)) hx hb dX1_through_30 (by decide) ?_
      exact EnM.iret E hS (ni_i _) (by first | (simp only [fm_through, if_neg h5, if_pos h15]; done) | (unfold fm_through; rw [if_neg h5, if_pos h15])) dX1_through_32
    · refine lv_iload_n hx hb dX1_through_18 rfl (lv_at hl 3 rfl) ?_
      refine lv_iconst (v := 0) hx hb dX1_through_19 (by decide) ?_
      refine lv_bipush (v := 8) hx hb dX1_through_20 (by decide) ?_
      refine lv_iload_n hx hb dX1_through_22 rfl (lv_at hl 2 rfl) ?_
      refine lv_isub hx hb dX1_through_23 ?_
      refine EnM.sti (r := fm_isIn q_n 0 (8 - q_k)) E hS [.int q_n, .int 0, .int (8 - q_k)] [] (kX1_isIn l q_n 0 (8 - q_k) ) (fun _ _ _ _ h => h) (fun _ _ _ => trivial) gc_X1_60 hd_X1_isIn ⟨Nat.le_of_ble_eq_true rfl, Nat.le_of_ble_eq_true rfl⟩ rfl hl.1 (Nat.le_of_ble_eq_true rfl) ⟨Nat.le_refl 0, Nat.le_refl 0⟩ dX1_through_24 (fun H locs hS => ?_)
      refine lv_if_ne (tgt := 33) hx hb dX1_through_27 (by decide) (fun h27 => ?_) (fun h27 => ?_)
      · refine lv_aload_n hx hb dX1_through_33 rfl (lv_at hl 0 rfl) ?_
        refine lv_iconst (v := (-1)) hx hb dX1_through_34 (by decide) ?_
        refine pM_last E hS dX1_through_35 (fun H locs hS => ?_)
        have hS : SM D ad ca A s (ms_last u (-1)) H locs := hS
        refine lv_iload_n hx hb dX1_through_38 rfl (lv_at hl 2 rfl) ?_
        refine lv_istore (lv' := [(4, .int q_k), (0, .ref (ad 0)), (1, .int q_x), (2, .int q_k), (3, .int q_n)]) hx hb dX1_through_39 hl (by decide) rfl (fun ls hl => ?_)
        have hr : fm_through u q_x q_k q_n = fm_through_L 9 (ms_last u (-1)) q_x q_k q_n q_k := by unfold fm_through; rw [if_neg h5, if_neg h15, if_neg h27]
        have hk8 := md_in h15
        have b1 := isIn_iff.mp h27
        rw [xk8 hk8, ti0] at b1
        rw [vp_in_iff] at hk8
        rw [hr]
        exact loop_X1_through_L l D ad ca g u  E 9 (ms_last u (-1)) q_x q_k q_n q_k (mb_lt hI h5) (by omega) (by omega) (by omega) _ _ ls hS (lv_sub hl [1, 2, 3, 4, 0] rfl)
      · refine lv_bipush (v := (-2)) hx hb dX1_through_30 (by decide) ?_
        exact EnM.iret E hS (ni_i _) (by first | (simp only [fm_through, if_neg h5, if_neg h15, if_pos h27]; done) | (unfold fm_through; rw [if_neg h5, if_neg h15, if_pos h27])) dX1_through_32
def fm_grid_L : Nat → MS → Int32 → Int32 → Int32 → Int32 → Int32 → Int32 × MS
  | 0, w, q_base, q_n, q_m, v_4, v_5 => (0, w)
  | f_ + 1, w, q_base, q_n, q_m, v_4, v_5 => (if q_n ≤ v_5 then (v_4, w) else fm_grid_L f_ (ms_lies ((fm_make w q_base 1 q_m 0).2) (upd (m_lies ((fm_make w q_base 1 q_m 0).2)) ((8 * v_4) + v_5).toNatClampNeg ((fm_make w q_base 1 q_m 0).1))) q_base q_n q_m v_4 (v_5 + 1))
set_option maxRecDepth 100000 in
set_option maxHeartbeats 4000000 in
theorem loop_X1_grid_L {p : Program} {e : Env} {s : State} {m : MethodId} {below : List Frame} {meth : Method} {c : Code} {args : Array Value} {A : Nat → Prop} (l : Launch) (D : va_G) (ad : Nat → Nat) (ca : Nat → ClassId) (g : Nat) (u : MS) (E : EnM p s m c args cX1_grid 6 meth (some .int) D ca g A) : ∀ (f_ : Nat) (w : MS) (q_base : Int32) (q_n : Int32) (q_m : Int32) (v_4 : Int32) (v_5 : Int32), vp_in v_4 60 → (0 ≤ q_n.toInt ∧ q_n.toInt ≤ 8) → (0 ≤ v_5.toInt ∧ v_5.toInt ≤ q_n.toInt) → (0 ≤ (m_things w).toInt ∧ (m_things w).toInt + (q_n.toInt - v_5.toInt) ≤ 60) → q_n.toInt - v_5.toInt < (f_ : Int) → ∀ (H : Heap) (locs : List Loc) (ls : Array Slot), SM D ad ca A s w H locs → lv_has ls 6 [(0, .ref (ad 0)), (1, .int q_base), (2, .int q_n), (3, .int q_m), (4, .int v_4), (5, .int v_5)] → W p l e (rk 2) s m args below meth c H locs 0 0 (MQ below (va_Qi (fun r' v => (r', v) = fm_grid_L f_ w q_base q_n q_m v_4 v_5) (BkM D ad ca) A) args s 0 0 A) (F0 m 76 ls []) := by
  have hx := E.1.1
  have hb := E.1.2.1
  have hml := E.1.2.2.1
  have hown := E.1.2.2.2.1
  have hts := E.1.2.2.2.2
  intro f_
  induction f_ with
  | zero =>
    intro w q_base q_n q_m v_4 v_5 hr4 hn hi hw hf H locs ls hS hl
    exfalso
    omega
  | succ f_ ih =>
    intro w q_base q_n q_m v_4 v_5 hr4 hn hi hw hf H locs ls hS hl
    refine lv_iload hx hb dX1_grid_76 (lv_at hl 5 rfl) ?_
    refine lv_iload_n hx hb dX1_grid_78 rfl (lv_at hl 2 rfl) ?_
    refine lv_icmp_ge (tgt := 109) hx hb dX1_grid_79 (by decide) (fun h79 => ?_) (fun h79 => ?_)
    · refine lv_iload hx hb dX1_grid_109 (lv_at hl 4 rfl) ?_
      exact EnM.iret E hS (ni_i _) (by rw [fm_grid_L, if_pos h79]) dX1_grid_111
    · have g79 := h79
      rw [le_ti] at g79
      refine lv_aload_n hx hb dX1_grid_82 rfl (lv_at hl 0 rfl) ?_
      refine gM_lies E hS dX1_grid_83 ?_
      refine lv_bipush (v := 8) hx hb dX1_grid_86 (by decide) ?_
      refine lv_iload hx hb dX1_grid_88 (lv_at hl 4 rfl) ?_
      refine lv_imul hx hb dX1_grid_90 ?_
      refine lv_iload hx hb dX1_grid_91 (lv_at hl 5 rfl) ?_
      refine lv_iadd hx hb dX1_grid_93 ?_
      refine lv_aload_n hx hb dX1_grid_94 rfl (lv_at hl 0 rfl) ?_
      refine lv_iload_n hx hb dX1_grid_95 rfl (lv_at hl 1 rfl) ?_
      refine lv_iconst (v := 1) hx hb dX1_grid_96 (by decide) ?_
      refine lv_iload_n hx hb dX1_grid_97 rfl (lv_at hl 3 rfl) ?_
      refine lv_iconst (v := 0) hx hb dX1_grid_98 (by decide) ?_
      refine EnM.calli (r := (fm_make w q_base 1 q_m 0).1) (u2 := (fm_make w q_base 1 q_m 0).2) E hS [.int q_base, .int 1, .int q_m, .int 0] [.int ((8 * v_4) + v_5), .ref (ad 5)] (kX1_make l D ad ca g w q_base 1 q_m 0 (by rw [vp_in_iff]; omega)) gc_X1_68 hd_X1_make ⟨Nat.le_of_ble_eq_true rfl, Nat.le_of_ble_eq_true rfl⟩ rfl hl.1 (Nat.le_of_ble_eq_true rfl) ⟨Nat.le_refl 0, Nat.le_refl 0⟩ dX1_grid_99 (fun H locs hS => ?_)
      refine sM_lies E hS (show vp_in ((8 * v_4) + v_5) 480 from mi_in hr4 (by omega) (by omega)) dX1_grid_102 (fun H locs hS => ?_)
      have hS : SM D ad ca A s (ms_lies ((fm_make w q_base 1 q_m 0).2) (upd (m_lies ((fm_make w q_base 1 q_m 0).2)) ((8 * v_4) + v_5).toNatClampNeg ((fm_make w q_base 1 q_m 0).1))) H locs := hS
      refine lv_iinc (v := v_5 + 1) (lv' := [(5, .int (v_5 + 1)), (0, .ref (ad 0)), (1, .int q_base), (2, .int q_n), (3, .int q_m), (4, .int v_4)]) hx hb dX1_grid_103 hl (k := 5) rfl rfl (by decide) rfl (fun ls hl => ?_)
      refine lv_goto (tgt := 76) hx hb dX1_grid_106 (by decide) ?_
      have hr : fm_grid_L (f_ + 1) w q_base q_n q_m v_4 v_5 = fm_grid_L f_ (ms_lies ((fm_make w q_base 1 q_m 0).2) (upd (m_lies ((fm_make w q_base 1 q_m 0).2)) ((8 * v_4) + v_5).toNatClampNeg ((fm_make w q_base 1 q_m 0).1))) q_base q_n q_m v_4 (v_5 + 1) := by rw [fm_grid_L, if_neg h79]
      have e5 : (v_5 + 1).toInt = v_5.toInt + 1 := ti_inc (by omega) (by omega)
      have ew : m_things (ms_lies ((fm_make w q_base 1 q_m 0).2) (upd (m_lies ((fm_make w q_base 1 q_m 0).2)) ((8 * v_4) + v_5).toNatClampNeg ((fm_make w q_base 1 q_m 0).1))) = m_things w + 1 := by rw [m_things_lies, mk_t (by rw [vp_in_iff]; omega)]
      have et : (m_things w + 1).toInt = (m_things w).toInt + 1 := ti_inc (by omega) (by omega)
      rw [hr]
      exact ih (ms_lies ((fm_make w q_base 1 q_m 0).2) (upd (m_lies ((fm_make w q_base 1 q_m 0).2)) ((8 * v_4) + v_5).toNatClampNeg ((fm_make w q_base 1 q_m 0).1))) q_base q_n q_m v_4 (v_5 + 1) hr4 hn (by omega) (by rw [ew]; omega) (by omega) _ _ ls hS (lv_sub hl [1, 2, 3, 4, 5, 0] rfl)
def fm_grid (u : MS) (q_base : Int32) (q_n : Int32) (q_m : Int32) : Int32 × MS := if (fm_isIn q_base 0 6) = 0 then ((-2), u) else (if 8 < q_n then ((-2), u) else (if q_m ≤ 8 then (if 0 ≤ q_n then (if (((m_things u) + 1) + q_n) ≤ 60 then (if q_n < 0 then ((fm_fails u 5).1, (fm_fails u 5).2) else (if 0 ≤ q_m then fm_grid_L 9 ((fm_make u q_base 2 q_n 0).2) q_base q_n q_m ((fm_make u q_base 2 q_n 0).1) 0 else ((fm_fails u 5).1, (fm_fails u 5).2))) else ((-3), u)) else (if (((m_things u) + 1) + 0) ≤ 60 then (if q_n < 0 then ((fm_fails u 5).1, (fm_fails u 5).2) else (if 0 ≤ q_m then (0, u) else ((fm_fails u 5).1, (fm_fails u 5).2))) else ((-3), u))) else ((-2), u)))
theorem hd_X1_grid : yX1_grid.cls = RX1 ∧ yX1_grid.cls ≠ "java/lang/invoke/MethodHandle" ∧ yX1_grid.cls ≠ "java/lang/invoke/VarHandle" ∧ (parseMethodDescriptor yX1_grid.desc).map (fun d => d.parameters.length) = some 3 := by decide +kernel
set_option maxRecDepth 100000 in
set_option maxHeartbeats 4000000 in
theorem kX1_grid (l : Launch) (D : va_G) (ad : Nat → Nat) (ca : Nat → ClassId) (g : Nat) (u : MS) (q_base : Int32) (q_n : Int32) (q_m : Int32) (hI : MI u) : CiM l yX1_grid cX1_grid 6 .int 2 D ad ca g [.int q_base, .int q_n, .int q_m] u (fm_grid u q_base q_n q_m) := by
  refine CiM.of (by decide) rfl (Nat.le_of_ble_eq_true rfl) ?_
  intro p e s m below meth c A ls E hS hl
  have hx := E.1.1
  have hb := E.1.2.1
  have hml := E.1.2.2.1
  have hown := E.1.2.2.2.1
  have hts := E.1.2.2.2.2
  have hl : lv_has ls 6 [(0, .ref (ad 0)), (1, .int q_base), (2, .int q_n), (3, .int q_m)] := hl
  refine lv_iload_n hx hb dX1_grid_0 rfl (lv_at hl 1 rfl) ?_
  refine lv_iconst (v := 0) hx hb dX1_grid_1 (by decide) ?_
  refine lv_bipush (v := 6) hx hb dX1_grid_2 (by decide) ?_
  refine EnM.sti (r := fm_isIn q_base 0 6) E hS [.int q_base, .int 0, .int 6] [] (kX1_isIn l q_base 0 6 ) (fun _ _ _ _ h => h) (fun _ _ _ => trivial) gc_X1_60 hd_X1_isIn ⟨Nat.le_of_ble_eq_true rfl, Nat.le_of_ble_eq_true rfl⟩ rfl hl.1 (Nat.le_of_ble_eq_true rfl) ⟨Nat.le_refl 0, Nat.le_refl 0⟩ dX1_grid_4 (fun H locs hS => ?_)
  refine lv_if_eq (tgt := 22) hx hb dX1_grid_7 (by decide) (fun h7 => ?_) (fun h7 => ?_)
  · refine lv_bipush (v := (-2)) hx hb dX1_grid_22 (by decide) ?_
    exact EnM.iret E hS (ni_i _) (by first | (simp only [fm_grid, if_pos h7]; done) | (unfold fm_grid; rw [if_pos h7])) dX1_grid_24
  · refine lv_iload_n hx hb dX1_grid_10 rfl (lv_at hl 2 rfl) ?_
    refine lv_bipush (v := 8) hx hb dX1_grid_11 (by decide) ?_
    refine lv_icmp_gt (tgt := 22) hx hb dX1_grid_13 (by decide) (fun h13 => ?_) (fun h13 => ?_)
    · refine lv_bipush (v := (-2)) hx hb dX1_grid_22 (by decide) ?_
      exact EnM.iret E hS (ni_i _) (by first | (simp only [fm_grid, if_neg h7, if_pos h13]; done) | (unfold fm_grid; rw [if_neg h7, if_pos h13])) dX1_grid_24
    · refine lv_iload_n hx hb dX1_grid_16 rfl (lv_at hl 3 rfl) ?_
      refine lv_bipush (v := 8) hx hb dX1_grid_17 (by decide) ?_
      refine lv_icmp_le (tgt := 25) hx hb dX1_grid_19 (by decide) (fun h19 => ?_) (fun h19 => ?_)
      · refine lv_aload_n hx hb dX1_grid_25 rfl (lv_at hl 0 rfl) ?_
        refine gM_things (v := m_things u) E hS rfl dX1_grid_26 ?_
        refine lv_iconst (v := 1) hx hb dX1_grid_29 (by decide) ?_
        refine lv_iadd hx hb dX1_grid_30 ?_
        refine lv_iload_n hx hb dX1_grid_31 rfl (lv_at hl 2 rfl) ?_
        refine lv_if_ge (tgt := 39) hx hb dX1_grid_32 (by decide) (fun h32 => ?_) (fun h32 => ?_)
        · refine lv_iload_n hx hb dX1_grid_39 rfl (lv_at hl 2 rfl) ?_
          refine lv_iadd hx hb dX1_grid_40 ?_
          refine lv_bipush (v := 60) hx hb dX1_grid_41 (by decide) ?_
          refine lv_icmp_le (tgt := 49) hx hb dX1_grid_43 (by decide) (fun h43 => ?_) (fun h43 => ?_)
          · refine lv_iload_n hx hb dX1_grid_49 rfl (lv_at hl 2 rfl) ?_
            refine lv_if_lt (tgt := 57) hx hb dX1_grid_50 (by decide) (fun h50 => ?_) (fun h50 => ?_)
            · refine lv_aload_n hx hb dX1_grid_57 rfl (lv_at hl 0 rfl) ?_
              refine lv_iconst (v := 5) hx hb dX1_grid_58 (by decide) ?_
              refine EnM.calli (r := (fm_fails u 5).1) (u2 := (fm_fails u 5).2) E hS [.int 5] [] (kX1_fails l D ad ca g u 5 ) gc_X1_75 hd_X1_fails ⟨Nat.le_of_ble_eq_true rfl, Nat.le_of_ble_eq_true rfl⟩ rfl hl.1 (Nat.le_of_ble_eq_true rfl) ⟨Nat.le_refl 0, Nat.le_refl 0⟩ dX1_grid_59 (fun H locs hS => ?_)
              exact EnM.iret E hS (ni_i _) (by first | (simp only [fm_grid, if_neg h7, if_neg h13, if_pos h19, if_pos h32, if_pos h43, if_pos h50]; done) | (unfold fm_grid; rw [if_neg h7, if_neg h13, if_pos h19, if_pos h32, if_pos h43, if_pos h50])) dX1_grid_62
            · refine lv_iload_n hx hb dX1_grid_53 rfl (lv_at hl 3 rfl) ?_
              refine lv_if_ge (tgt := 63) hx hb dX1_grid_54 (by decide) (fun h54 => ?_) (fun h54 => ?_)
              · have hI1 := hI.1
                have g13 := h13
                rw [lt_ti, ti8] at g13
                have e1 : (m_things u + 1).toInt = (m_things u).toInt + 1 := ti_inc (by omega) (by omega)
                have g43 := h43
                have g32 := h32
                rw [le_ti, ti0] at g32
                rw [le_ti, ti_add (by omega) (by omega), ti60] at g43
                have hg : (m_things u).toInt + 1 + q_n.toInt ≤ 60 := by omega
                have hn8 : 0 ≤ q_n.toInt ∧ q_n.toInt ≤ 8 := by omega
                have htc : vp_in (m_things u) 60 := by rw [vp_in_iff]; omega
                refine lv_aload_n hx hb dX1_grid_63 rfl (lv_at hl 0 rfl) ?_
                refine lv_iload_n hx hb dX1_grid_64 rfl (lv_at hl 1 rfl) ?_
                refine lv_iconst (v := 2) hx hb dX1_grid_65 (by decide) ?_
                refine lv_iload_n hx hb dX1_grid_66 rfl (lv_at hl 2 rfl) ?_
                refine lv_iconst (v := 0) hx hb dX1_grid_67 (by decide) ?_
                refine EnM.calli (r := (fm_make u q_base 2 q_n 0).1) (u2 := (fm_make u q_base 2 q_n 0).2) E hS [.int q_base, .int 2, .int q_n, .int 0] [] (kX1_make l D ad ca g u q_base 2 q_n 0 htc) gc_X1_68 hd_X1_make ⟨Nat.le_of_ble_eq_true rfl, Nat.le_of_ble_eq_true rfl⟩ rfl hl.1 (Nat.le_of_ble_eq_true rfl) ⟨Nat.le_refl 0, Nat.le_refl 0⟩ dX1_grid_68 (fun H locs hS => ?_)
                refine lv_istore (lv' := [(4, .int ((fm_make u q_base 2 q_n 0).1)), (0, .ref (ad 0)), (1, .int q_base), (2, .int q_n), (3, .int q_m)]) hx hb dX1_grid_71 hl (by decide) rfl (fun ls hl => ?_)
                refine lv_iconst (v := 0) hx hb dX1_grid_73 (by decide) ?_
                refine lv_istore (lv' := [(5, .int 0), (4, .int ((fm_make u q_base 2 q_n 0).1)), (0, .ref (ad 0)), (1, .int q_base), (2, .int q_n), (3, .int q_m)]) hx hb dX1_grid_74 hl (by decide) rfl (fun ls hl => ?_)
                have hr : fm_grid u q_base q_n q_m = fm_grid_L 9 ((fm_make u q_base 2 q_n 0).2) q_base q_n q_m ((fm_make u q_base 2 q_n 0).1) 0 := by unfold fm_grid; rw [if_neg h7, if_neg h13, if_pos h19, if_pos h32, if_pos h43, if_neg h50, if_pos h54]
                have ha1 := mk_1 (b := q_base) (d := 2) (n := q_n) (wo := 0) htc
                have ha2 := mk_t (b := q_base) (d := 2) (n := q_n) (wo := 0) htc
                rw [hr]
                exact loop_X1_grid_L l D ad ca g u  E 9 ((fm_make u q_base 2 q_n 0).2) q_base q_n q_m ((fm_make u q_base 2 q_n 0).1) 0 (by rw [ha1]; exact htc) hn8 (by rw [ti0]; omega) (by rw [ha2, ti0]; omega) (by rw [ti0]; omega) _ _ ls hS (lv_sub hl [2, 3, 4, 5, 1, 0] rfl)
              · refine lv_aload_n hx hb dX1_grid_57 rfl (lv_at hl 0 rfl) ?_
                refine lv_iconst (v := 5) hx hb dX1_grid_58 (by decide) ?_
                refine EnM.calli (r := (fm_fails u 5).1) (u2 := (fm_fails u 5).2) E hS [.int 5] [] (kX1_fails l D ad ca g u 5 ) gc_X1_75 hd_X1_fails ⟨Nat.le_of_ble_eq_true rfl, Nat.le_of_ble_eq_true rfl⟩ rfl hl.1 (Nat.le_of_ble_eq_true rfl) ⟨Nat.le_refl 0, Nat.le_refl 0⟩ dX1_grid_59 (fun H locs hS => ?_)
                exact EnM.iret E hS (ni_i _) (by first | (simp only [fm_grid, if_neg h7, if_neg h13, if_pos h19, if_pos h32, if_pos h43, if_neg h50, if_neg h54]; done) | (unfold fm_grid; rw [if_neg h7, if_neg h13, if_pos h19, if_pos h32, if_pos h43, if_neg h50, if_neg h54])) dX1_grid_62
          · refine lv_bipush (v := (-3)) hx hb dX1_grid_46 (by decide) ?_
            exact EnM.iret E hS (ni_i _) (by first | (simp only [fm_grid, if_neg h7, if_neg h13, if_pos h19, if_pos h32, if_neg h43]; done) | (unfold fm_grid; rw [if_neg h7, if_neg h13, if_pos h19, if_pos h32, if_neg h43])) dX1_grid_48
        · refine lv_iconst (v := 0) hx hb dX1_grid_35 (by decide) ?_
          refine lv_goto (tgt := 40) hx hb dX1_grid_36 (by decide) ?_
          refine lv_iadd hx hb dX1_grid_40 ?_
          refine lv_bipush (v := 60) hx hb dX1_grid_41 (by decide) ?_
          refine lv_icmp_le (tgt := 49) hx hb dX1_grid_43 (by decide) (fun h43 => ?_) (fun h43 => ?_)
          · refine lv_iload_n hx hb dX1_grid_49 rfl (lv_at hl 2 rfl) ?_
            refine lv_if_lt (tgt := 57) hx hb dX1_grid_50 (by decide) (fun h50 => ?_) (fun h50 => ?_)
            · refine lv_aload_n hx hb dX1_grid_57 rfl (lv_at hl 0 rfl) ?_
              refine lv_iconst (v := 5) hx hb dX1_grid_58 (by decide) ?_
              refine EnM.calli (r := (fm_fails u 5).1) (u2 := (fm_fails u 5).2) E hS [.int 5] [] (kX1_fails l D ad ca g u 5 ) gc_X1_75 hd_X1_fails ⟨Nat.le_of_ble_eq_true rfl, Nat.le_of_ble_eq_true rfl⟩ rfl hl.1 (Nat.le_of_ble_eq_true rfl) ⟨Nat.le_refl 0, Nat.le_refl 0⟩ dX1_grid_59 (fun H locs hS => ?_)
              exact EnM.iret E hS (ni_i _) (by first | (simp only [fm_grid, if_neg h7, if_neg h13, if_pos h19, if_neg h32, if_pos h43, if_pos h50]; done) | (unfold fm_grid; rw [if_neg h7, if_neg h13, if_pos h19, if_neg h32, if_pos h43, if_pos h50])) dX1_grid_62
            · refine lv_iload_n hx hb dX1_grid_53 rfl (lv_at hl 3 rfl) ?_
              refine lv_if_ge (tgt := 63) hx hb dX1_grid_54 (by decide) (fun h54 => ?_) (fun h54 => ?_)
              · have hI1 := hI.1
                have g13 := h13
                rw [lt_ti, ti8] at g13
                have e1 : (m_things u + 1).toInt = (m_things u).toInt + 1 := ti_inc (by omega) (by omega)
                have g43 := h43
                have g32 := h32
                have g50 := h50
                rw [le_ti, ti0] at g32
                rw [lt_ti, ti0] at g50
                exfalso
                omega
              · refine lv_aload_n hx hb dX1_grid_57 rfl (lv_at hl 0 rfl) ?_
                refine lv_iconst (v := 5) hx hb dX1_grid_58 (by decide) ?_
                refine EnM.calli (r := (fm_fails u 5).1) (u2 := (fm_fails u 5).2) E hS [.int 5] [] (kX1_fails l D ad ca g u 5 ) gc_X1_75 hd_X1_fails ⟨Nat.le_of_ble_eq_true rfl, Nat.le_of_ble_eq_true rfl⟩ rfl hl.1 (Nat.le_of_ble_eq_true rfl) ⟨Nat.le_refl 0, Nat.le_refl 0⟩ dX1_grid_59 (fun H locs hS => ?_)
                exact EnM.iret E hS (ni_i _) (by first | (simp only [fm_grid, if_neg h7, if_neg h13, if_pos h19, if_neg h32, if_pos h43, if_neg h50, if_neg h54]; done) | (unfold fm_grid; rw [if_neg h7, if_neg h13, if_pos h19, if_neg h32, if_pos h43, if_neg h50, if_neg h54])) dX1_grid_62
          · refine lv_bipush (v := (-3)) hx hb dX1_grid_46 (by decide) ?_
            exact EnM.iret E hS (ni_i _) (by first | (simp only [fm_grid, if_neg h7, if_neg h13, if_pos h19, if_neg h32, if_neg h43]; done) | (unfold fm_grid; rw [if_neg h7, if_neg h13, if_pos h19, if_neg h32, if_neg h43])) dX1_grid_48
      · refine lv_bipush (v := (-2)) hx hb dX1_grid_22 (by decide) ?_
        exact EnM.iret E hS (ni_i _) (by first | (simp only [fm_grid, if_neg h7, if_neg h13, if_neg h19]; done) | (unfold fm_grid; rw [if_neg h7, if_neg h13, if_neg h19])) dX1_grid_24
end
