def RX0 : String := "DepotTrays"
def TX0 : u_T := fun k => match k with
  | 0 => ("DepotTrays", "thingBase", "[I", true)
  | 1 => ("DepotTrays", "thingDepth", "[I", true)
  | 2 => ("DepotTrays", "thingSize", "[I", true)
  | 3 => ("DepotTrays", "pieceWorth", "[I", true)
  | 4 => ("DepotTrays", "places", "[J", true)
  | 5 => ("DepotTrays", "doorBase", "[I", true)
  | 6 => ("DepotTrays", "doorDepth", "[I", true)
  | 7 => ("DepotTrays", "thingCount", "I", false)
  | 8 => ("DepotTrays", "failureCount", "I", false)
  | 9 => ("DepotTrays", "latestFailure", "I", false)
  | _ => ("DepotTrays", "closedDoor", "I", false)
def tyX0 : Nat → FieldType := fun k => match k with
  | 0 => .array .int
  | 1 => .array .int
  | 2 => .array .int
  | 3 => .array .int
  | 4 => .array .long
  | 5 => .array .int
  | 6 => .array .int
  | 7 => .int
  | 8 => .int
  | 9 => .int
  | _ => .int
abbrev wsX00 : List Cond := u_ws RX0 TX0 11
theorem nmX0 : ∀ a, a < 11 → ∀ b, b < 11 → a ≠ b → (TX0 a).2.1 ≠ (TX0 b).2.1 := by decide +kernel
theorem tyX0_ok : ∀ k, k < 11 → parseFieldDescriptor (TX0 k).2.2.1 = some (tyX0 k) := by decide +kernel
abbrev cX0_init : ByteArray := prog_1_method_1_code
def yX0_init : MethodName := ⟨RX0, "<init>", "()V"⟩
abbrev cX0_piece : ByteArray := prog_1_method_2_code
def yX0_piece : MethodName := ⟨RX0, "piece", "(II)I"⟩
abbrev cX0_row : ByteArray := prog_1_method_3_code
def yX0_row : MethodName := ⟨RX0, "row", "(III)I"⟩
abbrev cX0_grid : ByteArray := prog_1_method_4_code
def yX0_grid : MethodName := ⟨RX0, "grid", "(III)I"⟩
abbrev cX0_put : ByteArray := prog_1_method_5_code
def yX0_put : MethodName := ⟨RX0, "put", "(III)I"⟩
abbrev cX0_get : ByteArray := prog_1_method_6_code
def yX0_get : MethodName := ⟨RX0, "get", "(II)I"⟩
abbrev cX0_set : ByteArray := prog_1_method_7_code
def yX0_set : MethodName := ⟨RX0, "set", "(IIJ)I"⟩
abbrev cX0_number : ByteArray := prog_1_method_8_code
def yX0_number : MethodName := ⟨RX0, "number", "(II)J"⟩
abbrev cX0_is : ByteArray := prog_1_method_9_code
def yX0_is : MethodName := ⟨RX0, "is", "(III)I"⟩
abbrev cX0_door : ByteArray := prog_1_method_10_code
def yX0_door : MethodName := ⟨RX0, "door", "(III)I"⟩
abbrev cX0_through : ByteArray := prog_1_method_11_code
def yX0_through : MethodName := ⟨RX0, "through", "(III)I"⟩
abbrev cX0_lastDoor : ByteArray := prog_1_method_12_code
def yX0_lastDoor : MethodName := ⟨RX0, "lastDoor", "()I"⟩
abbrev cX0_worth : ByteArray := prog_1_method_13_code
def yX0_worth : MethodName := ⟨RX0, "worth", "(I)J"⟩
abbrev cX0_copy : ByteArray := prog_1_method_14_code
def yX0_copy : MethodName := ⟨RX0, "copy", "(I)I"⟩
abbrev cX0_carry : ByteArray := prog_1_method_15_code
def yX0_carry : MethodName := ⟨RX0, "carry", "(IIIII)I"⟩
abbrev cX0_frail : ByteArray := prog_1_method_16_code
def yX0_frail : MethodName := ⟨RX0, "frail", "(I)I"⟩
abbrev cX0_about : ByteArray := prog_1_method_17_code
def yX0_about : MethodName := ⟨RX0, "about", "(II)I"⟩
abbrev cX0_bases : ByteArray := prog_1_method_18_code
def yX0_bases : MethodName := ⟨RX0, "bases", "(I)I"⟩
abbrev cX0_count : ByteArray := prog_1_method_19_code
def yX0_count : MethodName := ⟨RX0, "count", "(I)I"⟩
abbrev cX0_clear : ByteArray := prog_1_method_20_code
def yX0_clear : MethodName := ⟨RX0, "clear", "()I"⟩
abbrev cX0_fail : ByteArray := prog_1_method_21_code
def yX0_fail : MethodName := ⟨RX0, "fail", "(I)I"⟩
abbrev cX0_isThing : ByteArray := prog_1_method_22_code
def yX0_isThing : MethodName := ⟨RX0, "isThing", "(I)Z"⟩
abbrev cX0_isThingOrNone : ByteArray := prog_1_method_23_code
def yX0_isThingOrNone : MethodName := ⟨RX0, "isThingOrNone", "(I)Z"⟩
abbrev cX0_isDoor : ByteArray := prog_1_method_24_code
def yX0_isDoor : MethodName := ⟨RX0, "isDoor", "(I)Z"⟩
abbrev cX0_isNumberBase : ByteArray := prog_1_method_25_code
def yX0_isNumberBase : MethodName := ⟨RX0, "isNumberBase", "(I)Z"⟩
abbrev cX0_isKind : ByteArray := prog_1_method_26_code
def yX0_isKind : MethodName := ⟨RX0, "isKind", "(II)Z"⟩
abbrev cX0_isPiece : ByteArray := prog_1_method_27_code
def yX0_isPiece : MethodName := ⟨RX0, "isPiece", "(I)Z"⟩
abbrev cX0_isLedger : ByteArray := prog_1_method_28_code
def yX0_isLedger : MethodName := ⟨RX0, "isLedger", "(I)Z"⟩
abbrev cX0_holdsThings : ByteArray := prog_1_method_29_code
def yX0_holdsThings : MethodName := ⟨RX0, "holdsThings", "(I)Z"⟩
abbrev cX0_goesFor : ByteArray := prog_1_method_30_code
def yX0_goesFor : MethodName := ⟨RX0, "goesFor", "(II)Z"⟩
abbrev cX0_isOfKind : ByteArray := prog_1_method_31_code
def yX0_isOfKind : MethodName := ⟨RX0, "isOfKind", "(III)Z"⟩
abbrev cX0_mayPass : ByteArray := prog_1_method_32_code
def yX0_mayPass : MethodName := ⟨RX0, "mayPass", "(III)Z"⟩
abbrev cX0_goesInto : ByteArray := prog_1_method_33_code
def yX0_goesInto : MethodName := ⟨RX0, "goesInto", "(II)Z"⟩
abbrev cX0_widestBase : ByteArray := prog_1_method_34_code
def yX0_widestBase : MethodName := ⟨RX0, "widestBase", "(I)I"⟩
abbrev cX0_hasPlace : ByteArray := prog_1_method_35_code
def yX0_hasPlace : MethodName := ⟨RX0, "hasPlace", "(II)Z"⟩
abbrev cX0_hasPlaces : ByteArray := prog_1_method_36_code
def yX0_hasPlaces : MethodName := ⟨RX0, "hasPlaces", "(III)Z"⟩
abbrev cX0_placeIndex : ByteArray := prog_1_method_37_code
def yX0_placeIndex : MethodName := ⟨RX0, "placeIndex", "(II)I"⟩
abbrev cX0_thingAt : ByteArray := prog_1_method_38_code
def yX0_thingAt : MethodName := ⟨RX0, "thingAt", "(II)I"⟩
abbrev cX0_ledgerFailure : ByteArray := prog_1_method_39_code
def yX0_ledgerFailure : MethodName := ⟨RX0, "ledgerFailure", "(II)I"⟩
abbrev cX0_hasRoomFor : ByteArray := prog_1_method_40_code
def yX0_hasRoomFor : MethodName := ⟨RX0, "hasRoomFor", "(I)Z"⟩
abbrev cX0_addThing : ByteArray := prog_1_method_41_code
def yX0_addThing : MethodName := ⟨RX0, "addThing", "(III)I"⟩
abbrev cX0_addRow : ByteArray := prog_1_method_42_code
def yX0_addRow : MethodName := ⟨RX0, "addRow", "(III)I"⟩
abbrev cX0_firstClosedDoor : ByteArray := prog_1_method_43_code
def yX0_firstClosedDoor : MethodName := ⟨RX0, "firstClosedDoor", "(III)I"⟩
abbrev cX0_areAlike : ByteArray := prog_1_method_44_code
def yX0_areAlike : MethodName := ⟨RX0, "areAlike", "(II)Z"⟩
abbrev cX0_countGoing : ByteArray := prog_1_method_45_code
def yX0_countGoing : MethodName := ⟨RX0, "countGoing", "(IIII)I"⟩
abbrev cX0_movePlaces : ByteArray := prog_1_method_46_code
def yX0_movePlaces : MethodName := ⟨RX0, "movePlaces", "(IIIII)V"⟩
abbrev cX0_worthWithin : ByteArray := prog_1_method_47_code
def yX0_worthWithin : MethodName := ⟨RX0, "worthWithin", "(II)J"⟩
abbrev cX0_worthOfPiece : ByteArray := prog_1_method_48_code
def yX0_worthOfPiece : MethodName := ⟨RX0, "worthOfPiece", "(I)J"⟩
abbrev cX0_frailWithin : ByteArray := prog_1_method_49_code
def yX0_frailWithin : MethodName := ⟨RX0, "frailWithin", "(II)I"⟩
theorem dX0_init_0 : decode cX0_init 0 = .ok (.aload_n 0, 1) := by decide +kernel
theorem dX0_init_1 : decode cX0_init 1 = .ok (.invokespecial 1, 3) := by decide +kernel
theorem dX0_init_4 : decode cX0_init 4 = .ok (.aload_n 0, 1) := by decide +kernel
theorem dX0_init_5 : decode cX0_init 5 = .ok (.bipush 60, 2) := by decide +kernel
theorem dX0_init_7 : decode cX0_init 7 = .ok (.newarray .int, 2) := by decide +kernel
theorem dX0_init_9 : decode cX0_init 9 = .ok (.putfield 9, 3) := by decide +kernel
theorem dX0_init_12 : decode cX0_init 12 = .ok (.aload_n 0, 1) := by decide +kernel
theorem dX0_init_13 : decode cX0_init 13 = .ok (.bipush 60, 2) := by decide +kernel
theorem dX0_init_15 : decode cX0_init 15 = .ok (.newarray .int, 2) := by decide +kernel
theorem dX0_init_17 : decode cX0_init 17 = .ok (.putfield 13, 3) := by decide +kernel
theorem dX0_init_20 : decode cX0_init 20 = .ok (.aload_n 0, 1) := by decide +kernel
theorem dX0_init_21 : decode cX0_init 21 = .ok (.bipush 60, 2) := by decide +kernel
theorem dX0_init_23 : decode cX0_init 23 = .ok (.newarray .int, 2) := by decide +kernel
theorem dX0_init_25 : decode cX0_init 25 = .ok (.putfield 16, 3) := by decide +kernel
theorem dX0_init_28 : decode cX0_init 28 = .ok (.aload_n 0, 1) := by decide +kernel
theorem dX0_init_29 : decode cX0_init 29 = .ok (.bipush 60, 2) := by decide +kernel
theorem dX0_init_31 : decode cX0_init 31 = .ok (.newarray .int, 2) := by decide +kernel
theorem dX0_init_33 : decode cX0_init 33 = .ok (.putfield 19, 3) := by decide +kernel
theorem dX0_init_36 : decode cX0_init 36 = .ok (.aload_n 0, 1) := by decide +kernel
theorem dX0_init_37 : decode cX0_init 37 = .ok (.sipush 480, 3) := by decide +kernel
theorem dX0_init_40 : decode cX0_init 40 = .ok (.newarray .long, 2) := by decide +kernel
theorem dX0_init_42 : decode cX0_init 42 = .ok (.putfield 22, 3) := by decide +kernel
theorem dX0_init_45 : decode cX0_init 45 = .ok (.aload_n 0, 1) := by decide +kernel
theorem dX0_init_46 : decode cX0_init 46 = .ok (.bipush 8, 2) := by decide +kernel
theorem dX0_init_48 : decode cX0_init 48 = .ok (.newarray .int, 2) := by decide +kernel
theorem dX0_init_50 : decode cX0_init 50 = .ok (.putfield 26, 3) := by decide +kernel
theorem dX0_init_53 : decode cX0_init 53 = .ok (.aload_n 0, 1) := by decide +kernel
theorem dX0_init_54 : decode cX0_init 54 = .ok (.bipush 8, 2) := by decide +kernel
theorem dX0_init_56 : decode cX0_init 56 = .ok (.newarray .int, 2) := by decide +kernel
theorem dX0_init_58 : decode cX0_init 58 = .ok (.putfield 29, 3) := by decide +kernel
theorem dX0_init_61 : decode cX0_init 61 = .ok (.aload_n 0, 1) := by decide +kernel
theorem dX0_init_62 : decode cX0_init 62 = .ok (.iconst 0, 1) := by decide +kernel
theorem dX0_init_63 : decode cX0_init 63 = .ok (.putfield 32, 3) := by decide +kernel
theorem dX0_init_66 : decode cX0_init 66 = .ok (.aload_n 0, 1) := by decide +kernel
theorem dX0_init_67 : decode cX0_init 67 = .ok (.iconst 0, 1) := by decide +kernel
theorem dX0_init_68 : decode cX0_init 68 = .ok (.putfield 36, 3) := by decide +kernel
theorem dX0_init_71 : decode cX0_init 71 = .ok (.aload_n 0, 1) := by decide +kernel
theorem dX0_init_72 : decode cX0_init 72 = .ok (.iconst 0, 1) := by decide +kernel
theorem dX0_init_73 : decode cX0_init 73 = .ok (.putfield 39, 3) := by decide +kernel
theorem dX0_init_76 : decode cX0_init 76 = .ok (.aload_n 0, 1) := by decide +kernel
theorem dX0_init_77 : decode cX0_init 77 = .ok (.iconst (-1), 1) := by decide +kernel
theorem dX0_init_78 : decode cX0_init 78 = .ok (.putfield 42, 3) := by decide +kernel
theorem dX0_init_81 : decode cX0_init 81 = .ok (.return_, 1) := by decide +kernel
theorem dX0_piece_0 : decode cX0_piece 0 = .ok (.iload_n 1, 1) := by decide +kernel
theorem dX0_piece_1 : decode cX0_piece 1 = .ok (.ifCond .lt 8, 3) := by decide +kernel
theorem dX0_piece_4 : decode cX0_piece 4 = .ok (.iload_n 1, 1) := by decide +kernel
theorem dX0_piece_5 : decode cX0_piece 5 = .ok (.iconst 3, 1) := by decide +kernel
theorem dX0_piece_6 : decode cX0_piece 6 = .ok (.if_icmp .le 6, 3) := by decide +kernel
theorem dX0_piece_9 : decode cX0_piece 9 = .ok (.bipush (-2), 2) := by decide +kernel
theorem dX0_piece_11 : decode cX0_piece 11 = .ok (.ireturn, 1) := by decide +kernel
theorem dX0_piece_12 : decode cX0_piece 12 = .ok (.aload_n 0, 1) := by decide +kernel
theorem dX0_piece_13 : decode cX0_piece 13 = .ok (.iconst 1, 1) := by decide +kernel
theorem dX0_piece_14 : decode cX0_piece 14 = .ok (.invokevirtual 45, 3) := by decide +kernel
theorem dX0_piece_17 : decode cX0_piece 17 = .ok (.ifCond .ne 6, 3) := by decide +kernel
theorem dX0_piece_20 : decode cX0_piece 20 = .ok (.bipush (-3), 2) := by decide +kernel
theorem dX0_piece_22 : decode cX0_piece 22 = .ok (.ireturn, 1) := by decide +kernel
theorem dX0_piece_23 : decode cX0_piece 23 = .ok (.aload_n 0, 1) := by decide +kernel
theorem dX0_piece_24 : decode cX0_piece 24 = .ok (.iload_n 1, 1) := by decide +kernel
theorem dX0_piece_25 : decode cX0_piece 25 = .ok (.iconst 0, 1) := by decide +kernel
theorem dX0_piece_26 : decode cX0_piece 26 = .ok (.iconst 0, 1) := by decide +kernel
theorem dX0_piece_27 : decode cX0_piece 27 = .ok (.invokevirtual 49, 3) := by decide +kernel
theorem dX0_piece_30 : decode cX0_piece 30 = .ok (.istore_n 3, 1) := by decide +kernel
theorem dX0_piece_31 : decode cX0_piece 31 = .ok (.aload_n 0, 1) := by decide +kernel
theorem dX0_piece_32 : decode cX0_piece 32 = .ok (.getfield 19, 3) := by decide +kernel
theorem dX0_piece_35 : decode cX0_piece 35 = .ok (.iload_n 3, 1) := by decide +kernel
theorem dX0_piece_36 : decode cX0_piece 36 = .ok (.iload_n 2, 1) := by decide +kernel
theorem dX0_piece_37 : decode cX0_piece 37 = .ok (.iastore, 1) := by decide +kernel
theorem dX0_piece_38 : decode cX0_piece 38 = .ok (.iload_n 3, 1) := by decide +kernel
theorem dX0_piece_39 : decode cX0_piece 39 = .ok (.ireturn, 1) := by decide +kernel
theorem dX0_row_0 : decode cX0_row 0 = .ok (.iload_n 1, 1) := by decide +kernel
theorem dX0_row_1 : decode cX0_row 1 = .ok (.iload_n 2, 1) := by decide +kernel
theorem dX0_row_2 : decode cX0_row 2 = .ok (.invokestatic 53, 3) := by decide +kernel
theorem dX0_row_5 : decode cX0_row 5 = .ok (.ifCond .eq 14, 3) := by decide +kernel
theorem dX0_row_8 : decode cX0_row 8 = .ok (.iload_n 2, 1) := by decide +kernel
theorem dX0_row_9 : decode cX0_row 9 = .ok (.iconst 1, 1) := by decide +kernel
theorem dX0_row_10 : decode cX0_row 10 = .ok (.if_icmp .lt 9, 3) := by decide +kernel
theorem dX0_row_13 : decode cX0_row 13 = .ok (.iload_n 3, 1) := by decide +kernel
theorem dX0_row_14 : decode cX0_row 14 = .ok (.bipush 8, 2) := by decide +kernel
theorem dX0_row_16 : decode cX0_row 16 = .ok (.if_icmp .le 6, 3) := by decide +kernel
theorem dX0_row_19 : decode cX0_row 19 = .ok (.bipush (-2), 2) := by decide +kernel
theorem dX0_row_21 : decode cX0_row 21 = .ok (.ireturn, 1) := by decide +kernel
theorem dX0_row_22 : decode cX0_row 22 = .ok (.aload_n 0, 1) := by decide +kernel
theorem dX0_row_23 : decode cX0_row 23 = .ok (.iconst 1, 1) := by decide +kernel
theorem dX0_row_24 : decode cX0_row 24 = .ok (.invokevirtual 45, 3) := by decide +kernel
theorem dX0_row_27 : decode cX0_row 27 = .ok (.ifCond .ne 6, 3) := by decide +kernel
theorem dX0_row_30 : decode cX0_row 30 = .ok (.bipush (-3), 2) := by decide +kernel
theorem dX0_row_32 : decode cX0_row 32 = .ok (.ireturn, 1) := by decide +kernel
theorem dX0_row_33 : decode cX0_row 33 = .ok (.iload_n 3, 1) := by decide +kernel
theorem dX0_row_34 : decode cX0_row 34 = .ok (.ifCond .ge 9, 3) := by decide +kernel
theorem dX0_row_37 : decode cX0_row 37 = .ok (.aload_n 0, 1) := by decide +kernel
theorem dX0_row_38 : decode cX0_row 38 = .ok (.iconst 5, 1) := by decide +kernel
theorem dX0_row_39 : decode cX0_row 39 = .ok (.invokevirtual 57, 3) := by decide +kernel
theorem dX0_row_42 : decode cX0_row 42 = .ok (.ireturn, 1) := by decide +kernel
theorem dX0_row_43 : decode cX0_row 43 = .ok (.aload_n 0, 1) := by decide +kernel
theorem dX0_row_44 : decode cX0_row 44 = .ok (.iload_n 1, 1) := by decide +kernel
theorem dX0_row_45 : decode cX0_row 45 = .ok (.iload_n 2, 1) := by decide +kernel
theorem dX0_row_46 : decode cX0_row 46 = .ok (.iload_n 3, 1) := by decide +kernel
theorem dX0_row_47 : decode cX0_row 47 = .ok (.invokevirtual 61, 3) := by decide +kernel
theorem dX0_row_50 : decode cX0_row 50 = .ok (.ireturn, 1) := by decide +kernel
theorem dX0_grid_0 : decode cX0_grid 0 = .ok (.iload_n 1, 1) := by decide +kernel
theorem dX0_grid_1 : decode cX0_grid 1 = .ok (.iconst 2, 1) := by decide +kernel
theorem dX0_grid_2 : decode cX0_grid 2 = .ok (.invokestatic 53, 3) := by decide +kernel
theorem dX0_grid_5 : decode cX0_grid 5 = .ok (.ifCond .eq 15, 3) := by decide +kernel
theorem dX0_grid_8 : decode cX0_grid 8 = .ok (.iload_n 2, 1) := by decide +kernel
theorem dX0_grid_9 : decode cX0_grid 9 = .ok (.bipush 8, 2) := by decide +kernel
theorem dX0_grid_11 : decode cX0_grid 11 = .ok (.if_icmp .gt 9, 3) := by decide +kernel
theorem dX0_grid_14 : decode cX0_grid 14 = .ok (.iload_n 3, 1) := by decide +kernel
theorem dX0_grid_15 : decode cX0_grid 15 = .ok (.bipush 8, 2) := by decide +kernel
theorem dX0_grid_17 : decode cX0_grid 17 = .ok (.if_icmp .le 6, 3) := by decide +kernel
theorem dX0_grid_20 : decode cX0_grid 20 = .ok (.bipush (-2), 2) := by decide +kernel
theorem dX0_grid_22 : decode cX0_grid 22 = .ok (.ireturn, 1) := by decide +kernel
theorem dX0_grid_23 : decode cX0_grid 23 = .ok (.aload_n 0, 1) := by decide +kernel
theorem dX0_grid_24 : decode cX0_grid 24 = .ok (.iconst 1, 1) := by decide +kernel
theorem dX0_grid_25 : decode cX0_grid 25 = .ok (.iload_n 2, 1) := by decide +kernel
theorem dX0_grid_26 : decode cX0_grid 26 = .ok (.iconst 0, 1) := by decide +kernel
theorem dX0_grid_27 : decode cX0_grid 27 = .ok (.invokestatic 64, 3) := by decide +kernel
theorem dX0_grid_30 : decode cX0_grid 30 = .ok (.iadd, 1) := by decide +kernel
theorem dX0_grid_31 : decode cX0_grid 31 = .ok (.invokevirtual 45, 3) := by decide +kernel
theorem dX0_grid_34 : decode cX0_grid 34 = .ok (.ifCond .ne 6, 3) := by decide +kernel
theorem dX0_grid_37 : decode cX0_grid 37 = .ok (.bipush (-3), 2) := by decide +kernel
theorem dX0_grid_39 : decode cX0_grid 39 = .ok (.ireturn, 1) := by decide +kernel
theorem dX0_grid_40 : decode cX0_grid 40 = .ok (.iload_n 2, 1) := by decide +kernel
theorem dX0_grid_41 : decode cX0_grid 41 = .ok (.ifCond .lt 7, 3) := by decide +kernel
theorem dX0_grid_44 : decode cX0_grid 44 = .ok (.iload_n 3, 1) := by decide +kernel
theorem dX0_grid_45 : decode cX0_grid 45 = .ok (.ifCond .ge 9, 3) := by decide +kernel
theorem dX0_grid_48 : decode cX0_grid 48 = .ok (.aload_n 0, 1) := by decide +kernel
theorem dX0_grid_49 : decode cX0_grid 49 = .ok (.iconst 5, 1) := by decide +kernel
theorem dX0_grid_50 : decode cX0_grid 50 = .ok (.invokevirtual 57, 3) := by decide +kernel
theorem dX0_grid_53 : decode cX0_grid 53 = .ok (.ireturn, 1) := by decide +kernel
theorem dX0_grid_54 : decode cX0_grid 54 = .ok (.aload_n 0, 1) := by decide +kernel
theorem dX0_grid_55 : decode cX0_grid 55 = .ok (.iload_n 1, 1) := by decide +kernel
theorem dX0_grid_56 : decode cX0_grid 56 = .ok (.iconst 2, 1) := by decide +kernel
theorem dX0_grid_57 : decode cX0_grid 57 = .ok (.iload_n 2, 1) := by decide +kernel
theorem dX0_grid_58 : decode cX0_grid 58 = .ok (.invokevirtual 61, 3) := by decide +kernel
theorem dX0_grid_61 : decode cX0_grid 61 = .ok (.istore 4, 2) := by decide +kernel
theorem dX0_grid_63 : decode cX0_grid 63 = .ok (.iconst 0, 1) := by decide +kernel
theorem dX0_grid_64 : decode cX0_grid 64 = .ok (.istore 5, 2) := by decide +kernel
theorem dX0_grid_66 : decode cX0_grid 66 = .ok (.iload 5, 2) := by decide +kernel
theorem dX0_grid_68 : decode cX0_grid 68 = .ok (.iload_n 2, 1) := by decide +kernel
theorem dX0_grid_69 : decode cX0_grid 69 = .ok (.if_icmp .ge 29, 3) := by decide +kernel
theorem dX0_grid_72 : decode cX0_grid 72 = .ok (.aload_n 0, 1) := by decide +kernel
theorem dX0_grid_73 : decode cX0_grid 73 = .ok (.getfield 22, 3) := by decide +kernel
theorem dX0_grid_76 : decode cX0_grid 76 = .ok (.iload 4, 2) := by decide +kernel
theorem dX0_grid_78 : decode cX0_grid 78 = .ok (.iload 5, 2) := by decide +kernel
theorem dX0_grid_80 : decode cX0_grid 80 = .ok (.invokestatic 70, 3) := by decide +kernel
theorem dX0_grid_83 : decode cX0_grid 83 = .ok (.aload_n 0, 1) := by decide +kernel
theorem dX0_grid_84 : decode cX0_grid 84 = .ok (.iload_n 1, 1) := by decide +kernel
theorem dX0_grid_85 : decode cX0_grid 85 = .ok (.iconst 1, 1) := by decide +kernel
theorem dX0_grid_86 : decode cX0_grid 86 = .ok (.iload_n 3, 1) := by decide +kernel
theorem dX0_grid_87 : decode cX0_grid 87 = .ok (.invokevirtual 61, 3) := by decide +kernel
theorem dX0_grid_90 : decode cX0_grid 90 = .ok (.i2l, 1) := by decide +kernel
theorem dX0_grid_91 : decode cX0_grid 91 = .ok (.lastore, 1) := by decide +kernel
theorem dX0_grid_92 : decode cX0_grid 92 = .ok (.iinc 5 1, 3) := by decide +kernel
theorem dX0_grid_95 : decode cX0_grid 95 = .ok (.goto (-29), 3) := by decide +kernel
theorem dX0_grid_98 : decode cX0_grid 98 = .ok (.iload 4, 2) := by decide +kernel
theorem dX0_grid_100 : decode cX0_grid 100 = .ok (.ireturn, 1) := by decide +kernel
theorem dX0_put_0 : decode cX0_put 0 = .ok (.aload_n 0, 1) := by decide +kernel
theorem dX0_put_1 : decode cX0_put 1 = .ok (.iload_n 1, 1) := by decide +kernel
theorem dX0_put_2 : decode cX0_put 2 = .ok (.invokevirtual 73, 3) := by decide +kernel
theorem dX0_put_5 : decode cX0_put 5 = .ok (.ifCond .eq 11, 3) := by decide +kernel
theorem dX0_put_8 : decode cX0_put 8 = .ok (.aload_n 0, 1) := by decide +kernel
theorem dX0_put_9 : decode cX0_put 9 = .ok (.iload_n 3, 1) := by decide +kernel
theorem dX0_put_10 : decode cX0_put 10 = .ok (.invokevirtual 73, 3) := by decide +kernel
theorem dX0_put_13 : decode cX0_put 13 = .ok (.ifCond .ne 6, 3) := by decide +kernel
theorem dX0_put_16 : decode cX0_put 16 = .ok (.bipush (-2), 2) := by decide +kernel
theorem dX0_put_18 : decode cX0_put 18 = .ok (.ireturn, 1) := by decide +kernel
theorem dX0_put_19 : decode cX0_put 19 = .ok (.iload_n 1, 1) := by decide +kernel
theorem dX0_put_20 : decode cX0_put 20 = .ok (.iconst (-1), 1) := by decide +kernel
theorem dX0_put_21 : decode cX0_put 21 = .ok (.if_icmp .ne 23, 3) := by decide +kernel
theorem dX0_put_24 : decode cX0_put 24 = .ok (.aload_n 0, 1) := by decide +kernel
theorem dX0_put_25 : decode cX0_put 25 = .ok (.aload_n 0, 1) := by decide +kernel
theorem dX0_put_26 : decode cX0_put 26 = .ok (.iload_n 3, 1) := by decide +kernel
theorem dX0_put_27 : decode cX0_put 27 = .ok (.iconst 0, 1) := by decide +kernel
theorem dX0_put_28 : decode cX0_put 28 = .ok (.iconst 0, 1) := by decide +kernel
theorem dX0_put_29 : decode cX0_put 29 = .ok (.invokevirtual 76, 3) := by decide +kernel
theorem dX0_put_32 : decode cX0_put 32 = .ok (.ifCond .eq 7, 3) := by decide +kernel
theorem dX0_put_35 : decode cX0_put 35 = .ok (.iconst 1, 1) := by decide +kernel
theorem dX0_put_36 : decode cX0_put 36 = .ok (.goto 4, 3) := by decide +kernel
theorem dX0_put_39 : decode cX0_put 39 = .ok (.iconst 2, 1) := by decide +kernel
theorem dX0_put_40 : decode cX0_put 40 = .ok (.invokevirtual 57, 3) := by decide +kernel
theorem dX0_put_43 : decode cX0_put 43 = .ok (.ireturn, 1) := by decide +kernel
theorem dX0_put_44 : decode cX0_put 44 = .ok (.aload_n 0, 1) := by decide +kernel
theorem dX0_put_45 : decode cX0_put 45 = .ok (.iload_n 1, 1) := by decide +kernel
theorem dX0_put_46 : decode cX0_put 46 = .ok (.invokevirtual 80, 3) := by decide +kernel
theorem dX0_put_49 : decode cX0_put 49 = .ok (.ifCond .ne 9, 3) := by decide +kernel
theorem dX0_put_52 : decode cX0_put 52 = .ok (.aload_n 0, 1) := by decide +kernel
theorem dX0_put_53 : decode cX0_put 53 = .ok (.iconst 2, 1) := by decide +kernel
theorem dX0_put_54 : decode cX0_put 54 = .ok (.invokevirtual 57, 3) := by decide +kernel
theorem dX0_put_57 : decode cX0_put 57 = .ok (.ireturn, 1) := by decide +kernel
theorem dX0_put_58 : decode cX0_put 58 = .ok (.aload_n 0, 1) := by decide +kernel
theorem dX0_put_59 : decode cX0_put 59 = .ok (.iload_n 3, 1) := by decide +kernel
theorem dX0_put_60 : decode cX0_put 60 = .ok (.aload_n 0, 1) := by decide +kernel
theorem dX0_put_61 : decode cX0_put 61 = .ok (.iload_n 1, 1) := by decide +kernel
theorem dX0_put_62 : decode cX0_put 62 = .ok (.invokevirtual 83, 3) := by decide +kernel
theorem dX0_put_65 : decode cX0_put 65 = .ok (.aload_n 0, 1) := by decide +kernel
theorem dX0_put_66 : decode cX0_put 66 = .ok (.getfield 13, 3) := by decide +kernel
theorem dX0_put_69 : decode cX0_put 69 = .ok (.iload_n 1, 1) := by decide +kernel
theorem dX0_put_70 : decode cX0_put 70 = .ok (.iaload, 1) := by decide +kernel
theorem dX0_put_71 : decode cX0_put 71 = .ok (.iconst 1, 1) := by decide +kernel
theorem dX0_put_72 : decode cX0_put 72 = .ok (.isub, 1) := by decide +kernel
theorem dX0_put_73 : decode cX0_put 73 = .ok (.invokevirtual 76, 3) := by decide +kernel
theorem dX0_put_76 : decode cX0_put 76 = .ok (.ifCond .ne 9, 3) := by decide +kernel
theorem dX0_put_79 : decode cX0_put 79 = .ok (.aload_n 0, 1) := by decide +kernel
theorem dX0_put_80 : decode cX0_put 80 = .ok (.iconst 2, 1) := by decide +kernel
theorem dX0_put_81 : decode cX0_put 81 = .ok (.invokevirtual 57, 3) := by decide +kernel
theorem dX0_put_84 : decode cX0_put 84 = .ok (.ireturn, 1) := by decide +kernel
theorem dX0_put_85 : decode cX0_put 85 = .ok (.aload_n 0, 1) := by decide +kernel
theorem dX0_put_86 : decode cX0_put 86 = .ok (.iload_n 1, 1) := by decide +kernel
theorem dX0_put_87 : decode cX0_put 87 = .ok (.iload_n 2, 1) := by decide +kernel
theorem dX0_put_88 : decode cX0_put 88 = .ok (.invokevirtual 86, 3) := by decide +kernel
theorem dX0_put_91 : decode cX0_put 91 = .ok (.ifCond .ne 9, 3) := by decide +kernel
theorem dX0_put_94 : decode cX0_put 94 = .ok (.aload_n 0, 1) := by decide +kernel
theorem dX0_put_95 : decode cX0_put 95 = .ok (.iconst 3, 1) := by decide +kernel
theorem dX0_put_96 : decode cX0_put 96 = .ok (.invokevirtual 57, 3) := by decide +kernel
theorem dX0_put_99 : decode cX0_put 99 = .ok (.ireturn, 1) := by decide +kernel
theorem dX0_put_100 : decode cX0_put 100 = .ok (.aload_n 0, 1) := by decide +kernel
theorem dX0_put_101 : decode cX0_put 101 = .ok (.iload_n 3, 1) := by decide +kernel
theorem dX0_put_102 : decode cX0_put 102 = .ok (.iload_n 1, 1) := by decide +kernel
theorem dX0_put_103 : decode cX0_put 103 = .ok (.invokevirtual 89, 3) := by decide +kernel
theorem dX0_put_106 : decode cX0_put 106 = .ok (.ifCond .ne 9, 3) := by decide +kernel
theorem dX0_put_109 : decode cX0_put 109 = .ok (.aload_n 0, 1) := by decide +kernel
theorem dX0_put_110 : decode cX0_put 110 = .ok (.iconst 4, 1) := by decide +kernel
theorem dX0_put_111 : decode cX0_put 111 = .ok (.invokevirtual 57, 3) := by decide +kernel
theorem dX0_put_114 : decode cX0_put 114 = .ok (.ireturn, 1) := by decide +kernel
theorem dX0_put_115 : decode cX0_put 115 = .ok (.aload_n 0, 1) := by decide +kernel
theorem dX0_put_116 : decode cX0_put 116 = .ok (.getfield 22, 3) := by decide +kernel
theorem dX0_put_119 : decode cX0_put 119 = .ok (.iload_n 1, 1) := by decide +kernel
theorem dX0_put_120 : decode cX0_put 120 = .ok (.iload_n 2, 1) := by decide +kernel
theorem dX0_put_121 : decode cX0_put 121 = .ok (.invokestatic 70, 3) := by decide +kernel
theorem dX0_put_124 : decode cX0_put 124 = .ok (.iload_n 3, 1) := by decide +kernel
theorem dX0_put_125 : decode cX0_put 125 = .ok (.i2l, 1) := by decide +kernel
theorem dX0_put_126 : decode cX0_put 126 = .ok (.lastore, 1) := by decide +kernel
theorem dX0_put_127 : decode cX0_put 127 = .ok (.iconst 1, 1) := by decide +kernel
theorem dX0_put_128 : decode cX0_put 128 = .ok (.ireturn, 1) := by decide +kernel
theorem dX0_get_0 : decode cX0_get 0 = .ok (.aload_n 0, 1) := by decide +kernel
theorem dX0_get_1 : decode cX0_get 1 = .ok (.iload_n 1, 1) := by decide +kernel
theorem dX0_get_2 : decode cX0_get 2 = .ok (.invokevirtual 73, 3) := by decide +kernel
theorem dX0_get_5 : decode cX0_get 5 = .ok (.ifCond .ne 6, 3) := by decide +kernel
theorem dX0_get_8 : decode cX0_get 8 = .ok (.bipush (-2), 2) := by decide +kernel
theorem dX0_get_10 : decode cX0_get 10 = .ok (.ireturn, 1) := by decide +kernel
theorem dX0_get_11 : decode cX0_get 11 = .ok (.iload_n 1, 1) := by decide +kernel
theorem dX0_get_12 : decode cX0_get 12 = .ok (.iconst (-1), 1) := by decide +kernel
theorem dX0_get_13 : decode cX0_get 13 = .ok (.if_icmp .ne 9, 3) := by decide +kernel
theorem dX0_get_16 : decode cX0_get 16 = .ok (.aload_n 0, 1) := by decide +kernel
theorem dX0_get_17 : decode cX0_get 17 = .ok (.iconst 1, 1) := by decide +kernel
theorem dX0_get_18 : decode cX0_get 18 = .ok (.invokevirtual 57, 3) := by decide +kernel
theorem dX0_get_21 : decode cX0_get 21 = .ok (.ireturn, 1) := by decide +kernel
theorem dX0_get_22 : decode cX0_get 22 = .ok (.aload_n 0, 1) := by decide +kernel
theorem dX0_get_23 : decode cX0_get 23 = .ok (.iload_n 1, 1) := by decide +kernel
theorem dX0_get_24 : decode cX0_get 24 = .ok (.invokevirtual 80, 3) := by decide +kernel
theorem dX0_get_27 : decode cX0_get 27 = .ok (.ifCond .ne 9, 3) := by decide +kernel
theorem dX0_get_30 : decode cX0_get 30 = .ok (.aload_n 0, 1) := by decide +kernel
theorem dX0_get_31 : decode cX0_get 31 = .ok (.iconst 2, 1) := by decide +kernel
theorem dX0_get_32 : decode cX0_get 32 = .ok (.invokevirtual 57, 3) := by decide +kernel
theorem dX0_get_35 : decode cX0_get 35 = .ok (.ireturn, 1) := by decide +kernel
theorem dX0_get_36 : decode cX0_get 36 = .ok (.aload_n 0, 1) := by decide +kernel
theorem dX0_get_37 : decode cX0_get 37 = .ok (.iload_n 1, 1) := by decide +kernel
theorem dX0_get_38 : decode cX0_get 38 = .ok (.iload_n 2, 1) := by decide +kernel
theorem dX0_get_39 : decode cX0_get 39 = .ok (.invokevirtual 86, 3) := by decide +kernel
theorem dX0_get_42 : decode cX0_get 42 = .ok (.ifCond .ne 9, 3) := by decide +kernel
theorem dX0_get_45 : decode cX0_get 45 = .ok (.aload_n 0, 1) := by decide +kernel
theorem dX0_get_46 : decode cX0_get 46 = .ok (.iconst 3, 1) := by decide +kernel
theorem dX0_get_47 : decode cX0_get 47 = .ok (.invokevirtual 57, 3) := by decide +kernel
theorem dX0_get_50 : decode cX0_get 50 = .ok (.ireturn, 1) := by decide +kernel
theorem dX0_get_51 : decode cX0_get 51 = .ok (.aload_n 0, 1) := by decide +kernel
theorem dX0_get_52 : decode cX0_get 52 = .ok (.iload_n 1, 1) := by decide +kernel
theorem dX0_get_53 : decode cX0_get 53 = .ok (.iload_n 2, 1) := by decide +kernel
theorem dX0_get_54 : decode cX0_get 54 = .ok (.invokevirtual 92, 3) := by decide +kernel
theorem dX0_get_57 : decode cX0_get 57 = .ok (.ireturn, 1) := by decide +kernel
theorem dX0_set_0 : decode cX0_set 0 = .ok (.aload_n 0, 1) := by decide +kernel
theorem dX0_set_1 : decode cX0_set 1 = .ok (.iload_n 1, 1) := by decide +kernel
theorem dX0_set_2 : decode cX0_set 2 = .ok (.invokevirtual 73, 3) := by decide +kernel
theorem dX0_set_5 : decode cX0_set 5 = .ok (.ifCond .ne 6, 3) := by decide +kernel
theorem dX0_set_8 : decode cX0_set 8 = .ok (.bipush (-2), 2) := by decide +kernel
theorem dX0_set_10 : decode cX0_set 10 = .ok (.ireturn, 1) := by decide +kernel
theorem dX0_set_11 : decode cX0_set 11 = .ok (.aload_n 0, 1) := by decide +kernel
theorem dX0_set_12 : decode cX0_set 12 = .ok (.iload_n 1, 1) := by decide +kernel
theorem dX0_set_13 : decode cX0_set 13 = .ok (.iload_n 2, 1) := by decide +kernel
theorem dX0_set_14 : decode cX0_set 14 = .ok (.invokevirtual 95, 3) := by decide +kernel
theorem dX0_set_17 : decode cX0_set 17 = .ok (.istore 5, 2) := by decide +kernel
theorem dX0_set_19 : decode cX0_set 19 = .ok (.iload 5, 2) := by decide +kernel
theorem dX0_set_21 : decode cX0_set 21 = .ok (.ifCond .eq 10, 3) := by decide +kernel
theorem dX0_set_24 : decode cX0_set 24 = .ok (.aload_n 0, 1) := by decide +kernel
theorem dX0_set_25 : decode cX0_set 25 = .ok (.iload 5, 2) := by decide +kernel
theorem dX0_set_27 : decode cX0_set 27 = .ok (.invokevirtual 57, 3) := by decide +kernel
theorem dX0_set_30 : decode cX0_set 30 = .ok (.ireturn, 1) := by decide +kernel
theorem dX0_set_31 : decode cX0_set 31 = .ok (.aload_n 0, 1) := by decide +kernel
theorem dX0_set_32 : decode cX0_set 32 = .ok (.getfield 22, 3) := by decide +kernel
theorem dX0_set_35 : decode cX0_set 35 = .ok (.iload_n 1, 1) := by decide +kernel
theorem dX0_set_36 : decode cX0_set 36 = .ok (.iload_n 2, 1) := by decide +kernel
theorem dX0_set_37 : decode cX0_set 37 = .ok (.invokestatic 70, 3) := by decide +kernel
theorem dX0_set_40 : decode cX0_set 40 = .ok (.aload_n 0, 1) := by decide +kernel
theorem dX0_set_41 : decode cX0_set 41 = .ok (.getfield 9, 3) := by decide +kernel
theorem dX0_set_44 : decode cX0_set 44 = .ok (.iload_n 1, 1) := by decide +kernel
theorem dX0_set_45 : decode cX0_set 45 = .ok (.iaload, 1) := by decide +kernel
theorem dX0_set_46 : decode cX0_set 46 = .ok (.iconst 5, 1) := by decide +kernel
theorem dX0_set_47 : decode cX0_set 47 = .ok (.if_icmp .ne 9, 3) := by decide +kernel
theorem dX0_set_50 : decode cX0_set 50 = .ok (.lload_n 3, 1) := by decide +kernel
theorem dX0_set_51 : decode cX0_set 51 = .ok (.l2i, 1) := by decide +kernel
theorem dX0_set_52 : decode cX0_set 52 = .ok (.i2l, 1) := by decide +kernel
theorem dX0_set_53 : decode cX0_set 53 = .ok (.goto 4, 3) := by decide +kernel
theorem dX0_set_56 : decode cX0_set 56 = .ok (.lload_n 3, 1) := by decide +kernel
theorem dX0_set_57 : decode cX0_set 57 = .ok (.lastore, 1) := by decide +kernel
theorem dX0_set_58 : decode cX0_set 58 = .ok (.iconst 1, 1) := by decide +kernel
theorem dX0_set_59 : decode cX0_set 59 = .ok (.ireturn, 1) := by decide +kernel
theorem dX0_number_0 : decode cX0_number 0 = .ok (.aload_n 0, 1) := by decide +kernel
theorem dX0_number_1 : decode cX0_number 1 = .ok (.iload_n 1, 1) := by decide +kernel
theorem dX0_number_2 : decode cX0_number 2 = .ok (.invokevirtual 73, 3) := by decide +kernel
theorem dX0_number_5 : decode cX0_number 5 = .ok (.ifCond .eq 12, 3) := by decide +kernel
theorem dX0_number_8 : decode cX0_number 8 = .ok (.aload_n 0, 1) := by decide +kernel
theorem dX0_number_9 : decode cX0_number 9 = .ok (.iload_n 1, 1) := by decide +kernel
theorem dX0_number_10 : decode cX0_number 10 = .ok (.iload_n 2, 1) := by decide +kernel
theorem dX0_number_11 : decode cX0_number 11 = .ok (.invokevirtual 95, 3) := by decide +kernel
theorem dX0_number_14 : decode cX0_number 14 = .ok (.ifCond .eq 5, 3) := by decide +kernel
theorem dX0_number_17 : decode cX0_number 17 = .ok (.lconst 0, 1) := by decide +kernel
theorem dX0_number_18 : decode cX0_number 18 = .ok (.lreturn, 1) := by decide +kernel
theorem dX0_number_19 : decode cX0_number 19 = .ok (.aload_n 0, 1) := by decide +kernel
theorem dX0_number_20 : decode cX0_number 20 = .ok (.getfield 22, 3) := by decide +kernel
theorem dX0_number_23 : decode cX0_number 23 = .ok (.iload_n 1, 1) := by decide +kernel
theorem dX0_number_24 : decode cX0_number 24 = .ok (.iload_n 2, 1) := by decide +kernel
theorem dX0_number_25 : decode cX0_number 25 = .ok (.invokestatic 70, 3) := by decide +kernel
theorem dX0_number_28 : decode cX0_number 28 = .ok (.laload, 1) := by decide +kernel
theorem dX0_number_29 : decode cX0_number 29 = .ok (.lreturn, 1) := by decide +kernel
theorem dX0_is_0 : decode cX0_is 0 = .ok (.aload_n 0, 1) := by decide +kernel
theorem dX0_is_1 : decode cX0_is 1 = .ok (.iload_n 1, 1) := by decide +kernel
theorem dX0_is_2 : decode cX0_is 2 = .ok (.invokevirtual 73, 3) := by decide +kernel
theorem dX0_is_5 : decode cX0_is 5 = .ok (.ifCond .eq 11, 3) := by decide +kernel
theorem dX0_is_8 : decode cX0_is 8 = .ok (.iload_n 2, 1) := by decide +kernel
theorem dX0_is_9 : decode cX0_is 9 = .ok (.iload_n 3, 1) := by decide +kernel
theorem dX0_is_10 : decode cX0_is 10 = .ok (.invokestatic 53, 3) := by decide +kernel
theorem dX0_is_13 : decode cX0_is 13 = .ok (.ifCond .ne 6, 3) := by decide +kernel
theorem dX0_is_16 : decode cX0_is 16 = .ok (.bipush (-2), 2) := by decide +kernel
theorem dX0_is_18 : decode cX0_is 18 = .ok (.ireturn, 1) := by decide +kernel
theorem dX0_is_19 : decode cX0_is 19 = .ok (.aload_n 0, 1) := by decide +kernel
theorem dX0_is_20 : decode cX0_is 20 = .ok (.iload_n 1, 1) := by decide +kernel
theorem dX0_is_21 : decode cX0_is 21 = .ok (.iload_n 2, 1) := by decide +kernel
theorem dX0_is_22 : decode cX0_is 22 = .ok (.iload_n 3, 1) := by decide +kernel
theorem dX0_is_23 : decode cX0_is 23 = .ok (.invokevirtual 98, 3) := by decide +kernel
theorem dX0_is_26 : decode cX0_is 26 = .ok (.ifCond .eq 7, 3) := by decide +kernel
theorem dX0_is_29 : decode cX0_is 29 = .ok (.iconst 1, 1) := by decide +kernel
theorem dX0_is_30 : decode cX0_is 30 = .ok (.goto 4, 3) := by decide +kernel
theorem dX0_is_33 : decode cX0_is 33 = .ok (.iconst 0, 1) := by decide +kernel
theorem dX0_is_34 : decode cX0_is 34 = .ok (.ireturn, 1) := by decide +kernel
theorem dX0_door_0 : decode cX0_door 0 = .ok (.iload_n 1, 1) := by decide +kernel
theorem dX0_door_1 : decode cX0_door 1 = .ok (.invokestatic 101, 3) := by decide +kernel
theorem dX0_door_4 : decode cX0_door 4 = .ok (.ifCond .eq 11, 3) := by decide +kernel
theorem dX0_door_7 : decode cX0_door 7 = .ok (.iload_n 2, 1) := by decide +kernel
theorem dX0_door_8 : decode cX0_door 8 = .ok (.iload_n 3, 1) := by decide +kernel
theorem dX0_door_9 : decode cX0_door 9 = .ok (.invokestatic 53, 3) := by decide +kernel
theorem dX0_door_12 : decode cX0_door 12 = .ok (.ifCond .ne 6, 3) := by decide +kernel
theorem dX0_door_15 : decode cX0_door 15 = .ok (.bipush (-2), 2) := by decide +kernel
theorem dX0_door_17 : decode cX0_door 17 = .ok (.ireturn, 1) := by decide +kernel
theorem dX0_door_18 : decode cX0_door 18 = .ok (.aload_n 0, 1) := by decide +kernel
theorem dX0_door_19 : decode cX0_door 19 = .ok (.getfield 26, 3) := by decide +kernel
theorem dX0_door_22 : decode cX0_door 22 = .ok (.iload_n 1, 1) := by decide +kernel
theorem dX0_door_23 : decode cX0_door 23 = .ok (.iload_n 2, 1) := by decide +kernel
theorem dX0_door_24 : decode cX0_door 24 = .ok (.iastore, 1) := by decide +kernel
theorem dX0_door_25 : decode cX0_door 25 = .ok (.aload_n 0, 1) := by decide +kernel
theorem dX0_door_26 : decode cX0_door 26 = .ok (.getfield 29, 3) := by decide +kernel
theorem dX0_door_29 : decode cX0_door 29 = .ok (.iload_n 1, 1) := by decide +kernel
theorem dX0_door_30 : decode cX0_door 30 = .ok (.iload_n 3, 1) := by decide +kernel
theorem dX0_door_31 : decode cX0_door 31 = .ok (.iastore, 1) := by decide +kernel
theorem dX0_door_32 : decode cX0_door 32 = .ok (.iconst 1, 1) := by decide +kernel
theorem dX0_door_33 : decode cX0_door 33 = .ok (.ireturn, 1) := by decide +kernel
theorem dX0_through_0 : decode cX0_through 0 = .ok (.aload_n 0, 1) := by decide +kernel
theorem dX0_through_1 : decode cX0_through 1 = .ok (.iload_n 1, 1) := by decide +kernel
theorem dX0_through_2 : decode cX0_through 2 = .ok (.invokevirtual 73, 3) := by decide +kernel
theorem dX0_through_5 : decode cX0_through 5 = .ok (.ifCond .eq 22, 3) := by decide +kernel
theorem dX0_through_8 : decode cX0_through 8 = .ok (.iload_n 2, 1) := by decide +kernel
theorem dX0_through_9 : decode cX0_through 9 = .ok (.invokestatic 101, 3) := by decide +kernel
theorem dX0_through_12 : decode cX0_through 12 = .ok (.ifCond .eq 15, 3) := by decide +kernel
theorem dX0_through_15 : decode cX0_through 15 = .ok (.iload_n 3, 1) := by decide +kernel
theorem dX0_through_16 : decode cX0_through 16 = .ok (.ifCond .lt 11, 3) := by decide +kernel
theorem dX0_through_19 : decode cX0_through 19 = .ok (.iload_n 3, 1) := by decide +kernel
theorem dX0_through_20 : decode cX0_through 20 = .ok (.bipush 8, 2) := by decide +kernel
theorem dX0_through_22 : decode cX0_through 22 = .ok (.iload_n 2, 1) := by decide +kernel
theorem dX0_through_23 : decode cX0_through 23 = .ok (.isub, 1) := by decide +kernel
theorem dX0_through_24 : decode cX0_through 24 = .ok (.if_icmp .le 6, 3) := by decide +kernel
theorem dX0_through_27 : decode cX0_through 27 = .ok (.bipush (-2), 2) := by decide +kernel
theorem dX0_through_29 : decode cX0_through 29 = .ok (.ireturn, 1) := by decide +kernel
theorem dX0_through_30 : decode cX0_through 30 = .ok (.aload_n 0, 1) := by decide +kernel
theorem dX0_through_31 : decode cX0_through 31 = .ok (.aload_n 0, 1) := by decide +kernel
theorem dX0_through_32 : decode cX0_through 32 = .ok (.iload_n 1, 1) := by decide +kernel
theorem dX0_through_33 : decode cX0_through 33 = .ok (.iload_n 2, 1) := by decide +kernel
theorem dX0_through_34 : decode cX0_through 34 = .ok (.iload_n 3, 1) := by decide +kernel
theorem dX0_through_35 : decode cX0_through 35 = .ok (.invokevirtual 104, 3) := by decide +kernel
theorem dX0_through_38 : decode cX0_through 38 = .ok (.putfield 42, 3) := by decide +kernel
theorem dX0_through_41 : decode cX0_through 41 = .ok (.aload_n 0, 1) := by decide +kernel
theorem dX0_through_42 : decode cX0_through 42 = .ok (.getfield 42, 3) := by decide +kernel
theorem dX0_through_45 : decode cX0_through 45 = .ok (.iconst (-1), 1) := by decide +kernel
theorem dX0_through_46 : decode cX0_through 46 = .ok (.if_icmp .ne 7, 3) := by decide +kernel
theorem dX0_through_49 : decode cX0_through 49 = .ok (.iconst 1, 1) := by decide +kernel
theorem dX0_through_50 : decode cX0_through 50 = .ok (.goto 8, 3) := by decide +kernel
theorem dX0_through_53 : decode cX0_through 53 = .ok (.aload_n 0, 1) := by decide +kernel
theorem dX0_through_54 : decode cX0_through 54 = .ok (.iconst 2, 1) := by decide +kernel
theorem dX0_through_55 : decode cX0_through 55 = .ok (.invokevirtual 57, 3) := by decide +kernel
theorem dX0_through_58 : decode cX0_through 58 = .ok (.ireturn, 1) := by decide +kernel
theorem dX0_lastDoor_0 : decode cX0_lastDoor 0 = .ok (.aload_n 0, 1) := by decide +kernel
theorem dX0_lastDoor_1 : decode cX0_lastDoor 1 = .ok (.getfield 42, 3) := by decide +kernel
theorem dX0_lastDoor_4 : decode cX0_lastDoor 4 = .ok (.ireturn, 1) := by decide +kernel
theorem dX0_worth_0 : decode cX0_worth 0 = .ok (.aload_n 0, 1) := by decide +kernel
theorem dX0_worth_1 : decode cX0_worth 1 = .ok (.iload_n 1, 1) := by decide +kernel
theorem dX0_worth_2 : decode cX0_worth 2 = .ok (.iconst 3, 1) := by decide +kernel
theorem dX0_worth_3 : decode cX0_worth 3 = .ok (.invokevirtual 107, 3) := by decide +kernel
theorem dX0_worth_6 : decode cX0_worth 6 = .ok (.lreturn, 1) := by decide +kernel
theorem dX0_copy_0 : decode cX0_copy 0 = .ok (.aload_n 0, 1) := by decide +kernel
theorem dX0_copy_1 : decode cX0_copy 1 = .ok (.iload_n 1, 1) := by decide +kernel
theorem dX0_copy_2 : decode cX0_copy 2 = .ok (.invokevirtual 73, 3) := by decide +kernel
theorem dX0_copy_5 : decode cX0_copy 5 = .ok (.ifCond .ne 6, 3) := by decide +kernel
theorem dX0_copy_8 : decode cX0_copy 8 = .ok (.bipush (-2), 2) := by decide +kernel
theorem dX0_copy_10 : decode cX0_copy 10 = .ok (.ireturn, 1) := by decide +kernel
theorem dX0_copy_11 : decode cX0_copy 11 = .ok (.aload_n 0, 1) := by decide +kernel
theorem dX0_copy_12 : decode cX0_copy 12 = .ok (.iconst 1, 1) := by decide +kernel
theorem dX0_copy_13 : decode cX0_copy 13 = .ok (.invokevirtual 45, 3) := by decide +kernel
theorem dX0_copy_16 : decode cX0_copy 16 = .ok (.ifCond .ne 6, 3) := by decide +kernel
theorem dX0_copy_19 : decode cX0_copy 19 = .ok (.bipush (-3), 2) := by decide +kernel
theorem dX0_copy_21 : decode cX0_copy 21 = .ok (.ireturn, 1) := by decide +kernel
theorem dX0_copy_22 : decode cX0_copy 22 = .ok (.iload_n 1, 1) := by decide +kernel
theorem dX0_copy_23 : decode cX0_copy 23 = .ok (.iconst (-1), 1) := by decide +kernel
theorem dX0_copy_24 : decode cX0_copy 24 = .ok (.if_icmp .ne 9, 3) := by decide +kernel
theorem dX0_copy_27 : decode cX0_copy 27 = .ok (.aload_n 0, 1) := by decide +kernel
theorem dX0_copy_28 : decode cX0_copy 28 = .ok (.iconst 1, 1) := by decide +kernel
theorem dX0_copy_29 : decode cX0_copy 29 = .ok (.invokevirtual 57, 3) := by decide +kernel
theorem dX0_copy_32 : decode cX0_copy 32 = .ok (.ireturn, 1) := by decide +kernel
theorem dX0_copy_33 : decode cX0_copy 33 = .ok (.aload_n 0, 1) := by decide +kernel
theorem dX0_copy_34 : decode cX0_copy 34 = .ok (.iload_n 1, 1) := by decide +kernel
theorem dX0_copy_35 : decode cX0_copy 35 = .ok (.invokevirtual 111, 3) := by decide +kernel
theorem dX0_copy_38 : decode cX0_copy 38 = .ok (.ifCond .eq 9, 3) := by decide +kernel
theorem dX0_copy_41 : decode cX0_copy 41 = .ok (.aload_n 0, 1) := by decide +kernel
theorem dX0_copy_42 : decode cX0_copy 42 = .ok (.iconst 2, 1) := by decide +kernel
theorem dX0_copy_43 : decode cX0_copy 43 = .ok (.invokevirtual 57, 3) := by decide +kernel
theorem dX0_copy_46 : decode cX0_copy 46 = .ok (.ireturn, 1) := by decide +kernel
theorem dX0_copy_47 : decode cX0_copy 47 = .ok (.aload_n 0, 1) := by decide +kernel
theorem dX0_copy_48 : decode cX0_copy 48 = .ok (.aload_n 0, 1) := by decide +kernel
theorem dX0_copy_49 : decode cX0_copy 49 = .ok (.getfield 9, 3) := by decide +kernel
theorem dX0_copy_52 : decode cX0_copy 52 = .ok (.iload_n 1, 1) := by decide +kernel
theorem dX0_copy_53 : decode cX0_copy 53 = .ok (.iaload, 1) := by decide +kernel
theorem dX0_copy_54 : decode cX0_copy 54 = .ok (.aload_n 0, 1) := by decide +kernel
theorem dX0_copy_55 : decode cX0_copy 55 = .ok (.getfield 13, 3) := by decide +kernel
theorem dX0_copy_58 : decode cX0_copy 58 = .ok (.iload_n 1, 1) := by decide +kernel
theorem dX0_copy_59 : decode cX0_copy 59 = .ok (.iaload, 1) := by decide +kernel
theorem dX0_copy_60 : decode cX0_copy 60 = .ok (.aload_n 0, 1) := by decide +kernel
theorem dX0_copy_61 : decode cX0_copy 61 = .ok (.getfield 16, 3) := by decide +kernel
theorem dX0_copy_64 : decode cX0_copy 64 = .ok (.iload_n 1, 1) := by decide +kernel
theorem dX0_copy_65 : decode cX0_copy 65 = .ok (.iaload, 1) := by decide +kernel
theorem dX0_copy_66 : decode cX0_copy 66 = .ok (.invokevirtual 49, 3) := by decide +kernel
theorem dX0_copy_69 : decode cX0_copy 69 = .ok (.istore_n 2, 1) := by decide +kernel
theorem dX0_copy_70 : decode cX0_copy 70 = .ok (.aload_n 0, 1) := by decide +kernel
theorem dX0_copy_71 : decode cX0_copy 71 = .ok (.iload_n 1, 1) := by decide +kernel
theorem dX0_copy_72 : decode cX0_copy 72 = .ok (.iconst 0, 1) := by decide +kernel
theorem dX0_copy_73 : decode cX0_copy 73 = .ok (.iload_n 2, 1) := by decide +kernel
theorem dX0_copy_74 : decode cX0_copy 74 = .ok (.iconst 0, 1) := by decide +kernel
theorem dX0_copy_75 : decode cX0_copy 75 = .ok (.aload_n 0, 1) := by decide +kernel
theorem dX0_copy_76 : decode cX0_copy 76 = .ok (.getfield 16, 3) := by decide +kernel
theorem dX0_copy_79 : decode cX0_copy 79 = .ok (.iload_n 1, 1) := by decide +kernel
theorem dX0_copy_80 : decode cX0_copy 80 = .ok (.iaload, 1) := by decide +kernel
theorem dX0_copy_81 : decode cX0_copy 81 = .ok (.invokevirtual 114, 3) := by decide +kernel
theorem dX0_copy_84 : decode cX0_copy 84 = .ok (.iload_n 2, 1) := by decide +kernel
theorem dX0_copy_85 : decode cX0_copy 85 = .ok (.ireturn, 1) := by decide +kernel
theorem dX0_carry_0 : decode cX0_carry 0 = .ok (.aload_n 0, 1) := by decide +kernel
theorem dX0_carry_1 : decode cX0_carry 1 = .ok (.iload_n 1, 1) := by decide +kernel
theorem dX0_carry_2 : decode cX0_carry 2 = .ok (.invokevirtual 73, 3) := by decide +kernel
theorem dX0_carry_5 : decode cX0_carry 5 = .ok (.ifCond .eq 11, 3) := by decide +kernel
theorem dX0_carry_8 : decode cX0_carry 8 = .ok (.aload_n 0, 1) := by decide +kernel
theorem dX0_carry_9 : decode cX0_carry 9 = .ok (.iload_n 3, 1) := by decide +kernel
theorem dX0_carry_10 : decode cX0_carry 10 = .ok (.invokevirtual 73, 3) := by decide +kernel
theorem dX0_carry_13 : decode cX0_carry 13 = .ok (.ifCond .ne 6, 3) := by decide +kernel
theorem dX0_carry_16 : decode cX0_carry 16 = .ok (.bipush (-2), 2) := by decide +kernel
theorem dX0_carry_18 : decode cX0_carry 18 = .ok (.ireturn, 1) := by decide +kernel
theorem dX0_carry_19 : decode cX0_carry 19 = .ok (.iload_n 1, 1) := by decide +kernel
theorem dX0_carry_20 : decode cX0_carry 20 = .ok (.iconst (-1), 1) := by decide +kernel
theorem dX0_carry_21 : decode cX0_carry 21 = .ok (.if_icmp .eq 8, 3) := by decide +kernel
theorem dX0_carry_24 : decode cX0_carry 24 = .ok (.iload_n 3, 1) := by decide +kernel
theorem dX0_carry_25 : decode cX0_carry 25 = .ok (.iconst (-1), 1) := by decide +kernel
theorem dX0_carry_26 : decode cX0_carry 26 = .ok (.if_icmp .ne 9, 3) := by decide +kernel
theorem dX0_carry_29 : decode cX0_carry 29 = .ok (.aload_n 0, 1) := by decide +kernel
theorem dX0_carry_30 : decode cX0_carry 30 = .ok (.iconst 1, 1) := by decide +kernel
theorem dX0_carry_31 : decode cX0_carry 31 = .ok (.invokevirtual 57, 3) := by decide +kernel
theorem dX0_carry_34 : decode cX0_carry 34 = .ok (.ireturn, 1) := by decide +kernel
theorem dX0_carry_35 : decode cX0_carry 35 = .ok (.aload_n 0, 1) := by decide +kernel
theorem dX0_carry_36 : decode cX0_carry 36 = .ok (.iload_n 1, 1) := by decide +kernel
theorem dX0_carry_37 : decode cX0_carry 37 = .ok (.iload_n 3, 1) := by decide +kernel
theorem dX0_carry_38 : decode cX0_carry 38 = .ok (.invokevirtual 118, 3) := by decide +kernel
theorem dX0_carry_41 : decode cX0_carry 41 = .ok (.ifCond .ne 9, 3) := by decide +kernel
theorem dX0_carry_44 : decode cX0_carry 44 = .ok (.aload_n 0, 1) := by decide +kernel
theorem dX0_carry_45 : decode cX0_carry 45 = .ok (.iconst 4, 1) := by decide +kernel
theorem dX0_carry_46 : decode cX0_carry 46 = .ok (.invokevirtual 57, 3) := by decide +kernel
theorem dX0_carry_49 : decode cX0_carry 49 = .ok (.ireturn, 1) := by decide +kernel
theorem dX0_carry_50 : decode cX0_carry 50 = .ok (.aload_n 0, 1) := by decide +kernel
theorem dX0_carry_51 : decode cX0_carry 51 = .ok (.iload_n 1, 1) := by decide +kernel
theorem dX0_carry_52 : decode cX0_carry 52 = .ok (.iload_n 2, 1) := by decide +kernel
theorem dX0_carry_53 : decode cX0_carry 53 = .ok (.iload 5, 2) := by decide +kernel
theorem dX0_carry_55 : decode cX0_carry 55 = .ok (.invokevirtual 121, 3) := by decide +kernel
theorem dX0_carry_58 : decode cX0_carry 58 = .ok (.ifCond .eq 15, 3) := by decide +kernel
theorem dX0_carry_61 : decode cX0_carry 61 = .ok (.aload_n 0, 1) := by decide +kernel
theorem dX0_carry_62 : decode cX0_carry 62 = .ok (.iload_n 3, 1) := by decide +kernel
theorem dX0_carry_63 : decode cX0_carry 63 = .ok (.iload 4, 2) := by decide +kernel
theorem dX0_carry_65 : decode cX0_carry 65 = .ok (.iload 5, 2) := by decide +kernel
theorem dX0_carry_67 : decode cX0_carry 67 = .ok (.invokevirtual 121, 3) := by decide +kernel
theorem dX0_carry_70 : decode cX0_carry 70 = .ok (.ifCond .ne 9, 3) := by decide +kernel
theorem dX0_carry_73 : decode cX0_carry 73 = .ok (.aload_n 0, 1) := by decide +kernel
theorem dX0_carry_74 : decode cX0_carry 74 = .ok (.iconst 3, 1) := by decide +kernel
theorem dX0_carry_75 : decode cX0_carry 75 = .ok (.invokevirtual 57, 3) := by decide +kernel
theorem dX0_carry_78 : decode cX0_carry 78 = .ok (.ireturn, 1) := by decide +kernel
theorem dX0_carry_79 : decode cX0_carry 79 = .ok (.aload_n 0, 1) := by decide +kernel
theorem dX0_carry_80 : decode cX0_carry 80 = .ok (.iload_n 3, 1) := by decide +kernel
theorem dX0_carry_81 : decode cX0_carry 81 = .ok (.invokevirtual 124, 3) := by decide +kernel
theorem dX0_carry_84 : decode cX0_carry 84 = .ok (.ifCond .eq 8, 3) := by decide +kernel
theorem dX0_carry_87 : decode cX0_carry 87 = .ok (.iload 5, 2) := by decide +kernel
theorem dX0_carry_89 : decode cX0_carry 89 = .ok (.goto 12, 3) := by decide +kernel
theorem dX0_carry_92 : decode cX0_carry 92 = .ok (.aload_n 0, 1) := by decide +kernel
theorem dX0_carry_93 : decode cX0_carry 93 = .ok (.iload_n 1, 1) := by decide +kernel
theorem dX0_carry_94 : decode cX0_carry 94 = .ok (.iload_n 2, 1) := by decide +kernel
theorem dX0_carry_95 : decode cX0_carry 95 = .ok (.iload_n 3, 1) := by decide +kernel
theorem dX0_carry_96 : decode cX0_carry 96 = .ok (.iload 5, 2) := by decide +kernel
theorem dX0_carry_98 : decode cX0_carry 98 = .ok (.invokevirtual 127, 3) := by decide +kernel
theorem dX0_carry_101 : decode cX0_carry 101 = .ok (.istore 6, 2) := by decide +kernel
theorem dX0_carry_103 : decode cX0_carry 103 = .ok (.aload_n 0, 1) := by decide +kernel
theorem dX0_carry_104 : decode cX0_carry 104 = .ok (.iload_n 1, 1) := by decide +kernel
theorem dX0_carry_105 : decode cX0_carry 105 = .ok (.iload_n 2, 1) := by decide +kernel
theorem dX0_carry_106 : decode cX0_carry 106 = .ok (.iload_n 3, 1) := by decide +kernel
theorem dX0_carry_107 : decode cX0_carry 107 = .ok (.iload 4, 2) := by decide +kernel
theorem dX0_carry_109 : decode cX0_carry 109 = .ok (.iload 6, 2) := by decide +kernel
theorem dX0_carry_111 : decode cX0_carry 111 = .ok (.invokevirtual 114, 3) := by decide +kernel
theorem dX0_carry_114 : decode cX0_carry 114 = .ok (.iload 6, 2) := by decide +kernel
theorem dX0_carry_116 : decode cX0_carry 116 = .ok (.iload 5, 2) := by decide +kernel
theorem dX0_carry_118 : decode cX0_carry 118 = .ok (.if_icmp .ne 7, 3) := by decide +kernel
theorem dX0_carry_121 : decode cX0_carry 121 = .ok (.iconst 1, 1) := by decide +kernel
theorem dX0_carry_122 : decode cX0_carry 122 = .ok (.goto 8, 3) := by decide +kernel
theorem dX0_carry_125 : decode cX0_carry 125 = .ok (.aload_n 0, 1) := by decide +kernel
theorem dX0_carry_126 : decode cX0_carry 126 = .ok (.iconst 4, 1) := by decide +kernel
theorem dX0_carry_127 : decode cX0_carry 127 = .ok (.invokevirtual 57, 3) := by decide +kernel
theorem dX0_carry_130 : decode cX0_carry 130 = .ok (.ireturn, 1) := by decide +kernel
theorem dX0_frail_0 : decode cX0_frail 0 = .ok (.aload_n 0, 1) := by decide +kernel
theorem dX0_frail_1 : decode cX0_frail 1 = .ok (.iload_n 1, 1) := by decide +kernel
theorem dX0_frail_2 : decode cX0_frail 2 = .ok (.invokevirtual 73, 3) := by decide +kernel
theorem dX0_frail_5 : decode cX0_frail 5 = .ok (.ifCond .ne 6, 3) := by decide +kernel
theorem dX0_frail_8 : decode cX0_frail 8 = .ok (.bipush (-2), 2) := by decide +kernel
theorem dX0_frail_10 : decode cX0_frail 10 = .ok (.ireturn, 1) := by decide +kernel
theorem dX0_frail_11 : decode cX0_frail 11 = .ok (.iload_n 1, 1) := by decide +kernel
theorem dX0_frail_12 : decode cX0_frail 12 = .ok (.iconst (-1), 1) := by decide +kernel
theorem dX0_frail_13 : decode cX0_frail 13 = .ok (.if_icmp .ne 9, 3) := by decide +kernel
theorem dX0_frail_16 : decode cX0_frail 16 = .ok (.aload_n 0, 1) := by decide +kernel
theorem dX0_frail_17 : decode cX0_frail 17 = .ok (.iconst 1, 1) := by decide +kernel
theorem dX0_frail_18 : decode cX0_frail 18 = .ok (.invokevirtual 57, 3) := by decide +kernel
theorem dX0_frail_21 : decode cX0_frail 21 = .ok (.ireturn, 1) := by decide +kernel
theorem dX0_frail_22 : decode cX0_frail 22 = .ok (.aload_n 0, 1) := by decide +kernel
theorem dX0_frail_23 : decode cX0_frail 23 = .ok (.getfield 9, 3) := by decide +kernel
theorem dX0_frail_26 : decode cX0_frail 26 = .ok (.iload_n 1, 1) := by decide +kernel
theorem dX0_frail_27 : decode cX0_frail 27 = .ok (.iaload, 1) := by decide +kernel
theorem dX0_frail_28 : decode cX0_frail 28 = .ok (.invokestatic 131, 3) := by decide +kernel
theorem dX0_frail_31 : decode cX0_frail 31 = .ok (.ifCond .eq 9, 3) := by decide +kernel
theorem dX0_frail_34 : decode cX0_frail 34 = .ok (.aload_n 0, 1) := by decide +kernel
theorem dX0_frail_35 : decode cX0_frail 35 = .ok (.iconst 2, 1) := by decide +kernel
theorem dX0_frail_36 : decode cX0_frail 36 = .ok (.invokevirtual 57, 3) := by decide +kernel
theorem dX0_frail_39 : decode cX0_frail 39 = .ok (.ireturn, 1) := by decide +kernel
theorem dX0_frail_40 : decode cX0_frail 40 = .ok (.aload_n 0, 1) := by decide +kernel
theorem dX0_frail_41 : decode cX0_frail 41 = .ok (.iload_n 1, 1) := by decide +kernel
theorem dX0_frail_42 : decode cX0_frail 42 = .ok (.iconst 3, 1) := by decide +kernel
theorem dX0_frail_43 : decode cX0_frail 43 = .ok (.invokevirtual 134, 3) := by decide +kernel
theorem dX0_frail_46 : decode cX0_frail 46 = .ok (.ireturn, 1) := by decide +kernel
theorem dX0_about_0 : decode cX0_about 0 = .ok (.aload_n 0, 1) := by decide +kernel
theorem dX0_about_1 : decode cX0_about 1 = .ok (.iload_n 1, 1) := by decide +kernel
theorem dX0_about_2 : decode cX0_about 2 = .ok (.invokevirtual 137, 3) := by decide +kernel
theorem dX0_about_5 : decode cX0_about 5 = .ok (.ifCond .ne 6, 3) := by decide +kernel
theorem dX0_about_8 : decode cX0_about 8 = .ok (.bipush (-2), 2) := by decide +kernel
theorem dX0_about_10 : decode cX0_about 10 = .ok (.ireturn, 1) := by decide +kernel
theorem dX0_about_11 : decode cX0_about 11 = .ok (.iload_n 2, 1) := by decide +kernel
theorem dX0_about_12 : decode cX0_about 12 = .ok (.tableswitch 61 0 2 #[28, 35, 42], 28) := by decide +kernel
theorem dX0_about_40 : decode cX0_about 40 = .ok (.aload_n 0, 1) := by decide +kernel
theorem dX0_about_41 : decode cX0_about 41 = .ok (.getfield 9, 3) := by decide +kernel
theorem dX0_about_44 : decode cX0_about 44 = .ok (.iload_n 1, 1) := by decide +kernel
theorem dX0_about_45 : decode cX0_about 45 = .ok (.iaload, 1) := by decide +kernel
theorem dX0_about_46 : decode cX0_about 46 = .ok (.ireturn, 1) := by decide +kernel
theorem dX0_about_47 : decode cX0_about 47 = .ok (.aload_n 0, 1) := by decide +kernel
theorem dX0_about_48 : decode cX0_about 48 = .ok (.getfield 13, 3) := by decide +kernel
theorem dX0_about_51 : decode cX0_about 51 = .ok (.iload_n 1, 1) := by decide +kernel
theorem dX0_about_52 : decode cX0_about 52 = .ok (.iaload, 1) := by decide +kernel
theorem dX0_about_53 : decode cX0_about 53 = .ok (.ireturn, 1) := by decide +kernel
theorem dX0_about_54 : decode cX0_about 54 = .ok (.aload_n 0, 1) := by decide +kernel
theorem dX0_about_55 : decode cX0_about 55 = .ok (.iload_n 1, 1) := by decide +kernel
theorem dX0_about_56 : decode cX0_about 56 = .ok (.invokevirtual 111, 3) := by decide +kernel
theorem dX0_about_59 : decode cX0_about 59 = .ok (.ifCond .eq 7, 3) := by decide +kernel
theorem dX0_about_62 : decode cX0_about 62 = .ok (.iconst (-1), 1) := by decide +kernel
theorem dX0_about_63 : decode cX0_about 63 = .ok (.goto 9, 3) := by decide +kernel
theorem dX0_about_66 : decode cX0_about 66 = .ok (.aload_n 0, 1) := by decide +kernel
theorem dX0_about_67 : decode cX0_about 67 = .ok (.getfield 16, 3) := by decide +kernel
theorem dX0_about_70 : decode cX0_about 70 = .ok (.iload_n 1, 1) := by decide +kernel
theorem dX0_about_71 : decode cX0_about 71 = .ok (.iaload, 1) := by decide +kernel
theorem dX0_about_72 : decode cX0_about 72 = .ok (.ireturn, 1) := by decide +kernel
theorem dX0_about_73 : decode cX0_about 73 = .ok (.bipush (-2), 2) := by decide +kernel
theorem dX0_about_75 : decode cX0_about 75 = .ok (.ireturn, 1) := by decide +kernel
theorem dX0_bases_0 : decode cX0_bases 0 = .ok (.aload_n 0, 1) := by decide +kernel
theorem dX0_bases_1 : decode cX0_bases 1 = .ok (.iload_n 1, 1) := by decide +kernel
theorem dX0_bases_2 : decode cX0_bases 2 = .ok (.invokevirtual 137, 3) := by decide +kernel
theorem dX0_bases_5 : decode cX0_bases 5 = .ok (.ifCond .eq 16, 3) := by decide +kernel
theorem dX0_bases_8 : decode cX0_bases 8 = .ok (.getstatic 140, 3) := by decide +kernel
theorem dX0_bases_11 : decode cX0_bases 11 = .ok (.aload_n 0, 1) := by decide +kernel
theorem dX0_bases_12 : decode cX0_bases 12 = .ok (.getfield 9, 3) := by decide +kernel
theorem dX0_bases_15 : decode cX0_bases 15 = .ok (.iload_n 1, 1) := by decide +kernel
theorem dX0_bases_16 : decode cX0_bases 16 = .ok (.iaload, 1) := by decide +kernel
theorem dX0_bases_17 : decode cX0_bases 17 = .ok (.iaload, 1) := by decide +kernel
theorem dX0_bases_18 : decode cX0_bases 18 = .ok (.goto 5, 3) := by decide +kernel
theorem dX0_bases_21 : decode cX0_bases 21 = .ok (.bipush (-2), 2) := by decide +kernel
theorem dX0_bases_23 : decode cX0_bases 23 = .ok (.ireturn, 1) := by decide +kernel
theorem dX0_count_0 : decode cX0_count 0 = .ok (.iload_n 1, 1) := by decide +kernel
theorem dX0_count_1 : decode cX0_count 1 = .ok (.tableswitch 42 0 2 #[27, 32, 37], 27) := by decide +kernel
theorem dX0_count_28 : decode cX0_count 28 = .ok (.aload_n 0, 1) := by decide +kernel
theorem dX0_count_29 : decode cX0_count 29 = .ok (.getfield 32, 3) := by decide +kernel
theorem dX0_count_32 : decode cX0_count 32 = .ok (.ireturn, 1) := by decide +kernel
theorem dX0_count_33 : decode cX0_count 33 = .ok (.aload_n 0, 1) := by decide +kernel
theorem dX0_count_34 : decode cX0_count 34 = .ok (.getfield 36, 3) := by decide +kernel
theorem dX0_count_37 : decode cX0_count 37 = .ok (.ireturn, 1) := by decide +kernel
theorem dX0_count_38 : decode cX0_count 38 = .ok (.aload_n 0, 1) := by decide +kernel
theorem dX0_count_39 : decode cX0_count 39 = .ok (.getfield 39, 3) := by decide +kernel
theorem dX0_count_42 : decode cX0_count 42 = .ok (.ireturn, 1) := by decide +kernel
theorem dX0_count_43 : decode cX0_count 43 = .ok (.bipush (-2), 2) := by decide +kernel
theorem dX0_count_45 : decode cX0_count 45 = .ok (.ireturn, 1) := by decide +kernel
theorem dX0_clear_0 : decode cX0_clear 0 = .ok (.aload_n 0, 1) := by decide +kernel
theorem dX0_clear_1 : decode cX0_clear 1 = .ok (.getfield 32, 3) := by decide +kernel
theorem dX0_clear_4 : decode cX0_clear 4 = .ok (.istore_n 1, 1) := by decide +kernel
theorem dX0_clear_5 : decode cX0_clear 5 = .ok (.aload_n 0, 1) := by decide +kernel
theorem dX0_clear_6 : decode cX0_clear 6 = .ok (.iconst 0, 1) := by decide +kernel
theorem dX0_clear_7 : decode cX0_clear 7 = .ok (.putfield 32, 3) := by decide +kernel
theorem dX0_clear_10 : decode cX0_clear 10 = .ok (.iconst 0, 1) := by decide +kernel
theorem dX0_clear_11 : decode cX0_clear 11 = .ok (.istore_n 2, 1) := by decide +kernel
theorem dX0_clear_12 : decode cX0_clear 12 = .ok (.iload_n 2, 1) := by decide +kernel
theorem dX0_clear_13 : decode cX0_clear 13 = .ok (.bipush 8, 2) := by decide +kernel
theorem dX0_clear_15 : decode cX0_clear 15 = .ok (.if_icmp .ge 23, 3) := by decide +kernel
theorem dX0_clear_18 : decode cX0_clear 18 = .ok (.aload_n 0, 1) := by decide +kernel
theorem dX0_clear_19 : decode cX0_clear 19 = .ok (.getfield 26, 3) := by decide +kernel
theorem dX0_clear_22 : decode cX0_clear 22 = .ok (.iload_n 2, 1) := by decide +kernel
theorem dX0_clear_23 : decode cX0_clear 23 = .ok (.iconst 0, 1) := by decide +kernel
theorem dX0_clear_24 : decode cX0_clear 24 = .ok (.iastore, 1) := by decide +kernel
theorem dX0_clear_25 : decode cX0_clear 25 = .ok (.aload_n 0, 1) := by decide +kernel
theorem dX0_clear_26 : decode cX0_clear 26 = .ok (.getfield 29, 3) := by decide +kernel
theorem dX0_clear_29 : decode cX0_clear 29 = .ok (.iload_n 2, 1) := by decide +kernel
theorem dX0_clear_30 : decode cX0_clear 30 = .ok (.iconst 0, 1) := by decide +kernel
theorem dX0_clear_31 : decode cX0_clear 31 = .ok (.iastore, 1) := by decide +kernel
theorem dX0_clear_32 : decode cX0_clear 32 = .ok (.iinc 2 1, 3) := by decide +kernel
theorem dX0_clear_35 : decode cX0_clear 35 = .ok (.goto (-23), 3) := by decide +kernel
theorem dX0_clear_38 : decode cX0_clear 38 = .ok (.iload_n 1, 1) := by decide +kernel
theorem dX0_clear_39 : decode cX0_clear 39 = .ok (.ireturn, 1) := by decide +kernel
theorem dX0_fail_0 : decode cX0_fail 0 = .ok (.aload_n 0, 1) := by decide +kernel
theorem dX0_fail_1 : decode cX0_fail 1 = .ok (.dup, 1) := by decide +kernel
theorem dX0_fail_2 : decode cX0_fail 2 = .ok (.getfield 36, 3) := by decide +kernel
theorem dX0_fail_5 : decode cX0_fail 5 = .ok (.iconst 1, 1) := by decide +kernel
theorem dX0_fail_6 : decode cX0_fail 6 = .ok (.iadd, 1) := by decide +kernel
theorem dX0_fail_7 : decode cX0_fail 7 = .ok (.putfield 36, 3) := by decide +kernel
theorem dX0_fail_10 : decode cX0_fail 10 = .ok (.aload_n 0, 1) := by decide +kernel
theorem dX0_fail_11 : decode cX0_fail 11 = .ok (.iload_n 1, 1) := by decide +kernel
theorem dX0_fail_12 : decode cX0_fail 12 = .ok (.putfield 39, 3) := by decide +kernel
theorem dX0_fail_15 : decode cX0_fail 15 = .ok (.bipush (-10), 2) := by decide +kernel
theorem dX0_fail_17 : decode cX0_fail 17 = .ok (.iload_n 1, 1) := by decide +kernel
theorem dX0_fail_18 : decode cX0_fail 18 = .ok (.isub, 1) := by decide +kernel
theorem dX0_fail_19 : decode cX0_fail 19 = .ok (.ireturn, 1) := by decide +kernel
theorem dX0_isThing_0 : decode cX0_isThing 0 = .ok (.iload_n 1, 1) := by decide +kernel
theorem dX0_isThing_1 : decode cX0_isThing 1 = .ok (.ifCond .lt 15, 3) := by decide +kernel
theorem dX0_isThing_4 : decode cX0_isThing 4 = .ok (.iload_n 1, 1) := by decide +kernel
theorem dX0_isThing_5 : decode cX0_isThing 5 = .ok (.aload_n 0, 1) := by decide +kernel
theorem dX0_isThing_6 : decode cX0_isThing 6 = .ok (.getfield 32, 3) := by decide +kernel
theorem dX0_isThing_9 : decode cX0_isThing 9 = .ok (.if_icmp .ge 7, 3) := by decide +kernel
theorem dX0_isThing_12 : decode cX0_isThing 12 = .ok (.iconst 1, 1) := by decide +kernel
theorem dX0_isThing_13 : decode cX0_isThing 13 = .ok (.goto 4, 3) := by decide +kernel
theorem dX0_isThing_16 : decode cX0_isThing 16 = .ok (.iconst 0, 1) := by decide +kernel
theorem dX0_isThing_17 : decode cX0_isThing 17 = .ok (.ireturn, 1) := by decide +kernel
theorem dX0_isThingOrNone_0 : decode cX0_isThingOrNone 0 = .ok (.iload_n 1, 1) := by decide +kernel
theorem dX0_isThingOrNone_1 : decode cX0_isThingOrNone 1 = .ok (.iconst (-1), 1) := by decide +kernel
theorem dX0_isThingOrNone_2 : decode cX0_isThingOrNone 2 = .ok (.if_icmp .eq 11, 3) := by decide +kernel
theorem dX0_isThingOrNone_5 : decode cX0_isThingOrNone 5 = .ok (.aload_n 0, 1) := by decide +kernel
theorem dX0_isThingOrNone_6 : decode cX0_isThingOrNone 6 = .ok (.iload_n 1, 1) := by decide +kernel
theorem dX0_isThingOrNone_7 : decode cX0_isThingOrNone 7 = .ok (.invokevirtual 137, 3) := by decide +kernel
theorem dX0_isThingOrNone_10 : decode cX0_isThingOrNone 10 = .ok (.ifCond .eq 7, 3) := by decide +kernel
theorem dX0_isThingOrNone_13 : decode cX0_isThingOrNone 13 = .ok (.iconst 1, 1) := by decide +kernel
theorem dX0_isThingOrNone_14 : decode cX0_isThingOrNone 14 = .ok (.goto 4, 3) := by decide +kernel
theorem dX0_isThingOrNone_17 : decode cX0_isThingOrNone 17 = .ok (.iconst 0, 1) := by decide +kernel
theorem dX0_isThingOrNone_18 : decode cX0_isThingOrNone 18 = .ok (.ireturn, 1) := by decide +kernel
theorem dX0_isDoor_0 : decode cX0_isDoor 0 = .ok (.iload_n 0, 1) := by decide +kernel
theorem dX0_isDoor_1 : decode cX0_isDoor 1 = .ok (.ifCond .lt 13, 3) := by decide +kernel
theorem dX0_isDoor_4 : decode cX0_isDoor 4 = .ok (.iload_n 0, 1) := by decide +kernel
theorem dX0_isDoor_5 : decode cX0_isDoor 5 = .ok (.bipush 8, 2) := by decide +kernel
theorem dX0_isDoor_7 : decode cX0_isDoor 7 = .ok (.if_icmp .ge 7, 3) := by decide +kernel
theorem dX0_isDoor_10 : decode cX0_isDoor 10 = .ok (.iconst 1, 1) := by decide +kernel
theorem dX0_isDoor_11 : decode cX0_isDoor 11 = .ok (.goto 4, 3) := by decide +kernel
theorem dX0_isDoor_14 : decode cX0_isDoor 14 = .ok (.iconst 0, 1) := by decide +kernel
theorem dX0_isDoor_15 : decode cX0_isDoor 15 = .ok (.ireturn, 1) := by decide +kernel
theorem dX0_isNumberBase_0 : decode cX0_isNumberBase 0 = .ok (.iload_n 0, 1) := by decide +kernel
theorem dX0_isNumberBase_1 : decode cX0_isNumberBase 1 = .ok (.iconst 5, 1) := by decide +kernel
theorem dX0_isNumberBase_2 : decode cX0_isNumberBase 2 = .ok (.if_icmp .eq 9, 3) := by decide +kernel
theorem dX0_isNumberBase_5 : decode cX0_isNumberBase 5 = .ok (.iload_n 0, 1) := by decide +kernel
theorem dX0_isNumberBase_6 : decode cX0_isNumberBase 6 = .ok (.bipush 6, 2) := by decide +kernel
theorem dX0_isNumberBase_8 : decode cX0_isNumberBase 8 = .ok (.if_icmp .ne 7, 3) := by decide +kernel
theorem dX0_isNumberBase_11 : decode cX0_isNumberBase 11 = .ok (.iconst 1, 1) := by decide +kernel
theorem dX0_isNumberBase_12 : decode cX0_isNumberBase 12 = .ok (.goto 4, 3) := by decide +kernel
theorem dX0_isNumberBase_15 : decode cX0_isNumberBase 15 = .ok (.iconst 0, 1) := by decide +kernel
theorem dX0_isNumberBase_16 : decode cX0_isNumberBase 16 = .ok (.ireturn, 1) := by decide +kernel
theorem dX0_isKind_0 : decode cX0_isKind 0 = .ok (.iload_n 0, 1) := by decide +kernel
theorem dX0_isKind_1 : decode cX0_isKind 1 = .ok (.ifCond .lt 9, 3) := by decide +kernel
theorem dX0_isKind_4 : decode cX0_isKind 4 = .ok (.iload_n 0, 1) := by decide +kernel
theorem dX0_isKind_5 : decode cX0_isKind 5 = .ok (.bipush 6, 2) := by decide +kernel
theorem dX0_isKind_7 : decode cX0_isKind 7 = .ok (.if_icmp .le 5, 3) := by decide +kernel
theorem dX0_isKind_10 : decode cX0_isKind 10 = .ok (.iconst 0, 1) := by decide +kernel
theorem dX0_isKind_11 : decode cX0_isKind 11 = .ok (.ireturn, 1) := by decide +kernel
theorem dX0_isKind_12 : decode cX0_isKind 12 = .ok (.iload_n 0, 1) := by decide +kernel
theorem dX0_isKind_13 : decode cX0_isKind 13 = .ok (.invokestatic 131, 3) := by decide +kernel
theorem dX0_isKind_16 : decode cX0_isKind 16 = .ok (.ifCond .eq 19, 3) := by decide +kernel
theorem dX0_isKind_19 : decode cX0_isKind 19 = .ok (.iload_n 1, 1) := by decide +kernel
theorem dX0_isKind_20 : decode cX0_isKind 20 = .ok (.iconst 1, 1) := by decide +kernel
theorem dX0_isKind_21 : decode cX0_isKind 21 = .ok (.if_icmp .eq 8, 3) := by decide +kernel
theorem dX0_isKind_24 : decode cX0_isKind 24 = .ok (.iload_n 1, 1) := by decide +kernel
theorem dX0_isKind_25 : decode cX0_isKind 25 = .ok (.iconst 2, 1) := by decide +kernel
theorem dX0_isKind_26 : decode cX0_isKind 26 = .ok (.if_icmp .ne 7, 3) := by decide +kernel
theorem dX0_isKind_29 : decode cX0_isKind 29 = .ok (.iconst 1, 1) := by decide +kernel
theorem dX0_isKind_30 : decode cX0_isKind 30 = .ok (.goto 4, 3) := by decide +kernel
theorem dX0_isKind_33 : decode cX0_isKind 33 = .ok (.iconst 0, 1) := by decide +kernel
theorem dX0_isKind_34 : decode cX0_isKind 34 = .ok (.ireturn, 1) := by decide +kernel
theorem dX0_isKind_35 : decode cX0_isKind 35 = .ok (.iload_n 1, 1) := by decide +kernel
theorem dX0_isKind_36 : decode cX0_isKind 36 = .ok (.ifCond .lt 12, 3) := by decide +kernel
theorem dX0_isKind_39 : decode cX0_isKind 39 = .ok (.iload_n 1, 1) := by decide +kernel
theorem dX0_isKind_40 : decode cX0_isKind 40 = .ok (.iconst 3, 1) := by decide +kernel
theorem dX0_isKind_41 : decode cX0_isKind 41 = .ok (.if_icmp .gt 7, 3) := by decide +kernel
theorem dX0_isKind_44 : decode cX0_isKind 44 = .ok (.iconst 1, 1) := by decide +kernel
theorem dX0_isKind_45 : decode cX0_isKind 45 = .ok (.goto 4, 3) := by decide +kernel
theorem dX0_isKind_48 : decode cX0_isKind 48 = .ok (.iconst 0, 1) := by decide +kernel
theorem dX0_isKind_49 : decode cX0_isKind 49 = .ok (.ireturn, 1) := by decide +kernel
theorem dX0_isPiece_0 : decode cX0_isPiece 0 = .ok (.aload_n 0, 1) := by decide +kernel
theorem dX0_isPiece_1 : decode cX0_isPiece 1 = .ok (.getfield 13, 3) := by decide +kernel
theorem dX0_isPiece_4 : decode cX0_isPiece 4 = .ok (.iload_n 1, 1) := by decide +kernel
theorem dX0_isPiece_5 : decode cX0_isPiece 5 = .ok (.iaload, 1) := by decide +kernel
theorem dX0_isPiece_6 : decode cX0_isPiece 6 = .ok (.ifCond .ne 7, 3) := by decide +kernel
theorem dX0_isPiece_9 : decode cX0_isPiece 9 = .ok (.iconst 1, 1) := by decide +kernel
theorem dX0_isPiece_10 : decode cX0_isPiece 10 = .ok (.goto 4, 3) := by decide +kernel
theorem dX0_isPiece_13 : decode cX0_isPiece 13 = .ok (.iconst 0, 1) := by decide +kernel
theorem dX0_isPiece_14 : decode cX0_isPiece 14 = .ok (.ireturn, 1) := by decide +kernel
theorem dX0_isLedger_0 : decode cX0_isLedger 0 = .ok (.aload_n 0, 1) := by decide +kernel
theorem dX0_isLedger_1 : decode cX0_isLedger 1 = .ok (.getfield 13, 3) := by decide +kernel
theorem dX0_isLedger_4 : decode cX0_isLedger 4 = .ok (.iload_n 1, 1) := by decide +kernel
theorem dX0_isLedger_5 : decode cX0_isLedger 5 = .ok (.iaload, 1) := by decide +kernel
theorem dX0_isLedger_6 : decode cX0_isLedger 6 = .ok (.iconst 1, 1) := by decide +kernel
theorem dX0_isLedger_7 : decode cX0_isLedger 7 = .ok (.if_icmp .ne 19, 3) := by decide +kernel
theorem dX0_isLedger_10 : decode cX0_isLedger 10 = .ok (.aload_n 0, 1) := by decide +kernel
theorem dX0_isLedger_11 : decode cX0_isLedger 11 = .ok (.getfield 9, 3) := by decide +kernel
theorem dX0_isLedger_14 : decode cX0_isLedger 14 = .ok (.iload_n 1, 1) := by decide +kernel
theorem dX0_isLedger_15 : decode cX0_isLedger 15 = .ok (.iaload, 1) := by decide +kernel
theorem dX0_isLedger_16 : decode cX0_isLedger 16 = .ok (.invokestatic 131, 3) := by decide +kernel
theorem dX0_isLedger_19 : decode cX0_isLedger 19 = .ok (.ifCond .eq 7, 3) := by decide +kernel
theorem dX0_isLedger_22 : decode cX0_isLedger 22 = .ok (.iconst 1, 1) := by decide +kernel
theorem dX0_isLedger_23 : decode cX0_isLedger 23 = .ok (.goto 4, 3) := by decide +kernel
theorem dX0_isLedger_26 : decode cX0_isLedger 26 = .ok (.iconst 0, 1) := by decide +kernel
theorem dX0_isLedger_27 : decode cX0_isLedger 27 = .ok (.ireturn, 1) := by decide +kernel
theorem dX0_holdsThings_0 : decode cX0_holdsThings 0 = .ok (.aload_n 0, 1) := by decide +kernel
theorem dX0_holdsThings_1 : decode cX0_holdsThings 1 = .ok (.iload_n 1, 1) := by decide +kernel
theorem dX0_holdsThings_2 : decode cX0_holdsThings 2 = .ok (.invokevirtual 111, 3) := by decide +kernel
theorem dX0_holdsThings_5 : decode cX0_holdsThings 5 = .ok (.ifCond .ne 15, 3) := by decide +kernel
theorem dX0_holdsThings_8 : decode cX0_holdsThings 8 = .ok (.aload_n 0, 1) := by decide +kernel
theorem dX0_holdsThings_9 : decode cX0_holdsThings 9 = .ok (.iload_n 1, 1) := by decide +kernel
theorem dX0_holdsThings_10 : decode cX0_holdsThings 10 = .ok (.invokevirtual 124, 3) := by decide +kernel
theorem dX0_holdsThings_13 : decode cX0_holdsThings 13 = .ok (.ifCond .ne 7, 3) := by decide +kernel
theorem dX0_holdsThings_16 : decode cX0_holdsThings 16 = .ok (.iconst 1, 1) := by decide +kernel
theorem dX0_holdsThings_17 : decode cX0_holdsThings 17 = .ok (.goto 4, 3) := by decide +kernel
theorem dX0_holdsThings_20 : decode cX0_holdsThings 20 = .ok (.iconst 0, 1) := by decide +kernel
theorem dX0_holdsThings_21 : decode cX0_holdsThings 21 = .ok (.ireturn, 1) := by decide +kernel
theorem dX0_goesFor_0 : decode cX0_goesFor 0 = .ok (.getstatic 140, 3) := by decide +kernel
theorem dX0_goesFor_3 : decode cX0_goesFor 3 = .ok (.iload_n 0, 1) := by decide +kernel
theorem dX0_goesFor_4 : decode cX0_goesFor 4 = .ok (.iaload, 1) := by decide +kernel
theorem dX0_goesFor_5 : decode cX0_goesFor 5 = .ok (.iload_n 1, 1) := by decide +kernel
theorem dX0_goesFor_6 : decode cX0_goesFor 6 = .ok (.ishr, 1) := by decide +kernel
theorem dX0_goesFor_7 : decode cX0_goesFor 7 = .ok (.iconst 1, 1) := by decide +kernel
theorem dX0_goesFor_8 : decode cX0_goesFor 8 = .ok (.iand, 1) := by decide +kernel
theorem dX0_goesFor_9 : decode cX0_goesFor 9 = .ok (.iconst 1, 1) := by decide +kernel
theorem dX0_goesFor_10 : decode cX0_goesFor 10 = .ok (.if_icmp .ne 7, 3) := by decide +kernel
theorem dX0_goesFor_13 : decode cX0_goesFor 13 = .ok (.iconst 1, 1) := by decide +kernel
theorem dX0_goesFor_14 : decode cX0_goesFor 14 = .ok (.goto 4, 3) := by decide +kernel
theorem dX0_goesFor_17 : decode cX0_goesFor 17 = .ok (.iconst 0, 1) := by decide +kernel
theorem dX0_goesFor_18 : decode cX0_goesFor 18 = .ok (.ireturn, 1) := by decide +kernel
theorem dX0_isOfKind_0 : decode cX0_isOfKind 0 = .ok (.aload_n 0, 1) := by decide +kernel
theorem dX0_isOfKind_1 : decode cX0_isOfKind 1 = .ok (.iload_n 1, 1) := by decide +kernel
theorem dX0_isOfKind_2 : decode cX0_isOfKind 2 = .ok (.invokevirtual 137, 3) := by decide +kernel
theorem dX0_isOfKind_5 : decode cX0_isOfKind 5 = .ok (.ifCond .eq 30, 3) := by decide +kernel
theorem dX0_isOfKind_8 : decode cX0_isOfKind 8 = .ok (.aload_n 0, 1) := by decide +kernel
theorem dX0_isOfKind_9 : decode cX0_isOfKind 9 = .ok (.getfield 13, 3) := by decide +kernel
theorem dX0_isOfKind_12 : decode cX0_isOfKind 12 = .ok (.iload_n 1, 1) := by decide +kernel
theorem dX0_isOfKind_13 : decode cX0_isOfKind 13 = .ok (.iaload, 1) := by decide +kernel
theorem dX0_isOfKind_14 : decode cX0_isOfKind 14 = .ok (.iload_n 3, 1) := by decide +kernel
theorem dX0_isOfKind_15 : decode cX0_isOfKind 15 = .ok (.if_icmp .ne 20, 3) := by decide +kernel
theorem dX0_isOfKind_18 : decode cX0_isOfKind 18 = .ok (.aload_n 0, 1) := by decide +kernel
theorem dX0_isOfKind_19 : decode cX0_isOfKind 19 = .ok (.getfield 9, 3) := by decide +kernel
theorem dX0_isOfKind_22 : decode cX0_isOfKind 22 = .ok (.iload_n 1, 1) := by decide +kernel
theorem dX0_isOfKind_23 : decode cX0_isOfKind 23 = .ok (.iaload, 1) := by decide +kernel
theorem dX0_isOfKind_24 : decode cX0_isOfKind 24 = .ok (.iload_n 2, 1) := by decide +kernel
theorem dX0_isOfKind_25 : decode cX0_isOfKind 25 = .ok (.invokestatic 143, 3) := by decide +kernel
theorem dX0_isOfKind_28 : decode cX0_isOfKind 28 = .ok (.ifCond .eq 7, 3) := by decide +kernel
theorem dX0_isOfKind_31 : decode cX0_isOfKind 31 = .ok (.iconst 1, 1) := by decide +kernel
theorem dX0_isOfKind_32 : decode cX0_isOfKind 32 = .ok (.goto 4, 3) := by decide +kernel
theorem dX0_isOfKind_35 : decode cX0_isOfKind 35 = .ok (.iconst 0, 1) := by decide +kernel
theorem dX0_isOfKind_36 : decode cX0_isOfKind 36 = .ok (.ireturn, 1) := by decide +kernel
theorem dX0_mayPass_0 : decode cX0_mayPass 0 = .ok (.iload_n 1, 1) := by decide +kernel
theorem dX0_mayPass_1 : decode cX0_mayPass 1 = .ok (.iconst (-1), 1) := by decide +kernel
theorem dX0_mayPass_2 : decode cX0_mayPass 2 = .ok (.if_icmp .eq 13, 3) := by decide +kernel
theorem dX0_mayPass_5 : decode cX0_mayPass 5 = .ok (.aload_n 0, 1) := by decide +kernel
theorem dX0_mayPass_6 : decode cX0_mayPass 6 = .ok (.iload_n 1, 1) := by decide +kernel
theorem dX0_mayPass_7 : decode cX0_mayPass 7 = .ok (.iload_n 2, 1) := by decide +kernel
theorem dX0_mayPass_8 : decode cX0_mayPass 8 = .ok (.iload_n 3, 1) := by decide +kernel
theorem dX0_mayPass_9 : decode cX0_mayPass 9 = .ok (.invokevirtual 98, 3) := by decide +kernel
theorem dX0_mayPass_12 : decode cX0_mayPass 12 = .ok (.ifCond .eq 7, 3) := by decide +kernel
theorem dX0_mayPass_15 : decode cX0_mayPass 15 = .ok (.iconst 1, 1) := by decide +kernel
theorem dX0_mayPass_16 : decode cX0_mayPass 16 = .ok (.goto 4, 3) := by decide +kernel
theorem dX0_mayPass_19 : decode cX0_mayPass 19 = .ok (.iconst 0, 1) := by decide +kernel
theorem dX0_mayPass_20 : decode cX0_mayPass 20 = .ok (.ireturn, 1) := by decide +kernel
theorem dX0_goesInto_0 : decode cX0_goesInto 0 = .ok (.aload_n 0, 1) := by decide +kernel
theorem dX0_goesInto_1 : decode cX0_goesInto 1 = .ok (.iload_n 1, 1) := by decide +kernel
theorem dX0_goesInto_2 : decode cX0_goesInto 2 = .ok (.aload_n 0, 1) := by decide +kernel
theorem dX0_goesInto_3 : decode cX0_goesInto 3 = .ok (.getfield 9, 3) := by decide +kernel
theorem dX0_goesInto_6 : decode cX0_goesInto 6 = .ok (.iload_n 2, 1) := by decide +kernel
theorem dX0_goesInto_7 : decode cX0_goesInto 7 = .ok (.iaload, 1) := by decide +kernel
theorem dX0_goesInto_8 : decode cX0_goesInto 8 = .ok (.aload_n 0, 1) := by decide +kernel
theorem dX0_goesInto_9 : decode cX0_goesInto 9 = .ok (.getfield 13, 3) := by decide +kernel
theorem dX0_goesInto_12 : decode cX0_goesInto 12 = .ok (.iload_n 2, 1) := by decide +kernel
theorem dX0_goesInto_13 : decode cX0_goesInto 13 = .ok (.iaload, 1) := by decide +kernel
theorem dX0_goesInto_14 : decode cX0_goesInto 14 = .ok (.iconst 1, 1) := by decide +kernel
theorem dX0_goesInto_15 : decode cX0_goesInto 15 = .ok (.isub, 1) := by decide +kernel
theorem dX0_goesInto_16 : decode cX0_goesInto 16 = .ok (.invokevirtual 76, 3) := by decide +kernel
theorem dX0_goesInto_19 : decode cX0_goesInto 19 = .ok (.ireturn, 1) := by decide +kernel
theorem dX0_widestBase_0 : decode cX0_widestBase 0 = .ok (.aload_n 0, 1) := by decide +kernel
theorem dX0_widestBase_1 : decode cX0_widestBase 1 = .ok (.getfield 9, 3) := by decide +kernel
theorem dX0_widestBase_4 : decode cX0_widestBase 4 = .ok (.iload_n 1, 1) := by decide +kernel
theorem dX0_widestBase_5 : decode cX0_widestBase 5 = .ok (.iaload, 1) := by decide +kernel
theorem dX0_widestBase_6 : decode cX0_widestBase 6 = .ok (.iconst 0, 1) := by decide +kernel
theorem dX0_widestBase_7 : decode cX0_widestBase 7 = .ok (.invokestatic 143, 3) := by decide +kernel
theorem dX0_widestBase_10 : decode cX0_widestBase 10 = .ok (.ifCond .eq 7, 3) := by decide +kernel
theorem dX0_widestBase_13 : decode cX0_widestBase 13 = .ok (.iconst 0, 1) := by decide +kernel
theorem dX0_widestBase_14 : decode cX0_widestBase 14 = .ok (.goto 9, 3) := by decide +kernel
theorem dX0_widestBase_17 : decode cX0_widestBase 17 = .ok (.aload_n 0, 1) := by decide +kernel
theorem dX0_widestBase_18 : decode cX0_widestBase 18 = .ok (.getfield 9, 3) := by decide +kernel
theorem dX0_widestBase_21 : decode cX0_widestBase 21 = .ok (.iload_n 1, 1) := by decide +kernel
theorem dX0_widestBase_22 : decode cX0_widestBase 22 = .ok (.iaload, 1) := by decide +kernel
theorem dX0_widestBase_23 : decode cX0_widestBase 23 = .ok (.ireturn, 1) := by decide +kernel
theorem dX0_hasPlace_0 : decode cX0_hasPlace 0 = .ok (.iload_n 2, 1) := by decide +kernel
theorem dX0_hasPlace_1 : decode cX0_hasPlace 1 = .ok (.ifCond .lt 17, 3) := by decide +kernel
theorem dX0_hasPlace_4 : decode cX0_hasPlace 4 = .ok (.iload_n 2, 1) := by decide +kernel
theorem dX0_hasPlace_5 : decode cX0_hasPlace 5 = .ok (.aload_n 0, 1) := by decide +kernel
theorem dX0_hasPlace_6 : decode cX0_hasPlace 6 = .ok (.getfield 16, 3) := by decide +kernel
theorem dX0_hasPlace_9 : decode cX0_hasPlace 9 = .ok (.iload_n 1, 1) := by decide +kernel
theorem dX0_hasPlace_10 : decode cX0_hasPlace 10 = .ok (.iaload, 1) := by decide +kernel
theorem dX0_hasPlace_11 : decode cX0_hasPlace 11 = .ok (.if_icmp .ge 7, 3) := by decide +kernel
theorem dX0_hasPlace_14 : decode cX0_hasPlace 14 = .ok (.iconst 1, 1) := by decide +kernel
theorem dX0_hasPlace_15 : decode cX0_hasPlace 15 = .ok (.goto 4, 3) := by decide +kernel
theorem dX0_hasPlace_18 : decode cX0_hasPlace 18 = .ok (.iconst 0, 1) := by decide +kernel
theorem dX0_hasPlace_19 : decode cX0_hasPlace 19 = .ok (.ireturn, 1) := by decide +kernel
theorem dX0_hasPlaces_0 : decode cX0_hasPlaces 0 = .ok (.iload_n 2, 1) := by decide +kernel
theorem dX0_hasPlaces_1 : decode cX0_hasPlaces 1 = .ok (.ifCond .lt 23, 3) := by decide +kernel
theorem dX0_hasPlaces_4 : decode cX0_hasPlaces 4 = .ok (.iload_n 3, 1) := by decide +kernel
theorem dX0_hasPlaces_5 : decode cX0_hasPlaces 5 = .ok (.ifCond .lt 19, 3) := by decide +kernel
theorem dX0_hasPlaces_8 : decode cX0_hasPlaces 8 = .ok (.iload_n 2, 1) := by decide +kernel
theorem dX0_hasPlaces_9 : decode cX0_hasPlaces 9 = .ok (.aload_n 0, 1) := by decide +kernel
theorem dX0_hasPlaces_10 : decode cX0_hasPlaces 10 = .ok (.getfield 16, 3) := by decide +kernel
theorem dX0_hasPlaces_13 : decode cX0_hasPlaces 13 = .ok (.iload_n 1, 1) := by decide +kernel
theorem dX0_hasPlaces_14 : decode cX0_hasPlaces 14 = .ok (.iaload, 1) := by decide +kernel
theorem dX0_hasPlaces_15 : decode cX0_hasPlaces 15 = .ok (.iload_n 3, 1) := by decide +kernel
theorem dX0_hasPlaces_16 : decode cX0_hasPlaces 16 = .ok (.isub, 1) := by decide +kernel
theorem dX0_hasPlaces_17 : decode cX0_hasPlaces 17 = .ok (.if_icmp .gt 7, 3) := by decide +kernel
theorem dX0_hasPlaces_20 : decode cX0_hasPlaces 20 = .ok (.iconst 1, 1) := by decide +kernel
theorem dX0_hasPlaces_21 : decode cX0_hasPlaces 21 = .ok (.goto 4, 3) := by decide +kernel
theorem dX0_hasPlaces_24 : decode cX0_hasPlaces 24 = .ok (.iconst 0, 1) := by decide +kernel
theorem dX0_hasPlaces_25 : decode cX0_hasPlaces 25 = .ok (.ireturn, 1) := by decide +kernel
theorem dX0_placeIndex_0 : decode cX0_placeIndex 0 = .ok (.iload_n 0, 1) := by decide +kernel
theorem dX0_placeIndex_1 : decode cX0_placeIndex 1 = .ok (.bipush 8, 2) := by decide +kernel
theorem dX0_placeIndex_3 : decode cX0_placeIndex 3 = .ok (.imul, 1) := by decide +kernel
theorem dX0_placeIndex_4 : decode cX0_placeIndex 4 = .ok (.iload_n 1, 1) := by decide +kernel
theorem dX0_placeIndex_5 : decode cX0_placeIndex 5 = .ok (.iadd, 1) := by decide +kernel
theorem dX0_placeIndex_6 : decode cX0_placeIndex 6 = .ok (.ireturn, 1) := by decide +kernel
theorem dX0_thingAt_0 : decode cX0_thingAt 0 = .ok (.aload_n 0, 1) := by decide +kernel
theorem dX0_thingAt_1 : decode cX0_thingAt 1 = .ok (.getfield 22, 3) := by decide +kernel
theorem dX0_thingAt_4 : decode cX0_thingAt 4 = .ok (.iload_n 1, 1) := by decide +kernel
theorem dX0_thingAt_5 : decode cX0_thingAt 5 = .ok (.iload_n 2, 1) := by decide +kernel
theorem dX0_thingAt_6 : decode cX0_thingAt 6 = .ok (.invokestatic 70, 3) := by decide +kernel
theorem dX0_thingAt_9 : decode cX0_thingAt 9 = .ok (.laload, 1) := by decide +kernel
theorem dX0_thingAt_10 : decode cX0_thingAt 10 = .ok (.l2i, 1) := by decide +kernel
theorem dX0_thingAt_11 : decode cX0_thingAt 11 = .ok (.ireturn, 1) := by decide +kernel
theorem dX0_ledgerFailure_0 : decode cX0_ledgerFailure 0 = .ok (.iload_n 1, 1) := by decide +kernel
theorem dX0_ledgerFailure_1 : decode cX0_ledgerFailure 1 = .ok (.iconst (-1), 1) := by decide +kernel
theorem dX0_ledgerFailure_2 : decode cX0_ledgerFailure 2 = .ok (.if_icmp .ne 5, 3) := by decide +kernel
theorem dX0_ledgerFailure_5 : decode cX0_ledgerFailure 5 = .ok (.iconst 1, 1) := by decide +kernel
theorem dX0_ledgerFailure_6 : decode cX0_ledgerFailure 6 = .ok (.ireturn, 1) := by decide +kernel
theorem dX0_ledgerFailure_7 : decode cX0_ledgerFailure 7 = .ok (.aload_n 0, 1) := by decide +kernel
theorem dX0_ledgerFailure_8 : decode cX0_ledgerFailure 8 = .ok (.iload_n 1, 1) := by decide +kernel
theorem dX0_ledgerFailure_9 : decode cX0_ledgerFailure 9 = .ok (.invokevirtual 124, 3) := by decide +kernel
theorem dX0_ledgerFailure_12 : decode cX0_ledgerFailure 12 = .ok (.ifCond .ne 5, 3) := by decide +kernel
theorem dX0_ledgerFailure_15 : decode cX0_ledgerFailure 15 = .ok (.iconst 2, 1) := by decide +kernel
theorem dX0_ledgerFailure_16 : decode cX0_ledgerFailure 16 = .ok (.ireturn, 1) := by decide +kernel
theorem dX0_ledgerFailure_17 : decode cX0_ledgerFailure 17 = .ok (.aload_n 0, 1) := by decide +kernel
theorem dX0_ledgerFailure_18 : decode cX0_ledgerFailure 18 = .ok (.iload_n 1, 1) := by decide +kernel
theorem dX0_ledgerFailure_19 : decode cX0_ledgerFailure 19 = .ok (.iload_n 2, 1) := by decide +kernel
theorem dX0_ledgerFailure_20 : decode cX0_ledgerFailure 20 = .ok (.invokevirtual 86, 3) := by decide +kernel
theorem dX0_ledgerFailure_23 : decode cX0_ledgerFailure 23 = .ok (.ifCond .eq 7, 3) := by decide +kernel
theorem dX0_ledgerFailure_26 : decode cX0_ledgerFailure 26 = .ok (.iconst 0, 1) := by decide +kernel
theorem dX0_ledgerFailure_27 : decode cX0_ledgerFailure 27 = .ok (.goto 4, 3) := by decide +kernel
theorem dX0_ledgerFailure_30 : decode cX0_ledgerFailure 30 = .ok (.iconst 3, 1) := by decide +kernel
theorem dX0_ledgerFailure_31 : decode cX0_ledgerFailure 31 = .ok (.ireturn, 1) := by decide +kernel
theorem dX0_hasRoomFor_0 : decode cX0_hasRoomFor 0 = .ok (.aload_n 0, 1) := by decide +kernel
theorem dX0_hasRoomFor_1 : decode cX0_hasRoomFor 1 = .ok (.getfield 32, 3) := by decide +kernel
theorem dX0_hasRoomFor_4 : decode cX0_hasRoomFor 4 = .ok (.iload_n 1, 1) := by decide +kernel
theorem dX0_hasRoomFor_5 : decode cX0_hasRoomFor 5 = .ok (.iadd, 1) := by decide +kernel
theorem dX0_hasRoomFor_6 : decode cX0_hasRoomFor 6 = .ok (.bipush 60, 2) := by decide +kernel
theorem dX0_hasRoomFor_8 : decode cX0_hasRoomFor 8 = .ok (.if_icmp .gt 7, 3) := by decide +kernel
theorem dX0_hasRoomFor_11 : decode cX0_hasRoomFor 11 = .ok (.iconst 1, 1) := by decide +kernel
theorem dX0_hasRoomFor_12 : decode cX0_hasRoomFor 12 = .ok (.goto 4, 3) := by decide +kernel
theorem dX0_hasRoomFor_15 : decode cX0_hasRoomFor 15 = .ok (.iconst 0, 1) := by decide +kernel
theorem dX0_hasRoomFor_16 : decode cX0_hasRoomFor 16 = .ok (.ireturn, 1) := by decide +kernel
theorem dX0_addThing_0 : decode cX0_addThing 0 = .ok (.aload_n 0, 1) := by decide +kernel
theorem dX0_addThing_1 : decode cX0_addThing 1 = .ok (.getfield 32, 3) := by decide +kernel
theorem dX0_addThing_4 : decode cX0_addThing 4 = .ok (.istore 4, 2) := by decide +kernel
theorem dX0_addThing_6 : decode cX0_addThing 6 = .ok (.aload_n 0, 1) := by decide +kernel
theorem dX0_addThing_7 : decode cX0_addThing 7 = .ok (.getfield 9, 3) := by decide +kernel
theorem dX0_addThing_10 : decode cX0_addThing 10 = .ok (.iload 4, 2) := by decide +kernel
theorem dX0_addThing_12 : decode cX0_addThing 12 = .ok (.iload_n 1, 1) := by decide +kernel
theorem dX0_addThing_13 : decode cX0_addThing 13 = .ok (.iastore, 1) := by decide +kernel
theorem dX0_addThing_14 : decode cX0_addThing 14 = .ok (.aload_n 0, 1) := by decide +kernel
theorem dX0_addThing_15 : decode cX0_addThing 15 = .ok (.getfield 13, 3) := by decide +kernel
theorem dX0_addThing_18 : decode cX0_addThing 18 = .ok (.iload 4, 2) := by decide +kernel
theorem dX0_addThing_20 : decode cX0_addThing 20 = .ok (.iload_n 2, 1) := by decide +kernel
theorem dX0_addThing_21 : decode cX0_addThing 21 = .ok (.iastore, 1) := by decide +kernel
theorem dX0_addThing_22 : decode cX0_addThing 22 = .ok (.aload_n 0, 1) := by decide +kernel
theorem dX0_addThing_23 : decode cX0_addThing 23 = .ok (.getfield 16, 3) := by decide +kernel
theorem dX0_addThing_26 : decode cX0_addThing 26 = .ok (.iload 4, 2) := by decide +kernel
theorem dX0_addThing_28 : decode cX0_addThing 28 = .ok (.iload_n 3, 1) := by decide +kernel
theorem dX0_addThing_29 : decode cX0_addThing 29 = .ok (.iastore, 1) := by decide +kernel
theorem dX0_addThing_30 : decode cX0_addThing 30 = .ok (.aload_n 0, 1) := by decide +kernel
theorem dX0_addThing_31 : decode cX0_addThing 31 = .ok (.dup, 1) := by decide +kernel
theorem dX0_addThing_32 : decode cX0_addThing 32 = .ok (.getfield 32, 3) := by decide +kernel
theorem dX0_addThing_35 : decode cX0_addThing 35 = .ok (.iconst 1, 1) := by decide +kernel
theorem dX0_addThing_36 : decode cX0_addThing 36 = .ok (.iadd, 1) := by decide +kernel
theorem dX0_addThing_37 : decode cX0_addThing 37 = .ok (.putfield 32, 3) := by decide +kernel
theorem dX0_addThing_40 : decode cX0_addThing 40 = .ok (.iload 4, 2) := by decide +kernel
theorem dX0_addThing_42 : decode cX0_addThing 42 = .ok (.ireturn, 1) := by decide +kernel
theorem dX0_addRow_0 : decode cX0_addRow 0 = .ok (.aload_n 0, 1) := by decide +kernel
theorem dX0_addRow_1 : decode cX0_addRow 1 = .ok (.iload_n 1, 1) := by decide +kernel
theorem dX0_addRow_2 : decode cX0_addRow 2 = .ok (.iload_n 2, 1) := by decide +kernel
theorem dX0_addRow_3 : decode cX0_addRow 3 = .ok (.iload_n 3, 1) := by decide +kernel
theorem dX0_addRow_4 : decode cX0_addRow 4 = .ok (.invokevirtual 49, 3) := by decide +kernel
theorem dX0_addRow_7 : decode cX0_addRow 7 = .ok (.istore 4, 2) := by decide +kernel
theorem dX0_addRow_9 : decode cX0_addRow 9 = .ok (.aload_n 0, 1) := by decide +kernel
theorem dX0_addRow_10 : decode cX0_addRow 10 = .ok (.iload 4, 2) := by decide +kernel
theorem dX0_addRow_12 : decode cX0_addRow 12 = .ok (.invokevirtual 124, 3) := by decide +kernel
theorem dX0_addRow_15 : decode cX0_addRow 15 = .ok (.ifCond .eq 7, 3) := by decide +kernel
theorem dX0_addRow_18 : decode cX0_addRow 18 = .ok (.lconst 0, 1) := by decide +kernel
theorem dX0_addRow_19 : decode cX0_addRow 19 = .ok (.goto 6, 3) := by decide +kernel
theorem dX0_addRow_22 : decode cX0_addRow 22 = .ok (.ldc2_w 146, 3) := by decide +kernel
theorem dX0_addRow_25 : decode cX0_addRow 25 = .ok (.lstore 5, 2) := by decide +kernel
theorem dX0_addRow_27 : decode cX0_addRow 27 = .ok (.iconst 0, 1) := by decide +kernel
theorem dX0_addRow_28 : decode cX0_addRow 28 = .ok (.istore 7, 2) := by decide +kernel
theorem dX0_addRow_30 : decode cX0_addRow 30 = .ok (.iload 7, 2) := by decide +kernel
theorem dX0_addRow_32 : decode cX0_addRow 32 = .ok (.iload_n 3, 1) := by decide +kernel
theorem dX0_addRow_33 : decode cX0_addRow 33 = .ok (.if_icmp .ge 23, 3) := by decide +kernel
theorem dX0_addRow_36 : decode cX0_addRow 36 = .ok (.aload_n 0, 1) := by decide +kernel
theorem dX0_addRow_37 : decode cX0_addRow 37 = .ok (.getfield 22, 3) := by decide +kernel
theorem dX0_addRow_40 : decode cX0_addRow 40 = .ok (.iload 4, 2) := by decide +kernel
theorem dX0_addRow_42 : decode cX0_addRow 42 = .ok (.iload 7, 2) := by decide +kernel
theorem dX0_addRow_44 : decode cX0_addRow 44 = .ok (.invokestatic 70, 3) := by decide +kernel
theorem dX0_addRow_47 : decode cX0_addRow 47 = .ok (.lload 5, 2) := by decide +kernel
theorem dX0_addRow_49 : decode cX0_addRow 49 = .ok (.lastore, 1) := by decide +kernel
theorem dX0_addRow_50 : decode cX0_addRow 50 = .ok (.iinc 7 1, 3) := by decide +kernel
theorem dX0_addRow_53 : decode cX0_addRow 53 = .ok (.goto (-23), 3) := by decide +kernel
theorem dX0_addRow_56 : decode cX0_addRow 56 = .ok (.iload 4, 2) := by decide +kernel
theorem dX0_addRow_58 : decode cX0_addRow 58 = .ok (.ireturn, 1) := by decide +kernel
theorem dX0_firstClosedDoor_0 : decode cX0_firstClosedDoor 0 = .ok (.iload_n 2, 1) := by decide +kernel
theorem dX0_firstClosedDoor_1 : decode cX0_firstClosedDoor 1 = .ok (.istore 4, 2) := by decide +kernel
theorem dX0_firstClosedDoor_3 : decode cX0_firstClosedDoor 3 = .ok (.iload 4, 2) := by decide +kernel
theorem dX0_firstClosedDoor_5 : decode cX0_firstClosedDoor 5 = .ok (.iload_n 2, 1) := by decide +kernel
theorem dX0_firstClosedDoor_6 : decode cX0_firstClosedDoor 6 = .ok (.iload_n 3, 1) := by decide +kernel
theorem dX0_firstClosedDoor_7 : decode cX0_firstClosedDoor 7 = .ok (.iadd, 1) := by decide +kernel
theorem dX0_firstClosedDoor_8 : decode cX0_firstClosedDoor 8 = .ok (.if_icmp .ge 34, 3) := by decide +kernel
theorem dX0_firstClosedDoor_11 : decode cX0_firstClosedDoor 11 = .ok (.aload_n 0, 1) := by decide +kernel
theorem dX0_firstClosedDoor_12 : decode cX0_firstClosedDoor 12 = .ok (.iload_n 1, 1) := by decide +kernel
theorem dX0_firstClosedDoor_13 : decode cX0_firstClosedDoor 13 = .ok (.aload_n 0, 1) := by decide +kernel
theorem dX0_firstClosedDoor_14 : decode cX0_firstClosedDoor 14 = .ok (.getfield 26, 3) := by decide +kernel
theorem dX0_firstClosedDoor_17 : decode cX0_firstClosedDoor 17 = .ok (.iload 4, 2) := by decide +kernel
theorem dX0_firstClosedDoor_19 : decode cX0_firstClosedDoor 19 = .ok (.iaload, 1) := by decide +kernel
theorem dX0_firstClosedDoor_20 : decode cX0_firstClosedDoor 20 = .ok (.aload_n 0, 1) := by decide +kernel
theorem dX0_firstClosedDoor_21 : decode cX0_firstClosedDoor 21 = .ok (.getfield 29, 3) := by decide +kernel
theorem dX0_firstClosedDoor_24 : decode cX0_firstClosedDoor 24 = .ok (.iload 4, 2) := by decide +kernel
theorem dX0_firstClosedDoor_26 : decode cX0_firstClosedDoor 26 = .ok (.iaload, 1) := by decide +kernel
theorem dX0_firstClosedDoor_27 : decode cX0_firstClosedDoor 27 = .ok (.invokevirtual 76, 3) := by decide +kernel
theorem dX0_firstClosedDoor_30 : decode cX0_firstClosedDoor 30 = .ok (.ifCond .ne 6, 3) := by decide +kernel
theorem dX0_firstClosedDoor_33 : decode cX0_firstClosedDoor 33 = .ok (.iload 4, 2) := by decide +kernel
theorem dX0_firstClosedDoor_35 : decode cX0_firstClosedDoor 35 = .ok (.ireturn, 1) := by decide +kernel
theorem dX0_firstClosedDoor_36 : decode cX0_firstClosedDoor 36 = .ok (.iinc 4 1, 3) := by decide +kernel
theorem dX0_firstClosedDoor_39 : decode cX0_firstClosedDoor 39 = .ok (.goto (-36), 3) := by decide +kernel
theorem dX0_firstClosedDoor_42 : decode cX0_firstClosedDoor 42 = .ok (.iconst (-1), 1) := by decide +kernel
theorem dX0_firstClosedDoor_43 : decode cX0_firstClosedDoor 43 = .ok (.ireturn, 1) := by decide +kernel
theorem dX0_areAlike_0 : decode cX0_areAlike 0 = .ok (.aload_n 0, 1) := by decide +kernel
theorem dX0_areAlike_1 : decode cX0_areAlike 1 = .ok (.iload_n 1, 1) := by decide +kernel
theorem dX0_areAlike_2 : decode cX0_areAlike 2 = .ok (.invokevirtual 111, 3) := by decide +kernel
theorem dX0_areAlike_5 : decode cX0_areAlike 5 = .ok (.ifCond .ne 11, 3) := by decide +kernel
theorem dX0_areAlike_8 : decode cX0_areAlike 8 = .ok (.aload_n 0, 1) := by decide +kernel
theorem dX0_areAlike_9 : decode cX0_areAlike 9 = .ok (.iload_n 2, 1) := by decide +kernel
theorem dX0_areAlike_10 : decode cX0_areAlike 10 = .ok (.invokevirtual 111, 3) := by decide +kernel
theorem dX0_areAlike_13 : decode cX0_areAlike 13 = .ok (.ifCond .eq 5, 3) := by decide +kernel
theorem dX0_areAlike_16 : decode cX0_areAlike 16 = .ok (.iconst 0, 1) := by decide +kernel
theorem dX0_areAlike_17 : decode cX0_areAlike 17 = .ok (.ireturn, 1) := by decide +kernel
theorem dX0_areAlike_18 : decode cX0_areAlike 18 = .ok (.aload_n 0, 1) := by decide +kernel
theorem dX0_areAlike_19 : decode cX0_areAlike 19 = .ok (.iload_n 1, 1) := by decide +kernel
theorem dX0_areAlike_20 : decode cX0_areAlike 20 = .ok (.invokevirtual 124, 3) := by decide +kernel
theorem dX0_areAlike_23 : decode cX0_areAlike 23 = .ok (.aload_n 0, 1) := by decide +kernel
theorem dX0_areAlike_24 : decode cX0_areAlike 24 = .ok (.iload_n 2, 1) := by decide +kernel
theorem dX0_areAlike_25 : decode cX0_areAlike 25 = .ok (.invokevirtual 124, 3) := by decide +kernel
theorem dX0_areAlike_28 : decode cX0_areAlike 28 = .ok (.if_icmp .eq 5, 3) := by decide +kernel
theorem dX0_areAlike_31 : decode cX0_areAlike 31 = .ok (.iconst 0, 1) := by decide +kernel
theorem dX0_areAlike_32 : decode cX0_areAlike 32 = .ok (.ireturn, 1) := by decide +kernel
theorem dX0_areAlike_33 : decode cX0_areAlike 33 = .ok (.aload_n 0, 1) := by decide +kernel
theorem dX0_areAlike_34 : decode cX0_areAlike 34 = .ok (.iload_n 1, 1) := by decide +kernel
theorem dX0_areAlike_35 : decode cX0_areAlike 35 = .ok (.invokevirtual 124, 3) := by decide +kernel
theorem dX0_areAlike_38 : decode cX0_areAlike 38 = .ok (.ifCond .eq 18, 3) := by decide +kernel
theorem dX0_areAlike_41 : decode cX0_areAlike 41 = .ok (.aload_n 0, 1) := by decide +kernel
theorem dX0_areAlike_42 : decode cX0_areAlike 42 = .ok (.getfield 9, 3) := by decide +kernel
theorem dX0_areAlike_45 : decode cX0_areAlike 45 = .ok (.iload_n 1, 1) := by decide +kernel
theorem dX0_areAlike_46 : decode cX0_areAlike 46 = .ok (.iaload, 1) := by decide +kernel
theorem dX0_areAlike_47 : decode cX0_areAlike 47 = .ok (.aload_n 0, 1) := by decide +kernel
theorem dX0_areAlike_48 : decode cX0_areAlike 48 = .ok (.getfield 9, 3) := by decide +kernel
theorem dX0_areAlike_51 : decode cX0_areAlike 51 = .ok (.iload_n 2, 1) := by decide +kernel
theorem dX0_areAlike_52 : decode cX0_areAlike 52 = .ok (.iaload, 1) := by decide +kernel
theorem dX0_areAlike_53 : decode cX0_areAlike 53 = .ok (.if_icmp .ne 7, 3) := by decide +kernel
theorem dX0_areAlike_56 : decode cX0_areAlike 56 = .ok (.iconst 1, 1) := by decide +kernel
theorem dX0_areAlike_57 : decode cX0_areAlike 57 = .ok (.goto 4, 3) := by decide +kernel
theorem dX0_areAlike_60 : decode cX0_areAlike 60 = .ok (.iconst 0, 1) := by decide +kernel
theorem dX0_areAlike_61 : decode cX0_areAlike 61 = .ok (.ireturn, 1) := by decide +kernel
theorem dX0_countGoing_0 : decode cX0_countGoing 0 = .ok (.iconst 0, 1) := by decide +kernel
theorem dX0_countGoing_1 : decode cX0_countGoing 1 = .ok (.istore 5, 2) := by decide +kernel
theorem dX0_countGoing_3 : decode cX0_countGoing 3 = .ok (.iload 5, 2) := by decide +kernel
theorem dX0_countGoing_5 : decode cX0_countGoing 5 = .ok (.iload 4, 2) := by decide +kernel
theorem dX0_countGoing_7 : decode cX0_countGoing 7 = .ok (.if_icmp .ge 26, 3) := by decide +kernel
theorem dX0_countGoing_10 : decode cX0_countGoing 10 = .ok (.aload_n 0, 1) := by decide +kernel
theorem dX0_countGoing_11 : decode cX0_countGoing 11 = .ok (.aload_n 0, 1) := by decide +kernel
theorem dX0_countGoing_12 : decode cX0_countGoing 12 = .ok (.iload_n 1, 1) := by decide +kernel
theorem dX0_countGoing_13 : decode cX0_countGoing 13 = .ok (.iload_n 2, 1) := by decide +kernel
theorem dX0_countGoing_14 : decode cX0_countGoing 14 = .ok (.iload 5, 2) := by decide +kernel
theorem dX0_countGoing_16 : decode cX0_countGoing 16 = .ok (.iadd, 1) := by decide +kernel
theorem dX0_countGoing_17 : decode cX0_countGoing 17 = .ok (.invokevirtual 92, 3) := by decide +kernel
theorem dX0_countGoing_20 : decode cX0_countGoing 20 = .ok (.iload_n 3, 1) := by decide +kernel
theorem dX0_countGoing_21 : decode cX0_countGoing 21 = .ok (.invokevirtual 89, 3) := by decide +kernel
theorem dX0_countGoing_24 : decode cX0_countGoing 24 = .ok (.ifCond .eq 9, 3) := by decide +kernel
theorem dX0_countGoing_27 : decode cX0_countGoing 27 = .ok (.iinc 5 1, 3) := by decide +kernel
theorem dX0_countGoing_30 : decode cX0_countGoing 30 = .ok (.goto (-27), 3) := by decide +kernel
theorem dX0_countGoing_33 : decode cX0_countGoing 33 = .ok (.iload 5, 2) := by decide +kernel
theorem dX0_countGoing_35 : decode cX0_countGoing 35 = .ok (.ireturn, 1) := by decide +kernel
theorem dX0_movePlaces_0 : decode cX0_movePlaces 0 = .ok (.aload_n 0, 1) := by decide +kernel
theorem dX0_movePlaces_1 : decode cX0_movePlaces 1 = .ok (.getfield 22, 3) := by decide +kernel
theorem dX0_movePlaces_4 : decode cX0_movePlaces 4 = .ok (.iload_n 1, 1) := by decide +kernel
theorem dX0_movePlaces_5 : decode cX0_movePlaces 5 = .ok (.iload_n 2, 1) := by decide +kernel
theorem dX0_movePlaces_6 : decode cX0_movePlaces 6 = .ok (.invokestatic 70, 3) := by decide +kernel
theorem dX0_movePlaces_9 : decode cX0_movePlaces 9 = .ok (.aload_n 0, 1) := by decide +kernel
theorem dX0_movePlaces_10 : decode cX0_movePlaces 10 = .ok (.getfield 22, 3) := by decide +kernel
theorem dX0_movePlaces_13 : decode cX0_movePlaces 13 = .ok (.iload_n 3, 1) := by decide +kernel
theorem dX0_movePlaces_14 : decode cX0_movePlaces 14 = .ok (.iload 4, 2) := by decide +kernel
theorem dX0_movePlaces_16 : decode cX0_movePlaces 16 = .ok (.invokestatic 70, 3) := by decide +kernel
theorem dX0_movePlaces_19 : decode cX0_movePlaces 19 = .ok (.iload 5, 2) := by decide +kernel
theorem dX0_movePlaces_21 : decode cX0_movePlaces 21 = .ok (.invokestatic 148, 3) := by decide +kernel
theorem dX0_movePlaces_24 : decode cX0_movePlaces 24 = .ok (.return_, 1) := by decide +kernel
theorem dX0_worthWithin_0 : decode cX0_worthWithin 0 = .ok (.aload_n 0, 1) := by decide +kernel
theorem dX0_worthWithin_1 : decode cX0_worthWithin 1 = .ok (.iload_n 1, 1) := by decide +kernel
theorem dX0_worthWithin_2 : decode cX0_worthWithin 2 = .ok (.invokevirtual 137, 3) := by decide +kernel
theorem dX0_worthWithin_5 : decode cX0_worthWithin 5 = .ok (.ifCond .eq 7, 3) := by decide +kernel
theorem dX0_worthWithin_8 : decode cX0_worthWithin 8 = .ok (.iload_n 2, 1) := by decide +kernel
theorem dX0_worthWithin_9 : decode cX0_worthWithin 9 = .ok (.ifCond .ge 5, 3) := by decide +kernel
theorem dX0_worthWithin_12 : decode cX0_worthWithin 12 = .ok (.lconst 0, 1) := by decide +kernel
theorem dX0_worthWithin_13 : decode cX0_worthWithin 13 = .ok (.lreturn, 1) := by decide +kernel
theorem dX0_worthWithin_14 : decode cX0_worthWithin 14 = .ok (.aload_n 0, 1) := by decide +kernel
theorem dX0_worthWithin_15 : decode cX0_worthWithin 15 = .ok (.iload_n 1, 1) := by decide +kernel
theorem dX0_worthWithin_16 : decode cX0_worthWithin 16 = .ok (.invokevirtual 111, 3) := by decide +kernel
theorem dX0_worthWithin_19 : decode cX0_worthWithin 19 = .ok (.ifCond .eq 9, 3) := by decide +kernel
theorem dX0_worthWithin_22 : decode cX0_worthWithin 22 = .ok (.aload_n 0, 1) := by decide +kernel
theorem dX0_worthWithin_23 : decode cX0_worthWithin 23 = .ok (.iload_n 1, 1) := by decide +kernel
theorem dX0_worthWithin_24 : decode cX0_worthWithin 24 = .ok (.invokevirtual 154, 3) := by decide +kernel
theorem dX0_worthWithin_27 : decode cX0_worthWithin 27 = .ok (.lreturn, 1) := by decide +kernel
theorem dX0_worthWithin_28 : decode cX0_worthWithin 28 = .ok (.lconst 0, 1) := by decide +kernel
theorem dX0_worthWithin_29 : decode cX0_worthWithin 29 = .ok (.lstore_n 3, 1) := by decide +kernel
theorem dX0_worthWithin_30 : decode cX0_worthWithin 30 = .ok (.iconst 0, 1) := by decide +kernel
theorem dX0_worthWithin_31 : decode cX0_worthWithin 31 = .ok (.istore 5, 2) := by decide +kernel
theorem dX0_worthWithin_33 : decode cX0_worthWithin 33 = .ok (.iload 5, 2) := by decide +kernel
theorem dX0_worthWithin_35 : decode cX0_worthWithin 35 = .ok (.aload_n 0, 1) := by decide +kernel
theorem dX0_worthWithin_36 : decode cX0_worthWithin 36 = .ok (.getfield 16, 3) := by decide +kernel
theorem dX0_worthWithin_39 : decode cX0_worthWithin 39 = .ok (.iload_n 1, 1) := by decide +kernel
theorem dX0_worthWithin_40 : decode cX0_worthWithin 40 = .ok (.iaload, 1) := by decide +kernel
theorem dX0_worthWithin_41 : decode cX0_worthWithin 41 = .ok (.if_icmp .ge 48, 3) := by decide +kernel
theorem dX0_worthWithin_44 : decode cX0_worthWithin 44 = .ok (.lload_n 3, 1) := by decide +kernel
theorem dX0_worthWithin_45 : decode cX0_worthWithin 45 = .ok (.aload_n 0, 1) := by decide +kernel
theorem dX0_worthWithin_46 : decode cX0_worthWithin 46 = .ok (.iload_n 1, 1) := by decide +kernel
theorem dX0_worthWithin_47 : decode cX0_worthWithin 47 = .ok (.invokevirtual 124, 3) := by decide +kernel
theorem dX0_worthWithin_50 : decode cX0_worthWithin 50 = .ok (.ifCond .eq 17, 3) := by decide +kernel
theorem dX0_worthWithin_53 : decode cX0_worthWithin 53 = .ok (.aload_n 0, 1) := by decide +kernel
theorem dX0_worthWithin_54 : decode cX0_worthWithin 54 = .ok (.getfield 22, 3) := by decide +kernel
theorem dX0_worthWithin_57 : decode cX0_worthWithin 57 = .ok (.iload_n 1, 1) := by decide +kernel
theorem dX0_worthWithin_58 : decode cX0_worthWithin 58 = .ok (.iload 5, 2) := by decide +kernel
theorem dX0_worthWithin_60 : decode cX0_worthWithin 60 = .ok (.invokestatic 70, 3) := by decide +kernel
theorem dX0_worthWithin_63 : decode cX0_worthWithin 63 = .ok (.laload, 1) := by decide +kernel
theorem dX0_worthWithin_64 : decode cX0_worthWithin 64 = .ok (.goto 17, 3) := by decide +kernel
theorem dX0_worthWithin_67 : decode cX0_worthWithin 67 = .ok (.aload_n 0, 1) := by decide +kernel
theorem dX0_worthWithin_68 : decode cX0_worthWithin 68 = .ok (.aload_n 0, 1) := by decide +kernel
theorem dX0_worthWithin_69 : decode cX0_worthWithin 69 = .ok (.iload_n 1, 1) := by decide +kernel
theorem dX0_worthWithin_70 : decode cX0_worthWithin 70 = .ok (.iload 5, 2) := by decide +kernel
theorem dX0_worthWithin_72 : decode cX0_worthWithin 72 = .ok (.invokevirtual 92, 3) := by decide +kernel
theorem dX0_worthWithin_75 : decode cX0_worthWithin 75 = .ok (.iload_n 2, 1) := by decide +kernel
theorem dX0_worthWithin_76 : decode cX0_worthWithin 76 = .ok (.iconst 1, 1) := by decide +kernel
theorem dX0_worthWithin_77 : decode cX0_worthWithin 77 = .ok (.isub, 1) := by decide +kernel
theorem dX0_worthWithin_78 : decode cX0_worthWithin 78 = .ok (.invokevirtual 107, 3) := by decide +kernel
theorem dX0_worthWithin_81 : decode cX0_worthWithin 81 = .ok (.ladd, 1) := by decide +kernel
theorem dX0_worthWithin_82 : decode cX0_worthWithin 82 = .ok (.lstore_n 3, 1) := by decide +kernel
theorem dX0_worthWithin_83 : decode cX0_worthWithin 83 = .ok (.iinc 5 1, 3) := by decide +kernel
theorem dX0_worthWithin_86 : decode cX0_worthWithin 86 = .ok (.goto (-53), 3) := by decide +kernel
theorem dX0_worthWithin_89 : decode cX0_worthWithin 89 = .ok (.lload_n 3, 1) := by decide +kernel
theorem dX0_worthWithin_90 : decode cX0_worthWithin 90 = .ok (.lreturn, 1) := by decide +kernel
theorem dX0_worthOfPiece_0 : decode cX0_worthOfPiece 0 = .ok (.aload_n 0, 1) := by decide +kernel
theorem dX0_worthOfPiece_1 : decode cX0_worthOfPiece 1 = .ok (.getfield 19, 3) := by decide +kernel
theorem dX0_worthOfPiece_4 : decode cX0_worthOfPiece 4 = .ok (.iload_n 1, 1) := by decide +kernel
theorem dX0_worthOfPiece_5 : decode cX0_worthOfPiece 5 = .ok (.iaload, 1) := by decide +kernel
theorem dX0_worthOfPiece_6 : decode cX0_worthOfPiece 6 = .ok (.i2l, 1) := by decide +kernel
theorem dX0_worthOfPiece_7 : decode cX0_worthOfPiece 7 = .ok (.lstore_n 2, 1) := by decide +kernel
theorem dX0_worthOfPiece_8 : decode cX0_worthOfPiece 8 = .ok (.aload_n 0, 1) := by decide +kernel
theorem dX0_worthOfPiece_9 : decode cX0_worthOfPiece 9 = .ok (.getfield 9, 3) := by decide +kernel
theorem dX0_worthOfPiece_12 : decode cX0_worthOfPiece 12 = .ok (.iload_n 1, 1) := by decide +kernel
theorem dX0_worthOfPiece_13 : decode cX0_worthOfPiece 13 = .ok (.iaload, 1) := by decide +kernel
theorem dX0_worthOfPiece_14 : decode cX0_worthOfPiece 14 = .ok (.lookupswitch 38 #[(1, 26), (3, 32)], 26) := by decide +kernel
theorem dX0_worthOfPiece_40 : decode cX0_worthOfPiece 40 = .ok (.ldc2_w 158, 3) := by decide +kernel
theorem dX0_worthOfPiece_43 : decode cX0_worthOfPiece 43 = .ok (.lload_n 2, 1) := by decide +kernel
theorem dX0_worthOfPiece_44 : decode cX0_worthOfPiece 44 = .ok (.lmul, 1) := by decide +kernel
theorem dX0_worthOfPiece_45 : decode cX0_worthOfPiece 45 = .ok (.lreturn, 1) := by decide +kernel
theorem dX0_worthOfPiece_46 : decode cX0_worthOfPiece 46 = .ok (.lload_n 2, 1) := by decide +kernel
theorem dX0_worthOfPiece_47 : decode cX0_worthOfPiece 47 = .ok (.ldc2_w 160, 3) := by decide +kernel
theorem dX0_worthOfPiece_50 : decode cX0_worthOfPiece 50 = .ok (.ladd, 1) := by decide +kernel
theorem dX0_worthOfPiece_51 : decode cX0_worthOfPiece 51 = .ok (.lreturn, 1) := by decide +kernel
theorem dX0_worthOfPiece_52 : decode cX0_worthOfPiece 52 = .ok (.lload_n 2, 1) := by decide +kernel
theorem dX0_worthOfPiece_53 : decode cX0_worthOfPiece 53 = .ok (.lreturn, 1) := by decide +kernel
theorem dX0_frailWithin_0 : decode cX0_frailWithin 0 = .ok (.aload_n 0, 1) := by decide +kernel
theorem dX0_frailWithin_1 : decode cX0_frailWithin 1 = .ok (.iload_n 1, 1) := by decide +kernel
theorem dX0_frailWithin_2 : decode cX0_frailWithin 2 = .ok (.invokevirtual 137, 3) := by decide +kernel
theorem dX0_frailWithin_5 : decode cX0_frailWithin 5 = .ok (.ifCond .eq 7, 3) := by decide +kernel
theorem dX0_frailWithin_8 : decode cX0_frailWithin 8 = .ok (.iload_n 2, 1) := by decide +kernel
theorem dX0_frailWithin_9 : decode cX0_frailWithin 9 = .ok (.ifCond .ge 5, 3) := by decide +kernel
theorem dX0_frailWithin_12 : decode cX0_frailWithin 12 = .ok (.iconst 0, 1) := by decide +kernel
theorem dX0_frailWithin_13 : decode cX0_frailWithin 13 = .ok (.ireturn, 1) := by decide +kernel
theorem dX0_frailWithin_14 : decode cX0_frailWithin 14 = .ok (.aload_n 0, 1) := by decide +kernel
theorem dX0_frailWithin_15 : decode cX0_frailWithin 15 = .ok (.iload_n 1, 1) := by decide +kernel
theorem dX0_frailWithin_16 : decode cX0_frailWithin 16 = .ok (.invokevirtual 111, 3) := by decide +kernel
theorem dX0_frailWithin_19 : decode cX0_frailWithin 19 = .ok (.ifCond .eq 22, 3) := by decide +kernel
theorem dX0_frailWithin_22 : decode cX0_frailWithin 22 = .ok (.aload_n 0, 1) := by decide +kernel
theorem dX0_frailWithin_23 : decode cX0_frailWithin 23 = .ok (.getfield 9, 3) := by decide +kernel
theorem dX0_frailWithin_26 : decode cX0_frailWithin 26 = .ok (.iload_n 1, 1) := by decide +kernel
theorem dX0_frailWithin_27 : decode cX0_frailWithin 27 = .ok (.iaload, 1) := by decide +kernel
theorem dX0_frailWithin_28 : decode cX0_frailWithin 28 = .ok (.iconst 4, 1) := by decide +kernel
theorem dX0_frailWithin_29 : decode cX0_frailWithin 29 = .ok (.invokestatic 143, 3) := by decide +kernel
theorem dX0_frailWithin_32 : decode cX0_frailWithin 32 = .ok (.ifCond .eq 7, 3) := by decide +kernel
theorem dX0_frailWithin_35 : decode cX0_frailWithin 35 = .ok (.iconst 1, 1) := by decide +kernel
theorem dX0_frailWithin_36 : decode cX0_frailWithin 36 = .ok (.goto 4, 3) := by decide +kernel
theorem dX0_frailWithin_39 : decode cX0_frailWithin 39 = .ok (.iconst 0, 1) := by decide +kernel
theorem dX0_frailWithin_40 : decode cX0_frailWithin 40 = .ok (.ireturn, 1) := by decide +kernel
theorem dX0_frailWithin_41 : decode cX0_frailWithin 41 = .ok (.iconst 0, 1) := by decide +kernel
theorem dX0_frailWithin_42 : decode cX0_frailWithin 42 = .ok (.istore_n 3, 1) := by decide +kernel
theorem dX0_frailWithin_43 : decode cX0_frailWithin 43 = .ok (.iconst 0, 1) := by decide +kernel
theorem dX0_frailWithin_44 : decode cX0_frailWithin 44 = .ok (.istore 4, 2) := by decide +kernel
theorem dX0_frailWithin_46 : decode cX0_frailWithin 46 = .ok (.iload 4, 2) := by decide +kernel
theorem dX0_frailWithin_48 : decode cX0_frailWithin 48 = .ok (.aload_n 0, 1) := by decide +kernel
theorem dX0_frailWithin_49 : decode cX0_frailWithin 49 = .ok (.getfield 16, 3) := by decide +kernel
theorem dX0_frailWithin_52 : decode cX0_frailWithin 52 = .ok (.iload_n 1, 1) := by decide +kernel
theorem dX0_frailWithin_53 : decode cX0_frailWithin 53 = .ok (.iaload, 1) := by decide +kernel
theorem dX0_frailWithin_54 : decode cX0_frailWithin 54 = .ok (.if_icmp .ge 26, 3) := by decide +kernel
theorem dX0_frailWithin_57 : decode cX0_frailWithin 57 = .ok (.iload_n 3, 1) := by decide +kernel
theorem dX0_frailWithin_58 : decode cX0_frailWithin 58 = .ok (.aload_n 0, 1) := by decide +kernel
theorem dX0_frailWithin_59 : decode cX0_frailWithin 59 = .ok (.aload_n 0, 1) := by decide +kernel
theorem dX0_frailWithin_60 : decode cX0_frailWithin 60 = .ok (.iload_n 1, 1) := by decide +kernel
theorem dX0_frailWithin_61 : decode cX0_frailWithin 61 = .ok (.iload 4, 2) := by decide +kernel
theorem dX0_frailWithin_63 : decode cX0_frailWithin 63 = .ok (.invokevirtual 92, 3) := by decide +kernel
theorem dX0_frailWithin_66 : decode cX0_frailWithin 66 = .ok (.iload_n 2, 1) := by decide +kernel
theorem dX0_frailWithin_67 : decode cX0_frailWithin 67 = .ok (.iconst 1, 1) := by decide +kernel
theorem dX0_frailWithin_68 : decode cX0_frailWithin 68 = .ok (.isub, 1) := by decide +kernel
theorem dX0_frailWithin_69 : decode cX0_frailWithin 69 = .ok (.invokevirtual 134, 3) := by decide +kernel
theorem dX0_frailWithin_72 : decode cX0_frailWithin 72 = .ok (.iadd, 1) := by decide +kernel
theorem dX0_frailWithin_73 : decode cX0_frailWithin 73 = .ok (.istore_n 3, 1) := by decide +kernel
theorem dX0_frailWithin_74 : decode cX0_frailWithin 74 = .ok (.iinc 4 1, 3) := by decide +kernel
theorem dX0_frailWithin_77 : decode cX0_frailWithin 77 = .ok (.goto (-31), 3) := by decide +kernel
theorem dX0_frailWithin_80 : decode cX0_frailWithin 80 = .ok (.iload_n 3, 1) := by decide +kernel
theorem dX0_frailWithin_81 : decode cX0_frailWithin 81 = .ok (.ireturn, 1) := by decide +kernel
