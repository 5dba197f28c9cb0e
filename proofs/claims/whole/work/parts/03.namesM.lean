def RX1 : String := "DepotTraysModel"
def TX1 : u_T := fun k => match k with
  | 0 => ("DepotTraysModel", "things", "I", false)
  | 1 => ("DepotTraysModel", "bases", "[I", true)
  | 2 => ("DepotTraysModel", "depths", "[I", true)
  | 3 => ("DepotTraysModel", "sizes", "[I", true)
  | 4 => ("DepotTraysModel", "worths", "[I", true)
  | 5 => ("DepotTraysModel", "lies", "[I", true)
  | 6 => ("DepotTraysModel", "numbers", "[J", true)
  | 7 => ("DepotTraysModel", "doorBase", "[I", true)
  | 8 => ("DepotTraysModel", "doorDepth", "[I", true)
  | 9 => ("DepotTraysModel", "failures", "I", false)
  | 10 => ("DepotTraysModel", "latest", "I", false)
  | 11 => ("DepotTraysModel", "last", "I", false)
  | 12 => ("DepotTraysModel", "sums", "[J", true)
  | 13 => ("DepotTraysModel", "counts", "[I", true)
  | 14 => ("DepotTraysModel", "moved", "[I", true)
  | _ => ("DepotTraysModel", "movedNumbers", "[J", true)
def tyX1 : Nat → FieldType := fun k => match k with
  | 0 => .int
  | 1 => .array .int
  | 2 => .array .int
  | 3 => .array .int
  | 4 => .array .int
  | 5 => .array .int
  | 6 => .array .long
  | 7 => .array .int
  | 8 => .array .int
  | 9 => .int
  | 10 => .int
  | 11 => .int
  | 12 => .array .long
  | 13 => .array .int
  | 14 => .array .int
  | _ => .array .long
abbrev wsX10 : List Cond := u_ws RX1 TX1 16
theorem nmX1 : ∀ a, a < 16 → ∀ b, b < 16 → a ≠ b → (TX1 a).2.1 ≠ (TX1 b).2.1 := by decide +kernel
theorem tyX1_ok : ∀ k, k < 16 → parseFieldDescriptor (TX1 k).2.2.1 = some (tyX1 k) := by decide +kernel
abbrev cX1_init : ByteArray := prog_3_method_1_code
def yX1_init : MethodName := ⟨RX1, "<init>", "()V"⟩
abbrev cX1_isIn : ByteArray := prog_3_method_3_code
def yX1_isIn : MethodName := ⟨RX1, "isIn", "(III)Z"⟩
abbrev cX1_fails : ByteArray := prog_3_method_4_code
def yX1_fails : MethodName := ⟨RX1, "fails", "(I)I"⟩
abbrev cX1_isThing : ByteArray := prog_3_method_5_code
def yX1_isThing : MethodName := ⟨RX1, "isThing", "(I)Z"⟩
abbrev cX1_mayBe : ByteArray := prog_3_method_6_code
def yX1_mayBe : MethodName := ⟨RX1, "mayBe", "(I)Z"⟩
abbrev cX1_goesFor : ByteArray := prog_3_method_7_code
def yX1_goesFor : MethodName := ⟨RX1, "goesFor", "(II)Z"⟩
abbrev cX1_isSuch : ByteArray := prog_3_method_8_code
def yX1_isSuch : MethodName := ⟨RX1, "isSuch", "(III)Z"⟩
abbrev cX1_isLedger : ByteArray := prog_3_method_9_code
def yX1_isLedger : MethodName := ⟨RX1, "isLedger", "(I)Z"⟩
abbrev cX1_make : ByteArray := prog_3_method_10_code
def yX1_make : MethodName := ⟨RX1, "make", "(IIII)I"⟩
abbrev cX1_piece : ByteArray := prog_3_method_11_code
def yX1_piece : MethodName := ⟨RX1, "piece", "(II)I"⟩
abbrev cX1_isShape : ByteArray := prog_3_method_12_code
def yX1_isShape : MethodName := ⟨RX1, "isShape", "(II)Z"⟩
abbrev cX1_row : ByteArray := prog_3_method_13_code
def yX1_row : MethodName := ⟨RX1, "row", "(III)I"⟩
abbrev cX1_grid : ByteArray := prog_3_method_14_code
def yX1_grid : MethodName := ⟨RX1, "grid", "(III)I"⟩
abbrev cX1_put : ByteArray := prog_3_method_15_code
def yX1_put : MethodName := ⟨RX1, "put", "(III)I"⟩
abbrev cX1_get : ByteArray := prog_3_method_16_code
def yX1_get : MethodName := ⟨RX1, "get", "(II)I"⟩
abbrev cX1_refused : ByteArray := prog_3_method_17_code
def yX1_refused : MethodName := ⟨RX1, "refused", "(II)I"⟩
abbrev cX1_set : ByteArray := prog_3_method_18_code
def yX1_set : MethodName := ⟨RX1, "set", "(IIJ)I"⟩
abbrev cX1_number : ByteArray := prog_3_method_19_code
def yX1_number : MethodName := ⟨RX1, "number", "(II)J"⟩
abbrev cX1_isAsked : ByteArray := prog_3_method_20_code
def yX1_isAsked : MethodName := ⟨RX1, "isAsked", "(II)Z"⟩
abbrev cX1_is : ByteArray := prog_3_method_21_code
def yX1_is : MethodName := ⟨RX1, "is", "(III)I"⟩
abbrev cX1_door : ByteArray := prog_3_method_22_code
def yX1_door : MethodName := ⟨RX1, "door", "(III)I"⟩
abbrev cX1_through : ByteArray := prog_3_method_23_code
def yX1_through : MethodName := ⟨RX1, "through", "(III)I"⟩
abbrev cX1_lastDoor : ByteArray := prog_3_method_24_code
def yX1_lastDoor : MethodName := ⟨RX1, "lastDoor", "()I"⟩
abbrev cX1_addUp : ByteArray := prog_3_method_25_code
def yX1_addUp : MethodName := ⟨RX1, "addUp", "()V"⟩
abbrev cX1_addOne : ByteArray := prog_3_method_26_code
def yX1_addOne : MethodName := ⟨RX1, "addOne", "(I)V"⟩
abbrev cX1_worth : ByteArray := prog_3_method_27_code
def yX1_worth : MethodName := ⟨RX1, "worth", "(I)J"⟩
abbrev cX1_frail : ByteArray := prog_3_method_28_code
def yX1_frail : MethodName := ⟨RX1, "frail", "(I)I"⟩
abbrev cX1_copy : ByteArray := prog_3_method_29_code
def yX1_copy : MethodName := ⟨RX1, "copy", "(I)I"⟩
abbrev cX1_isSpan : ByteArray := prog_3_method_30_code
def yX1_isSpan : MethodName := ⟨RX1, "isSpan", "(III)Z"⟩
abbrev cX1_carry : ByteArray := prog_3_method_31_code
def yX1_carry : MethodName := ⟨RX1, "carry", "(IIIII)I"⟩
abbrev cX1_about : ByteArray := prog_3_method_32_code
def yX1_about : MethodName := ⟨RX1, "about", "(II)I"⟩
abbrev cX1_bases : ByteArray := prog_3_method_33_code
def yX1_bases : MethodName := ⟨RX1, "bases", "(I)I"⟩
abbrev cX1_count : ByteArray := prog_3_method_34_code
def yX1_count : MethodName := ⟨RX1, "count", "(I)I"⟩
abbrev cX1_clear : ByteArray := prog_3_method_35_code
def yX1_clear : MethodName := ⟨RX1, "clear", "()I"⟩
theorem dX1_init_0 : decode cX1_init 0 = .ok (.aload_n 0, 1) := by decide +kernel
theorem dX1_init_1 : decode cX1_init 1 = .ok (.invokespecial 1, 3) := by decide +kernel
theorem dX1_init_4 : decode cX1_init 4 = .ok (.aload_n 0, 1) := by decide +kernel
theorem dX1_init_5 : decode cX1_init 5 = .ok (.bipush 60, 2) := by decide +kernel
theorem dX1_init_7 : decode cX1_init 7 = .ok (.newarray .int, 2) := by decide +kernel
theorem dX1_init_9 : decode cX1_init 9 = .ok (.putfield 7, 3) := by decide +kernel
theorem dX1_init_12 : decode cX1_init 12 = .ok (.aload_n 0, 1) := by decide +kernel
theorem dX1_init_13 : decode cX1_init 13 = .ok (.bipush 60, 2) := by decide +kernel
theorem dX1_init_15 : decode cX1_init 15 = .ok (.newarray .int, 2) := by decide +kernel
theorem dX1_init_17 : decode cX1_init 17 = .ok (.putfield 13, 3) := by decide +kernel
theorem dX1_init_20 : decode cX1_init 20 = .ok (.aload_n 0, 1) := by decide +kernel
theorem dX1_init_21 : decode cX1_init 21 = .ok (.bipush 60, 2) := by decide +kernel
theorem dX1_init_23 : decode cX1_init 23 = .ok (.newarray .int, 2) := by decide +kernel
theorem dX1_init_25 : decode cX1_init 25 = .ok (.putfield 16, 3) := by decide +kernel
theorem dX1_init_28 : decode cX1_init 28 = .ok (.aload_n 0, 1) := by decide +kernel
theorem dX1_init_29 : decode cX1_init 29 = .ok (.bipush 60, 2) := by decide +kernel
theorem dX1_init_31 : decode cX1_init 31 = .ok (.newarray .int, 2) := by decide +kernel
theorem dX1_init_33 : decode cX1_init 33 = .ok (.putfield 19, 3) := by decide +kernel
theorem dX1_init_36 : decode cX1_init 36 = .ok (.aload_n 0, 1) := by decide +kernel
theorem dX1_init_37 : decode cX1_init 37 = .ok (.sipush 480, 3) := by decide +kernel
theorem dX1_init_40 : decode cX1_init 40 = .ok (.newarray .int, 2) := by decide +kernel
theorem dX1_init_42 : decode cX1_init 42 = .ok (.putfield 22, 3) := by decide +kernel
theorem dX1_init_45 : decode cX1_init 45 = .ok (.aload_n 0, 1) := by decide +kernel
theorem dX1_init_46 : decode cX1_init 46 = .ok (.sipush 480, 3) := by decide +kernel
theorem dX1_init_49 : decode cX1_init 49 = .ok (.newarray .long, 2) := by decide +kernel
theorem dX1_init_51 : decode cX1_init 51 = .ok (.putfield 25, 3) := by decide +kernel
theorem dX1_init_54 : decode cX1_init 54 = .ok (.aload_n 0, 1) := by decide +kernel
theorem dX1_init_55 : decode cX1_init 55 = .ok (.bipush 8, 2) := by decide +kernel
theorem dX1_init_57 : decode cX1_init 57 = .ok (.newarray .int, 2) := by decide +kernel
theorem dX1_init_59 : decode cX1_init 59 = .ok (.putfield 29, 3) := by decide +kernel
theorem dX1_init_62 : decode cX1_init 62 = .ok (.aload_n 0, 1) := by decide +kernel
theorem dX1_init_63 : decode cX1_init 63 = .ok (.bipush 8, 2) := by decide +kernel
theorem dX1_init_65 : decode cX1_init 65 = .ok (.newarray .int, 2) := by decide +kernel
theorem dX1_init_67 : decode cX1_init 67 = .ok (.putfield 32, 3) := by decide +kernel
theorem dX1_init_70 : decode cX1_init 70 = .ok (.aload_n 0, 1) := by decide +kernel
theorem dX1_init_71 : decode cX1_init 71 = .ok (.iconst (-1), 1) := by decide +kernel
theorem dX1_init_72 : decode cX1_init 72 = .ok (.putfield 35, 3) := by decide +kernel
theorem dX1_init_75 : decode cX1_init 75 = .ok (.aload_n 0, 1) := by decide +kernel
theorem dX1_init_76 : decode cX1_init 76 = .ok (.bipush 60, 2) := by decide +kernel
theorem dX1_init_78 : decode cX1_init 78 = .ok (.newarray .long, 2) := by decide +kernel
theorem dX1_init_80 : decode cX1_init 80 = .ok (.putfield 39, 3) := by decide +kernel
theorem dX1_init_83 : decode cX1_init 83 = .ok (.aload_n 0, 1) := by decide +kernel
theorem dX1_init_84 : decode cX1_init 84 = .ok (.bipush 60, 2) := by decide +kernel
theorem dX1_init_86 : decode cX1_init 86 = .ok (.newarray .int, 2) := by decide +kernel
theorem dX1_init_88 : decode cX1_init 88 = .ok (.putfield 42, 3) := by decide +kernel
theorem dX1_init_91 : decode cX1_init 91 = .ok (.aload_n 0, 1) := by decide +kernel
theorem dX1_init_92 : decode cX1_init 92 = .ok (.bipush 8, 2) := by decide +kernel
theorem dX1_init_94 : decode cX1_init 94 = .ok (.newarray .int, 2) := by decide +kernel
theorem dX1_init_96 : decode cX1_init 96 = .ok (.putfield 45, 3) := by decide +kernel
theorem dX1_init_99 : decode cX1_init 99 = .ok (.aload_n 0, 1) := by decide +kernel
theorem dX1_init_100 : decode cX1_init 100 = .ok (.bipush 8, 2) := by decide +kernel
theorem dX1_init_102 : decode cX1_init 102 = .ok (.newarray .long, 2) := by decide +kernel
theorem dX1_init_104 : decode cX1_init 104 = .ok (.putfield 48, 3) := by decide +kernel
theorem dX1_init_107 : decode cX1_init 107 = .ok (.return_, 1) := by decide +kernel
theorem dX1_isIn_0 : decode cX1_isIn 0 = .ok (.iload_n 0, 1) := by decide +kernel
theorem dX1_isIn_1 : decode cX1_isIn 1 = .ok (.iload_n 1, 1) := by decide +kernel
theorem dX1_isIn_2 : decode cX1_isIn 2 = .ok (.if_icmp .lt 12, 3) := by decide +kernel
theorem dX1_isIn_5 : decode cX1_isIn 5 = .ok (.iload_n 0, 1) := by decide +kernel
theorem dX1_isIn_6 : decode cX1_isIn 6 = .ok (.iload_n 2, 1) := by decide +kernel
theorem dX1_isIn_7 : decode cX1_isIn 7 = .ok (.if_icmp .gt 7, 3) := by decide +kernel
theorem dX1_isIn_10 : decode cX1_isIn 10 = .ok (.iconst 1, 1) := by decide +kernel
theorem dX1_isIn_11 : decode cX1_isIn 11 = .ok (.goto 4, 3) := by decide +kernel
theorem dX1_isIn_14 : decode cX1_isIn 14 = .ok (.iconst 0, 1) := by decide +kernel
theorem dX1_isIn_15 : decode cX1_isIn 15 = .ok (.ireturn, 1) := by decide +kernel
theorem dX1_fails_0 : decode cX1_fails 0 = .ok (.aload_n 0, 1) := by decide +kernel
theorem dX1_fails_1 : decode cX1_fails 1 = .ok (.dup, 1) := by decide +kernel
theorem dX1_fails_2 : decode cX1_fails 2 = .ok (.getfield 51, 3) := by decide +kernel
theorem dX1_fails_5 : decode cX1_fails 5 = .ok (.iconst 1, 1) := by decide +kernel
theorem dX1_fails_6 : decode cX1_fails 6 = .ok (.iadd, 1) := by decide +kernel
theorem dX1_fails_7 : decode cX1_fails 7 = .ok (.putfield 51, 3) := by decide +kernel
theorem dX1_fails_10 : decode cX1_fails 10 = .ok (.aload_n 0, 1) := by decide +kernel
theorem dX1_fails_11 : decode cX1_fails 11 = .ok (.iload_n 1, 1) := by decide +kernel
theorem dX1_fails_12 : decode cX1_fails 12 = .ok (.putfield 54, 3) := by decide +kernel
theorem dX1_fails_15 : decode cX1_fails 15 = .ok (.bipush (-10), 2) := by decide +kernel
theorem dX1_fails_17 : decode cX1_fails 17 = .ok (.iload_n 1, 1) := by decide +kernel
theorem dX1_fails_18 : decode cX1_fails 18 = .ok (.isub, 1) := by decide +kernel
theorem dX1_fails_19 : decode cX1_fails 19 = .ok (.ireturn, 1) := by decide +kernel
theorem dX1_isThing_0 : decode cX1_isThing 0 = .ok (.iload_n 1, 1) := by decide +kernel
theorem dX1_isThing_1 : decode cX1_isThing 1 = .ok (.iconst 0, 1) := by decide +kernel
theorem dX1_isThing_2 : decode cX1_isThing 2 = .ok (.aload_n 0, 1) := by decide +kernel
theorem dX1_isThing_3 : decode cX1_isThing 3 = .ok (.getfield 57, 3) := by decide +kernel
theorem dX1_isThing_6 : decode cX1_isThing 6 = .ok (.iconst 1, 1) := by decide +kernel
theorem dX1_isThing_7 : decode cX1_isThing 7 = .ok (.isub, 1) := by decide +kernel
theorem dX1_isThing_8 : decode cX1_isThing 8 = .ok (.invokestatic 60, 3) := by decide +kernel
theorem dX1_isThing_11 : decode cX1_isThing 11 = .ok (.ireturn, 1) := by decide +kernel
theorem dX1_mayBe_0 : decode cX1_mayBe 0 = .ok (.iload_n 1, 1) := by decide +kernel
theorem dX1_mayBe_1 : decode cX1_mayBe 1 = .ok (.iconst (-1), 1) := by decide +kernel
theorem dX1_mayBe_2 : decode cX1_mayBe 2 = .ok (.aload_n 0, 1) := by decide +kernel
theorem dX1_mayBe_3 : decode cX1_mayBe 3 = .ok (.getfield 57, 3) := by decide +kernel
theorem dX1_mayBe_6 : decode cX1_mayBe 6 = .ok (.iconst 1, 1) := by decide +kernel
theorem dX1_mayBe_7 : decode cX1_mayBe 7 = .ok (.isub, 1) := by decide +kernel
theorem dX1_mayBe_8 : decode cX1_mayBe 8 = .ok (.invokestatic 60, 3) := by decide +kernel
theorem dX1_mayBe_11 : decode cX1_mayBe 11 = .ok (.ireturn, 1) := by decide +kernel
theorem dX1_goesFor_0 : decode cX1_goesFor 0 = .ok (.iload_n 0, 1) := by decide +kernel
theorem dX1_goesFor_1 : decode cX1_goesFor 1 = .ok (.iload_n 1, 1) := by decide +kernel
theorem dX1_goesFor_2 : decode cX1_goesFor 2 = .ok (.if_icmp .eq 41, 3) := by decide +kernel
theorem dX1_goesFor_5 : decode cX1_goesFor 5 = .ok (.iload_n 1, 1) := by decide +kernel
theorem dX1_goesFor_6 : decode cX1_goesFor 6 = .ok (.ifCond .ne 12, 3) := by decide +kernel
theorem dX1_goesFor_9 : decode cX1_goesFor 9 = .ok (.iload_n 0, 1) := by decide +kernel
theorem dX1_goesFor_10 : decode cX1_goesFor 10 = .ok (.iconst 1, 1) := by decide +kernel
theorem dX1_goesFor_11 : decode cX1_goesFor 11 = .ok (.iconst 3, 1) := by decide +kernel
theorem dX1_goesFor_12 : decode cX1_goesFor 12 = .ok (.invokestatic 60, 3) := by decide +kernel
theorem dX1_goesFor_15 : decode cX1_goesFor 15 = .ok (.ifCond .ne 28, 3) := by decide +kernel
theorem dX1_goesFor_18 : decode cX1_goesFor 18 = .ok (.iload_n 0, 1) := by decide +kernel
theorem dX1_goesFor_19 : decode cX1_goesFor 19 = .ok (.iconst 3, 1) := by decide +kernel
theorem dX1_goesFor_20 : decode cX1_goesFor 20 = .ok (.if_icmp .ne 8, 3) := by decide +kernel
theorem dX1_goesFor_23 : decode cX1_goesFor 23 = .ok (.iload_n 1, 1) := by decide +kernel
theorem dX1_goesFor_24 : decode cX1_goesFor 24 = .ok (.iconst 2, 1) := by decide +kernel
theorem dX1_goesFor_25 : decode cX1_goesFor 25 = .ok (.if_icmp .eq 18, 3) := by decide +kernel
theorem dX1_goesFor_28 : decode cX1_goesFor 28 = .ok (.iload_n 1, 1) := by decide +kernel
theorem dX1_goesFor_29 : decode cX1_goesFor 29 = .ok (.iconst 4, 1) := by decide +kernel
theorem dX1_goesFor_30 : decode cX1_goesFor 30 = .ok (.if_icmp .ne 17, 3) := by decide +kernel
theorem dX1_goesFor_33 : decode cX1_goesFor 33 = .ok (.iload_n 0, 1) := by decide +kernel
theorem dX1_goesFor_34 : decode cX1_goesFor 34 = .ok (.iconst 1, 1) := by decide +kernel
theorem dX1_goesFor_35 : decode cX1_goesFor 35 = .ok (.if_icmp .eq 8, 3) := by decide +kernel
theorem dX1_goesFor_38 : decode cX1_goesFor 38 = .ok (.iload_n 0, 1) := by decide +kernel
theorem dX1_goesFor_39 : decode cX1_goesFor 39 = .ok (.iconst 3, 1) := by decide +kernel
theorem dX1_goesFor_40 : decode cX1_goesFor 40 = .ok (.if_icmp .ne 7, 3) := by decide +kernel
theorem dX1_goesFor_43 : decode cX1_goesFor 43 = .ok (.iconst 1, 1) := by decide +kernel
theorem dX1_goesFor_44 : decode cX1_goesFor 44 = .ok (.goto 4, 3) := by decide +kernel
theorem dX1_goesFor_47 : decode cX1_goesFor 47 = .ok (.iconst 0, 1) := by decide +kernel
theorem dX1_goesFor_48 : decode cX1_goesFor 48 = .ok (.ireturn, 1) := by decide +kernel
theorem dX1_isSuch_0 : decode cX1_isSuch 0 = .ok (.iload_n 1, 1) := by decide +kernel
theorem dX1_isSuch_1 : decode cX1_isSuch 1 = .ok (.ifCond .lt 30, 3) := by decide +kernel
theorem dX1_isSuch_4 : decode cX1_isSuch 4 = .ok (.aload_n 0, 1) := by decide +kernel
theorem dX1_isSuch_5 : decode cX1_isSuch 5 = .ok (.getfield 13, 3) := by decide +kernel
theorem dX1_isSuch_8 : decode cX1_isSuch 8 = .ok (.iload_n 1, 1) := by decide +kernel
theorem dX1_isSuch_9 : decode cX1_isSuch 9 = .ok (.iaload, 1) := by decide +kernel
theorem dX1_isSuch_10 : decode cX1_isSuch 10 = .ok (.iload_n 3, 1) := by decide +kernel
theorem dX1_isSuch_11 : decode cX1_isSuch 11 = .ok (.if_icmp .ne 20, 3) := by decide +kernel
theorem dX1_isSuch_14 : decode cX1_isSuch 14 = .ok (.aload_n 0, 1) := by decide +kernel
theorem dX1_isSuch_15 : decode cX1_isSuch 15 = .ok (.getfield 7, 3) := by decide +kernel
theorem dX1_isSuch_18 : decode cX1_isSuch 18 = .ok (.iload_n 1, 1) := by decide +kernel
theorem dX1_isSuch_19 : decode cX1_isSuch 19 = .ok (.iaload, 1) := by decide +kernel
theorem dX1_isSuch_20 : decode cX1_isSuch 20 = .ok (.iload_n 2, 1) := by decide +kernel
theorem dX1_isSuch_21 : decode cX1_isSuch 21 = .ok (.invokestatic 64, 3) := by decide +kernel
theorem dX1_isSuch_24 : decode cX1_isSuch 24 = .ok (.ifCond .eq 7, 3) := by decide +kernel
theorem dX1_isSuch_27 : decode cX1_isSuch 27 = .ok (.iconst 1, 1) := by decide +kernel
theorem dX1_isSuch_28 : decode cX1_isSuch 28 = .ok (.goto 4, 3) := by decide +kernel
theorem dX1_isSuch_31 : decode cX1_isSuch 31 = .ok (.iconst 0, 1) := by decide +kernel
theorem dX1_isSuch_32 : decode cX1_isSuch 32 = .ok (.ireturn, 1) := by decide +kernel
theorem dX1_isLedger_0 : decode cX1_isLedger 0 = .ok (.aload_n 0, 1) := by decide +kernel
theorem dX1_isLedger_1 : decode cX1_isLedger 1 = .ok (.getfield 13, 3) := by decide +kernel
theorem dX1_isLedger_4 : decode cX1_isLedger 4 = .ok (.iload_n 1, 1) := by decide +kernel
theorem dX1_isLedger_5 : decode cX1_isLedger 5 = .ok (.iaload, 1) := by decide +kernel
theorem dX1_isLedger_6 : decode cX1_isLedger 6 = .ok (.iconst 1, 1) := by decide +kernel
theorem dX1_isLedger_7 : decode cX1_isLedger 7 = .ok (.if_icmp .ne 17, 3) := by decide +kernel
theorem dX1_isLedger_10 : decode cX1_isLedger 10 = .ok (.aload_n 0, 1) := by decide +kernel
theorem dX1_isLedger_11 : decode cX1_isLedger 11 = .ok (.getfield 7, 3) := by decide +kernel
theorem dX1_isLedger_14 : decode cX1_isLedger 14 = .ok (.iload_n 1, 1) := by decide +kernel
theorem dX1_isLedger_15 : decode cX1_isLedger 15 = .ok (.iaload, 1) := by decide +kernel
theorem dX1_isLedger_16 : decode cX1_isLedger 16 = .ok (.iconst 4, 1) := by decide +kernel
theorem dX1_isLedger_17 : decode cX1_isLedger 17 = .ok (.if_icmp .le 7, 3) := by decide +kernel
theorem dX1_isLedger_20 : decode cX1_isLedger 20 = .ok (.iconst 1, 1) := by decide +kernel
theorem dX1_isLedger_21 : decode cX1_isLedger 21 = .ok (.goto 4, 3) := by decide +kernel
theorem dX1_isLedger_24 : decode cX1_isLedger 24 = .ok (.iconst 0, 1) := by decide +kernel
theorem dX1_isLedger_25 : decode cX1_isLedger 25 = .ok (.ireturn, 1) := by decide +kernel
theorem dX1_make_0 : decode cX1_make 0 = .ok (.aload_n 0, 1) := by decide +kernel
theorem dX1_make_1 : decode cX1_make 1 = .ok (.getfield 57, 3) := by decide +kernel
theorem dX1_make_4 : decode cX1_make 4 = .ok (.istore 5, 2) := by decide +kernel
theorem dX1_make_6 : decode cX1_make 6 = .ok (.aload_n 0, 1) := by decide +kernel
theorem dX1_make_7 : decode cX1_make 7 = .ok (.dup, 1) := by decide +kernel
theorem dX1_make_8 : decode cX1_make 8 = .ok (.getfield 57, 3) := by decide +kernel
theorem dX1_make_11 : decode cX1_make 11 = .ok (.iconst 1, 1) := by decide +kernel
theorem dX1_make_12 : decode cX1_make 12 = .ok (.iadd, 1) := by decide +kernel
theorem dX1_make_13 : decode cX1_make 13 = .ok (.putfield 57, 3) := by decide +kernel
theorem dX1_make_16 : decode cX1_make 16 = .ok (.aload_n 0, 1) := by decide +kernel
theorem dX1_make_17 : decode cX1_make 17 = .ok (.getfield 7, 3) := by decide +kernel
theorem dX1_make_20 : decode cX1_make 20 = .ok (.iload 5, 2) := by decide +kernel
theorem dX1_make_22 : decode cX1_make 22 = .ok (.iload_n 1, 1) := by decide +kernel
theorem dX1_make_23 : decode cX1_make 23 = .ok (.iastore, 1) := by decide +kernel
theorem dX1_make_24 : decode cX1_make 24 = .ok (.aload_n 0, 1) := by decide +kernel
theorem dX1_make_25 : decode cX1_make 25 = .ok (.getfield 13, 3) := by decide +kernel
theorem dX1_make_28 : decode cX1_make 28 = .ok (.iload 5, 2) := by decide +kernel
theorem dX1_make_30 : decode cX1_make 30 = .ok (.iload_n 2, 1) := by decide +kernel
theorem dX1_make_31 : decode cX1_make 31 = .ok (.iastore, 1) := by decide +kernel
theorem dX1_make_32 : decode cX1_make 32 = .ok (.aload_n 0, 1) := by decide +kernel
theorem dX1_make_33 : decode cX1_make 33 = .ok (.getfield 16, 3) := by decide +kernel
theorem dX1_make_36 : decode cX1_make 36 = .ok (.iload 5, 2) := by decide +kernel
theorem dX1_make_38 : decode cX1_make 38 = .ok (.iload_n 3, 1) := by decide +kernel
theorem dX1_make_39 : decode cX1_make 39 = .ok (.iastore, 1) := by decide +kernel
theorem dX1_make_40 : decode cX1_make 40 = .ok (.aload_n 0, 1) := by decide +kernel
theorem dX1_make_41 : decode cX1_make 41 = .ok (.getfield 19, 3) := by decide +kernel
theorem dX1_make_44 : decode cX1_make 44 = .ok (.iload 5, 2) := by decide +kernel
theorem dX1_make_46 : decode cX1_make 46 = .ok (.iload 4, 2) := by decide +kernel
theorem dX1_make_48 : decode cX1_make 48 = .ok (.iastore, 1) := by decide +kernel
theorem dX1_make_49 : decode cX1_make 49 = .ok (.iconst 0, 1) := by decide +kernel
theorem dX1_make_50 : decode cX1_make 50 = .ok (.istore 6, 2) := by decide +kernel
theorem dX1_make_52 : decode cX1_make 52 = .ok (.iload 6, 2) := by decide +kernel
theorem dX1_make_54 : decode cX1_make 54 = .ok (.bipush 8, 2) := by decide +kernel
theorem dX1_make_56 : decode cX1_make 56 = .ok (.if_icmp .ge 37, 3) := by decide +kernel
theorem dX1_make_59 : decode cX1_make 59 = .ok (.aload_n 0, 1) := by decide +kernel
theorem dX1_make_60 : decode cX1_make 60 = .ok (.getfield 22, 3) := by decide +kernel
theorem dX1_make_63 : decode cX1_make 63 = .ok (.bipush 8, 2) := by decide +kernel
theorem dX1_make_65 : decode cX1_make 65 = .ok (.iload 5, 2) := by decide +kernel
theorem dX1_make_67 : decode cX1_make 67 = .ok (.imul, 1) := by decide +kernel
theorem dX1_make_68 : decode cX1_make 68 = .ok (.iload 6, 2) := by decide +kernel
theorem dX1_make_70 : decode cX1_make 70 = .ok (.iadd, 1) := by decide +kernel
theorem dX1_make_71 : decode cX1_make 71 = .ok (.iconst (-1), 1) := by decide +kernel
theorem dX1_make_72 : decode cX1_make 72 = .ok (.iastore, 1) := by decide +kernel
theorem dX1_make_73 : decode cX1_make 73 = .ok (.aload_n 0, 1) := by decide +kernel
theorem dX1_make_74 : decode cX1_make 74 = .ok (.getfield 25, 3) := by decide +kernel
theorem dX1_make_77 : decode cX1_make 77 = .ok (.bipush 8, 2) := by decide +kernel
theorem dX1_make_79 : decode cX1_make 79 = .ok (.iload 5, 2) := by decide +kernel
theorem dX1_make_81 : decode cX1_make 81 = .ok (.imul, 1) := by decide +kernel
theorem dX1_make_82 : decode cX1_make 82 = .ok (.iload 6, 2) := by decide +kernel
theorem dX1_make_84 : decode cX1_make 84 = .ok (.iadd, 1) := by decide +kernel
theorem dX1_make_85 : decode cX1_make 85 = .ok (.lconst 0, 1) := by decide +kernel
theorem dX1_make_86 : decode cX1_make 86 = .ok (.lastore, 1) := by decide +kernel
theorem dX1_make_87 : decode cX1_make 87 = .ok (.iinc 6 1, 3) := by decide +kernel
theorem dX1_make_90 : decode cX1_make 90 = .ok (.goto (-38), 3) := by decide +kernel
theorem dX1_make_93 : decode cX1_make 93 = .ok (.iload 5, 2) := by decide +kernel
theorem dX1_make_95 : decode cX1_make 95 = .ok (.ireturn, 1) := by decide +kernel
theorem dX1_piece_0 : decode cX1_piece 0 = .ok (.iload_n 1, 1) := by decide +kernel
theorem dX1_piece_1 : decode cX1_piece 1 = .ok (.iconst 0, 1) := by decide +kernel
theorem dX1_piece_2 : decode cX1_piece 2 = .ok (.iconst 3, 1) := by decide +kernel
theorem dX1_piece_3 : decode cX1_piece 3 = .ok (.invokestatic 60, 3) := by decide +kernel
theorem dX1_piece_6 : decode cX1_piece 6 = .ok (.ifCond .ne 6, 3) := by decide +kernel
theorem dX1_piece_9 : decode cX1_piece 9 = .ok (.bipush (-2), 2) := by decide +kernel
theorem dX1_piece_11 : decode cX1_piece 11 = .ok (.ireturn, 1) := by decide +kernel
theorem dX1_piece_12 : decode cX1_piece 12 = .ok (.aload_n 0, 1) := by decide +kernel
theorem dX1_piece_13 : decode cX1_piece 13 = .ok (.getfield 57, 3) := by decide +kernel
theorem dX1_piece_16 : decode cX1_piece 16 = .ok (.bipush 60, 2) := by decide +kernel
theorem dX1_piece_18 : decode cX1_piece 18 = .ok (.if_icmp .ne 8, 3) := by decide +kernel
theorem dX1_piece_21 : decode cX1_piece 21 = .ok (.bipush (-3), 2) := by decide +kernel
theorem dX1_piece_23 : decode cX1_piece 23 = .ok (.goto 11, 3) := by decide +kernel
theorem dX1_piece_26 : decode cX1_piece 26 = .ok (.aload_n 0, 1) := by decide +kernel
theorem dX1_piece_27 : decode cX1_piece 27 = .ok (.iload_n 1, 1) := by decide +kernel
theorem dX1_piece_28 : decode cX1_piece 28 = .ok (.iconst 0, 1) := by decide +kernel
theorem dX1_piece_29 : decode cX1_piece 29 = .ok (.iconst 0, 1) := by decide +kernel
theorem dX1_piece_30 : decode cX1_piece 30 = .ok (.iload_n 2, 1) := by decide +kernel
theorem dX1_piece_31 : decode cX1_piece 31 = .ok (.invokevirtual 68, 3) := by decide +kernel
theorem dX1_piece_34 : decode cX1_piece 34 = .ok (.ireturn, 1) := by decide +kernel
theorem dX1_isShape_0 : decode cX1_isShape 0 = .ok (.iload_n 0, 1) := by decide +kernel
theorem dX1_isShape_1 : decode cX1_isShape 1 = .ok (.iconst 0, 1) := by decide +kernel
theorem dX1_isShape_2 : decode cX1_isShape 2 = .ok (.bipush 6, 2) := by decide +kernel
theorem dX1_isShape_4 : decode cX1_isShape 4 = .ok (.invokestatic 60, 3) := by decide +kernel
theorem dX1_isShape_7 : decode cX1_isShape 7 = .ok (.ifCond .eq 25, 3) := by decide +kernel
theorem dX1_isShape_10 : decode cX1_isShape 10 = .ok (.iload_n 1, 1) := by decide +kernel
theorem dX1_isShape_11 : decode cX1_isShape 11 = .ok (.iconst 1, 1) := by decide +kernel
theorem dX1_isShape_12 : decode cX1_isShape 12 = .ok (.iload_n 0, 1) := by decide +kernel
theorem dX1_isShape_13 : decode cX1_isShape 13 = .ok (.iconst 4, 1) := by decide +kernel
theorem dX1_isShape_14 : decode cX1_isShape 14 = .ok (.if_icmp .le 7, 3) := by decide +kernel
theorem dX1_isShape_17 : decode cX1_isShape 17 = .ok (.iconst 2, 1) := by decide +kernel
theorem dX1_isShape_18 : decode cX1_isShape 18 = .ok (.goto 4, 3) := by decide +kernel
theorem dX1_isShape_21 : decode cX1_isShape 21 = .ok (.iconst 3, 1) := by decide +kernel
theorem dX1_isShape_22 : decode cX1_isShape 22 = .ok (.invokestatic 60, 3) := by decide +kernel
theorem dX1_isShape_25 : decode cX1_isShape 25 = .ok (.ifCond .eq 7, 3) := by decide +kernel
theorem dX1_isShape_28 : decode cX1_isShape 28 = .ok (.iconst 1, 1) := by decide +kernel
theorem dX1_isShape_29 : decode cX1_isShape 29 = .ok (.goto 4, 3) := by decide +kernel
theorem dX1_isShape_32 : decode cX1_isShape 32 = .ok (.iconst 0, 1) := by decide +kernel
theorem dX1_isShape_33 : decode cX1_isShape 33 = .ok (.ireturn, 1) := by decide +kernel
theorem dX1_row_0 : decode cX1_row 0 = .ok (.iload_n 1, 1) := by decide +kernel
theorem dX1_row_1 : decode cX1_row 1 = .ok (.iload_n 2, 1) := by decide +kernel
theorem dX1_row_2 : decode cX1_row 2 = .ok (.invokestatic 72, 3) := by decide +kernel
theorem dX1_row_5 : decode cX1_row 5 = .ok (.ifCond .eq 9, 3) := by decide +kernel
theorem dX1_row_8 : decode cX1_row 8 = .ok (.iload_n 3, 1) := by decide +kernel
theorem dX1_row_9 : decode cX1_row 9 = .ok (.bipush 8, 2) := by decide +kernel
theorem dX1_row_11 : decode cX1_row 11 = .ok (.if_icmp .le 6, 3) := by decide +kernel
theorem dX1_row_14 : decode cX1_row 14 = .ok (.bipush (-2), 2) := by decide +kernel
theorem dX1_row_16 : decode cX1_row 16 = .ok (.ireturn, 1) := by decide +kernel
theorem dX1_row_17 : decode cX1_row 17 = .ok (.aload_n 0, 1) := by decide +kernel
theorem dX1_row_18 : decode cX1_row 18 = .ok (.getfield 57, 3) := by decide +kernel
theorem dX1_row_21 : decode cX1_row 21 = .ok (.bipush 60, 2) := by decide +kernel
theorem dX1_row_23 : decode cX1_row 23 = .ok (.if_icmp .ne 6, 3) := by decide +kernel
theorem dX1_row_26 : decode cX1_row 26 = .ok (.bipush (-3), 2) := by decide +kernel
theorem dX1_row_28 : decode cX1_row 28 = .ok (.ireturn, 1) := by decide +kernel
theorem dX1_row_29 : decode cX1_row 29 = .ok (.iload_n 3, 1) := by decide +kernel
theorem dX1_row_30 : decode cX1_row 30 = .ok (.ifCond .ge 11, 3) := by decide +kernel
theorem dX1_row_33 : decode cX1_row 33 = .ok (.aload_n 0, 1) := by decide +kernel
theorem dX1_row_34 : decode cX1_row 34 = .ok (.iconst 5, 1) := by decide +kernel
theorem dX1_row_35 : decode cX1_row 35 = .ok (.invokevirtual 75, 3) := by decide +kernel
theorem dX1_row_38 : decode cX1_row 38 = .ok (.goto 11, 3) := by decide +kernel
theorem dX1_row_41 : decode cX1_row 41 = .ok (.aload_n 0, 1) := by decide +kernel
theorem dX1_row_42 : decode cX1_row 42 = .ok (.iload_n 1, 1) := by decide +kernel
theorem dX1_row_43 : decode cX1_row 43 = .ok (.iload_n 2, 1) := by decide +kernel
theorem dX1_row_44 : decode cX1_row 44 = .ok (.iload_n 3, 1) := by decide +kernel
theorem dX1_row_45 : decode cX1_row 45 = .ok (.iconst 0, 1) := by decide +kernel
theorem dX1_row_46 : decode cX1_row 46 = .ok (.invokevirtual 68, 3) := by decide +kernel
theorem dX1_row_49 : decode cX1_row 49 = .ok (.ireturn, 1) := by decide +kernel
theorem dX1_grid_0 : decode cX1_grid 0 = .ok (.iload_n 1, 1) := by decide +kernel
theorem dX1_grid_1 : decode cX1_grid 1 = .ok (.iconst 0, 1) := by decide +kernel
theorem dX1_grid_2 : decode cX1_grid 2 = .ok (.bipush 6, 2) := by decide +kernel
theorem dX1_grid_4 : decode cX1_grid 4 = .ok (.invokestatic 60, 3) := by decide +kernel
theorem dX1_grid_7 : decode cX1_grid 7 = .ok (.ifCond .eq 15, 3) := by decide +kernel
theorem dX1_grid_10 : decode cX1_grid 10 = .ok (.iload_n 2, 1) := by decide +kernel
theorem dX1_grid_11 : decode cX1_grid 11 = .ok (.bipush 8, 2) := by decide +kernel
theorem dX1_grid_13 : decode cX1_grid 13 = .ok (.if_icmp .gt 9, 3) := by decide +kernel
theorem dX1_grid_16 : decode cX1_grid 16 = .ok (.iload_n 3, 1) := by decide +kernel
theorem dX1_grid_17 : decode cX1_grid 17 = .ok (.bipush 8, 2) := by decide +kernel
theorem dX1_grid_19 : decode cX1_grid 19 = .ok (.if_icmp .le 6, 3) := by decide +kernel
theorem dX1_grid_22 : decode cX1_grid 22 = .ok (.bipush (-2), 2) := by decide +kernel
theorem dX1_grid_24 : decode cX1_grid 24 = .ok (.ireturn, 1) := by decide +kernel
theorem dX1_grid_25 : decode cX1_grid 25 = .ok (.aload_n 0, 1) := by decide +kernel
theorem dX1_grid_26 : decode cX1_grid 26 = .ok (.getfield 57, 3) := by decide +kernel
theorem dX1_grid_29 : decode cX1_grid 29 = .ok (.iconst 1, 1) := by decide +kernel
theorem dX1_grid_30 : decode cX1_grid 30 = .ok (.iadd, 1) := by decide +kernel
theorem dX1_grid_31 : decode cX1_grid 31 = .ok (.iload_n 2, 1) := by decide +kernel
theorem dX1_grid_32 : decode cX1_grid 32 = .ok (.ifCond .ge 7, 3) := by decide +kernel
theorem dX1_grid_35 : decode cX1_grid 35 = .ok (.iconst 0, 1) := by decide +kernel
theorem dX1_grid_36 : decode cX1_grid 36 = .ok (.goto 4, 3) := by decide +kernel
theorem dX1_grid_39 : decode cX1_grid 39 = .ok (.iload_n 2, 1) := by decide +kernel
theorem dX1_grid_40 : decode cX1_grid 40 = .ok (.iadd, 1) := by decide +kernel
theorem dX1_grid_41 : decode cX1_grid 41 = .ok (.bipush 60, 2) := by decide +kernel
theorem dX1_grid_43 : decode cX1_grid 43 = .ok (.if_icmp .le 6, 3) := by decide +kernel
theorem dX1_grid_46 : decode cX1_grid 46 = .ok (.bipush (-3), 2) := by decide +kernel
theorem dX1_grid_48 : decode cX1_grid 48 = .ok (.ireturn, 1) := by decide +kernel
theorem dX1_grid_49 : decode cX1_grid 49 = .ok (.iload_n 2, 1) := by decide +kernel
theorem dX1_grid_50 : decode cX1_grid 50 = .ok (.ifCond .lt 7, 3) := by decide +kernel
theorem dX1_grid_53 : decode cX1_grid 53 = .ok (.iload_n 3, 1) := by decide +kernel
theorem dX1_grid_54 : decode cX1_grid 54 = .ok (.ifCond .ge 9, 3) := by decide +kernel
theorem dX1_grid_57 : decode cX1_grid 57 = .ok (.aload_n 0, 1) := by decide +kernel
theorem dX1_grid_58 : decode cX1_grid 58 = .ok (.iconst 5, 1) := by decide +kernel
theorem dX1_grid_59 : decode cX1_grid 59 = .ok (.invokevirtual 75, 3) := by decide +kernel
theorem dX1_grid_62 : decode cX1_grid 62 = .ok (.ireturn, 1) := by decide +kernel
theorem dX1_grid_63 : decode cX1_grid 63 = .ok (.aload_n 0, 1) := by decide +kernel
theorem dX1_grid_64 : decode cX1_grid 64 = .ok (.iload_n 1, 1) := by decide +kernel
theorem dX1_grid_65 : decode cX1_grid 65 = .ok (.iconst 2, 1) := by decide +kernel
theorem dX1_grid_66 : decode cX1_grid 66 = .ok (.iload_n 2, 1) := by decide +kernel
theorem dX1_grid_67 : decode cX1_grid 67 = .ok (.iconst 0, 1) := by decide +kernel
theorem dX1_grid_68 : decode cX1_grid 68 = .ok (.invokevirtual 68, 3) := by decide +kernel
theorem dX1_grid_71 : decode cX1_grid 71 = .ok (.istore 4, 2) := by decide +kernel
theorem dX1_grid_73 : decode cX1_grid 73 = .ok (.iconst 0, 1) := by decide +kernel
theorem dX1_grid_74 : decode cX1_grid 74 = .ok (.istore 5, 2) := by decide +kernel
theorem dX1_grid_76 : decode cX1_grid 76 = .ok (.iload 5, 2) := by decide +kernel
theorem dX1_grid_78 : decode cX1_grid 78 = .ok (.iload_n 2, 1) := by decide +kernel
theorem dX1_grid_79 : decode cX1_grid 79 = .ok (.if_icmp .ge 30, 3) := by decide +kernel
theorem dX1_grid_82 : decode cX1_grid 82 = .ok (.aload_n 0, 1) := by decide +kernel
theorem dX1_grid_83 : decode cX1_grid 83 = .ok (.getfield 22, 3) := by decide +kernel
theorem dX1_grid_86 : decode cX1_grid 86 = .ok (.bipush 8, 2) := by decide +kernel
theorem dX1_grid_88 : decode cX1_grid 88 = .ok (.iload 4, 2) := by decide +kernel
theorem dX1_grid_90 : decode cX1_grid 90 = .ok (.imul, 1) := by decide +kernel
theorem dX1_grid_91 : decode cX1_grid 91 = .ok (.iload 5, 2) := by decide +kernel
theorem dX1_grid_93 : decode cX1_grid 93 = .ok (.iadd, 1) := by decide +kernel
theorem dX1_grid_94 : decode cX1_grid 94 = .ok (.aload_n 0, 1) := by decide +kernel
theorem dX1_grid_95 : decode cX1_grid 95 = .ok (.iload_n 1, 1) := by decide +kernel
theorem dX1_grid_96 : decode cX1_grid 96 = .ok (.iconst 1, 1) := by decide +kernel
theorem dX1_grid_97 : decode cX1_grid 97 = .ok (.iload_n 3, 1) := by decide +kernel
theorem dX1_grid_98 : decode cX1_grid 98 = .ok (.iconst 0, 1) := by decide +kernel
theorem dX1_grid_99 : decode cX1_grid 99 = .ok (.invokevirtual 68, 3) := by decide +kernel
theorem dX1_grid_102 : decode cX1_grid 102 = .ok (.iastore, 1) := by decide +kernel
theorem dX1_grid_103 : decode cX1_grid 103 = .ok (.iinc 5 1, 3) := by decide +kernel
theorem dX1_grid_106 : decode cX1_grid 106 = .ok (.goto (-30), 3) := by decide +kernel
theorem dX1_grid_109 : decode cX1_grid 109 = .ok (.iload 4, 2) := by decide +kernel
theorem dX1_grid_111 : decode cX1_grid 111 = .ok (.ireturn, 1) := by decide +kernel
theorem dX1_put_0 : decode cX1_put 0 = .ok (.aload_n 0, 1) := by decide +kernel
theorem dX1_put_1 : decode cX1_put 1 = .ok (.iload_n 1, 1) := by decide +kernel
theorem dX1_put_2 : decode cX1_put 2 = .ok (.invokevirtual 79, 3) := by decide +kernel
theorem dX1_put_5 : decode cX1_put 5 = .ok (.ifCond .eq 11, 3) := by decide +kernel
theorem dX1_put_8 : decode cX1_put 8 = .ok (.aload_n 0, 1) := by decide +kernel
theorem dX1_put_9 : decode cX1_put 9 = .ok (.iload_n 3, 1) := by decide +kernel
theorem dX1_put_10 : decode cX1_put 10 = .ok (.invokevirtual 79, 3) := by decide +kernel
theorem dX1_put_13 : decode cX1_put 13 = .ok (.ifCond .ne 6, 3) := by decide +kernel
theorem dX1_put_16 : decode cX1_put 16 = .ok (.bipush (-2), 2) := by decide +kernel
theorem dX1_put_18 : decode cX1_put 18 = .ok (.ireturn, 1) := by decide +kernel
theorem dX1_put_19 : decode cX1_put 19 = .ok (.iload_n 1, 1) := by decide +kernel
theorem dX1_put_20 : decode cX1_put 20 = .ok (.iconst (-1), 1) := by decide +kernel
theorem dX1_put_21 : decode cX1_put 21 = .ok (.if_icmp .ne 28, 3) := by decide +kernel
theorem dX1_put_24 : decode cX1_put 24 = .ok (.aload_n 0, 1) := by decide +kernel
theorem dX1_put_25 : decode cX1_put 25 = .ok (.iload_n 3, 1) := by decide +kernel
theorem dX1_put_26 : decode cX1_put 26 = .ok (.iconst (-1), 1) := by decide +kernel
theorem dX1_put_27 : decode cX1_put 27 = .ok (.if_icmp .eq 17, 3) := by decide +kernel
theorem dX1_put_30 : decode cX1_put 30 = .ok (.aload_n 0, 1) := by decide +kernel
theorem dX1_put_31 : decode cX1_put 31 = .ok (.iload_n 3, 1) := by decide +kernel
theorem dX1_put_32 : decode cX1_put 32 = .ok (.iconst 0, 1) := by decide +kernel
theorem dX1_put_33 : decode cX1_put 33 = .ok (.iconst 0, 1) := by decide +kernel
theorem dX1_put_34 : decode cX1_put 34 = .ok (.invokevirtual 83, 3) := by decide +kernel
theorem dX1_put_37 : decode cX1_put 37 = .ok (.ifCond .ne 7, 3) := by decide +kernel
theorem dX1_put_40 : decode cX1_put 40 = .ok (.iconst 2, 1) := by decide +kernel
theorem dX1_put_41 : decode cX1_put 41 = .ok (.goto 4, 3) := by decide +kernel
theorem dX1_put_44 : decode cX1_put 44 = .ok (.iconst 1, 1) := by decide +kernel
theorem dX1_put_45 : decode cX1_put 45 = .ok (.invokevirtual 75, 3) := by decide +kernel
theorem dX1_put_48 : decode cX1_put 48 = .ok (.ireturn, 1) := by decide +kernel
theorem dX1_put_49 : decode cX1_put 49 = .ok (.aload_n 0, 1) := by decide +kernel
theorem dX1_put_50 : decode cX1_put 50 = .ok (.getfield 13, 3) := by decide +kernel
theorem dX1_put_53 : decode cX1_put 53 = .ok (.iload_n 1, 1) := by decide +kernel
theorem dX1_put_54 : decode cX1_put 54 = .ok (.iaload, 1) := by decide +kernel
theorem dX1_put_55 : decode cX1_put 55 = .ok (.ifCond .eq 11, 3) := by decide +kernel
theorem dX1_put_58 : decode cX1_put 58 = .ok (.aload_n 0, 1) := by decide +kernel
theorem dX1_put_59 : decode cX1_put 59 = .ok (.iload_n 1, 1) := by decide +kernel
theorem dX1_put_60 : decode cX1_put 60 = .ok (.invokevirtual 86, 3) := by decide +kernel
theorem dX1_put_63 : decode cX1_put 63 = .ok (.ifCond .eq 9, 3) := by decide +kernel
theorem dX1_put_66 : decode cX1_put 66 = .ok (.aload_n 0, 1) := by decide +kernel
theorem dX1_put_67 : decode cX1_put 67 = .ok (.iconst 2, 1) := by decide +kernel
theorem dX1_put_68 : decode cX1_put 68 = .ok (.invokevirtual 75, 3) := by decide +kernel
theorem dX1_put_71 : decode cX1_put 71 = .ok (.ireturn, 1) := by decide +kernel
theorem dX1_put_72 : decode cX1_put 72 = .ok (.aload_n 0, 1) := by decide +kernel
theorem dX1_put_73 : decode cX1_put 73 = .ok (.getfield 7, 3) := by decide +kernel
theorem dX1_put_76 : decode cX1_put 76 = .ok (.iload_n 1, 1) := by decide +kernel
theorem dX1_put_77 : decode cX1_put 77 = .ok (.iaload, 1) := by decide +kernel
theorem dX1_put_78 : decode cX1_put 78 = .ok (.iconst 4, 1) := by decide +kernel
theorem dX1_put_79 : decode cX1_put 79 = .ok (.if_icmp .ge 7, 3) := by decide +kernel
theorem dX1_put_82 : decode cX1_put 82 = .ok (.iconst 0, 1) := by decide +kernel
theorem dX1_put_83 : decode cX1_put 83 = .ok (.goto 9, 3) := by decide +kernel
theorem dX1_put_86 : decode cX1_put 86 = .ok (.aload_n 0, 1) := by decide +kernel
theorem dX1_put_87 : decode cX1_put 87 = .ok (.getfield 7, 3) := by decide +kernel
theorem dX1_put_90 : decode cX1_put 90 = .ok (.iload_n 1, 1) := by decide +kernel
theorem dX1_put_91 : decode cX1_put 91 = .ok (.iaload, 1) := by decide +kernel
theorem dX1_put_92 : decode cX1_put 92 = .ok (.istore 4, 2) := by decide +kernel
theorem dX1_put_94 : decode cX1_put 94 = .ok (.iload_n 3, 1) := by decide +kernel
theorem dX1_put_95 : decode cX1_put 95 = .ok (.iconst (-1), 1) := by decide +kernel
theorem dX1_put_96 : decode cX1_put 96 = .ok (.if_icmp .eq 27, 3) := by decide +kernel
theorem dX1_put_99 : decode cX1_put 99 = .ok (.aload_n 0, 1) := by decide +kernel
theorem dX1_put_100 : decode cX1_put 100 = .ok (.iload_n 3, 1) := by decide +kernel
theorem dX1_put_101 : decode cX1_put 101 = .ok (.iload 4, 2) := by decide +kernel
theorem dX1_put_103 : decode cX1_put 103 = .ok (.aload_n 0, 1) := by decide +kernel
theorem dX1_put_104 : decode cX1_put 104 = .ok (.getfield 13, 3) := by decide +kernel
theorem dX1_put_107 : decode cX1_put 107 = .ok (.iload_n 1, 1) := by decide +kernel
theorem dX1_put_108 : decode cX1_put 108 = .ok (.iaload, 1) := by decide +kernel
theorem dX1_put_109 : decode cX1_put 109 = .ok (.iconst 1, 1) := by decide +kernel
theorem dX1_put_110 : decode cX1_put 110 = .ok (.isub, 1) := by decide +kernel
theorem dX1_put_111 : decode cX1_put 111 = .ok (.invokevirtual 83, 3) := by decide +kernel
theorem dX1_put_114 : decode cX1_put 114 = .ok (.ifCond .ne 9, 3) := by decide +kernel
theorem dX1_put_117 : decode cX1_put 117 = .ok (.aload_n 0, 1) := by decide +kernel
theorem dX1_put_118 : decode cX1_put 118 = .ok (.iconst 2, 1) := by decide +kernel
theorem dX1_put_119 : decode cX1_put 119 = .ok (.invokevirtual 75, 3) := by decide +kernel
theorem dX1_put_122 : decode cX1_put 122 = .ok (.ireturn, 1) := by decide +kernel
theorem dX1_put_123 : decode cX1_put 123 = .ok (.iload_n 2, 1) := by decide +kernel
theorem dX1_put_124 : decode cX1_put 124 = .ok (.iconst 0, 1) := by decide +kernel
theorem dX1_put_125 : decode cX1_put 125 = .ok (.aload_n 0, 1) := by decide +kernel
theorem dX1_put_126 : decode cX1_put 126 = .ok (.getfield 16, 3) := by decide +kernel
theorem dX1_put_129 : decode cX1_put 129 = .ok (.iload_n 1, 1) := by decide +kernel
theorem dX1_put_130 : decode cX1_put 130 = .ok (.iaload, 1) := by decide +kernel
theorem dX1_put_131 : decode cX1_put 131 = .ok (.iconst 1, 1) := by decide +kernel
theorem dX1_put_132 : decode cX1_put 132 = .ok (.isub, 1) := by decide +kernel
theorem dX1_put_133 : decode cX1_put 133 = .ok (.invokestatic 60, 3) := by decide +kernel
theorem dX1_put_136 : decode cX1_put 136 = .ok (.ifCond .ne 9, 3) := by decide +kernel
theorem dX1_put_139 : decode cX1_put 139 = .ok (.aload_n 0, 1) := by decide +kernel
theorem dX1_put_140 : decode cX1_put 140 = .ok (.iconst 3, 1) := by decide +kernel
theorem dX1_put_141 : decode cX1_put 141 = .ok (.invokevirtual 75, 3) := by decide +kernel
theorem dX1_put_144 : decode cX1_put 144 = .ok (.ireturn, 1) := by decide +kernel
theorem dX1_put_145 : decode cX1_put 145 = .ok (.iload_n 3, 1) := by decide +kernel
theorem dX1_put_146 : decode cX1_put 146 = .ok (.iconst (-1), 1) := by decide +kernel
theorem dX1_put_147 : decode cX1_put 147 = .ok (.if_icmp .eq 31, 3) := by decide +kernel
theorem dX1_put_150 : decode cX1_put 150 = .ok (.aload_n 0, 1) := by decide +kernel
theorem dX1_put_151 : decode cX1_put 151 = .ok (.iload_n 3, 1) := by decide +kernel
theorem dX1_put_152 : decode cX1_put 152 = .ok (.aload_n 0, 1) := by decide +kernel
theorem dX1_put_153 : decode cX1_put 153 = .ok (.getfield 7, 3) := by decide +kernel
theorem dX1_put_156 : decode cX1_put 156 = .ok (.iload_n 1, 1) := by decide +kernel
theorem dX1_put_157 : decode cX1_put 157 = .ok (.iaload, 1) := by decide +kernel
theorem dX1_put_158 : decode cX1_put 158 = .ok (.aload_n 0, 1) := by decide +kernel
theorem dX1_put_159 : decode cX1_put 159 = .ok (.getfield 13, 3) := by decide +kernel
theorem dX1_put_162 : decode cX1_put 162 = .ok (.iload_n 1, 1) := by decide +kernel
theorem dX1_put_163 : decode cX1_put 163 = .ok (.iaload, 1) := by decide +kernel
theorem dX1_put_164 : decode cX1_put 164 = .ok (.iconst 1, 1) := by decide +kernel
theorem dX1_put_165 : decode cX1_put 165 = .ok (.isub, 1) := by decide +kernel
theorem dX1_put_166 : decode cX1_put 166 = .ok (.invokevirtual 83, 3) := by decide +kernel
theorem dX1_put_169 : decode cX1_put 169 = .ok (.ifCond .ne 9, 3) := by decide +kernel
theorem dX1_put_172 : decode cX1_put 172 = .ok (.aload_n 0, 1) := by decide +kernel
theorem dX1_put_173 : decode cX1_put 173 = .ok (.iconst 4, 1) := by decide +kernel
theorem dX1_put_174 : decode cX1_put 174 = .ok (.invokevirtual 75, 3) := by decide +kernel
theorem dX1_put_177 : decode cX1_put 177 = .ok (.ireturn, 1) := by decide +kernel
theorem dX1_put_178 : decode cX1_put 178 = .ok (.aload_n 0, 1) := by decide +kernel
theorem dX1_put_179 : decode cX1_put 179 = .ok (.getfield 22, 3) := by decide +kernel
theorem dX1_put_182 : decode cX1_put 182 = .ok (.bipush 8, 2) := by decide +kernel
theorem dX1_put_184 : decode cX1_put 184 = .ok (.iload_n 1, 1) := by decide +kernel
theorem dX1_put_185 : decode cX1_put 185 = .ok (.imul, 1) := by decide +kernel
theorem dX1_put_186 : decode cX1_put 186 = .ok (.iload_n 2, 1) := by decide +kernel
theorem dX1_put_187 : decode cX1_put 187 = .ok (.iadd, 1) := by decide +kernel
theorem dX1_put_188 : decode cX1_put 188 = .ok (.iload_n 3, 1) := by decide +kernel
theorem dX1_put_189 : decode cX1_put 189 = .ok (.iastore, 1) := by decide +kernel
theorem dX1_put_190 : decode cX1_put 190 = .ok (.iconst 1, 1) := by decide +kernel
theorem dX1_put_191 : decode cX1_put 191 = .ok (.ireturn, 1) := by decide +kernel
theorem dX1_get_0 : decode cX1_get 0 = .ok (.aload_n 0, 1) := by decide +kernel
theorem dX1_get_1 : decode cX1_get 1 = .ok (.iload_n 1, 1) := by decide +kernel
theorem dX1_get_2 : decode cX1_get 2 = .ok (.invokevirtual 79, 3) := by decide +kernel
theorem dX1_get_5 : decode cX1_get 5 = .ok (.ifCond .ne 6, 3) := by decide +kernel
theorem dX1_get_8 : decode cX1_get 8 = .ok (.bipush (-2), 2) := by decide +kernel
theorem dX1_get_10 : decode cX1_get 10 = .ok (.ireturn, 1) := by decide +kernel
theorem dX1_get_11 : decode cX1_get 11 = .ok (.iload_n 1, 1) := by decide +kernel
theorem dX1_get_12 : decode cX1_get 12 = .ok (.iconst (-1), 1) := by decide +kernel
theorem dX1_get_13 : decode cX1_get 13 = .ok (.if_icmp .ne 9, 3) := by decide +kernel
theorem dX1_get_16 : decode cX1_get 16 = .ok (.aload_n 0, 1) := by decide +kernel
theorem dX1_get_17 : decode cX1_get 17 = .ok (.iconst 1, 1) := by decide +kernel
theorem dX1_get_18 : decode cX1_get 18 = .ok (.invokevirtual 75, 3) := by decide +kernel
theorem dX1_get_21 : decode cX1_get 21 = .ok (.ireturn, 1) := by decide +kernel
theorem dX1_get_22 : decode cX1_get 22 = .ok (.aload_n 0, 1) := by decide +kernel
theorem dX1_get_23 : decode cX1_get 23 = .ok (.getfield 13, 3) := by decide +kernel
theorem dX1_get_26 : decode cX1_get 26 = .ok (.iload_n 1, 1) := by decide +kernel
theorem dX1_get_27 : decode cX1_get 27 = .ok (.iaload, 1) := by decide +kernel
theorem dX1_get_28 : decode cX1_get 28 = .ok (.ifCond .eq 11, 3) := by decide +kernel
theorem dX1_get_31 : decode cX1_get 31 = .ok (.aload_n 0, 1) := by decide +kernel
theorem dX1_get_32 : decode cX1_get 32 = .ok (.iload_n 1, 1) := by decide +kernel
theorem dX1_get_33 : decode cX1_get 33 = .ok (.invokevirtual 86, 3) := by decide +kernel
theorem dX1_get_36 : decode cX1_get 36 = .ok (.ifCond .eq 9, 3) := by decide +kernel
theorem dX1_get_39 : decode cX1_get 39 = .ok (.aload_n 0, 1) := by decide +kernel
theorem dX1_get_40 : decode cX1_get 40 = .ok (.iconst 2, 1) := by decide +kernel
theorem dX1_get_41 : decode cX1_get 41 = .ok (.invokevirtual 75, 3) := by decide +kernel
theorem dX1_get_44 : decode cX1_get 44 = .ok (.ireturn, 1) := by decide +kernel
theorem dX1_get_45 : decode cX1_get 45 = .ok (.iload_n 2, 1) := by decide +kernel
theorem dX1_get_46 : decode cX1_get 46 = .ok (.iconst 0, 1) := by decide +kernel
theorem dX1_get_47 : decode cX1_get 47 = .ok (.aload_n 0, 1) := by decide +kernel
theorem dX1_get_48 : decode cX1_get 48 = .ok (.getfield 16, 3) := by decide +kernel
theorem dX1_get_51 : decode cX1_get 51 = .ok (.iload_n 1, 1) := by decide +kernel
theorem dX1_get_52 : decode cX1_get 52 = .ok (.iaload, 1) := by decide +kernel
theorem dX1_get_53 : decode cX1_get 53 = .ok (.iconst 1, 1) := by decide +kernel
theorem dX1_get_54 : decode cX1_get 54 = .ok (.isub, 1) := by decide +kernel
theorem dX1_get_55 : decode cX1_get 55 = .ok (.invokestatic 60, 3) := by decide +kernel
theorem dX1_get_58 : decode cX1_get 58 = .ok (.ifCond .eq 17, 3) := by decide +kernel
theorem dX1_get_61 : decode cX1_get 61 = .ok (.aload_n 0, 1) := by decide +kernel
theorem dX1_get_62 : decode cX1_get 62 = .ok (.getfield 22, 3) := by decide +kernel
theorem dX1_get_65 : decode cX1_get 65 = .ok (.bipush 8, 2) := by decide +kernel
theorem dX1_get_67 : decode cX1_get 67 = .ok (.iload_n 1, 1) := by decide +kernel
theorem dX1_get_68 : decode cX1_get 68 = .ok (.imul, 1) := by decide +kernel
theorem dX1_get_69 : decode cX1_get 69 = .ok (.iload_n 2, 1) := by decide +kernel
theorem dX1_get_70 : decode cX1_get 70 = .ok (.iadd, 1) := by decide +kernel
theorem dX1_get_71 : decode cX1_get 71 = .ok (.iaload, 1) := by decide +kernel
theorem dX1_get_72 : decode cX1_get 72 = .ok (.goto 8, 3) := by decide +kernel
theorem dX1_get_75 : decode cX1_get 75 = .ok (.aload_n 0, 1) := by decide +kernel
theorem dX1_get_76 : decode cX1_get 76 = .ok (.iconst 3, 1) := by decide +kernel
theorem dX1_get_77 : decode cX1_get 77 = .ok (.invokevirtual 75, 3) := by decide +kernel
theorem dX1_get_80 : decode cX1_get 80 = .ok (.ireturn, 1) := by decide +kernel
theorem dX1_refused_0 : decode cX1_refused 0 = .ok (.iload_n 1, 1) := by decide +kernel
theorem dX1_refused_1 : decode cX1_refused 1 = .ok (.iconst (-1), 1) := by decide +kernel
theorem dX1_refused_2 : decode cX1_refused 2 = .ok (.if_icmp .ne 5, 3) := by decide +kernel
theorem dX1_refused_5 : decode cX1_refused 5 = .ok (.iconst 1, 1) := by decide +kernel
theorem dX1_refused_6 : decode cX1_refused 6 = .ok (.ireturn, 1) := by decide +kernel
theorem dX1_refused_7 : decode cX1_refused 7 = .ok (.aload_n 0, 1) := by decide +kernel
theorem dX1_refused_8 : decode cX1_refused 8 = .ok (.iload_n 1, 1) := by decide +kernel
theorem dX1_refused_9 : decode cX1_refused 9 = .ok (.invokevirtual 86, 3) := by decide +kernel
theorem dX1_refused_12 : decode cX1_refused 12 = .ok (.ifCond .ne 7, 3) := by decide +kernel
theorem dX1_refused_15 : decode cX1_refused 15 = .ok (.iconst 2, 1) := by decide +kernel
theorem dX1_refused_16 : decode cX1_refused 16 = .ok (.goto 24, 3) := by decide +kernel
theorem dX1_refused_19 : decode cX1_refused 19 = .ok (.iload_n 2, 1) := by decide +kernel
theorem dX1_refused_20 : decode cX1_refused 20 = .ok (.iconst 0, 1) := by decide +kernel
theorem dX1_refused_21 : decode cX1_refused 21 = .ok (.aload_n 0, 1) := by decide +kernel
theorem dX1_refused_22 : decode cX1_refused 22 = .ok (.getfield 16, 3) := by decide +kernel
theorem dX1_refused_25 : decode cX1_refused 25 = .ok (.iload_n 1, 1) := by decide +kernel
theorem dX1_refused_26 : decode cX1_refused 26 = .ok (.iaload, 1) := by decide +kernel
theorem dX1_refused_27 : decode cX1_refused 27 = .ok (.iconst 1, 1) := by decide +kernel
theorem dX1_refused_28 : decode cX1_refused 28 = .ok (.isub, 1) := by decide +kernel
theorem dX1_refused_29 : decode cX1_refused 29 = .ok (.invokestatic 60, 3) := by decide +kernel
theorem dX1_refused_32 : decode cX1_refused 32 = .ok (.ifCond .eq 7, 3) := by decide +kernel
theorem dX1_refused_35 : decode cX1_refused 35 = .ok (.iconst 0, 1) := by decide +kernel
theorem dX1_refused_36 : decode cX1_refused 36 = .ok (.goto 4, 3) := by decide +kernel
theorem dX1_refused_39 : decode cX1_refused 39 = .ok (.iconst 3, 1) := by decide +kernel
theorem dX1_refused_40 : decode cX1_refused 40 = .ok (.ireturn, 1) := by decide +kernel
theorem dX1_set_0 : decode cX1_set 0 = .ok (.aload_n 0, 1) := by decide +kernel
theorem dX1_set_1 : decode cX1_set 1 = .ok (.iload_n 1, 1) := by decide +kernel
theorem dX1_set_2 : decode cX1_set 2 = .ok (.invokevirtual 79, 3) := by decide +kernel
theorem dX1_set_5 : decode cX1_set 5 = .ok (.ifCond .ne 6, 3) := by decide +kernel
theorem dX1_set_8 : decode cX1_set 8 = .ok (.bipush (-2), 2) := by decide +kernel
theorem dX1_set_10 : decode cX1_set 10 = .ok (.ireturn, 1) := by decide +kernel
theorem dX1_set_11 : decode cX1_set 11 = .ok (.aload_n 0, 1) := by decide +kernel
theorem dX1_set_12 : decode cX1_set 12 = .ok (.iload_n 1, 1) := by decide +kernel
theorem dX1_set_13 : decode cX1_set 13 = .ok (.iload_n 2, 1) := by decide +kernel
theorem dX1_set_14 : decode cX1_set 14 = .ok (.invokevirtual 89, 3) := by decide +kernel
theorem dX1_set_17 : decode cX1_set 17 = .ok (.istore 5, 2) := by decide +kernel
theorem dX1_set_19 : decode cX1_set 19 = .ok (.iload 5, 2) := by decide +kernel
theorem dX1_set_21 : decode cX1_set 21 = .ok (.ifCond .le 10, 3) := by decide +kernel
theorem dX1_set_24 : decode cX1_set 24 = .ok (.aload_n 0, 1) := by decide +kernel
theorem dX1_set_25 : decode cX1_set 25 = .ok (.iload 5, 2) := by decide +kernel
theorem dX1_set_27 : decode cX1_set 27 = .ok (.invokevirtual 75, 3) := by decide +kernel
theorem dX1_set_30 : decode cX1_set 30 = .ok (.ireturn, 1) := by decide +kernel
theorem dX1_set_31 : decode cX1_set 31 = .ok (.aload_n 0, 1) := by decide +kernel
theorem dX1_set_32 : decode cX1_set 32 = .ok (.getfield 25, 3) := by decide +kernel
theorem dX1_set_35 : decode cX1_set 35 = .ok (.bipush 8, 2) := by decide +kernel
theorem dX1_set_37 : decode cX1_set 37 = .ok (.iload_n 1, 1) := by decide +kernel
theorem dX1_set_38 : decode cX1_set 38 = .ok (.imul, 1) := by decide +kernel
theorem dX1_set_39 : decode cX1_set 39 = .ok (.iload_n 2, 1) := by decide +kernel
theorem dX1_set_40 : decode cX1_set 40 = .ok (.iadd, 1) := by decide +kernel
theorem dX1_set_41 : decode cX1_set 41 = .ok (.aload_n 0, 1) := by decide +kernel
theorem dX1_set_42 : decode cX1_set 42 = .ok (.getfield 7, 3) := by decide +kernel
theorem dX1_set_45 : decode cX1_set 45 = .ok (.iload_n 1, 1) := by decide +kernel
theorem dX1_set_46 : decode cX1_set 46 = .ok (.iaload, 1) := by decide +kernel
theorem dX1_set_47 : decode cX1_set 47 = .ok (.iconst 5, 1) := by decide +kernel
theorem dX1_set_48 : decode cX1_set 48 = .ok (.if_icmp .ne 9, 3) := by decide +kernel
theorem dX1_set_51 : decode cX1_set 51 = .ok (.lload_n 3, 1) := by decide +kernel
theorem dX1_set_52 : decode cX1_set 52 = .ok (.l2i, 1) := by decide +kernel
theorem dX1_set_53 : decode cX1_set 53 = .ok (.i2l, 1) := by decide +kernel
theorem dX1_set_54 : decode cX1_set 54 = .ok (.goto 4, 3) := by decide +kernel
theorem dX1_set_57 : decode cX1_set 57 = .ok (.lload_n 3, 1) := by decide +kernel
theorem dX1_set_58 : decode cX1_set 58 = .ok (.lastore, 1) := by decide +kernel
theorem dX1_set_59 : decode cX1_set 59 = .ok (.iconst 1, 1) := by decide +kernel
theorem dX1_set_60 : decode cX1_set 60 = .ok (.ireturn, 1) := by decide +kernel
theorem dX1_number_0 : decode cX1_number 0 = .ok (.aload_n 0, 1) := by decide +kernel
theorem dX1_number_1 : decode cX1_number 1 = .ok (.iload_n 1, 1) := by decide +kernel
theorem dX1_number_2 : decode cX1_number 2 = .ok (.invokevirtual 79, 3) := by decide +kernel
theorem dX1_number_5 : decode cX1_number 5 = .ok (.ifCond .eq 26, 3) := by decide +kernel
theorem dX1_number_8 : decode cX1_number 8 = .ok (.aload_n 0, 1) := by decide +kernel
theorem dX1_number_9 : decode cX1_number 9 = .ok (.iload_n 1, 1) := by decide +kernel
theorem dX1_number_10 : decode cX1_number 10 = .ok (.iload_n 2, 1) := by decide +kernel
theorem dX1_number_11 : decode cX1_number 11 = .ok (.invokevirtual 89, 3) := by decide +kernel
theorem dX1_number_14 : decode cX1_number 14 = .ok (.ifCond .ne 17, 3) := by decide +kernel
theorem dX1_number_17 : decode cX1_number 17 = .ok (.aload_n 0, 1) := by decide +kernel
theorem dX1_number_18 : decode cX1_number 18 = .ok (.getfield 25, 3) := by decide +kernel
theorem dX1_number_21 : decode cX1_number 21 = .ok (.bipush 8, 2) := by decide +kernel
theorem dX1_number_23 : decode cX1_number 23 = .ok (.iload_n 1, 1) := by decide +kernel
theorem dX1_number_24 : decode cX1_number 24 = .ok (.imul, 1) := by decide +kernel
theorem dX1_number_25 : decode cX1_number 25 = .ok (.iload_n 2, 1) := by decide +kernel
theorem dX1_number_26 : decode cX1_number 26 = .ok (.iadd, 1) := by decide +kernel
theorem dX1_number_27 : decode cX1_number 27 = .ok (.laload, 1) := by decide +kernel
theorem dX1_number_28 : decode cX1_number 28 = .ok (.goto 4, 3) := by decide +kernel
theorem dX1_number_31 : decode cX1_number 31 = .ok (.lconst 0, 1) := by decide +kernel
theorem dX1_number_32 : decode cX1_number 32 = .ok (.lreturn, 1) := by decide +kernel
theorem dX1_isAsked_0 : decode cX1_isAsked 0 = .ok (.iload_n 0, 1) := by decide +kernel
theorem dX1_isAsked_1 : decode cX1_isAsked 1 = .ok (.iconst 0, 1) := by decide +kernel
theorem dX1_isAsked_2 : decode cX1_isAsked 2 = .ok (.bipush 6, 2) := by decide +kernel
theorem dX1_isAsked_4 : decode cX1_isAsked 4 = .ok (.invokestatic 60, 3) := by decide +kernel
theorem dX1_isAsked_7 : decode cX1_isAsked 7 = .ok (.ifCond .eq 30, 3) := by decide +kernel
theorem dX1_isAsked_10 : decode cX1_isAsked 10 = .ok (.iload_n 1, 1) := by decide +kernel
theorem dX1_isAsked_11 : decode cX1_isAsked 11 = .ok (.iconst 0, 1) := by decide +kernel
theorem dX1_isAsked_12 : decode cX1_isAsked 12 = .ok (.iconst 3, 1) := by decide +kernel
theorem dX1_isAsked_13 : decode cX1_isAsked 13 = .ok (.invokestatic 60, 3) := by decide +kernel
theorem dX1_isAsked_16 : decode cX1_isAsked 16 = .ok (.ifCond .eq 21, 3) := by decide +kernel
theorem dX1_isAsked_19 : decode cX1_isAsked 19 = .ok (.iload_n 0, 1) := by decide +kernel
theorem dX1_isAsked_20 : decode cX1_isAsked 20 = .ok (.iconst 4, 1) := by decide +kernel
theorem dX1_isAsked_21 : decode cX1_isAsked 21 = .ok (.if_icmp .le 12, 3) := by decide +kernel
theorem dX1_isAsked_24 : decode cX1_isAsked 24 = .ok (.iload_n 1, 1) := by decide +kernel
theorem dX1_isAsked_25 : decode cX1_isAsked 25 = .ok (.iconst 1, 1) := by decide +kernel
theorem dX1_isAsked_26 : decode cX1_isAsked 26 = .ok (.iconst 2, 1) := by decide +kernel
theorem dX1_isAsked_27 : decode cX1_isAsked 27 = .ok (.invokestatic 60, 3) := by decide +kernel
theorem dX1_isAsked_30 : decode cX1_isAsked 30 = .ok (.ifCond .eq 7, 3) := by decide +kernel
theorem dX1_isAsked_33 : decode cX1_isAsked 33 = .ok (.iconst 1, 1) := by decide +kernel
theorem dX1_isAsked_34 : decode cX1_isAsked 34 = .ok (.goto 4, 3) := by decide +kernel
theorem dX1_isAsked_37 : decode cX1_isAsked 37 = .ok (.iconst 0, 1) := by decide +kernel
theorem dX1_isAsked_38 : decode cX1_isAsked 38 = .ok (.ireturn, 1) := by decide +kernel
theorem dX1_is_0 : decode cX1_is 0 = .ok (.aload_n 0, 1) := by decide +kernel
theorem dX1_is_1 : decode cX1_is 1 = .ok (.iload_n 1, 1) := by decide +kernel
theorem dX1_is_2 : decode cX1_is 2 = .ok (.invokevirtual 79, 3) := by decide +kernel
theorem dX1_is_5 : decode cX1_is 5 = .ok (.ifCond .eq 11, 3) := by decide +kernel
theorem dX1_is_8 : decode cX1_is 8 = .ok (.iload_n 2, 1) := by decide +kernel
theorem dX1_is_9 : decode cX1_is 9 = .ok (.iload_n 3, 1) := by decide +kernel
theorem dX1_is_10 : decode cX1_is 10 = .ok (.invokestatic 93, 3) := by decide +kernel
theorem dX1_is_13 : decode cX1_is 13 = .ok (.ifCond .ne 6, 3) := by decide +kernel
theorem dX1_is_16 : decode cX1_is 16 = .ok (.bipush (-2), 2) := by decide +kernel
theorem dX1_is_18 : decode cX1_is 18 = .ok (.ireturn, 1) := by decide +kernel
theorem dX1_is_19 : decode cX1_is 19 = .ok (.aload_n 0, 1) := by decide +kernel
theorem dX1_is_20 : decode cX1_is 20 = .ok (.iload_n 1, 1) := by decide +kernel
theorem dX1_is_21 : decode cX1_is 21 = .ok (.iload_n 2, 1) := by decide +kernel
theorem dX1_is_22 : decode cX1_is 22 = .ok (.iload_n 3, 1) := by decide +kernel
theorem dX1_is_23 : decode cX1_is 23 = .ok (.invokevirtual 83, 3) := by decide +kernel
theorem dX1_is_26 : decode cX1_is 26 = .ok (.ifCond .eq 7, 3) := by decide +kernel
theorem dX1_is_29 : decode cX1_is 29 = .ok (.iconst 1, 1) := by decide +kernel
theorem dX1_is_30 : decode cX1_is 30 = .ok (.goto 4, 3) := by decide +kernel
theorem dX1_is_33 : decode cX1_is 33 = .ok (.iconst 0, 1) := by decide +kernel
theorem dX1_is_34 : decode cX1_is 34 = .ok (.ireturn, 1) := by decide +kernel
theorem dX1_door_0 : decode cX1_door 0 = .ok (.iload_n 1, 1) := by decide +kernel
theorem dX1_door_1 : decode cX1_door 1 = .ok (.iconst 0, 1) := by decide +kernel
theorem dX1_door_2 : decode cX1_door 2 = .ok (.bipush 7, 2) := by decide +kernel
theorem dX1_door_4 : decode cX1_door 4 = .ok (.invokestatic 60, 3) := by decide +kernel
theorem dX1_door_7 : decode cX1_door 7 = .ok (.ifCond .eq 11, 3) := by decide +kernel
theorem dX1_door_10 : decode cX1_door 10 = .ok (.iload_n 2, 1) := by decide +kernel
theorem dX1_door_11 : decode cX1_door 11 = .ok (.iload_n 3, 1) := by decide +kernel
theorem dX1_door_12 : decode cX1_door 12 = .ok (.invokestatic 93, 3) := by decide +kernel
theorem dX1_door_15 : decode cX1_door 15 = .ok (.ifCond .ne 6, 3) := by decide +kernel
theorem dX1_door_18 : decode cX1_door 18 = .ok (.bipush (-2), 2) := by decide +kernel
theorem dX1_door_20 : decode cX1_door 20 = .ok (.ireturn, 1) := by decide +kernel
theorem dX1_door_21 : decode cX1_door 21 = .ok (.aload_n 0, 1) := by decide +kernel
theorem dX1_door_22 : decode cX1_door 22 = .ok (.getfield 29, 3) := by decide +kernel
theorem dX1_door_25 : decode cX1_door 25 = .ok (.iload_n 1, 1) := by decide +kernel
theorem dX1_door_26 : decode cX1_door 26 = .ok (.iload_n 2, 1) := by decide +kernel
theorem dX1_door_27 : decode cX1_door 27 = .ok (.iastore, 1) := by decide +kernel
theorem dX1_door_28 : decode cX1_door 28 = .ok (.aload_n 0, 1) := by decide +kernel
theorem dX1_door_29 : decode cX1_door 29 = .ok (.getfield 32, 3) := by decide +kernel
theorem dX1_door_32 : decode cX1_door 32 = .ok (.iload_n 1, 1) := by decide +kernel
theorem dX1_door_33 : decode cX1_door 33 = .ok (.iload_n 3, 1) := by decide +kernel
theorem dX1_door_34 : decode cX1_door 34 = .ok (.iastore, 1) := by decide +kernel
theorem dX1_door_35 : decode cX1_door 35 = .ok (.iconst 1, 1) := by decide +kernel
theorem dX1_door_36 : decode cX1_door 36 = .ok (.ireturn, 1) := by decide +kernel
theorem dX1_through_0 : decode cX1_through 0 = .ok (.aload_n 0, 1) := by decide +kernel
theorem dX1_through_1 : decode cX1_through 1 = .ok (.iload_n 1, 1) := by decide +kernel
theorem dX1_through_2 : decode cX1_through 2 = .ok (.invokevirtual 79, 3) := by decide +kernel
theorem dX1_through_5 : decode cX1_through 5 = .ok (.ifCond .eq 25, 3) := by decide +kernel
theorem dX1_through_8 : decode cX1_through 8 = .ok (.iload_n 2, 1) := by decide +kernel
theorem dX1_through_9 : decode cX1_through 9 = .ok (.iconst 0, 1) := by decide +kernel
theorem dX1_through_10 : decode cX1_through 10 = .ok (.bipush 7, 2) := by decide +kernel
theorem dX1_through_12 : decode cX1_through 12 = .ok (.invokestatic 60, 3) := by decide +kernel
theorem dX1_through_15 : decode cX1_through 15 = .ok (.ifCond .eq 15, 3) := by decide +kernel
theorem dX1_through_18 : decode cX1_through 18 = .ok (.iload_n 3, 1) := by decide +kernel
theorem dX1_through_19 : decode cX1_through 19 = .ok (.iconst 0, 1) := by decide +kernel
theorem dX1_through_20 : decode cX1_through 20 = .ok (.bipush 8, 2) := by decide +kernel
theorem dX1_through_22 : decode cX1_through 22 = .ok (.iload_n 2, 1) := by decide +kernel
theorem dX1_through_23 : decode cX1_through 23 = .ok (.isub, 1) := by decide +kernel
theorem dX1_through_24 : decode cX1_through 24 = .ok (.invokestatic 60, 3) := by decide +kernel
theorem dX1_through_27 : decode cX1_through 27 = .ok (.ifCond .ne 6, 3) := by decide +kernel
theorem dX1_through_30 : decode cX1_through 30 = .ok (.bipush (-2), 2) := by decide +kernel
theorem dX1_through_32 : decode cX1_through 32 = .ok (.ireturn, 1) := by decide +kernel
theorem dX1_through_33 : decode cX1_through 33 = .ok (.aload_n 0, 1) := by decide +kernel
theorem dX1_through_34 : decode cX1_through 34 = .ok (.iconst (-1), 1) := by decide +kernel
theorem dX1_through_35 : decode cX1_through 35 = .ok (.putfield 35, 3) := by decide +kernel
theorem dX1_through_38 : decode cX1_through 38 = .ok (.iload_n 2, 1) := by decide +kernel
theorem dX1_through_39 : decode cX1_through 39 = .ok (.istore 4, 2) := by decide +kernel
theorem dX1_through_41 : decode cX1_through 41 = .ok (.iload 4, 2) := by decide +kernel
theorem dX1_through_43 : decode cX1_through 43 = .ok (.iload_n 2, 1) := by decide +kernel
theorem dX1_through_44 : decode cX1_through 44 = .ok (.iload_n 3, 1) := by decide +kernel
theorem dX1_through_45 : decode cX1_through 45 = .ok (.iadd, 1) := by decide +kernel
theorem dX1_through_46 : decode cX1_through 46 = .ok (.if_icmp .ge 54, 3) := by decide +kernel
theorem dX1_through_49 : decode cX1_through 49 = .ok (.aload_n 0, 1) := by decide +kernel
theorem dX1_through_50 : decode cX1_through 50 = .ok (.getfield 35, 3) := by decide +kernel
theorem dX1_through_53 : decode cX1_through 53 = .ok (.iconst (-1), 1) := by decide +kernel
theorem dX1_through_54 : decode cX1_through 54 = .ok (.if_icmp .ne 46, 3) := by decide +kernel
theorem dX1_through_57 : decode cX1_through 57 = .ok (.aload_n 0, 1) := by decide +kernel
theorem dX1_through_58 : decode cX1_through 58 = .ok (.iload_n 1, 1) := by decide +kernel
theorem dX1_through_59 : decode cX1_through 59 = .ok (.iconst (-1), 1) := by decide +kernel
theorem dX1_through_60 : decode cX1_through 60 = .ok (.if_icmp .eq 25, 3) := by decide +kernel
theorem dX1_through_63 : decode cX1_through 63 = .ok (.aload_n 0, 1) := by decide +kernel
theorem dX1_through_64 : decode cX1_through 64 = .ok (.iload_n 1, 1) := by decide +kernel
theorem dX1_through_65 : decode cX1_through 65 = .ok (.aload_n 0, 1) := by decide +kernel
theorem dX1_through_66 : decode cX1_through 66 = .ok (.getfield 29, 3) := by decide +kernel
theorem dX1_through_69 : decode cX1_through 69 = .ok (.iload 4, 2) := by decide +kernel
theorem dX1_through_71 : decode cX1_through 71 = .ok (.iaload, 1) := by decide +kernel
theorem dX1_through_72 : decode cX1_through 72 = .ok (.aload_n 0, 1) := by decide +kernel
theorem dX1_through_73 : decode cX1_through 73 = .ok (.getfield 32, 3) := by decide +kernel
theorem dX1_through_76 : decode cX1_through 76 = .ok (.iload 4, 2) := by decide +kernel
theorem dX1_through_78 : decode cX1_through 78 = .ok (.iaload, 1) := by decide +kernel
theorem dX1_through_79 : decode cX1_through 79 = .ok (.invokevirtual 83, 3) := by decide +kernel
theorem dX1_through_82 : decode cX1_through 82 = .ok (.ifCond .eq 7, 3) := by decide +kernel
theorem dX1_through_85 : decode cX1_through 85 = .ok (.iconst (-1), 1) := by decide +kernel
theorem dX1_through_86 : decode cX1_through 86 = .ok (.goto 5, 3) := by decide +kernel
theorem dX1_through_89 : decode cX1_through 89 = .ok (.iload 4, 2) := by decide +kernel
theorem dX1_through_91 : decode cX1_through 91 = .ok (.putfield 35, 3) := by decide +kernel
theorem dX1_through_94 : decode cX1_through 94 = .ok (.iinc 4 1, 3) := by decide +kernel
theorem dX1_through_97 : decode cX1_through 97 = .ok (.goto (-56), 3) := by decide +kernel
theorem dX1_through_100 : decode cX1_through 100 = .ok (.aload_n 0, 1) := by decide +kernel
theorem dX1_through_101 : decode cX1_through 101 = .ok (.getfield 35, 3) := by decide +kernel
theorem dX1_through_104 : decode cX1_through 104 = .ok (.iconst (-1), 1) := by decide +kernel
theorem dX1_through_105 : decode cX1_through 105 = .ok (.if_icmp .ne 7, 3) := by decide +kernel
theorem dX1_through_108 : decode cX1_through 108 = .ok (.iconst 1, 1) := by decide +kernel
theorem dX1_through_109 : decode cX1_through 109 = .ok (.goto 8, 3) := by decide +kernel
theorem dX1_through_112 : decode cX1_through 112 = .ok (.aload_n 0, 1) := by decide +kernel
theorem dX1_through_113 : decode cX1_through 113 = .ok (.iconst 2, 1) := by decide +kernel
theorem dX1_through_114 : decode cX1_through 114 = .ok (.invokevirtual 75, 3) := by decide +kernel
theorem dX1_through_117 : decode cX1_through 117 = .ok (.ireturn, 1) := by decide +kernel
theorem dX1_lastDoor_0 : decode cX1_lastDoor 0 = .ok (.aload_n 0, 1) := by decide +kernel
theorem dX1_lastDoor_1 : decode cX1_lastDoor 1 = .ok (.getfield 35, 3) := by decide +kernel
theorem dX1_lastDoor_4 : decode cX1_lastDoor 4 = .ok (.ireturn, 1) := by decide +kernel
theorem dX1_addUp_0 : decode cX1_addUp 0 = .ok (.iconst 0, 1) := by decide +kernel
theorem dX1_addUp_1 : decode cX1_addUp 1 = .ok (.istore_n 1, 1) := by decide +kernel
theorem dX1_addUp_2 : decode cX1_addUp 2 = .ok (.iload_n 1, 1) := by decide +kernel
theorem dX1_addUp_3 : decode cX1_addUp 3 = .ok (.iconst 4, 1) := by decide +kernel
theorem dX1_addUp_4 : decode cX1_addUp 4 = .ok (.if_icmp .ge 40, 3) := by decide +kernel
theorem dX1_addUp_7 : decode cX1_addUp 7 = .ok (.iconst 0, 1) := by decide +kernel
theorem dX1_addUp_8 : decode cX1_addUp 8 = .ok (.istore_n 2, 1) := by decide +kernel
theorem dX1_addUp_9 : decode cX1_addUp 9 = .ok (.iload_n 2, 1) := by decide +kernel
theorem dX1_addUp_10 : decode cX1_addUp 10 = .ok (.aload_n 0, 1) := by decide +kernel
theorem dX1_addUp_11 : decode cX1_addUp 11 = .ok (.getfield 57, 3) := by decide +kernel
theorem dX1_addUp_14 : decode cX1_addUp 14 = .ok (.if_icmp .ge 24, 3) := by decide +kernel
theorem dX1_addUp_17 : decode cX1_addUp 17 = .ok (.aload_n 0, 1) := by decide +kernel
theorem dX1_addUp_18 : decode cX1_addUp 18 = .ok (.getfield 13, 3) := by decide +kernel
theorem dX1_addUp_21 : decode cX1_addUp 21 = .ok (.iload_n 2, 1) := by decide +kernel
theorem dX1_addUp_22 : decode cX1_addUp 22 = .ok (.iaload, 1) := by decide +kernel
theorem dX1_addUp_23 : decode cX1_addUp 23 = .ok (.iload_n 1, 1) := by decide +kernel
theorem dX1_addUp_24 : decode cX1_addUp 24 = .ok (.if_icmp .ne 8, 3) := by decide +kernel
theorem dX1_addUp_27 : decode cX1_addUp 27 = .ok (.aload_n 0, 1) := by decide +kernel
theorem dX1_addUp_28 : decode cX1_addUp 28 = .ok (.iload_n 2, 1) := by decide +kernel
theorem dX1_addUp_29 : decode cX1_addUp 29 = .ok (.invokevirtual 96, 3) := by decide +kernel
theorem dX1_addUp_32 : decode cX1_addUp 32 = .ok (.iinc 2 1, 3) := by decide +kernel
theorem dX1_addUp_35 : decode cX1_addUp 35 = .ok (.goto (-26), 3) := by decide +kernel
theorem dX1_addUp_38 : decode cX1_addUp 38 = .ok (.iinc 1 1, 3) := by decide +kernel
theorem dX1_addUp_41 : decode cX1_addUp 41 = .ok (.goto (-39), 3) := by decide +kernel
theorem dX1_addUp_44 : decode cX1_addUp 44 = .ok (.return_, 1) := by decide +kernel
theorem dX1_addOne_0 : decode cX1_addOne 0 = .ok (.aload_n 0, 1) := by decide +kernel
theorem dX1_addOne_1 : decode cX1_addOne 1 = .ok (.getfield 13, 3) := by decide +kernel
theorem dX1_addOne_4 : decode cX1_addOne 4 = .ok (.iload_n 1, 1) := by decide +kernel
theorem dX1_addOne_5 : decode cX1_addOne 5 = .ok (.iaload, 1) := by decide +kernel
theorem dX1_addOne_6 : decode cX1_addOne 6 = .ok (.ifCond .le 7, 3) := by decide +kernel
theorem dX1_addOne_9 : decode cX1_addOne 9 = .ok (.lconst 0, 1) := by decide +kernel
theorem dX1_addOne_10 : decode cX1_addOne 10 = .ok (.goto 58, 3) := by decide +kernel
theorem dX1_addOne_13 : decode cX1_addOne 13 = .ok (.aload_n 0, 1) := by decide +kernel
theorem dX1_addOne_14 : decode cX1_addOne 14 = .ok (.getfield 7, 3) := by decide +kernel
theorem dX1_addOne_17 : decode cX1_addOne 17 = .ok (.iload_n 1, 1) := by decide +kernel
theorem dX1_addOne_18 : decode cX1_addOne 18 = .ok (.iaload, 1) := by decide +kernel
theorem dX1_addOne_19 : decode cX1_addOne 19 = .ok (.iconst 1, 1) := by decide +kernel
theorem dX1_addOne_20 : decode cX1_addOne 20 = .ok (.if_icmp .ne 17, 3) := by decide +kernel
theorem dX1_addOne_23 : decode cX1_addOne 23 = .ok (.ldc2_w 100, 3) := by decide +kernel
theorem dX1_addOne_26 : decode cX1_addOne 26 = .ok (.aload_n 0, 1) := by decide +kernel
theorem dX1_addOne_27 : decode cX1_addOne 27 = .ok (.getfield 19, 3) := by decide +kernel
theorem dX1_addOne_30 : decode cX1_addOne 30 = .ok (.iload_n 1, 1) := by decide +kernel
theorem dX1_addOne_31 : decode cX1_addOne 31 = .ok (.iaload, 1) := by decide +kernel
theorem dX1_addOne_32 : decode cX1_addOne 32 = .ok (.i2l, 1) := by decide +kernel
theorem dX1_addOne_33 : decode cX1_addOne 33 = .ok (.lmul, 1) := by decide +kernel
theorem dX1_addOne_34 : decode cX1_addOne 34 = .ok (.goto 34, 3) := by decide +kernel
theorem dX1_addOne_37 : decode cX1_addOne 37 = .ok (.aload_n 0, 1) := by decide +kernel
theorem dX1_addOne_38 : decode cX1_addOne 38 = .ok (.getfield 7, 3) := by decide +kernel
theorem dX1_addOne_41 : decode cX1_addOne 41 = .ok (.iload_n 1, 1) := by decide +kernel
theorem dX1_addOne_42 : decode cX1_addOne 42 = .ok (.iaload, 1) := by decide +kernel
theorem dX1_addOne_43 : decode cX1_addOne 43 = .ok (.iconst 3, 1) := by decide +kernel
theorem dX1_addOne_44 : decode cX1_addOne 44 = .ok (.if_icmp .ne 17, 3) := by decide +kernel
theorem dX1_addOne_47 : decode cX1_addOne 47 = .ok (.aload_n 0, 1) := by decide +kernel
theorem dX1_addOne_48 : decode cX1_addOne 48 = .ok (.getfield 19, 3) := by decide +kernel
theorem dX1_addOne_51 : decode cX1_addOne 51 = .ok (.iload_n 1, 1) := by decide +kernel
theorem dX1_addOne_52 : decode cX1_addOne 52 = .ok (.iaload, 1) := by decide +kernel
theorem dX1_addOne_53 : decode cX1_addOne 53 = .ok (.i2l, 1) := by decide +kernel
theorem dX1_addOne_54 : decode cX1_addOne 54 = .ok (.ldc2_w 102, 3) := by decide +kernel
theorem dX1_addOne_57 : decode cX1_addOne 57 = .ok (.ladd, 1) := by decide +kernel
theorem dX1_addOne_58 : decode cX1_addOne 58 = .ok (.goto 10, 3) := by decide +kernel
theorem dX1_addOne_61 : decode cX1_addOne 61 = .ok (.aload_n 0, 1) := by decide +kernel
theorem dX1_addOne_62 : decode cX1_addOne 62 = .ok (.getfield 19, 3) := by decide +kernel
theorem dX1_addOne_65 : decode cX1_addOne 65 = .ok (.iload_n 1, 1) := by decide +kernel
theorem dX1_addOne_66 : decode cX1_addOne 66 = .ok (.iaload, 1) := by decide +kernel
theorem dX1_addOne_67 : decode cX1_addOne 67 = .ok (.i2l, 1) := by decide +kernel
theorem dX1_addOne_68 : decode cX1_addOne 68 = .ok (.lstore_n 2, 1) := by decide +kernel
theorem dX1_addOne_69 : decode cX1_addOne 69 = .ok (.aload_n 0, 1) := by decide +kernel
theorem dX1_addOne_70 : decode cX1_addOne 70 = .ok (.getfield 13, 3) := by decide +kernel
theorem dX1_addOne_73 : decode cX1_addOne 73 = .ok (.iload_n 1, 1) := by decide +kernel
theorem dX1_addOne_74 : decode cX1_addOne 74 = .ok (.iaload, 1) := by decide +kernel
theorem dX1_addOne_75 : decode cX1_addOne 75 = .ok (.ifCond .ne 20, 3) := by decide +kernel
theorem dX1_addOne_78 : decode cX1_addOne 78 = .ok (.aload_n 0, 1) := by decide +kernel
theorem dX1_addOne_79 : decode cX1_addOne 79 = .ok (.getfield 7, 3) := by decide +kernel
theorem dX1_addOne_82 : decode cX1_addOne 82 = .ok (.iload_n 1, 1) := by decide +kernel
theorem dX1_addOne_83 : decode cX1_addOne 83 = .ok (.iaload, 1) := by decide +kernel
theorem dX1_addOne_84 : decode cX1_addOne 84 = .ok (.iconst 4, 1) := by decide +kernel
theorem dX1_addOne_85 : decode cX1_addOne 85 = .ok (.invokestatic 64, 3) := by decide +kernel
theorem dX1_addOne_88 : decode cX1_addOne 88 = .ok (.ifCond .eq 7, 3) := by decide +kernel
theorem dX1_addOne_91 : decode cX1_addOne 91 = .ok (.iconst 1, 1) := by decide +kernel
theorem dX1_addOne_92 : decode cX1_addOne 92 = .ok (.goto 4, 3) := by decide +kernel
theorem dX1_addOne_95 : decode cX1_addOne 95 = .ok (.iconst 0, 1) := by decide +kernel
theorem dX1_addOne_96 : decode cX1_addOne 96 = .ok (.istore 4, 2) := by decide +kernel
theorem dX1_addOne_98 : decode cX1_addOne 98 = .ok (.bipush 8, 2) := by decide +kernel
theorem dX1_addOne_100 : decode cX1_addOne 100 = .ok (.iload_n 1, 1) := by decide +kernel
theorem dX1_addOne_101 : decode cX1_addOne 101 = .ok (.imul, 1) := by decide +kernel
theorem dX1_addOne_102 : decode cX1_addOne 102 = .ok (.istore 5, 2) := by decide +kernel
theorem dX1_addOne_104 : decode cX1_addOne 104 = .ok (.iload 5, 2) := by decide +kernel
theorem dX1_addOne_106 : decode cX1_addOne 106 = .ok (.bipush 8, 2) := by decide +kernel
theorem dX1_addOne_108 : decode cX1_addOne 108 = .ok (.iload_n 1, 1) := by decide +kernel
theorem dX1_addOne_109 : decode cX1_addOne 109 = .ok (.imul, 1) := by decide +kernel
theorem dX1_addOne_110 : decode cX1_addOne 110 = .ok (.aload_n 0, 1) := by decide +kernel
theorem dX1_addOne_111 : decode cX1_addOne 111 = .ok (.getfield 16, 3) := by decide +kernel
theorem dX1_addOne_114 : decode cX1_addOne 114 = .ok (.iload_n 1, 1) := by decide +kernel
theorem dX1_addOne_115 : decode cX1_addOne 115 = .ok (.iaload, 1) := by decide +kernel
theorem dX1_addOne_116 : decode cX1_addOne 116 = .ok (.iadd, 1) := by decide +kernel
theorem dX1_addOne_117 : decode cX1_addOne 117 = .ok (.if_icmp .ge 68, 3) := by decide +kernel
theorem dX1_addOne_120 : decode cX1_addOne 120 = .ok (.aload_n 0, 1) := by decide +kernel
theorem dX1_addOne_121 : decode cX1_addOne 121 = .ok (.getfield 22, 3) := by decide +kernel
theorem dX1_addOne_124 : decode cX1_addOne 124 = .ok (.iload 5, 2) := by decide +kernel
theorem dX1_addOne_126 : decode cX1_addOne 126 = .ok (.iaload, 1) := by decide +kernel
theorem dX1_addOne_127 : decode cX1_addOne 127 = .ok (.istore 6, 2) := by decide +kernel
theorem dX1_addOne_129 : decode cX1_addOne 129 = .ok (.lload_n 2, 1) := by decide +kernel
theorem dX1_addOne_130 : decode cX1_addOne 130 = .ok (.aload_n 0, 1) := by decide +kernel
theorem dX1_addOne_131 : decode cX1_addOne 131 = .ok (.getfield 25, 3) := by decide +kernel
theorem dX1_addOne_134 : decode cX1_addOne 134 = .ok (.iload 5, 2) := by decide +kernel
theorem dX1_addOne_136 : decode cX1_addOne 136 = .ok (.laload, 1) := by decide +kernel
theorem dX1_addOne_137 : decode cX1_addOne 137 = .ok (.iload 6, 2) := by decide +kernel
theorem dX1_addOne_139 : decode cX1_addOne 139 = .ok (.iconst (-1), 1) := by decide +kernel
theorem dX1_addOne_140 : decode cX1_addOne 140 = .ok (.if_icmp .ne 7, 3) := by decide +kernel
theorem dX1_addOne_143 : decode cX1_addOne 143 = .ok (.lconst 0, 1) := by decide +kernel
theorem dX1_addOne_144 : decode cX1_addOne 144 = .ok (.goto 10, 3) := by decide +kernel
theorem dX1_addOne_147 : decode cX1_addOne 147 = .ok (.aload_n 0, 1) := by decide +kernel
theorem dX1_addOne_148 : decode cX1_addOne 148 = .ok (.getfield 39, 3) := by decide +kernel
theorem dX1_addOne_151 : decode cX1_addOne 151 = .ok (.iload 6, 2) := by decide +kernel
theorem dX1_addOne_153 : decode cX1_addOne 153 = .ok (.laload, 1) := by decide +kernel
theorem dX1_addOne_154 : decode cX1_addOne 154 = .ok (.ladd, 1) := by decide +kernel
theorem dX1_addOne_155 : decode cX1_addOne 155 = .ok (.ladd, 1) := by decide +kernel
theorem dX1_addOne_156 : decode cX1_addOne 156 = .ok (.lstore_n 2, 1) := by decide +kernel
theorem dX1_addOne_157 : decode cX1_addOne 157 = .ok (.iload 4, 2) := by decide +kernel
theorem dX1_addOne_159 : decode cX1_addOne 159 = .ok (.iload 6, 2) := by decide +kernel
theorem dX1_addOne_161 : decode cX1_addOne 161 = .ok (.iconst (-1), 1) := by decide +kernel
theorem dX1_addOne_162 : decode cX1_addOne 162 = .ok (.if_icmp .ne 7, 3) := by decide +kernel
theorem dX1_addOne_165 : decode cX1_addOne 165 = .ok (.iconst 0, 1) := by decide +kernel
theorem dX1_addOne_166 : decode cX1_addOne 166 = .ok (.goto 10, 3) := by decide +kernel
theorem dX1_addOne_169 : decode cX1_addOne 169 = .ok (.aload_n 0, 1) := by decide +kernel
theorem dX1_addOne_170 : decode cX1_addOne 170 = .ok (.getfield 42, 3) := by decide +kernel
theorem dX1_addOne_173 : decode cX1_addOne 173 = .ok (.iload 6, 2) := by decide +kernel
theorem dX1_addOne_175 : decode cX1_addOne 175 = .ok (.iaload, 1) := by decide +kernel
theorem dX1_addOne_176 : decode cX1_addOne 176 = .ok (.iadd, 1) := by decide +kernel
theorem dX1_addOne_177 : decode cX1_addOne 177 = .ok (.istore 4, 2) := by decide +kernel
theorem dX1_addOne_179 : decode cX1_addOne 179 = .ok (.iinc 5 1, 3) := by decide +kernel
theorem dX1_addOne_182 : decode cX1_addOne 182 = .ok (.goto (-78), 3) := by decide +kernel
theorem dX1_addOne_185 : decode cX1_addOne 185 = .ok (.aload_n 0, 1) := by decide +kernel
theorem dX1_addOne_186 : decode cX1_addOne 186 = .ok (.getfield 39, 3) := by decide +kernel
theorem dX1_addOne_189 : decode cX1_addOne 189 = .ok (.iload_n 1, 1) := by decide +kernel
theorem dX1_addOne_190 : decode cX1_addOne 190 = .ok (.lload_n 2, 1) := by decide +kernel
theorem dX1_addOne_191 : decode cX1_addOne 191 = .ok (.lastore, 1) := by decide +kernel
theorem dX1_addOne_192 : decode cX1_addOne 192 = .ok (.aload_n 0, 1) := by decide +kernel
theorem dX1_addOne_193 : decode cX1_addOne 193 = .ok (.getfield 42, 3) := by decide +kernel
theorem dX1_addOne_196 : decode cX1_addOne 196 = .ok (.iload_n 1, 1) := by decide +kernel
theorem dX1_addOne_197 : decode cX1_addOne 197 = .ok (.iload 4, 2) := by decide +kernel
theorem dX1_addOne_199 : decode cX1_addOne 199 = .ok (.iastore, 1) := by decide +kernel
theorem dX1_addOne_200 : decode cX1_addOne 200 = .ok (.return_, 1) := by decide +kernel
theorem dX1_worth_0 : decode cX1_worth 0 = .ok (.aload_n 0, 1) := by decide +kernel
theorem dX1_worth_1 : decode cX1_worth 1 = .ok (.iload_n 1, 1) := by decide +kernel
theorem dX1_worth_2 : decode cX1_worth 2 = .ok (.invokevirtual 104, 3) := by decide +kernel
theorem dX1_worth_5 : decode cX1_worth 5 = .ok (.ifCond .ne 5, 3) := by decide +kernel
theorem dX1_worth_8 : decode cX1_worth 8 = .ok (.lconst 0, 1) := by decide +kernel
theorem dX1_worth_9 : decode cX1_worth 9 = .ok (.lreturn, 1) := by decide +kernel
theorem dX1_worth_10 : decode cX1_worth 10 = .ok (.aload_n 0, 1) := by decide +kernel
theorem dX1_worth_11 : decode cX1_worth 11 = .ok (.invokevirtual 107, 3) := by decide +kernel
theorem dX1_worth_14 : decode cX1_worth 14 = .ok (.aload_n 0, 1) := by decide +kernel
theorem dX1_worth_15 : decode cX1_worth 15 = .ok (.getfield 39, 3) := by decide +kernel
theorem dX1_worth_18 : decode cX1_worth 18 = .ok (.iload_n 1, 1) := by decide +kernel
theorem dX1_worth_19 : decode cX1_worth 19 = .ok (.laload, 1) := by decide +kernel
theorem dX1_worth_20 : decode cX1_worth 20 = .ok (.lreturn, 1) := by decide +kernel
theorem dX1_frail_0 : decode cX1_frail 0 = .ok (.aload_n 0, 1) := by decide +kernel
theorem dX1_frail_1 : decode cX1_frail 1 = .ok (.iload_n 1, 1) := by decide +kernel
theorem dX1_frail_2 : decode cX1_frail 2 = .ok (.invokevirtual 79, 3) := by decide +kernel
theorem dX1_frail_5 : decode cX1_frail 5 = .ok (.ifCond .ne 6, 3) := by decide +kernel
theorem dX1_frail_8 : decode cX1_frail 8 = .ok (.bipush (-2), 2) := by decide +kernel
theorem dX1_frail_10 : decode cX1_frail 10 = .ok (.ireturn, 1) := by decide +kernel
theorem dX1_frail_11 : decode cX1_frail 11 = .ok (.iload_n 1, 1) := by decide +kernel
theorem dX1_frail_12 : decode cX1_frail 12 = .ok (.iconst (-1), 1) := by decide +kernel
theorem dX1_frail_13 : decode cX1_frail 13 = .ok (.if_icmp .ne 9, 3) := by decide +kernel
theorem dX1_frail_16 : decode cX1_frail 16 = .ok (.aload_n 0, 1) := by decide +kernel
theorem dX1_frail_17 : decode cX1_frail 17 = .ok (.iconst 1, 1) := by decide +kernel
theorem dX1_frail_18 : decode cX1_frail 18 = .ok (.invokevirtual 75, 3) := by decide +kernel
theorem dX1_frail_21 : decode cX1_frail 21 = .ok (.ireturn, 1) := by decide +kernel
theorem dX1_frail_22 : decode cX1_frail 22 = .ok (.aload_n 0, 1) := by decide +kernel
theorem dX1_frail_23 : decode cX1_frail 23 = .ok (.getfield 7, 3) := by decide +kernel
theorem dX1_frail_26 : decode cX1_frail 26 = .ok (.iload_n 1, 1) := by decide +kernel
theorem dX1_frail_27 : decode cX1_frail 27 = .ok (.iaload, 1) := by decide +kernel
theorem dX1_frail_28 : decode cX1_frail 28 = .ok (.iconst 4, 1) := by decide +kernel
theorem dX1_frail_29 : decode cX1_frail 29 = .ok (.if_icmp .le 9, 3) := by decide +kernel
theorem dX1_frail_32 : decode cX1_frail 32 = .ok (.aload_n 0, 1) := by decide +kernel
theorem dX1_frail_33 : decode cX1_frail 33 = .ok (.iconst 2, 1) := by decide +kernel
theorem dX1_frail_34 : decode cX1_frail 34 = .ok (.invokevirtual 75, 3) := by decide +kernel
theorem dX1_frail_37 : decode cX1_frail 37 = .ok (.ireturn, 1) := by decide +kernel
theorem dX1_frail_38 : decode cX1_frail 38 = .ok (.aload_n 0, 1) := by decide +kernel
theorem dX1_frail_39 : decode cX1_frail 39 = .ok (.invokevirtual 107, 3) := by decide +kernel
theorem dX1_frail_42 : decode cX1_frail 42 = .ok (.aload_n 0, 1) := by decide +kernel
theorem dX1_frail_43 : decode cX1_frail 43 = .ok (.getfield 42, 3) := by decide +kernel
theorem dX1_frail_46 : decode cX1_frail 46 = .ok (.iload_n 1, 1) := by decide +kernel
theorem dX1_frail_47 : decode cX1_frail 47 = .ok (.iaload, 1) := by decide +kernel
theorem dX1_frail_48 : decode cX1_frail 48 = .ok (.ireturn, 1) := by decide +kernel
theorem dX1_copy_0 : decode cX1_copy 0 = .ok (.aload_n 0, 1) := by decide +kernel
theorem dX1_copy_1 : decode cX1_copy 1 = .ok (.iload_n 1, 1) := by decide +kernel
theorem dX1_copy_2 : decode cX1_copy 2 = .ok (.invokevirtual 79, 3) := by decide +kernel
theorem dX1_copy_5 : decode cX1_copy 5 = .ok (.ifCond .ne 6, 3) := by decide +kernel
theorem dX1_copy_8 : decode cX1_copy 8 = .ok (.bipush (-2), 2) := by decide +kernel
theorem dX1_copy_10 : decode cX1_copy 10 = .ok (.ireturn, 1) := by decide +kernel
theorem dX1_copy_11 : decode cX1_copy 11 = .ok (.aload_n 0, 1) := by decide +kernel
theorem dX1_copy_12 : decode cX1_copy 12 = .ok (.getfield 57, 3) := by decide +kernel
theorem dX1_copy_15 : decode cX1_copy 15 = .ok (.bipush 60, 2) := by decide +kernel
theorem dX1_copy_17 : decode cX1_copy 17 = .ok (.if_icmp .ne 6, 3) := by decide +kernel
theorem dX1_copy_20 : decode cX1_copy 20 = .ok (.bipush (-3), 2) := by decide +kernel
theorem dX1_copy_22 : decode cX1_copy 22 = .ok (.ireturn, 1) := by decide +kernel
theorem dX1_copy_23 : decode cX1_copy 23 = .ok (.iload_n 1, 1) := by decide +kernel
theorem dX1_copy_24 : decode cX1_copy 24 = .ok (.iconst (-1), 1) := by decide +kernel
theorem dX1_copy_25 : decode cX1_copy 25 = .ok (.if_icmp .eq 12, 3) := by decide +kernel
theorem dX1_copy_28 : decode cX1_copy 28 = .ok (.aload_n 0, 1) := by decide +kernel
theorem dX1_copy_29 : decode cX1_copy 29 = .ok (.getfield 13, 3) := by decide +kernel
theorem dX1_copy_32 : decode cX1_copy 32 = .ok (.iload_n 1, 1) := by decide +kernel
theorem dX1_copy_33 : decode cX1_copy 33 = .ok (.iaload, 1) := by decide +kernel
theorem dX1_copy_34 : decode cX1_copy 34 = .ok (.ifCond .ne 18, 3) := by decide +kernel
theorem dX1_copy_37 : decode cX1_copy 37 = .ok (.aload_n 0, 1) := by decide +kernel
theorem dX1_copy_38 : decode cX1_copy 38 = .ok (.iload_n 1, 1) := by decide +kernel
theorem dX1_copy_39 : decode cX1_copy 39 = .ok (.iconst (-1), 1) := by decide +kernel
theorem dX1_copy_40 : decode cX1_copy 40 = .ok (.if_icmp .ne 7, 3) := by decide +kernel
theorem dX1_copy_43 : decode cX1_copy 43 = .ok (.iconst 1, 1) := by decide +kernel
theorem dX1_copy_44 : decode cX1_copy 44 = .ok (.goto 4, 3) := by decide +kernel
theorem dX1_copy_47 : decode cX1_copy 47 = .ok (.iconst 2, 1) := by decide +kernel
theorem dX1_copy_48 : decode cX1_copy 48 = .ok (.invokevirtual 75, 3) := by decide +kernel
theorem dX1_copy_51 : decode cX1_copy 51 = .ok (.ireturn, 1) := by decide +kernel
theorem dX1_copy_52 : decode cX1_copy 52 = .ok (.aload_n 0, 1) := by decide +kernel
theorem dX1_copy_53 : decode cX1_copy 53 = .ok (.aload_n 0, 1) := by decide +kernel
theorem dX1_copy_54 : decode cX1_copy 54 = .ok (.getfield 7, 3) := by decide +kernel
theorem dX1_copy_57 : decode cX1_copy 57 = .ok (.iload_n 1, 1) := by decide +kernel
theorem dX1_copy_58 : decode cX1_copy 58 = .ok (.iaload, 1) := by decide +kernel
theorem dX1_copy_59 : decode cX1_copy 59 = .ok (.aload_n 0, 1) := by decide +kernel
theorem dX1_copy_60 : decode cX1_copy 60 = .ok (.getfield 13, 3) := by decide +kernel
theorem dX1_copy_63 : decode cX1_copy 63 = .ok (.iload_n 1, 1) := by decide +kernel
theorem dX1_copy_64 : decode cX1_copy 64 = .ok (.iaload, 1) := by decide +kernel
theorem dX1_copy_65 : decode cX1_copy 65 = .ok (.aload_n 0, 1) := by decide +kernel
theorem dX1_copy_66 : decode cX1_copy 66 = .ok (.getfield 16, 3) := by decide +kernel
theorem dX1_copy_69 : decode cX1_copy 69 = .ok (.iload_n 1, 1) := by decide +kernel
theorem dX1_copy_70 : decode cX1_copy 70 = .ok (.iaload, 1) := by decide +kernel
theorem dX1_copy_71 : decode cX1_copy 71 = .ok (.iconst 0, 1) := by decide +kernel
theorem dX1_copy_72 : decode cX1_copy 72 = .ok (.invokevirtual 68, 3) := by decide +kernel
theorem dX1_copy_75 : decode cX1_copy 75 = .ok (.istore_n 2, 1) := by decide +kernel
theorem dX1_copy_76 : decode cX1_copy 76 = .ok (.iconst 0, 1) := by decide +kernel
theorem dX1_copy_77 : decode cX1_copy 77 = .ok (.istore_n 3, 1) := by decide +kernel
theorem dX1_copy_78 : decode cX1_copy 78 = .ok (.iload_n 3, 1) := by decide +kernel
theorem dX1_copy_79 : decode cX1_copy 79 = .ok (.bipush 8, 2) := by decide +kernel
theorem dX1_copy_81 : decode cX1_copy 81 = .ok (.if_icmp .ge 53, 3) := by decide +kernel
theorem dX1_copy_84 : decode cX1_copy 84 = .ok (.aload_n 0, 1) := by decide +kernel
theorem dX1_copy_85 : decode cX1_copy 85 = .ok (.getfield 22, 3) := by decide +kernel
theorem dX1_copy_88 : decode cX1_copy 88 = .ok (.bipush 8, 2) := by decide +kernel
theorem dX1_copy_90 : decode cX1_copy 90 = .ok (.iload_n 2, 1) := by decide +kernel
theorem dX1_copy_91 : decode cX1_copy 91 = .ok (.imul, 1) := by decide +kernel
theorem dX1_copy_92 : decode cX1_copy 92 = .ok (.iload_n 3, 1) := by decide +kernel
theorem dX1_copy_93 : decode cX1_copy 93 = .ok (.iadd, 1) := by decide +kernel
theorem dX1_copy_94 : decode cX1_copy 94 = .ok (.aload_n 0, 1) := by decide +kernel
theorem dX1_copy_95 : decode cX1_copy 95 = .ok (.getfield 22, 3) := by decide +kernel
theorem dX1_copy_98 : decode cX1_copy 98 = .ok (.bipush 8, 2) := by decide +kernel
theorem dX1_copy_100 : decode cX1_copy 100 = .ok (.iload_n 1, 1) := by decide +kernel
theorem dX1_copy_101 : decode cX1_copy 101 = .ok (.imul, 1) := by decide +kernel
theorem dX1_copy_102 : decode cX1_copy 102 = .ok (.iload_n 3, 1) := by decide +kernel
theorem dX1_copy_103 : decode cX1_copy 103 = .ok (.iadd, 1) := by decide +kernel
theorem dX1_copy_104 : decode cX1_copy 104 = .ok (.iaload, 1) := by decide +kernel
theorem dX1_copy_105 : decode cX1_copy 105 = .ok (.iastore, 1) := by decide +kernel
theorem dX1_copy_106 : decode cX1_copy 106 = .ok (.aload_n 0, 1) := by decide +kernel
theorem dX1_copy_107 : decode cX1_copy 107 = .ok (.getfield 25, 3) := by decide +kernel
theorem dX1_copy_110 : decode cX1_copy 110 = .ok (.bipush 8, 2) := by decide +kernel
theorem dX1_copy_112 : decode cX1_copy 112 = .ok (.iload_n 2, 1) := by decide +kernel
theorem dX1_copy_113 : decode cX1_copy 113 = .ok (.imul, 1) := by decide +kernel
theorem dX1_copy_114 : decode cX1_copy 114 = .ok (.iload_n 3, 1) := by decide +kernel
theorem dX1_copy_115 : decode cX1_copy 115 = .ok (.iadd, 1) := by decide +kernel
theorem dX1_copy_116 : decode cX1_copy 116 = .ok (.aload_n 0, 1) := by decide +kernel
theorem dX1_copy_117 : decode cX1_copy 117 = .ok (.getfield 25, 3) := by decide +kernel
theorem dX1_copy_120 : decode cX1_copy 120 = .ok (.bipush 8, 2) := by decide +kernel
theorem dX1_copy_122 : decode cX1_copy 122 = .ok (.iload_n 1, 1) := by decide +kernel
theorem dX1_copy_123 : decode cX1_copy 123 = .ok (.imul, 1) := by decide +kernel
theorem dX1_copy_124 : decode cX1_copy 124 = .ok (.iload_n 3, 1) := by decide +kernel
theorem dX1_copy_125 : decode cX1_copy 125 = .ok (.iadd, 1) := by decide +kernel
theorem dX1_copy_126 : decode cX1_copy 126 = .ok (.laload, 1) := by decide +kernel
theorem dX1_copy_127 : decode cX1_copy 127 = .ok (.lastore, 1) := by decide +kernel
theorem dX1_copy_128 : decode cX1_copy 128 = .ok (.iinc 3 1, 3) := by decide +kernel
theorem dX1_copy_131 : decode cX1_copy 131 = .ok (.goto (-53), 3) := by decide +kernel
theorem dX1_copy_134 : decode cX1_copy 134 = .ok (.iload_n 2, 1) := by decide +kernel
theorem dX1_copy_135 : decode cX1_copy 135 = .ok (.ireturn, 1) := by decide +kernel
theorem dX1_isSpan_0 : decode cX1_isSpan 0 = .ok (.iload_n 0, 1) := by decide +kernel
theorem dX1_isSpan_1 : decode cX1_isSpan 1 = .ok (.ifCond .lt 18, 3) := by decide +kernel
theorem dX1_isSpan_4 : decode cX1_isSpan 4 = .ok (.iload_n 1, 1) := by decide +kernel
theorem dX1_isSpan_5 : decode cX1_isSpan 5 = .ok (.ifCond .lt 14, 3) := by decide +kernel
theorem dX1_isSpan_8 : decode cX1_isSpan 8 = .ok (.iload_n 0, 1) := by decide +kernel
theorem dX1_isSpan_9 : decode cX1_isSpan 9 = .ok (.iload_n 2, 1) := by decide +kernel
theorem dX1_isSpan_10 : decode cX1_isSpan 10 = .ok (.iload_n 1, 1) := by decide +kernel
theorem dX1_isSpan_11 : decode cX1_isSpan 11 = .ok (.isub, 1) := by decide +kernel
theorem dX1_isSpan_12 : decode cX1_isSpan 12 = .ok (.if_icmp .gt 7, 3) := by decide +kernel
theorem dX1_isSpan_15 : decode cX1_isSpan 15 = .ok (.iconst 1, 1) := by decide +kernel
theorem dX1_isSpan_16 : decode cX1_isSpan 16 = .ok (.goto 4, 3) := by decide +kernel
theorem dX1_isSpan_19 : decode cX1_isSpan 19 = .ok (.iconst 0, 1) := by decide +kernel
theorem dX1_isSpan_20 : decode cX1_isSpan 20 = .ok (.ireturn, 1) := by decide +kernel
theorem dX1_carry_0 : decode cX1_carry 0 = .ok (.aload_n 0, 1) := by decide +kernel
theorem dX1_carry_1 : decode cX1_carry 1 = .ok (.iload_n 1, 1) := by decide +kernel
theorem dX1_carry_2 : decode cX1_carry 2 = .ok (.invokevirtual 79, 3) := by decide +kernel
theorem dX1_carry_5 : decode cX1_carry 5 = .ok (.ifCond .eq 11, 3) := by decide +kernel
theorem dX1_carry_8 : decode cX1_carry 8 = .ok (.aload_n 0, 1) := by decide +kernel
theorem dX1_carry_9 : decode cX1_carry 9 = .ok (.iload_n 3, 1) := by decide +kernel
theorem dX1_carry_10 : decode cX1_carry 10 = .ok (.invokevirtual 79, 3) := by decide +kernel
theorem dX1_carry_13 : decode cX1_carry 13 = .ok (.ifCond .ne 6, 3) := by decide +kernel
theorem dX1_carry_16 : decode cX1_carry 16 = .ok (.bipush (-2), 2) := by decide +kernel
theorem dX1_carry_18 : decode cX1_carry 18 = .ok (.ireturn, 1) := by decide +kernel
theorem dX1_carry_19 : decode cX1_carry 19 = .ok (.iload_n 1, 1) := by decide +kernel
theorem dX1_carry_20 : decode cX1_carry 20 = .ok (.iconst (-1), 1) := by decide +kernel
theorem dX1_carry_21 : decode cX1_carry 21 = .ok (.if_icmp .eq 8, 3) := by decide +kernel
theorem dX1_carry_24 : decode cX1_carry 24 = .ok (.iload_n 3, 1) := by decide +kernel
theorem dX1_carry_25 : decode cX1_carry 25 = .ok (.iconst (-1), 1) := by decide +kernel
theorem dX1_carry_26 : decode cX1_carry 26 = .ok (.if_icmp .ne 9, 3) := by decide +kernel
theorem dX1_carry_29 : decode cX1_carry 29 = .ok (.aload_n 0, 1) := by decide +kernel
theorem dX1_carry_30 : decode cX1_carry 30 = .ok (.iconst 1, 1) := by decide +kernel
theorem dX1_carry_31 : decode cX1_carry 31 = .ok (.invokevirtual 75, 3) := by decide +kernel
theorem dX1_carry_34 : decode cX1_carry 34 = .ok (.ireturn, 1) := by decide +kernel
theorem dX1_carry_35 : decode cX1_carry 35 = .ok (.aload_n 0, 1) := by decide +kernel
theorem dX1_carry_36 : decode cX1_carry 36 = .ok (.getfield 13, 3) := by decide +kernel
theorem dX1_carry_39 : decode cX1_carry 39 = .ok (.iload_n 1, 1) := by decide +kernel
theorem dX1_carry_40 : decode cX1_carry 40 = .ok (.iaload, 1) := by decide +kernel
theorem dX1_carry_41 : decode cX1_carry 41 = .ok (.ifCond .eq 48, 3) := by decide +kernel
theorem dX1_carry_44 : decode cX1_carry 44 = .ok (.aload_n 0, 1) := by decide +kernel
theorem dX1_carry_45 : decode cX1_carry 45 = .ok (.getfield 13, 3) := by decide +kernel
theorem dX1_carry_48 : decode cX1_carry 48 = .ok (.iload_n 3, 1) := by decide +kernel
theorem dX1_carry_49 : decode cX1_carry 49 = .ok (.iaload, 1) := by decide +kernel
theorem dX1_carry_50 : decode cX1_carry 50 = .ok (.ifCond .eq 39, 3) := by decide +kernel
theorem dX1_carry_53 : decode cX1_carry 53 = .ok (.aload_n 0, 1) := by decide +kernel
theorem dX1_carry_54 : decode cX1_carry 54 = .ok (.iload_n 1, 1) := by decide +kernel
theorem dX1_carry_55 : decode cX1_carry 55 = .ok (.invokevirtual 86, 3) := by decide +kernel
theorem dX1_carry_58 : decode cX1_carry 58 = .ok (.aload_n 0, 1) := by decide +kernel
theorem dX1_carry_59 : decode cX1_carry 59 = .ok (.iload_n 3, 1) := by decide +kernel
theorem dX1_carry_60 : decode cX1_carry 60 = .ok (.invokevirtual 86, 3) := by decide +kernel
theorem dX1_carry_63 : decode cX1_carry 63 = .ok (.if_icmp .ne 26, 3) := by decide +kernel
theorem dX1_carry_66 : decode cX1_carry 66 = .ok (.aload_n 0, 1) := by decide +kernel
theorem dX1_carry_67 : decode cX1_carry 67 = .ok (.iload_n 1, 1) := by decide +kernel
theorem dX1_carry_68 : decode cX1_carry 68 = .ok (.invokevirtual 86, 3) := by decide +kernel
theorem dX1_carry_71 : decode cX1_carry 71 = .ok (.ifCond .eq 24, 3) := by decide +kernel
theorem dX1_carry_74 : decode cX1_carry 74 = .ok (.aload_n 0, 1) := by decide +kernel
theorem dX1_carry_75 : decode cX1_carry 75 = .ok (.getfield 7, 3) := by decide +kernel
theorem dX1_carry_78 : decode cX1_carry 78 = .ok (.iload_n 1, 1) := by decide +kernel
theorem dX1_carry_79 : decode cX1_carry 79 = .ok (.iaload, 1) := by decide +kernel
theorem dX1_carry_80 : decode cX1_carry 80 = .ok (.aload_n 0, 1) := by decide +kernel
theorem dX1_carry_81 : decode cX1_carry 81 = .ok (.getfield 7, 3) := by decide +kernel
theorem dX1_carry_84 : decode cX1_carry 84 = .ok (.iload_n 3, 1) := by decide +kernel
theorem dX1_carry_85 : decode cX1_carry 85 = .ok (.iaload, 1) := by decide +kernel
theorem dX1_carry_86 : decode cX1_carry 86 = .ok (.if_icmp .eq 9, 3) := by decide +kernel
theorem dX1_carry_89 : decode cX1_carry 89 = .ok (.aload_n 0, 1) := by decide +kernel
theorem dX1_carry_90 : decode cX1_carry 90 = .ok (.iconst 4, 1) := by decide +kernel
theorem dX1_carry_91 : decode cX1_carry 91 = .ok (.invokevirtual 75, 3) := by decide +kernel
theorem dX1_carry_94 : decode cX1_carry 94 = .ok (.ireturn, 1) := by decide +kernel
theorem dX1_carry_95 : decode cX1_carry 95 = .ok (.iload_n 2, 1) := by decide +kernel
theorem dX1_carry_96 : decode cX1_carry 96 = .ok (.iload 5, 2) := by decide +kernel
theorem dX1_carry_98 : decode cX1_carry 98 = .ok (.aload_n 0, 1) := by decide +kernel
theorem dX1_carry_99 : decode cX1_carry 99 = .ok (.getfield 16, 3) := by decide +kernel
theorem dX1_carry_102 : decode cX1_carry 102 = .ok (.iload_n 1, 1) := by decide +kernel
theorem dX1_carry_103 : decode cX1_carry 103 = .ok (.iaload, 1) := by decide +kernel
theorem dX1_carry_104 : decode cX1_carry 104 = .ok (.invokestatic 110, 3) := by decide +kernel
theorem dX1_carry_107 : decode cX1_carry 107 = .ok (.ifCond .eq 19, 3) := by decide +kernel
theorem dX1_carry_110 : decode cX1_carry 110 = .ok (.iload 4, 2) := by decide +kernel
theorem dX1_carry_112 : decode cX1_carry 112 = .ok (.iload 5, 2) := by decide +kernel
theorem dX1_carry_114 : decode cX1_carry 114 = .ok (.aload_n 0, 1) := by decide +kernel
theorem dX1_carry_115 : decode cX1_carry 115 = .ok (.getfield 16, 3) := by decide +kernel
theorem dX1_carry_118 : decode cX1_carry 118 = .ok (.iload_n 3, 1) := by decide +kernel
theorem dX1_carry_119 : decode cX1_carry 119 = .ok (.iaload, 1) := by decide +kernel
theorem dX1_carry_120 : decode cX1_carry 120 = .ok (.invokestatic 110, 3) := by decide +kernel
theorem dX1_carry_123 : decode cX1_carry 123 = .ok (.ifCond .ne 9, 3) := by decide +kernel
theorem dX1_carry_126 : decode cX1_carry 126 = .ok (.aload_n 0, 1) := by decide +kernel
theorem dX1_carry_127 : decode cX1_carry 127 = .ok (.iconst 3, 1) := by decide +kernel
theorem dX1_carry_128 : decode cX1_carry 128 = .ok (.invokevirtual 75, 3) := by decide +kernel
theorem dX1_carry_131 : decode cX1_carry 131 = .ok (.ireturn, 1) := by decide +kernel
theorem dX1_carry_132 : decode cX1_carry 132 = .ok (.iconst 0, 1) := by decide +kernel
theorem dX1_carry_133 : decode cX1_carry 133 = .ok (.istore 6, 2) := by decide +kernel
theorem dX1_carry_135 : decode cX1_carry 135 = .ok (.iload 6, 2) := by decide +kernel
theorem dX1_carry_137 : decode cX1_carry 137 = .ok (.iload 5, 2) := by decide +kernel
theorem dX1_carry_139 : decode cX1_carry 139 = .ok (.if_icmp .ge 51, 3) := by decide +kernel
theorem dX1_carry_142 : decode cX1_carry 142 = .ok (.aload_n 0, 1) := by decide +kernel
theorem dX1_carry_143 : decode cX1_carry 143 = .ok (.getfield 45, 3) := by decide +kernel
theorem dX1_carry_146 : decode cX1_carry 146 = .ok (.iload 6, 2) := by decide +kernel
theorem dX1_carry_148 : decode cX1_carry 148 = .ok (.aload_n 0, 1) := by decide +kernel
theorem dX1_carry_149 : decode cX1_carry 149 = .ok (.getfield 22, 3) := by decide +kernel
theorem dX1_carry_152 : decode cX1_carry 152 = .ok (.bipush 8, 2) := by decide +kernel
theorem dX1_carry_154 : decode cX1_carry 154 = .ok (.iload_n 1, 1) := by decide +kernel
theorem dX1_carry_155 : decode cX1_carry 155 = .ok (.imul, 1) := by decide +kernel
theorem dX1_carry_156 : decode cX1_carry 156 = .ok (.iload_n 2, 1) := by decide +kernel
theorem dX1_carry_157 : decode cX1_carry 157 = .ok (.iadd, 1) := by decide +kernel
theorem dX1_carry_158 : decode cX1_carry 158 = .ok (.iload 6, 2) := by decide +kernel
theorem dX1_carry_160 : decode cX1_carry 160 = .ok (.iadd, 1) := by decide +kernel
theorem dX1_carry_161 : decode cX1_carry 161 = .ok (.iaload, 1) := by decide +kernel
theorem dX1_carry_162 : decode cX1_carry 162 = .ok (.iastore, 1) := by decide +kernel
theorem dX1_carry_163 : decode cX1_carry 163 = .ok (.aload_n 0, 1) := by decide +kernel
theorem dX1_carry_164 : decode cX1_carry 164 = .ok (.getfield 48, 3) := by decide +kernel
theorem dX1_carry_167 : decode cX1_carry 167 = .ok (.iload 6, 2) := by decide +kernel
theorem dX1_carry_169 : decode cX1_carry 169 = .ok (.aload_n 0, 1) := by decide +kernel
theorem dX1_carry_170 : decode cX1_carry 170 = .ok (.getfield 25, 3) := by decide +kernel
theorem dX1_carry_173 : decode cX1_carry 173 = .ok (.bipush 8, 2) := by decide +kernel
theorem dX1_carry_175 : decode cX1_carry 175 = .ok (.iload_n 1, 1) := by decide +kernel
theorem dX1_carry_176 : decode cX1_carry 176 = .ok (.imul, 1) := by decide +kernel
theorem dX1_carry_177 : decode cX1_carry 177 = .ok (.iload_n 2, 1) := by decide +kernel
theorem dX1_carry_178 : decode cX1_carry 178 = .ok (.iadd, 1) := by decide +kernel
theorem dX1_carry_179 : decode cX1_carry 179 = .ok (.iload 6, 2) := by decide +kernel
theorem dX1_carry_181 : decode cX1_carry 181 = .ok (.iadd, 1) := by decide +kernel
theorem dX1_carry_182 : decode cX1_carry 182 = .ok (.laload, 1) := by decide +kernel
theorem dX1_carry_183 : decode cX1_carry 183 = .ok (.lastore, 1) := by decide +kernel
theorem dX1_carry_184 : decode cX1_carry 184 = .ok (.iinc 6 1, 3) := by decide +kernel
theorem dX1_carry_187 : decode cX1_carry 187 = .ok (.goto (-52), 3) := by decide +kernel
theorem dX1_carry_190 : decode cX1_carry 190 = .ok (.iconst 0, 1) := by decide +kernel
theorem dX1_carry_191 : decode cX1_carry 191 = .ok (.istore 6, 2) := by decide +kernel
theorem dX1_carry_193 : decode cX1_carry 193 = .ok (.iload 6, 2) := by decide +kernel
theorem dX1_carry_195 : decode cX1_carry 195 = .ok (.iload 5, 2) := by decide +kernel
theorem dX1_carry_197 : decode cX1_carry 197 = .ok (.if_icmp .ge 98, 3) := by decide +kernel
theorem dX1_carry_200 : decode cX1_carry 200 = .ok (.aload_n 0, 1) := by decide +kernel
theorem dX1_carry_201 : decode cX1_carry 201 = .ok (.getfield 45, 3) := by decide +kernel
theorem dX1_carry_204 : decode cX1_carry 204 = .ok (.iload 6, 2) := by decide +kernel
theorem dX1_carry_206 : decode cX1_carry 206 = .ok (.iaload, 1) := by decide +kernel
theorem dX1_carry_207 : decode cX1_carry 207 = .ok (.iconst (-1), 1) := by decide +kernel
theorem dX1_carry_208 : decode cX1_carry 208 = .ok (.if_icmp .eq 37, 3) := by decide +kernel
theorem dX1_carry_211 : decode cX1_carry 211 = .ok (.aload_n 0, 1) := by decide +kernel
theorem dX1_carry_212 : decode cX1_carry 212 = .ok (.aload_n 0, 1) := by decide +kernel
theorem dX1_carry_213 : decode cX1_carry 213 = .ok (.getfield 45, 3) := by decide +kernel
theorem dX1_carry_216 : decode cX1_carry 216 = .ok (.iload 6, 2) := by decide +kernel
theorem dX1_carry_218 : decode cX1_carry 218 = .ok (.iaload, 1) := by decide +kernel
theorem dX1_carry_219 : decode cX1_carry 219 = .ok (.aload_n 0, 1) := by decide +kernel
theorem dX1_carry_220 : decode cX1_carry 220 = .ok (.getfield 7, 3) := by decide +kernel
theorem dX1_carry_223 : decode cX1_carry 223 = .ok (.iload_n 3, 1) := by decide +kernel
theorem dX1_carry_224 : decode cX1_carry 224 = .ok (.iaload, 1) := by decide +kernel
theorem dX1_carry_225 : decode cX1_carry 225 = .ok (.aload_n 0, 1) := by decide +kernel
theorem dX1_carry_226 : decode cX1_carry 226 = .ok (.getfield 13, 3) := by decide +kernel
theorem dX1_carry_229 : decode cX1_carry 229 = .ok (.iload_n 3, 1) := by decide +kernel
theorem dX1_carry_230 : decode cX1_carry 230 = .ok (.iaload, 1) := by decide +kernel
theorem dX1_carry_231 : decode cX1_carry 231 = .ok (.iconst 1, 1) := by decide +kernel
theorem dX1_carry_232 : decode cX1_carry 232 = .ok (.isub, 1) := by decide +kernel
theorem dX1_carry_233 : decode cX1_carry 233 = .ok (.invokevirtual 83, 3) := by decide +kernel
theorem dX1_carry_236 : decode cX1_carry 236 = .ok (.ifCond .ne 9, 3) := by decide +kernel
theorem dX1_carry_239 : decode cX1_carry 239 = .ok (.aload_n 0, 1) := by decide +kernel
theorem dX1_carry_240 : decode cX1_carry 240 = .ok (.iconst 4, 1) := by decide +kernel
theorem dX1_carry_241 : decode cX1_carry 241 = .ok (.invokevirtual 75, 3) := by decide +kernel
theorem dX1_carry_244 : decode cX1_carry 244 = .ok (.ireturn, 1) := by decide +kernel
theorem dX1_carry_245 : decode cX1_carry 245 = .ok (.aload_n 0, 1) := by decide +kernel
theorem dX1_carry_246 : decode cX1_carry 246 = .ok (.getfield 22, 3) := by decide +kernel
theorem dX1_carry_249 : decode cX1_carry 249 = .ok (.bipush 8, 2) := by decide +kernel
theorem dX1_carry_251 : decode cX1_carry 251 = .ok (.iload_n 3, 1) := by decide +kernel
theorem dX1_carry_252 : decode cX1_carry 252 = .ok (.imul, 1) := by decide +kernel
theorem dX1_carry_253 : decode cX1_carry 253 = .ok (.iload 4, 2) := by decide +kernel
theorem dX1_carry_255 : decode cX1_carry 255 = .ok (.iadd, 1) := by decide +kernel
theorem dX1_carry_256 : decode cX1_carry 256 = .ok (.iload 6, 2) := by decide +kernel
theorem dX1_carry_258 : decode cX1_carry 258 = .ok (.iadd, 1) := by decide +kernel
theorem dX1_carry_259 : decode cX1_carry 259 = .ok (.aload_n 0, 1) := by decide +kernel
theorem dX1_carry_260 : decode cX1_carry 260 = .ok (.getfield 45, 3) := by decide +kernel
theorem dX1_carry_263 : decode cX1_carry 263 = .ok (.iload 6, 2) := by decide +kernel
theorem dX1_carry_265 : decode cX1_carry 265 = .ok (.iaload, 1) := by decide +kernel
theorem dX1_carry_266 : decode cX1_carry 266 = .ok (.iastore, 1) := by decide +kernel
theorem dX1_carry_267 : decode cX1_carry 267 = .ok (.aload_n 0, 1) := by decide +kernel
theorem dX1_carry_268 : decode cX1_carry 268 = .ok (.getfield 25, 3) := by decide +kernel
theorem dX1_carry_271 : decode cX1_carry 271 = .ok (.bipush 8, 2) := by decide +kernel
theorem dX1_carry_273 : decode cX1_carry 273 = .ok (.iload_n 3, 1) := by decide +kernel
theorem dX1_carry_274 : decode cX1_carry 274 = .ok (.imul, 1) := by decide +kernel
theorem dX1_carry_275 : decode cX1_carry 275 = .ok (.iload 4, 2) := by decide +kernel
theorem dX1_carry_277 : decode cX1_carry 277 = .ok (.iadd, 1) := by decide +kernel
theorem dX1_carry_278 : decode cX1_carry 278 = .ok (.iload 6, 2) := by decide +kernel
theorem dX1_carry_280 : decode cX1_carry 280 = .ok (.iadd, 1) := by decide +kernel
theorem dX1_carry_281 : decode cX1_carry 281 = .ok (.aload_n 0, 1) := by decide +kernel
theorem dX1_carry_282 : decode cX1_carry 282 = .ok (.getfield 48, 3) := by decide +kernel
theorem dX1_carry_285 : decode cX1_carry 285 = .ok (.iload 6, 2) := by decide +kernel
theorem dX1_carry_287 : decode cX1_carry 287 = .ok (.laload, 1) := by decide +kernel
theorem dX1_carry_288 : decode cX1_carry 288 = .ok (.lastore, 1) := by decide +kernel
theorem dX1_carry_289 : decode cX1_carry 289 = .ok (.iinc 6 1, 3) := by decide +kernel
theorem dX1_carry_292 : decode cX1_carry 292 = .ok (.goto (-99), 3) := by decide +kernel
theorem dX1_carry_295 : decode cX1_carry 295 = .ok (.iconst 1, 1) := by decide +kernel
theorem dX1_carry_296 : decode cX1_carry 296 = .ok (.ireturn, 1) := by decide +kernel
theorem dX1_about_0 : decode cX1_about 0 = .ok (.aload_n 0, 1) := by decide +kernel
theorem dX1_about_1 : decode cX1_about 1 = .ok (.iload_n 1, 1) := by decide +kernel
theorem dX1_about_2 : decode cX1_about 2 = .ok (.invokevirtual 104, 3) := by decide +kernel
theorem dX1_about_5 : decode cX1_about 5 = .ok (.ifCond .eq 12, 3) := by decide +kernel
theorem dX1_about_8 : decode cX1_about 8 = .ok (.iload_n 2, 1) := by decide +kernel
theorem dX1_about_9 : decode cX1_about 9 = .ok (.iconst 0, 1) := by decide +kernel
theorem dX1_about_10 : decode cX1_about 10 = .ok (.iconst 2, 1) := by decide +kernel
theorem dX1_about_11 : decode cX1_about 11 = .ok (.invokestatic 60, 3) := by decide +kernel
theorem dX1_about_14 : decode cX1_about 14 = .ok (.ifCond .ne 6, 3) := by decide +kernel
theorem dX1_about_17 : decode cX1_about 17 = .ok (.bipush (-2), 2) := by decide +kernel
theorem dX1_about_19 : decode cX1_about 19 = .ok (.ireturn, 1) := by decide +kernel
theorem dX1_about_20 : decode cX1_about 20 = .ok (.iload_n 2, 1) := by decide +kernel
theorem dX1_about_21 : decode cX1_about 21 = .ok (.ifCond .ne 12, 3) := by decide +kernel
theorem dX1_about_24 : decode cX1_about 24 = .ok (.aload_n 0, 1) := by decide +kernel
theorem dX1_about_25 : decode cX1_about 25 = .ok (.getfield 7, 3) := by decide +kernel
theorem dX1_about_28 : decode cX1_about 28 = .ok (.iload_n 1, 1) := by decide +kernel
theorem dX1_about_29 : decode cX1_about 29 = .ok (.iaload, 1) := by decide +kernel
theorem dX1_about_30 : decode cX1_about 30 = .ok (.goto 36, 3) := by decide +kernel
theorem dX1_about_33 : decode cX1_about 33 = .ok (.iload_n 2, 1) := by decide +kernel
theorem dX1_about_34 : decode cX1_about 34 = .ok (.iconst 1, 1) := by decide +kernel
theorem dX1_about_35 : decode cX1_about 35 = .ok (.if_icmp .ne 12, 3) := by decide +kernel
theorem dX1_about_38 : decode cX1_about 38 = .ok (.aload_n 0, 1) := by decide +kernel
theorem dX1_about_39 : decode cX1_about 39 = .ok (.getfield 13, 3) := by decide +kernel
theorem dX1_about_42 : decode cX1_about 42 = .ok (.iload_n 1, 1) := by decide +kernel
theorem dX1_about_43 : decode cX1_about 43 = .ok (.iaload, 1) := by decide +kernel
theorem dX1_about_44 : decode cX1_about 44 = .ok (.goto 22, 3) := by decide +kernel
theorem dX1_about_47 : decode cX1_about 47 = .ok (.aload_n 0, 1) := by decide +kernel
theorem dX1_about_48 : decode cX1_about 48 = .ok (.getfield 13, 3) := by decide +kernel
theorem dX1_about_51 : decode cX1_about 51 = .ok (.iload_n 1, 1) := by decide +kernel
theorem dX1_about_52 : decode cX1_about 52 = .ok (.iaload, 1) := by decide +kernel
theorem dX1_about_53 : decode cX1_about 53 = .ok (.ifCond .ne 7, 3) := by decide +kernel
theorem dX1_about_56 : decode cX1_about 56 = .ok (.iconst (-1), 1) := by decide +kernel
theorem dX1_about_57 : decode cX1_about 57 = .ok (.goto 9, 3) := by decide +kernel
theorem dX1_about_60 : decode cX1_about 60 = .ok (.aload_n 0, 1) := by decide +kernel
theorem dX1_about_61 : decode cX1_about 61 = .ok (.getfield 16, 3) := by decide +kernel
theorem dX1_about_64 : decode cX1_about 64 = .ok (.iload_n 1, 1) := by decide +kernel
theorem dX1_about_65 : decode cX1_about 65 = .ok (.iaload, 1) := by decide +kernel
theorem dX1_about_66 : decode cX1_about 66 = .ok (.ireturn, 1) := by decide +kernel
theorem dX1_bases_0 : decode cX1_bases 0 = .ok (.aload_n 0, 1) := by decide +kernel
theorem dX1_bases_1 : decode cX1_bases 1 = .ok (.iload_n 1, 1) := by decide +kernel
theorem dX1_bases_2 : decode cX1_bases 2 = .ok (.invokevirtual 104, 3) := by decide +kernel
theorem dX1_bases_5 : decode cX1_bases 5 = .ok (.ifCond .ne 6, 3) := by decide +kernel
theorem dX1_bases_8 : decode cX1_bases 8 = .ok (.bipush (-2), 2) := by decide +kernel
theorem dX1_bases_10 : decode cX1_bases 10 = .ok (.ireturn, 1) := by decide +kernel
theorem dX1_bases_11 : decode cX1_bases 11 = .ok (.iconst 0, 1) := by decide +kernel
theorem dX1_bases_12 : decode cX1_bases 12 = .ok (.istore_n 2, 1) := by decide +kernel
theorem dX1_bases_13 : decode cX1_bases 13 = .ok (.iconst 0, 1) := by decide +kernel
theorem dX1_bases_14 : decode cX1_bases 14 = .ok (.istore_n 3, 1) := by decide +kernel
theorem dX1_bases_15 : decode cX1_bases 15 = .ok (.iload_n 3, 1) := by decide +kernel
theorem dX1_bases_16 : decode cX1_bases 16 = .ok (.bipush 7, 2) := by decide +kernel
theorem dX1_bases_18 : decode cX1_bases 18 = .ok (.if_icmp .ge 32, 3) := by decide +kernel
theorem dX1_bases_21 : decode cX1_bases 21 = .ok (.iload_n 2, 1) := by decide +kernel
theorem dX1_bases_22 : decode cX1_bases 22 = .ok (.aload_n 0, 1) := by decide +kernel
theorem dX1_bases_23 : decode cX1_bases 23 = .ok (.getfield 7, 3) := by decide +kernel
theorem dX1_bases_26 : decode cX1_bases 26 = .ok (.iload_n 1, 1) := by decide +kernel
theorem dX1_bases_27 : decode cX1_bases 27 = .ok (.iaload, 1) := by decide +kernel
theorem dX1_bases_28 : decode cX1_bases 28 = .ok (.iload_n 3, 1) := by decide +kernel
theorem dX1_bases_29 : decode cX1_bases 29 = .ok (.invokestatic 64, 3) := by decide +kernel
theorem dX1_bases_32 : decode cX1_bases 32 = .ok (.ifCond .eq 9, 3) := by decide +kernel
theorem dX1_bases_35 : decode cX1_bases 35 = .ok (.iconst 1, 1) := by decide +kernel
theorem dX1_bases_36 : decode cX1_bases 36 = .ok (.iload_n 3, 1) := by decide +kernel
theorem dX1_bases_37 : decode cX1_bases 37 = .ok (.ishl, 1) := by decide +kernel
theorem dX1_bases_38 : decode cX1_bases 38 = .ok (.goto 4, 3) := by decide +kernel
theorem dX1_bases_41 : decode cX1_bases 41 = .ok (.iconst 0, 1) := by decide +kernel
theorem dX1_bases_42 : decode cX1_bases 42 = .ok (.ior, 1) := by decide +kernel
theorem dX1_bases_43 : decode cX1_bases 43 = .ok (.istore_n 2, 1) := by decide +kernel
theorem dX1_bases_44 : decode cX1_bases 44 = .ok (.iinc 3 1, 3) := by decide +kernel
theorem dX1_bases_47 : decode cX1_bases 47 = .ok (.goto (-32), 3) := by decide +kernel
theorem dX1_bases_50 : decode cX1_bases 50 = .ok (.iload_n 2, 1) := by decide +kernel
theorem dX1_bases_51 : decode cX1_bases 51 = .ok (.ireturn, 1) := by decide +kernel
theorem dX1_count_0 : decode cX1_count 0 = .ok (.iload_n 1, 1) := by decide +kernel
theorem dX1_count_1 : decode cX1_count 1 = .ok (.ifCond .ne 10, 3) := by decide +kernel
theorem dX1_count_4 : decode cX1_count 4 = .ok (.aload_n 0, 1) := by decide +kernel
theorem dX1_count_5 : decode cX1_count 5 = .ok (.getfield 57, 3) := by decide +kernel
theorem dX1_count_8 : decode cX1_count 8 = .ok (.goto 29, 3) := by decide +kernel
theorem dX1_count_11 : decode cX1_count 11 = .ok (.iload_n 1, 1) := by decide +kernel
theorem dX1_count_12 : decode cX1_count 12 = .ok (.iconst 1, 1) := by decide +kernel
theorem dX1_count_13 : decode cX1_count 13 = .ok (.if_icmp .ne 10, 3) := by decide +kernel
theorem dX1_count_16 : decode cX1_count 16 = .ok (.aload_n 0, 1) := by decide +kernel
theorem dX1_count_17 : decode cX1_count 17 = .ok (.getfield 51, 3) := by decide +kernel
theorem dX1_count_20 : decode cX1_count 20 = .ok (.goto 17, 3) := by decide +kernel
theorem dX1_count_23 : decode cX1_count 23 = .ok (.iload_n 1, 1) := by decide +kernel
theorem dX1_count_24 : decode cX1_count 24 = .ok (.iconst 2, 1) := by decide +kernel
theorem dX1_count_25 : decode cX1_count 25 = .ok (.if_icmp .ne 10, 3) := by decide +kernel
theorem dX1_count_28 : decode cX1_count 28 = .ok (.aload_n 0, 1) := by decide +kernel
theorem dX1_count_29 : decode cX1_count 29 = .ok (.getfield 54, 3) := by decide +kernel
theorem dX1_count_32 : decode cX1_count 32 = .ok (.goto 5, 3) := by decide +kernel
theorem dX1_count_35 : decode cX1_count 35 = .ok (.bipush (-2), 2) := by decide +kernel
theorem dX1_count_37 : decode cX1_count 37 = .ok (.ireturn, 1) := by decide +kernel
theorem dX1_clear_0 : decode cX1_clear 0 = .ok (.aload_n 0, 1) := by decide +kernel
theorem dX1_clear_1 : decode cX1_clear 1 = .ok (.getfield 57, 3) := by decide +kernel
theorem dX1_clear_4 : decode cX1_clear 4 = .ok (.istore_n 1, 1) := by decide +kernel
theorem dX1_clear_5 : decode cX1_clear 5 = .ok (.aload_n 0, 1) := by decide +kernel
theorem dX1_clear_6 : decode cX1_clear 6 = .ok (.iconst 0, 1) := by decide +kernel
theorem dX1_clear_7 : decode cX1_clear 7 = .ok (.putfield 57, 3) := by decide +kernel
theorem dX1_clear_10 : decode cX1_clear 10 = .ok (.iconst 0, 1) := by decide +kernel
theorem dX1_clear_11 : decode cX1_clear 11 = .ok (.istore_n 2, 1) := by decide +kernel
theorem dX1_clear_12 : decode cX1_clear 12 = .ok (.iload_n 2, 1) := by decide +kernel
theorem dX1_clear_13 : decode cX1_clear 13 = .ok (.bipush 8, 2) := by decide +kernel
theorem dX1_clear_15 : decode cX1_clear 15 = .ok (.if_icmp .ge 23, 3) := by decide +kernel
theorem dX1_clear_18 : decode cX1_clear 18 = .ok (.aload_n 0, 1) := by decide +kernel
theorem dX1_clear_19 : decode cX1_clear 19 = .ok (.getfield 29, 3) := by decide +kernel
theorem dX1_clear_22 : decode cX1_clear 22 = .ok (.iload_n 2, 1) := by decide +kernel
theorem dX1_clear_23 : decode cX1_clear 23 = .ok (.iconst 0, 1) := by decide +kernel
theorem dX1_clear_24 : decode cX1_clear 24 = .ok (.iastore, 1) := by decide +kernel
theorem dX1_clear_25 : decode cX1_clear 25 = .ok (.aload_n 0, 1) := by decide +kernel
theorem dX1_clear_26 : decode cX1_clear 26 = .ok (.getfield 32, 3) := by decide +kernel
theorem dX1_clear_29 : decode cX1_clear 29 = .ok (.iload_n 2, 1) := by decide +kernel
theorem dX1_clear_30 : decode cX1_clear 30 = .ok (.iconst 0, 1) := by decide +kernel
theorem dX1_clear_31 : decode cX1_clear 31 = .ok (.iastore, 1) := by decide +kernel
theorem dX1_clear_32 : decode cX1_clear 32 = .ok (.iinc 2 1, 3) := by decide +kernel
theorem dX1_clear_35 : decode cX1_clear 35 = .ok (.goto (-23), 3) := by decide +kernel
theorem dX1_clear_38 : decode cX1_clear 38 = .ok (.iload_n 1, 1) := by decide +kernel
theorem dX1_clear_39 : decode cX1_clear 39 = .ok (.ireturn, 1) := by decide +kernel
