-- names, fields, decode rows: out of claim/NAMES.whole.lean.txt (printed of the program itself)
def RX0 : String := "LetterShelves$Bags"
def TX0 : u_T := fun k => match k with
  | 0 => ("LetterShelves$Bags", "begins", "[I", true)
  | 1 => ("LetterShelves$Bags", "totals", "[I", true)
  | 2 => ("LetterShelves$Bags", "number", "I", false)
  | _ => ("LetterShelves$Bags", "letterCount", "I", false)
def tyX0 : Nat → FieldType := fun k => match k with
  | 0 => .array .int
  | 1 => .array .int
  | 2 => .int
  | _ => .int
abbrev wsX00 : List Cond := u_ws RX0 TX0 4
theorem nmX0 : ∀ a, a < 4 → ∀ b, b < 4 → a ≠ b → (TX0 a).2.1 ≠ (TX0 b).2.1 := by decide +kernel
theorem tyX0_ok : ∀ k, k < 4 → parseFieldDescriptor (TX0 k).2.2.1 = some (tyX0 k) := by decide +kernel
abbrev cX0_init : ByteArray := prog_2_method_1_code
def yX0_init : MethodName := ⟨RX0, "<init>", "()V"⟩
abbrev cX0_fill : ByteArray := prog_2_method_2_code
def yX0_fill : MethodName := ⟨RX0, "fill", "(LLetterShelves$Letters;)V"⟩
abbrev cX0_open : ByteArray := prog_2_method_3_code
def yX0_open : MethodName := ⟨RX0, "open", "(I)V"⟩
abbrev cX0_addToLatest : ByteArray := prog_2_method_4_code
def yX0_addToLatest : MethodName := ⟨RX0, "addToLatest", "(I)V"⟩
abbrev cX0_number : ByteArray := prog_2_method_5_code
def yX0_number : MethodName := ⟨RX0, "number", "()I"⟩
abbrev cX0_beginOf : ByteArray := prog_2_method_6_code
def yX0_beginOf : MethodName := ⟨RX0, "beginOf", "(I)I"⟩
abbrev cX0_endOf : ByteArray := prog_2_method_7_code
def yX0_endOf : MethodName := ⟨RX0, "endOf", "(I)I"⟩
abbrev cX0_totalOf : ByteArray := prog_2_method_8_code
def yX0_totalOf : MethodName := ⟨RX0, "totalOf", "(I)I"⟩
abbrev cX0_bagWith : ByteArray := prog_2_method_9_code
def yX0_bagWith : MethodName := ⟨RX0, "bagWith", "(I)I"⟩
abbrev cX0_byTotal : ByteArray := prog_2_method_10_code
def yX0_byTotal : MethodName := ⟨RX0, "byTotal", "(I)I"⟩
abbrev cX0_numberAheadOf : ByteArray := prog_2_method_11_code
def yX0_numberAheadOf : MethodName := ⟨RX0, "numberAheadOf", "(I)I"⟩
abbrev cX0_isAhead : ByteArray := prog_2_method_12_code
def yX0_isAhead : MethodName := ⟨RX0, "isAhead", "(II)Z"⟩
def RX1 : String := "LetterShelves$Letters"
def TX1 : u_T := fun k => match k with
  | 0 => ("LetterShelves$Letters", "weights", "[I", true)
  | 1 => ("LetterShelves$Letters", "size", "I", false)
  | 2 => ("LetterShelves$Letters", "marks", "J", false)
  | 3 => ("LetterShelves$Letters", "came", "I", false)
  | 4 => ("LetterShelves$Letters", "left", "I", false)
  | _ => ("LetterShelves$Letters", "swaps", "I", false)
def tyX1 : Nat → FieldType := fun k => match k with
  | 0 => .array .int
  | 1 => .int
  | 2 => .long
  | 3 => .int
  | 4 => .int
  | _ => .int
abbrev wsX10 : List Cond := u_ws RX1 TX1 6
theorem nmX1 : ∀ a, a < 6 → ∀ b, b < 6 → a ≠ b → (TX1 a).2.1 ≠ (TX1 b).2.1 := by decide +kernel
theorem tyX1_ok : ∀ k, k < 6 → parseFieldDescriptor (TX1 k).2.2.1 = some (tyX1 k) := by decide +kernel
abbrev cX1_init : ByteArray := prog_3_method_1_code
def yX1_init : MethodName := ⟨RX1, "<init>", "()V"⟩
abbrev cX1_size : ByteArray := prog_3_method_2_code
def yX1_size : MethodName := ⟨RX1, "size", "()I"⟩
abbrev cX1_came : ByteArray := prog_3_method_3_code
def yX1_came : MethodName := ⟨RX1, "came", "()I"⟩
abbrev cX1_left : ByteArray := prog_3_method_4_code
def yX1_left : MethodName := ⟨RX1, "left", "()I"⟩
abbrev cX1_swaps : ByteArray := prog_3_method_5_code
def yX1_swaps : MethodName := ⟨RX1, "swaps", "()I"⟩
abbrev cX1_marked : ByteArray := prog_3_method_6_code
def yX1_marked : MethodName := ⟨RX1, "marked", "()I"⟩
abbrev cX1_isFull : ByteArray := prog_3_method_7_code
def yX1_isFull : MethodName := ⟨RX1, "isFull", "()Z"⟩
abbrev cX1_has : ByteArray := prog_3_method_8_code
def yX1_has : MethodName := ⟨RX1, "has", "(I)Z"⟩
abbrev cX1_hasNext : ByteArray := prog_3_method_9_code
def yX1_hasNext : MethodName := ⟨RX1, "hasNext", "(I)Z"⟩
abbrev cX1_at : ByteArray := prog_3_method_10_code
def yX1_at : MethodName := ⟨RX1, "at", "(I)I"⟩
abbrev cX1_isMarkedAt : ByteArray := prog_3_method_11_code
def yX1_isMarkedAt : MethodName := ⟨RX1, "isMarkedAt", "(I)Z"⟩
abbrev cX1_total : ByteArray := prog_3_method_12_code
def yX1_total : MethodName := ⟨RX1, "total", "()I"⟩
abbrev cX1_come : ByteArray := prog_3_method_13_code
def yX1_come : MethodName := ⟨RX1, "come", "(II)Z"⟩
abbrev cX1_leave : ByteArray := prog_3_method_14_code
def yX1_leave : MethodName := ⟨RX1, "leave", "(I)Z"⟩
abbrev cX1_exchange : ByteArray := prog_3_method_15_code
def yX1_exchange : MethodName := ⟨RX1, "exchange", "(I)Z"⟩
abbrev cX1_setMark : ByteArray := prog_3_method_16_code
def yX1_setMark : MethodName := ⟨RX1, "setMark", "(IZ)Z"⟩
abbrev cX1_obey : ByteArray := prog_3_method_17_code
def yX1_obey : MethodName := ⟨RX1, "obey", "(III)Z"⟩
abbrev cX1_becomeLike : ByteArray := prog_3_method_18_code
def yX1_becomeLike : MethodName := ⟨RX1, "becomeLike", "(LLetterShelves$Letters;)V"⟩
abbrev cX1_lay : ByteArray := prog_3_method_19_code
def yX1_lay : MethodName := ⟨RX1, "lay", "(II)V"⟩
def RX2 : String := "LetterShelves$Line"
def TX2 : u_T := fun k => match k with
  | 0 => ("LetterShelves$Line", "codes", "[I", true)
  | _ => ("LetterShelves$Line", "size", "I", false)
def tyX2 : Nat → FieldType := fun k => match k with
  | 0 => .array .int
  | _ => .int
abbrev wsX20 : List Cond := u_ws RX2 TX2 2
theorem nmX2 : ∀ a, a < 2 → ∀ b, b < 2 → a ≠ b → (TX2 a).2.1 ≠ (TX2 b).2.1 := by decide +kernel
theorem tyX2_ok : ∀ k, k < 2 → parseFieldDescriptor (TX2 k).2.2.1 = some (tyX2 k) := by decide +kernel
abbrev cX2_init : ByteArray := prog_4_method_1_code
def yX2_init : MethodName := ⟨RX2, "<init>", "()V"⟩
def RX3 : String := "LetterShelves$Past"
def TX3 : u_T := fun k => match k with
  | 0 => ("LetterShelves$Past", "kept", "[LLetterShelves$Letters;", true)
  | 1 => ("LetterShelves$Past", "first", "I", false)
  | _ => ("LetterShelves$Past", "size", "I", false)
def tyX3 : Nat → FieldType := fun k => match k with
  | 0 => .array (.object "LetterShelves$Letters")
  | 1 => .int
  | _ => .int
abbrev wsX30 : List Cond := u_ws RX3 TX3 3
theorem nmX3 : ∀ a, a < 3 → ∀ b, b < 3 → a ≠ b → (TX3 a).2.1 ≠ (TX3 b).2.1 := by decide +kernel
theorem tyX3_ok : ∀ k, k < 3 → parseFieldDescriptor (TX3 k).2.2.1 = some (tyX3 k) := by decide +kernel
abbrev cX3_init : ByteArray := prog_5_method_1_code
def yX3_init : MethodName := ⟨RX3, "<init>", "()V"⟩
abbrev cX3_size : ByteArray := prog_5_method_2_code
def yX3_size : MethodName := ⟨RX3, "size", "()I"⟩
abbrev cX3_keep : ByteArray := prog_5_method_3_code
def yX3_keep : MethodName := ⟨RX3, "keep", "(LLetterShelves$Letters;)V"⟩
abbrev cX3_giveBack : ByteArray := prog_5_method_4_code
def yX3_giveBack : MethodName := ⟨RX3, "giveBack", "(LLetterShelves$Letters;)Z"⟩
abbrev cX3_forget : ByteArray := prog_5_method_5_code
def yX3_forget : MethodName := ⟨RX3, "forget", "()V"⟩
abbrev cX3_slotAt : ByteArray := prog_5_method_6_code
def yX3_slotAt : MethodName := ⟨RX3, "slotAt", "(I)LLetterShelves$Letters;"⟩
def RX4 : String := "LetterShelves$Rows"
def TX4 : u_T := fun k => match k with
  | 0 => ("LetterShelves$Rows", "wholes", "[J", true)
  | 1 => ("LetterShelves$Rows", "onesAtBlocks", "[[I", true)
  | 2 => ("LetterShelves$Rows", "zeros", "[I", true)
  | 3 => ("LetterShelves$Rows", "order", "[I", true)
  | 4 => ("LetterShelves$Rows", "nextOrder", "[I", true)
  | _ => ("LetterShelves$Rows", "size", "I", false)
def tyX4 : Nat → FieldType := fun k => match k with
  | 0 => .array .long
  | 1 => .array (.array .int)
  | 2 => .array .int
  | 3 => .array .int
  | 4 => .array .int
  | _ => .int
abbrev wsX40 : List Cond := u_ws RX4 TX4 6
theorem nmX4 : ∀ a, a < 6 → ∀ b, b < 6 → a ≠ b → (TX4 a).2.1 ≠ (TX4 b).2.1 := by decide +kernel
theorem tyX4_ok : ∀ k, k < 6 → parseFieldDescriptor (TX4 k).2.2.1 = some (tyX4 k) := by decide +kernel
abbrev cX4_init : ByteArray := prog_6_method_1_code
def yX4_init : MethodName := ⟨RX4, "<init>", "()V"⟩
abbrev cX4_fill : ByteArray := prog_6_method_2_code
def yX4_fill : MethodName := ⟨RX4, "fill", "(LLetterShelves$Letters;)V"⟩
abbrev cX4_fillRow : ByteArray := prog_6_method_3_code
def yX4_fillRow : MethodName := ⟨RX4, "fillRow", "(I)V"⟩
abbrev cX4_sortByBit : ByteArray := prog_6_method_4_code
def yX4_sortByBit : MethodName := ⟨RX4, "sortByBit", "(I)V"⟩
abbrev cX4_gather : ByteArray := prog_6_method_5_code
def yX4_gather : MethodName := ⟨RX4, "gather", "(IZI)I"⟩
abbrev cX4_wholeRow : ByteArray := prog_6_method_6_code
def yX4_wholeRow : MethodName := ⟨RX4, "wholeRow", "(I)J"⟩
abbrev cX4_bitAt : ByteArray := prog_6_method_7_code
def yX4_bitAt : MethodName := ⟨RX4, "bitAt", "(II)I"⟩
abbrev cX4_onesOf : ByteArray := prog_6_method_8_code
def yX4_onesOf : MethodName := ⟨RX4, "onesOf", "(I)I"⟩
abbrev cX4_onesOfAll : ByteArray := prog_6_method_9_code
def yX4_onesOfAll : MethodName := ⟨RX4, "onesOfAll", "()I"⟩
abbrev cX4_ahead : ByteArray := prog_6_method_10_code
def yX4_ahead : MethodName := ⟨RX4, "ahead", "(IZI)I"⟩
abbrev cX4_aheadOneByOne : ByteArray := prog_6_method_11_code
def yX4_aheadOneByOne : MethodName := ⟨RX4, "aheadOneByOne", "(IZI)I"⟩
abbrev cX4_isThere : ByteArray := prog_6_method_12_code
def yX4_isThere : MethodName := ⟨RX4, "isThere", "(IZI)Z"⟩
abbrev cX4_placeOf : ByteArray := prog_6_method_13_code
def yX4_placeOf : MethodName := ⟨RX4, "placeOf", "(IZI)I"⟩
abbrev cX4_zerosOf : ByteArray := prog_6_method_14_code
def yX4_zerosOf : MethodName := ⟨RX4, "zerosOf", "(I)I"⟩
abbrev cX4_down : ByteArray := prog_6_method_15_code
def yX4_down : MethodName := ⟨RX4, "down", "(IZI)I"⟩
abbrev cX4_placeDownTo : ByteArray := prog_6_method_16_code
def yX4_placeDownTo : MethodName := ⟨RX4, "placeDownTo", "(II)I"⟩
abbrev cX4_weightOf : ByteArray := prog_6_method_17_code
def yX4_weightOf : MethodName := ⟨RX4, "weightOf", "(I)I"⟩
abbrev cX4_weightBySize : ByteArray := prog_6_method_18_code
def yX4_weightBySize : MethodName := ⟨RX4, "weightBySize", "(III)I"⟩
abbrev cX4_numberOf : ByteArray := prog_6_method_19_code
def yX4_numberOf : MethodName := ⟨RX4, "numberOf", "(III)I"⟩
abbrev cX4_numberBelow : ByteArray := prog_6_method_20_code
def yX4_numberBelow : MethodName := ⟨RX4, "numberBelow", "(III)I"⟩
abbrev cX4_downAll : ByteArray := prog_6_method_21_code
def yX4_downAll : MethodName := ⟨RX4, "downAll", "(II)I"⟩
abbrev cX4_placeBack : ByteArray := prog_6_method_22_code
def yX4_placeBack : MethodName := ⟨RX4, "placeBack", "(II)I"⟩
def RX5 : String := "LetterShelves$Sizes"
def TX5 : u_T := fun k => match k with
  | 0 => ("LetterShelves$Sizes", "sorted", "[I", true)
  | _ => ("LetterShelves$Sizes", "size", "I", false)
def tyX5 : Nat → FieldType := fun k => match k with
  | 0 => .array .int
  | _ => .int
abbrev wsX50 : List Cond := u_ws RX5 TX5 2
theorem nmX5 : ∀ a, a < 2 → ∀ b, b < 2 → a ≠ b → (TX5 a).2.1 ≠ (TX5 b).2.1 := by decide +kernel
theorem tyX5_ok : ∀ k, k < 2 → parseFieldDescriptor (TX5 k).2.2.1 = some (tyX5 k) := by decide +kernel
abbrev cX5_init : ByteArray := prog_7_method_1_code
def yX5_init : MethodName := ⟨RX5, "<init>", "()V"⟩
abbrev cX5_fill : ByteArray := prog_7_method_2_code
def yX5_fill : MethodName := ⟨RX5, "fill", "(LLetterShelves$Letters;II)V"⟩
abbrev cX5_lay : ByteArray := prog_7_method_3_code
def yX5_lay : MethodName := ⟨RX5, "lay", "(I)V"⟩
abbrev cX5_at : ByteArray := prog_7_method_4_code
def yX5_at : MethodName := ⟨RX5, "at", "(I)I"⟩
def RX6 : String := "LetterShelves$Tally"
def TX6 : u_T := fun k => match k with
  | _ => ("LetterShelves$Tally", "numbers", "[I", true)
def tyX6 : Nat → FieldType := fun k => match k with
  | _ => .array .int
abbrev wsX60 : List Cond := u_ws RX6 TX6 1
theorem nmX6 : ∀ a, a < 1 → ∀ b, b < 1 → a ≠ b → (TX6 a).2.1 ≠ (TX6 b).2.1 := by decide +kernel
theorem tyX6_ok : ∀ k, k < 1 → parseFieldDescriptor (TX6 k).2.2.1 = some (tyX6 k) := by decide +kernel
abbrev cX6_init : ByteArray := prog_8_method_1_code
def yX6_init : MethodName := ⟨RX6, "<init>", "()V"⟩
abbrev cX6_fill : ByteArray := prog_8_method_2_code
def yX6_fill : MethodName := ⟨RX6, "fill", "(LLetterShelves$Letters;II)V"⟩
abbrev cX6_unlike : ByteArray := prog_8_method_3_code
def yX6_unlike : MethodName := ⟨RX6, "unlike", "()I"⟩
abbrev cX6_byNumber : ByteArray := prog_8_method_4_code
def yX6_byNumber : MethodName := ⟨RX6, "byNumber", "(I)I"⟩
abbrev cX6_numberAheadOf : ByteArray := prog_8_method_5_code
def yX6_numberAheadOf : MethodName := ⟨RX6, "numberAheadOf", "(I)I"⟩
def RX7 : String := "LetterShelves$Text"
def TX7 : u_T := fun k => match k with
  | 0 => ("LetterShelves$Text", "codes", "[I", true)
  | 1 => ("LetterShelves$Text", "size", "I", false)
  | 2 => ("LetterShelves$Text", "kinds", "[I", true)
  | 3 => ("LetterShelves$Text", "firsts", "[I", true)
  | 4 => ("LetterShelves$Text", "seconds", "[I", true)
  | 5 => ("LetterShelves$Text", "orders", "I", false)
  | 6 => ("LetterShelves$Text", "cursor", "I", false)
  | _ => ("LetterShelves$Text", "latestNumber", "I", false)
def tyX7 : Nat → FieldType := fun k => match k with
  | 0 => .array .int
  | 1 => .int
  | 2 => .array .int
  | 3 => .array .int
  | 4 => .array .int
  | 5 => .int
  | 6 => .int
  | _ => .int
abbrev wsX70 : List Cond := u_ws RX7 TX7 8
theorem nmX7 : ∀ a, a < 8 → ∀ b, b < 8 → a ≠ b → (TX7 a).2.1 ≠ (TX7 b).2.1 := by decide +kernel
theorem tyX7_ok : ∀ k, k < 8 → parseFieldDescriptor (TX7 k).2.2.1 = some (tyX7 k) := by decide +kernel
abbrev cX7_init : ByteArray := prog_9_method_1_code
def yX7_init : MethodName := ⟨RX7, "<init>", "()V"⟩
abbrev cX7_size : ByteArray := prog_9_method_2_code
def yX7_size : MethodName := ⟨RX7, "size", "()I"⟩
abbrev cX7_isFull : ByteArray := prog_9_method_3_code
def yX7_isFull : MethodName := ⟨RX7, "isFull", "()Z"⟩
abbrev cX7_add : ByteArray := prog_9_method_4_code
def yX7_add : MethodName := ⟨RX7, "add", "(I)V"⟩
abbrev cX7_empty : ByteArray := prog_9_method_5_code
def yX7_empty : MethodName := ⟨RX7, "empty", "()V"⟩
abbrev cX7_orders : ByteArray := prog_9_method_6_code
def yX7_orders : MethodName := ⟨RX7, "orders", "()I"⟩
abbrev cX7_kindOf : ByteArray := prog_9_method_7_code
def yX7_kindOf : MethodName := ⟨RX7, "kindOf", "(I)I"⟩
abbrev cX7_firstOf : ByteArray := prog_9_method_8_code
def yX7_firstOf : MethodName := ⟨RX7, "firstOf", "(I)I"⟩
abbrev cX7_secondOf : ByteArray := prog_9_method_9_code
def yX7_secondOf : MethodName := ⟨RX7, "secondOf", "(I)I"⟩
abbrev cX7_read : ByteArray := prog_9_method_10_code
def yX7_read : MethodName := ⟨RX7, "read", "()I"⟩
abbrev cX7_readOrder : ByteArray := prog_9_method_11_code
def yX7_readOrder : MethodName := ⟨RX7, "readOrder", "()Z"⟩
abbrev cX7_wordOf : ByteArray := prog_9_method_12_code
def yX7_wordOf : MethodName := ⟨RX7, "wordOf", "(I)Ljava/lang/String;"⟩
abbrev cX7_readWord : ByteArray := prog_9_method_13_code
def yX7_readWord : MethodName := ⟨RX7, "readWord", "(Ljava/lang/String;)Z"⟩
abbrev cX7_readNumber : ByteArray := prog_9_method_14_code
def yX7_readNumber : MethodName := ⟨RX7, "readNumber", "()Z"⟩
abbrev cX7_readSign : ByteArray := prog_9_method_15_code
def yX7_readSign : MethodName := ⟨RX7, "readSign", "(I)Z"⟩
abbrev cX7_digitAt : ByteArray := prog_9_method_16_code
def yX7_digitAt : MethodName := ⟨RX7, "digitAt", "(I)I"⟩
abbrev cX7_codeAt : ByteArray := prog_9_method_17_code
def yX7_codeAt : MethodName := ⟨RX7, "codeAt", "(I)I"⟩
abbrev cX7_addOrder : ByteArray := prog_9_method_18_code
def yX7_addOrder : MethodName := ⟨RX7, "addOrder", "(III)V"⟩
def RX8 : String := "LetterShelves"
def TX8 : u_T := fun k => match k with
  | 0 => ("LetterShelves", "letters", "LLetterShelves$Letters;", true)
  | 1 => ("LetterShelves", "trial", "LLetterShelves$Letters;", true)
  | 2 => ("LetterShelves", "snapshot", "LLetterShelves$Letters;", true)
  | 3 => ("LetterShelves", "isSaved", "Z", false)
  | 4 => ("LetterShelves", "past", "LLetterShelves$Past;", true)
  | 5 => ("LetterShelves", "rows", "LLetterShelves$Rows;", true)
  | 6 => ("LetterShelves", "bags", "LLetterShelves$Bags;", true)
  | 7 => ("LetterShelves", "tally", "LLetterShelves$Tally;", true)
  | 8 => ("LetterShelves", "sizes", "LLetterShelves$Sizes;", true)
  | 9 => ("LetterShelves", "text", "LLetterShelves$Text;", true)
  | 10 => ("LetterShelves", "line", "LLetterShelves$Line;", true)
  | 11 => ("LetterShelves", "latestReason", "I", false)
  | _ => ("LetterShelves", "latestDetail", "I", false)
def tyX8 : Nat → FieldType := fun k => match k with
  | 0 => .object "LetterShelves$Letters"
  | 1 => .object "LetterShelves$Letters"
  | 2 => .object "LetterShelves$Letters"
  | 3 => .boolean
  | 4 => .object "LetterShelves$Past"
  | 5 => .object "LetterShelves$Rows"
  | 6 => .object "LetterShelves$Bags"
  | 7 => .object "LetterShelves$Tally"
  | 8 => .object "LetterShelves$Sizes"
  | 9 => .object "LetterShelves$Text"
  | 10 => .object "LetterShelves$Line"
  | 11 => .int
  | _ => .int
abbrev wsX80 : List Cond := u_ws RX8 TX8 13
theorem nmX8 : ∀ a, a < 13 → ∀ b, b < 13 → a ≠ b → (TX8 a).2.1 ≠ (TX8 b).2.1 := by decide +kernel
theorem tyX8_ok : ∀ k, k < 13 → parseFieldDescriptor (TX8 k).2.2.1 = some (tyX8 k) := by decide +kernel
abbrev cX8_init : ByteArray := prog_1_method_1_code
def yX8_init : MethodName := ⟨RX8, "<init>", "()V"⟩
abbrev cX8_put : ByteArray := prog_1_method_2_code
def yX8_put : MethodName := ⟨RX8, "put", "(I)I"⟩
abbrev cX8_insert : ByteArray := prog_1_method_3_code
def yX8_insert : MethodName := ⟨RX8, "insert", "(II)I"⟩
abbrev cX8_take : ByteArray := prog_1_method_4_code
def yX8_take : MethodName := ⟨RX8, "take", "(I)I"⟩
abbrev cX8_swap : ByteArray := prog_1_method_5_code
def yX8_swap : MethodName := ⟨RX8, "swap", "(I)I"⟩
abbrev cX8_mark : ByteArray := prog_1_method_6_code
def yX8_mark : MethodName := ⟨RX8, "mark", "(IZ)I"⟩
abbrev cX8_weight : ByteArray := prog_1_method_7_code
def yX8_weight : MethodName := ⟨RX8, "weight", "(I)I"⟩
abbrev cX8_weightAgain : ByteArray := prog_1_method_8_code
def yX8_weightAgain : MethodName := ⟨RX8, "weightAgain", "(I)I"⟩
abbrev cX8_bit : ByteArray := prog_1_method_9_code
def yX8_bit : MethodName := ⟨RX8, "bit", "(II)I"⟩
abbrev cX8_bits : ByteArray := prog_1_method_10_code
def yX8_bits : MethodName := ⟨RX8, "bits", "(I)J"⟩
abbrev cX8_rank : ByteArray := prog_1_method_11_code
def yX8_rank : MethodName := ⟨RX8, "rank", "(IZI)I"⟩
abbrev cX8_rankAgain : ByteArray := prog_1_method_12_code
def yX8_rankAgain : MethodName := ⟨RX8, "rankAgain", "(IZI)I"⟩
abbrev cX8_select : ByteArray := prog_1_method_13_code
def yX8_select : MethodName := ⟨RX8, "select", "(IZI)I"⟩
abbrev cX8_placeIn : ByteArray := prog_1_method_14_code
def yX8_placeIn : MethodName := ⟨RX8, "placeIn", "(II)I"⟩
abbrev cX8_quantile : ByteArray := prog_1_method_15_code
def yX8_quantile : MethodName := ⟨RX8, "quantile", "(III)I"⟩
abbrev cX8_quantileAgain : ByteArray := prog_1_method_16_code
def yX8_quantileAgain : MethodName := ⟨RX8, "quantileAgain", "(III)I"⟩
abbrev cX8_count : ByteArray := prog_1_method_17_code
def yX8_count : MethodName := ⟨RX8, "count", "(III)I"⟩
abbrev cX8_lighter : ByteArray := prog_1_method_18_code
def yX8_lighter : MethodName := ⟨RX8, "lighter", "(III)I"⟩
abbrev cX8_atLeast : ByteArray := prog_1_method_19_code
def yX8_atLeast : MethodName := ⟨RX8, "atLeast", "(III)I"⟩
abbrev cX8_find : ByteArray := prog_1_method_20_code
def yX8_find : MethodName := ⟨RX8, "find", "(II)I"⟩
abbrev cX8_common : ByteArray := prog_1_method_21_code
def yX8_common : MethodName := ⟨RX8, "common", "(III)I"⟩
abbrev cX8_bagOf : ByteArray := prog_1_method_22_code
def yX8_bagOf : MethodName := ⟨RX8, "bagOf", "(II)I"⟩
abbrev cX8_bagAt : ByteArray := prog_1_method_23_code
def yX8_bagAt : MethodName := ⟨RX8, "bagAt", "(I)I"⟩
abbrev cX8_ranked : ByteArray := prog_1_method_24_code
def yX8_ranked : MethodName := ⟨RX8, "ranked", "(I)I"⟩
abbrev cX8_append : ByteArray := prog_1_method_25_code
def yX8_append : MethodName := ⟨RX8, "append", "(I)I"⟩
abbrev cX8_run : ByteArray := prog_1_method_26_code
def yX8_run : MethodName := ⟨RX8, "run", "()I"⟩
abbrev cX8_account : ByteArray := prog_1_method_31_code
def yX8_account : MethodName := ⟨RX8, "account", "(I)I"⟩
abbrev cX8_isBalanced : ByteArray := prog_1_method_32_code
def yX8_isBalanced : MethodName := ⟨RX8, "isBalanced", "()I"⟩
abbrev cX8_undo : ByteArray := prog_1_method_35_code
def yX8_undo : MethodName := ⟨RX8, "undo", "()I"⟩
abbrev cX8_save : ByteArray := prog_1_method_36_code
def yX8_save : MethodName := ⟨RX8, "save", "()I"⟩
abbrev cX8_restore : ByteArray := prog_1_method_37_code
def yX8_restore : MethodName := ⟨RX8, "restore", "()I"⟩
abbrev cX8_isWeight : ByteArray := prog_1_method_38_code
def yX8_isWeight : MethodName := ⟨RX8, "isWeight", "(I)Z"⟩
abbrev cX8_isRow : ByteArray := prog_1_method_39_code
def yX8_isRow : MethodName := ⟨RX8, "isRow", "(I)Z"⟩
abbrev cX8_isMarkPlace : ByteArray := prog_1_method_40_code
def yX8_isMarkPlace : MethodName := ⟨RX8, "isMarkPlace", "(I)Z"⟩
abbrev cX8_hasBit : ByteArray := prog_1_method_41_code
def yX8_hasBit : MethodName := ⟨RX8, "hasBit", "(II)Z"⟩
abbrev cX8_isEdge : ByteArray := prog_1_method_43_code
def yX8_isEdge : MethodName := ⟨RX8, "isEdge", "(I)Z"⟩
abbrev cX8_isPart : ByteArray := prog_1_method_44_code
def yX8_isPart : MethodName := ⟨RX8, "isPart", "(II)Z"⟩
abbrev cX8_isPlaceOfPart : ByteArray := prog_1_method_45_code
def yX8_isPlaceOfPart : MethodName := ⟨RX8, "isPlaceOfPart", "(III)Z"⟩
abbrev cX8_refuse : ByteArray := prog_1_method_46_code
def yX8_refuse : MethodName := ⟨RX8, "refuse", "(II)I"⟩
abbrev cX8_follow : ByteArray := prog_1_method_47_code
def yX8_follow : MethodName := ⟨RX8, "follow", "()V"⟩
abbrev cX8_tryOrders : ByteArray := prog_1_method_48_code
def yX8_tryOrders : MethodName := ⟨RX8, "tryOrders", "()I"⟩
abbrev cX8_areWeightsAlike : ByteArray := prog_1_method_49_code
def yX8_areWeightsAlike : MethodName := ⟨RX8, "areWeightsAlike", "()Z"⟩
abbrev cX8_areCountsAlike : ByteArray := prog_1_method_50_code
def yX8_areCountsAlike : MethodName := ⟨RX8, "areCountsAlike", "()Z"⟩
abbrev cX8_areSizesAlike : ByteArray := prog_1_method_51_code
def yX8_areSizesAlike : MethodName := ⟨RX8, "areSizesAlike", "()Z"⟩
abbrev cX8_lettersOfBags : ByteArray := prog_1_method_52_code
def yX8_lettersOfBags : MethodName := ⟨RX8, "lettersOfBags", "()I"⟩
def RX9 : String := "LetterShelvesModel"
def TX9 : u_T := fun k => match k with
  | _ => ("", "", "", false)
def tyX9 : Nat → FieldType := fun k => match k with
  | _ => .int
abbrev wsX90 : List Cond := u_ws RX9 TX9 0
theorem nmX9 : ∀ a, a < 0 → ∀ b, b < 0 → a ≠ b → (TX9 a).2.1 ≠ (TX9 b).2.1 := by decide +kernel
theorem tyX9_ok : ∀ k, k < 0 → parseFieldDescriptor (TX9 k).2.2.1 = some (tyX9 k) := by decide +kernel
def RJ13 : String := "java/lang/Long"
def TJ13 : u_T := fun k => match k with
  | _ => ("", "", "", false)
def tyJ13 : Nat → FieldType := fun k => match k with
  | _ => .int
abbrev wsJ130 : List Cond := u_ws RJ13 TJ13 0
theorem nmJ13 : ∀ a, a < 0 → ∀ b, b < 0 → a ≠ b → (TJ13 a).2.1 ≠ (TJ13 b).2.1 := by decide +kernel
theorem tyJ13_ok : ∀ k, k < 0 → parseFieldDescriptor (TJ13 k).2.2.1 = some (tyJ13 k) := by decide +kernel
abbrev cJ13_bitCount_95d88 : ByteArray := prog_12_method_50_code
def yJ13_bitCount_95d88 : MethodName := ⟨RJ13, "bitCount", "(J)I"⟩
def RJ9 : String := "java/lang/Math"
def TJ9 : u_T := fun k => match k with
  | _ => ("", "", "", false)
def tyJ9 : Nat → FieldType := fun k => match k with
  | _ => .int
abbrev wsJ90 : List Cond := u_ws RJ9 TJ9 0
theorem nmJ9 : ∀ a, a < 0 → ∀ b, b < 0 → a ≠ b → (TJ9 a).2.1 ≠ (TJ9 b).2.1 := by decide +kernel
theorem tyJ9_ok : ∀ k, k < 0 → parseFieldDescriptor (TJ9 k).2.2.1 = some (tyJ9 k) := by decide +kernel
abbrev cJ9_max_7cf53 : ByteArray := prog_13_method_65_code
def yJ9_max_7cf53 : MethodName := ⟨RJ9, "max", "(II)I"⟩
abbrev cJ9_min_f86c9 : ByteArray := prog_13_method_70_code
def yJ9_min_f86c9 : MethodName := ⟨RJ9, "min", "(JJ)J"⟩
def RJ0 : String := "java/lang/String"
def TJ0 : u_T := fun k => match k with
  | _ => ("", "", "", false)
def tyJ0 : Nat → FieldType := fun k => match k with
  | _ => .int
abbrev wsJ00 : List Cond := u_ws RJ0 TJ0 0
theorem nmJ0 : ∀ a, a < 0 → ∀ b, b < 0 → a ≠ b → (TJ0 a).2.1 ≠ (TJ0 b).2.1 := by decide +kernel
theorem tyJ0_ok : ∀ k, k < 0 → parseFieldDescriptor (TJ0 k).2.2.1 = some (tyJ0 k) := by decide +kernel
abbrev cJ0_length_8abf5 : ByteArray := prog_14_method_54_code
def yJ0_length_8abf5 : MethodName := ⟨RJ0, "length", "()I"⟩
abbrev cJ0_isEmpty_aae02 : ByteArray := prog_14_method_55_code
def yJ0_isEmpty_aae02 : MethodName := ⟨RJ0, "isEmpty", "()Z"⟩
abbrev cJ0_charAt_5068e : ByteArray := prog_14_method_56_code
def yJ0_charAt_5068e : MethodName := ⟨RJ0, "charAt", "(I)C"⟩
abbrev cJ0_coder_7d493 : ByteArray := prog_14_method_152_code
def yJ0_coder_7d493 : MethodName := ⟨RJ0, "coder", "()B"⟩
abbrev cJ0_isLatin1_aae02 : ByteArray := prog_14_method_154_code
def yJ0_isLatin1_aae02 : MethodName := ⟨RJ0, "isLatin1", "()Z"⟩
abbrev cJ0_checkIndex_df160 : ByteArray := prog_14_method_155_code
def yJ0_checkIndex_df160 : MethodName := ⟨RJ0, "checkIndex", "(II)V"⟩
def RJ1 : String := "java/lang/StringLatin1"
def TJ1 : u_T := fun k => match k with
  | _ => ("", "", "", false)
def tyJ1 : Nat → FieldType := fun k => match k with
  | _ => .int
abbrev wsJ10 : List Cond := u_ws RJ1 TJ1 0
theorem nmJ1 : ∀ a, a < 0 → ∀ b, b < 0 → a ≠ b → (TJ1 a).2.1 ≠ (TJ1 b).2.1 := by decide +kernel
theorem tyJ1_ok : ∀ k, k < 0 → parseFieldDescriptor (TJ1 k).2.2.1 = some (tyJ1 k) := by decide +kernel
abbrev cJ1_charAt_3b067 : ByteArray := prog_15_method_2_code
def yJ1_charAt_3b067 : MethodName := ⟨RJ1, "charAt", "([BI)C"⟩
def RJ2 : String := "java/lang/StringUTF16"
def TJ2 : u_T := fun k => match k with
  | _ => ("", "", "", false)
def tyJ2 : Nat → FieldType := fun k => match k with
  | _ => .int
abbrev wsJ20 : List Cond := u_ws RJ2 TJ2 0
theorem nmJ2 : ∀ a, a < 0 → ∀ b, b < 0 → a ≠ b → (TJ2 a).2.1 ≠ (TJ2 b).2.1 := by decide +kernel
theorem tyJ2_ok : ∀ k, k < 0 → parseFieldDescriptor (TJ2 k).2.2.1 = some (tyJ2 k) := by decide +kernel
abbrev cJ2_getChar_3b067 : ByteArray := prog_16_method_5_code
def yJ2_getChar_3b067 : MethodName := ⟨RJ2, "getChar", "([BI)C"⟩
abbrev cJ2_length_9d52b : ByteArray := prog_16_method_6_code
def yJ2_length_9d52b : MethodName := ⟨RJ2, "length", "([B)I"⟩
abbrev cJ2_charAt_3b067 : ByteArray := prog_16_method_83_code
def yJ2_charAt_3b067 : MethodName := ⟨RJ2, "charAt", "([BI)C"⟩
abbrev cJ2_checkIndex_2214a : ByteArray := prog_16_method_91_code
def yJ2_checkIndex_2214a : MethodName := ⟨RJ2, "checkIndex", "(I[B)V"⟩
def RJ3 : String := "jdk/internal/util/Preconditions"
def TJ3 : u_T := fun k => match k with
  | _ => ("", "", "", false)
def tyJ3 : Nat → FieldType := fun k => match k with
  | _ => .int
abbrev wsJ30 : List Cond := u_ws RJ3 TJ3 0
theorem nmJ3 : ∀ a, a < 0 → ∀ b, b < 0 → a ≠ b → (TJ3 a).2.1 ≠ (TJ3 b).2.1 := by decide +kernel
theorem tyJ3_ok : ∀ k, k < 0 → parseFieldDescriptor (TJ3 k).2.2.1 = some (tyJ3 k) := by decide +kernel
abbrev cJ3_checkIndex_8e157 : ByteArray := prog_17_method_11_code
def yJ3_checkIndex_8e157 : MethodName := ⟨RJ3, "checkIndex", "(IILjava/util/function/BiFunction;)I"⟩
def RL : String := "LetterShelvesLaw"
abbrev cL_put : ByteArray := method_2_code
def yL_put : MethodName := ⟨RL, "put", "(LLetterShelves;I)J"⟩
abbrev cL_insert : ByteArray := method_3_code
def yL_insert : MethodName := ⟨RL, "insert", "(LLetterShelves;II)J"⟩
abbrev cL_take : ByteArray := method_4_code
def yL_take : MethodName := ⟨RL, "take", "(LLetterShelves;I)J"⟩
abbrev cL_swap : ByteArray := method_5_code
def yL_swap : MethodName := ⟨RL, "swap", "(LLetterShelves;I)J"⟩
abbrev cL_mark : ByteArray := method_6_code
def yL_mark : MethodName := ⟨RL, "mark", "(LLetterShelves;IZ)J"⟩
abbrev cL_weight : ByteArray := method_7_code
def yL_weight : MethodName := ⟨RL, "weight", "(LLetterShelves;I)J"⟩
abbrev cL_weightAgain : ByteArray := method_8_code
def yL_weightAgain : MethodName := ⟨RL, "weightAgain", "(LLetterShelves;I)J"⟩
abbrev cL_bit : ByteArray := method_9_code
def yL_bit : MethodName := ⟨RL, "bit", "(LLetterShelves;II)J"⟩
abbrev cL_bits : ByteArray := method_10_code
def yL_bits : MethodName := ⟨RL, "bits", "(LLetterShelves;I)J"⟩
abbrev cL_rank : ByteArray := method_11_code
def yL_rank : MethodName := ⟨RL, "rank", "(LLetterShelves;IZI)J"⟩
abbrev cL_rankAgain : ByteArray := method_12_code
def yL_rankAgain : MethodName := ⟨RL, "rankAgain", "(LLetterShelves;IZI)J"⟩
abbrev cL_select : ByteArray := method_13_code
def yL_select : MethodName := ⟨RL, "select", "(LLetterShelves;IZI)J"⟩
abbrev cL_placeIn : ByteArray := method_14_code
def yL_placeIn : MethodName := ⟨RL, "placeIn", "(LLetterShelves;II)J"⟩
abbrev cL_quantile : ByteArray := method_15_code
def yL_quantile : MethodName := ⟨RL, "quantile", "(LLetterShelves;III)J"⟩
abbrev cL_quantileAgain : ByteArray := method_16_code
def yL_quantileAgain : MethodName := ⟨RL, "quantileAgain", "(LLetterShelves;III)J"⟩
abbrev cL_count : ByteArray := method_17_code
def yL_count : MethodName := ⟨RL, "count", "(LLetterShelves;III)J"⟩
abbrev cL_lighter : ByteArray := method_18_code
def yL_lighter : MethodName := ⟨RL, "lighter", "(LLetterShelves;III)J"⟩
abbrev cL_atLeast : ByteArray := method_19_code
def yL_atLeast : MethodName := ⟨RL, "atLeast", "(LLetterShelves;III)J"⟩
abbrev cL_find : ByteArray := method_20_code
def yL_find : MethodName := ⟨RL, "find", "(LLetterShelves;II)J"⟩
abbrev cL_mostCommon : ByteArray := method_21_code
def yL_mostCommon : MethodName := ⟨RL, "mostCommon", "(LLetterShelves;III)J"⟩
abbrev cL_bagOf : ByteArray := method_22_code
def yL_bagOf : MethodName := ⟨RL, "bagOf", "(LLetterShelves;II)J"⟩
abbrev cL_bagAt : ByteArray := method_23_code
def yL_bagAt : MethodName := ⟨RL, "bagAt", "(LLetterShelves;I)J"⟩
abbrev cL_ranked : ByteArray := method_24_code
def yL_ranked : MethodName := ⟨RL, "ranked", "(LLetterShelves;I)J"⟩
abbrev cL_run : ByteArray := method_26_code
def yL_run : MethodName := ⟨RL, "run", "(LLetterShelves;)J"⟩
abbrev cL_account : ByteArray := method_31_code
def yL_account : MethodName := ⟨RL, "account", "(LLetterShelves;I)J"⟩
abbrev cL_isBalanced : ByteArray := method_32_code
def yL_isBalanced : MethodName := ⟨RL, "isBalanced", "(LLetterShelves;)J"⟩
abbrev cL_undo : ByteArray := method_35_code
def yL_undo : MethodName := ⟨RL, "undo", "(LLetterShelves;)J"⟩
abbrev cL_save : ByteArray := method_36_code
def yL_save : MethodName := ⟨RL, "save", "(LLetterShelves;)J"⟩
abbrev cL_restore : ByteArray := method_37_code
def yL_restore : MethodName := ⟨RL, "restore", "(LLetterShelves;)J"⟩
abbrev cL_cell : ByteArray := method_38_code
def yL_cell : MethodName := ⟨RL, "cell", "([II)I"⟩
abbrev cL_chosen : ByteArray := method_39_code
def yL_chosen : MethodName := ⟨RL, "chosen", "(II)I"⟩
abbrev cL_done : ByteArray := method_40_code
def yL_done : MethodName := ⟨RL, "done", "(LLetterShelves;Ljava/lang/String;)J"⟩
abbrev cL_state : ByteArray := method_41_code
def yL_state : MethodName := ⟨RL, "state", "(LLetterShelves;)J"⟩
abbrev cL_acts : ByteArray := method_42_code
def yL_acts : MethodName := ⟨RL, "acts", "(LLetterShelves;I)J"⟩
abbrev cL_rows : ByteArray := method_43_code
def yL_rows : MethodName := ⟨RL, "rows", "(LLetterShelves;)Z"⟩
abbrev cL_part : ByteArray := method_44_code
def yL_part : MethodName := ⟨RL, "part", "(LLetterShelves;III)Z"⟩
abbrev cL_fits : ByteArray := method_45_code
def yL_fits : MethodName := ⟨RL, "fits", "(LLetterShelves;I)Z"⟩
abbrev cL_law : ByteArray := code
def yL_law : MethodName := ⟨RL, "law", "([I)Z"⟩
theorem dX0_init_0 : decode cX0_init 0 = .ok (.aload_n 0, 1) := by decide +kernel
theorem dX0_init_1 : decode cX0_init 1 = .ok (.invokespecial 3, 3) := by decide +kernel
theorem dX0_init_4 : decode cX0_init 4 = .ok (.aload_n 0, 1) := by decide +kernel
theorem dX0_init_5 : decode cX0_init 5 = .ok (.bipush 64, 2) := by decide +kernel
theorem dX0_init_7 : decode cX0_init 7 = .ok (.newarray .int, 2) := by decide +kernel
theorem dX0_init_9 : decode cX0_init 9 = .ok (.putfield 9, 3) := by decide +kernel
theorem dX0_init_12 : decode cX0_init 12 = .ok (.aload_n 0, 1) := by decide +kernel
theorem dX0_init_13 : decode cX0_init 13 = .ok (.bipush 64, 2) := by decide +kernel
theorem dX0_init_15 : decode cX0_init 15 = .ok (.newarray .int, 2) := by decide +kernel
theorem dX0_init_17 : decode cX0_init 17 = .ok (.putfield 15, 3) := by decide +kernel
theorem dX0_init_20 : decode cX0_init 20 = .ok (.return_, 1) := by decide +kernel
theorem dX0_fill_0 : decode cX0_fill 0 = .ok (.aload_n 0, 1) := by decide +kernel
theorem dX0_fill_1 : decode cX0_fill 1 = .ok (.iconst 0, 1) := by decide +kernel
theorem dX0_fill_2 : decode cX0_fill 2 = .ok (.putfield 18, 3) := by decide +kernel
theorem dX0_fill_5 : decode cX0_fill 5 = .ok (.aload_n 0, 1) := by decide +kernel
theorem dX0_fill_6 : decode cX0_fill 6 = .ok (.aload_n 1, 1) := by decide +kernel
theorem dX0_fill_7 : decode cX0_fill 7 = .ok (.invokevirtual 22, 3) := by decide +kernel
theorem dX0_fill_10 : decode cX0_fill 10 = .ok (.putfield 28, 3) := by decide +kernel
theorem dX0_fill_13 : decode cX0_fill 13 = .ok (.iconst 0, 1) := by decide +kernel
theorem dX0_fill_14 : decode cX0_fill 14 = .ok (.istore_n 2, 1) := by decide +kernel
theorem dX0_fill_15 : decode cX0_fill 15 = .ok (.iload_n 2, 1) := by decide +kernel
theorem dX0_fill_16 : decode cX0_fill 16 = .ok (.aload_n 0, 1) := by decide +kernel
theorem dX0_fill_17 : decode cX0_fill 17 = .ok (.getfield 28, 3) := by decide +kernel
theorem dX0_fill_20 : decode cX0_fill 20 = .ok (.if_icmp .ge 35, 3) := by decide +kernel
theorem dX0_fill_23 : decode cX0_fill 23 = .ok (.iload_n 2, 1) := by decide +kernel
theorem dX0_fill_24 : decode cX0_fill 24 = .ok (.ifCond .eq 11, 3) := by decide +kernel
theorem dX0_fill_27 : decode cX0_fill 27 = .ok (.aload_n 1, 1) := by decide +kernel
theorem dX0_fill_28 : decode cX0_fill 28 = .ok (.iload_n 2, 1) := by decide +kernel
theorem dX0_fill_29 : decode cX0_fill 29 = .ok (.invokevirtual 31, 3) := by decide +kernel
theorem dX0_fill_32 : decode cX0_fill 32 = .ok (.ifCond .eq 8, 3) := by decide +kernel
theorem dX0_fill_35 : decode cX0_fill 35 = .ok (.aload_n 0, 1) := by decide +kernel
theorem dX0_fill_36 : decode cX0_fill 36 = .ok (.iload_n 2, 1) := by decide +kernel
theorem dX0_fill_37 : decode cX0_fill 37 = .ok (.invokevirtual 35, 3) := by decide +kernel
theorem dX0_fill_40 : decode cX0_fill 40 = .ok (.aload_n 0, 1) := by decide +kernel
theorem dX0_fill_41 : decode cX0_fill 41 = .ok (.aload_n 1, 1) := by decide +kernel
theorem dX0_fill_42 : decode cX0_fill 42 = .ok (.iload_n 2, 1) := by decide +kernel
theorem dX0_fill_43 : decode cX0_fill 43 = .ok (.invokevirtual 39, 3) := by decide +kernel
theorem dX0_fill_46 : decode cX0_fill 46 = .ok (.invokevirtual 43, 3) := by decide +kernel
theorem dX0_fill_49 : decode cX0_fill 49 = .ok (.iinc 2 1, 3) := by decide +kernel
theorem dX0_fill_52 : decode cX0_fill 52 = .ok (.goto (-37), 3) := by decide +kernel
theorem dX0_fill_55 : decode cX0_fill 55 = .ok (.return_, 1) := by decide +kernel
theorem dX0_open_0 : decode cX0_open 0 = .ok (.aload_n 0, 1) := by decide +kernel
theorem dX0_open_1 : decode cX0_open 1 = .ok (.getfield 18, 3) := by decide +kernel
theorem dX0_open_4 : decode cX0_open 4 = .ok (.ifCond .lt 57, 3) := by decide +kernel
theorem dX0_open_7 : decode cX0_open 7 = .ok (.aload_n 0, 1) := by decide +kernel
theorem dX0_open_8 : decode cX0_open 8 = .ok (.getfield 18, 3) := by decide +kernel
theorem dX0_open_11 : decode cX0_open 11 = .ok (.aload_n 0, 1) := by decide +kernel
theorem dX0_open_12 : decode cX0_open 12 = .ok (.getfield 9, 3) := by decide +kernel
theorem dX0_open_15 : decode cX0_open 15 = .ok (.arraylength, 1) := by decide +kernel
theorem dX0_open_16 : decode cX0_open 16 = .ok (.if_icmp .ge 45, 3) := by decide +kernel
theorem dX0_open_19 : decode cX0_open 19 = .ok (.aload_n 0, 1) := by decide +kernel
theorem dX0_open_20 : decode cX0_open 20 = .ok (.getfield 18, 3) := by decide +kernel
theorem dX0_open_23 : decode cX0_open 23 = .ok (.aload_n 0, 1) := by decide +kernel
theorem dX0_open_24 : decode cX0_open 24 = .ok (.getfield 15, 3) := by decide +kernel
theorem dX0_open_27 : decode cX0_open 27 = .ok (.arraylength, 1) := by decide +kernel
theorem dX0_open_28 : decode cX0_open 28 = .ok (.if_icmp .ge 33, 3) := by decide +kernel
theorem dX0_open_31 : decode cX0_open 31 = .ok (.aload_n 0, 1) := by decide +kernel
theorem dX0_open_32 : decode cX0_open 32 = .ok (.getfield 9, 3) := by decide +kernel
theorem dX0_open_35 : decode cX0_open 35 = .ok (.aload_n 0, 1) := by decide +kernel
theorem dX0_open_36 : decode cX0_open 36 = .ok (.getfield 18, 3) := by decide +kernel
theorem dX0_open_39 : decode cX0_open 39 = .ok (.iload_n 1, 1) := by decide +kernel
theorem dX0_open_40 : decode cX0_open 40 = .ok (.iastore, 1) := by decide +kernel
theorem dX0_open_41 : decode cX0_open 41 = .ok (.aload_n 0, 1) := by decide +kernel
theorem dX0_open_42 : decode cX0_open 42 = .ok (.getfield 15, 3) := by decide +kernel
theorem dX0_open_45 : decode cX0_open 45 = .ok (.aload_n 0, 1) := by decide +kernel
theorem dX0_open_46 : decode cX0_open 46 = .ok (.getfield 18, 3) := by decide +kernel
theorem dX0_open_49 : decode cX0_open 49 = .ok (.iconst 0, 1) := by decide +kernel
theorem dX0_open_50 : decode cX0_open 50 = .ok (.iastore, 1) := by decide +kernel
theorem dX0_open_51 : decode cX0_open 51 = .ok (.aload_n 0, 1) := by decide +kernel
theorem dX0_open_52 : decode cX0_open 52 = .ok (.dup, 1) := by decide +kernel
theorem dX0_open_53 : decode cX0_open 53 = .ok (.getfield 18, 3) := by decide +kernel
theorem dX0_open_56 : decode cX0_open 56 = .ok (.iconst 1, 1) := by decide +kernel
theorem dX0_open_57 : decode cX0_open 57 = .ok (.iadd, 1) := by decide +kernel
theorem dX0_open_58 : decode cX0_open 58 = .ok (.putfield 18, 3) := by decide +kernel
theorem dX0_open_61 : decode cX0_open 61 = .ok (.return_, 1) := by decide +kernel
theorem dX0_addToLatest_0 : decode cX0_addToLatest 0 = .ok (.aload_n 0, 1) := by decide +kernel
theorem dX0_addToLatest_1 : decode cX0_addToLatest 1 = .ok (.getfield 18, 3) := by decide +kernel
theorem dX0_addToLatest_4 : decode cX0_addToLatest 4 = .ok (.iconst 1, 1) := by decide +kernel
theorem dX0_addToLatest_5 : decode cX0_addToLatest 5 = .ok (.isub, 1) := by decide +kernel
theorem dX0_addToLatest_6 : decode cX0_addToLatest 6 = .ok (.istore_n 2, 1) := by decide +kernel
theorem dX0_addToLatest_7 : decode cX0_addToLatest 7 = .ok (.iload_n 2, 1) := by decide +kernel
theorem dX0_addToLatest_8 : decode cX0_addToLatest 8 = .ok (.ifCond .lt 22, 3) := by decide +kernel
theorem dX0_addToLatest_11 : decode cX0_addToLatest 11 = .ok (.iload_n 2, 1) := by decide +kernel
theorem dX0_addToLatest_12 : decode cX0_addToLatest 12 = .ok (.aload_n 0, 1) := by decide +kernel
theorem dX0_addToLatest_13 : decode cX0_addToLatest 13 = .ok (.getfield 15, 3) := by decide +kernel
theorem dX0_addToLatest_16 : decode cX0_addToLatest 16 = .ok (.arraylength, 1) := by decide +kernel
theorem dX0_addToLatest_17 : decode cX0_addToLatest 17 = .ok (.if_icmp .ge 13, 3) := by decide +kernel
theorem dX0_addToLatest_20 : decode cX0_addToLatest 20 = .ok (.aload_n 0, 1) := by decide +kernel
theorem dX0_addToLatest_21 : decode cX0_addToLatest 21 = .ok (.getfield 15, 3) := by decide +kernel
theorem dX0_addToLatest_24 : decode cX0_addToLatest 24 = .ok (.iload_n 2, 1) := by decide +kernel
theorem dX0_addToLatest_25 : decode cX0_addToLatest 25 = .ok (.dup2, 1) := by decide +kernel
theorem dX0_addToLatest_26 : decode cX0_addToLatest 26 = .ok (.iaload, 1) := by decide +kernel
theorem dX0_addToLatest_27 : decode cX0_addToLatest 27 = .ok (.iload_n 1, 1) := by decide +kernel
theorem dX0_addToLatest_28 : decode cX0_addToLatest 28 = .ok (.iadd, 1) := by decide +kernel
theorem dX0_addToLatest_29 : decode cX0_addToLatest 29 = .ok (.iastore, 1) := by decide +kernel
theorem dX0_addToLatest_30 : decode cX0_addToLatest 30 = .ok (.return_, 1) := by decide +kernel
theorem dX0_number_0 : decode cX0_number 0 = .ok (.aload_n 0, 1) := by decide +kernel
theorem dX0_number_1 : decode cX0_number 1 = .ok (.getfield 18, 3) := by decide +kernel
theorem dX0_number_4 : decode cX0_number 4 = .ok (.ireturn, 1) := by decide +kernel
theorem dX0_beginOf_0 : decode cX0_beginOf 0 = .ok (.iload_n 1, 1) := by decide +kernel
theorem dX0_beginOf_1 : decode cX0_beginOf 1 = .ok (.ifCond .lt 29, 3) := by decide +kernel
theorem dX0_beginOf_4 : decode cX0_beginOf 4 = .ok (.iload_n 1, 1) := by decide +kernel
theorem dX0_beginOf_5 : decode cX0_beginOf 5 = .ok (.aload_n 0, 1) := by decide +kernel
theorem dX0_beginOf_6 : decode cX0_beginOf 6 = .ok (.getfield 18, 3) := by decide +kernel
theorem dX0_beginOf_9 : decode cX0_beginOf 9 = .ok (.if_icmp .ge 21, 3) := by decide +kernel
theorem dX0_beginOf_12 : decode cX0_beginOf 12 = .ok (.iload_n 1, 1) := by decide +kernel
theorem dX0_beginOf_13 : decode cX0_beginOf 13 = .ok (.aload_n 0, 1) := by decide +kernel
theorem dX0_beginOf_14 : decode cX0_beginOf 14 = .ok (.getfield 9, 3) := by decide +kernel
theorem dX0_beginOf_17 : decode cX0_beginOf 17 = .ok (.arraylength, 1) := by decide +kernel
theorem dX0_beginOf_18 : decode cX0_beginOf 18 = .ok (.if_icmp .ge 12, 3) := by decide +kernel
theorem dX0_beginOf_21 : decode cX0_beginOf 21 = .ok (.aload_n 0, 1) := by decide +kernel
theorem dX0_beginOf_22 : decode cX0_beginOf 22 = .ok (.getfield 9, 3) := by decide +kernel
theorem dX0_beginOf_25 : decode cX0_beginOf 25 = .ok (.iload_n 1, 1) := by decide +kernel
theorem dX0_beginOf_26 : decode cX0_beginOf 26 = .ok (.iaload, 1) := by decide +kernel
theorem dX0_beginOf_27 : decode cX0_beginOf 27 = .ok (.goto 7, 3) := by decide +kernel
theorem dX0_beginOf_30 : decode cX0_beginOf 30 = .ok (.aload_n 0, 1) := by decide +kernel
theorem dX0_beginOf_31 : decode cX0_beginOf 31 = .ok (.getfield 28, 3) := by decide +kernel
theorem dX0_beginOf_34 : decode cX0_beginOf 34 = .ok (.ireturn, 1) := by decide +kernel
theorem dX0_endOf_0 : decode cX0_endOf 0 = .ok (.aload_n 0, 1) := by decide +kernel
theorem dX0_endOf_1 : decode cX0_endOf 1 = .ok (.iload_n 1, 1) := by decide +kernel
theorem dX0_endOf_2 : decode cX0_endOf 2 = .ok (.iconst 1, 1) := by decide +kernel
theorem dX0_endOf_3 : decode cX0_endOf 3 = .ok (.iadd, 1) := by decide +kernel
theorem dX0_endOf_4 : decode cX0_endOf 4 = .ok (.invokevirtual 46, 3) := by decide +kernel
theorem dX0_endOf_7 : decode cX0_endOf 7 = .ok (.ireturn, 1) := by decide +kernel
theorem dX0_totalOf_0 : decode cX0_totalOf 0 = .ok (.iload_n 1, 1) := by decide +kernel
theorem dX0_totalOf_1 : decode cX0_totalOf 1 = .ok (.ifCond .lt 29, 3) := by decide +kernel
theorem dX0_totalOf_4 : decode cX0_totalOf 4 = .ok (.iload_n 1, 1) := by decide +kernel
theorem dX0_totalOf_5 : decode cX0_totalOf 5 = .ok (.aload_n 0, 1) := by decide +kernel
theorem dX0_totalOf_6 : decode cX0_totalOf 6 = .ok (.getfield 18, 3) := by decide +kernel
theorem dX0_totalOf_9 : decode cX0_totalOf 9 = .ok (.if_icmp .ge 21, 3) := by decide +kernel
theorem dX0_totalOf_12 : decode cX0_totalOf 12 = .ok (.iload_n 1, 1) := by decide +kernel
theorem dX0_totalOf_13 : decode cX0_totalOf 13 = .ok (.aload_n 0, 1) := by decide +kernel
theorem dX0_totalOf_14 : decode cX0_totalOf 14 = .ok (.getfield 15, 3) := by decide +kernel
theorem dX0_totalOf_17 : decode cX0_totalOf 17 = .ok (.arraylength, 1) := by decide +kernel
theorem dX0_totalOf_18 : decode cX0_totalOf 18 = .ok (.if_icmp .ge 12, 3) := by decide +kernel
theorem dX0_totalOf_21 : decode cX0_totalOf 21 = .ok (.aload_n 0, 1) := by decide +kernel
theorem dX0_totalOf_22 : decode cX0_totalOf 22 = .ok (.getfield 15, 3) := by decide +kernel
theorem dX0_totalOf_25 : decode cX0_totalOf 25 = .ok (.iload_n 1, 1) := by decide +kernel
theorem dX0_totalOf_26 : decode cX0_totalOf 26 = .ok (.iaload, 1) := by decide +kernel
theorem dX0_totalOf_27 : decode cX0_totalOf 27 = .ok (.goto 4, 3) := by decide +kernel
theorem dX0_totalOf_30 : decode cX0_totalOf 30 = .ok (.iconst 0, 1) := by decide +kernel
theorem dX0_totalOf_31 : decode cX0_totalOf 31 = .ok (.ireturn, 1) := by decide +kernel
theorem dX0_bagWith_0 : decode cX0_bagWith 0 = .ok (.iconst 0, 1) := by decide +kernel
theorem dX0_bagWith_1 : decode cX0_bagWith 1 = .ok (.istore_n 2, 1) := by decide +kernel
theorem dX0_bagWith_2 : decode cX0_bagWith 2 = .ok (.iload_n 2, 1) := by decide +kernel
theorem dX0_bagWith_3 : decode cX0_bagWith 3 = .ok (.aload_n 0, 1) := by decide +kernel
theorem dX0_bagWith_4 : decode cX0_bagWith 4 = .ok (.getfield 18, 3) := by decide +kernel
theorem dX0_bagWith_7 : decode cX0_bagWith 7 = .ok (.iconst 1, 1) := by decide +kernel
theorem dX0_bagWith_8 : decode cX0_bagWith 8 = .ok (.isub, 1) := by decide +kernel
theorem dX0_bagWith_9 : decode cX0_bagWith 9 = .ok (.if_icmp .ge 20, 3) := by decide +kernel
theorem dX0_bagWith_12 : decode cX0_bagWith 12 = .ok (.aload_n 0, 1) := by decide +kernel
theorem dX0_bagWith_13 : decode cX0_bagWith 13 = .ok (.iload_n 2, 1) := by decide +kernel
theorem dX0_bagWith_14 : decode cX0_bagWith 14 = .ok (.iconst 1, 1) := by decide +kernel
theorem dX0_bagWith_15 : decode cX0_bagWith 15 = .ok (.iadd, 1) := by decide +kernel
theorem dX0_bagWith_16 : decode cX0_bagWith 16 = .ok (.invokevirtual 46, 3) := by decide +kernel
theorem dX0_bagWith_19 : decode cX0_bagWith 19 = .ok (.iload_n 1, 1) := by decide +kernel
theorem dX0_bagWith_20 : decode cX0_bagWith 20 = .ok (.if_icmp .gt 9, 3) := by decide +kernel
theorem dX0_bagWith_23 : decode cX0_bagWith 23 = .ok (.iinc 2 1, 3) := by decide +kernel
theorem dX0_bagWith_26 : decode cX0_bagWith 26 = .ok (.goto (-24), 3) := by decide +kernel
theorem dX0_bagWith_29 : decode cX0_bagWith 29 = .ok (.iload_n 2, 1) := by decide +kernel
theorem dX0_bagWith_30 : decode cX0_bagWith 30 = .ok (.ireturn, 1) := by decide +kernel
theorem dX0_byTotal_0 : decode cX0_byTotal 0 = .ok (.iconst 0, 1) := by decide +kernel
theorem dX0_byTotal_1 : decode cX0_byTotal 1 = .ok (.istore_n 2, 1) := by decide +kernel
theorem dX0_byTotal_2 : decode cX0_byTotal 2 = .ok (.iload_n 2, 1) := by decide +kernel
theorem dX0_byTotal_3 : decode cX0_byTotal 3 = .ok (.aload_n 0, 1) := by decide +kernel
theorem dX0_byTotal_4 : decode cX0_byTotal 4 = .ok (.getfield 18, 3) := by decide +kernel
theorem dX0_byTotal_7 : decode cX0_byTotal 7 = .ok (.if_icmp .ge 20, 3) := by decide +kernel
theorem dX0_byTotal_10 : decode cX0_byTotal 10 = .ok (.aload_n 0, 1) := by decide +kernel
theorem dX0_byTotal_11 : decode cX0_byTotal 11 = .ok (.iload_n 2, 1) := by decide +kernel
theorem dX0_byTotal_12 : decode cX0_byTotal 12 = .ok (.invokevirtual 49, 3) := by decide +kernel
theorem dX0_byTotal_15 : decode cX0_byTotal 15 = .ok (.iload_n 1, 1) := by decide +kernel
theorem dX0_byTotal_16 : decode cX0_byTotal 16 = .ok (.if_icmp .ne 5, 3) := by decide +kernel
theorem dX0_byTotal_19 : decode cX0_byTotal 19 = .ok (.iload_n 2, 1) := by decide +kernel
theorem dX0_byTotal_20 : decode cX0_byTotal 20 = .ok (.ireturn, 1) := by decide +kernel
theorem dX0_byTotal_21 : decode cX0_byTotal 21 = .ok (.iinc 2 1, 3) := by decide +kernel
theorem dX0_byTotal_24 : decode cX0_byTotal 24 = .ok (.goto (-22), 3) := by decide +kernel
theorem dX0_byTotal_27 : decode cX0_byTotal 27 = .ok (.iconst (-1), 1) := by decide +kernel
theorem dX0_byTotal_28 : decode cX0_byTotal 28 = .ok (.ireturn, 1) := by decide +kernel
theorem dX0_numberAheadOf_0 : decode cX0_numberAheadOf 0 = .ok (.iconst 0, 1) := by decide +kernel
theorem dX0_numberAheadOf_1 : decode cX0_numberAheadOf 1 = .ok (.istore_n 2, 1) := by decide +kernel
theorem dX0_numberAheadOf_2 : decode cX0_numberAheadOf 2 = .ok (.iconst 0, 1) := by decide +kernel
theorem dX0_numberAheadOf_3 : decode cX0_numberAheadOf 3 = .ok (.istore_n 3, 1) := by decide +kernel
theorem dX0_numberAheadOf_4 : decode cX0_numberAheadOf 4 = .ok (.iload_n 3, 1) := by decide +kernel
theorem dX0_numberAheadOf_5 : decode cX0_numberAheadOf 5 = .ok (.aload_n 0, 1) := by decide +kernel
theorem dX0_numberAheadOf_6 : decode cX0_numberAheadOf 6 = .ok (.getfield 18, 3) := by decide +kernel
theorem dX0_numberAheadOf_9 : decode cX0_numberAheadOf 9 = .ok (.if_icmp .ge 21, 3) := by decide +kernel
theorem dX0_numberAheadOf_12 : decode cX0_numberAheadOf 12 = .ok (.aload_n 0, 1) := by decide +kernel
theorem dX0_numberAheadOf_13 : decode cX0_numberAheadOf 13 = .ok (.iload_n 3, 1) := by decide +kernel
theorem dX0_numberAheadOf_14 : decode cX0_numberAheadOf 14 = .ok (.iload_n 1, 1) := by decide +kernel
theorem dX0_numberAheadOf_15 : decode cX0_numberAheadOf 15 = .ok (.invokevirtual 52, 3) := by decide +kernel
theorem dX0_numberAheadOf_18 : decode cX0_numberAheadOf 18 = .ok (.ifCond .eq 6, 3) := by decide +kernel
theorem dX0_numberAheadOf_21 : decode cX0_numberAheadOf 21 = .ok (.iinc 2 1, 3) := by decide +kernel
theorem dX0_numberAheadOf_24 : decode cX0_numberAheadOf 24 = .ok (.iinc 3 1, 3) := by decide +kernel
theorem dX0_numberAheadOf_27 : decode cX0_numberAheadOf 27 = .ok (.goto (-23), 3) := by decide +kernel
theorem dX0_numberAheadOf_30 : decode cX0_numberAheadOf 30 = .ok (.iload_n 2, 1) := by decide +kernel
theorem dX0_numberAheadOf_31 : decode cX0_numberAheadOf 31 = .ok (.ireturn, 1) := by decide +kernel
theorem dX0_isAhead_0 : decode cX0_isAhead 0 = .ok (.aload_n 0, 1) := by decide +kernel
theorem dX0_isAhead_1 : decode cX0_isAhead 1 = .ok (.iload_n 1, 1) := by decide +kernel
theorem dX0_isAhead_2 : decode cX0_isAhead 2 = .ok (.invokevirtual 56, 3) := by decide +kernel
theorem dX0_isAhead_5 : decode cX0_isAhead 5 = .ok (.aload_n 0, 1) := by decide +kernel
theorem dX0_isAhead_6 : decode cX0_isAhead 6 = .ok (.iload_n 2, 1) := by decide +kernel
theorem dX0_isAhead_7 : decode cX0_isAhead 7 = .ok (.invokevirtual 56, 3) := by decide +kernel
theorem dX0_isAhead_10 : decode cX0_isAhead 10 = .ok (.if_icmp .eq 22, 3) := by decide +kernel
theorem dX0_isAhead_13 : decode cX0_isAhead 13 = .ok (.aload_n 0, 1) := by decide +kernel
theorem dX0_isAhead_14 : decode cX0_isAhead 14 = .ok (.iload_n 1, 1) := by decide +kernel
theorem dX0_isAhead_15 : decode cX0_isAhead 15 = .ok (.invokevirtual 56, 3) := by decide +kernel
theorem dX0_isAhead_18 : decode cX0_isAhead 18 = .ok (.aload_n 0, 1) := by decide +kernel
theorem dX0_isAhead_19 : decode cX0_isAhead 19 = .ok (.iload_n 2, 1) := by decide +kernel
theorem dX0_isAhead_20 : decode cX0_isAhead 20 = .ok (.invokevirtual 56, 3) := by decide +kernel
theorem dX0_isAhead_23 : decode cX0_isAhead 23 = .ok (.if_icmp .le 7, 3) := by decide +kernel
theorem dX0_isAhead_26 : decode cX0_isAhead 26 = .ok (.iconst 1, 1) := by decide +kernel
theorem dX0_isAhead_27 : decode cX0_isAhead 27 = .ok (.goto 4, 3) := by decide +kernel
theorem dX0_isAhead_30 : decode cX0_isAhead 30 = .ok (.iconst 0, 1) := by decide +kernel
theorem dX0_isAhead_31 : decode cX0_isAhead 31 = .ok (.ireturn, 1) := by decide +kernel
theorem dX0_isAhead_32 : decode cX0_isAhead 32 = .ok (.aload_n 0, 1) := by decide +kernel
theorem dX0_isAhead_33 : decode cX0_isAhead 33 = .ok (.iload_n 1, 1) := by decide +kernel
theorem dX0_isAhead_34 : decode cX0_isAhead 34 = .ok (.invokevirtual 59, 3) := by decide +kernel
theorem dX0_isAhead_37 : decode cX0_isAhead 37 = .ok (.aload_n 0, 1) := by decide +kernel
theorem dX0_isAhead_38 : decode cX0_isAhead 38 = .ok (.iload_n 1, 1) := by decide +kernel
theorem dX0_isAhead_39 : decode cX0_isAhead 39 = .ok (.invokevirtual 46, 3) := by decide +kernel
theorem dX0_isAhead_42 : decode cX0_isAhead 42 = .ok (.isub, 1) := by decide +kernel
theorem dX0_isAhead_43 : decode cX0_isAhead 43 = .ok (.istore_n 3, 1) := by decide +kernel
theorem dX0_isAhead_44 : decode cX0_isAhead 44 = .ok (.aload_n 0, 1) := by decide +kernel
theorem dX0_isAhead_45 : decode cX0_isAhead 45 = .ok (.iload_n 2, 1) := by decide +kernel
theorem dX0_isAhead_46 : decode cX0_isAhead 46 = .ok (.invokevirtual 59, 3) := by decide +kernel
theorem dX0_isAhead_49 : decode cX0_isAhead 49 = .ok (.aload_n 0, 1) := by decide +kernel
theorem dX0_isAhead_50 : decode cX0_isAhead 50 = .ok (.iload_n 2, 1) := by decide +kernel
theorem dX0_isAhead_51 : decode cX0_isAhead 51 = .ok (.invokevirtual 46, 3) := by decide +kernel
theorem dX0_isAhead_54 : decode cX0_isAhead 54 = .ok (.isub, 1) := by decide +kernel
theorem dX0_isAhead_55 : decode cX0_isAhead 55 = .ok (.istore 4, 2) := by decide +kernel
theorem dX0_isAhead_57 : decode cX0_isAhead 57 = .ok (.iload_n 3, 1) := by decide +kernel
theorem dX0_isAhead_58 : decode cX0_isAhead 58 = .ok (.iload 4, 2) := by decide +kernel
theorem dX0_isAhead_60 : decode cX0_isAhead 60 = .ok (.if_icmp .eq 17, 3) := by decide +kernel
theorem dX0_isAhead_63 : decode cX0_isAhead 63 = .ok (.iload_n 3, 1) := by decide +kernel
theorem dX0_isAhead_64 : decode cX0_isAhead 64 = .ok (.iload 4, 2) := by decide +kernel
theorem dX0_isAhead_66 : decode cX0_isAhead 66 = .ok (.if_icmp .ge 7, 3) := by decide +kernel
theorem dX0_isAhead_69 : decode cX0_isAhead 69 = .ok (.iconst 1, 1) := by decide +kernel
theorem dX0_isAhead_70 : decode cX0_isAhead 70 = .ok (.goto 17, 3) := by decide +kernel
theorem dX0_isAhead_73 : decode cX0_isAhead 73 = .ok (.iconst 0, 1) := by decide +kernel
theorem dX0_isAhead_74 : decode cX0_isAhead 74 = .ok (.goto 13, 3) := by decide +kernel
theorem dX0_isAhead_77 : decode cX0_isAhead 77 = .ok (.iload_n 1, 1) := by decide +kernel
theorem dX0_isAhead_78 : decode cX0_isAhead 78 = .ok (.iload_n 2, 1) := by decide +kernel
theorem dX0_isAhead_79 : decode cX0_isAhead 79 = .ok (.if_icmp .ge 7, 3) := by decide +kernel
theorem dX0_isAhead_82 : decode cX0_isAhead 82 = .ok (.iconst 1, 1) := by decide +kernel
theorem dX0_isAhead_83 : decode cX0_isAhead 83 = .ok (.goto 4, 3) := by decide +kernel
theorem dX0_isAhead_86 : decode cX0_isAhead 86 = .ok (.iconst 0, 1) := by decide +kernel
theorem dX0_isAhead_87 : decode cX0_isAhead 87 = .ok (.ireturn, 1) := by decide +kernel
theorem dX1_init_0 : decode cX1_init 0 = .ok (.aload_n 0, 1) := by decide +kernel
theorem dX1_init_1 : decode cX1_init 1 = .ok (.invokespecial 3, 3) := by decide +kernel
theorem dX1_init_4 : decode cX1_init 4 = .ok (.aload_n 0, 1) := by decide +kernel
theorem dX1_init_5 : decode cX1_init 5 = .ok (.bipush 64, 2) := by decide +kernel
theorem dX1_init_7 : decode cX1_init 7 = .ok (.newarray .int, 2) := by decide +kernel
theorem dX1_init_9 : decode cX1_init 9 = .ok (.putfield 9, 3) := by decide +kernel
theorem dX1_init_12 : decode cX1_init 12 = .ok (.return_, 1) := by decide +kernel
theorem dX1_size_0 : decode cX1_size 0 = .ok (.aload_n 0, 1) := by decide +kernel
theorem dX1_size_1 : decode cX1_size 1 = .ok (.getfield 15, 3) := by decide +kernel
theorem dX1_size_4 : decode cX1_size 4 = .ok (.ireturn, 1) := by decide +kernel
theorem dX1_came_0 : decode cX1_came 0 = .ok (.aload_n 0, 1) := by decide +kernel
theorem dX1_came_1 : decode cX1_came 1 = .ok (.getfield 19, 3) := by decide +kernel
theorem dX1_came_4 : decode cX1_came 4 = .ok (.ireturn, 1) := by decide +kernel
theorem dX1_left_0 : decode cX1_left 0 = .ok (.aload_n 0, 1) := by decide +kernel
theorem dX1_left_1 : decode cX1_left 1 = .ok (.getfield 22, 3) := by decide +kernel
theorem dX1_left_4 : decode cX1_left 4 = .ok (.ireturn, 1) := by decide +kernel
theorem dX1_swaps_0 : decode cX1_swaps 0 = .ok (.aload_n 0, 1) := by decide +kernel
theorem dX1_swaps_1 : decode cX1_swaps 1 = .ok (.getfield 25, 3) := by decide +kernel
theorem dX1_swaps_4 : decode cX1_swaps 4 = .ok (.ireturn, 1) := by decide +kernel
theorem dX1_marked_0 : decode cX1_marked 0 = .ok (.aload_n 0, 1) := by decide +kernel
theorem dX1_marked_1 : decode cX1_marked 1 = .ok (.getfield 28, 3) := by decide +kernel
theorem dX1_marked_4 : decode cX1_marked 4 = .ok (.invokestatic 32, 3) := by decide +kernel
theorem dX1_marked_7 : decode cX1_marked 7 = .ok (.ireturn, 1) := by decide +kernel
theorem dX1_isFull_0 : decode cX1_isFull 0 = .ok (.aload_n 0, 1) := by decide +kernel
theorem dX1_isFull_1 : decode cX1_isFull 1 = .ok (.getfield 15, 3) := by decide +kernel
theorem dX1_isFull_4 : decode cX1_isFull 4 = .ok (.bipush 64, 2) := by decide +kernel
theorem dX1_isFull_6 : decode cX1_isFull 6 = .ok (.if_icmp .lt 7, 3) := by decide +kernel
theorem dX1_isFull_9 : decode cX1_isFull 9 = .ok (.iconst 1, 1) := by decide +kernel
theorem dX1_isFull_10 : decode cX1_isFull 10 = .ok (.goto 4, 3) := by decide +kernel
theorem dX1_isFull_13 : decode cX1_isFull 13 = .ok (.iconst 0, 1) := by decide +kernel
theorem dX1_isFull_14 : decode cX1_isFull 14 = .ok (.ireturn, 1) := by decide +kernel
theorem dX1_has_0 : decode cX1_has 0 = .ok (.iload_n 1, 1) := by decide +kernel
theorem dX1_has_1 : decode cX1_has 1 = .ok (.ifCond .lt 15, 3) := by decide +kernel
theorem dX1_has_4 : decode cX1_has 4 = .ok (.iload_n 1, 1) := by decide +kernel
theorem dX1_has_5 : decode cX1_has 5 = .ok (.aload_n 0, 1) := by decide +kernel
theorem dX1_has_6 : decode cX1_has 6 = .ok (.getfield 15, 3) := by decide +kernel
theorem dX1_has_9 : decode cX1_has 9 = .ok (.if_icmp .ge 7, 3) := by decide +kernel
theorem dX1_has_12 : decode cX1_has 12 = .ok (.iconst 1, 1) := by decide +kernel
theorem dX1_has_13 : decode cX1_has 13 = .ok (.goto 4, 3) := by decide +kernel
theorem dX1_has_16 : decode cX1_has 16 = .ok (.iconst 0, 1) := by decide +kernel
theorem dX1_has_17 : decode cX1_has 17 = .ok (.ireturn, 1) := by decide +kernel
theorem dX1_hasNext_0 : decode cX1_hasNext 0 = .ok (.iload_n 1, 1) := by decide +kernel
theorem dX1_hasNext_1 : decode cX1_hasNext 1 = .ok (.ifCond .lt 17, 3) := by decide +kernel
theorem dX1_hasNext_4 : decode cX1_hasNext 4 = .ok (.iload_n 1, 1) := by decide +kernel
theorem dX1_hasNext_5 : decode cX1_hasNext 5 = .ok (.aload_n 0, 1) := by decide +kernel
theorem dX1_hasNext_6 : decode cX1_hasNext 6 = .ok (.getfield 15, 3) := by decide +kernel
theorem dX1_hasNext_9 : decode cX1_hasNext 9 = .ok (.iconst 1, 1) := by decide +kernel
theorem dX1_hasNext_10 : decode cX1_hasNext 10 = .ok (.isub, 1) := by decide +kernel
theorem dX1_hasNext_11 : decode cX1_hasNext 11 = .ok (.if_icmp .ge 7, 3) := by decide +kernel
theorem dX1_hasNext_14 : decode cX1_hasNext 14 = .ok (.iconst 1, 1) := by decide +kernel
theorem dX1_hasNext_15 : decode cX1_hasNext 15 = .ok (.goto 4, 3) := by decide +kernel
theorem dX1_hasNext_18 : decode cX1_hasNext 18 = .ok (.iconst 0, 1) := by decide +kernel
theorem dX1_hasNext_19 : decode cX1_hasNext 19 = .ok (.ireturn, 1) := by decide +kernel
theorem dX1_at_0 : decode cX1_at 0 = .ok (.iload_n 1, 1) := by decide +kernel
theorem dX1_at_1 : decode cX1_at 1 = .ok (.ifCond .lt 21, 3) := by decide +kernel
theorem dX1_at_4 : decode cX1_at 4 = .ok (.iload_n 1, 1) := by decide +kernel
theorem dX1_at_5 : decode cX1_at 5 = .ok (.aload_n 0, 1) := by decide +kernel
theorem dX1_at_6 : decode cX1_at 6 = .ok (.getfield 9, 3) := by decide +kernel
theorem dX1_at_9 : decode cX1_at 9 = .ok (.arraylength, 1) := by decide +kernel
theorem dX1_at_10 : decode cX1_at 10 = .ok (.if_icmp .ge 12, 3) := by decide +kernel
theorem dX1_at_13 : decode cX1_at 13 = .ok (.aload_n 0, 1) := by decide +kernel
theorem dX1_at_14 : decode cX1_at 14 = .ok (.getfield 9, 3) := by decide +kernel
theorem dX1_at_17 : decode cX1_at 17 = .ok (.iload_n 1, 1) := by decide +kernel
theorem dX1_at_18 : decode cX1_at 18 = .ok (.iaload, 1) := by decide +kernel
theorem dX1_at_19 : decode cX1_at 19 = .ok (.goto 4, 3) := by decide +kernel
theorem dX1_at_22 : decode cX1_at 22 = .ok (.iconst 0, 1) := by decide +kernel
theorem dX1_at_23 : decode cX1_at 23 = .ok (.ireturn, 1) := by decide +kernel
theorem dX1_isMarkedAt_0 : decode cX1_isMarkedAt 0 = .ok (.iload_n 1, 1) := by decide +kernel
theorem dX1_isMarkedAt_1 : decode cX1_isMarkedAt 1 = .ok (.invokestatic 38, 3) := by decide +kernel
theorem dX1_isMarkedAt_4 : decode cX1_isMarkedAt 4 = .ok (.ifCond .eq 20, 3) := by decide +kernel
theorem dX1_isMarkedAt_7 : decode cX1_isMarkedAt 7 = .ok (.aload_n 0, 1) := by decide +kernel
theorem dX1_isMarkedAt_8 : decode cX1_isMarkedAt 8 = .ok (.getfield 28, 3) := by decide +kernel
theorem dX1_isMarkedAt_11 : decode cX1_isMarkedAt 11 = .ok (.iload_n 1, 1) := by decide +kernel
theorem dX1_isMarkedAt_12 : decode cX1_isMarkedAt 12 = .ok (.lushr, 1) := by decide +kernel
theorem dX1_isMarkedAt_13 : decode cX1_isMarkedAt 13 = .ok (.lconst 1, 1) := by decide +kernel
theorem dX1_isMarkedAt_14 : decode cX1_isMarkedAt 14 = .ok (.land, 1) := by decide +kernel
theorem dX1_isMarkedAt_15 : decode cX1_isMarkedAt 15 = .ok (.lconst 1, 1) := by decide +kernel
theorem dX1_isMarkedAt_16 : decode cX1_isMarkedAt 16 = .ok (.lcmp, 1) := by decide +kernel
theorem dX1_isMarkedAt_17 : decode cX1_isMarkedAt 17 = .ok (.ifCond .ne 7, 3) := by decide +kernel
theorem dX1_isMarkedAt_20 : decode cX1_isMarkedAt 20 = .ok (.iconst 1, 1) := by decide +kernel
theorem dX1_isMarkedAt_21 : decode cX1_isMarkedAt 21 = .ok (.goto 4, 3) := by decide +kernel
theorem dX1_isMarkedAt_24 : decode cX1_isMarkedAt 24 = .ok (.iconst 0, 1) := by decide +kernel
theorem dX1_isMarkedAt_25 : decode cX1_isMarkedAt 25 = .ok (.ireturn, 1) := by decide +kernel
theorem dX1_total_0 : decode cX1_total 0 = .ok (.iconst 0, 1) := by decide +kernel
theorem dX1_total_1 : decode cX1_total 1 = .ok (.istore_n 1, 1) := by decide +kernel
theorem dX1_total_2 : decode cX1_total 2 = .ok (.iconst 0, 1) := by decide +kernel
theorem dX1_total_3 : decode cX1_total 3 = .ok (.istore_n 2, 1) := by decide +kernel
theorem dX1_total_4 : decode cX1_total 4 = .ok (.iload_n 2, 1) := by decide +kernel
theorem dX1_total_5 : decode cX1_total 5 = .ok (.aload_n 0, 1) := by decide +kernel
theorem dX1_total_6 : decode cX1_total 6 = .ok (.getfield 15, 3) := by decide +kernel
theorem dX1_total_9 : decode cX1_total 9 = .ok (.if_icmp .ge 17, 3) := by decide +kernel
theorem dX1_total_12 : decode cX1_total 12 = .ok (.iload_n 1, 1) := by decide +kernel
theorem dX1_total_13 : decode cX1_total 13 = .ok (.aload_n 0, 1) := by decide +kernel
theorem dX1_total_14 : decode cX1_total 14 = .ok (.iload_n 2, 1) := by decide +kernel
theorem dX1_total_15 : decode cX1_total 15 = .ok (.invokevirtual 42, 3) := by decide +kernel
theorem dX1_total_18 : decode cX1_total 18 = .ok (.iadd, 1) := by decide +kernel
theorem dX1_total_19 : decode cX1_total 19 = .ok (.istore_n 1, 1) := by decide +kernel
theorem dX1_total_20 : decode cX1_total 20 = .ok (.iinc 2 1, 3) := by decide +kernel
theorem dX1_total_23 : decode cX1_total 23 = .ok (.goto (-19), 3) := by decide +kernel
theorem dX1_total_26 : decode cX1_total 26 = .ok (.iload_n 1, 1) := by decide +kernel
theorem dX1_total_27 : decode cX1_total 27 = .ok (.ireturn, 1) := by decide +kernel
theorem dX1_come_0 : decode cX1_come 0 = .ok (.iload_n 1, 1) := by decide +kernel
theorem dX1_come_1 : decode cX1_come 1 = .ok (.ifCond .lt 25, 3) := by decide +kernel
theorem dX1_come_4 : decode cX1_come 4 = .ok (.iload_n 1, 1) := by decide +kernel
theorem dX1_come_5 : decode cX1_come 5 = .ok (.aload_n 0, 1) := by decide +kernel
theorem dX1_come_6 : decode cX1_come 6 = .ok (.getfield 15, 3) := by decide +kernel
theorem dX1_come_9 : decode cX1_come 9 = .ok (.if_icmp .gt 17, 3) := by decide +kernel
theorem dX1_come_12 : decode cX1_come 12 = .ok (.iload_n 2, 1) := by decide +kernel
theorem dX1_come_13 : decode cX1_come 13 = .ok (.invokestatic 46, 3) := by decide +kernel
theorem dX1_come_16 : decode cX1_come 16 = .ok (.ifCond .eq 10, 3) := by decide +kernel
theorem dX1_come_19 : decode cX1_come 19 = .ok (.aload_n 0, 1) := by decide +kernel
theorem dX1_come_20 : decode cX1_come 20 = .ok (.invokevirtual 49, 3) := by decide +kernel
theorem dX1_come_23 : decode cX1_come 23 = .ok (.ifCond .eq 5, 3) := by decide +kernel
theorem dX1_come_26 : decode cX1_come 26 = .ok (.iconst 0, 1) := by decide +kernel
theorem dX1_come_27 : decode cX1_come 27 = .ok (.ireturn, 1) := by decide +kernel
theorem dX1_come_28 : decode cX1_come 28 = .ok (.aload_n 0, 1) := by decide +kernel
theorem dX1_come_29 : decode cX1_come 29 = .ok (.getfield 15, 3) := by decide +kernel
theorem dX1_come_32 : decode cX1_come 32 = .ok (.istore_n 3, 1) := by decide +kernel
theorem dX1_come_33 : decode cX1_come 33 = .ok (.iload_n 3, 1) := by decide +kernel
theorem dX1_come_34 : decode cX1_come 34 = .ok (.iload_n 1, 1) := by decide +kernel
theorem dX1_come_35 : decode cX1_come 35 = .ok (.if_icmp .le 21, 3) := by decide +kernel
theorem dX1_come_38 : decode cX1_come 38 = .ok (.aload_n 0, 1) := by decide +kernel
theorem dX1_come_39 : decode cX1_come 39 = .ok (.iload_n 3, 1) := by decide +kernel
theorem dX1_come_40 : decode cX1_come 40 = .ok (.aload_n 0, 1) := by decide +kernel
theorem dX1_come_41 : decode cX1_come 41 = .ok (.iload_n 3, 1) := by decide +kernel
theorem dX1_come_42 : decode cX1_come 42 = .ok (.iconst 1, 1) := by decide +kernel
theorem dX1_come_43 : decode cX1_come 43 = .ok (.isub, 1) := by decide +kernel
theorem dX1_come_44 : decode cX1_come 44 = .ok (.invokevirtual 42, 3) := by decide +kernel
theorem dX1_come_47 : decode cX1_come 47 = .ok (.invokevirtual 53, 3) := by decide +kernel
theorem dX1_come_50 : decode cX1_come 50 = .ok (.iinc 3 (-1), 3) := by decide +kernel
theorem dX1_come_53 : decode cX1_come 53 = .ok (.goto (-20), 3) := by decide +kernel
theorem dX1_come_56 : decode cX1_come 56 = .ok (.aload_n 0, 1) := by decide +kernel
theorem dX1_come_57 : decode cX1_come 57 = .ok (.iload_n 1, 1) := by decide +kernel
theorem dX1_come_58 : decode cX1_come 58 = .ok (.iload_n 2, 1) := by decide +kernel
theorem dX1_come_59 : decode cX1_come 59 = .ok (.invokevirtual 53, 3) := by decide +kernel
theorem dX1_come_62 : decode cX1_come 62 = .ok (.aload_n 0, 1) := by decide +kernel
theorem dX1_come_63 : decode cX1_come 63 = .ok (.dup, 1) := by decide +kernel
theorem dX1_come_64 : decode cX1_come 64 = .ok (.getfield 15, 3) := by decide +kernel
theorem dX1_come_67 : decode cX1_come 67 = .ok (.iconst 1, 1) := by decide +kernel
theorem dX1_come_68 : decode cX1_come 68 = .ok (.iadd, 1) := by decide +kernel
theorem dX1_come_69 : decode cX1_come 69 = .ok (.putfield 15, 3) := by decide +kernel
theorem dX1_come_72 : decode cX1_come 72 = .ok (.aload_n 0, 1) := by decide +kernel
theorem dX1_come_73 : decode cX1_come 73 = .ok (.dup, 1) := by decide +kernel
theorem dX1_come_74 : decode cX1_come 74 = .ok (.getfield 19, 3) := by decide +kernel
theorem dX1_come_77 : decode cX1_come 77 = .ok (.iconst 1, 1) := by decide +kernel
theorem dX1_come_78 : decode cX1_come 78 = .ok (.iadd, 1) := by decide +kernel
theorem dX1_come_79 : decode cX1_come 79 = .ok (.putfield 19, 3) := by decide +kernel
theorem dX1_come_82 : decode cX1_come 82 = .ok (.iconst 1, 1) := by decide +kernel
theorem dX1_come_83 : decode cX1_come 83 = .ok (.ireturn, 1) := by decide +kernel
theorem dX1_leave_0 : decode cX1_leave 0 = .ok (.aload_n 0, 1) := by decide +kernel
theorem dX1_leave_1 : decode cX1_leave 1 = .ok (.iload_n 1, 1) := by decide +kernel
theorem dX1_leave_2 : decode cX1_leave 2 = .ok (.invokevirtual 57, 3) := by decide +kernel
theorem dX1_leave_5 : decode cX1_leave 5 = .ok (.ifCond .ne 5, 3) := by decide +kernel
theorem dX1_leave_8 : decode cX1_leave 8 = .ok (.iconst 0, 1) := by decide +kernel
theorem dX1_leave_9 : decode cX1_leave 9 = .ok (.ireturn, 1) := by decide +kernel
theorem dX1_leave_10 : decode cX1_leave 10 = .ok (.iload_n 1, 1) := by decide +kernel
theorem dX1_leave_11 : decode cX1_leave 11 = .ok (.istore_n 2, 1) := by decide +kernel
theorem dX1_leave_12 : decode cX1_leave 12 = .ok (.iload_n 2, 1) := by decide +kernel
theorem dX1_leave_13 : decode cX1_leave 13 = .ok (.aload_n 0, 1) := by decide +kernel
theorem dX1_leave_14 : decode cX1_leave 14 = .ok (.getfield 15, 3) := by decide +kernel
theorem dX1_leave_17 : decode cX1_leave 17 = .ok (.iconst 1, 1) := by decide +kernel
theorem dX1_leave_18 : decode cX1_leave 18 = .ok (.isub, 1) := by decide +kernel
theorem dX1_leave_19 : decode cX1_leave 19 = .ok (.if_icmp .ge 21, 3) := by decide +kernel
theorem dX1_leave_22 : decode cX1_leave 22 = .ok (.aload_n 0, 1) := by decide +kernel
theorem dX1_leave_23 : decode cX1_leave 23 = .ok (.iload_n 2, 1) := by decide +kernel
theorem dX1_leave_24 : decode cX1_leave 24 = .ok (.aload_n 0, 1) := by decide +kernel
theorem dX1_leave_25 : decode cX1_leave 25 = .ok (.iload_n 2, 1) := by decide +kernel
theorem dX1_leave_26 : decode cX1_leave 26 = .ok (.iconst 1, 1) := by decide +kernel
theorem dX1_leave_27 : decode cX1_leave 27 = .ok (.iadd, 1) := by decide +kernel
theorem dX1_leave_28 : decode cX1_leave 28 = .ok (.invokevirtual 42, 3) := by decide +kernel
theorem dX1_leave_31 : decode cX1_leave 31 = .ok (.invokevirtual 53, 3) := by decide +kernel
theorem dX1_leave_34 : decode cX1_leave 34 = .ok (.iinc 2 1, 3) := by decide +kernel
theorem dX1_leave_37 : decode cX1_leave 37 = .ok (.goto (-25), 3) := by decide +kernel
theorem dX1_leave_40 : decode cX1_leave 40 = .ok (.aload_n 0, 1) := by decide +kernel
theorem dX1_leave_41 : decode cX1_leave 41 = .ok (.dup, 1) := by decide +kernel
theorem dX1_leave_42 : decode cX1_leave 42 = .ok (.getfield 15, 3) := by decide +kernel
theorem dX1_leave_45 : decode cX1_leave 45 = .ok (.iconst 1, 1) := by decide +kernel
theorem dX1_leave_46 : decode cX1_leave 46 = .ok (.isub, 1) := by decide +kernel
theorem dX1_leave_47 : decode cX1_leave 47 = .ok (.putfield 15, 3) := by decide +kernel
theorem dX1_leave_50 : decode cX1_leave 50 = .ok (.aload_n 0, 1) := by decide +kernel
theorem dX1_leave_51 : decode cX1_leave 51 = .ok (.dup, 1) := by decide +kernel
theorem dX1_leave_52 : decode cX1_leave 52 = .ok (.getfield 22, 3) := by decide +kernel
theorem dX1_leave_55 : decode cX1_leave 55 = .ok (.iconst 1, 1) := by decide +kernel
theorem dX1_leave_56 : decode cX1_leave 56 = .ok (.iadd, 1) := by decide +kernel
theorem dX1_leave_57 : decode cX1_leave 57 = .ok (.putfield 22, 3) := by decide +kernel
theorem dX1_leave_60 : decode cX1_leave 60 = .ok (.iconst 1, 1) := by decide +kernel
theorem dX1_leave_61 : decode cX1_leave 61 = .ok (.ireturn, 1) := by decide +kernel
theorem dX1_exchange_0 : decode cX1_exchange 0 = .ok (.aload_n 0, 1) := by decide +kernel
theorem dX1_exchange_1 : decode cX1_exchange 1 = .ok (.iload_n 1, 1) := by decide +kernel
theorem dX1_exchange_2 : decode cX1_exchange 2 = .ok (.invokevirtual 60, 3) := by decide +kernel
theorem dX1_exchange_5 : decode cX1_exchange 5 = .ok (.ifCond .eq 18, 3) := by decide +kernel
theorem dX1_exchange_8 : decode cX1_exchange 8 = .ok (.aload_n 0, 1) := by decide +kernel
theorem dX1_exchange_9 : decode cX1_exchange 9 = .ok (.iload_n 1, 1) := by decide +kernel
theorem dX1_exchange_10 : decode cX1_exchange 10 = .ok (.invokevirtual 42, 3) := by decide +kernel
theorem dX1_exchange_13 : decode cX1_exchange 13 = .ok (.aload_n 0, 1) := by decide +kernel
theorem dX1_exchange_14 : decode cX1_exchange 14 = .ok (.iload_n 1, 1) := by decide +kernel
theorem dX1_exchange_15 : decode cX1_exchange 15 = .ok (.iconst 1, 1) := by decide +kernel
theorem dX1_exchange_16 : decode cX1_exchange 16 = .ok (.iadd, 1) := by decide +kernel
theorem dX1_exchange_17 : decode cX1_exchange 17 = .ok (.invokevirtual 42, 3) := by decide +kernel
theorem dX1_exchange_20 : decode cX1_exchange 20 = .ok (.if_icmp .ne 5, 3) := by decide +kernel
theorem dX1_exchange_23 : decode cX1_exchange 23 = .ok (.iconst 0, 1) := by decide +kernel
theorem dX1_exchange_24 : decode cX1_exchange 24 = .ok (.ireturn, 1) := by decide +kernel
theorem dX1_exchange_25 : decode cX1_exchange 25 = .ok (.aload_n 0, 1) := by decide +kernel
theorem dX1_exchange_26 : decode cX1_exchange 26 = .ok (.iload_n 1, 1) := by decide +kernel
theorem dX1_exchange_27 : decode cX1_exchange 27 = .ok (.invokevirtual 42, 3) := by decide +kernel
theorem dX1_exchange_30 : decode cX1_exchange 30 = .ok (.istore_n 2, 1) := by decide +kernel
theorem dX1_exchange_31 : decode cX1_exchange 31 = .ok (.aload_n 0, 1) := by decide +kernel
theorem dX1_exchange_32 : decode cX1_exchange 32 = .ok (.iload_n 1, 1) := by decide +kernel
theorem dX1_exchange_33 : decode cX1_exchange 33 = .ok (.aload_n 0, 1) := by decide +kernel
theorem dX1_exchange_34 : decode cX1_exchange 34 = .ok (.iload_n 1, 1) := by decide +kernel
theorem dX1_exchange_35 : decode cX1_exchange 35 = .ok (.iconst 1, 1) := by decide +kernel
theorem dX1_exchange_36 : decode cX1_exchange 36 = .ok (.iadd, 1) := by decide +kernel
theorem dX1_exchange_37 : decode cX1_exchange 37 = .ok (.invokevirtual 42, 3) := by decide +kernel
theorem dX1_exchange_40 : decode cX1_exchange 40 = .ok (.invokevirtual 53, 3) := by decide +kernel
theorem dX1_exchange_43 : decode cX1_exchange 43 = .ok (.aload_n 0, 1) := by decide +kernel
theorem dX1_exchange_44 : decode cX1_exchange 44 = .ok (.iload_n 1, 1) := by decide +kernel
theorem dX1_exchange_45 : decode cX1_exchange 45 = .ok (.iconst 1, 1) := by decide +kernel
theorem dX1_exchange_46 : decode cX1_exchange 46 = .ok (.iadd, 1) := by decide +kernel
theorem dX1_exchange_47 : decode cX1_exchange 47 = .ok (.iload_n 2, 1) := by decide +kernel
theorem dX1_exchange_48 : decode cX1_exchange 48 = .ok (.invokevirtual 53, 3) := by decide +kernel
theorem dX1_exchange_51 : decode cX1_exchange 51 = .ok (.aload_n 0, 1) := by decide +kernel
theorem dX1_exchange_52 : decode cX1_exchange 52 = .ok (.dup, 1) := by decide +kernel
theorem dX1_exchange_53 : decode cX1_exchange 53 = .ok (.getfield 25, 3) := by decide +kernel
theorem dX1_exchange_56 : decode cX1_exchange 56 = .ok (.iconst 1, 1) := by decide +kernel
theorem dX1_exchange_57 : decode cX1_exchange 57 = .ok (.iadd, 1) := by decide +kernel
theorem dX1_exchange_58 : decode cX1_exchange 58 = .ok (.putfield 25, 3) := by decide +kernel
theorem dX1_exchange_61 : decode cX1_exchange 61 = .ok (.iconst 1, 1) := by decide +kernel
theorem dX1_exchange_62 : decode cX1_exchange 62 = .ok (.ireturn, 1) := by decide +kernel
theorem dX1_setMark_0 : decode cX1_setMark 0 = .ok (.iload_n 1, 1) := by decide +kernel
theorem dX1_setMark_1 : decode cX1_setMark 1 = .ok (.invokestatic 38, 3) := by decide +kernel
theorem dX1_setMark_4 : decode cX1_setMark 4 = .ok (.ifCond .eq 12, 3) := by decide +kernel
theorem dX1_setMark_7 : decode cX1_setMark 7 = .ok (.aload_n 0, 1) := by decide +kernel
theorem dX1_setMark_8 : decode cX1_setMark 8 = .ok (.iload_n 1, 1) := by decide +kernel
theorem dX1_setMark_9 : decode cX1_setMark 9 = .ok (.invokevirtual 63, 3) := by decide +kernel
theorem dX1_setMark_12 : decode cX1_setMark 12 = .ok (.iload_n 2, 1) := by decide +kernel
theorem dX1_setMark_13 : decode cX1_setMark 13 = .ok (.if_icmp .ne 5, 3) := by decide +kernel
theorem dX1_setMark_16 : decode cX1_setMark 16 = .ok (.iconst 0, 1) := by decide +kernel
theorem dX1_setMark_17 : decode cX1_setMark 17 = .ok (.ireturn, 1) := by decide +kernel
theorem dX1_setMark_18 : decode cX1_setMark 18 = .ok (.aload_n 0, 1) := by decide +kernel
theorem dX1_setMark_19 : decode cX1_setMark 19 = .ok (.dup, 1) := by decide +kernel
theorem dX1_setMark_20 : decode cX1_setMark 20 = .ok (.getfield 28, 3) := by decide +kernel
theorem dX1_setMark_23 : decode cX1_setMark 23 = .ok (.lconst 1, 1) := by decide +kernel
theorem dX1_setMark_24 : decode cX1_setMark 24 = .ok (.iload_n 1, 1) := by decide +kernel
theorem dX1_setMark_25 : decode cX1_setMark 25 = .ok (.lshl, 1) := by decide +kernel
theorem dX1_setMark_26 : decode cX1_setMark 26 = .ok (.lxor, 1) := by decide +kernel
theorem dX1_setMark_27 : decode cX1_setMark 27 = .ok (.putfield 28, 3) := by decide +kernel
theorem dX1_setMark_30 : decode cX1_setMark 30 = .ok (.iconst 1, 1) := by decide +kernel
theorem dX1_setMark_31 : decode cX1_setMark 31 = .ok (.ireturn, 1) := by decide +kernel
theorem dX1_obey_0 : decode cX1_obey 0 = .ok (.iload_n 1, 1) := by decide +kernel
theorem dX1_obey_1 : decode cX1_obey 1 = .ok (.tableswitch 126 99 115 #[119, 126, 126, 126, 126, 126, 93, 126, 126, 126, 112, 126, 100, 83, 126, 126, 106], 83) := by decide +kernel
theorem dX1_obey_84 : decode cX1_obey 84 = .ok (.aload_n 0, 1) := by decide +kernel
theorem dX1_obey_85 : decode cX1_obey 85 = .ok (.aload_n 0, 1) := by decide +kernel
theorem dX1_obey_86 : decode cX1_obey 86 = .ok (.getfield 15, 3) := by decide +kernel
theorem dX1_obey_89 : decode cX1_obey 89 = .ok (.iload_n 2, 1) := by decide +kernel
theorem dX1_obey_90 : decode cX1_obey 90 = .ok (.invokevirtual 66, 3) := by decide +kernel
theorem dX1_obey_93 : decode cX1_obey 93 = .ok (.ireturn, 1) := by decide +kernel
theorem dX1_obey_94 : decode cX1_obey 94 = .ok (.aload_n 0, 1) := by decide +kernel
theorem dX1_obey_95 : decode cX1_obey 95 = .ok (.iload_n 2, 1) := by decide +kernel
theorem dX1_obey_96 : decode cX1_obey 96 = .ok (.iload_n 3, 1) := by decide +kernel
theorem dX1_obey_97 : decode cX1_obey 97 = .ok (.invokevirtual 66, 3) := by decide +kernel
theorem dX1_obey_100 : decode cX1_obey 100 = .ok (.ireturn, 1) := by decide +kernel
theorem dX1_obey_101 : decode cX1_obey 101 = .ok (.aload_n 0, 1) := by decide +kernel
theorem dX1_obey_102 : decode cX1_obey 102 = .ok (.iload_n 2, 1) := by decide +kernel
theorem dX1_obey_103 : decode cX1_obey 103 = .ok (.invokevirtual 70, 3) := by decide +kernel
theorem dX1_obey_106 : decode cX1_obey 106 = .ok (.ireturn, 1) := by decide +kernel
theorem dX1_obey_107 : decode cX1_obey 107 = .ok (.aload_n 0, 1) := by decide +kernel
theorem dX1_obey_108 : decode cX1_obey 108 = .ok (.iload_n 2, 1) := by decide +kernel
theorem dX1_obey_109 : decode cX1_obey 109 = .ok (.invokevirtual 73, 3) := by decide +kernel
theorem dX1_obey_112 : decode cX1_obey 112 = .ok (.ireturn, 1) := by decide +kernel
theorem dX1_obey_113 : decode cX1_obey 113 = .ok (.aload_n 0, 1) := by decide +kernel
theorem dX1_obey_114 : decode cX1_obey 114 = .ok (.iload_n 2, 1) := by decide +kernel
theorem dX1_obey_115 : decode cX1_obey 115 = .ok (.iconst 1, 1) := by decide +kernel
theorem dX1_obey_116 : decode cX1_obey 116 = .ok (.invokevirtual 76, 3) := by decide +kernel
theorem dX1_obey_119 : decode cX1_obey 119 = .ok (.ireturn, 1) := by decide +kernel
theorem dX1_obey_120 : decode cX1_obey 120 = .ok (.aload_n 0, 1) := by decide +kernel
theorem dX1_obey_121 : decode cX1_obey 121 = .ok (.iload_n 2, 1) := by decide +kernel
theorem dX1_obey_122 : decode cX1_obey 122 = .ok (.iconst 0, 1) := by decide +kernel
theorem dX1_obey_123 : decode cX1_obey 123 = .ok (.invokevirtual 76, 3) := by decide +kernel
theorem dX1_obey_126 : decode cX1_obey 126 = .ok (.ireturn, 1) := by decide +kernel
theorem dX1_obey_127 : decode cX1_obey 127 = .ok (.iconst 0, 1) := by decide +kernel
theorem dX1_obey_128 : decode cX1_obey 128 = .ok (.ireturn, 1) := by decide +kernel
theorem dX1_becomeLike_0 : decode cX1_becomeLike 0 = .ok (.aload_n 1, 1) := by decide +kernel
theorem dX1_becomeLike_1 : decode cX1_becomeLike 1 = .ok (.ifnonnull 4, 3) := by decide +kernel
theorem dX1_becomeLike_4 : decode cX1_becomeLike 4 = .ok (.return_, 1) := by decide +kernel
theorem dX1_becomeLike_5 : decode cX1_becomeLike 5 = .ok (.aload_n 0, 1) := by decide +kernel
theorem dX1_becomeLike_6 : decode cX1_becomeLike 6 = .ok (.aload_n 1, 1) := by decide +kernel
theorem dX1_becomeLike_7 : decode cX1_becomeLike 7 = .ok (.getfield 15, 3) := by decide +kernel
theorem dX1_becomeLike_10 : decode cX1_becomeLike 10 = .ok (.putfield 15, 3) := by decide +kernel
theorem dX1_becomeLike_13 : decode cX1_becomeLike 13 = .ok (.aload_n 0, 1) := by decide +kernel
theorem dX1_becomeLike_14 : decode cX1_becomeLike 14 = .ok (.aload_n 1, 1) := by decide +kernel
theorem dX1_becomeLike_15 : decode cX1_becomeLike 15 = .ok (.getfield 28, 3) := by decide +kernel
theorem dX1_becomeLike_18 : decode cX1_becomeLike 18 = .ok (.putfield 28, 3) := by decide +kernel
theorem dX1_becomeLike_21 : decode cX1_becomeLike 21 = .ok (.aload_n 0, 1) := by decide +kernel
theorem dX1_becomeLike_22 : decode cX1_becomeLike 22 = .ok (.aload_n 1, 1) := by decide +kernel
theorem dX1_becomeLike_23 : decode cX1_becomeLike 23 = .ok (.getfield 19, 3) := by decide +kernel
theorem dX1_becomeLike_26 : decode cX1_becomeLike 26 = .ok (.putfield 19, 3) := by decide +kernel
theorem dX1_becomeLike_29 : decode cX1_becomeLike 29 = .ok (.aload_n 0, 1) := by decide +kernel
theorem dX1_becomeLike_30 : decode cX1_becomeLike 30 = .ok (.aload_n 1, 1) := by decide +kernel
theorem dX1_becomeLike_31 : decode cX1_becomeLike 31 = .ok (.getfield 22, 3) := by decide +kernel
theorem dX1_becomeLike_34 : decode cX1_becomeLike 34 = .ok (.putfield 22, 3) := by decide +kernel
theorem dX1_becomeLike_37 : decode cX1_becomeLike 37 = .ok (.aload_n 0, 1) := by decide +kernel
theorem dX1_becomeLike_38 : decode cX1_becomeLike 38 = .ok (.aload_n 1, 1) := by decide +kernel
theorem dX1_becomeLike_39 : decode cX1_becomeLike 39 = .ok (.getfield 25, 3) := by decide +kernel
theorem dX1_becomeLike_42 : decode cX1_becomeLike 42 = .ok (.putfield 25, 3) := by decide +kernel
theorem dX1_becomeLike_45 : decode cX1_becomeLike 45 = .ok (.iconst 0, 1) := by decide +kernel
theorem dX1_becomeLike_46 : decode cX1_becomeLike 46 = .ok (.istore_n 2, 1) := by decide +kernel
theorem dX1_becomeLike_47 : decode cX1_becomeLike 47 = .ok (.iload_n 2, 1) := by decide +kernel
theorem dX1_becomeLike_48 : decode cX1_becomeLike 48 = .ok (.aload_n 0, 1) := by decide +kernel
theorem dX1_becomeLike_49 : decode cX1_becomeLike 49 = .ok (.getfield 15, 3) := by decide +kernel
theorem dX1_becomeLike_52 : decode cX1_becomeLike 52 = .ok (.if_icmp .ge 19, 3) := by decide +kernel
theorem dX1_becomeLike_55 : decode cX1_becomeLike 55 = .ok (.aload_n 0, 1) := by decide +kernel
theorem dX1_becomeLike_56 : decode cX1_becomeLike 56 = .ok (.iload_n 2, 1) := by decide +kernel
theorem dX1_becomeLike_57 : decode cX1_becomeLike 57 = .ok (.aload_n 1, 1) := by decide +kernel
theorem dX1_becomeLike_58 : decode cX1_becomeLike 58 = .ok (.iload_n 2, 1) := by decide +kernel
theorem dX1_becomeLike_59 : decode cX1_becomeLike 59 = .ok (.invokevirtual 42, 3) := by decide +kernel
theorem dX1_becomeLike_62 : decode cX1_becomeLike 62 = .ok (.invokevirtual 53, 3) := by decide +kernel
theorem dX1_becomeLike_65 : decode cX1_becomeLike 65 = .ok (.iinc 2 1, 3) := by decide +kernel
theorem dX1_becomeLike_68 : decode cX1_becomeLike 68 = .ok (.goto (-21), 3) := by decide +kernel
theorem dX1_becomeLike_71 : decode cX1_becomeLike 71 = .ok (.return_, 1) := by decide +kernel
theorem dX1_lay_0 : decode cX1_lay 0 = .ok (.iload_n 1, 1) := by decide +kernel
theorem dX1_lay_1 : decode cX1_lay 1 = .ok (.ifCond .lt 19, 3) := by decide +kernel
theorem dX1_lay_4 : decode cX1_lay 4 = .ok (.iload_n 1, 1) := by decide +kernel
theorem dX1_lay_5 : decode cX1_lay 5 = .ok (.aload_n 0, 1) := by decide +kernel
theorem dX1_lay_6 : decode cX1_lay 6 = .ok (.getfield 9, 3) := by decide +kernel
theorem dX1_lay_9 : decode cX1_lay 9 = .ok (.arraylength, 1) := by decide +kernel
theorem dX1_lay_10 : decode cX1_lay 10 = .ok (.if_icmp .ge 10, 3) := by decide +kernel
theorem dX1_lay_13 : decode cX1_lay 13 = .ok (.aload_n 0, 1) := by decide +kernel
theorem dX1_lay_14 : decode cX1_lay 14 = .ok (.getfield 9, 3) := by decide +kernel
theorem dX1_lay_17 : decode cX1_lay 17 = .ok (.iload_n 1, 1) := by decide +kernel
theorem dX1_lay_18 : decode cX1_lay 18 = .ok (.iload_n 2, 1) := by decide +kernel
theorem dX1_lay_19 : decode cX1_lay 19 = .ok (.iastore, 1) := by decide +kernel
theorem dX1_lay_20 : decode cX1_lay 20 = .ok (.return_, 1) := by decide +kernel
theorem dX2_init_0 : decode cX2_init 0 = .ok (.aload_n 0, 1) := by decide +kernel
theorem dX2_init_1 : decode cX2_init 1 = .ok (.invokespecial 3, 3) := by decide +kernel
theorem dX2_init_4 : decode cX2_init 4 = .ok (.aload_n 0, 1) := by decide +kernel
theorem dX2_init_5 : decode cX2_init 5 = .ok (.sipush 128, 3) := by decide +kernel
theorem dX2_init_8 : decode cX2_init 8 = .ok (.newarray .int, 2) := by decide +kernel
theorem dX2_init_10 : decode cX2_init 10 = .ok (.putfield 9, 3) := by decide +kernel
theorem dX2_init_13 : decode cX2_init 13 = .ok (.return_, 1) := by decide +kernel
theorem dX3_init_0 : decode cX3_init 0 = .ok (.aload_n 0, 1) := by decide +kernel
theorem dX3_init_1 : decode cX3_init 1 = .ok (.invokespecial 3, 3) := by decide +kernel
theorem dX3_init_4 : decode cX3_init 4 = .ok (.aload_n 0, 1) := by decide +kernel
theorem dX3_init_5 : decode cX3_init 5 = .ok (.bipush 8, 2) := by decide +kernel
theorem dX3_init_7 : decode cX3_init 7 = .ok (.anewarray 9, 3) := by decide +kernel
theorem dX3_init_10 : decode cX3_init 10 = .ok (.putfield 11, 3) := by decide +kernel
theorem dX3_init_13 : decode cX3_init 13 = .ok (.iconst 0, 1) := by decide +kernel
theorem dX3_init_14 : decode cX3_init 14 = .ok (.istore_n 1, 1) := by decide +kernel
theorem dX3_init_15 : decode cX3_init 15 = .ok (.iload_n 1, 1) := by decide +kernel
theorem dX3_init_16 : decode cX3_init 16 = .ok (.aload_n 0, 1) := by decide +kernel
theorem dX3_init_17 : decode cX3_init 17 = .ok (.getfield 11, 3) := by decide +kernel
theorem dX3_init_20 : decode cX3_init 20 = .ok (.arraylength, 1) := by decide +kernel
theorem dX3_init_21 : decode cX3_init 21 = .ok (.if_icmp .ge 22, 3) := by decide +kernel
theorem dX3_init_24 : decode cX3_init 24 = .ok (.aload_n 0, 1) := by decide +kernel
theorem dX3_init_25 : decode cX3_init 25 = .ok (.getfield 11, 3) := by decide +kernel
theorem dX3_init_28 : decode cX3_init 28 = .ok (.iload_n 1, 1) := by decide +kernel
theorem dX3_init_29 : decode cX3_init 29 = .ok (.new 9, 3) := by decide +kernel
theorem dX3_init_32 : decode cX3_init 32 = .ok (.dup, 1) := by decide +kernel
theorem dX3_init_33 : decode cX3_init 33 = .ok (.invokespecial 17, 3) := by decide +kernel
theorem dX3_init_36 : decode cX3_init 36 = .ok (.aastore, 1) := by decide +kernel
theorem dX3_init_37 : decode cX3_init 37 = .ok (.iinc 1 1, 3) := by decide +kernel
theorem dX3_init_40 : decode cX3_init 40 = .ok (.goto (-25), 3) := by decide +kernel
theorem dX3_init_43 : decode cX3_init 43 = .ok (.return_, 1) := by decide +kernel
theorem dX3_size_0 : decode cX3_size 0 = .ok (.aload_n 0, 1) := by decide +kernel
theorem dX3_size_1 : decode cX3_size 1 = .ok (.getfield 18, 3) := by decide +kernel
theorem dX3_size_4 : decode cX3_size 4 = .ok (.ireturn, 1) := by decide +kernel
theorem dX3_keep_0 : decode cX3_keep 0 = .ok (.aload_n 0, 1) := by decide +kernel
theorem dX3_keep_1 : decode cX3_keep 1 = .ok (.getfield 18, 3) := by decide +kernel
theorem dX3_keep_4 : decode cX3_keep 4 = .ok (.bipush 8, 2) := by decide +kernel
theorem dX3_keep_6 : decode cX3_keep 6 = .ok (.if_icmp .ne 26, 3) := by decide +kernel
theorem dX3_keep_9 : decode cX3_keep 9 = .ok (.aload_n 0, 1) := by decide +kernel
theorem dX3_keep_10 : decode cX3_keep 10 = .ok (.aload_n 0, 1) := by decide +kernel
theorem dX3_keep_11 : decode cX3_keep 11 = .ok (.getfield 22, 3) := by decide +kernel
theorem dX3_keep_14 : decode cX3_keep 14 = .ok (.iconst 1, 1) := by decide +kernel
theorem dX3_keep_15 : decode cX3_keep 15 = .ok (.iadd, 1) := by decide +kernel
theorem dX3_keep_16 : decode cX3_keep 16 = .ok (.bipush 8, 2) := by decide +kernel
theorem dX3_keep_18 : decode cX3_keep 18 = .ok (.irem, 1) := by decide +kernel
theorem dX3_keep_19 : decode cX3_keep 19 = .ok (.putfield 22, 3) := by decide +kernel
theorem dX3_keep_22 : decode cX3_keep 22 = .ok (.aload_n 0, 1) := by decide +kernel
theorem dX3_keep_23 : decode cX3_keep 23 = .ok (.dup, 1) := by decide +kernel
theorem dX3_keep_24 : decode cX3_keep 24 = .ok (.getfield 18, 3) := by decide +kernel
theorem dX3_keep_27 : decode cX3_keep 27 = .ok (.iconst 1, 1) := by decide +kernel
theorem dX3_keep_28 : decode cX3_keep 28 = .ok (.isub, 1) := by decide +kernel
theorem dX3_keep_29 : decode cX3_keep 29 = .ok (.putfield 18, 3) := by decide +kernel
theorem dX3_keep_32 : decode cX3_keep 32 = .ok (.aload_n 0, 1) := by decide +kernel
theorem dX3_keep_33 : decode cX3_keep 33 = .ok (.aload_n 0, 1) := by decide +kernel
theorem dX3_keep_34 : decode cX3_keep 34 = .ok (.getfield 18, 3) := by decide +kernel
theorem dX3_keep_37 : decode cX3_keep 37 = .ok (.invokevirtual 25, 3) := by decide +kernel
theorem dX3_keep_40 : decode cX3_keep 40 = .ok (.astore_n 2, 1) := by decide +kernel
theorem dX3_keep_41 : decode cX3_keep 41 = .ok (.aload_n 2, 1) := by decide +kernel
theorem dX3_keep_42 : decode cX3_keep 42 = .ok (.ifnull 18, 3) := by decide +kernel
theorem dX3_keep_45 : decode cX3_keep 45 = .ok (.aload_n 2, 1) := by decide +kernel
theorem dX3_keep_46 : decode cX3_keep 46 = .ok (.aload_n 1, 1) := by decide +kernel
theorem dX3_keep_47 : decode cX3_keep 47 = .ok (.invokevirtual 29, 3) := by decide +kernel
theorem dX3_keep_50 : decode cX3_keep 50 = .ok (.aload_n 0, 1) := by decide +kernel
theorem dX3_keep_51 : decode cX3_keep 51 = .ok (.dup, 1) := by decide +kernel
theorem dX3_keep_52 : decode cX3_keep 52 = .ok (.getfield 18, 3) := by decide +kernel
theorem dX3_keep_55 : decode cX3_keep 55 = .ok (.iconst 1, 1) := by decide +kernel
theorem dX3_keep_56 : decode cX3_keep 56 = .ok (.iadd, 1) := by decide +kernel
theorem dX3_keep_57 : decode cX3_keep 57 = .ok (.putfield 18, 3) := by decide +kernel
theorem dX3_keep_60 : decode cX3_keep 60 = .ok (.return_, 1) := by decide +kernel
theorem dX3_giveBack_0 : decode cX3_giveBack 0 = .ok (.aload_n 0, 1) := by decide +kernel
theorem dX3_giveBack_1 : decode cX3_giveBack 1 = .ok (.getfield 18, 3) := by decide +kernel
theorem dX3_giveBack_4 : decode cX3_giveBack 4 = .ok (.ifCond .ne 5, 3) := by decide +kernel
theorem dX3_giveBack_7 : decode cX3_giveBack 7 = .ok (.iconst 0, 1) := by decide +kernel
theorem dX3_giveBack_8 : decode cX3_giveBack 8 = .ok (.ireturn, 1) := by decide +kernel
theorem dX3_giveBack_9 : decode cX3_giveBack 9 = .ok (.aload_n 0, 1) := by decide +kernel
theorem dX3_giveBack_10 : decode cX3_giveBack 10 = .ok (.dup, 1) := by decide +kernel
theorem dX3_giveBack_11 : decode cX3_giveBack 11 = .ok (.getfield 18, 3) := by decide +kernel
theorem dX3_giveBack_14 : decode cX3_giveBack 14 = .ok (.iconst 1, 1) := by decide +kernel
theorem dX3_giveBack_15 : decode cX3_giveBack 15 = .ok (.isub, 1) := by decide +kernel
theorem dX3_giveBack_16 : decode cX3_giveBack 16 = .ok (.putfield 18, 3) := by decide +kernel
theorem dX3_giveBack_19 : decode cX3_giveBack 19 = .ok (.aload_n 1, 1) := by decide +kernel
theorem dX3_giveBack_20 : decode cX3_giveBack 20 = .ok (.aload_n 0, 1) := by decide +kernel
theorem dX3_giveBack_21 : decode cX3_giveBack 21 = .ok (.aload_n 0, 1) := by decide +kernel
theorem dX3_giveBack_22 : decode cX3_giveBack 22 = .ok (.getfield 18, 3) := by decide +kernel
theorem dX3_giveBack_25 : decode cX3_giveBack 25 = .ok (.invokevirtual 25, 3) := by decide +kernel
theorem dX3_giveBack_28 : decode cX3_giveBack 28 = .ok (.invokevirtual 29, 3) := by decide +kernel
theorem dX3_giveBack_31 : decode cX3_giveBack 31 = .ok (.iconst 1, 1) := by decide +kernel
theorem dX3_giveBack_32 : decode cX3_giveBack 32 = .ok (.ireturn, 1) := by decide +kernel
theorem dX3_forget_0 : decode cX3_forget 0 = .ok (.aload_n 0, 1) := by decide +kernel
theorem dX3_forget_1 : decode cX3_forget 1 = .ok (.iconst 0, 1) := by decide +kernel
theorem dX3_forget_2 : decode cX3_forget 2 = .ok (.putfield 18, 3) := by decide +kernel
theorem dX3_forget_5 : decode cX3_forget 5 = .ok (.return_, 1) := by decide +kernel
theorem dX3_slotAt_0 : decode cX3_slotAt 0 = .ok (.aload_n 0, 1) := by decide +kernel
theorem dX3_slotAt_1 : decode cX3_slotAt 1 = .ok (.getfield 22, 3) := by decide +kernel
theorem dX3_slotAt_4 : decode cX3_slotAt 4 = .ok (.iload_n 1, 1) := by decide +kernel
theorem dX3_slotAt_5 : decode cX3_slotAt 5 = .ok (.iadd, 1) := by decide +kernel
theorem dX3_slotAt_6 : decode cX3_slotAt 6 = .ok (.bipush 8, 2) := by decide +kernel
theorem dX3_slotAt_8 : decode cX3_slotAt 8 = .ok (.irem, 1) := by decide +kernel
theorem dX3_slotAt_9 : decode cX3_slotAt 9 = .ok (.istore_n 2, 1) := by decide +kernel
theorem dX3_slotAt_10 : decode cX3_slotAt 10 = .ok (.iload_n 2, 1) := by decide +kernel
theorem dX3_slotAt_11 : decode cX3_slotAt 11 = .ok (.ifCond .lt 21, 3) := by decide +kernel
theorem dX3_slotAt_14 : decode cX3_slotAt 14 = .ok (.iload_n 2, 1) := by decide +kernel
theorem dX3_slotAt_15 : decode cX3_slotAt 15 = .ok (.aload_n 0, 1) := by decide +kernel
theorem dX3_slotAt_16 : decode cX3_slotAt 16 = .ok (.getfield 11, 3) := by decide +kernel
theorem dX3_slotAt_19 : decode cX3_slotAt 19 = .ok (.arraylength, 1) := by decide +kernel
theorem dX3_slotAt_20 : decode cX3_slotAt 20 = .ok (.if_icmp .ge 12, 3) := by decide +kernel
theorem dX3_slotAt_23 : decode cX3_slotAt 23 = .ok (.aload_n 0, 1) := by decide +kernel
theorem dX3_slotAt_24 : decode cX3_slotAt 24 = .ok (.getfield 11, 3) := by decide +kernel
theorem dX3_slotAt_27 : decode cX3_slotAt 27 = .ok (.iload_n 2, 1) := by decide +kernel
theorem dX3_slotAt_28 : decode cX3_slotAt 28 = .ok (.aaload, 1) := by decide +kernel
theorem dX3_slotAt_29 : decode cX3_slotAt 29 = .ok (.goto 4, 3) := by decide +kernel
theorem dX3_slotAt_32 : decode cX3_slotAt 32 = .ok (.aconst_null, 1) := by decide +kernel
theorem dX3_slotAt_33 : decode cX3_slotAt 33 = .ok (.areturn, 1) := by decide +kernel
theorem dX4_init_0 : decode cX4_init 0 = .ok (.aload_n 0, 1) := by decide +kernel
theorem dX4_init_1 : decode cX4_init 1 = .ok (.invokespecial 3, 3) := by decide +kernel
theorem dX4_init_4 : decode cX4_init 4 = .ok (.aload_n 0, 1) := by decide +kernel
theorem dX4_init_5 : decode cX4_init 5 = .ok (.iconst 5, 1) := by decide +kernel
theorem dX4_init_6 : decode cX4_init 6 = .ok (.newarray .long, 2) := by decide +kernel
theorem dX4_init_8 : decode cX4_init 8 = .ok (.putfield 9, 3) := by decide +kernel
theorem dX4_init_11 : decode cX4_init 11 = .ok (.aload_n 0, 1) := by decide +kernel
theorem dX4_init_12 : decode cX4_init 12 = .ok (.iconst 5, 1) := by decide +kernel
theorem dX4_init_13 : decode cX4_init 13 = .ok (.bipush 9, 2) := by decide +kernel
theorem dX4_init_15 : decode cX4_init 15 = .ok (.multianewarray 15 2, 4) := by decide +kernel
theorem dX4_init_19 : decode cX4_init 19 = .ok (.putfield 17, 3) := by decide +kernel
theorem dX4_init_22 : decode cX4_init 22 = .ok (.aload_n 0, 1) := by decide +kernel
theorem dX4_init_23 : decode cX4_init 23 = .ok (.iconst 5, 1) := by decide +kernel
theorem dX4_init_24 : decode cX4_init 24 = .ok (.newarray .int, 2) := by decide +kernel
theorem dX4_init_26 : decode cX4_init 26 = .ok (.putfield 20, 3) := by decide +kernel
theorem dX4_init_29 : decode cX4_init 29 = .ok (.aload_n 0, 1) := by decide +kernel
theorem dX4_init_30 : decode cX4_init 30 = .ok (.bipush 64, 2) := by decide +kernel
theorem dX4_init_32 : decode cX4_init 32 = .ok (.newarray .int, 2) := by decide +kernel
theorem dX4_init_34 : decode cX4_init 34 = .ok (.putfield 24, 3) := by decide +kernel
theorem dX4_init_37 : decode cX4_init 37 = .ok (.aload_n 0, 1) := by decide +kernel
theorem dX4_init_38 : decode cX4_init 38 = .ok (.bipush 64, 2) := by decide +kernel
theorem dX4_init_40 : decode cX4_init 40 = .ok (.newarray .int, 2) := by decide +kernel
theorem dX4_init_42 : decode cX4_init 42 = .ok (.putfield 27, 3) := by decide +kernel
theorem dX4_init_45 : decode cX4_init 45 = .ok (.return_, 1) := by decide +kernel
theorem dX4_fill_0 : decode cX4_fill 0 = .ok (.aload_n 0, 1) := by decide +kernel
theorem dX4_fill_1 : decode cX4_fill 1 = .ok (.aload_n 1, 1) := by decide +kernel
theorem dX4_fill_2 : decode cX4_fill 2 = .ok (.invokevirtual 30, 3) := by decide +kernel
theorem dX4_fill_5 : decode cX4_fill 5 = .ok (.putfield 36, 3) := by decide +kernel
theorem dX4_fill_8 : decode cX4_fill 8 = .ok (.iconst 0, 1) := by decide +kernel
theorem dX4_fill_9 : decode cX4_fill 9 = .ok (.istore_n 2, 1) := by decide +kernel
theorem dX4_fill_10 : decode cX4_fill 10 = .ok (.iload_n 2, 1) := by decide +kernel
theorem dX4_fill_11 : decode cX4_fill 11 = .ok (.aload_n 0, 1) := by decide +kernel
theorem dX4_fill_12 : decode cX4_fill 12 = .ok (.getfield 36, 3) := by decide +kernel
theorem dX4_fill_15 : decode cX4_fill 15 = .ok (.if_icmp .ge 29, 3) := by decide +kernel
theorem dX4_fill_18 : decode cX4_fill 18 = .ok (.iload_n 2, 1) := by decide +kernel
theorem dX4_fill_19 : decode cX4_fill 19 = .ok (.aload_n 0, 1) := by decide +kernel
theorem dX4_fill_20 : decode cX4_fill 20 = .ok (.getfield 24, 3) := by decide +kernel
theorem dX4_fill_23 : decode cX4_fill 23 = .ok (.arraylength, 1) := by decide +kernel
theorem dX4_fill_24 : decode cX4_fill 24 = .ok (.if_icmp .ge 20, 3) := by decide +kernel
theorem dX4_fill_27 : decode cX4_fill 27 = .ok (.aload_n 0, 1) := by decide +kernel
theorem dX4_fill_28 : decode cX4_fill 28 = .ok (.getfield 24, 3) := by decide +kernel
theorem dX4_fill_31 : decode cX4_fill 31 = .ok (.iload_n 2, 1) := by decide +kernel
theorem dX4_fill_32 : decode cX4_fill 32 = .ok (.aload_n 1, 1) := by decide +kernel
theorem dX4_fill_33 : decode cX4_fill 33 = .ok (.iload_n 2, 1) := by decide +kernel
theorem dX4_fill_34 : decode cX4_fill 34 = .ok (.invokevirtual 39, 3) := by decide +kernel
theorem dX4_fill_37 : decode cX4_fill 37 = .ok (.iastore, 1) := by decide +kernel
theorem dX4_fill_38 : decode cX4_fill 38 = .ok (.iinc 2 1, 3) := by decide +kernel
theorem dX4_fill_41 : decode cX4_fill 41 = .ok (.goto (-31), 3) := by decide +kernel
theorem dX4_fill_44 : decode cX4_fill 44 = .ok (.iconst 0, 1) := by decide +kernel
theorem dX4_fill_45 : decode cX4_fill 45 = .ok (.istore_n 2, 1) := by decide +kernel
theorem dX4_fill_46 : decode cX4_fill 46 = .ok (.iload_n 2, 1) := by decide +kernel
theorem dX4_fill_47 : decode cX4_fill 47 = .ok (.iconst 5, 1) := by decide +kernel
theorem dX4_fill_48 : decode cX4_fill 48 = .ok (.if_icmp .ge 19, 3) := by decide +kernel
theorem dX4_fill_51 : decode cX4_fill 51 = .ok (.aload_n 0, 1) := by decide +kernel
theorem dX4_fill_52 : decode cX4_fill 52 = .ok (.iload_n 2, 1) := by decide +kernel
theorem dX4_fill_53 : decode cX4_fill 53 = .ok (.invokevirtual 43, 3) := by decide +kernel
theorem dX4_fill_56 : decode cX4_fill 56 = .ok (.aload_n 0, 1) := by decide +kernel
theorem dX4_fill_57 : decode cX4_fill 57 = .ok (.iload_n 2, 1) := by decide +kernel
theorem dX4_fill_58 : decode cX4_fill 58 = .ok (.invokevirtual 47, 3) := by decide +kernel
theorem dX4_fill_61 : decode cX4_fill 61 = .ok (.iinc 2 1, 3) := by decide +kernel
theorem dX4_fill_64 : decode cX4_fill 64 = .ok (.goto (-18), 3) := by decide +kernel
theorem dX4_fill_67 : decode cX4_fill 67 = .ok (.return_, 1) := by decide +kernel
theorem dX4_fillRow_0 : decode cX4_fillRow 0 = .ok (.iload_n 1, 1) := by decide +kernel
theorem dX4_fillRow_1 : decode cX4_fillRow 1 = .ok (.invokestatic 50, 3) := by decide +kernel
theorem dX4_fillRow_4 : decode cX4_fillRow 4 = .ok (.ifCond .ne 4, 3) := by decide +kernel
theorem dX4_fillRow_7 : decode cX4_fillRow 7 = .ok (.return_, 1) := by decide +kernel
theorem dX4_fillRow_8 : decode cX4_fillRow 8 = .ok (.lconst 0, 1) := by decide +kernel
theorem dX4_fillRow_9 : decode cX4_fillRow 9 = .ok (.lstore_n 2, 1) := by decide +kernel
theorem dX4_fillRow_10 : decode cX4_fillRow 10 = .ok (.iconst 0, 1) := by decide +kernel
theorem dX4_fillRow_11 : decode cX4_fillRow 11 = .ok (.istore 4, 2) := by decide +kernel
theorem dX4_fillRow_13 : decode cX4_fillRow 13 = .ok (.iconst 0, 1) := by decide +kernel
theorem dX4_fillRow_14 : decode cX4_fillRow 14 = .ok (.istore 5, 2) := by decide +kernel
theorem dX4_fillRow_16 : decode cX4_fillRow 16 = .ok (.iload 5, 2) := by decide +kernel
theorem dX4_fillRow_18 : decode cX4_fillRow 18 = .ok (.bipush 64, 2) := by decide +kernel
theorem dX4_fillRow_20 : decode cX4_fillRow 20 = .ok (.if_icmp .gt 74, 3) := by decide +kernel
theorem dX4_fillRow_23 : decode cX4_fillRow 23 = .ok (.iload 5, 2) := by decide +kernel
theorem dX4_fillRow_25 : decode cX4_fillRow 25 = .ok (.bipush 8, 2) := by decide +kernel
theorem dX4_fillRow_27 : decode cX4_fillRow 27 = .ok (.irem, 1) := by decide +kernel
theorem dX4_fillRow_28 : decode cX4_fillRow 28 = .ok (.ifCond .ne 17, 3) := by decide +kernel
theorem dX4_fillRow_31 : decode cX4_fillRow 31 = .ok (.aload_n 0, 1) := by decide +kernel
theorem dX4_fillRow_32 : decode cX4_fillRow 32 = .ok (.getfield 17, 3) := by decide +kernel
theorem dX4_fillRow_35 : decode cX4_fillRow 35 = .ok (.iload_n 1, 1) := by decide +kernel
theorem dX4_fillRow_36 : decode cX4_fillRow 36 = .ok (.aaload, 1) := by decide +kernel
theorem dX4_fillRow_37 : decode cX4_fillRow 37 = .ok (.iload 5, 2) := by decide +kernel
theorem dX4_fillRow_39 : decode cX4_fillRow 39 = .ok (.bipush 8, 2) := by decide +kernel
theorem dX4_fillRow_41 : decode cX4_fillRow 41 = .ok (.idiv, 1) := by decide +kernel
theorem dX4_fillRow_42 : decode cX4_fillRow 42 = .ok (.iload 4, 2) := by decide +kernel
theorem dX4_fillRow_44 : decode cX4_fillRow 44 = .ok (.iastore, 1) := by decide +kernel
theorem dX4_fillRow_45 : decode cX4_fillRow 45 = .ok (.iload 5, 2) := by decide +kernel
theorem dX4_fillRow_47 : decode cX4_fillRow 47 = .ok (.aload_n 0, 1) := by decide +kernel
theorem dX4_fillRow_48 : decode cX4_fillRow 48 = .ok (.getfield 36, 3) := by decide +kernel
theorem dX4_fillRow_51 : decode cX4_fillRow 51 = .ok (.if_icmp .ge 37, 3) := by decide +kernel
theorem dX4_fillRow_54 : decode cX4_fillRow 54 = .ok (.iload 5, 2) := by decide +kernel
theorem dX4_fillRow_56 : decode cX4_fillRow 56 = .ok (.aload_n 0, 1) := by decide +kernel
theorem dX4_fillRow_57 : decode cX4_fillRow 57 = .ok (.getfield 24, 3) := by decide +kernel
theorem dX4_fillRow_60 : decode cX4_fillRow 60 = .ok (.arraylength, 1) := by decide +kernel
theorem dX4_fillRow_61 : decode cX4_fillRow 61 = .ok (.if_icmp .ge 27, 3) := by decide +kernel
theorem dX4_fillRow_64 : decode cX4_fillRow 64 = .ok (.aload_n 0, 1) := by decide +kernel
theorem dX4_fillRow_65 : decode cX4_fillRow 65 = .ok (.getfield 24, 3) := by decide +kernel
theorem dX4_fillRow_68 : decode cX4_fillRow 68 = .ok (.iload 5, 2) := by decide +kernel
theorem dX4_fillRow_70 : decode cX4_fillRow 70 = .ok (.iaload, 1) := by decide +kernel
theorem dX4_fillRow_71 : decode cX4_fillRow 71 = .ok (.iload_n 1, 1) := by decide +kernel
theorem dX4_fillRow_72 : decode cX4_fillRow 72 = .ok (.invokestatic 54, 3) := by decide +kernel
theorem dX4_fillRow_75 : decode cX4_fillRow 75 = .ok (.ifCond .eq 13, 3) := by decide +kernel
theorem dX4_fillRow_78 : decode cX4_fillRow 78 = .ok (.lload_n 2, 1) := by decide +kernel
theorem dX4_fillRow_79 : decode cX4_fillRow 79 = .ok (.lconst 1, 1) := by decide +kernel
theorem dX4_fillRow_80 : decode cX4_fillRow 80 = .ok (.iload 5, 2) := by decide +kernel
theorem dX4_fillRow_82 : decode cX4_fillRow 82 = .ok (.lshl, 1) := by decide +kernel
theorem dX4_fillRow_83 : decode cX4_fillRow 83 = .ok (.lor, 1) := by decide +kernel
theorem dX4_fillRow_84 : decode cX4_fillRow 84 = .ok (.lstore_n 2, 1) := by decide +kernel
theorem dX4_fillRow_85 : decode cX4_fillRow 85 = .ok (.iinc 4 1, 3) := by decide +kernel
theorem dX4_fillRow_88 : decode cX4_fillRow 88 = .ok (.iinc 5 1, 3) := by decide +kernel
theorem dX4_fillRow_91 : decode cX4_fillRow 91 = .ok (.goto (-75), 3) := by decide +kernel
theorem dX4_fillRow_94 : decode cX4_fillRow 94 = .ok (.aload_n 0, 1) := by decide +kernel
theorem dX4_fillRow_95 : decode cX4_fillRow 95 = .ok (.getfield 9, 3) := by decide +kernel
theorem dX4_fillRow_98 : decode cX4_fillRow 98 = .ok (.iload_n 1, 1) := by decide +kernel
theorem dX4_fillRow_99 : decode cX4_fillRow 99 = .ok (.lload_n 2, 1) := by decide +kernel
theorem dX4_fillRow_100 : decode cX4_fillRow 100 = .ok (.lastore, 1) := by decide +kernel
theorem dX4_fillRow_101 : decode cX4_fillRow 101 = .ok (.aload_n 0, 1) := by decide +kernel
theorem dX4_fillRow_102 : decode cX4_fillRow 102 = .ok (.getfield 20, 3) := by decide +kernel
theorem dX4_fillRow_105 : decode cX4_fillRow 105 = .ok (.iload_n 1, 1) := by decide +kernel
theorem dX4_fillRow_106 : decode cX4_fillRow 106 = .ok (.aload_n 0, 1) := by decide +kernel
theorem dX4_fillRow_107 : decode cX4_fillRow 107 = .ok (.getfield 36, 3) := by decide +kernel
theorem dX4_fillRow_110 : decode cX4_fillRow 110 = .ok (.iload 4, 2) := by decide +kernel
theorem dX4_fillRow_112 : decode cX4_fillRow 112 = .ok (.isub, 1) := by decide +kernel
theorem dX4_fillRow_113 : decode cX4_fillRow 113 = .ok (.iastore, 1) := by decide +kernel
theorem dX4_fillRow_114 : decode cX4_fillRow 114 = .ok (.return_, 1) := by decide +kernel
theorem dX4_sortByBit_0 : decode cX4_sortByBit 0 = .ok (.aload_n 0, 1) := by decide +kernel
theorem dX4_sortByBit_1 : decode cX4_sortByBit 1 = .ok (.iload_n 1, 1) := by decide +kernel
theorem dX4_sortByBit_2 : decode cX4_sortByBit 2 = .ok (.iconst 0, 1) := by decide +kernel
theorem dX4_sortByBit_3 : decode cX4_sortByBit 3 = .ok (.iconst 0, 1) := by decide +kernel
theorem dX4_sortByBit_4 : decode cX4_sortByBit 4 = .ok (.invokevirtual 58, 3) := by decide +kernel
theorem dX4_sortByBit_7 : decode cX4_sortByBit 7 = .ok (.istore_n 2, 1) := by decide +kernel
theorem dX4_sortByBit_8 : decode cX4_sortByBit 8 = .ok (.aload_n 0, 1) := by decide +kernel
theorem dX4_sortByBit_9 : decode cX4_sortByBit 9 = .ok (.iload_n 1, 1) := by decide +kernel
theorem dX4_sortByBit_10 : decode cX4_sortByBit 10 = .ok (.iconst 1, 1) := by decide +kernel
theorem dX4_sortByBit_11 : decode cX4_sortByBit 11 = .ok (.iload_n 2, 1) := by decide +kernel
theorem dX4_sortByBit_12 : decode cX4_sortByBit 12 = .ok (.invokevirtual 58, 3) := by decide +kernel
theorem dX4_sortByBit_15 : decode cX4_sortByBit 15 = .ok (.pop, 1) := by decide +kernel
theorem dX4_sortByBit_16 : decode cX4_sortByBit 16 = .ok (.iconst 0, 1) := by decide +kernel
theorem dX4_sortByBit_17 : decode cX4_sortByBit 17 = .ok (.istore_n 3, 1) := by decide +kernel
theorem dX4_sortByBit_18 : decode cX4_sortByBit 18 = .ok (.iload_n 3, 1) := by decide +kernel
theorem dX4_sortByBit_19 : decode cX4_sortByBit 19 = .ok (.aload_n 0, 1) := by decide +kernel
theorem dX4_sortByBit_20 : decode cX4_sortByBit 20 = .ok (.getfield 36, 3) := by decide +kernel
theorem dX4_sortByBit_23 : decode cX4_sortByBit 23 = .ok (.if_icmp .ge 39, 3) := by decide +kernel
theorem dX4_sortByBit_26 : decode cX4_sortByBit 26 = .ok (.iload_n 3, 1) := by decide +kernel
theorem dX4_sortByBit_27 : decode cX4_sortByBit 27 = .ok (.aload_n 0, 1) := by decide +kernel
theorem dX4_sortByBit_28 : decode cX4_sortByBit 28 = .ok (.getfield 24, 3) := by decide +kernel
theorem dX4_sortByBit_31 : decode cX4_sortByBit 31 = .ok (.arraylength, 1) := by decide +kernel
theorem dX4_sortByBit_32 : decode cX4_sortByBit 32 = .ok (.if_icmp .ge 30, 3) := by decide +kernel
theorem dX4_sortByBit_35 : decode cX4_sortByBit 35 = .ok (.iload_n 3, 1) := by decide +kernel
theorem dX4_sortByBit_36 : decode cX4_sortByBit 36 = .ok (.aload_n 0, 1) := by decide +kernel
theorem dX4_sortByBit_37 : decode cX4_sortByBit 37 = .ok (.getfield 27, 3) := by decide +kernel
theorem dX4_sortByBit_40 : decode cX4_sortByBit 40 = .ok (.arraylength, 1) := by decide +kernel
theorem dX4_sortByBit_41 : decode cX4_sortByBit 41 = .ok (.if_icmp .ge 21, 3) := by decide +kernel
theorem dX4_sortByBit_44 : decode cX4_sortByBit 44 = .ok (.aload_n 0, 1) := by decide +kernel
theorem dX4_sortByBit_45 : decode cX4_sortByBit 45 = .ok (.getfield 24, 3) := by decide +kernel
theorem dX4_sortByBit_48 : decode cX4_sortByBit 48 = .ok (.iload_n 3, 1) := by decide +kernel
theorem dX4_sortByBit_49 : decode cX4_sortByBit 49 = .ok (.aload_n 0, 1) := by decide +kernel
theorem dX4_sortByBit_50 : decode cX4_sortByBit 50 = .ok (.getfield 27, 3) := by decide +kernel
theorem dX4_sortByBit_53 : decode cX4_sortByBit 53 = .ok (.iload_n 3, 1) := by decide +kernel
theorem dX4_sortByBit_54 : decode cX4_sortByBit 54 = .ok (.iaload, 1) := by decide +kernel
theorem dX4_sortByBit_55 : decode cX4_sortByBit 55 = .ok (.iastore, 1) := by decide +kernel
theorem dX4_sortByBit_56 : decode cX4_sortByBit 56 = .ok (.iinc 3 1, 3) := by decide +kernel
theorem dX4_sortByBit_59 : decode cX4_sortByBit 59 = .ok (.goto (-41), 3) := by decide +kernel
theorem dX4_sortByBit_62 : decode cX4_sortByBit 62 = .ok (.return_, 1) := by decide +kernel
theorem dX4_gather_0 : decode cX4_gather 0 = .ok (.iload_n 3, 1) := by decide +kernel
theorem dX4_gather_1 : decode cX4_gather 1 = .ok (.istore 4, 2) := by decide +kernel
theorem dX4_gather_3 : decode cX4_gather 3 = .ok (.iconst 0, 1) := by decide +kernel
theorem dX4_gather_4 : decode cX4_gather 4 = .ok (.istore 5, 2) := by decide +kernel
theorem dX4_gather_6 : decode cX4_gather 6 = .ok (.iload 5, 2) := by decide +kernel
theorem dX4_gather_8 : decode cX4_gather 8 = .ok (.aload_n 0, 1) := by decide +kernel
theorem dX4_gather_9 : decode cX4_gather 9 = .ok (.getfield 36, 3) := by decide +kernel
theorem dX4_gather_12 : decode cX4_gather 12 = .ok (.if_icmp .ge 66, 3) := by decide +kernel
theorem dX4_gather_15 : decode cX4_gather 15 = .ok (.iload 5, 2) := by decide +kernel
theorem dX4_gather_17 : decode cX4_gather 17 = .ok (.aload_n 0, 1) := by decide +kernel
theorem dX4_gather_18 : decode cX4_gather 18 = .ok (.getfield 24, 3) := by decide +kernel
theorem dX4_gather_21 : decode cX4_gather 21 = .ok (.arraylength, 1) := by decide +kernel
theorem dX4_gather_22 : decode cX4_gather 22 = .ok (.if_icmp .ge 56, 3) := by decide +kernel
theorem dX4_gather_25 : decode cX4_gather 25 = .ok (.aload_n 0, 1) := by decide +kernel
theorem dX4_gather_26 : decode cX4_gather 26 = .ok (.getfield 24, 3) := by decide +kernel
theorem dX4_gather_29 : decode cX4_gather 29 = .ok (.iload 5, 2) := by decide +kernel
theorem dX4_gather_31 : decode cX4_gather 31 = .ok (.iaload, 1) := by decide +kernel
theorem dX4_gather_32 : decode cX4_gather 32 = .ok (.iload_n 1, 1) := by decide +kernel
theorem dX4_gather_33 : decode cX4_gather 33 = .ok (.invokestatic 54, 3) := by decide +kernel
theorem dX4_gather_36 : decode cX4_gather 36 = .ok (.iload_n 2, 1) := by decide +kernel
theorem dX4_gather_37 : decode cX4_gather 37 = .ok (.if_icmp .ne 35, 3) := by decide +kernel
theorem dX4_gather_40 : decode cX4_gather 40 = .ok (.iload 4, 2) := by decide +kernel
theorem dX4_gather_42 : decode cX4_gather 42 = .ok (.ifCond .lt 30, 3) := by decide +kernel
theorem dX4_gather_45 : decode cX4_gather 45 = .ok (.iload 4, 2) := by decide +kernel
theorem dX4_gather_47 : decode cX4_gather 47 = .ok (.aload_n 0, 1) := by decide +kernel
theorem dX4_gather_48 : decode cX4_gather 48 = .ok (.getfield 27, 3) := by decide +kernel
theorem dX4_gather_51 : decode cX4_gather 51 = .ok (.arraylength, 1) := by decide +kernel
theorem dX4_gather_52 : decode cX4_gather 52 = .ok (.if_icmp .ge 20, 3) := by decide +kernel
theorem dX4_gather_55 : decode cX4_gather 55 = .ok (.aload_n 0, 1) := by decide +kernel
theorem dX4_gather_56 : decode cX4_gather 56 = .ok (.getfield 27, 3) := by decide +kernel
theorem dX4_gather_59 : decode cX4_gather 59 = .ok (.iload 4, 2) := by decide +kernel
theorem dX4_gather_61 : decode cX4_gather 61 = .ok (.aload_n 0, 1) := by decide +kernel
theorem dX4_gather_62 : decode cX4_gather 62 = .ok (.getfield 24, 3) := by decide +kernel
theorem dX4_gather_65 : decode cX4_gather 65 = .ok (.iload 5, 2) := by decide +kernel
theorem dX4_gather_67 : decode cX4_gather 67 = .ok (.iaload, 1) := by decide +kernel
theorem dX4_gather_68 : decode cX4_gather 68 = .ok (.iastore, 1) := by decide +kernel
theorem dX4_gather_69 : decode cX4_gather 69 = .ok (.iinc 4 1, 3) := by decide +kernel
theorem dX4_gather_72 : decode cX4_gather 72 = .ok (.iinc 5 1, 3) := by decide +kernel
theorem dX4_gather_75 : decode cX4_gather 75 = .ok (.goto (-69), 3) := by decide +kernel
theorem dX4_gather_78 : decode cX4_gather 78 = .ok (.iload 4, 2) := by decide +kernel
theorem dX4_gather_80 : decode cX4_gather 80 = .ok (.ireturn, 1) := by decide +kernel
theorem dX4_wholeRow_0 : decode cX4_wholeRow 0 = .ok (.iload_n 1, 1) := by decide +kernel
theorem dX4_wholeRow_1 : decode cX4_wholeRow 1 = .ok (.invokestatic 50, 3) := by decide +kernel
theorem dX4_wholeRow_4 : decode cX4_wholeRow 4 = .ok (.ifCond .eq 12, 3) := by decide +kernel
theorem dX4_wholeRow_7 : decode cX4_wholeRow 7 = .ok (.aload_n 0, 1) := by decide +kernel
theorem dX4_wholeRow_8 : decode cX4_wholeRow 8 = .ok (.getfield 9, 3) := by decide +kernel
theorem dX4_wholeRow_11 : decode cX4_wholeRow 11 = .ok (.iload_n 1, 1) := by decide +kernel
theorem dX4_wholeRow_12 : decode cX4_wholeRow 12 = .ok (.laload, 1) := by decide +kernel
theorem dX4_wholeRow_13 : decode cX4_wholeRow 13 = .ok (.goto 4, 3) := by decide +kernel
theorem dX4_wholeRow_16 : decode cX4_wholeRow 16 = .ok (.lconst 0, 1) := by decide +kernel
theorem dX4_wholeRow_17 : decode cX4_wholeRow 17 = .ok (.lreturn, 1) := by decide +kernel
theorem dX4_bitAt_0 : decode cX4_bitAt 0 = .ok (.iload_n 1, 1) := by decide +kernel
theorem dX4_bitAt_1 : decode cX4_bitAt 1 = .ok (.invokestatic 50, 3) := by decide +kernel
theorem dX4_bitAt_4 : decode cX4_bitAt 4 = .ok (.ifCond .eq 29, 3) := by decide +kernel
theorem dX4_bitAt_7 : decode cX4_bitAt 7 = .ok (.iload_n 2, 1) := by decide +kernel
theorem dX4_bitAt_8 : decode cX4_bitAt 8 = .ok (.ifCond .lt 25, 3) := by decide +kernel
theorem dX4_bitAt_11 : decode cX4_bitAt 11 = .ok (.iload_n 2, 1) := by decide +kernel
theorem dX4_bitAt_12 : decode cX4_bitAt 12 = .ok (.aload_n 0, 1) := by decide +kernel
theorem dX4_bitAt_13 : decode cX4_bitAt 13 = .ok (.getfield 36, 3) := by decide +kernel
theorem dX4_bitAt_16 : decode cX4_bitAt 16 = .ok (.if_icmp .ge 17, 3) := by decide +kernel
theorem dX4_bitAt_19 : decode cX4_bitAt 19 = .ok (.aload_n 0, 1) := by decide +kernel
theorem dX4_bitAt_20 : decode cX4_bitAt 20 = .ok (.getfield 9, 3) := by decide +kernel
theorem dX4_bitAt_23 : decode cX4_bitAt 23 = .ok (.iload_n 1, 1) := by decide +kernel
theorem dX4_bitAt_24 : decode cX4_bitAt 24 = .ok (.laload, 1) := by decide +kernel
theorem dX4_bitAt_25 : decode cX4_bitAt 25 = .ok (.iload_n 2, 1) := by decide +kernel
theorem dX4_bitAt_26 : decode cX4_bitAt 26 = .ok (.lushr, 1) := by decide +kernel
theorem dX4_bitAt_27 : decode cX4_bitAt 27 = .ok (.lconst 1, 1) := by decide +kernel
theorem dX4_bitAt_28 : decode cX4_bitAt 28 = .ok (.land, 1) := by decide +kernel
theorem dX4_bitAt_29 : decode cX4_bitAt 29 = .ok (.l2i, 1) := by decide +kernel
theorem dX4_bitAt_30 : decode cX4_bitAt 30 = .ok (.goto 4, 3) := by decide +kernel
theorem dX4_bitAt_33 : decode cX4_bitAt 33 = .ok (.iconst 0, 1) := by decide +kernel
theorem dX4_bitAt_34 : decode cX4_bitAt 34 = .ok (.ireturn, 1) := by decide +kernel
theorem dX4_onesOf_0 : decode cX4_onesOf 0 = .ok (.aload_n 0, 1) := by decide +kernel
theorem dX4_onesOf_1 : decode cX4_onesOf 1 = .ok (.iload_n 1, 1) := by decide +kernel
theorem dX4_onesOf_2 : decode cX4_onesOf 2 = .ok (.invokevirtual 62, 3) := by decide +kernel
theorem dX4_onesOf_5 : decode cX4_onesOf 5 = .ok (.invokestatic 66, 3) := by decide +kernel
theorem dX4_onesOf_8 : decode cX4_onesOf 8 = .ok (.ireturn, 1) := by decide +kernel
theorem dX4_onesOfAll_0 : decode cX4_onesOfAll 0 = .ok (.iconst 0, 1) := by decide +kernel
theorem dX4_onesOfAll_1 : decode cX4_onesOfAll 1 = .ok (.istore_n 1, 1) := by decide +kernel
theorem dX4_onesOfAll_2 : decode cX4_onesOfAll 2 = .ok (.iconst 0, 1) := by decide +kernel
theorem dX4_onesOfAll_3 : decode cX4_onesOfAll 3 = .ok (.istore_n 2, 1) := by decide +kernel
theorem dX4_onesOfAll_4 : decode cX4_onesOfAll 4 = .ok (.iload_n 2, 1) := by decide +kernel
theorem dX4_onesOfAll_5 : decode cX4_onesOfAll 5 = .ok (.iconst 5, 1) := by decide +kernel
theorem dX4_onesOfAll_6 : decode cX4_onesOfAll 6 = .ok (.if_icmp .ge 17, 3) := by decide +kernel
theorem dX4_onesOfAll_9 : decode cX4_onesOfAll 9 = .ok (.iload_n 1, 1) := by decide +kernel
theorem dX4_onesOfAll_10 : decode cX4_onesOfAll 10 = .ok (.aload_n 0, 1) := by decide +kernel
theorem dX4_onesOfAll_11 : decode cX4_onesOfAll 11 = .ok (.iload_n 2, 1) := by decide +kernel
theorem dX4_onesOfAll_12 : decode cX4_onesOfAll 12 = .ok (.invokevirtual 72, 3) := by decide +kernel
theorem dX4_onesOfAll_15 : decode cX4_onesOfAll 15 = .ok (.iadd, 1) := by decide +kernel
theorem dX4_onesOfAll_16 : decode cX4_onesOfAll 16 = .ok (.istore_n 1, 1) := by decide +kernel
theorem dX4_onesOfAll_17 : decode cX4_onesOfAll 17 = .ok (.iinc 2 1, 3) := by decide +kernel
theorem dX4_onesOfAll_20 : decode cX4_onesOfAll 20 = .ok (.goto (-16), 3) := by decide +kernel
theorem dX4_onesOfAll_23 : decode cX4_onesOfAll 23 = .ok (.iload_n 1, 1) := by decide +kernel
theorem dX4_onesOfAll_24 : decode cX4_onesOfAll 24 = .ok (.ireturn, 1) := by decide +kernel
theorem dX4_ahead_0 : decode cX4_ahead 0 = .ok (.iload_n 1, 1) := by decide +kernel
theorem dX4_ahead_1 : decode cX4_ahead 1 = .ok (.invokestatic 50, 3) := by decide +kernel
theorem dX4_ahead_4 : decode cX4_ahead 4 = .ok (.ifCond .eq 21, 3) := by decide +kernel
theorem dX4_ahead_7 : decode cX4_ahead 7 = .ok (.iload_n 3, 1) := by decide +kernel
theorem dX4_ahead_8 : decode cX4_ahead 8 = .ok (.ifCond .lt 17, 3) := by decide +kernel
theorem dX4_ahead_11 : decode cX4_ahead 11 = .ok (.iload_n 3, 1) := by decide +kernel
theorem dX4_ahead_12 : decode cX4_ahead 12 = .ok (.aload_n 0, 1) := by decide +kernel
theorem dX4_ahead_13 : decode cX4_ahead 13 = .ok (.getfield 36, 3) := by decide +kernel
theorem dX4_ahead_16 : decode cX4_ahead 16 = .ok (.if_icmp .gt 9, 3) := by decide +kernel
theorem dX4_ahead_19 : decode cX4_ahead 19 = .ok (.iload_n 3, 1) := by decide +kernel
theorem dX4_ahead_20 : decode cX4_ahead 20 = .ok (.bipush 64, 2) := by decide +kernel
theorem dX4_ahead_22 : decode cX4_ahead 22 = .ok (.if_icmp .le 5, 3) := by decide +kernel
theorem dX4_ahead_25 : decode cX4_ahead 25 = .ok (.iconst 0, 1) := by decide +kernel
theorem dX4_ahead_26 : decode cX4_ahead 26 = .ok (.ireturn, 1) := by decide +kernel
theorem dX4_ahead_27 : decode cX4_ahead 27 = .ok (.iload_n 3, 1) := by decide +kernel
theorem dX4_ahead_28 : decode cX4_ahead 28 = .ok (.bipush 8, 2) := by decide +kernel
theorem dX4_ahead_30 : decode cX4_ahead 30 = .ok (.idiv, 1) := by decide +kernel
theorem dX4_ahead_31 : decode cX4_ahead 31 = .ok (.istore 4, 2) := by decide +kernel
theorem dX4_ahead_33 : decode cX4_ahead 33 = .ok (.aload_n 0, 1) := by decide +kernel
theorem dX4_ahead_34 : decode cX4_ahead 34 = .ok (.getfield 9, 3) := by decide +kernel
theorem dX4_ahead_37 : decode cX4_ahead 37 = .ok (.iload_n 1, 1) := by decide +kernel
theorem dX4_ahead_38 : decode cX4_ahead 38 = .ok (.laload, 1) := by decide +kernel
theorem dX4_ahead_39 : decode cX4_ahead 39 = .ok (.iload 4, 2) := by decide +kernel
theorem dX4_ahead_41 : decode cX4_ahead 41 = .ok (.bipush 8, 2) := by decide +kernel
theorem dX4_ahead_43 : decode cX4_ahead 43 = .ok (.imul, 1) := by decide +kernel
theorem dX4_ahead_44 : decode cX4_ahead 44 = .ok (.lushr, 1) := by decide +kernel
theorem dX4_ahead_45 : decode cX4_ahead 45 = .ok (.lconst 1, 1) := by decide +kernel
theorem dX4_ahead_46 : decode cX4_ahead 46 = .ok (.iload_n 3, 1) := by decide +kernel
theorem dX4_ahead_47 : decode cX4_ahead 47 = .ok (.bipush 8, 2) := by decide +kernel
theorem dX4_ahead_49 : decode cX4_ahead 49 = .ok (.irem, 1) := by decide +kernel
theorem dX4_ahead_50 : decode cX4_ahead 50 = .ok (.lshl, 1) := by decide +kernel
theorem dX4_ahead_51 : decode cX4_ahead 51 = .ok (.lconst 1, 1) := by decide +kernel
theorem dX4_ahead_52 : decode cX4_ahead 52 = .ok (.lsub, 1) := by decide +kernel
theorem dX4_ahead_53 : decode cX4_ahead 53 = .ok (.land, 1) := by decide +kernel
theorem dX4_ahead_54 : decode cX4_ahead 54 = .ok (.lstore 5, 2) := by decide +kernel
theorem dX4_ahead_56 : decode cX4_ahead 56 = .ok (.aload_n 0, 1) := by decide +kernel
theorem dX4_ahead_57 : decode cX4_ahead 57 = .ok (.getfield 17, 3) := by decide +kernel
theorem dX4_ahead_60 : decode cX4_ahead 60 = .ok (.iload_n 1, 1) := by decide +kernel
theorem dX4_ahead_61 : decode cX4_ahead 61 = .ok (.aaload, 1) := by decide +kernel
theorem dX4_ahead_62 : decode cX4_ahead 62 = .ok (.iload 4, 2) := by decide +kernel
theorem dX4_ahead_64 : decode cX4_ahead 64 = .ok (.iaload, 1) := by decide +kernel
theorem dX4_ahead_65 : decode cX4_ahead 65 = .ok (.lload 5, 2) := by decide +kernel
theorem dX4_ahead_67 : decode cX4_ahead 67 = .ok (.invokestatic 66, 3) := by decide +kernel
theorem dX4_ahead_70 : decode cX4_ahead 70 = .ok (.iadd, 1) := by decide +kernel
theorem dX4_ahead_71 : decode cX4_ahead 71 = .ok (.istore 7, 2) := by decide +kernel
theorem dX4_ahead_73 : decode cX4_ahead 73 = .ok (.iload_n 2, 1) := by decide +kernel
theorem dX4_ahead_74 : decode cX4_ahead 74 = .ok (.ifCond .eq 8, 3) := by decide +kernel
theorem dX4_ahead_77 : decode cX4_ahead 77 = .ok (.iload 7, 2) := by decide +kernel
theorem dX4_ahead_79 : decode cX4_ahead 79 = .ok (.goto 7, 3) := by decide +kernel
theorem dX4_ahead_82 : decode cX4_ahead 82 = .ok (.iload_n 3, 1) := by decide +kernel
theorem dX4_ahead_83 : decode cX4_ahead 83 = .ok (.iload 7, 2) := by decide +kernel
theorem dX4_ahead_85 : decode cX4_ahead 85 = .ok (.isub, 1) := by decide +kernel
theorem dX4_ahead_86 : decode cX4_ahead 86 = .ok (.ireturn, 1) := by decide +kernel
theorem dX4_aheadOneByOne_0 : decode cX4_aheadOneByOne 0 = .ok (.iconst 0, 1) := by decide +kernel
theorem dX4_aheadOneByOne_1 : decode cX4_aheadOneByOne 1 = .ok (.istore 4, 2) := by decide +kernel
theorem dX4_aheadOneByOne_3 : decode cX4_aheadOneByOne 3 = .ok (.iconst 0, 1) := by decide +kernel
theorem dX4_aheadOneByOne_4 : decode cX4_aheadOneByOne 4 = .ok (.istore 5, 2) := by decide +kernel
theorem dX4_aheadOneByOne_6 : decode cX4_aheadOneByOne 6 = .ok (.iload 5, 2) := by decide +kernel
theorem dX4_aheadOneByOne_8 : decode cX4_aheadOneByOne 8 = .ok (.iload_n 3, 1) := by decide +kernel
theorem dX4_aheadOneByOne_9 : decode cX4_aheadOneByOne 9 = .ok (.if_icmp .ge 32, 3) := by decide +kernel
theorem dX4_aheadOneByOne_12 : decode cX4_aheadOneByOne 12 = .ok (.iload 5, 2) := by decide +kernel
theorem dX4_aheadOneByOne_14 : decode cX4_aheadOneByOne 14 = .ok (.aload_n 0, 1) := by decide +kernel
theorem dX4_aheadOneByOne_15 : decode cX4_aheadOneByOne 15 = .ok (.getfield 36, 3) := by decide +kernel
theorem dX4_aheadOneByOne_18 : decode cX4_aheadOneByOne 18 = .ok (.if_icmp .ge 23, 3) := by decide +kernel
theorem dX4_aheadOneByOne_21 : decode cX4_aheadOneByOne 21 = .ok (.aload_n 0, 1) := by decide +kernel
theorem dX4_aheadOneByOne_22 : decode cX4_aheadOneByOne 22 = .ok (.iload_n 1, 1) := by decide +kernel
theorem dX4_aheadOneByOne_23 : decode cX4_aheadOneByOne 23 = .ok (.iload_n 2, 1) := by decide +kernel
theorem dX4_aheadOneByOne_24 : decode cX4_aheadOneByOne 24 = .ok (.iload 5, 2) := by decide +kernel
theorem dX4_aheadOneByOne_26 : decode cX4_aheadOneByOne 26 = .ok (.invokevirtual 75, 3) := by decide +kernel
theorem dX4_aheadOneByOne_29 : decode cX4_aheadOneByOne 29 = .ok (.ifCond .eq 6, 3) := by decide +kernel
theorem dX4_aheadOneByOne_32 : decode cX4_aheadOneByOne 32 = .ok (.iinc 4 1, 3) := by decide +kernel
theorem dX4_aheadOneByOne_35 : decode cX4_aheadOneByOne 35 = .ok (.iinc 5 1, 3) := by decide +kernel
theorem dX4_aheadOneByOne_38 : decode cX4_aheadOneByOne 38 = .ok (.goto (-32), 3) := by decide +kernel
theorem dX4_aheadOneByOne_41 : decode cX4_aheadOneByOne 41 = .ok (.iload 4, 2) := by decide +kernel
theorem dX4_aheadOneByOne_43 : decode cX4_aheadOneByOne 43 = .ok (.ireturn, 1) := by decide +kernel
theorem dX4_isThere_0 : decode cX4_isThere 0 = .ok (.aload_n 0, 1) := by decide +kernel
theorem dX4_isThere_1 : decode cX4_isThere 1 = .ok (.iload_n 1, 1) := by decide +kernel
theorem dX4_isThere_2 : decode cX4_isThere 2 = .ok (.iload_n 3, 1) := by decide +kernel
theorem dX4_isThere_3 : decode cX4_isThere 3 = .ok (.invokevirtual 79, 3) := by decide +kernel
theorem dX4_isThere_6 : decode cX4_isThere 6 = .ok (.iload_n 2, 1) := by decide +kernel
theorem dX4_isThere_7 : decode cX4_isThere 7 = .ok (.ifCond .eq 7, 3) := by decide +kernel
theorem dX4_isThere_10 : decode cX4_isThere 10 = .ok (.iconst 1, 1) := by decide +kernel
theorem dX4_isThere_11 : decode cX4_isThere 11 = .ok (.goto 4, 3) := by decide +kernel
theorem dX4_isThere_14 : decode cX4_isThere 14 = .ok (.iconst 0, 1) := by decide +kernel
theorem dX4_isThere_15 : decode cX4_isThere 15 = .ok (.if_icmp .ne 7, 3) := by decide +kernel
theorem dX4_isThere_18 : decode cX4_isThere 18 = .ok (.iconst 1, 1) := by decide +kernel
theorem dX4_isThere_19 : decode cX4_isThere 19 = .ok (.goto 4, 3) := by decide +kernel
theorem dX4_isThere_22 : decode cX4_isThere 22 = .ok (.iconst 0, 1) := by decide +kernel
theorem dX4_isThere_23 : decode cX4_isThere 23 = .ok (.ireturn, 1) := by decide +kernel
theorem dX4_placeOf_0 : decode cX4_placeOf 0 = .ok (.iload_n 3, 1) := by decide +kernel
theorem dX4_placeOf_1 : decode cX4_placeOf 1 = .ok (.ifCond .lt 17, 3) := by decide +kernel
theorem dX4_placeOf_4 : decode cX4_placeOf 4 = .ok (.iload_n 3, 1) := by decide +kernel
theorem dX4_placeOf_5 : decode cX4_placeOf 5 = .ok (.aload_n 0, 1) := by decide +kernel
theorem dX4_placeOf_6 : decode cX4_placeOf 6 = .ok (.iload_n 1, 1) := by decide +kernel
theorem dX4_placeOf_7 : decode cX4_placeOf 7 = .ok (.iload_n 2, 1) := by decide +kernel
theorem dX4_placeOf_8 : decode cX4_placeOf 8 = .ok (.aload_n 0, 1) := by decide +kernel
theorem dX4_placeOf_9 : decode cX4_placeOf 9 = .ok (.getfield 36, 3) := by decide +kernel
theorem dX4_placeOf_12 : decode cX4_placeOf 12 = .ok (.invokevirtual 83, 3) := by decide +kernel
theorem dX4_placeOf_15 : decode cX4_placeOf 15 = .ok (.if_icmp .lt 5, 3) := by decide +kernel
theorem dX4_placeOf_18 : decode cX4_placeOf 18 = .ok (.iconst (-1), 1) := by decide +kernel
theorem dX4_placeOf_19 : decode cX4_placeOf 19 = .ok (.ireturn, 1) := by decide +kernel
theorem dX4_placeOf_20 : decode cX4_placeOf 20 = .ok (.iconst 0, 1) := by decide +kernel
theorem dX4_placeOf_21 : decode cX4_placeOf 21 = .ok (.istore 4, 2) := by decide +kernel
theorem dX4_placeOf_23 : decode cX4_placeOf 23 = .ok (.iload 4, 2) := by decide +kernel
theorem dX4_placeOf_25 : decode cX4_placeOf 25 = .ok (.bipush 8, 2) := by decide +kernel
theorem dX4_placeOf_27 : decode cX4_placeOf 27 = .ok (.iadd, 1) := by decide +kernel
theorem dX4_placeOf_28 : decode cX4_placeOf 28 = .ok (.aload_n 0, 1) := by decide +kernel
theorem dX4_placeOf_29 : decode cX4_placeOf 29 = .ok (.getfield 36, 3) := by decide +kernel
theorem dX4_placeOf_32 : decode cX4_placeOf 32 = .ok (.if_icmp .ge 24, 3) := by decide +kernel
theorem dX4_placeOf_35 : decode cX4_placeOf 35 = .ok (.aload_n 0, 1) := by decide +kernel
theorem dX4_placeOf_36 : decode cX4_placeOf 36 = .ok (.iload_n 1, 1) := by decide +kernel
theorem dX4_placeOf_37 : decode cX4_placeOf 37 = .ok (.iload_n 2, 1) := by decide +kernel
theorem dX4_placeOf_38 : decode cX4_placeOf 38 = .ok (.iload 4, 2) := by decide +kernel
theorem dX4_placeOf_40 : decode cX4_placeOf 40 = .ok (.bipush 8, 2) := by decide +kernel
theorem dX4_placeOf_42 : decode cX4_placeOf 42 = .ok (.iadd, 1) := by decide +kernel
theorem dX4_placeOf_43 : decode cX4_placeOf 43 = .ok (.invokevirtual 83, 3) := by decide +kernel
theorem dX4_placeOf_46 : decode cX4_placeOf 46 = .ok (.iload_n 3, 1) := by decide +kernel
theorem dX4_placeOf_47 : decode cX4_placeOf 47 = .ok (.if_icmp .gt 9, 3) := by decide +kernel
theorem dX4_placeOf_50 : decode cX4_placeOf 50 = .ok (.iinc 4 8, 3) := by decide +kernel
theorem dX4_placeOf_53 : decode cX4_placeOf 53 = .ok (.goto (-30), 3) := by decide +kernel
theorem dX4_placeOf_56 : decode cX4_placeOf 56 = .ok (.iload_n 3, 1) := by decide +kernel
theorem dX4_placeOf_57 : decode cX4_placeOf 57 = .ok (.aload_n 0, 1) := by decide +kernel
theorem dX4_placeOf_58 : decode cX4_placeOf 58 = .ok (.iload_n 1, 1) := by decide +kernel
theorem dX4_placeOf_59 : decode cX4_placeOf 59 = .ok (.iload_n 2, 1) := by decide +kernel
theorem dX4_placeOf_60 : decode cX4_placeOf 60 = .ok (.iload 4, 2) := by decide +kernel
theorem dX4_placeOf_62 : decode cX4_placeOf 62 = .ok (.invokevirtual 83, 3) := by decide +kernel
theorem dX4_placeOf_65 : decode cX4_placeOf 65 = .ok (.isub, 1) := by decide +kernel
theorem dX4_placeOf_66 : decode cX4_placeOf 66 = .ok (.istore 5, 2) := by decide +kernel
theorem dX4_placeOf_68 : decode cX4_placeOf 68 = .ok (.iload 4, 2) := by decide +kernel
theorem dX4_placeOf_70 : decode cX4_placeOf 70 = .ok (.istore 6, 2) := by decide +kernel
theorem dX4_placeOf_72 : decode cX4_placeOf 72 = .ok (.iload 6, 2) := by decide +kernel
theorem dX4_placeOf_74 : decode cX4_placeOf 74 = .ok (.aload_n 0, 1) := by decide +kernel
theorem dX4_placeOf_75 : decode cX4_placeOf 75 = .ok (.getfield 36, 3) := by decide +kernel
theorem dX4_placeOf_78 : decode cX4_placeOf 78 = .ok (.if_icmp .ge 31, 3) := by decide +kernel
theorem dX4_placeOf_81 : decode cX4_placeOf 81 = .ok (.aload_n 0, 1) := by decide +kernel
theorem dX4_placeOf_82 : decode cX4_placeOf 82 = .ok (.iload_n 1, 1) := by decide +kernel
theorem dX4_placeOf_83 : decode cX4_placeOf 83 = .ok (.iload_n 2, 1) := by decide +kernel
theorem dX4_placeOf_84 : decode cX4_placeOf 84 = .ok (.iload 6, 2) := by decide +kernel
theorem dX4_placeOf_86 : decode cX4_placeOf 86 = .ok (.invokevirtual 75, 3) := by decide +kernel
theorem dX4_placeOf_89 : decode cX4_placeOf 89 = .ok (.ifCond .eq 14, 3) := by decide +kernel
theorem dX4_placeOf_92 : decode cX4_placeOf 92 = .ok (.iload 5, 2) := by decide +kernel
theorem dX4_placeOf_94 : decode cX4_placeOf 94 = .ok (.ifCond .ne 6, 3) := by decide +kernel
theorem dX4_placeOf_97 : decode cX4_placeOf 97 = .ok (.iload 6, 2) := by decide +kernel
theorem dX4_placeOf_99 : decode cX4_placeOf 99 = .ok (.ireturn, 1) := by decide +kernel
theorem dX4_placeOf_100 : decode cX4_placeOf 100 = .ok (.iinc 5 (-1), 3) := by decide +kernel
theorem dX4_placeOf_103 : decode cX4_placeOf 103 = .ok (.iinc 6 1, 3) := by decide +kernel
theorem dX4_placeOf_106 : decode cX4_placeOf 106 = .ok (.goto (-34), 3) := by decide +kernel
theorem dX4_placeOf_109 : decode cX4_placeOf 109 = .ok (.iconst (-1), 1) := by decide +kernel
theorem dX4_placeOf_110 : decode cX4_placeOf 110 = .ok (.ireturn, 1) := by decide +kernel
theorem dX4_zerosOf_0 : decode cX4_zerosOf 0 = .ok (.iload_n 1, 1) := by decide +kernel
theorem dX4_zerosOf_1 : decode cX4_zerosOf 1 = .ok (.invokestatic 50, 3) := by decide +kernel
theorem dX4_zerosOf_4 : decode cX4_zerosOf 4 = .ok (.ifCond .eq 12, 3) := by decide +kernel
theorem dX4_zerosOf_7 : decode cX4_zerosOf 7 = .ok (.aload_n 0, 1) := by decide +kernel
theorem dX4_zerosOf_8 : decode cX4_zerosOf 8 = .ok (.getfield 20, 3) := by decide +kernel
theorem dX4_zerosOf_11 : decode cX4_zerosOf 11 = .ok (.iload_n 1, 1) := by decide +kernel
theorem dX4_zerosOf_12 : decode cX4_zerosOf 12 = .ok (.iaload, 1) := by decide +kernel
theorem dX4_zerosOf_13 : decode cX4_zerosOf 13 = .ok (.goto 4, 3) := by decide +kernel
theorem dX4_zerosOf_16 : decode cX4_zerosOf 16 = .ok (.iconst 0, 1) := by decide +kernel
theorem dX4_zerosOf_17 : decode cX4_zerosOf 17 = .ok (.ireturn, 1) := by decide +kernel
theorem dX4_down_0 : decode cX4_down 0 = .ok (.aload_n 0, 1) := by decide +kernel
theorem dX4_down_1 : decode cX4_down 1 = .ok (.iload_n 1, 1) := by decide +kernel
theorem dX4_down_2 : decode cX4_down 2 = .ok (.iload_n 2, 1) := by decide +kernel
theorem dX4_down_3 : decode cX4_down 3 = .ok (.iload_n 3, 1) := by decide +kernel
theorem dX4_down_4 : decode cX4_down 4 = .ok (.invokevirtual 83, 3) := by decide +kernel
theorem dX4_down_7 : decode cX4_down 7 = .ok (.istore 4, 2) := by decide +kernel
theorem dX4_down_9 : decode cX4_down 9 = .ok (.iload_n 2, 1) := by decide +kernel
theorem dX4_down_10 : decode cX4_down 10 = .ok (.ifCond .eq 14, 3) := by decide +kernel
theorem dX4_down_13 : decode cX4_down 13 = .ok (.aload_n 0, 1) := by decide +kernel
theorem dX4_down_14 : decode cX4_down 14 = .ok (.iload_n 1, 1) := by decide +kernel
theorem dX4_down_15 : decode cX4_down 15 = .ok (.invokevirtual 86, 3) := by decide +kernel
theorem dX4_down_18 : decode cX4_down 18 = .ok (.iload 4, 2) := by decide +kernel
theorem dX4_down_20 : decode cX4_down 20 = .ok (.iadd, 1) := by decide +kernel
theorem dX4_down_21 : decode cX4_down 21 = .ok (.goto 5, 3) := by decide +kernel
theorem dX4_down_24 : decode cX4_down 24 = .ok (.iload 4, 2) := by decide +kernel
theorem dX4_down_26 : decode cX4_down 26 = .ok (.ireturn, 1) := by decide +kernel
theorem dX4_placeDownTo_0 : decode cX4_placeDownTo 0 = .ok (.iload_n 2, 1) := by decide +kernel
theorem dX4_placeDownTo_1 : decode cX4_placeDownTo 1 = .ok (.istore_n 3, 1) := by decide +kernel
theorem dX4_placeDownTo_2 : decode cX4_placeDownTo 2 = .ok (.iconst 0, 1) := by decide +kernel
theorem dX4_placeDownTo_3 : decode cX4_placeDownTo 3 = .ok (.istore 4, 2) := by decide +kernel
theorem dX4_placeDownTo_5 : decode cX4_placeDownTo 5 = .ok (.iload 4, 2) := by decide +kernel
theorem dX4_placeDownTo_7 : decode cX4_placeDownTo 7 = .ok (.iload_n 1, 1) := by decide +kernel
theorem dX4_placeDownTo_8 : decode cX4_placeDownTo 8 = .ok (.if_icmp .ge 39, 3) := by decide +kernel
theorem dX4_placeDownTo_11 : decode cX4_placeDownTo 11 = .ok (.iload 4, 2) := by decide +kernel
theorem dX4_placeDownTo_13 : decode cX4_placeDownTo 13 = .ok (.iconst 5, 1) := by decide +kernel
theorem dX4_placeDownTo_14 : decode cX4_placeDownTo 14 = .ok (.if_icmp .ge 33, 3) := by decide +kernel
theorem dX4_placeDownTo_17 : decode cX4_placeDownTo 17 = .ok (.aload_n 0, 1) := by decide +kernel
theorem dX4_placeDownTo_18 : decode cX4_placeDownTo 18 = .ok (.iload 4, 2) := by decide +kernel
theorem dX4_placeDownTo_20 : decode cX4_placeDownTo 20 = .ok (.aload_n 0, 1) := by decide +kernel
theorem dX4_placeDownTo_21 : decode cX4_placeDownTo 21 = .ok (.iload 4, 2) := by decide +kernel
theorem dX4_placeDownTo_23 : decode cX4_placeDownTo 23 = .ok (.iload_n 3, 1) := by decide +kernel
theorem dX4_placeDownTo_24 : decode cX4_placeDownTo 24 = .ok (.invokevirtual 79, 3) := by decide +kernel
theorem dX4_placeDownTo_27 : decode cX4_placeDownTo 27 = .ok (.iconst 1, 1) := by decide +kernel
theorem dX4_placeDownTo_28 : decode cX4_placeDownTo 28 = .ok (.if_icmp .ne 7, 3) := by decide +kernel
theorem dX4_placeDownTo_31 : decode cX4_placeDownTo 31 = .ok (.iconst 1, 1) := by decide +kernel
theorem dX4_placeDownTo_32 : decode cX4_placeDownTo 32 = .ok (.goto 4, 3) := by decide +kernel
theorem dX4_placeDownTo_35 : decode cX4_placeDownTo 35 = .ok (.iconst 0, 1) := by decide +kernel
theorem dX4_placeDownTo_36 : decode cX4_placeDownTo 36 = .ok (.iload_n 3, 1) := by decide +kernel
theorem dX4_placeDownTo_37 : decode cX4_placeDownTo 37 = .ok (.invokevirtual 89, 3) := by decide +kernel
theorem dX4_placeDownTo_40 : decode cX4_placeDownTo 40 = .ok (.istore_n 3, 1) := by decide +kernel
theorem dX4_placeDownTo_41 : decode cX4_placeDownTo 41 = .ok (.iinc 4 1, 3) := by decide +kernel
theorem dX4_placeDownTo_44 : decode cX4_placeDownTo 44 = .ok (.goto (-39), 3) := by decide +kernel
theorem dX4_placeDownTo_47 : decode cX4_placeDownTo 47 = .ok (.iload_n 3, 1) := by decide +kernel
theorem dX4_placeDownTo_48 : decode cX4_placeDownTo 48 = .ok (.ireturn, 1) := by decide +kernel
theorem dX4_weightOf_0 : decode cX4_weightOf 0 = .ok (.iconst 0, 1) := by decide +kernel
theorem dX4_weightOf_1 : decode cX4_weightOf 1 = .ok (.istore_n 2, 1) := by decide +kernel
theorem dX4_weightOf_2 : decode cX4_weightOf 2 = .ok (.iload_n 1, 1) := by decide +kernel
theorem dX4_weightOf_3 : decode cX4_weightOf 3 = .ok (.istore_n 3, 1) := by decide +kernel
theorem dX4_weightOf_4 : decode cX4_weightOf 4 = .ok (.iconst 0, 1) := by decide +kernel
theorem dX4_weightOf_5 : decode cX4_weightOf 5 = .ok (.istore 4, 2) := by decide +kernel
theorem dX4_weightOf_7 : decode cX4_weightOf 7 = .ok (.iload 4, 2) := by decide +kernel
theorem dX4_weightOf_9 : decode cX4_weightOf 9 = .ok (.iconst 5, 1) := by decide +kernel
theorem dX4_weightOf_10 : decode cX4_weightOf 10 = .ok (.if_icmp .ge 44, 3) := by decide +kernel
theorem dX4_weightOf_13 : decode cX4_weightOf 13 = .ok (.aload_n 0, 1) := by decide +kernel
theorem dX4_weightOf_14 : decode cX4_weightOf 14 = .ok (.iload 4, 2) := by decide +kernel
theorem dX4_weightOf_16 : decode cX4_weightOf 16 = .ok (.iload_n 3, 1) := by decide +kernel
theorem dX4_weightOf_17 : decode cX4_weightOf 17 = .ok (.invokevirtual 79, 3) := by decide +kernel
theorem dX4_weightOf_20 : decode cX4_weightOf 20 = .ok (.istore 5, 2) := by decide +kernel
theorem dX4_weightOf_22 : decode cX4_weightOf 22 = .ok (.iload_n 2, 1) := by decide +kernel
theorem dX4_weightOf_23 : decode cX4_weightOf 23 = .ok (.iconst 2, 1) := by decide +kernel
theorem dX4_weightOf_24 : decode cX4_weightOf 24 = .ok (.imul, 1) := by decide +kernel
theorem dX4_weightOf_25 : decode cX4_weightOf 25 = .ok (.iload 5, 2) := by decide +kernel
theorem dX4_weightOf_27 : decode cX4_weightOf 27 = .ok (.iadd, 1) := by decide +kernel
theorem dX4_weightOf_28 : decode cX4_weightOf 28 = .ok (.istore_n 2, 1) := by decide +kernel
theorem dX4_weightOf_29 : decode cX4_weightOf 29 = .ok (.aload_n 0, 1) := by decide +kernel
theorem dX4_weightOf_30 : decode cX4_weightOf 30 = .ok (.iload 4, 2) := by decide +kernel
theorem dX4_weightOf_32 : decode cX4_weightOf 32 = .ok (.iload 5, 2) := by decide +kernel
theorem dX4_weightOf_34 : decode cX4_weightOf 34 = .ok (.iconst 1, 1) := by decide +kernel
theorem dX4_weightOf_35 : decode cX4_weightOf 35 = .ok (.if_icmp .ne 7, 3) := by decide +kernel
theorem dX4_weightOf_38 : decode cX4_weightOf 38 = .ok (.iconst 1, 1) := by decide +kernel
theorem dX4_weightOf_39 : decode cX4_weightOf 39 = .ok (.goto 4, 3) := by decide +kernel
theorem dX4_weightOf_42 : decode cX4_weightOf 42 = .ok (.iconst 0, 1) := by decide +kernel
theorem dX4_weightOf_43 : decode cX4_weightOf 43 = .ok (.iload_n 3, 1) := by decide +kernel
theorem dX4_weightOf_44 : decode cX4_weightOf 44 = .ok (.invokevirtual 89, 3) := by decide +kernel
theorem dX4_weightOf_47 : decode cX4_weightOf 47 = .ok (.istore_n 3, 1) := by decide +kernel
theorem dX4_weightOf_48 : decode cX4_weightOf 48 = .ok (.iinc 4 1, 3) := by decide +kernel
theorem dX4_weightOf_51 : decode cX4_weightOf 51 = .ok (.goto (-44), 3) := by decide +kernel
theorem dX4_weightOf_54 : decode cX4_weightOf 54 = .ok (.iload_n 2, 1) := by decide +kernel
theorem dX4_weightOf_55 : decode cX4_weightOf 55 = .ok (.ireturn, 1) := by decide +kernel
theorem dX4_weightBySize_0 : decode cX4_weightBySize 0 = .ok (.iconst 0, 1) := by decide +kernel
theorem dX4_weightBySize_1 : decode cX4_weightBySize 1 = .ok (.istore 4, 2) := by decide +kernel
theorem dX4_weightBySize_3 : decode cX4_weightBySize 3 = .ok (.iload_n 1, 1) := by decide +kernel
theorem dX4_weightBySize_4 : decode cX4_weightBySize 4 = .ok (.istore 5, 2) := by decide +kernel
theorem dX4_weightBySize_6 : decode cX4_weightBySize 6 = .ok (.iload_n 2, 1) := by decide +kernel
theorem dX4_weightBySize_7 : decode cX4_weightBySize 7 = .ok (.istore 6, 2) := by decide +kernel
theorem dX4_weightBySize_9 : decode cX4_weightBySize 9 = .ok (.iload_n 3, 1) := by decide +kernel
theorem dX4_weightBySize_10 : decode cX4_weightBySize 10 = .ok (.istore 7, 2) := by decide +kernel
theorem dX4_weightBySize_12 : decode cX4_weightBySize 12 = .ok (.iconst 0, 1) := by decide +kernel
theorem dX4_weightBySize_13 : decode cX4_weightBySize 13 = .ok (.istore 8, 2) := by decide +kernel
theorem dX4_weightBySize_15 : decode cX4_weightBySize 15 = .ok (.iload 8, 2) := by decide +kernel
theorem dX4_weightBySize_17 : decode cX4_weightBySize 17 = .ok (.iconst 5, 1) := by decide +kernel
theorem dX4_weightBySize_18 : decode cX4_weightBySize 18 = .ok (.if_icmp .ge 101, 3) := by decide +kernel
theorem dX4_weightBySize_21 : decode cX4_weightBySize 21 = .ok (.aload_n 0, 1) := by decide +kernel
theorem dX4_weightBySize_22 : decode cX4_weightBySize 22 = .ok (.iload 8, 2) := by decide +kernel
theorem dX4_weightBySize_24 : decode cX4_weightBySize 24 = .ok (.iconst 0, 1) := by decide +kernel
theorem dX4_weightBySize_25 : decode cX4_weightBySize 25 = .ok (.iload 6, 2) := by decide +kernel
theorem dX4_weightBySize_27 : decode cX4_weightBySize 27 = .ok (.invokevirtual 83, 3) := by decide +kernel
theorem dX4_weightBySize_30 : decode cX4_weightBySize 30 = .ok (.aload_n 0, 1) := by decide +kernel
theorem dX4_weightBySize_31 : decode cX4_weightBySize 31 = .ok (.iload 8, 2) := by decide +kernel
theorem dX4_weightBySize_33 : decode cX4_weightBySize 33 = .ok (.iconst 0, 1) := by decide +kernel
theorem dX4_weightBySize_34 : decode cX4_weightBySize 34 = .ok (.iload 5, 2) := by decide +kernel
theorem dX4_weightBySize_36 : decode cX4_weightBySize 36 = .ok (.invokevirtual 83, 3) := by decide +kernel
theorem dX4_weightBySize_39 : decode cX4_weightBySize 39 = .ok (.isub, 1) := by decide +kernel
theorem dX4_weightBySize_40 : decode cX4_weightBySize 40 = .ok (.istore 9, 2) := by decide +kernel
theorem dX4_weightBySize_42 : decode cX4_weightBySize 42 = .ok (.iload 7, 2) := by decide +kernel
theorem dX4_weightBySize_44 : decode cX4_weightBySize 44 = .ok (.iload 9, 2) := by decide +kernel
theorem dX4_weightBySize_46 : decode cX4_weightBySize 46 = .ok (.if_icmp .lt 7, 3) := by decide +kernel
theorem dX4_weightBySize_49 : decode cX4_weightBySize 49 = .ok (.iconst 1, 1) := by decide +kernel
theorem dX4_weightBySize_50 : decode cX4_weightBySize 50 = .ok (.goto 4, 3) := by decide +kernel
theorem dX4_weightBySize_53 : decode cX4_weightBySize 53 = .ok (.iconst 0, 1) := by decide +kernel
theorem dX4_weightBySize_54 : decode cX4_weightBySize 54 = .ok (.istore 10, 2) := by decide +kernel
theorem dX4_weightBySize_56 : decode cX4_weightBySize 56 = .ok (.iload 7, 2) := by decide +kernel
theorem dX4_weightBySize_58 : decode cX4_weightBySize 58 = .ok (.iload 10, 2) := by decide +kernel
theorem dX4_weightBySize_60 : decode cX4_weightBySize 60 = .ok (.ifCond .eq 8, 3) := by decide +kernel
theorem dX4_weightBySize_63 : decode cX4_weightBySize 63 = .ok (.iload 9, 2) := by decide +kernel
theorem dX4_weightBySize_65 : decode cX4_weightBySize 65 = .ok (.goto 4, 3) := by decide +kernel
theorem dX4_weightBySize_68 : decode cX4_weightBySize 68 = .ok (.iconst 0, 1) := by decide +kernel
theorem dX4_weightBySize_69 : decode cX4_weightBySize 69 = .ok (.isub, 1) := by decide +kernel
theorem dX4_weightBySize_70 : decode cX4_weightBySize 70 = .ok (.istore 7, 2) := by decide +kernel
theorem dX4_weightBySize_72 : decode cX4_weightBySize 72 = .ok (.iload 4, 2) := by decide +kernel
theorem dX4_weightBySize_74 : decode cX4_weightBySize 74 = .ok (.iconst 2, 1) := by decide +kernel
theorem dX4_weightBySize_75 : decode cX4_weightBySize 75 = .ok (.imul, 1) := by decide +kernel
theorem dX4_weightBySize_76 : decode cX4_weightBySize 76 = .ok (.iload 10, 2) := by decide +kernel
theorem dX4_weightBySize_78 : decode cX4_weightBySize 78 = .ok (.ifCond .eq 7, 3) := by decide +kernel
theorem dX4_weightBySize_81 : decode cX4_weightBySize 81 = .ok (.iconst 1, 1) := by decide +kernel
theorem dX4_weightBySize_82 : decode cX4_weightBySize 82 = .ok (.goto 4, 3) := by decide +kernel
theorem dX4_weightBySize_85 : decode cX4_weightBySize 85 = .ok (.iconst 0, 1) := by decide +kernel
theorem dX4_weightBySize_86 : decode cX4_weightBySize 86 = .ok (.iadd, 1) := by decide +kernel
theorem dX4_weightBySize_87 : decode cX4_weightBySize 87 = .ok (.istore 4, 2) := by decide +kernel
theorem dX4_weightBySize_89 : decode cX4_weightBySize 89 = .ok (.aload_n 0, 1) := by decide +kernel
theorem dX4_weightBySize_90 : decode cX4_weightBySize 90 = .ok (.iload 8, 2) := by decide +kernel
theorem dX4_weightBySize_92 : decode cX4_weightBySize 92 = .ok (.iload 10, 2) := by decide +kernel
theorem dX4_weightBySize_94 : decode cX4_weightBySize 94 = .ok (.iload 5, 2) := by decide +kernel
theorem dX4_weightBySize_96 : decode cX4_weightBySize 96 = .ok (.invokevirtual 89, 3) := by decide +kernel
theorem dX4_weightBySize_99 : decode cX4_weightBySize 99 = .ok (.istore 5, 2) := by decide +kernel
theorem dX4_weightBySize_101 : decode cX4_weightBySize 101 = .ok (.aload_n 0, 1) := by decide +kernel
theorem dX4_weightBySize_102 : decode cX4_weightBySize 102 = .ok (.iload 8, 2) := by decide +kernel
theorem dX4_weightBySize_104 : decode cX4_weightBySize 104 = .ok (.iload 10, 2) := by decide +kernel
theorem dX4_weightBySize_106 : decode cX4_weightBySize 106 = .ok (.iload 6, 2) := by decide +kernel
theorem dX4_weightBySize_108 : decode cX4_weightBySize 108 = .ok (.invokevirtual 89, 3) := by decide +kernel
theorem dX4_weightBySize_111 : decode cX4_weightBySize 111 = .ok (.istore 6, 2) := by decide +kernel
theorem dX4_weightBySize_113 : decode cX4_weightBySize 113 = .ok (.iinc 8 1, 3) := by decide +kernel
theorem dX4_weightBySize_116 : decode cX4_weightBySize 116 = .ok (.goto (-101), 3) := by decide +kernel
theorem dX4_weightBySize_119 : decode cX4_weightBySize 119 = .ok (.iload 4, 2) := by decide +kernel
theorem dX4_weightBySize_121 : decode cX4_weightBySize 121 = .ok (.ireturn, 1) := by decide +kernel
theorem dX4_numberOf_0 : decode cX4_numberOf 0 = .ok (.aload_n 0, 1) := by decide +kernel
theorem dX4_numberOf_1 : decode cX4_numberOf 1 = .ok (.iload_n 3, 1) := by decide +kernel
theorem dX4_numberOf_2 : decode cX4_numberOf 2 = .ok (.iload_n 2, 1) := by decide +kernel
theorem dX4_numberOf_3 : decode cX4_numberOf 3 = .ok (.invokevirtual 92, 3) := by decide +kernel
theorem dX4_numberOf_6 : decode cX4_numberOf 6 = .ok (.aload_n 0, 1) := by decide +kernel
theorem dX4_numberOf_7 : decode cX4_numberOf 7 = .ok (.iload_n 3, 1) := by decide +kernel
theorem dX4_numberOf_8 : decode cX4_numberOf 8 = .ok (.iload_n 1, 1) := by decide +kernel
theorem dX4_numberOf_9 : decode cX4_numberOf 9 = .ok (.invokevirtual 92, 3) := by decide +kernel
theorem dX4_numberOf_12 : decode cX4_numberOf 12 = .ok (.isub, 1) := by decide +kernel
theorem dX4_numberOf_13 : decode cX4_numberOf 13 = .ok (.ireturn, 1) := by decide +kernel
theorem dX4_numberBelow_0 : decode cX4_numberBelow 0 = .ok (.iconst 0, 1) := by decide +kernel
theorem dX4_numberBelow_1 : decode cX4_numberBelow 1 = .ok (.istore 4, 2) := by decide +kernel
theorem dX4_numberBelow_3 : decode cX4_numberBelow 3 = .ok (.iload_n 1, 1) := by decide +kernel
theorem dX4_numberBelow_4 : decode cX4_numberBelow 4 = .ok (.istore 5, 2) := by decide +kernel
theorem dX4_numberBelow_6 : decode cX4_numberBelow 6 = .ok (.iload_n 2, 1) := by decide +kernel
theorem dX4_numberBelow_7 : decode cX4_numberBelow 7 = .ok (.istore 6, 2) := by decide +kernel
theorem dX4_numberBelow_9 : decode cX4_numberBelow 9 = .ok (.iconst 0, 1) := by decide +kernel
theorem dX4_numberBelow_10 : decode cX4_numberBelow 10 = .ok (.istore 7, 2) := by decide +kernel
theorem dX4_numberBelow_12 : decode cX4_numberBelow 12 = .ok (.iload 7, 2) := by decide +kernel
theorem dX4_numberBelow_14 : decode cX4_numberBelow 14 = .ok (.iconst 5, 1) := by decide +kernel
theorem dX4_numberBelow_15 : decode cX4_numberBelow 15 = .ok (.if_icmp .ge 70, 3) := by decide +kernel
theorem dX4_numberBelow_18 : decode cX4_numberBelow 18 = .ok (.iload_n 3, 1) := by decide +kernel
theorem dX4_numberBelow_19 : decode cX4_numberBelow 19 = .ok (.iload 7, 2) := by decide +kernel
theorem dX4_numberBelow_21 : decode cX4_numberBelow 21 = .ok (.invokestatic 54, 3) := by decide +kernel
theorem dX4_numberBelow_24 : decode cX4_numberBelow 24 = .ok (.istore 8, 2) := by decide +kernel
theorem dX4_numberBelow_26 : decode cX4_numberBelow 26 = .ok (.iload 8, 2) := by decide +kernel
theorem dX4_numberBelow_28 : decode cX4_numberBelow 28 = .ok (.ifCond .eq 27, 3) := by decide +kernel
theorem dX4_numberBelow_31 : decode cX4_numberBelow 31 = .ok (.iload 4, 2) := by decide +kernel
theorem dX4_numberBelow_33 : decode cX4_numberBelow 33 = .ok (.aload_n 0, 1) := by decide +kernel
theorem dX4_numberBelow_34 : decode cX4_numberBelow 34 = .ok (.iload 7, 2) := by decide +kernel
theorem dX4_numberBelow_36 : decode cX4_numberBelow 36 = .ok (.iconst 0, 1) := by decide +kernel
theorem dX4_numberBelow_37 : decode cX4_numberBelow 37 = .ok (.iload 6, 2) := by decide +kernel
theorem dX4_numberBelow_39 : decode cX4_numberBelow 39 = .ok (.invokevirtual 83, 3) := by decide +kernel
theorem dX4_numberBelow_42 : decode cX4_numberBelow 42 = .ok (.aload_n 0, 1) := by decide +kernel
theorem dX4_numberBelow_43 : decode cX4_numberBelow 43 = .ok (.iload 7, 2) := by decide +kernel
theorem dX4_numberBelow_45 : decode cX4_numberBelow 45 = .ok (.iconst 0, 1) := by decide +kernel
theorem dX4_numberBelow_46 : decode cX4_numberBelow 46 = .ok (.iload 5, 2) := by decide +kernel
theorem dX4_numberBelow_48 : decode cX4_numberBelow 48 = .ok (.invokevirtual 83, 3) := by decide +kernel
theorem dX4_numberBelow_51 : decode cX4_numberBelow 51 = .ok (.isub, 1) := by decide +kernel
theorem dX4_numberBelow_52 : decode cX4_numberBelow 52 = .ok (.iadd, 1) := by decide +kernel
theorem dX4_numberBelow_53 : decode cX4_numberBelow 53 = .ok (.istore 4, 2) := by decide +kernel
theorem dX4_numberBelow_55 : decode cX4_numberBelow 55 = .ok (.aload_n 0, 1) := by decide +kernel
theorem dX4_numberBelow_56 : decode cX4_numberBelow 56 = .ok (.iload 7, 2) := by decide +kernel
theorem dX4_numberBelow_58 : decode cX4_numberBelow 58 = .ok (.iload 8, 2) := by decide +kernel
theorem dX4_numberBelow_60 : decode cX4_numberBelow 60 = .ok (.iload 5, 2) := by decide +kernel
theorem dX4_numberBelow_62 : decode cX4_numberBelow 62 = .ok (.invokevirtual 89, 3) := by decide +kernel
theorem dX4_numberBelow_65 : decode cX4_numberBelow 65 = .ok (.istore 5, 2) := by decide +kernel
theorem dX4_numberBelow_67 : decode cX4_numberBelow 67 = .ok (.aload_n 0, 1) := by decide +kernel
theorem dX4_numberBelow_68 : decode cX4_numberBelow 68 = .ok (.iload 7, 2) := by decide +kernel
theorem dX4_numberBelow_70 : decode cX4_numberBelow 70 = .ok (.iload 8, 2) := by decide +kernel
theorem dX4_numberBelow_72 : decode cX4_numberBelow 72 = .ok (.iload 6, 2) := by decide +kernel
theorem dX4_numberBelow_74 : decode cX4_numberBelow 74 = .ok (.invokevirtual 89, 3) := by decide +kernel
theorem dX4_numberBelow_77 : decode cX4_numberBelow 77 = .ok (.istore 6, 2) := by decide +kernel
theorem dX4_numberBelow_79 : decode cX4_numberBelow 79 = .ok (.iinc 7 1, 3) := by decide +kernel
theorem dX4_numberBelow_82 : decode cX4_numberBelow 82 = .ok (.goto (-70), 3) := by decide +kernel
theorem dX4_numberBelow_85 : decode cX4_numberBelow 85 = .ok (.iload 4, 2) := by decide +kernel
theorem dX4_numberBelow_87 : decode cX4_numberBelow 87 = .ok (.ireturn, 1) := by decide +kernel
theorem dX4_downAll_0 : decode cX4_downAll 0 = .ok (.iload_n 2, 1) := by decide +kernel
theorem dX4_downAll_1 : decode cX4_downAll 1 = .ok (.istore_n 3, 1) := by decide +kernel
theorem dX4_downAll_2 : decode cX4_downAll 2 = .ok (.iconst 0, 1) := by decide +kernel
theorem dX4_downAll_3 : decode cX4_downAll 3 = .ok (.istore 4, 2) := by decide +kernel
theorem dX4_downAll_5 : decode cX4_downAll 5 = .ok (.iload 4, 2) := by decide +kernel
theorem dX4_downAll_7 : decode cX4_downAll 7 = .ok (.iconst 5, 1) := by decide +kernel
theorem dX4_downAll_8 : decode cX4_downAll 8 = .ok (.if_icmp .ge 23, 3) := by decide +kernel
theorem dX4_downAll_11 : decode cX4_downAll 11 = .ok (.aload_n 0, 1) := by decide +kernel
theorem dX4_downAll_12 : decode cX4_downAll 12 = .ok (.iload 4, 2) := by decide +kernel
theorem dX4_downAll_14 : decode cX4_downAll 14 = .ok (.iload_n 1, 1) := by decide +kernel
theorem dX4_downAll_15 : decode cX4_downAll 15 = .ok (.iload 4, 2) := by decide +kernel
theorem dX4_downAll_17 : decode cX4_downAll 17 = .ok (.invokestatic 54, 3) := by decide +kernel
theorem dX4_downAll_20 : decode cX4_downAll 20 = .ok (.iload_n 3, 1) := by decide +kernel
theorem dX4_downAll_21 : decode cX4_downAll 21 = .ok (.invokevirtual 89, 3) := by decide +kernel
theorem dX4_downAll_24 : decode cX4_downAll 24 = .ok (.istore_n 3, 1) := by decide +kernel
theorem dX4_downAll_25 : decode cX4_downAll 25 = .ok (.iinc 4 1, 3) := by decide +kernel
theorem dX4_downAll_28 : decode cX4_downAll 28 = .ok (.goto (-23), 3) := by decide +kernel
theorem dX4_downAll_31 : decode cX4_downAll 31 = .ok (.iload_n 3, 1) := by decide +kernel
theorem dX4_downAll_32 : decode cX4_downAll 32 = .ok (.ireturn, 1) := by decide +kernel
theorem dX4_placeBack_0 : decode cX4_placeBack 0 = .ok (.aload_n 0, 1) := by decide +kernel
theorem dX4_placeBack_1 : decode cX4_placeBack 1 = .ok (.iload_n 1, 1) := by decide +kernel
theorem dX4_placeBack_2 : decode cX4_placeBack 2 = .ok (.iconst 0, 1) := by decide +kernel
theorem dX4_placeBack_3 : decode cX4_placeBack 3 = .ok (.invokevirtual 92, 3) := by decide +kernel
theorem dX4_placeBack_6 : decode cX4_placeBack 6 = .ok (.istore_n 3, 1) := by decide +kernel
theorem dX4_placeBack_7 : decode cX4_placeBack 7 = .ok (.iload_n 2, 1) := by decide +kernel
theorem dX4_placeBack_8 : decode cX4_placeBack 8 = .ok (.ifCond .lt 18, 3) := by decide +kernel
theorem dX4_placeBack_11 : decode cX4_placeBack 11 = .ok (.iload_n 2, 1) := by decide +kernel
theorem dX4_placeBack_12 : decode cX4_placeBack 12 = .ok (.aload_n 0, 1) := by decide +kernel
theorem dX4_placeBack_13 : decode cX4_placeBack 13 = .ok (.iload_n 1, 1) := by decide +kernel
theorem dX4_placeBack_14 : decode cX4_placeBack 14 = .ok (.aload_n 0, 1) := by decide +kernel
theorem dX4_placeBack_15 : decode cX4_placeBack 15 = .ok (.getfield 36, 3) := by decide +kernel
theorem dX4_placeBack_18 : decode cX4_placeBack 18 = .ok (.invokevirtual 92, 3) := by decide +kernel
theorem dX4_placeBack_21 : decode cX4_placeBack 21 = .ok (.iload_n 3, 1) := by decide +kernel
theorem dX4_placeBack_22 : decode cX4_placeBack 22 = .ok (.isub, 1) := by decide +kernel
theorem dX4_placeBack_23 : decode cX4_placeBack 23 = .ok (.if_icmp .lt 5, 3) := by decide +kernel
theorem dX4_placeBack_26 : decode cX4_placeBack 26 = .ok (.iconst (-1), 1) := by decide +kernel
theorem dX4_placeBack_27 : decode cX4_placeBack 27 = .ok (.ireturn, 1) := by decide +kernel
theorem dX4_placeBack_28 : decode cX4_placeBack 28 = .ok (.iload_n 3, 1) := by decide +kernel
theorem dX4_placeBack_29 : decode cX4_placeBack 29 = .ok (.iload_n 2, 1) := by decide +kernel
theorem dX4_placeBack_30 : decode cX4_placeBack 30 = .ok (.iadd, 1) := by decide +kernel
theorem dX4_placeBack_31 : decode cX4_placeBack 31 = .ok (.istore 4, 2) := by decide +kernel
theorem dX4_placeBack_33 : decode cX4_placeBack 33 = .ok (.iconst 4, 1) := by decide +kernel
theorem dX4_placeBack_34 : decode cX4_placeBack 34 = .ok (.istore 5, 2) := by decide +kernel
theorem dX4_placeBack_36 : decode cX4_placeBack 36 = .ok (.iload 5, 2) := by decide +kernel
theorem dX4_placeBack_38 : decode cX4_placeBack 38 = .ok (.ifCond .lt 46, 3) := by decide +kernel
theorem dX4_placeBack_41 : decode cX4_placeBack 41 = .ok (.iload_n 1, 1) := by decide +kernel
theorem dX4_placeBack_42 : decode cX4_placeBack 42 = .ok (.iload 5, 2) := by decide +kernel
theorem dX4_placeBack_44 : decode cX4_placeBack 44 = .ok (.invokestatic 54, 3) := by decide +kernel
theorem dX4_placeBack_47 : decode cX4_placeBack 47 = .ok (.istore 6, 2) := by decide +kernel
theorem dX4_placeBack_49 : decode cX4_placeBack 49 = .ok (.aload_n 0, 1) := by decide +kernel
theorem dX4_placeBack_50 : decode cX4_placeBack 50 = .ok (.iload 5, 2) := by decide +kernel
theorem dX4_placeBack_52 : decode cX4_placeBack 52 = .ok (.iload 6, 2) := by decide +kernel
theorem dX4_placeBack_54 : decode cX4_placeBack 54 = .ok (.iload 6, 2) := by decide +kernel
theorem dX4_placeBack_56 : decode cX4_placeBack 56 = .ok (.ifCond .eq 15, 3) := by decide +kernel
theorem dX4_placeBack_59 : decode cX4_placeBack 59 = .ok (.iload 4, 2) := by decide +kernel
theorem dX4_placeBack_61 : decode cX4_placeBack 61 = .ok (.aload_n 0, 1) := by decide +kernel
theorem dX4_placeBack_62 : decode cX4_placeBack 62 = .ok (.iload 5, 2) := by decide +kernel
theorem dX4_placeBack_64 : decode cX4_placeBack 64 = .ok (.invokevirtual 86, 3) := by decide +kernel
theorem dX4_placeBack_67 : decode cX4_placeBack 67 = .ok (.isub, 1) := by decide +kernel
theorem dX4_placeBack_68 : decode cX4_placeBack 68 = .ok (.goto 5, 3) := by decide +kernel
theorem dX4_placeBack_71 : decode cX4_placeBack 71 = .ok (.iload 4, 2) := by decide +kernel
theorem dX4_placeBack_73 : decode cX4_placeBack 73 = .ok (.invokevirtual 95, 3) := by decide +kernel
theorem dX4_placeBack_76 : decode cX4_placeBack 76 = .ok (.istore 4, 2) := by decide +kernel
theorem dX4_placeBack_78 : decode cX4_placeBack 78 = .ok (.iinc 5 (-1), 3) := by decide +kernel
theorem dX4_placeBack_81 : decode cX4_placeBack 81 = .ok (.goto (-45), 3) := by decide +kernel
theorem dX4_placeBack_84 : decode cX4_placeBack 84 = .ok (.iload 4, 2) := by decide +kernel
theorem dX4_placeBack_86 : decode cX4_placeBack 86 = .ok (.ireturn, 1) := by decide +kernel
theorem dX5_init_0 : decode cX5_init 0 = .ok (.aload_n 0, 1) := by decide +kernel
theorem dX5_init_1 : decode cX5_init 1 = .ok (.invokespecial 3, 3) := by decide +kernel
theorem dX5_init_4 : decode cX5_init 4 = .ok (.aload_n 0, 1) := by decide +kernel
theorem dX5_init_5 : decode cX5_init 5 = .ok (.bipush 64, 2) := by decide +kernel
theorem dX5_init_7 : decode cX5_init 7 = .ok (.newarray .int, 2) := by decide +kernel
theorem dX5_init_9 : decode cX5_init 9 = .ok (.putfield 9, 3) := by decide +kernel
theorem dX5_init_12 : decode cX5_init 12 = .ok (.return_, 1) := by decide +kernel
theorem dX5_fill_0 : decode cX5_fill 0 = .ok (.aload_n 0, 1) := by decide +kernel
theorem dX5_fill_1 : decode cX5_fill 1 = .ok (.iconst 0, 1) := by decide +kernel
theorem dX5_fill_2 : decode cX5_fill 2 = .ok (.putfield 15, 3) := by decide +kernel
theorem dX5_fill_5 : decode cX5_fill 5 = .ok (.iload_n 2, 1) := by decide +kernel
theorem dX5_fill_6 : decode cX5_fill 6 = .ok (.istore 4, 2) := by decide +kernel
theorem dX5_fill_8 : decode cX5_fill 8 = .ok (.iload 4, 2) := by decide +kernel
theorem dX5_fill_10 : decode cX5_fill 10 = .ok (.iload_n 3, 1) := by decide +kernel
theorem dX5_fill_11 : decode cX5_fill 11 = .ok (.if_icmp .ge 31, 3) := by decide +kernel
theorem dX5_fill_14 : decode cX5_fill 14 = .ok (.aload_n 0, 1) := by decide +kernel
theorem dX5_fill_15 : decode cX5_fill 15 = .ok (.getfield 15, 3) := by decide +kernel
theorem dX5_fill_18 : decode cX5_fill 18 = .ok (.aload_n 0, 1) := by decide +kernel
theorem dX5_fill_19 : decode cX5_fill 19 = .ok (.getfield 9, 3) := by decide +kernel
theorem dX5_fill_22 : decode cX5_fill 22 = .ok (.arraylength, 1) := by decide +kernel
theorem dX5_fill_23 : decode cX5_fill 23 = .ok (.if_icmp .ge 19, 3) := by decide +kernel
theorem dX5_fill_26 : decode cX5_fill 26 = .ok (.aload_n 0, 1) := by decide +kernel
theorem dX5_fill_27 : decode cX5_fill 27 = .ok (.aload_n 1, 1) := by decide +kernel
theorem dX5_fill_28 : decode cX5_fill 28 = .ok (.iload 4, 2) := by decide +kernel
theorem dX5_fill_30 : decode cX5_fill 30 = .ok (.invokevirtual 19, 3) := by decide +kernel
theorem dX5_fill_33 : decode cX5_fill 33 = .ok (.invokevirtual 25, 3) := by decide +kernel
theorem dX5_fill_36 : decode cX5_fill 36 = .ok (.iinc 4 1, 3) := by decide +kernel
theorem dX5_fill_39 : decode cX5_fill 39 = .ok (.goto (-31), 3) := by decide +kernel
theorem dX5_fill_42 : decode cX5_fill 42 = .ok (.return_, 1) := by decide +kernel
theorem dX5_lay_0 : decode cX5_lay 0 = .ok (.aload_n 0, 1) := by decide +kernel
theorem dX5_lay_1 : decode cX5_lay 1 = .ok (.getfield 15, 3) := by decide +kernel
theorem dX5_lay_4 : decode cX5_lay 4 = .ok (.istore_n 2, 1) := by decide +kernel
theorem dX5_lay_5 : decode cX5_lay 5 = .ok (.iload_n 2, 1) := by decide +kernel
theorem dX5_lay_6 : decode cX5_lay 6 = .ok (.ifCond .le 44, 3) := by decide +kernel
theorem dX5_lay_9 : decode cX5_lay 9 = .ok (.iload_n 2, 1) := by decide +kernel
theorem dX5_lay_10 : decode cX5_lay 10 = .ok (.aload_n 0, 1) := by decide +kernel
theorem dX5_lay_11 : decode cX5_lay 11 = .ok (.getfield 9, 3) := by decide +kernel
theorem dX5_lay_14 : decode cX5_lay 14 = .ok (.arraylength, 1) := by decide +kernel
theorem dX5_lay_15 : decode cX5_lay 15 = .ok (.if_icmp .ge 35, 3) := by decide +kernel
theorem dX5_lay_18 : decode cX5_lay 18 = .ok (.aload_n 0, 1) := by decide +kernel
theorem dX5_lay_19 : decode cX5_lay 19 = .ok (.getfield 9, 3) := by decide +kernel
theorem dX5_lay_22 : decode cX5_lay 22 = .ok (.iload_n 2, 1) := by decide +kernel
theorem dX5_lay_23 : decode cX5_lay 23 = .ok (.iconst 1, 1) := by decide +kernel
theorem dX5_lay_24 : decode cX5_lay 24 = .ok (.isub, 1) := by decide +kernel
theorem dX5_lay_25 : decode cX5_lay 25 = .ok (.iaload, 1) := by decide +kernel
theorem dX5_lay_26 : decode cX5_lay 26 = .ok (.iload_n 1, 1) := by decide +kernel
theorem dX5_lay_27 : decode cX5_lay 27 = .ok (.if_icmp .le 23, 3) := by decide +kernel
theorem dX5_lay_30 : decode cX5_lay 30 = .ok (.aload_n 0, 1) := by decide +kernel
theorem dX5_lay_31 : decode cX5_lay 31 = .ok (.getfield 9, 3) := by decide +kernel
theorem dX5_lay_34 : decode cX5_lay 34 = .ok (.iload_n 2, 1) := by decide +kernel
theorem dX5_lay_35 : decode cX5_lay 35 = .ok (.aload_n 0, 1) := by decide +kernel
theorem dX5_lay_36 : decode cX5_lay 36 = .ok (.getfield 9, 3) := by decide +kernel
theorem dX5_lay_39 : decode cX5_lay 39 = .ok (.iload_n 2, 1) := by decide +kernel
theorem dX5_lay_40 : decode cX5_lay 40 = .ok (.iconst 1, 1) := by decide +kernel
theorem dX5_lay_41 : decode cX5_lay 41 = .ok (.isub, 1) := by decide +kernel
theorem dX5_lay_42 : decode cX5_lay 42 = .ok (.iaload, 1) := by decide +kernel
theorem dX5_lay_43 : decode cX5_lay 43 = .ok (.iastore, 1) := by decide +kernel
theorem dX5_lay_44 : decode cX5_lay 44 = .ok (.iinc 2 (-1), 3) := by decide +kernel
theorem dX5_lay_47 : decode cX5_lay 47 = .ok (.goto (-42), 3) := by decide +kernel
theorem dX5_lay_50 : decode cX5_lay 50 = .ok (.iload_n 2, 1) := by decide +kernel
theorem dX5_lay_51 : decode cX5_lay 51 = .ok (.ifCond .lt 29, 3) := by decide +kernel
theorem dX5_lay_54 : decode cX5_lay 54 = .ok (.iload_n 2, 1) := by decide +kernel
theorem dX5_lay_55 : decode cX5_lay 55 = .ok (.aload_n 0, 1) := by decide +kernel
theorem dX5_lay_56 : decode cX5_lay 56 = .ok (.getfield 9, 3) := by decide +kernel
theorem dX5_lay_59 : decode cX5_lay 59 = .ok (.arraylength, 1) := by decide +kernel
theorem dX5_lay_60 : decode cX5_lay 60 = .ok (.if_icmp .ge 20, 3) := by decide +kernel
theorem dX5_lay_63 : decode cX5_lay 63 = .ok (.aload_n 0, 1) := by decide +kernel
theorem dX5_lay_64 : decode cX5_lay 64 = .ok (.getfield 9, 3) := by decide +kernel
theorem dX5_lay_67 : decode cX5_lay 67 = .ok (.iload_n 2, 1) := by decide +kernel
theorem dX5_lay_68 : decode cX5_lay 68 = .ok (.iload_n 1, 1) := by decide +kernel
theorem dX5_lay_69 : decode cX5_lay 69 = .ok (.iastore, 1) := by decide +kernel
theorem dX5_lay_70 : decode cX5_lay 70 = .ok (.aload_n 0, 1) := by decide +kernel
theorem dX5_lay_71 : decode cX5_lay 71 = .ok (.dup, 1) := by decide +kernel
theorem dX5_lay_72 : decode cX5_lay 72 = .ok (.getfield 15, 3) := by decide +kernel
theorem dX5_lay_75 : decode cX5_lay 75 = .ok (.iconst 1, 1) := by decide +kernel
theorem dX5_lay_76 : decode cX5_lay 76 = .ok (.iadd, 1) := by decide +kernel
theorem dX5_lay_77 : decode cX5_lay 77 = .ok (.putfield 15, 3) := by decide +kernel
theorem dX5_lay_80 : decode cX5_lay 80 = .ok (.return_, 1) := by decide +kernel
theorem dX5_at_0 : decode cX5_at 0 = .ok (.iload_n 1, 1) := by decide +kernel
theorem dX5_at_1 : decode cX5_at 1 = .ok (.ifCond .lt 29, 3) := by decide +kernel
theorem dX5_at_4 : decode cX5_at 4 = .ok (.iload_n 1, 1) := by decide +kernel
theorem dX5_at_5 : decode cX5_at 5 = .ok (.aload_n 0, 1) := by decide +kernel
theorem dX5_at_6 : decode cX5_at 6 = .ok (.getfield 15, 3) := by decide +kernel
theorem dX5_at_9 : decode cX5_at 9 = .ok (.if_icmp .ge 21, 3) := by decide +kernel
theorem dX5_at_12 : decode cX5_at 12 = .ok (.iload_n 1, 1) := by decide +kernel
theorem dX5_at_13 : decode cX5_at 13 = .ok (.aload_n 0, 1) := by decide +kernel
theorem dX5_at_14 : decode cX5_at 14 = .ok (.getfield 9, 3) := by decide +kernel
theorem dX5_at_17 : decode cX5_at 17 = .ok (.arraylength, 1) := by decide +kernel
theorem dX5_at_18 : decode cX5_at 18 = .ok (.if_icmp .ge 12, 3) := by decide +kernel
theorem dX5_at_21 : decode cX5_at 21 = .ok (.aload_n 0, 1) := by decide +kernel
theorem dX5_at_22 : decode cX5_at 22 = .ok (.getfield 9, 3) := by decide +kernel
theorem dX5_at_25 : decode cX5_at 25 = .ok (.iload_n 1, 1) := by decide +kernel
theorem dX5_at_26 : decode cX5_at 26 = .ok (.iaload, 1) := by decide +kernel
theorem dX5_at_27 : decode cX5_at 27 = .ok (.goto 4, 3) := by decide +kernel
theorem dX5_at_30 : decode cX5_at 30 = .ok (.iconst 0, 1) := by decide +kernel
theorem dX5_at_31 : decode cX5_at 31 = .ok (.ireturn, 1) := by decide +kernel
theorem dX6_init_0 : decode cX6_init 0 = .ok (.aload_n 0, 1) := by decide +kernel
theorem dX6_init_1 : decode cX6_init 1 = .ok (.invokespecial 3, 3) := by decide +kernel
theorem dX6_init_4 : decode cX6_init 4 = .ok (.aload_n 0, 1) := by decide +kernel
theorem dX6_init_5 : decode cX6_init 5 = .ok (.bipush 32, 2) := by decide +kernel
theorem dX6_init_7 : decode cX6_init 7 = .ok (.newarray .int, 2) := by decide +kernel
theorem dX6_init_9 : decode cX6_init 9 = .ok (.putfield 9, 3) := by decide +kernel
theorem dX6_init_12 : decode cX6_init 12 = .ok (.return_, 1) := by decide +kernel
theorem dX6_fill_0 : decode cX6_fill 0 = .ok (.iconst 0, 1) := by decide +kernel
theorem dX6_fill_1 : decode cX6_fill 1 = .ok (.istore 4, 2) := by decide +kernel
theorem dX6_fill_3 : decode cX6_fill 3 = .ok (.iload 4, 2) := by decide +kernel
theorem dX6_fill_5 : decode cX6_fill 5 = .ok (.aload_n 0, 1) := by decide +kernel
theorem dX6_fill_6 : decode cX6_fill 6 = .ok (.getfield 9, 3) := by decide +kernel
theorem dX6_fill_9 : decode cX6_fill 9 = .ok (.arraylength, 1) := by decide +kernel
theorem dX6_fill_10 : decode cX6_fill 10 = .ok (.if_icmp .ge 17, 3) := by decide +kernel
theorem dX6_fill_13 : decode cX6_fill 13 = .ok (.aload_n 0, 1) := by decide +kernel
theorem dX6_fill_14 : decode cX6_fill 14 = .ok (.getfield 9, 3) := by decide +kernel
theorem dX6_fill_17 : decode cX6_fill 17 = .ok (.iload 4, 2) := by decide +kernel
theorem dX6_fill_19 : decode cX6_fill 19 = .ok (.iconst 0, 1) := by decide +kernel
theorem dX6_fill_20 : decode cX6_fill 20 = .ok (.iastore, 1) := by decide +kernel
theorem dX6_fill_21 : decode cX6_fill 21 = .ok (.iinc 4 1, 3) := by decide +kernel
theorem dX6_fill_24 : decode cX6_fill 24 = .ok (.goto (-21), 3) := by decide +kernel
theorem dX6_fill_27 : decode cX6_fill 27 = .ok (.iload_n 2, 1) := by decide +kernel
theorem dX6_fill_28 : decode cX6_fill 28 = .ok (.istore 4, 2) := by decide +kernel
theorem dX6_fill_30 : decode cX6_fill 30 = .ok (.iload 4, 2) := by decide +kernel
theorem dX6_fill_32 : decode cX6_fill 32 = .ok (.iload_n 3, 1) := by decide +kernel
theorem dX6_fill_33 : decode cX6_fill 33 = .ok (.if_icmp .ge 43, 3) := by decide +kernel
theorem dX6_fill_36 : decode cX6_fill 36 = .ok (.aload_n 1, 1) := by decide +kernel
theorem dX6_fill_37 : decode cX6_fill 37 = .ok (.iload 4, 2) := by decide +kernel
theorem dX6_fill_39 : decode cX6_fill 39 = .ok (.invokevirtual 15, 3) := by decide +kernel
theorem dX6_fill_42 : decode cX6_fill 42 = .ok (.istore 5, 2) := by decide +kernel
theorem dX6_fill_44 : decode cX6_fill 44 = .ok (.iload 5, 2) := by decide +kernel
theorem dX6_fill_46 : decode cX6_fill 46 = .ok (.ifCond .lt 24, 3) := by decide +kernel
theorem dX6_fill_49 : decode cX6_fill 49 = .ok (.iload 5, 2) := by decide +kernel
theorem dX6_fill_51 : decode cX6_fill 51 = .ok (.aload_n 0, 1) := by decide +kernel
theorem dX6_fill_52 : decode cX6_fill 52 = .ok (.getfield 9, 3) := by decide +kernel
theorem dX6_fill_55 : decode cX6_fill 55 = .ok (.arraylength, 1) := by decide +kernel
theorem dX6_fill_56 : decode cX6_fill 56 = .ok (.if_icmp .ge 14, 3) := by decide +kernel
theorem dX6_fill_59 : decode cX6_fill 59 = .ok (.aload_n 0, 1) := by decide +kernel
theorem dX6_fill_60 : decode cX6_fill 60 = .ok (.getfield 9, 3) := by decide +kernel
theorem dX6_fill_63 : decode cX6_fill 63 = .ok (.iload 5, 2) := by decide +kernel
theorem dX6_fill_65 : decode cX6_fill 65 = .ok (.dup2, 1) := by decide +kernel
theorem dX6_fill_66 : decode cX6_fill 66 = .ok (.iaload, 1) := by decide +kernel
theorem dX6_fill_67 : decode cX6_fill 67 = .ok (.iconst 1, 1) := by decide +kernel
theorem dX6_fill_68 : decode cX6_fill 68 = .ok (.iadd, 1) := by decide +kernel
theorem dX6_fill_69 : decode cX6_fill 69 = .ok (.iastore, 1) := by decide +kernel
theorem dX6_fill_70 : decode cX6_fill 70 = .ok (.iinc 4 1, 3) := by decide +kernel
theorem dX6_fill_73 : decode cX6_fill 73 = .ok (.goto (-43), 3) := by decide +kernel
theorem dX6_fill_76 : decode cX6_fill 76 = .ok (.return_, 1) := by decide +kernel
theorem dX6_unlike_0 : decode cX6_unlike 0 = .ok (.iconst 0, 1) := by decide +kernel
theorem dX6_unlike_1 : decode cX6_unlike 1 = .ok (.istore_n 1, 1) := by decide +kernel
theorem dX6_unlike_2 : decode cX6_unlike 2 = .ok (.iconst 0, 1) := by decide +kernel
theorem dX6_unlike_3 : decode cX6_unlike 3 = .ok (.istore_n 2, 1) := by decide +kernel
theorem dX6_unlike_4 : decode cX6_unlike 4 = .ok (.iload_n 2, 1) := by decide +kernel
theorem dX6_unlike_5 : decode cX6_unlike 5 = .ok (.aload_n 0, 1) := by decide +kernel
theorem dX6_unlike_6 : decode cX6_unlike 6 = .ok (.getfield 9, 3) := by decide +kernel
theorem dX6_unlike_9 : decode cX6_unlike 9 = .ok (.arraylength, 1) := by decide +kernel
theorem dX6_unlike_10 : decode cX6_unlike 10 = .ok (.if_icmp .ge 21, 3) := by decide +kernel
theorem dX6_unlike_13 : decode cX6_unlike 13 = .ok (.aload_n 0, 1) := by decide +kernel
theorem dX6_unlike_14 : decode cX6_unlike 14 = .ok (.getfield 9, 3) := by decide +kernel
theorem dX6_unlike_17 : decode cX6_unlike 17 = .ok (.iload_n 2, 1) := by decide +kernel
theorem dX6_unlike_18 : decode cX6_unlike 18 = .ok (.iaload, 1) := by decide +kernel
theorem dX6_unlike_19 : decode cX6_unlike 19 = .ok (.ifCond .le 6, 3) := by decide +kernel
theorem dX6_unlike_22 : decode cX6_unlike 22 = .ok (.iinc 1 1, 3) := by decide +kernel
theorem dX6_unlike_25 : decode cX6_unlike 25 = .ok (.iinc 2 1, 3) := by decide +kernel
theorem dX6_unlike_28 : decode cX6_unlike 28 = .ok (.goto (-24), 3) := by decide +kernel
theorem dX6_unlike_31 : decode cX6_unlike 31 = .ok (.iload_n 1, 1) := by decide +kernel
theorem dX6_unlike_32 : decode cX6_unlike 32 = .ok (.ireturn, 1) := by decide +kernel
theorem dX6_byNumber_0 : decode cX6_byNumber 0 = .ok (.iconst 0, 1) := by decide +kernel
theorem dX6_byNumber_1 : decode cX6_byNumber 1 = .ok (.istore_n 2, 1) := by decide +kernel
theorem dX6_byNumber_2 : decode cX6_byNumber 2 = .ok (.iload_n 2, 1) := by decide +kernel
theorem dX6_byNumber_3 : decode cX6_byNumber 3 = .ok (.aload_n 0, 1) := by decide +kernel
theorem dX6_byNumber_4 : decode cX6_byNumber 4 = .ok (.getfield 9, 3) := by decide +kernel
theorem dX6_byNumber_7 : decode cX6_byNumber 7 = .ok (.arraylength, 1) := by decide +kernel
theorem dX6_byNumber_8 : decode cX6_byNumber 8 = .ok (.if_icmp .ge 29, 3) := by decide +kernel
theorem dX6_byNumber_11 : decode cX6_byNumber 11 = .ok (.aload_n 0, 1) := by decide +kernel
theorem dX6_byNumber_12 : decode cX6_byNumber 12 = .ok (.getfield 9, 3) := by decide +kernel
theorem dX6_byNumber_15 : decode cX6_byNumber 15 = .ok (.iload_n 2, 1) := by decide +kernel
theorem dX6_byNumber_16 : decode cX6_byNumber 16 = .ok (.iaload, 1) := by decide +kernel
theorem dX6_byNumber_17 : decode cX6_byNumber 17 = .ok (.ifCond .le 14, 3) := by decide +kernel
theorem dX6_byNumber_20 : decode cX6_byNumber 20 = .ok (.aload_n 0, 1) := by decide +kernel
theorem dX6_byNumber_21 : decode cX6_byNumber 21 = .ok (.iload_n 2, 1) := by decide +kernel
theorem dX6_byNumber_22 : decode cX6_byNumber 22 = .ok (.invokevirtual 21, 3) := by decide +kernel
theorem dX6_byNumber_25 : decode cX6_byNumber 25 = .ok (.iload_n 1, 1) := by decide +kernel
theorem dX6_byNumber_26 : decode cX6_byNumber 26 = .ok (.if_icmp .ne 5, 3) := by decide +kernel
theorem dX6_byNumber_29 : decode cX6_byNumber 29 = .ok (.iload_n 2, 1) := by decide +kernel
theorem dX6_byNumber_30 : decode cX6_byNumber 30 = .ok (.ireturn, 1) := by decide +kernel
theorem dX6_byNumber_31 : decode cX6_byNumber 31 = .ok (.iinc 2 1, 3) := by decide +kernel
theorem dX6_byNumber_34 : decode cX6_byNumber 34 = .ok (.goto (-32), 3) := by decide +kernel
theorem dX6_byNumber_37 : decode cX6_byNumber 37 = .ok (.iconst (-1), 1) := by decide +kernel
theorem dX6_byNumber_38 : decode cX6_byNumber 38 = .ok (.ireturn, 1) := by decide +kernel
theorem dX6_numberAheadOf_0 : decode cX6_numberAheadOf 0 = .ok (.iload_n 1, 1) := by decide +kernel
theorem dX6_numberAheadOf_1 : decode cX6_numberAheadOf 1 = .ok (.ifCond .lt 21, 3) := by decide +kernel
theorem dX6_numberAheadOf_4 : decode cX6_numberAheadOf 4 = .ok (.iload_n 1, 1) := by decide +kernel
theorem dX6_numberAheadOf_5 : decode cX6_numberAheadOf 5 = .ok (.aload_n 0, 1) := by decide +kernel
theorem dX6_numberAheadOf_6 : decode cX6_numberAheadOf 6 = .ok (.getfield 9, 3) := by decide +kernel
theorem dX6_numberAheadOf_9 : decode cX6_numberAheadOf 9 = .ok (.arraylength, 1) := by decide +kernel
theorem dX6_numberAheadOf_10 : decode cX6_numberAheadOf 10 = .ok (.if_icmp .ge 12, 3) := by decide +kernel
theorem dX6_numberAheadOf_13 : decode cX6_numberAheadOf 13 = .ok (.aload_n 0, 1) := by decide +kernel
theorem dX6_numberAheadOf_14 : decode cX6_numberAheadOf 14 = .ok (.getfield 9, 3) := by decide +kernel
theorem dX6_numberAheadOf_17 : decode cX6_numberAheadOf 17 = .ok (.iload_n 1, 1) := by decide +kernel
theorem dX6_numberAheadOf_18 : decode cX6_numberAheadOf 18 = .ok (.iaload, 1) := by decide +kernel
theorem dX6_numberAheadOf_19 : decode cX6_numberAheadOf 19 = .ok (.goto 4, 3) := by decide +kernel
theorem dX6_numberAheadOf_22 : decode cX6_numberAheadOf 22 = .ok (.iconst 0, 1) := by decide +kernel
theorem dX6_numberAheadOf_23 : decode cX6_numberAheadOf 23 = .ok (.istore_n 2, 1) := by decide +kernel
theorem dX6_numberAheadOf_24 : decode cX6_numberAheadOf 24 = .ok (.iconst 0, 1) := by decide +kernel
theorem dX6_numberAheadOf_25 : decode cX6_numberAheadOf 25 = .ok (.istore_n 3, 1) := by decide +kernel
theorem dX6_numberAheadOf_26 : decode cX6_numberAheadOf 26 = .ok (.iconst 0, 1) := by decide +kernel
theorem dX6_numberAheadOf_27 : decode cX6_numberAheadOf 27 = .ok (.istore 4, 2) := by decide +kernel
theorem dX6_numberAheadOf_29 : decode cX6_numberAheadOf 29 = .ok (.iload 4, 2) := by decide +kernel
theorem dX6_numberAheadOf_31 : decode cX6_numberAheadOf 31 = .ok (.aload_n 0, 1) := by decide +kernel
theorem dX6_numberAheadOf_32 : decode cX6_numberAheadOf 32 = .ok (.getfield 9, 3) := by decide +kernel
theorem dX6_numberAheadOf_35 : decode cX6_numberAheadOf 35 = .ok (.arraylength, 1) := by decide +kernel
theorem dX6_numberAheadOf_36 : decode cX6_numberAheadOf 36 = .ok (.if_icmp .ge 40, 3) := by decide +kernel
theorem dX6_numberAheadOf_39 : decode cX6_numberAheadOf 39 = .ok (.aload_n 0, 1) := by decide +kernel
theorem dX6_numberAheadOf_40 : decode cX6_numberAheadOf 40 = .ok (.getfield 9, 3) := by decide +kernel
theorem dX6_numberAheadOf_43 : decode cX6_numberAheadOf 43 = .ok (.iload 4, 2) := by decide +kernel
theorem dX6_numberAheadOf_45 : decode cX6_numberAheadOf 45 = .ok (.iaload, 1) := by decide +kernel
theorem dX6_numberAheadOf_46 : decode cX6_numberAheadOf 46 = .ok (.iload_n 2, 1) := by decide +kernel
theorem dX6_numberAheadOf_47 : decode cX6_numberAheadOf 47 = .ok (.if_icmp .gt 20, 3) := by decide +kernel
theorem dX6_numberAheadOf_50 : decode cX6_numberAheadOf 50 = .ok (.aload_n 0, 1) := by decide +kernel
theorem dX6_numberAheadOf_51 : decode cX6_numberAheadOf 51 = .ok (.getfield 9, 3) := by decide +kernel
theorem dX6_numberAheadOf_54 : decode cX6_numberAheadOf 54 = .ok (.iload 4, 2) := by decide +kernel
theorem dX6_numberAheadOf_56 : decode cX6_numberAheadOf 56 = .ok (.iaload, 1) := by decide +kernel
theorem dX6_numberAheadOf_57 : decode cX6_numberAheadOf 57 = .ok (.iload_n 2, 1) := by decide +kernel
theorem dX6_numberAheadOf_58 : decode cX6_numberAheadOf 58 = .ok (.if_icmp .ne 12, 3) := by decide +kernel
theorem dX6_numberAheadOf_61 : decode cX6_numberAheadOf 61 = .ok (.iload 4, 2) := by decide +kernel
theorem dX6_numberAheadOf_63 : decode cX6_numberAheadOf 63 = .ok (.iload_n 1, 1) := by decide +kernel
theorem dX6_numberAheadOf_64 : decode cX6_numberAheadOf 64 = .ok (.if_icmp .ge 6, 3) := by decide +kernel
theorem dX6_numberAheadOf_67 : decode cX6_numberAheadOf 67 = .ok (.iinc 3 1, 3) := by decide +kernel
theorem dX6_numberAheadOf_70 : decode cX6_numberAheadOf 70 = .ok (.iinc 4 1, 3) := by decide +kernel
theorem dX6_numberAheadOf_73 : decode cX6_numberAheadOf 73 = .ok (.goto (-44), 3) := by decide +kernel
theorem dX6_numberAheadOf_76 : decode cX6_numberAheadOf 76 = .ok (.iload_n 3, 1) := by decide +kernel
theorem dX6_numberAheadOf_77 : decode cX6_numberAheadOf 77 = .ok (.ireturn, 1) := by decide +kernel
theorem dX7_init_0 : decode cX7_init 0 = .ok (.aload_n 0, 1) := by decide +kernel
theorem dX7_init_1 : decode cX7_init 1 = .ok (.invokespecial 3, 3) := by decide +kernel
theorem dX7_init_4 : decode cX7_init 4 = .ok (.aload_n 0, 1) := by decide +kernel
theorem dX7_init_5 : decode cX7_init 5 = .ok (.bipush 60, 2) := by decide +kernel
theorem dX7_init_7 : decode cX7_init 7 = .ok (.newarray .int, 2) := by decide +kernel
theorem dX7_init_9 : decode cX7_init 9 = .ok (.putfield 9, 3) := by decide +kernel
theorem dX7_init_12 : decode cX7_init 12 = .ok (.aload_n 0, 1) := by decide +kernel
theorem dX7_init_13 : decode cX7_init 13 = .ok (.bipush 10, 2) := by decide +kernel
theorem dX7_init_15 : decode cX7_init 15 = .ok (.newarray .int, 2) := by decide +kernel
theorem dX7_init_17 : decode cX7_init 17 = .ok (.putfield 15, 3) := by decide +kernel
theorem dX7_init_20 : decode cX7_init 20 = .ok (.aload_n 0, 1) := by decide +kernel
theorem dX7_init_21 : decode cX7_init 21 = .ok (.bipush 10, 2) := by decide +kernel
theorem dX7_init_23 : decode cX7_init 23 = .ok (.newarray .int, 2) := by decide +kernel
theorem dX7_init_25 : decode cX7_init 25 = .ok (.putfield 18, 3) := by decide +kernel
theorem dX7_init_28 : decode cX7_init 28 = .ok (.aload_n 0, 1) := by decide +kernel
theorem dX7_init_29 : decode cX7_init 29 = .ok (.bipush 10, 2) := by decide +kernel
theorem dX7_init_31 : decode cX7_init 31 = .ok (.newarray .int, 2) := by decide +kernel
theorem dX7_init_33 : decode cX7_init 33 = .ok (.putfield 21, 3) := by decide +kernel
theorem dX7_init_36 : decode cX7_init 36 = .ok (.return_, 1) := by decide +kernel
theorem dX7_size_0 : decode cX7_size 0 = .ok (.aload_n 0, 1) := by decide +kernel
theorem dX7_size_1 : decode cX7_size 1 = .ok (.getfield 24, 3) := by decide +kernel
theorem dX7_size_4 : decode cX7_size 4 = .ok (.ireturn, 1) := by decide +kernel
theorem dX7_isFull_0 : decode cX7_isFull 0 = .ok (.aload_n 0, 1) := by decide +kernel
theorem dX7_isFull_1 : decode cX7_isFull 1 = .ok (.getfield 24, 3) := by decide +kernel
theorem dX7_isFull_4 : decode cX7_isFull 4 = .ok (.aload_n 0, 1) := by decide +kernel
theorem dX7_isFull_5 : decode cX7_isFull 5 = .ok (.getfield 9, 3) := by decide +kernel
theorem dX7_isFull_8 : decode cX7_isFull 8 = .ok (.arraylength, 1) := by decide +kernel
theorem dX7_isFull_9 : decode cX7_isFull 9 = .ok (.if_icmp .lt 7, 3) := by decide +kernel
theorem dX7_isFull_12 : decode cX7_isFull 12 = .ok (.iconst 1, 1) := by decide +kernel
theorem dX7_isFull_13 : decode cX7_isFull 13 = .ok (.goto 4, 3) := by decide +kernel
theorem dX7_isFull_16 : decode cX7_isFull 16 = .ok (.iconst 0, 1) := by decide +kernel
theorem dX7_isFull_17 : decode cX7_isFull 17 = .ok (.ireturn, 1) := by decide +kernel
theorem dX7_add_0 : decode cX7_add 0 = .ok (.aload_n 0, 1) := by decide +kernel
theorem dX7_add_1 : decode cX7_add 1 = .ok (.getfield 24, 3) := by decide +kernel
theorem dX7_add_4 : decode cX7_add 4 = .ok (.ifCond .lt 35, 3) := by decide +kernel
theorem dX7_add_7 : decode cX7_add 7 = .ok (.aload_n 0, 1) := by decide +kernel
theorem dX7_add_8 : decode cX7_add 8 = .ok (.getfield 24, 3) := by decide +kernel
theorem dX7_add_11 : decode cX7_add 11 = .ok (.aload_n 0, 1) := by decide +kernel
theorem dX7_add_12 : decode cX7_add 12 = .ok (.getfield 9, 3) := by decide +kernel
theorem dX7_add_15 : decode cX7_add 15 = .ok (.arraylength, 1) := by decide +kernel
theorem dX7_add_16 : decode cX7_add 16 = .ok (.if_icmp .ge 23, 3) := by decide +kernel
theorem dX7_add_19 : decode cX7_add 19 = .ok (.aload_n 0, 1) := by decide +kernel
theorem dX7_add_20 : decode cX7_add 20 = .ok (.getfield 9, 3) := by decide +kernel
theorem dX7_add_23 : decode cX7_add 23 = .ok (.aload_n 0, 1) := by decide +kernel
theorem dX7_add_24 : decode cX7_add 24 = .ok (.getfield 24, 3) := by decide +kernel
theorem dX7_add_27 : decode cX7_add 27 = .ok (.iload_n 1, 1) := by decide +kernel
theorem dX7_add_28 : decode cX7_add 28 = .ok (.iastore, 1) := by decide +kernel
theorem dX7_add_29 : decode cX7_add 29 = .ok (.aload_n 0, 1) := by decide +kernel
theorem dX7_add_30 : decode cX7_add 30 = .ok (.dup, 1) := by decide +kernel
theorem dX7_add_31 : decode cX7_add 31 = .ok (.getfield 24, 3) := by decide +kernel
theorem dX7_add_34 : decode cX7_add 34 = .ok (.iconst 1, 1) := by decide +kernel
theorem dX7_add_35 : decode cX7_add 35 = .ok (.iadd, 1) := by decide +kernel
theorem dX7_add_36 : decode cX7_add 36 = .ok (.putfield 24, 3) := by decide +kernel
theorem dX7_add_39 : decode cX7_add 39 = .ok (.return_, 1) := by decide +kernel
theorem dX7_empty_0 : decode cX7_empty 0 = .ok (.aload_n 0, 1) := by decide +kernel
theorem dX7_empty_1 : decode cX7_empty 1 = .ok (.iconst 0, 1) := by decide +kernel
theorem dX7_empty_2 : decode cX7_empty 2 = .ok (.putfield 24, 3) := by decide +kernel
theorem dX7_empty_5 : decode cX7_empty 5 = .ok (.return_, 1) := by decide +kernel
theorem dX7_orders_0 : decode cX7_orders 0 = .ok (.aload_n 0, 1) := by decide +kernel
theorem dX7_orders_1 : decode cX7_orders 1 = .ok (.getfield 28, 3) := by decide +kernel
theorem dX7_orders_4 : decode cX7_orders 4 = .ok (.ireturn, 1) := by decide +kernel
theorem dX7_kindOf_0 : decode cX7_kindOf 0 = .ok (.iload_n 1, 1) := by decide +kernel
theorem dX7_kindOf_1 : decode cX7_kindOf 1 = .ok (.ifCond .lt 29, 3) := by decide +kernel
theorem dX7_kindOf_4 : decode cX7_kindOf 4 = .ok (.iload_n 1, 1) := by decide +kernel
theorem dX7_kindOf_5 : decode cX7_kindOf 5 = .ok (.aload_n 0, 1) := by decide +kernel
theorem dX7_kindOf_6 : decode cX7_kindOf 6 = .ok (.getfield 28, 3) := by decide +kernel
theorem dX7_kindOf_9 : decode cX7_kindOf 9 = .ok (.if_icmp .ge 21, 3) := by decide +kernel
theorem dX7_kindOf_12 : decode cX7_kindOf 12 = .ok (.iload_n 1, 1) := by decide +kernel
theorem dX7_kindOf_13 : decode cX7_kindOf 13 = .ok (.aload_n 0, 1) := by decide +kernel
theorem dX7_kindOf_14 : decode cX7_kindOf 14 = .ok (.getfield 15, 3) := by decide +kernel
theorem dX7_kindOf_17 : decode cX7_kindOf 17 = .ok (.arraylength, 1) := by decide +kernel
theorem dX7_kindOf_18 : decode cX7_kindOf 18 = .ok (.if_icmp .ge 12, 3) := by decide +kernel
theorem dX7_kindOf_21 : decode cX7_kindOf 21 = .ok (.aload_n 0, 1) := by decide +kernel
theorem dX7_kindOf_22 : decode cX7_kindOf 22 = .ok (.getfield 15, 3) := by decide +kernel
theorem dX7_kindOf_25 : decode cX7_kindOf 25 = .ok (.iload_n 1, 1) := by decide +kernel
theorem dX7_kindOf_26 : decode cX7_kindOf 26 = .ok (.iaload, 1) := by decide +kernel
theorem dX7_kindOf_27 : decode cX7_kindOf 27 = .ok (.goto 4, 3) := by decide +kernel
theorem dX7_kindOf_30 : decode cX7_kindOf 30 = .ok (.iconst 0, 1) := by decide +kernel
theorem dX7_kindOf_31 : decode cX7_kindOf 31 = .ok (.ireturn, 1) := by decide +kernel
theorem dX7_firstOf_0 : decode cX7_firstOf 0 = .ok (.iload_n 1, 1) := by decide +kernel
theorem dX7_firstOf_1 : decode cX7_firstOf 1 = .ok (.ifCond .lt 29, 3) := by decide +kernel
theorem dX7_firstOf_4 : decode cX7_firstOf 4 = .ok (.iload_n 1, 1) := by decide +kernel
theorem dX7_firstOf_5 : decode cX7_firstOf 5 = .ok (.aload_n 0, 1) := by decide +kernel
theorem dX7_firstOf_6 : decode cX7_firstOf 6 = .ok (.getfield 28, 3) := by decide +kernel
theorem dX7_firstOf_9 : decode cX7_firstOf 9 = .ok (.if_icmp .ge 21, 3) := by decide +kernel
theorem dX7_firstOf_12 : decode cX7_firstOf 12 = .ok (.iload_n 1, 1) := by decide +kernel
theorem dX7_firstOf_13 : decode cX7_firstOf 13 = .ok (.aload_n 0, 1) := by decide +kernel
theorem dX7_firstOf_14 : decode cX7_firstOf 14 = .ok (.getfield 18, 3) := by decide +kernel
theorem dX7_firstOf_17 : decode cX7_firstOf 17 = .ok (.arraylength, 1) := by decide +kernel
theorem dX7_firstOf_18 : decode cX7_firstOf 18 = .ok (.if_icmp .ge 12, 3) := by decide +kernel
theorem dX7_firstOf_21 : decode cX7_firstOf 21 = .ok (.aload_n 0, 1) := by decide +kernel
theorem dX7_firstOf_22 : decode cX7_firstOf 22 = .ok (.getfield 18, 3) := by decide +kernel
theorem dX7_firstOf_25 : decode cX7_firstOf 25 = .ok (.iload_n 1, 1) := by decide +kernel
theorem dX7_firstOf_26 : decode cX7_firstOf 26 = .ok (.iaload, 1) := by decide +kernel
theorem dX7_firstOf_27 : decode cX7_firstOf 27 = .ok (.goto 4, 3) := by decide +kernel
theorem dX7_firstOf_30 : decode cX7_firstOf 30 = .ok (.iconst 0, 1) := by decide +kernel
theorem dX7_firstOf_31 : decode cX7_firstOf 31 = .ok (.ireturn, 1) := by decide +kernel
theorem dX7_secondOf_0 : decode cX7_secondOf 0 = .ok (.iload_n 1, 1) := by decide +kernel
theorem dX7_secondOf_1 : decode cX7_secondOf 1 = .ok (.ifCond .lt 29, 3) := by decide +kernel
theorem dX7_secondOf_4 : decode cX7_secondOf 4 = .ok (.iload_n 1, 1) := by decide +kernel
theorem dX7_secondOf_5 : decode cX7_secondOf 5 = .ok (.aload_n 0, 1) := by decide +kernel
theorem dX7_secondOf_6 : decode cX7_secondOf 6 = .ok (.getfield 28, 3) := by decide +kernel
theorem dX7_secondOf_9 : decode cX7_secondOf 9 = .ok (.if_icmp .ge 21, 3) := by decide +kernel
theorem dX7_secondOf_12 : decode cX7_secondOf 12 = .ok (.iload_n 1, 1) := by decide +kernel
theorem dX7_secondOf_13 : decode cX7_secondOf 13 = .ok (.aload_n 0, 1) := by decide +kernel
theorem dX7_secondOf_14 : decode cX7_secondOf 14 = .ok (.getfield 21, 3) := by decide +kernel
theorem dX7_secondOf_17 : decode cX7_secondOf 17 = .ok (.arraylength, 1) := by decide +kernel
theorem dX7_secondOf_18 : decode cX7_secondOf 18 = .ok (.if_icmp .ge 12, 3) := by decide +kernel
theorem dX7_secondOf_21 : decode cX7_secondOf 21 = .ok (.aload_n 0, 1) := by decide +kernel
theorem dX7_secondOf_22 : decode cX7_secondOf 22 = .ok (.getfield 21, 3) := by decide +kernel
theorem dX7_secondOf_25 : decode cX7_secondOf 25 = .ok (.iload_n 1, 1) := by decide +kernel
theorem dX7_secondOf_26 : decode cX7_secondOf 26 = .ok (.iaload, 1) := by decide +kernel
theorem dX7_secondOf_27 : decode cX7_secondOf 27 = .ok (.goto 4, 3) := by decide +kernel
theorem dX7_secondOf_30 : decode cX7_secondOf 30 = .ok (.iconst 0, 1) := by decide +kernel
theorem dX7_secondOf_31 : decode cX7_secondOf 31 = .ok (.ireturn, 1) := by decide +kernel
theorem dX7_read_0 : decode cX7_read 0 = .ok (.aload_n 0, 1) := by decide +kernel
theorem dX7_read_1 : decode cX7_read 1 = .ok (.iconst 0, 1) := by decide +kernel
theorem dX7_read_2 : decode cX7_read 2 = .ok (.putfield 28, 3) := by decide +kernel
theorem dX7_read_5 : decode cX7_read 5 = .ok (.aload_n 0, 1) := by decide +kernel
theorem dX7_read_6 : decode cX7_read 6 = .ok (.iconst 0, 1) := by decide +kernel
theorem dX7_read_7 : decode cX7_read 7 = .ok (.putfield 31, 3) := by decide +kernel
theorem dX7_read_10 : decode cX7_read 10 = .ok (.iconst 0, 1) := by decide +kernel
theorem dX7_read_11 : decode cX7_read 11 = .ok (.istore_n 1, 1) := by decide +kernel
theorem dX7_read_12 : decode cX7_read 12 = .ok (.iload_n 1, 1) := by decide +kernel
theorem dX7_read_13 : decode cX7_read 13 = .ok (.bipush 60, 2) := by decide +kernel
theorem dX7_read_15 : decode cX7_read 15 = .ok (.if_icmp .gt 48, 3) := by decide +kernel
theorem dX7_read_18 : decode cX7_read 18 = .ok (.aload_n 0, 1) := by decide +kernel
theorem dX7_read_19 : decode cX7_read 19 = .ok (.invokevirtual 34, 3) := by decide +kernel
theorem dX7_read_22 : decode cX7_read 22 = .ok (.ifCond .ne 8, 3) := by decide +kernel
theorem dX7_read_25 : decode cX7_read 25 = .ok (.aload_n 0, 1) := by decide +kernel
theorem dX7_read_26 : decode cX7_read 26 = .ok (.getfield 31, 3) := by decide +kernel
theorem dX7_read_29 : decode cX7_read 29 = .ok (.ireturn, 1) := by decide +kernel
theorem dX7_read_30 : decode cX7_read 30 = .ok (.aload_n 0, 1) := by decide +kernel
theorem dX7_read_31 : decode cX7_read 31 = .ok (.getfield 31, 3) := by decide +kernel
theorem dX7_read_34 : decode cX7_read 34 = .ok (.aload_n 0, 1) := by decide +kernel
theorem dX7_read_35 : decode cX7_read 35 = .ok (.getfield 24, 3) := by decide +kernel
theorem dX7_read_38 : decode cX7_read 38 = .ok (.if_icmp .ne 5, 3) := by decide +kernel
theorem dX7_read_41 : decode cX7_read 41 = .ok (.iconst (-1), 1) := by decide +kernel
theorem dX7_read_42 : decode cX7_read 42 = .ok (.ireturn, 1) := by decide +kernel
theorem dX7_read_43 : decode cX7_read 43 = .ok (.aload_n 0, 1) := by decide +kernel
theorem dX7_read_44 : decode cX7_read 44 = .ok (.bipush 59, 2) := by decide +kernel
theorem dX7_read_46 : decode cX7_read 46 = .ok (.invokevirtual 38, 3) := by decide +kernel
theorem dX7_read_49 : decode cX7_read 49 = .ok (.ifCond .ne 8, 3) := by decide +kernel
theorem dX7_read_52 : decode cX7_read 52 = .ok (.aload_n 0, 1) := by decide +kernel
theorem dX7_read_53 : decode cX7_read 53 = .ok (.getfield 31, 3) := by decide +kernel
theorem dX7_read_56 : decode cX7_read 56 = .ok (.ireturn, 1) := by decide +kernel
theorem dX7_read_57 : decode cX7_read 57 = .ok (.iinc 1 1, 3) := by decide +kernel
theorem dX7_read_60 : decode cX7_read 60 = .ok (.goto (-48), 3) := by decide +kernel
theorem dX7_read_63 : decode cX7_read 63 = .ok (.aload_n 0, 1) := by decide +kernel
theorem dX7_read_64 : decode cX7_read 64 = .ok (.getfield 31, 3) := by decide +kernel
theorem dX7_read_67 : decode cX7_read 67 = .ok (.ireturn, 1) := by decide +kernel
theorem dX7_readOrder_0 : decode cX7_readOrder 0 = .ok (.aload_n 0, 1) := by decide +kernel
theorem dX7_readOrder_1 : decode cX7_readOrder 1 = .ok (.aload_n 0, 1) := by decide +kernel
theorem dX7_readOrder_2 : decode cX7_readOrder 2 = .ok (.getfield 31, 3) := by decide +kernel
theorem dX7_readOrder_5 : decode cX7_readOrder 5 = .ok (.invokevirtual 42, 3) := by decide +kernel
theorem dX7_readOrder_8 : decode cX7_readOrder 8 = .ok (.istore_n 1, 1) := by decide +kernel
theorem dX7_readOrder_9 : decode cX7_readOrder 9 = .ok (.aload_n 0, 1) := by decide +kernel
theorem dX7_readOrder_10 : decode cX7_readOrder 10 = .ok (.iload_n 1, 1) := by decide +kernel
theorem dX7_readOrder_11 : decode cX7_readOrder 11 = .ok (.invokestatic 46, 3) := by decide +kernel
theorem dX7_readOrder_14 : decode cX7_readOrder 14 = .ok (.invokevirtual 50, 3) := by decide +kernel
theorem dX7_readOrder_17 : decode cX7_readOrder 17 = .ok (.ifCond .eq 10, 3) := by decide +kernel
theorem dX7_readOrder_20 : decode cX7_readOrder 20 = .ok (.aload_n 0, 1) := by decide +kernel
theorem dX7_readOrder_21 : decode cX7_readOrder 21 = .ok (.invokevirtual 54, 3) := by decide +kernel
theorem dX7_readOrder_24 : decode cX7_readOrder 24 = .ok (.ifCond .ne 5, 3) := by decide +kernel
theorem dX7_readOrder_27 : decode cX7_readOrder 27 = .ok (.iconst 0, 1) := by decide +kernel
theorem dX7_readOrder_28 : decode cX7_readOrder 28 = .ok (.ireturn, 1) := by decide +kernel
theorem dX7_readOrder_29 : decode cX7_readOrder 29 = .ok (.aload_n 0, 1) := by decide +kernel
theorem dX7_readOrder_30 : decode cX7_readOrder 30 = .ok (.getfield 57, 3) := by decide +kernel
theorem dX7_readOrder_33 : decode cX7_readOrder 33 = .ok (.istore_n 2, 1) := by decide +kernel
theorem dX7_readOrder_34 : decode cX7_readOrder 34 = .ok (.iload_n 1, 1) := by decide +kernel
theorem dX7_readOrder_35 : decode cX7_readOrder 35 = .ok (.bipush 105, 2) := by decide +kernel
theorem dX7_readOrder_37 : decode cX7_readOrder 37 = .ok (.if_icmp .ne 21, 3) := by decide +kernel
theorem dX7_readOrder_40 : decode cX7_readOrder 40 = .ok (.aload_n 0, 1) := by decide +kernel
theorem dX7_readOrder_41 : decode cX7_readOrder 41 = .ok (.bipush 32, 2) := by decide +kernel
theorem dX7_readOrder_43 : decode cX7_readOrder 43 = .ok (.invokevirtual 38, 3) := by decide +kernel
theorem dX7_readOrder_46 : decode cX7_readOrder 46 = .ok (.ifCond .eq 10, 3) := by decide +kernel
theorem dX7_readOrder_49 : decode cX7_readOrder 49 = .ok (.aload_n 0, 1) := by decide +kernel
theorem dX7_readOrder_50 : decode cX7_readOrder 50 = .ok (.invokevirtual 54, 3) := by decide +kernel
theorem dX7_readOrder_53 : decode cX7_readOrder 53 = .ok (.ifCond .ne 5, 3) := by decide +kernel
theorem dX7_readOrder_56 : decode cX7_readOrder 56 = .ok (.iconst 0, 1) := by decide +kernel
theorem dX7_readOrder_57 : decode cX7_readOrder 57 = .ok (.ireturn, 1) := by decide +kernel
theorem dX7_readOrder_58 : decode cX7_readOrder 58 = .ok (.aload_n 0, 1) := by decide +kernel
theorem dX7_readOrder_59 : decode cX7_readOrder 59 = .ok (.iload_n 1, 1) := by decide +kernel
theorem dX7_readOrder_60 : decode cX7_readOrder 60 = .ok (.iload_n 2, 1) := by decide +kernel
theorem dX7_readOrder_61 : decode cX7_readOrder 61 = .ok (.aload_n 0, 1) := by decide +kernel
theorem dX7_readOrder_62 : decode cX7_readOrder 62 = .ok (.getfield 57, 3) := by decide +kernel
theorem dX7_readOrder_65 : decode cX7_readOrder 65 = .ok (.invokevirtual 60, 3) := by decide +kernel
theorem dX7_readOrder_68 : decode cX7_readOrder 68 = .ok (.iconst 1, 1) := by decide +kernel
theorem dX7_readOrder_69 : decode cX7_readOrder 69 = .ok (.ireturn, 1) := by decide +kernel
theorem dX7_wordOf_0 : decode cX7_wordOf 0 = .ok (.iload_n 0, 1) := by decide +kernel
theorem dX7_wordOf_1 : decode cX7_wordOf 1 = .ok (.tableswitch 101 99 115 #[98, 101, 101, 101, 101, 101, 86, 101, 101, 101, 95, 101, 89, 83, 101, 101, 92], 83) := by decide +kernel
theorem dX7_wordOf_84 : decode cX7_wordOf 84 = .ok (.ldc 64, 2) := by decide +kernel
theorem dX7_wordOf_86 : decode cX7_wordOf 86 = .ok (.areturn, 1) := by decide +kernel
theorem dX7_wordOf_87 : decode cX7_wordOf 87 = .ok (.ldc 66, 2) := by decide +kernel
theorem dX7_wordOf_89 : decode cX7_wordOf 89 = .ok (.areturn, 1) := by decide +kernel
theorem dX7_wordOf_90 : decode cX7_wordOf 90 = .ok (.ldc 68, 2) := by decide +kernel
theorem dX7_wordOf_92 : decode cX7_wordOf 92 = .ok (.areturn, 1) := by decide +kernel
theorem dX7_wordOf_93 : decode cX7_wordOf 93 = .ok (.ldc 70, 2) := by decide +kernel
theorem dX7_wordOf_95 : decode cX7_wordOf 95 = .ok (.areturn, 1) := by decide +kernel
theorem dX7_wordOf_96 : decode cX7_wordOf 96 = .ok (.ldc 72, 2) := by decide +kernel
theorem dX7_wordOf_98 : decode cX7_wordOf 98 = .ok (.areturn, 1) := by decide +kernel
theorem dX7_wordOf_99 : decode cX7_wordOf 99 = .ok (.ldc 74, 2) := by decide +kernel
theorem dX7_wordOf_101 : decode cX7_wordOf 101 = .ok (.areturn, 1) := by decide +kernel
theorem dX7_wordOf_102 : decode cX7_wordOf 102 = .ok (.ldc 76, 2) := by decide +kernel
theorem dX7_wordOf_104 : decode cX7_wordOf 104 = .ok (.areturn, 1) := by decide +kernel
theorem dX7_readWord_0 : decode cX7_readWord 0 = .ok (.iconst 0, 1) := by decide +kernel
theorem dX7_readWord_1 : decode cX7_readWord 1 = .ok (.istore_n 2, 1) := by decide +kernel
theorem dX7_readWord_2 : decode cX7_readWord 2 = .ok (.iload_n 2, 1) := by decide +kernel
theorem dX7_readWord_3 : decode cX7_readWord 3 = .ok (.aload_n 1, 1) := by decide +kernel
theorem dX7_readWord_4 : decode cX7_readWord 4 = .ok (.invokevirtual 78, 3) := by decide +kernel
theorem dX7_readWord_7 : decode cX7_readWord 7 = .ok (.if_icmp .ge 23, 3) := by decide +kernel
theorem dX7_readWord_10 : decode cX7_readWord 10 = .ok (.aload_n 0, 1) := by decide +kernel
theorem dX7_readWord_11 : decode cX7_readWord 11 = .ok (.aload_n 1, 1) := by decide +kernel
theorem dX7_readWord_12 : decode cX7_readWord 12 = .ok (.iload_n 2, 1) := by decide +kernel
theorem dX7_readWord_13 : decode cX7_readWord 13 = .ok (.invokevirtual 84, 3) := by decide +kernel
theorem dX7_readWord_16 : decode cX7_readWord 16 = .ok (.invokevirtual 38, 3) := by decide +kernel
theorem dX7_readWord_19 : decode cX7_readWord 19 = .ok (.ifCond .ne 5, 3) := by decide +kernel
theorem dX7_readWord_22 : decode cX7_readWord 22 = .ok (.iconst 0, 1) := by decide +kernel
theorem dX7_readWord_23 : decode cX7_readWord 23 = .ok (.ireturn, 1) := by decide +kernel
theorem dX7_readWord_24 : decode cX7_readWord 24 = .ok (.iinc 2 1, 3) := by decide +kernel
theorem dX7_readWord_27 : decode cX7_readWord 27 = .ok (.goto (-25), 3) := by decide +kernel
theorem dX7_readWord_30 : decode cX7_readWord 30 = .ok (.aload_n 1, 1) := by decide +kernel
theorem dX7_readWord_31 : decode cX7_readWord 31 = .ok (.invokevirtual 88, 3) := by decide +kernel
theorem dX7_readWord_34 : decode cX7_readWord 34 = .ok (.ifCond .ne 7, 3) := by decide +kernel
theorem dX7_readWord_37 : decode cX7_readWord 37 = .ok (.iconst 1, 1) := by decide +kernel
theorem dX7_readWord_38 : decode cX7_readWord 38 = .ok (.goto 4, 3) := by decide +kernel
theorem dX7_readWord_41 : decode cX7_readWord 41 = .ok (.iconst 0, 1) := by decide +kernel
theorem dX7_readWord_42 : decode cX7_readWord 42 = .ok (.ireturn, 1) := by decide +kernel
theorem dX7_readNumber_0 : decode cX7_readNumber 0 = .ok (.aload_n 0, 1) := by decide +kernel
theorem dX7_readNumber_1 : decode cX7_readNumber 1 = .ok (.aload_n 0, 1) := by decide +kernel
theorem dX7_readNumber_2 : decode cX7_readNumber 2 = .ok (.getfield 31, 3) := by decide +kernel
theorem dX7_readNumber_5 : decode cX7_readNumber 5 = .ok (.invokevirtual 91, 3) := by decide +kernel
theorem dX7_readNumber_8 : decode cX7_readNumber 8 = .ok (.istore_n 1, 1) := by decide +kernel
theorem dX7_readNumber_9 : decode cX7_readNumber 9 = .ok (.iload_n 1, 1) := by decide +kernel
theorem dX7_readNumber_10 : decode cX7_readNumber 10 = .ok (.ifCond .ge 5, 3) := by decide +kernel
theorem dX7_readNumber_13 : decode cX7_readNumber 13 = .ok (.iconst 0, 1) := by decide +kernel
theorem dX7_readNumber_14 : decode cX7_readNumber 14 = .ok (.ireturn, 1) := by decide +kernel
theorem dX7_readNumber_15 : decode cX7_readNumber 15 = .ok (.aload_n 0, 1) := by decide +kernel
theorem dX7_readNumber_16 : decode cX7_readNumber 16 = .ok (.iload_n 1, 1) := by decide +kernel
theorem dX7_readNumber_17 : decode cX7_readNumber 17 = .ok (.putfield 57, 3) := by decide +kernel
theorem dX7_readNumber_20 : decode cX7_readNumber 20 = .ok (.aload_n 0, 1) := by decide +kernel
theorem dX7_readNumber_21 : decode cX7_readNumber 21 = .ok (.dup, 1) := by decide +kernel
theorem dX7_readNumber_22 : decode cX7_readNumber 22 = .ok (.getfield 31, 3) := by decide +kernel
theorem dX7_readNumber_25 : decode cX7_readNumber 25 = .ok (.iconst 1, 1) := by decide +kernel
theorem dX7_readNumber_26 : decode cX7_readNumber 26 = .ok (.iadd, 1) := by decide +kernel
theorem dX7_readNumber_27 : decode cX7_readNumber 27 = .ok (.putfield 31, 3) := by decide +kernel
theorem dX7_readNumber_30 : decode cX7_readNumber 30 = .ok (.aload_n 0, 1) := by decide +kernel
theorem dX7_readNumber_31 : decode cX7_readNumber 31 = .ok (.aload_n 0, 1) := by decide +kernel
theorem dX7_readNumber_32 : decode cX7_readNumber 32 = .ok (.getfield 31, 3) := by decide +kernel
theorem dX7_readNumber_35 : decode cX7_readNumber 35 = .ok (.invokevirtual 91, 3) := by decide +kernel
theorem dX7_readNumber_38 : decode cX7_readNumber 38 = .ok (.istore_n 1, 1) := by decide +kernel
theorem dX7_readNumber_39 : decode cX7_readNumber 39 = .ok (.iload_n 1, 1) := by decide +kernel
theorem dX7_readNumber_40 : decode cX7_readNumber 40 = .ok (.ifCond .lt 26, 3) := by decide +kernel
theorem dX7_readNumber_43 : decode cX7_readNumber 43 = .ok (.aload_n 0, 1) := by decide +kernel
theorem dX7_readNumber_44 : decode cX7_readNumber 44 = .ok (.aload_n 0, 1) := by decide +kernel
theorem dX7_readNumber_45 : decode cX7_readNumber 45 = .ok (.getfield 57, 3) := by decide +kernel
theorem dX7_readNumber_48 : decode cX7_readNumber 48 = .ok (.bipush 10, 2) := by decide +kernel
theorem dX7_readNumber_50 : decode cX7_readNumber 50 = .ok (.imul, 1) := by decide +kernel
theorem dX7_readNumber_51 : decode cX7_readNumber 51 = .ok (.iload_n 1, 1) := by decide +kernel
theorem dX7_readNumber_52 : decode cX7_readNumber 52 = .ok (.iadd, 1) := by decide +kernel
theorem dX7_readNumber_53 : decode cX7_readNumber 53 = .ok (.putfield 57, 3) := by decide +kernel
theorem dX7_readNumber_56 : decode cX7_readNumber 56 = .ok (.aload_n 0, 1) := by decide +kernel
theorem dX7_readNumber_57 : decode cX7_readNumber 57 = .ok (.dup, 1) := by decide +kernel
theorem dX7_readNumber_58 : decode cX7_readNumber 58 = .ok (.getfield 31, 3) := by decide +kernel
theorem dX7_readNumber_61 : decode cX7_readNumber 61 = .ok (.iconst 1, 1) := by decide +kernel
theorem dX7_readNumber_62 : decode cX7_readNumber 62 = .ok (.iadd, 1) := by decide +kernel
theorem dX7_readNumber_63 : decode cX7_readNumber 63 = .ok (.putfield 31, 3) := by decide +kernel
theorem dX7_readNumber_66 : decode cX7_readNumber 66 = .ok (.iconst 1, 1) := by decide +kernel
theorem dX7_readNumber_67 : decode cX7_readNumber 67 = .ok (.ireturn, 1) := by decide +kernel
theorem dX7_readSign_0 : decode cX7_readSign 0 = .ok (.aload_n 0, 1) := by decide +kernel
theorem dX7_readSign_1 : decode cX7_readSign 1 = .ok (.aload_n 0, 1) := by decide +kernel
theorem dX7_readSign_2 : decode cX7_readSign 2 = .ok (.getfield 31, 3) := by decide +kernel
theorem dX7_readSign_5 : decode cX7_readSign 5 = .ok (.invokevirtual 42, 3) := by decide +kernel
theorem dX7_readSign_8 : decode cX7_readSign 8 = .ok (.iload_n 1, 1) := by decide +kernel
theorem dX7_readSign_9 : decode cX7_readSign 9 = .ok (.if_icmp .eq 5, 3) := by decide +kernel
theorem dX7_readSign_12 : decode cX7_readSign 12 = .ok (.iconst 0, 1) := by decide +kernel
theorem dX7_readSign_13 : decode cX7_readSign 13 = .ok (.ireturn, 1) := by decide +kernel
theorem dX7_readSign_14 : decode cX7_readSign 14 = .ok (.aload_n 0, 1) := by decide +kernel
theorem dX7_readSign_15 : decode cX7_readSign 15 = .ok (.dup, 1) := by decide +kernel
theorem dX7_readSign_16 : decode cX7_readSign 16 = .ok (.getfield 31, 3) := by decide +kernel
theorem dX7_readSign_19 : decode cX7_readSign 19 = .ok (.iconst 1, 1) := by decide +kernel
theorem dX7_readSign_20 : decode cX7_readSign 20 = .ok (.iadd, 1) := by decide +kernel
theorem dX7_readSign_21 : decode cX7_readSign 21 = .ok (.putfield 31, 3) := by decide +kernel
theorem dX7_readSign_24 : decode cX7_readSign 24 = .ok (.iconst 1, 1) := by decide +kernel
theorem dX7_readSign_25 : decode cX7_readSign 25 = .ok (.ireturn, 1) := by decide +kernel
theorem dX7_digitAt_0 : decode cX7_digitAt 0 = .ok (.aload_n 0, 1) := by decide +kernel
theorem dX7_digitAt_1 : decode cX7_digitAt 1 = .ok (.iload_n 1, 1) := by decide +kernel
theorem dX7_digitAt_2 : decode cX7_digitAt 2 = .ok (.invokevirtual 42, 3) := by decide +kernel
theorem dX7_digitAt_5 : decode cX7_digitAt 5 = .ok (.istore_n 2, 1) := by decide +kernel
theorem dX7_digitAt_6 : decode cX7_digitAt 6 = .ok (.iload_n 2, 1) := by decide +kernel
theorem dX7_digitAt_7 : decode cX7_digitAt 7 = .ok (.bipush 48, 2) := by decide +kernel
theorem dX7_digitAt_9 : decode cX7_digitAt 9 = .ok (.if_icmp .lt 16, 3) := by decide +kernel
theorem dX7_digitAt_12 : decode cX7_digitAt 12 = .ok (.iload_n 2, 1) := by decide +kernel
theorem dX7_digitAt_13 : decode cX7_digitAt 13 = .ok (.bipush 57, 2) := by decide +kernel
theorem dX7_digitAt_15 : decode cX7_digitAt 15 = .ok (.if_icmp .gt 10, 3) := by decide +kernel
theorem dX7_digitAt_18 : decode cX7_digitAt 18 = .ok (.iload_n 2, 1) := by decide +kernel
theorem dX7_digitAt_19 : decode cX7_digitAt 19 = .ok (.bipush 48, 2) := by decide +kernel
theorem dX7_digitAt_21 : decode cX7_digitAt 21 = .ok (.isub, 1) := by decide +kernel
theorem dX7_digitAt_22 : decode cX7_digitAt 22 = .ok (.goto 4, 3) := by decide +kernel
theorem dX7_digitAt_25 : decode cX7_digitAt 25 = .ok (.iconst (-1), 1) := by decide +kernel
theorem dX7_digitAt_26 : decode cX7_digitAt 26 = .ok (.ireturn, 1) := by decide +kernel
theorem dX7_codeAt_0 : decode cX7_codeAt 0 = .ok (.iload_n 1, 1) := by decide +kernel
theorem dX7_codeAt_1 : decode cX7_codeAt 1 = .ok (.ifCond .lt 29, 3) := by decide +kernel
theorem dX7_codeAt_4 : decode cX7_codeAt 4 = .ok (.iload_n 1, 1) := by decide +kernel
theorem dX7_codeAt_5 : decode cX7_codeAt 5 = .ok (.aload_n 0, 1) := by decide +kernel
theorem dX7_codeAt_6 : decode cX7_codeAt 6 = .ok (.getfield 24, 3) := by decide +kernel
theorem dX7_codeAt_9 : decode cX7_codeAt 9 = .ok (.if_icmp .ge 21, 3) := by decide +kernel
theorem dX7_codeAt_12 : decode cX7_codeAt 12 = .ok (.iload_n 1, 1) := by decide +kernel
theorem dX7_codeAt_13 : decode cX7_codeAt 13 = .ok (.aload_n 0, 1) := by decide +kernel
theorem dX7_codeAt_14 : decode cX7_codeAt 14 = .ok (.getfield 9, 3) := by decide +kernel
theorem dX7_codeAt_17 : decode cX7_codeAt 17 = .ok (.arraylength, 1) := by decide +kernel
theorem dX7_codeAt_18 : decode cX7_codeAt 18 = .ok (.if_icmp .ge 12, 3) := by decide +kernel
theorem dX7_codeAt_21 : decode cX7_codeAt 21 = .ok (.aload_n 0, 1) := by decide +kernel
theorem dX7_codeAt_22 : decode cX7_codeAt 22 = .ok (.getfield 9, 3) := by decide +kernel
theorem dX7_codeAt_25 : decode cX7_codeAt 25 = .ok (.iload_n 1, 1) := by decide +kernel
theorem dX7_codeAt_26 : decode cX7_codeAt 26 = .ok (.iaload, 1) := by decide +kernel
theorem dX7_codeAt_27 : decode cX7_codeAt 27 = .ok (.goto 4, 3) := by decide +kernel
theorem dX7_codeAt_30 : decode cX7_codeAt 30 = .ok (.iconst (-1), 1) := by decide +kernel
theorem dX7_codeAt_31 : decode cX7_codeAt 31 = .ok (.ireturn, 1) := by decide +kernel
theorem dX7_addOrder_0 : decode cX7_addOrder 0 = .ok (.aload_n 0, 1) := by decide +kernel
theorem dX7_addOrder_1 : decode cX7_addOrder 1 = .ok (.getfield 28, 3) := by decide +kernel
theorem dX7_addOrder_4 : decode cX7_addOrder 4 = .ok (.ifCond .lt 79, 3) := by decide +kernel
theorem dX7_addOrder_7 : decode cX7_addOrder 7 = .ok (.aload_n 0, 1) := by decide +kernel
theorem dX7_addOrder_8 : decode cX7_addOrder 8 = .ok (.getfield 28, 3) := by decide +kernel
theorem dX7_addOrder_11 : decode cX7_addOrder 11 = .ok (.aload_n 0, 1) := by decide +kernel
theorem dX7_addOrder_12 : decode cX7_addOrder 12 = .ok (.getfield 15, 3) := by decide +kernel
theorem dX7_addOrder_15 : decode cX7_addOrder 15 = .ok (.arraylength, 1) := by decide +kernel
theorem dX7_addOrder_16 : decode cX7_addOrder 16 = .ok (.if_icmp .ge 67, 3) := by decide +kernel
theorem dX7_addOrder_19 : decode cX7_addOrder 19 = .ok (.aload_n 0, 1) := by decide +kernel
theorem dX7_addOrder_20 : decode cX7_addOrder 20 = .ok (.getfield 28, 3) := by decide +kernel
theorem dX7_addOrder_23 : decode cX7_addOrder 23 = .ok (.aload_n 0, 1) := by decide +kernel
theorem dX7_addOrder_24 : decode cX7_addOrder 24 = .ok (.getfield 18, 3) := by decide +kernel
theorem dX7_addOrder_27 : decode cX7_addOrder 27 = .ok (.arraylength, 1) := by decide +kernel
theorem dX7_addOrder_28 : decode cX7_addOrder 28 = .ok (.if_icmp .ge 55, 3) := by decide +kernel
theorem dX7_addOrder_31 : decode cX7_addOrder 31 = .ok (.aload_n 0, 1) := by decide +kernel
theorem dX7_addOrder_32 : decode cX7_addOrder 32 = .ok (.getfield 28, 3) := by decide +kernel
theorem dX7_addOrder_35 : decode cX7_addOrder 35 = .ok (.aload_n 0, 1) := by decide +kernel
theorem dX7_addOrder_36 : decode cX7_addOrder 36 = .ok (.getfield 21, 3) := by decide +kernel
theorem dX7_addOrder_39 : decode cX7_addOrder 39 = .ok (.arraylength, 1) := by decide +kernel
theorem dX7_addOrder_40 : decode cX7_addOrder 40 = .ok (.if_icmp .ge 43, 3) := by decide +kernel
theorem dX7_addOrder_43 : decode cX7_addOrder 43 = .ok (.aload_n 0, 1) := by decide +kernel
theorem dX7_addOrder_44 : decode cX7_addOrder 44 = .ok (.getfield 15, 3) := by decide +kernel
theorem dX7_addOrder_47 : decode cX7_addOrder 47 = .ok (.aload_n 0, 1) := by decide +kernel
theorem dX7_addOrder_48 : decode cX7_addOrder 48 = .ok (.getfield 28, 3) := by decide +kernel
theorem dX7_addOrder_51 : decode cX7_addOrder 51 = .ok (.iload_n 1, 1) := by decide +kernel
theorem dX7_addOrder_52 : decode cX7_addOrder 52 = .ok (.iastore, 1) := by decide +kernel
theorem dX7_addOrder_53 : decode cX7_addOrder 53 = .ok (.aload_n 0, 1) := by decide +kernel
theorem dX7_addOrder_54 : decode cX7_addOrder 54 = .ok (.getfield 18, 3) := by decide +kernel
theorem dX7_addOrder_57 : decode cX7_addOrder 57 = .ok (.aload_n 0, 1) := by decide +kernel
theorem dX7_addOrder_58 : decode cX7_addOrder 58 = .ok (.getfield 28, 3) := by decide +kernel
theorem dX7_addOrder_61 : decode cX7_addOrder 61 = .ok (.iload_n 2, 1) := by decide +kernel
theorem dX7_addOrder_62 : decode cX7_addOrder 62 = .ok (.iastore, 1) := by decide +kernel
theorem dX7_addOrder_63 : decode cX7_addOrder 63 = .ok (.aload_n 0, 1) := by decide +kernel
theorem dX7_addOrder_64 : decode cX7_addOrder 64 = .ok (.getfield 21, 3) := by decide +kernel
theorem dX7_addOrder_67 : decode cX7_addOrder 67 = .ok (.aload_n 0, 1) := by decide +kernel
theorem dX7_addOrder_68 : decode cX7_addOrder 68 = .ok (.getfield 28, 3) := by decide +kernel
theorem dX7_addOrder_71 : decode cX7_addOrder 71 = .ok (.iload_n 3, 1) := by decide +kernel
theorem dX7_addOrder_72 : decode cX7_addOrder 72 = .ok (.iastore, 1) := by decide +kernel
theorem dX7_addOrder_73 : decode cX7_addOrder 73 = .ok (.aload_n 0, 1) := by decide +kernel
theorem dX7_addOrder_74 : decode cX7_addOrder 74 = .ok (.dup, 1) := by decide +kernel
theorem dX7_addOrder_75 : decode cX7_addOrder 75 = .ok (.getfield 28, 3) := by decide +kernel
theorem dX7_addOrder_78 : decode cX7_addOrder 78 = .ok (.iconst 1, 1) := by decide +kernel
theorem dX7_addOrder_79 : decode cX7_addOrder 79 = .ok (.iadd, 1) := by decide +kernel
theorem dX7_addOrder_80 : decode cX7_addOrder 80 = .ok (.putfield 28, 3) := by decide +kernel
theorem dX7_addOrder_83 : decode cX7_addOrder 83 = .ok (.return_, 1) := by decide +kernel
theorem dX8_init_0 : decode cX8_init 0 = .ok (.aload_n 0, 1) := by decide +kernel
theorem dX8_init_1 : decode cX8_init 1 = .ok (.invokespecial 1, 3) := by decide +kernel
theorem dX8_init_4 : decode cX8_init 4 = .ok (.aload_n 0, 1) := by decide +kernel
theorem dX8_init_5 : decode cX8_init 5 = .ok (.new 7, 3) := by decide +kernel
theorem dX8_init_8 : decode cX8_init 8 = .ok (.dup, 1) := by decide +kernel
theorem dX8_init_9 : decode cX8_init 9 = .ok (.invokespecial 9, 3) := by decide +kernel
theorem dX8_init_12 : decode cX8_init 12 = .ok (.putfield 10, 3) := by decide +kernel
theorem dX8_init_15 : decode cX8_init 15 = .ok (.aload_n 0, 1) := by decide +kernel
theorem dX8_init_16 : decode cX8_init 16 = .ok (.new 7, 3) := by decide +kernel
theorem dX8_init_19 : decode cX8_init 19 = .ok (.dup, 1) := by decide +kernel
theorem dX8_init_20 : decode cX8_init 20 = .ok (.invokespecial 9, 3) := by decide +kernel
theorem dX8_init_23 : decode cX8_init 23 = .ok (.putfield 16, 3) := by decide +kernel
theorem dX8_init_26 : decode cX8_init 26 = .ok (.aload_n 0, 1) := by decide +kernel
theorem dX8_init_27 : decode cX8_init 27 = .ok (.new 7, 3) := by decide +kernel
theorem dX8_init_30 : decode cX8_init 30 = .ok (.dup, 1) := by decide +kernel
theorem dX8_init_31 : decode cX8_init 31 = .ok (.invokespecial 9, 3) := by decide +kernel
theorem dX8_init_34 : decode cX8_init 34 = .ok (.putfield 19, 3) := by decide +kernel
theorem dX8_init_37 : decode cX8_init 37 = .ok (.aload_n 0, 1) := by decide +kernel
theorem dX8_init_38 : decode cX8_init 38 = .ok (.new 22, 3) := by decide +kernel
theorem dX8_init_41 : decode cX8_init 41 = .ok (.dup, 1) := by decide +kernel
theorem dX8_init_42 : decode cX8_init 42 = .ok (.invokespecial 24, 3) := by decide +kernel
theorem dX8_init_45 : decode cX8_init 45 = .ok (.putfield 25, 3) := by decide +kernel
theorem dX8_init_48 : decode cX8_init 48 = .ok (.aload_n 0, 1) := by decide +kernel
theorem dX8_init_49 : decode cX8_init 49 = .ok (.new 29, 3) := by decide +kernel
theorem dX8_init_52 : decode cX8_init 52 = .ok (.dup, 1) := by decide +kernel
theorem dX8_init_53 : decode cX8_init 53 = .ok (.invokespecial 31, 3) := by decide +kernel
theorem dX8_init_56 : decode cX8_init 56 = .ok (.putfield 32, 3) := by decide +kernel
theorem dX8_init_59 : decode cX8_init 59 = .ok (.aload_n 0, 1) := by decide +kernel
theorem dX8_init_60 : decode cX8_init 60 = .ok (.new 36, 3) := by decide +kernel
theorem dX8_init_63 : decode cX8_init 63 = .ok (.dup, 1) := by decide +kernel
theorem dX8_init_64 : decode cX8_init 64 = .ok (.invokespecial 38, 3) := by decide +kernel
theorem dX8_init_67 : decode cX8_init 67 = .ok (.putfield 39, 3) := by decide +kernel
theorem dX8_init_70 : decode cX8_init 70 = .ok (.aload_n 0, 1) := by decide +kernel
theorem dX8_init_71 : decode cX8_init 71 = .ok (.new 43, 3) := by decide +kernel
theorem dX8_init_74 : decode cX8_init 74 = .ok (.dup, 1) := by decide +kernel
theorem dX8_init_75 : decode cX8_init 75 = .ok (.invokespecial 45, 3) := by decide +kernel
theorem dX8_init_78 : decode cX8_init 78 = .ok (.putfield 46, 3) := by decide +kernel
theorem dX8_init_81 : decode cX8_init 81 = .ok (.aload_n 0, 1) := by decide +kernel
theorem dX8_init_82 : decode cX8_init 82 = .ok (.new 50, 3) := by decide +kernel
theorem dX8_init_85 : decode cX8_init 85 = .ok (.dup, 1) := by decide +kernel
theorem dX8_init_86 : decode cX8_init 86 = .ok (.invokespecial 52, 3) := by decide +kernel
theorem dX8_init_89 : decode cX8_init 89 = .ok (.putfield 53, 3) := by decide +kernel
theorem dX8_init_92 : decode cX8_init 92 = .ok (.aload_n 0, 1) := by decide +kernel
theorem dX8_init_93 : decode cX8_init 93 = .ok (.new 57, 3) := by decide +kernel
theorem dX8_init_96 : decode cX8_init 96 = .ok (.dup, 1) := by decide +kernel
theorem dX8_init_97 : decode cX8_init 97 = .ok (.invokespecial 59, 3) := by decide +kernel
theorem dX8_init_100 : decode cX8_init 100 = .ok (.putfield 60, 3) := by decide +kernel
theorem dX8_init_103 : decode cX8_init 103 = .ok (.aload_n 0, 1) := by decide +kernel
theorem dX8_init_104 : decode cX8_init 104 = .ok (.new 64, 3) := by decide +kernel
theorem dX8_init_107 : decode cX8_init 107 = .ok (.dup, 1) := by decide +kernel
theorem dX8_init_108 : decode cX8_init 108 = .ok (.invokespecial 66, 3) := by decide +kernel
theorem dX8_init_111 : decode cX8_init 111 = .ok (.putfield 67, 3) := by decide +kernel
theorem dX8_init_114 : decode cX8_init 114 = .ok (.return_, 1) := by decide +kernel
theorem dX8_put_0 : decode cX8_put 0 = .ok (.iload_n 1, 1) := by decide +kernel
theorem dX8_put_1 : decode cX8_put 1 = .ok (.invokestatic 71, 3) := by decide +kernel
theorem dX8_put_4 : decode cX8_put 4 = .ok (.ifCond .ne 6, 3) := by decide +kernel
theorem dX8_put_7 : decode cX8_put 7 = .ok (.bipush (-12), 2) := by decide +kernel
theorem dX8_put_9 : decode cX8_put 9 = .ok (.ireturn, 1) := by decide +kernel
theorem dX8_put_10 : decode cX8_put 10 = .ok (.aload_n 0, 1) := by decide +kernel
theorem dX8_put_11 : decode cX8_put 11 = .ok (.getfield 10, 3) := by decide +kernel
theorem dX8_put_14 : decode cX8_put 14 = .ok (.invokevirtual 75, 3) := by decide +kernel
theorem dX8_put_17 : decode cX8_put 17 = .ok (.ifCond .eq 11, 3) := by decide +kernel
theorem dX8_put_20 : decode cX8_put 20 = .ok (.aload_n 0, 1) := by decide +kernel
theorem dX8_put_21 : decode cX8_put 21 = .ok (.iconst 1, 1) := by decide +kernel
theorem dX8_put_22 : decode cX8_put 22 = .ok (.bipush 64, 2) := by decide +kernel
theorem dX8_put_24 : decode cX8_put 24 = .ok (.invokevirtual 79, 3) := by decide +kernel
theorem dX8_put_27 : decode cX8_put 27 = .ok (.ireturn, 1) := by decide +kernel
theorem dX8_put_28 : decode cX8_put 28 = .ok (.aload_n 0, 1) := by decide +kernel
theorem dX8_put_29 : decode cX8_put 29 = .ok (.getfield 25, 3) := by decide +kernel
theorem dX8_put_32 : decode cX8_put 32 = .ok (.aload_n 0, 1) := by decide +kernel
theorem dX8_put_33 : decode cX8_put 33 = .ok (.getfield 10, 3) := by decide +kernel
theorem dX8_put_36 : decode cX8_put 36 = .ok (.invokevirtual 83, 3) := by decide +kernel
theorem dX8_put_39 : decode cX8_put 39 = .ok (.aload_n 0, 1) := by decide +kernel
theorem dX8_put_40 : decode cX8_put 40 = .ok (.getfield 10, 3) := by decide +kernel
theorem dX8_put_43 : decode cX8_put 43 = .ok (.aload_n 0, 1) := by decide +kernel
theorem dX8_put_44 : decode cX8_put 44 = .ok (.getfield 10, 3) := by decide +kernel
theorem dX8_put_47 : decode cX8_put 47 = .ok (.invokevirtual 87, 3) := by decide +kernel
theorem dX8_put_50 : decode cX8_put 50 = .ok (.iload_n 1, 1) := by decide +kernel
theorem dX8_put_51 : decode cX8_put 51 = .ok (.invokevirtual 91, 3) := by decide +kernel
theorem dX8_put_54 : decode cX8_put 54 = .ok (.pop, 1) := by decide +kernel
theorem dX8_put_55 : decode cX8_put 55 = .ok (.aload_n 0, 1) := by decide +kernel
theorem dX8_put_56 : decode cX8_put 56 = .ok (.invokevirtual 95, 3) := by decide +kernel
theorem dX8_put_59 : decode cX8_put 59 = .ok (.aload_n 0, 1) := by decide +kernel
theorem dX8_put_60 : decode cX8_put 60 = .ok (.getfield 10, 3) := by decide +kernel
theorem dX8_put_63 : decode cX8_put 63 = .ok (.invokevirtual 87, 3) := by decide +kernel
theorem dX8_put_66 : decode cX8_put 66 = .ok (.iconst 1, 1) := by decide +kernel
theorem dX8_put_67 : decode cX8_put 67 = .ok (.isub, 1) := by decide +kernel
theorem dX8_put_68 : decode cX8_put 68 = .ok (.ireturn, 1) := by decide +kernel
theorem dX8_insert_0 : decode cX8_insert 0 = .ok (.iload_n 1, 1) := by decide +kernel
theorem dX8_insert_1 : decode cX8_insert 1 = .ok (.ifCond .lt 14, 3) := by decide +kernel
theorem dX8_insert_4 : decode cX8_insert 4 = .ok (.iload_n 1, 1) := by decide +kernel
theorem dX8_insert_5 : decode cX8_insert 5 = .ok (.aload_n 0, 1) := by decide +kernel
theorem dX8_insert_6 : decode cX8_insert 6 = .ok (.getfield 10, 3) := by decide +kernel
theorem dX8_insert_9 : decode cX8_insert 9 = .ok (.invokevirtual 87, 3) := by decide +kernel
theorem dX8_insert_12 : decode cX8_insert 12 = .ok (.if_icmp .le 6, 3) := by decide +kernel
theorem dX8_insert_15 : decode cX8_insert 15 = .ok (.bipush (-11), 2) := by decide +kernel
theorem dX8_insert_17 : decode cX8_insert 17 = .ok (.ireturn, 1) := by decide +kernel
theorem dX8_insert_18 : decode cX8_insert 18 = .ok (.iload_n 2, 1) := by decide +kernel
theorem dX8_insert_19 : decode cX8_insert 19 = .ok (.invokestatic 71, 3) := by decide +kernel
theorem dX8_insert_22 : decode cX8_insert 22 = .ok (.ifCond .ne 6, 3) := by decide +kernel
theorem dX8_insert_25 : decode cX8_insert 25 = .ok (.bipush (-12), 2) := by decide +kernel
theorem dX8_insert_27 : decode cX8_insert 27 = .ok (.ireturn, 1) := by decide +kernel
theorem dX8_insert_28 : decode cX8_insert 28 = .ok (.aload_n 0, 1) := by decide +kernel
theorem dX8_insert_29 : decode cX8_insert 29 = .ok (.getfield 10, 3) := by decide +kernel
theorem dX8_insert_32 : decode cX8_insert 32 = .ok (.invokevirtual 75, 3) := by decide +kernel
theorem dX8_insert_35 : decode cX8_insert 35 = .ok (.ifCond .eq 11, 3) := by decide +kernel
theorem dX8_insert_38 : decode cX8_insert 38 = .ok (.aload_n 0, 1) := by decide +kernel
theorem dX8_insert_39 : decode cX8_insert 39 = .ok (.iconst 1, 1) := by decide +kernel
theorem dX8_insert_40 : decode cX8_insert 40 = .ok (.bipush 64, 2) := by decide +kernel
theorem dX8_insert_42 : decode cX8_insert 42 = .ok (.invokevirtual 79, 3) := by decide +kernel
theorem dX8_insert_45 : decode cX8_insert 45 = .ok (.ireturn, 1) := by decide +kernel
theorem dX8_insert_46 : decode cX8_insert 46 = .ok (.aload_n 0, 1) := by decide +kernel
theorem dX8_insert_47 : decode cX8_insert 47 = .ok (.getfield 25, 3) := by decide +kernel
theorem dX8_insert_50 : decode cX8_insert 50 = .ok (.aload_n 0, 1) := by decide +kernel
theorem dX8_insert_51 : decode cX8_insert 51 = .ok (.getfield 10, 3) := by decide +kernel
theorem dX8_insert_54 : decode cX8_insert 54 = .ok (.invokevirtual 83, 3) := by decide +kernel
theorem dX8_insert_57 : decode cX8_insert 57 = .ok (.aload_n 0, 1) := by decide +kernel
theorem dX8_insert_58 : decode cX8_insert 58 = .ok (.getfield 10, 3) := by decide +kernel
theorem dX8_insert_61 : decode cX8_insert 61 = .ok (.iload_n 1, 1) := by decide +kernel
theorem dX8_insert_62 : decode cX8_insert 62 = .ok (.iload_n 2, 1) := by decide +kernel
theorem dX8_insert_63 : decode cX8_insert 63 = .ok (.invokevirtual 91, 3) := by decide +kernel
theorem dX8_insert_66 : decode cX8_insert 66 = .ok (.pop, 1) := by decide +kernel
theorem dX8_insert_67 : decode cX8_insert 67 = .ok (.aload_n 0, 1) := by decide +kernel
theorem dX8_insert_68 : decode cX8_insert 68 = .ok (.invokevirtual 95, 3) := by decide +kernel
theorem dX8_insert_71 : decode cX8_insert 71 = .ok (.aload_n 0, 1) := by decide +kernel
