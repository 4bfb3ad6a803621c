def RX0 : String := "PotatoStamps$Bits"
def TX0 : u_T := fun k => match k with
  | _ => ("", "", "", false)
def tyX0 : Nat → FieldType := fun k => match k with
  | _ => .int
theorem nmX0 : ∀ a, a < 0 → ∀ b, b < 0 → a ≠ b → (TX0 a).2.1 ≠ (TX0 b).2.1 := by decide +kernel
theorem tyX0_ok : ∀ k, k < 0 → parseFieldDescriptor (TX0 k).2.2.1 = some (tyX0 k) := by decide +kernel
abbrev cX0_ofFloat : ByteArray := prog_2_method_2_code
def yX0_ofFloat : MethodName := ⟨RX0, "ofFloat", "(F)I"⟩
def RX1 : String := "PotatoStamps$Clerk"
def TX1 : u_T := fun k => match k with
  | 0 => ("PotatoStamps$Clerk", "office", "LPotatoStamps$Office;", true)
  | 1 => ("PotatoStamps$Clerk", "reason", "I", false)
  | _ => ("PotatoStamps$Clerk", "detail", "I", false)
def tyX1 : Nat → FieldType := fun k => match k with
  | 0 => .object "PotatoStamps$Office"
  | 1 => .int
  | _ => .int
theorem nmX1 : ∀ a, a < 3 → ∀ b, b < 3 → a ≠ b → (TX1 a).2.1 ≠ (TX1 b).2.1 := by decide +kernel
theorem tyX1_ok : ∀ k, k < 3 → parseFieldDescriptor (TX1 k).2.2.1 = some (tyX1 k) := by decide +kernel
abbrev cX1_init : ByteArray := prog_3_method_1_code
def yX1_init : MethodName := ⟨RX1, "<init>", "()V"⟩
abbrev cX1_refuse : ByteArray := prog_3_method_2_code
def yX1_refuse : MethodName := ⟨RX1, "refuse", "(II)I"⟩
abbrev cX1_mayAddCrayon : ByteArray := prog_3_method_3_code
def yX1_mayAddCrayon : MethodName := ⟨RX1, "mayAddCrayon", "(I)I"⟩
abbrev cX1_mayCut : ByteArray := prog_3_method_4_code
def yX1_mayCut : MethodName := ⟨RX1, "mayCut", "()I"⟩
abbrev cX1_mayMake : ByteArray := prog_3_method_5_code
def yX1_mayMake : MethodName := ⟨RX1, "mayMake", "(II)I"⟩
abbrev cX1_mayWrite : ByteArray := prog_3_method_6_code
def yX1_mayWrite : MethodName := ⟨RX1, "mayWrite", "(IIII)I"⟩
abbrev cX1_mayWrap : ByteArray := prog_3_method_7_code
def yX1_mayWrap : MethodName := ⟨RX1, "mayWrap", "(IIIII)I"⟩
abbrev cX1_mayStamp : ByteArray := prog_3_method_8_code
def yX1_mayStamp : MethodName := ⟨RX1, "mayStamp", "(II)I"⟩
abbrev cX1_mayShelve : ByteArray := prog_3_method_9_code
def yX1_mayShelve : MethodName := ⟨RX1, "mayShelve", "(II)I"⟩
abbrev cX1_mayTake : ByteArray := prog_3_method_10_code
def yX1_mayTake : MethodName := ⟨RX1, "mayTake", "(I)I"⟩
abbrev cX1_mayFeed : ByteArray := prog_3_method_11_code
def yX1_mayFeed : MethodName := ⟨RX1, "mayFeed", "(I)I"⟩
abbrev cX1_mayPass : ByteArray := prog_3_method_12_code
def yX1_mayPass : MethodName := ⟨RX1, "mayPass", "(I)I"⟩
def RX2 : String := "PotatoStamps$Desk"
def TX2 : u_T := fun k => match k with
  | 0 => ("PotatoStamps$Desk", "crayons", "[F", true)
  | 1 => ("PotatoStamps$Desk", "potatoes", "[F", true)
  | 2 => ("PotatoStamps$Desk", "crayonCount", "I", false)
  | 3 => ("PotatoStamps$Desk", "potatoCount", "I", false)
  | 4 => ("PotatoStamps$Desk", "metres", "F", false)
  | _ => ("PotatoStamps$Desk", "inkLeft", "F", false)
def tyX2 : Nat → FieldType := fun k => match k with
  | 0 => .array .float
  | 1 => .array .float
  | 2 => .int
  | 3 => .int
  | 4 => .float
  | _ => .float
theorem nmX2 : ∀ a, a < 6 → ∀ b, b < 6 → a ≠ b → (TX2 a).2.1 ≠ (TX2 b).2.1 := by decide +kernel
theorem tyX2_ok : ∀ k, k < 6 → parseFieldDescriptor (TX2 k).2.2.1 = some (tyX2 k) := by decide +kernel
abbrev cX2_init : ByteArray := prog_4_method_1_code
def yX2_init : MethodName := ⟨RX2, "<init>", "()V"⟩
abbrev cX2_copyFrom : ByteArray := prog_4_method_2_code
def yX2_copyFrom : MethodName := ⟨RX2, "copyFrom", "(LPotatoStamps$Desk;)V"⟩
abbrev cX2_hasCrayon : ByteArray := prog_4_method_3_code
def yX2_hasCrayon : MethodName := ⟨RX2, "hasCrayon", "(I)Z"⟩
abbrev cX2_hasPotato : ByteArray := prog_4_method_4_code
def yX2_hasPotato : MethodName := ⟨RX2, "hasPotato", "(I)Z"⟩
abbrev cX2_addCrayon : ByteArray := prog_4_method_5_code
def yX2_addCrayon : MethodName := ⟨RX2, "addCrayon", "(F)I"⟩
abbrev cX2_addPotato : ByteArray := prog_4_method_6_code
def yX2_addPotato : MethodName := ⟨RX2, "addPotato", "()I"⟩
abbrev cX2_addString : ByteArray := prog_4_method_7_code
def yX2_addString : MethodName := ⟨RX2, "addString", "(F)V"⟩
abbrev cX2_addInk : ByteArray := prog_4_method_8_code
def yX2_addInk : MethodName := ⟨RX2, "addInk", "(F)V"⟩
abbrev cX2_printNow : ByteArray := prog_4_method_9_code
def yX2_printNow : MethodName := ⟨RX2, "printNow", "(I)F"⟩
def RX3 : String := "PotatoStamps$Dragon"
def TX3 : u_T := fun k => match k with
  | 0 => ("PotatoStamps$Dragon", "appetite", "F", false)
  | 1 => ("PotatoStamps$Dragon", "snacksLeft", "I", false)
  | 2 => ("PotatoStamps$Dragon", "snacksEaten", "I", false)
  | _ => ("PotatoStamps$Dragon", "hour", "I", false)
def tyX3 : Nat → FieldType := fun k => match k with
  | 0 => .float
  | 1 => .int
  | 2 => .int
  | _ => .int
theorem nmX3 : ∀ a, a < 4 → ∀ b, b < 4 → a ≠ b → (TX3 a).2.1 ≠ (TX3 b).2.1 := by decide +kernel
theorem tyX3_ok : ∀ k, k < 4 → parseFieldDescriptor (TX3 k).2.2.1 = some (tyX3 k) := by decide +kernel
abbrev cX3_init : ByteArray := prog_5_method_1_code
def yX3_init : MethodName := ⟨RX3, "<init>", "()V"⟩
abbrev cX3_copyFrom : ByteArray := prog_5_method_2_code
def yX3_copyFrom : MethodName := ⟨RX3, "copyFrom", "(LPotatoStamps$Dragon;)V"⟩
abbrev cX3_addSnacks : ByteArray := prog_5_method_3_code
def yX3_addSnacks : MethodName := ⟨RX3, "addSnacks", "(I)V"⟩
abbrev cX3_eatSnacks : ByteArray := prog_5_method_4_code
def yX3_eatSnacks : MethodName := ⟨RX3, "eatSnacks", "(I)V"⟩
def RX4 : String := "PotatoStamps$History"
def TX4 : u_T := fun k => match k with
  | 0 => ("PotatoStamps$History", "past", "[LPotatoStamps$Office;", true)
  | 1 => ("PotatoStamps$History", "next", "I", false)
  | _ => ("PotatoStamps$History", "count", "I", false)
def tyX4 : Nat → FieldType := fun k => match k with
  | 0 => .array (.object "PotatoStamps$Office")
  | 1 => .int
  | _ => .int
theorem nmX4 : ∀ a, a < 3 → ∀ b, b < 3 → a ≠ b → (TX4 a).2.1 ≠ (TX4 b).2.1 := by decide +kernel
theorem tyX4_ok : ∀ k, k < 3 → parseFieldDescriptor (TX4 k).2.2.1 = some (tyX4 k) := by decide +kernel
abbrev cX4_init : ByteArray := prog_6_method_1_code
def yX4_init : MethodName := ⟨RX4, "<init>", "()V"⟩
abbrev cX4_remember : ByteArray := prog_6_method_2_code
def yX4_remember : MethodName := ⟨RX4, "remember", "(LPotatoStamps$Office;)V"⟩
abbrev cX4_bringBack : ByteArray := prog_6_method_3_code
def yX4_bringBack : MethodName := ⟨RX4, "bringBack", "(LPotatoStamps$Office;)V"⟩
abbrev cX4_forget : ByteArray := prog_6_method_4_code
def yX4_forget : MethodName := ⟨RX4, "forget", "()V"⟩
def RX5 : String := "PotatoStamps$Items"
def TX5 : u_T := fun k => match k with
  | 0 => ("PotatoStamps$Items", "kinds", "[I", true)
  | 1 => ("PotatoStamps$Items", "senders", "[I", true)
  | 2 => ("PotatoStamps$Items", "receivers", "[I", true)
  | 3 => ("PotatoStamps$Items", "sizes", "[I", true)
  | 4 => ("PotatoStamps$Items", "states", "[I", true)
  | 5 => ("PotatoStamps$Items", "holes", "[I", true)
  | 6 => ("PotatoStamps$Items", "stampers", "[I", true)
  | 7 => ("PotatoStamps$Items", "readings", "[F", true)
  | _ => ("PotatoStamps$Items", "count", "I", false)
def tyX5 : Nat → FieldType := fun k => match k with
  | 0 => .array .int
  | 1 => .array .int
  | 2 => .array .int
  | 3 => .array .int
  | 4 => .array .int
  | 5 => .array .int
  | 6 => .array .int
  | 7 => .array .float
  | _ => .int
theorem nmX5 : ∀ a, a < 9 → ∀ b, b < 9 → a ≠ b → (TX5 a).2.1 ≠ (TX5 b).2.1 := by decide +kernel
theorem tyX5_ok : ∀ k, k < 9 → parseFieldDescriptor (TX5 k).2.2.1 = some (tyX5 k) := by decide +kernel
abbrev cX5_init : ByteArray := prog_7_method_1_code
def yX5_init : MethodName := ⟨RX5, "<init>", "()V"⟩
abbrev cX5_copyFrom : ByteArray := prog_7_method_2_code
def yX5_copyFrom : MethodName := ⟨RX5, "copyFrom", "(LPotatoStamps$Items;)V"⟩
abbrev cX5_has : ByteArray := prog_7_method_3_code
def yX5_has : MethodName := ⟨RX5, "has", "(I)Z"⟩
abbrev cX5_add : ByteArray := prog_7_method_4_code
def yX5_add : MethodName := ⟨RX5, "add", "(IIII)I"⟩
abbrev cX5_numberOf : ByteArray := prog_7_method_5_code
def yX5_numberOf : MethodName := ⟨RX5, "numberOf", "(II)I"⟩
abbrev cX5_leaveShelf : ByteArray := prog_7_method_6_code
def yX5_leaveShelf : MethodName := ⟨RX5, "leaveShelf", "(II)V"⟩
abbrev cX5_letters : ByteArray := prog_7_method_7_code
def yX5_letters : MethodName := ⟨RX5, "letters", "()I"⟩
abbrev cX5_inState : ByteArray := prog_7_method_8_code
def yX5_inState : MethodName := ⟨RX5, "inState", "(I)I"⟩
abbrev cX5_allWords : ByteArray := prog_7_method_9_code
def yX5_allWords : MethodName := ⟨RX5, "allWords", "()I"⟩
abbrev cX5_takenLettersTo : ByteArray := prog_7_method_11_code
def yX5_takenLettersTo : MethodName := ⟨RX5, "takenLettersTo", "(I)I"⟩
abbrev cX5_worstOnShelf : ByteArray := prog_7_method_12_code
def yX5_worstOnShelf : MethodName := ⟨RX5, "worstOnShelf", "()I"⟩
abbrev cX5_letterAt : ByteArray := prog_7_method_13_code
def yX5_letterAt : MethodName := ⟨RX5, "letterAt", "(I)I"⟩
abbrev cX5_lettersAhead : ByteArray := prog_7_method_14_code
def yX5_lettersAhead : MethodName := ⟨RX5, "lettersAhead", "(I)I"⟩
abbrev cX5_isAhead : ByteArray := prog_7_method_15_code
def yX5_isAhead : MethodName := ⟨RX5, "isAhead", "(II)Z"⟩
def RX6 : String := "PotatoStamps$Office"
def TX6 : u_T := fun k => match k with
  | 0 => ("PotatoStamps$Office", "desk", "LPotatoStamps$Desk;", true)
  | 1 => ("PotatoStamps$Office", "items", "LPotatoStamps$Items;", true)
  | 2 => ("PotatoStamps$Office", "shelves", "LPotatoStamps$Shelves;", true)
  | _ => ("PotatoStamps$Office", "dragon", "LPotatoStamps$Dragon;", true)
def tyX6 : Nat → FieldType := fun k => match k with
  | 0 => .object "PotatoStamps$Desk"
  | 1 => .object "PotatoStamps$Items"
  | 2 => .object "PotatoStamps$Shelves"
  | _ => .object "PotatoStamps$Dragon"
theorem nmX6 : ∀ a, a < 4 → ∀ b, b < 4 → a ≠ b → (TX6 a).2.1 ≠ (TX6 b).2.1 := by decide +kernel
theorem tyX6_ok : ∀ k, k < 4 → parseFieldDescriptor (TX6 k).2.2.1 = some (tyX6 k) := by decide +kernel
abbrev cX6_init : ByteArray := prog_8_method_1_code
def yX6_init : MethodName := ⟨RX6, "<init>", "()V"⟩
abbrev cX6_copyFrom : ByteArray := prog_8_method_2_code
def yX6_copyFrom : MethodName := ⟨RX6, "copyFrom", "(LPotatoStamps$Office;)V"⟩
abbrev cX6_writeLetter : ByteArray := prog_8_method_3_code
def yX6_writeLetter : MethodName := ⟨RX6, "writeLetter", "(IIII)I"⟩
abbrev cX6_wrapParcel : ByteArray := prog_8_method_4_code
def yX6_wrapParcel : MethodName := ⟨RX6, "wrapParcel", "(IIIII)I"⟩
abbrev cX6_stampItem : ByteArray := prog_8_method_5_code
def yX6_stampItem : MethodName := ⟨RX6, "stampItem", "(II)F"⟩
abbrev cX6_shelveItem : ByteArray := prog_8_method_6_code
def yX6_shelveItem : MethodName := ⟨RX6, "shelveItem", "(II)I"⟩
abbrev cX6_takeAll : ByteArray := prog_8_method_7_code
def yX6_takeAll : MethodName := ⟨RX6, "takeAll", "(I)I"⟩
abbrev cX6_takeFrom : ByteArray := prog_8_method_8_code
def yX6_takeFrom : MethodName := ⟨RX6, "takeFrom", "(III)Z"⟩
abbrev cX6_passHours : ByteArray := prog_8_method_9_code
def yX6_passHours : MethodName := ⟨RX6, "passHours", "(I)I"⟩
abbrev cX6_eatLetter : ByteArray := prog_8_method_10_code
def yX6_eatLetter : MethodName := ⟨RX6, "eatLetter", "()Z"⟩
abbrev cX6_areItemsWell : ByteArray := prog_8_method_11_code
def yX6_areItemsWell : MethodName := ⟨RX6, "areItemsWell", "()Z"⟩
abbrev cX6_isInItsHole : ByteArray := prog_8_method_12_code
def yX6_isInItsHole : MethodName := ⟨RX6, "isInItsHole", "(I)Z"⟩
abbrev cX6_areHolesWell : ByteArray := prog_8_method_13_code
def yX6_areHolesWell : MethodName := ⟨RX6, "areHolesWell", "()Z"⟩
abbrev cX6_areReadersWell : ByteArray := prog_8_method_14_code
def yX6_areReadersWell : MethodName := ⟨RX6, "areReadersWell", "()Z"⟩
def RX7 : String := "PotatoStamps$OrderText"
def TX7 : u_T := fun k => match k with
  | 0 => ("PotatoStamps$OrderText", "signs", "[C", true)
  | 1 => ("PotatoStamps$OrderText", "kinds", "[I", true)
  | 2 => ("PotatoStamps$OrderText", "numbers", "[I", true)
  | 3 => ("PotatoStamps$OrderText", "length", "I", false)
  | 4 => ("PotatoStamps$OrderText", "orders", "I", false)
  | 5 => ("PotatoStamps$OrderText", "errorAt", "I", false)
  | 6 => ("PotatoStamps$OrderText", "at", "I", false)
  | _ => ("PotatoStamps$OrderText", "numbersFound", "I", false)
def tyX7 : Nat → FieldType := fun k => match k with
  | 0 => .array .char
  | 1 => .array .int
  | 2 => .array .int
  | 3 => .int
  | 4 => .int
  | 5 => .int
  | 6 => .int
  | _ => .int
theorem nmX7 : ∀ a, a < 8 → ∀ b, b < 8 → a ≠ b → (TX7 a).2.1 ≠ (TX7 b).2.1 := by decide +kernel
theorem tyX7_ok : ∀ k, k < 8 → parseFieldDescriptor (TX7 k).2.2.1 = some (tyX7 k) := by decide +kernel
abbrev cX7_init : ByteArray := prog_9_method_1_code
def yX7_init : MethodName := ⟨RX7, "<init>", "()V"⟩
abbrev cX7_add : ByteArray := prog_9_method_2_code
def yX7_add : MethodName := ⟨RX7, "add", "(C)V"⟩
abbrev cX7_numberOf : ByteArray := prog_9_method_3_code
def yX7_numberOf : MethodName := ⟨RX7, "numberOf", "(II)I"⟩
abbrev cX7_scan : ByteArray := prog_9_method_4_code
def yX7_scan : MethodName := ⟨RX7, "scan", "()V"⟩
abbrev cX7_scanOrders : ByteArray := prog_9_method_5_code
def yX7_scanOrders : MethodName := ⟨RX7, "scanOrders", "()Z"⟩
abbrev cX7_scanOrder : ByteArray := prog_9_method_6_code
def yX7_scanOrder : MethodName := ⟨RX7, "scanOrder", "()Z"⟩
abbrev cX7_kindOf : ByteArray := prog_9_method_7_code
def yX7_kindOf : MethodName := ⟨RX7, "kindOf", "(C)I"⟩
abbrev cX7_partsOf : ByteArray := prog_9_method_8_code
def yX7_partsOf : MethodName := ⟨RX7, "partsOf", "(I)Ljava/lang/String;"⟩
abbrev cX7_scanPart : ByteArray := prog_9_method_9_code
def yX7_scanPart : MethodName := ⟨RX7, "scanPart", "(C)Z"⟩
abbrev cX7_scanSign : ByteArray := prog_9_method_10_code
def yX7_scanSign : MethodName := ⟨RX7, "scanSign", "(C)Z"⟩
abbrev cX7_scanNumber : ByteArray := prog_9_method_11_code
def yX7_scanNumber : MethodName := ⟨RX7, "scanNumber", "(I)Z"⟩
abbrev cX7_isDigitNext : ByteArray := prog_9_method_12_code
def yX7_isDigitNext : MethodName := ⟨RX7, "isDigitNext", "()Z"⟩
def RX8 : String := "PotatoStamps$Shelves"
def TX8 : u_T := fun k => match k with
  | 0 => ("PotatoStamps$Shelves", "contents", "[I", true)
  | _ => ("PotatoStamps$Shelves", "lettersRead", "[I", true)
def tyX8 : Nat → FieldType := fun k => match k with
  | 0 => .array .int
  | _ => .array .int
theorem nmX8 : ∀ a, a < 2 → ∀ b, b < 2 → a ≠ b → (TX8 a).2.1 ≠ (TX8 b).2.1 := by decide +kernel
theorem tyX8_ok : ∀ k, k < 2 → parseFieldDescriptor (TX8 k).2.2.1 = some (tyX8 k) := by decide +kernel
abbrev cX8_init : ByteArray := prog_10_method_1_code
def yX8_init : MethodName := ⟨RX8, "<init>", "()V"⟩
abbrev cX8_copyFrom : ByteArray := prog_10_method_2_code
def yX8_copyFrom : MethodName := ⟨RX8, "copyFrom", "(LPotatoStamps$Shelves;)V"⟩
abbrev cX8_holesIn : ByteArray := prog_10_method_3_code
def yX8_holesIn : MethodName := ⟨RX8, "holesIn", "(I)I"⟩
abbrev cX8_isHole : ByteArray := prog_10_method_4_code
def yX8_isHole : MethodName := ⟨RX8, "isHole", "(III)Z"⟩
abbrev cX8_placeOf : ByteArray := prog_10_method_5_code
def yX8_placeOf : MethodName := ⟨RX8, "placeOf", "(III)I"⟩
abbrev cX8_itemAt : ByteArray := prog_10_method_6_code
def yX8_itemAt : MethodName := ⟨RX8, "itemAt", "(III)I"⟩
abbrev cX8_put : ByteArray := prog_10_method_7_code
def yX8_put : MethodName := ⟨RX8, "put", "(IIII)V"⟩
abbrev cX8_lowestFree : ByteArray := prog_10_method_8_code
def yX8_lowestFree : MethodName := ⟨RX8, "lowestFree", "(II)I"⟩
abbrev cX8_isBare : ByteArray := prog_10_method_9_code
def yX8_isBare : MethodName := ⟨RX8, "isBare", "(I)Z"⟩
def RX9 : String := "PotatoStamps"
def TX9 : u_T := fun k => match k with
  | 0 => ("PotatoStamps", "clerk", "LPotatoStamps$Clerk;", true)
  | 1 => ("PotatoStamps", "now", "LPotatoStamps$Office;", true)
  | 2 => ("PotatoStamps", "draft", "LPotatoStamps$Office;", true)
  | 3 => ("PotatoStamps", "snapshot", "LPotatoStamps$Office;", true)
  | 4 => ("PotatoStamps", "history", "LPotatoStamps$History;", true)
  | 5 => ("PotatoStamps", "input", "LPotatoStamps$OrderText;", true)
  | 6 => ("PotatoStamps", "lengths", "[F", true)
  | _ => ("PotatoStamps", "isSaved", "Z", false)
def tyX9 : Nat → FieldType := fun k => match k with
  | 0 => .object "PotatoStamps$Clerk"
  | 1 => .object "PotatoStamps$Office"
  | 2 => .object "PotatoStamps$Office"
  | 3 => .object "PotatoStamps$Office"
  | 4 => .object "PotatoStamps$History"
  | 5 => .object "PotatoStamps$OrderText"
  | 6 => .array .float
  | _ => .boolean
theorem nmX9 : ∀ a, a < 8 → ∀ b, b < 8 → a ≠ b → (TX9 a).2.1 ≠ (TX9 b).2.1 := by decide +kernel
theorem tyX9_ok : ∀ k, k < 8 → parseFieldDescriptor (TX9 k).2.2.1 = some (tyX9 k) := by decide +kernel
abbrev cX9_init : ByteArray := prog_1_method_1_code
def yX9_init : MethodName := ⟨RX9, "<init>", "()V"⟩
abbrev cX9_crayon : ByteArray := prog_1_method_2_code
def yX9_crayon : MethodName := ⟨RX9, "crayon", "(I)I"⟩
abbrev cX9_crayonOf : ByteArray := prog_1_method_3_code
def yX9_crayonOf : MethodName := ⟨RX9, "crayonOf", "(I)F"⟩
abbrev cX9_letter : ByteArray := prog_1_method_4_code
def yX9_letter : MethodName := ⟨RX9, "letter", "(IIII)I"⟩
abbrev cX9_parcel : ByteArray := prog_1_method_5_code
def yX9_parcel : MethodName := ⟨RX9, "parcel", "(IIIII)I"⟩
abbrev cX9_itemOf : ByteArray := prog_1_method_6_code
def yX9_itemOf : MethodName := ⟨RX9, "itemOf", "(II)I"⟩
abbrev cX9_reads : ByteArray := prog_1_method_7_code
def yX9_reads : MethodName := ⟨RX9, "reads", "(I)I"⟩
abbrev cX9_string : ByteArray := prog_1_method_9_code
def yX9_string : MethodName := ⟨RX9, "string", "(I)I"⟩
abbrev cX9_lettersOf : ByteArray := prog_1_method_10_code
def yX9_lettersOf : MethodName := ⟨RX9, "lettersOf", "(II)I"⟩
abbrev cX9_lettersAgain : ByteArray := prog_1_method_11_code
def yX9_lettersAgain : MethodName := ⟨RX9, "lettersAgain", "(II)I"⟩
abbrev cX9_ranked : ByteArray := prog_1_method_12_code
def yX9_ranked : MethodName := ⟨RX9, "ranked", "(I)I"⟩
abbrev cX9_potato : ByteArray := prog_1_method_13_code
def yX9_potato : MethodName := ⟨RX9, "potato", "()I"⟩
abbrev cX9_firmness : ByteArray := prog_1_method_14_code
def yX9_firmness : MethodName := ⟨RX9, "firmness", "(I)F"⟩
abbrev cX9_ink : ByteArray := prog_1_method_18_code
def yX9_ink : MethodName := ⟨RX9, "ink", "(I)I"⟩
abbrev cX9_inkNow : ByteArray := prog_1_method_19_code
def yX9_inkNow : MethodName := ⟨RX9, "inkNow", "()F"⟩
abbrev cX9_stamp : ByteArray := prog_1_method_20_code
def yX9_stamp : MethodName := ⟨RX9, "stamp", "(II)I"⟩
abbrev cX9_shelve : ByteArray := prog_1_method_21_code
def yX9_shelve : MethodName := ⟨RX9, "shelve", "(II)I"⟩
abbrev cX9_take : ByteArray := prog_1_method_22_code
def yX9_take : MethodName := ⟨RX9, "take", "(I)I"⟩
abbrev cX9_inHole : ByteArray := prog_1_method_23_code
def yX9_inHole : MethodName := ⟨RX9, "inHole", "(III)I"⟩
abbrev cX9_read : ByteArray := prog_1_method_24_code
def yX9_read : MethodName := ⟨RX9, "read", "(I)I"⟩
abbrev cX9_snacks : ByteArray := prog_1_method_25_code
def yX9_snacks : MethodName := ⟨RX9, "snacks", "(I)I"⟩
abbrev cX9_feed : ByteArray := prog_1_method_26_code
def yX9_feed : MethodName := ⟨RX9, "feed", "(I)I"⟩
abbrev cX9_hunger : ByteArray := prog_1_method_27_code
def yX9_hunger : MethodName := ⟨RX9, "hunger", "()F"⟩
abbrev cX9_prey : ByteArray := prog_1_method_28_code
def yX9_prey : MethodName := ⟨RX9, "prey", "()I"⟩
abbrev cX9_eatsIn : ByteArray := prog_1_method_29_code
def yX9_eatsIn : MethodName := ⟨RX9, "eatsIn", "()I"⟩
abbrev cX9_pass : ByteArray := prog_1_method_30_code
def yX9_pass : MethodName := ⟨RX9, "pass", "(I)I"⟩
abbrev cX9_append : ByteArray := prog_1_method_32_code
def yX9_append : MethodName := ⟨RX9, "append", "(C)I"⟩
abbrev cX9_run : ByteArray := prog_1_method_33_code
def yX9_run : MethodName := ⟨RX9, "run", "()I"⟩
abbrev cX9_account : ByteArray := prog_1_method_36_code
def yX9_account : MethodName := ⟨RX9, "account", "(I)I"⟩
abbrev cX9_isWell : ByteArray := prog_1_method_37_code
def yX9_isWell : MethodName := ⟨RX9, "isWell", "()Z"⟩
abbrev cX9_undo : ByteArray := prog_1_method_39_code
def yX9_undo : MethodName := ⟨RX9, "undo", "()I"⟩
abbrev cX9_save : ByteArray := prog_1_method_40_code
def yX9_save : MethodName := ⟨RX9, "save", "()I"⟩
abbrev cX9_restore : ByteArray := prog_1_method_41_code
def yX9_restore : MethodName := ⟨RX9, "restore", "()I"⟩
abbrev cX9_demand : ByteArray := prog_1_method_42_code
def yX9_demand : MethodName := ⟨RX9, "demand", "(I)V"⟩
abbrev cX9_demandFound : ByteArray := prog_1_method_43_code
def yX9_demandFound : MethodName := ⟨RX9, "demandFound", "(Z)V"⟩
abbrev cX9_demandItem : ByteArray := prog_1_method_44_code
def yX9_demandItem : MethodName := ⟨RX9, "demandItem", "(I)V"⟩
abbrev cX9_demandPotato : ByteArray := prog_1_method_45_code
def yX9_demandPotato : MethodName := ⟨RX9, "demandPotato", "(I)V"⟩
abbrev cX9_demandWriting : ByteArray := prog_1_method_46_code
def yX9_demandWriting : MethodName := ⟨RX9, "demandWriting", "(II)V"⟩
abbrev cX9_carryOut : ByteArray := prog_1_method_47_code
def yX9_carryOut : MethodName := ⟨RX9, "carryOut", "(I)I"⟩
abbrev cX9_orderWriting : ByteArray := prog_1_method_48_code
def yX9_orderWriting : MethodName := ⟨RX9, "orderWriting", "(IIII)I"⟩
abbrev cX9_orderStamping : ByteArray := prog_1_method_49_code
def yX9_orderStamping : MethodName := ⟨RX9, "orderStamping", "(II)I"⟩
abbrev cX9_orderShelving : ByteArray := prog_1_method_50_code
def yX9_orderShelving : MethodName := ⟨RX9, "orderShelving", "(I)I"⟩
abbrev cX9_orderTaking : ByteArray := prog_1_method_51_code
def yX9_orderTaking : MethodName := ⟨RX9, "orderTaking", "(I)I"⟩
abbrev cX9_orderFeeding : ByteArray := prog_1_method_52_code
def yX9_orderFeeding : MethodName := ⟨RX9, "orderFeeding", "(I)I"⟩
abbrev cX9_orderPassing : ByteArray := prog_1_method_53_code
def yX9_orderPassing : MethodName := ⟨RX9, "orderPassing", "(I)I"⟩
abbrev cX9_inRange : ByteArray := prog_1_method_54_code
def yX9_inRange : MethodName := ⟨RX9, "inRange", "(III)Z"⟩
abbrev cX9_isChild : ByteArray := prog_1_method_55_code
def yX9_isChild : MethodName := ⟨RX9, "isChild", "(I)Z"⟩
abbrev cX9_areSides : ByteArray := prog_1_method_56_code
def yX9_areSides : MethodName := ⟨RX9, "areSides", "(III)Z"⟩
abbrev cX9_crayonNeeded : ByteArray := prog_1_method_57_code
def yX9_crayonNeeded : MethodName := ⟨RX9, "crayonNeeded", "(I)F"⟩
abbrev cX9_stringNeeded : ByteArray := prog_1_method_58_code
def yX9_stringNeeded : MethodName := ⟨RX9, "stringNeeded", "(III)F"⟩
abbrev cX9_printOf : ByteArray := prog_1_method_59_code
def yX9_printOf : MethodName := ⟨RX9, "printOf", "(FF)F"⟩
abbrev cX9_isStrong : ByteArray := prog_1_method_60_code
def yX9_isStrong : MethodName := ⟨RX9, "isStrong", "(F)Z"⟩
abbrev cX9_softer : ByteArray := prog_1_method_61_code
def yX9_softer : MethodName := ⟨RX9, "softer", "(F)F"⟩
abbrev cX9_drier : ByteArray := prog_1_method_62_code
def yX9_drier : MethodName := ⟨RX9, "drier", "(F)F"⟩
abbrev cX9_hungrier : ByteArray := prog_1_method_63_code
def yX9_hungrier : MethodName := ⟨RX9, "hungrier", "(F)F"⟩
abbrev cX9_isHungry : ByteArray := prog_1_method_64_code
def yX9_isHungry : MethodName := ⟨RX9, "isHungry", "(F)Z"⟩
def RX10 : String := "PotatoStampsModel"
def TX10 : u_T := fun k => match k with
  | _ => ("", "", "", false)
def tyX10 : Nat → FieldType := fun k => match k with
  | _ => .int
theorem nmX10 : ∀ a, a < 0 → ∀ b, b < 0 → a ≠ b → (TX10 a).2.1 ≠ (TX10 b).2.1 := by decide +kernel
theorem tyX10_ok : ∀ k, k < 0 → parseFieldDescriptor (TX10 k).2.2.1 = some (tyX10 k) := by decide +kernel
def RJx145de : String := "java/io/Serializable"
def TJx145de : u_T := fun k => match k with
  | _ => ("", "", "", false)
def tyJx145de : Nat → FieldType := fun k => match k with
  | _ => .int
theorem nmJx145de : ∀ a, a < 0 → ∀ b, b < 0 → a ≠ b → (TJx145de a).2.1 ≠ (TJx145de b).2.1 := by decide +kernel
theorem tyJx145de_ok : ∀ k, k < 0 → parseFieldDescriptor (TJx145de k).2.2.1 = some (tyJx145de k) := by decide +kernel
def RJx00060 : String := "java/lang/ArrayIndexOutOfBoundsException"
def TJx00060 : u_T := fun k => match k with
  | 0 => ("java/lang/Throwable", "backtrace", "Ljava/lang/Object;", false)
  | 1 => ("java/lang/Throwable", "detailMessage", "Ljava/lang/String;", false)
  | 2 => ("java/lang/Throwable", "cause", "Ljava/lang/Throwable;", false)
  | 3 => ("java/lang/Throwable", "stackTrace", "[Ljava/lang/StackTraceElement;", false)
  | 4 => ("java/lang/Throwable", "depth", "I", false)
  | _ => ("java/lang/Throwable", "suppressedExceptions", "Ljava/util/List;", false)
def tyJx00060 : Nat → FieldType := fun k => match k with
  | 0 => .object "java/lang/Object"
  | 1 => .object "java/lang/String"
  | 2 => .object "java/lang/Throwable"
  | 3 => .array (.object "java/lang/StackTraceElement")
  | 4 => .int
  | _ => .object "java/util/List"
theorem nmJx00060 : ∀ a, a < 6 → ∀ b, b < 6 → a ≠ b → (TJx00060 a).2.1 ≠ (TJx00060 b).2.1 := by decide +kernel
theorem tyJx00060_ok : ∀ k, k < 6 → parseFieldDescriptor (TJx00060 k).2.2.1 = some (tyJx00060 k) := by decide +kernel
abbrev cJx00060_init_a7421 : ByteArray := prog_14_method_2_code
def yJx00060_init_a7421 : MethodName := ⟨RJx00060, "<init>", "(Ljava/lang/String;)V"⟩
def RJx9f9b0 : String := "java/lang/CharSequence"
def TJx9f9b0 : u_T := fun k => match k with
  | _ => ("", "", "", false)
def tyJx9f9b0 : Nat → FieldType := fun k => match k with
  | _ => .int
theorem nmJx9f9b0 : ∀ a, a < 0 → ∀ b, b < 0 → a ≠ b → (TJx9f9b0 a).2.1 ≠ (TJx9f9b0 b).2.1 := by decide +kernel
theorem tyJx9f9b0_ok : ∀ k, k < 0 → parseFieldDescriptor (TJx9f9b0 k).2.2.1 = some (tyJx9f9b0 k) := by decide +kernel
def RJxb160c : String := "java/lang/Comparable"
def TJxb160c : u_T := fun k => match k with
  | _ => ("", "", "", false)
def tyJxb160c : Nat → FieldType := fun k => match k with
  | _ => .int
theorem nmJxb160c : ∀ a, a < 0 → ∀ b, b < 0 → a ≠ b → (TJxb160c a).2.1 ≠ (TJxb160c b).2.1 := by decide +kernel
theorem tyJxb160c_ok : ∀ k, k < 0 → parseFieldDescriptor (TJxb160c k).2.2.1 = some (tyJxb160c k) := by decide +kernel
def RJxf58ca : String := "java/lang/Float"
def TJxf58ca : u_T := fun k => match k with
  | _ => ("", "", "", false)
def tyJxf58ca : Nat → FieldType := fun k => match k with
  | _ => .int
theorem nmJxf58ca : ∀ a, a < 0 → ∀ b, b < 0 → a ≠ b → (TJxf58ca a).2.1 ≠ (TJxf58ca b).2.1 := by decide +kernel
theorem tyJxf58ca_ok : ∀ k, k < 0 → parseFieldDescriptor (TJxf58ca k).2.2.1 = some (tyJxf58ca k) := by decide +kernel
abbrev cJxf58ca_isNaN_12338 : ByteArray := prog_18_method_6_code
def yJxf58ca_isNaN_12338 : MethodName := ⟨RJxf58ca, "isNaN", "(F)Z"⟩
abbrev cJxf58ca_floatToIntBits_5c35a : ByteArray := prog_18_method_24_code
def yJxf58ca_floatToIntBits_5c35a : MethodName := ⟨RJxf58ca, "floatToIntBits", "(F)I"⟩
def RJ9 : String := "java/lang/Math"
def TJ9 : u_T := fun k => match k with
  | _ => ("", "", "", false)
def tyJ9 : Nat → FieldType := fun k => match k with
  | _ => .int
theorem nmJ9 : ∀ a, a < 0 → ∀ b, b < 0 → a ≠ b → (TJ9 a).2.1 ≠ (TJ9 b).2.1 := by decide +kernel
theorem tyJ9_ok : ∀ k, k < 0 → parseFieldDescriptor (TJ9 k).2.2.1 = some (tyJ9 k) := by decide +kernel
abbrev cJ9_min_7cf53 : ByteArray := prog_22_method_69_code
def yJ9_min_7cf53 : MethodName := ⟨RJ9, "min", "(II)I"⟩
abbrev cJ9_min_f86c9 : ByteArray := prog_22_method_70_code
def yJ9_min_f86c9 : MethodName := ⟨RJ9, "min", "(JJ)J"⟩
def RJxd2413 : String := "java/lang/Number"
def TJxd2413 : u_T := fun k => match k with
  | _ => ("", "", "", false)
def tyJxd2413 : Nat → FieldType := fun k => match k with
  | _ => .int
theorem nmJxd2413 : ∀ a, a < 0 → ∀ b, b < 0 → a ≠ b → (TJxd2413 a).2.1 ≠ (TJxd2413 b).2.1 := by decide +kernel
theorem tyJxd2413_ok : ∀ k, k < 0 → parseFieldDescriptor (TJxd2413 k).2.2.1 = some (tyJxd2413 k) := by decide +kernel
def RJ0 : String := "java/lang/String"
def TJ0 : u_T := fun k => match k with
  | 0 => ("java/lang/String", "value", "[B", true)
  | _ => ("java/lang/String", "coder", "B", true)
def tyJ0 : Nat → FieldType := fun k => match k with
  | 0 => .array .byte
  | _ => .byte
theorem nmJ0 : ∀ a, a < 2 → ∀ b, b < 2 → a ≠ b → (TJ0 a).2.1 ≠ (TJ0 b).2.1 := by decide +kernel
theorem tyJ0_ok : ∀ k, k < 2 → parseFieldDescriptor (TJ0 k).2.2.1 = some (tyJ0 k) := by decide +kernel
abbrev cJ0_length_8abf5 : ByteArray := prog_25_method_54_code
def yJ0_length_8abf5 : MethodName := ⟨RJ0, "length", "()I"⟩
abbrev cJ0_charAt_5068e : ByteArray := prog_25_method_56_code
def yJ0_charAt_5068e : MethodName := ⟨RJ0, "charAt", "(I)C"⟩
abbrev cJ0_coder_7d493 : ByteArray := prog_25_method_152_code
def yJ0_coder_7d493 : MethodName := ⟨RJ0, "coder", "()B"⟩
abbrev cJ0_isLatin1_aae02 : ByteArray := prog_25_method_154_code
def yJ0_isLatin1_aae02 : MethodName := ⟨RJ0, "isLatin1", "()Z"⟩
abbrev cJ0_checkIndex_df160 : ByteArray := prog_25_method_155_code
def yJ0_checkIndex_df160 : MethodName := ⟨RJ0, "checkIndex", "(II)V"⟩
def RJ1 : String := "java/lang/StringLatin1"
def TJ1 : u_T := fun k => match k with
  | _ => ("", "", "", false)
def tyJ1 : Nat → FieldType := fun k => match k with
  | _ => .int
theorem nmJ1 : ∀ a, a < 0 → ∀ b, b < 0 → a ≠ b → (TJ1 a).2.1 ≠ (TJ1 b).2.1 := by decide +kernel
theorem tyJ1_ok : ∀ k, k < 0 → parseFieldDescriptor (TJ1 k).2.2.1 = some (tyJ1 k) := by decide +kernel
abbrev cJ1_charAt_3b067 : ByteArray := prog_26_method_2_code
def yJ1_charAt_3b067 : MethodName := ⟨RJ1, "charAt", "([BI)C"⟩
def RJ2 : String := "java/lang/StringUTF16"
def TJ2 : u_T := fun k => match k with
  | _ => ("", "", "", false)
def tyJ2 : Nat → FieldType := fun k => match k with
  | _ => .int
theorem nmJ2 : ∀ a, a < 0 → ∀ b, b < 0 → a ≠ b → (TJ2 a).2.1 ≠ (TJ2 b).2.1 := by decide +kernel
theorem tyJ2_ok : ∀ k, k < 0 → parseFieldDescriptor (TJ2 k).2.2.1 = some (tyJ2 k) := by decide +kernel
abbrev cJ2_getChar_3b067 : ByteArray := prog_27_method_5_code
def yJ2_getChar_3b067 : MethodName := ⟨RJ2, "getChar", "([BI)C"⟩
abbrev cJ2_length_9d52b : ByteArray := prog_27_method_6_code
def yJ2_length_9d52b : MethodName := ⟨RJ2, "length", "([B)I"⟩
abbrev cJ2_charAt_3b067 : ByteArray := prog_27_method_83_code
def yJ2_charAt_3b067 : MethodName := ⟨RJ2, "charAt", "([BI)C"⟩
abbrev cJ2_checkIndex_2214a : ByteArray := prog_27_method_91_code
def yJ2_checkIndex_2214a : MethodName := ⟨RJ2, "checkIndex", "(I[B)V"⟩
def RJ10 : String := "java/lang/System"
def TJ10 : u_T := fun k => match k with
  | _ => ("", "", "", false)
def tyJ10 : Nat → FieldType := fun k => match k with
  | _ => .int
theorem nmJ10 : ∀ a, a < 0 → ∀ b, b < 0 → a ≠ b → (TJ10 a).2.1 ≠ (TJ10 b).2.1 := by decide +kernel
theorem tyJ10_ok : ∀ k, k < 0 → parseFieldDescriptor (TJ10 k).2.2.1 = some (tyJ10 k) := by decide +kernel
def RJxfd54e : String := "java/lang/constant/Constable"
def TJxfd54e : u_T := fun k => match k with
  | _ => ("", "", "", false)
def tyJxfd54e : Nat → FieldType := fun k => match k with
  | _ => .int
theorem nmJxfd54e : ∀ a, a < 0 → ∀ b, b < 0 → a ≠ b → (TJxfd54e a).2.1 ≠ (TJxfd54e b).2.1 := by decide +kernel
theorem tyJxfd54e_ok : ∀ k, k < 0 → parseFieldDescriptor (TJxfd54e k).2.2.1 = some (tyJxfd54e k) := by decide +kernel
def RJx3cf43 : String := "java/lang/constant/ConstantDesc"
def TJx3cf43 : u_T := fun k => match k with
  | _ => ("", "", "", false)
def tyJx3cf43 : Nat → FieldType := fun k => match k with
  | _ => .int
theorem nmJx3cf43 : ∀ a, a < 0 → ∀ b, b < 0 → a ≠ b → (TJx3cf43 a).2.1 ≠ (TJx3cf43 b).2.1 := by decide +kernel
theorem tyJx3cf43_ok : ∀ k, k < 0 → parseFieldDescriptor (TJx3cf43 k).2.2.1 = some (tyJx3cf43 k) := by decide +kernel
def RJ7 : String := "java/util/Arrays"
def TJ7 : u_T := fun k => match k with
  | _ => ("", "", "", false)
def tyJ7 : Nat → FieldType := fun k => match k with
  | _ => .int
theorem nmJ7 : ∀ a, a < 0 → ∀ b, b < 0 → a ≠ b → (TJ7 a).2.1 ≠ (TJ7 b).2.1 := by decide +kernel
theorem tyJ7_ok : ∀ k, k < 0 → parseFieldDescriptor (TJ7 k).2.2.1 = some (tyJ7 k) := by decide +kernel
abbrev cJ7_fill_53178 : ByteArray := prog_33_method_103_code
def yJ7_fill_53178 : MethodName := ⟨RJ7, "fill", "([II)V"⟩
def RJ3 : String := "jdk/internal/util/Preconditions"
def TJ3 : u_T := fun k => match k with
  | _ => ("", "", "", false)
def tyJ3 : Nat → FieldType := fun k => match k with
  | _ => .int
theorem nmJ3 : ∀ a, a < 0 → ∀ b, b < 0 → a ≠ b → (TJ3 a).2.1 ≠ (TJ3 b).2.1 := by decide +kernel
theorem tyJ3_ok : ∀ k, k < 0 → parseFieldDescriptor (TJ3 k).2.2.1 = some (tyJ3 k) := by decide +kernel
abbrev cJ3_checkIndex_8e157 : ByteArray := prog_35_method_11_code
def yJ3_checkIndex_8e157 : MethodName := ⟨RJ3, "checkIndex", "(IILjava/util/function/BiFunction;)I"⟩
def RL : String := "PotatoStampsLaw"
abbrev cL_crayon : ByteArray := method_2_code
def yL_crayon : MethodName := ⟨RL, "crayon", "(LPotatoStamps;I)J"⟩
abbrev cL_crayonOf : ByteArray := method_3_code
def yL_crayonOf : MethodName := ⟨RL, "crayonOf", "(LPotatoStamps;I)J"⟩
abbrev cL_letter : ByteArray := method_4_code
def yL_letter : MethodName := ⟨RL, "letter", "(LPotatoStamps;IIII)J"⟩
abbrev cL_parcel : ByteArray := method_5_code
def yL_parcel : MethodName := ⟨RL, "parcel", "(LPotatoStamps;IIIII)J"⟩
abbrev cL_itemOf : ByteArray := method_6_code
def yL_itemOf : MethodName := ⟨RL, "itemOf", "(LPotatoStamps;II)J"⟩
abbrev cL_reads : ByteArray := method_7_code
def yL_reads : MethodName := ⟨RL, "reads", "(LPotatoStamps;I)J"⟩
abbrev cL_string : ByteArray := method_9_code
def yL_string : MethodName := ⟨RL, "string", "(LPotatoStamps;I)J"⟩
abbrev cL_lettersOf : ByteArray := method_10_code
def yL_lettersOf : MethodName := ⟨RL, "lettersOf", "(LPotatoStamps;II)J"⟩
abbrev cL_lettersAgain : ByteArray := method_11_code
def yL_lettersAgain : MethodName := ⟨RL, "lettersAgain", "(LPotatoStamps;II)J"⟩
abbrev cL_ranked : ByteArray := method_12_code
def yL_ranked : MethodName := ⟨RL, "ranked", "(LPotatoStamps;I)J"⟩
abbrev cL_potato : ByteArray := method_13_code
def yL_potato : MethodName := ⟨RL, "potato", "(LPotatoStamps;)J"⟩
abbrev cL_firmness : ByteArray := method_14_code
def yL_firmness : MethodName := ⟨RL, "firmness", "(LPotatoStamps;I)J"⟩
abbrev cL_ink : ByteArray := method_18_code
def yL_ink : MethodName := ⟨RL, "ink", "(LPotatoStamps;I)J"⟩
abbrev cL_inkNow : ByteArray := method_19_code
def yL_inkNow : MethodName := ⟨RL, "inkNow", "(LPotatoStamps;)J"⟩
abbrev cL_stamp : ByteArray := method_20_code
def yL_stamp : MethodName := ⟨RL, "stamp", "(LPotatoStamps;II)J"⟩
abbrev cL_shelve : ByteArray := method_21_code
def yL_shelve : MethodName := ⟨RL, "shelve", "(LPotatoStamps;II)J"⟩
abbrev cL_take : ByteArray := method_22_code
def yL_take : MethodName := ⟨RL, "take", "(LPotatoStamps;I)J"⟩
abbrev cL_inHole : ByteArray := method_23_code
def yL_inHole : MethodName := ⟨RL, "inHole", "(LPotatoStamps;III)J"⟩
abbrev cL_read : ByteArray := method_24_code
def yL_read : MethodName := ⟨RL, "read", "(LPotatoStamps;I)J"⟩
abbrev cL_snacks : ByteArray := method_25_code
def yL_snacks : MethodName := ⟨RL, "snacks", "(LPotatoStamps;I)J"⟩
abbrev cL_feed : ByteArray := method_26_code
def yL_feed : MethodName := ⟨RL, "feed", "(LPotatoStamps;I)J"⟩
abbrev cL_hunger : ByteArray := method_27_code
def yL_hunger : MethodName := ⟨RL, "hunger", "(LPotatoStamps;)J"⟩
abbrev cL_prey : ByteArray := method_28_code
def yL_prey : MethodName := ⟨RL, "prey", "(LPotatoStamps;)J"⟩
abbrev cL_eatsIn : ByteArray := method_29_code
def yL_eatsIn : MethodName := ⟨RL, "eatsIn", "(LPotatoStamps;)J"⟩
abbrev cL_pass : ByteArray := method_30_code
def yL_pass : MethodName := ⟨RL, "pass", "(LPotatoStamps;I)J"⟩
abbrev cL_run : ByteArray := method_33_code
def yL_run : MethodName := ⟨RL, "run", "(LPotatoStamps;)J"⟩
abbrev cL_account : ByteArray := method_36_code
def yL_account : MethodName := ⟨RL, "account", "(LPotatoStamps;I)J"⟩
abbrev cL_isWell : ByteArray := method_37_code
def yL_isWell : MethodName := ⟨RL, "isWell", "(LPotatoStamps;)J"⟩
abbrev cL_undo : ByteArray := method_39_code
def yL_undo : MethodName := ⟨RL, "undo", "(LPotatoStamps;)J"⟩
abbrev cL_save : ByteArray := method_40_code
def yL_save : MethodName := ⟨RL, "save", "(LPotatoStamps;)J"⟩
abbrev cL_restore : ByteArray := method_41_code
def yL_restore : MethodName := ⟨RL, "restore", "(LPotatoStamps;)J"⟩
abbrev cL_cell : ByteArray := method_42_code
def yL_cell : MethodName := ⟨RL, "cell", "([II)I"⟩
abbrev cL_pick : ByteArray := method_43_code
def yL_pick : MethodName := ⟨RL, "pick", "(II)I"⟩
abbrev cL_text : ByteArray := method_45_code
def yL_text : MethodName := ⟨RL, "text", "(LPotatoStamps;Ljava/lang/String;)J"⟩
abbrev cL_mark : ByteArray := method_46_code
def yL_mark : MethodName := ⟨RL, "mark", "(LPotatoStamps;)J"⟩
abbrev cL_acts : ByteArray := method_47_code
def yL_acts : MethodName := ⟨RL, "acts", "(LPotatoStamps;I)J"⟩
abbrev cL_writes : ByteArray := method_48_code
def yL_writes : MethodName := ⟨RL, "writes", "(LPotatoStamps;II)Z"⟩
abbrev cL_eats : ByteArray := method_49_code
def yL_eats : MethodName := ⟨RL, "eats", "(LPotatoStamps;)Z"⟩
abbrev cL_fits : ByteArray := method_50_code
def yL_fits : MethodName := ⟨RL, "fits", "(LPotatoStamps;I)Z"⟩
abbrev cL_law : ByteArray := code
def yL_law : MethodName := ⟨RL, "law", "([I)Z"⟩
abbrev vwCl : List vw_C := [(RJ0, TJ0, 2), (RJx00060, TJx00060, 6), (RX1, TX1, 3), (RX2, TX2, 6), (RX3, TX3, 4), (RX4, TX4, 3), (RX5, TX5, 9), (RX6, TX6, 4), (RX7, TX7, 8), (RX8, TX8, 2), (RX9, TX9, 8)]
