def RX0 : String := "EchoCouncil$1"
def TX0 : u_T := fun k => match k with
  | _ => ("", "", "", false)
def tyX0 : Nat → FieldType := fun k => match k with
  | _ => .int
abbrev wsX00 : List Cond := u_ws RX0 TX0 0
theorem nmX0 : ∀ a, a < 0 → ∀ b, b < 0 → a ≠ b → (TX0 a).2.1 ≠ (TX0 b).2.1 := by decide +kernel
theorem tyX0_ok : ∀ k, k < 0 → parseFieldDescriptor (TX0 k).2.2.1 = some (tyX0 k) := by decide +kernel
def RX1 : String := "EchoCouncil$Echoes"
def TX1 : u_T := fun k => match k with
  | 0 => ("EchoCouncil$Echoes", "count", "I", false)
  | 1 => ("EchoCouncil$Echoes", "room", "[I", true)
  | 2 => ("EchoCouncil$Echoes", "strength", "[I", true)
  | 3 => ("EchoCouncil$Echoes", "singer", "[I", true)
  | 4 => ("EchoCouncil$Echoes", "verses", "[I", true)
  | _ => ("EchoCouncil$Echoes", "tones", "[I", true)
def tyX1 : Nat → FieldType := fun k => match k with
  | 0 => .int
  | 1 => .array .int
  | 2 => .array .int
  | 3 => .array .int
  | 4 => .array .int
  | _ => .array .int
abbrev wsX10 : List Cond := u_ws RX1 TX1 6
theorem nmX1 : ∀ a, a < 6 → ∀ b, b < 6 → a ≠ b → (TX1 a).2.1 ≠ (TX1 b).2.1 := by decide +kernel
theorem tyX1_ok : ∀ k, k < 6 → parseFieldDescriptor (TX1 k).2.2.1 = some (tyX1 k) := by decide +kernel
abbrev cX1_init : ByteArray := prog_3_method_1_code
def yX1_init : MethodName := ⟨RX1, "<init>", "()V"⟩
abbrev cX1_copyFrom : ByteArray := prog_3_method_2_code
def yX1_copyFrom : MethodName := ⟨RX1, "copyFrom", "(LEchoCouncil$Echoes;)V"⟩
def RX2 : String := "EchoCouncil$OrderKind"
def TX2 : u_T := fun k => match k with
  | _ => ("", "", "", false)
def tyX2 : Nat → FieldType := fun k => match k with
  | _ => .int
abbrev wsX20 : List Cond := u_ws RX2 TX2 0
theorem nmX2 : ∀ a, a < 0 → ∀ b, b < 0 → a ≠ b → (TX2 a).2.1 ≠ (TX2 b).2.1 := by decide +kernel
theorem tyX2_ok : ∀ k, k < 0 → parseFieldDescriptor (TX2 k).2.2.1 = some (tyX2 k) := by decide +kernel
def RX3 : String := "EchoCouncil$OrderText"
def TX3 : u_T := fun k => match k with
  | 0 => ("EchoCouncil$OrderText", "signs", "[C", true)
  | 1 => ("EchoCouncil$OrderText", "length", "I", false)
  | 2 => ("EchoCouncil$OrderText", "fault", "I", false)
  | 3 => ("EchoCouncil$OrderText", "orders", "I", false)
  | 4 => ("EchoCouncil$OrderText", "kinds", "[LEchoCouncil$OrderKind;", true)
  | 5 => ("EchoCouncil$OrderText", "numbers", "[[I", true)
  | _ => ("EchoCouncil$OrderText", "position", "I", false)
def tyX3 : Nat → FieldType := fun k => match k with
  | 0 => .array .char
  | 1 => .int
  | 2 => .int
  | 3 => .int
  | 4 => .array (.object "EchoCouncil$OrderKind")
  | 5 => .array (.array .int)
  | _ => .int
abbrev wsX30 : List Cond := u_ws RX3 TX3 7
theorem nmX3 : ∀ a, a < 7 → ∀ b, b < 7 → a ≠ b → (TX3 a).2.1 ≠ (TX3 b).2.1 := by decide +kernel
theorem tyX3_ok : ∀ k, k < 7 → parseFieldDescriptor (TX3 k).2.2.1 = some (tyX3 k) := by decide +kernel
abbrev cX3_init : ByteArray := prog_5_method_1_code
def yX3_init : MethodName := ⟨RX3, "<init>", "()V"⟩
abbrev cX3_readAll : ByteArray := prog_5_method_2_code
def yX3_readAll : MethodName := ⟨RX3, "readAll", "()V"⟩
abbrev cX3_readsOrder : ByteArray := prog_5_method_3_code
def yX3_readsOrder : MethodName := ⟨RX3, "readsOrder", "(I)Z"⟩
abbrev cX3_longestStart : ByteArray := prog_5_method_4_code
def yX3_longestStart : MethodName := ⟨RX3, "longestStart", "()I"⟩
abbrev cX3_countSame : ByteArray := prog_5_method_5_code
def yX3_countSame : MethodName := ⟨RX3, "countSame", "(Ljava/lang/String;)I"⟩
abbrev cX3_readsNumbers : ByteArray := prog_5_method_6_code
def yX3_readsNumbers : MethodName := ⟨RX3, "readsNumbers", "(LEchoCouncil$OrderKind;[I)Z"⟩
abbrev cX3_readsSign : ByteArray := prog_5_method_7_code
def yX3_readsSign : MethodName := ⟨RX3, "readsSign", "(C)Z"⟩
abbrev cX3_isAtDigit : ByteArray := prog_5_method_8_code
def yX3_isAtDigit : MethodName := ⟨RX3, "isAtDigit", "()Z"⟩
abbrev cX3_readDigit : ByteArray := prog_5_method_9_code
def yX3_readDigit : MethodName := ⟨RX3, "readDigit", "()I"⟩
def RX4 : String := "EchoCouncil$Past"
def TX4 : u_T := fun k => match k with
  | 0 => ("EchoCouncil$Past", "states", "[LEchoCouncil$State;", true)
  | 1 => ("EchoCouncil$Past", "next", "I", false)
  | _ => ("EchoCouncil$Past", "count", "I", false)
def tyX4 : Nat → FieldType := fun k => match k with
  | 0 => .array (.object "EchoCouncil$State")
  | 1 => .int
  | _ => .int
abbrev wsX40 : List Cond := u_ws RX4 TX4 3
theorem nmX4 : ∀ a, a < 3 → ∀ b, b < 3 → a ≠ b → (TX4 a).2.1 ≠ (TX4 b).2.1 := by decide +kernel
theorem tyX4_ok : ∀ k, k < 3 → parseFieldDescriptor (TX4 k).2.2.1 = some (tyX4 k) := by decide +kernel
abbrev cX4_init : ByteArray := prog_6_method_1_code
def yX4_init : MethodName := ⟨RX4, "<init>", "()V"⟩
abbrev cX4_keep : ByteArray := prog_6_method_2_code
def yX4_keep : MethodName := ⟨RX4, "keep", "(LEchoCouncil$State;)V"⟩
def RX5 : String := "EchoCouncil$Refusal"
def TX5 : u_T := fun k => match k with
  | 0 => ("EchoCouncil$Refusal", "isKept", "Z", false)
  | 1 => ("EchoCouncil$Refusal", "number", "I", false)
  | 2 => ("EchoCouncil$Refusal", "detail", "I", false)
  | 3 => ("EchoCouncil$Refusal", "hasCause", "Z", false)
  | 4 => ("EchoCouncil$Refusal", "causeNumber", "I", false)
  | _ => ("EchoCouncil$Refusal", "causeDetail", "I", false)
def tyX5 : Nat → FieldType := fun k => match k with
  | 0 => .boolean
  | 1 => .int
  | 2 => .int
  | 3 => .boolean
  | 4 => .int
  | _ => .int
abbrev wsX50 : List Cond := u_ws RX5 TX5 6
theorem nmX5 : ∀ a, a < 6 → ∀ b, b < 6 → a ≠ b → (TX5 a).2.1 ≠ (TX5 b).2.1 := by decide +kernel
theorem tyX5_ok : ∀ k, k < 6 → parseFieldDescriptor (TX5 k).2.2.1 = some (tyX5 k) := by decide +kernel
abbrev cX5_init : ByteArray := prog_7_method_1_code
def yX5_init : MethodName := ⟨RX5, "<init>", "()V"⟩
abbrev cX5_keep : ByteArray := prog_7_method_2_code
def yX5_keep : MethodName := ⟨RX5, "keep", "(II)Z"⟩
abbrev cX5_putBehind : ByteArray := prog_7_method_3_code
def yX5_putBehind : MethodName := ⟨RX5, "putBehind", "(II)V"⟩
def RX6 : String := "EchoCouncil$Rooms"
def TX6 : u_T := fun k => match k with
  | 0 => ("EchoCouncil$Rooms", "count", "I", false)
  | 1 => ("EchoCouncil$Rooms", "size", "[I", true)
  | 2 => ("EchoCouncil$Rooms", "damp", "[I", true)
  | _ => ("EchoCouncil$Rooms", "verses", "[I", true)
def tyX6 : Nat → FieldType := fun k => match k with
  | 0 => .int
  | 1 => .array .int
  | 2 => .array .int
  | _ => .array .int
abbrev wsX60 : List Cond := u_ws RX6 TX6 4
theorem nmX6 : ∀ a, a < 4 → ∀ b, b < 4 → a ≠ b → (TX6 a).2.1 ≠ (TX6 b).2.1 := by decide +kernel
theorem tyX6_ok : ∀ k, k < 4 → parseFieldDescriptor (TX6 k).2.2.1 = some (tyX6 k) := by decide +kernel
abbrev cX6_init : ByteArray := prog_8_method_1_code
def yX6_init : MethodName := ⟨RX6, "<init>", "()V"⟩
abbrev cX6_copyFrom : ByteArray := prog_8_method_2_code
def yX6_copyFrom : MethodName := ⟨RX6, "copyFrom", "(LEchoCouncil$Rooms;)V"⟩
def RX7 : String := "EchoCouncil$Singers"
def TX7 : u_T := fun k => match k with
  | 0 => ("EchoCouncil$Singers", "count", "I", false)
  | 1 => ("EchoCouncil$Singers", "shyness", "[I", true)
  | 2 => ("EchoCouncil$Singers", "breath", "[I", true)
  | 3 => ("EchoCouncil$Singers", "room", "[I", true)
  | 4 => ("EchoCouncil$Singers", "verses", "[I", true)
  | _ => ("EchoCouncil$Singers", "tones", "[I", true)
def tyX7 : Nat → FieldType := fun k => match k with
  | 0 => .int
  | 1 => .array .int
  | 2 => .array .int
  | 3 => .array .int
  | 4 => .array .int
  | _ => .array .int
abbrev wsX70 : List Cond := u_ws RX7 TX7 6
theorem nmX7 : ∀ a, a < 6 → ∀ b, b < 6 → a ≠ b → (TX7 a).2.1 ≠ (TX7 b).2.1 := by decide +kernel
theorem tyX7_ok : ∀ k, k < 6 → parseFieldDescriptor (TX7 k).2.2.1 = some (tyX7 k) := by decide +kernel
abbrev cX7_init : ByteArray := prog_9_method_1_code
def yX7_init : MethodName := ⟨RX7, "<init>", "()V"⟩
abbrev cX7_copyFrom : ByteArray := prog_9_method_2_code
def yX7_copyFrom : MethodName := ⟨RX7, "copyFrom", "(LEchoCouncil$Singers;)V"⟩
def RX8 : String := "EchoCouncil$State"
def TX8 : u_T := fun k => match k with
  | 0 => ("EchoCouncil$State", "rooms", "LEchoCouncil$Rooms;", true)
  | 1 => ("EchoCouncil$State", "echoes", "LEchoCouncil$Echoes;", true)
  | 2 => ("EchoCouncil$State", "singers", "LEchoCouncil$Singers;", true)
  | 3 => ("EchoCouncil$State", "nights", "I", false)
  | 4 => ("EchoCouncil$State", "deposits", "I", false)
  | 5 => ("EchoCouncil$State", "givenBack", "I", false)
  | _ => ("EchoCouncil$State", "kept", "I", false)
def tyX8 : Nat → FieldType := fun k => match k with
  | 0 => .object "EchoCouncil$Rooms"
  | 1 => .object "EchoCouncil$Echoes"
  | 2 => .object "EchoCouncil$Singers"
  | 3 => .int
  | 4 => .int
  | 5 => .int
  | _ => .int
abbrev wsX80 : List Cond := u_ws RX8 TX8 7
theorem nmX8 : ∀ a, a < 7 → ∀ b, b < 7 → a ≠ b → (TX8 a).2.1 ≠ (TX8 b).2.1 := by decide +kernel
theorem tyX8_ok : ∀ k, k < 7 → parseFieldDescriptor (TX8 k).2.2.1 = some (tyX8 k) := by decide +kernel
abbrev cX8_init : ByteArray := prog_10_method_1_code
def yX8_init : MethodName := ⟨RX8, "<init>", "()V"⟩
abbrev cX8_copyFrom : ByteArray := prog_10_method_2_code
def yX8_copyFrom : MethodName := ⟨RX8, "copyFrom", "(LEchoCouncil$State;)V"⟩
abbrev cX8_hasRoom : ByteArray := prog_10_method_3_code
def yX8_hasRoom : MethodName := ⟨RX8, "hasRoom", "(I)Z"⟩
abbrev cX8_hasEcho : ByteArray := prog_10_method_4_code
def yX8_hasEcho : MethodName := ⟨RX8, "hasEcho", "(I)Z"⟩
abbrev cX8_hasSinger : ByteArray := prog_10_method_5_code
def yX8_hasSinger : MethodName := ⟨RX8, "hasSinger", "(I)Z"⟩
abbrev cX8_isInside : ByteArray := prog_10_method_6_code
def yX8_isInside : MethodName := ⟨RX8, "isInside", "(I)Z"⟩
abbrev cX8_isLet : ByteArray := prog_10_method_7_code
def yX8_isLet : MethodName := ⟨RX8, "isLet", "(I)Z"⟩
abbrev cX8_isWithEcho : ByteArray := prog_10_method_8_code
def yX8_isWithEcho : MethodName := ⟨RX8, "isWithEcho", "(II)Z"⟩
abbrev cX8_canPayFor : ByteArray := prog_10_method_9_code
def yX8_canPayFor : MethodName := ⟨RX8, "canPayFor", "(II)Z"⟩
abbrev cX8_isFull : ByteArray := prog_10_method_10_code
def yX8_isFull : MethodName := ⟨RX8, "isFull", "(I)Z"⟩
abbrev cX8_isTooShyFor : ByteArray := prog_10_method_11_code
def yX8_isTooShyFor : MethodName := ⟨RX8, "isTooShyFor", "(II)Z"⟩
abbrev cX8_singersIn : ByteArray := prog_10_method_12_code
def yX8_singersIn : MethodName := ⟨RX8, "singersIn", "(I)I"⟩
abbrev cX8_echoesIn : ByteArray := prog_10_method_13_code
def yX8_echoesIn : MethodName := ⟨RX8, "echoesIn", "(I)I"⟩
abbrev cX8_freeIn : ByteArray := prog_10_method_14_code
def yX8_freeIn : MethodName := ⟨RX8, "freeIn", "(I)I"⟩
abbrev cX8_aboveDamp : ByteArray := prog_10_method_15_code
def yX8_aboveDamp : MethodName := ⟨RX8, "aboveDamp", "(I)I"⟩
abbrev cX8_isHeard : ByteArray := prog_10_method_16_code
def yX8_isHeard : MethodName := ⟨RX8, "isHeard", "(III)Z"⟩
abbrev cX8_tonesInRoom : ByteArray := prog_10_method_17_code
def yX8_tonesInRoom : MethodName := ⟨RX8, "tonesInRoom", "(II)I"⟩
abbrev cX8_tonesByStrength : ByteArray := prog_10_method_18_code
def yX8_tonesByStrength : MethodName := ⟨RX8, "tonesByStrength", "(I)I"⟩
abbrev cX8_countHeardOf : ByteArray := prog_10_method_19_code
def yX8_countHeardOf : MethodName := ⟨RX8, "countHeardOf", "(III)I"⟩
abbrev cX8_versesInThought : ByteArray := prog_10_method_20_code
def yX8_versesInThought : MethodName := ⟨RX8, "versesInThought", "(I)I"⟩
abbrev cX8_tonesAfter : ByteArray := prog_10_method_21_code
def yX8_tonesAfter : MethodName := ⟨RX8, "tonesAfter", "(II)I"⟩
abbrev cX8_versesByEcho : ByteArray := prog_10_method_22_code
def yX8_versesByEcho : MethodName := ⟨RX8, "versesByEcho", "(I)I"⟩
abbrev cX8_countLetTo : ByteArray := prog_10_method_23_code
def yX8_countLetTo : MethodName := ⟨RX8, "countLetTo", "(I)I"⟩
abbrev cX8_countLet : ByteArray := prog_10_method_24_code
def yX8_countLet : MethodName := ⟨RX8, "countLet", "()I"⟩
abbrev cX8_heldOf : ByteArray := prog_10_method_25_code
def yX8_heldOf : MethodName := ⟨RX8, "heldOf", "(I)I"⟩
abbrev cX8_heldOfAll : ByteArray := prog_10_method_26_code
def yX8_heldOfAll : MethodName := ⟨RX8, "heldOfAll", "()I"⟩
abbrev cX8_dampOfAll : ByteArray := prog_10_method_27_code
def yX8_dampOfAll : MethodName := ⟨RX8, "dampOfAll", "()I"⟩
abbrev cX8_versesOfAll : ByteArray := prog_10_method_28_code
def yX8_versesOfAll : MethodName := ⟨RX8, "versesOfAll", "()I"⟩
abbrev cX8_tonesOfAll : ByteArray := prog_10_method_29_code
def yX8_tonesOfAll : MethodName := ⟨RX8, "tonesOfAll", "()I"⟩
abbrev cX8_addRoom : ByteArray := prog_10_method_30_code
def yX8_addRoom : MethodName := ⟨RX8, "addRoom", "(I)I"⟩
abbrev cX8_addEcho : ByteArray := prog_10_method_31_code
def yX8_addEcho : MethodName := ⟨RX8, "addEcho", "(II)I"⟩
abbrev cX8_addSinger : ByteArray := prog_10_method_32_code
def yX8_addSinger : MethodName := ⟨RX8, "addSinger", "(II)I"⟩
abbrev cX8_moveIn : ByteArray := prog_10_method_33_code
def yX8_moveIn : MethodName := ⟨RX8, "moveIn", "(II)I"⟩
abbrev cX8_moveOut : ByteArray := prog_10_method_34_code
def yX8_moveOut : MethodName := ⟨RX8, "moveOut", "(I)I"⟩
abbrev cX8_moveEcho : ByteArray := prog_10_method_35_code
def yX8_moveEcho : MethodName := ⟨RX8, "moveEcho", "(II)I"⟩
abbrev cX8_letEcho : ByteArray := prog_10_method_36_code
def yX8_letEcho : MethodName := ⟨RX8, "letEcho", "(III)I"⟩
abbrev cX8_endLetting : ByteArray := prog_10_method_37_code
def yX8_endLetting : MethodName := ⟨RX8, "endLetting", "(I)I"⟩
abbrev cX8_singVerse : ByteArray := prog_10_method_38_code
def yX8_singVerse : MethodName := ⟨RX8, "singVerse", "(I)I"⟩
abbrev cX8_echoVerse : ByteArray := prog_10_method_39_code
def yX8_echoVerse : MethodName := ⟨RX8, "echoVerse", "(I)I"⟩
abbrev cX8_letNightPass : ByteArray := prog_10_method_40_code
def yX8_letNightPass : MethodName := ⟨RX8, "letNightPass", "()I"⟩
def RX9 : String := "EchoCouncil"
def TX9 : u_T := fun k => match k with
  | 0 => ("EchoCouncil", "now", "LEchoCouncil$State;", true)
  | 1 => ("EchoCouncil", "before", "LEchoCouncil$State;", true)
  | 2 => ("EchoCouncil", "saved", "LEchoCouncil$State;", true)
  | 3 => ("EchoCouncil", "isSaved", "Z", false)
  | 4 => ("EchoCouncil", "past", "LEchoCouncil$Past;", true)
  | 5 => ("EchoCouncil", "text", "LEchoCouncil$OrderText;", true)
  | 6 => ("EchoCouncil", "refusal", "LEchoCouncil$Refusal;", true)
  | _ => ("EchoCouncil", "line", "Ljava/lang/StringBuilder;", true)
def tyX9 : Nat → FieldType := fun k => match k with
  | 0 => .object "EchoCouncil$State"
  | 1 => .object "EchoCouncil$State"
  | 2 => .object "EchoCouncil$State"
  | 3 => .boolean
  | 4 => .object "EchoCouncil$Past"
  | 5 => .object "EchoCouncil$OrderText"
  | 6 => .object "EchoCouncil$Refusal"
  | _ => .object "java/lang/StringBuilder"
abbrev wsX90 : List Cond := u_ws RX9 TX9 8
theorem nmX9 : ∀ a, a < 8 → ∀ b, b < 8 → a ≠ b → (TX9 a).2.1 ≠ (TX9 b).2.1 := by decide +kernel
theorem tyX9_ok : ∀ k, k < 8 → parseFieldDescriptor (TX9 k).2.2.1 = some (tyX9 k) := by decide +kernel
abbrev cX9_init : ByteArray := prog_1_method_1_code
def yX9_init : MethodName := ⟨RX9, "<init>", "()V"⟩
abbrev cX9_room : ByteArray := prog_1_method_2_code
def yX9_room : MethodName := ⟨RX9, "room", "(I)I"⟩
abbrev cX9_echo : ByteArray := prog_1_method_3_code
def yX9_echo : MethodName := ⟨RX9, "echo", "(II)I"⟩
abbrev cX9_singer : ByteArray := prog_1_method_4_code
def yX9_singer : MethodName := ⟨RX9, "singer", "(II)I"⟩
abbrev cX9_enter : ByteArray := prog_1_method_5_code
def yX9_enter : MethodName := ⟨RX9, "enter", "(II)I"⟩
abbrev cX9_out : ByteArray := prog_1_method_6_code
def yX9_out : MethodName := ⟨RX9, "out", "(I)I"⟩
abbrev cX9_carry : ByteArray := prog_1_method_7_code
def yX9_carry : MethodName := ⟨RX9, "carry", "(II)I"⟩
abbrev cX9_rent : ByteArray := prog_1_method_8_code
def yX9_rent : MethodName := ⟨RX9, "rent", "(III)I"⟩
abbrev cX9_back : ByteArray := prog_1_method_9_code
def yX9_back : MethodName := ⟨RX9, "back", "(II)I"⟩
abbrev cX9_sing : ByteArray := prog_1_method_10_code
def yX9_sing : MethodName := ⟨RX9, "sing", "(I)I"⟩
abbrev cX9_night : ByteArray := prog_1_method_11_code
def yX9_night : MethodName := ⟨RX9, "night", "()I"⟩
abbrev cX9_roomOf : ByteArray := prog_1_method_12_code
def yX9_roomOf : MethodName := ⟨RX9, "roomOf", "(II)I"⟩
abbrev cX9_echoOf : ByteArray := prog_1_method_13_code
def yX9_echoOf : MethodName := ⟨RX9, "echoOf", "(II)I"⟩
abbrev cX9_singerOf : ByteArray := prog_1_method_14_code
def yX9_singerOf : MethodName := ⟨RX9, "singerOf", "(II)I"⟩
abbrev cX9_tones : ByteArray := prog_1_method_15_code
def yX9_tones : MethodName := ⟨RX9, "tones", "(I)I"⟩
abbrev cX9_tonesAgain : ByteArray := prog_1_method_16_code
def yX9_tonesAgain : MethodName := ⟨RX9, "tonesAgain", "(I)I"⟩
abbrev cX9_verses : ByteArray := prog_1_method_17_code
def yX9_verses : MethodName := ⟨RX9, "verses", "(I)I"⟩
abbrev cX9_versesAgain : ByteArray := prog_1_method_18_code
def yX9_versesAgain : MethodName := ⟨RX9, "versesAgain", "(I)I"⟩
abbrev cX9_would : ByteArray := prog_1_method_19_code
def yX9_would : MethodName := ⟨RX9, "would", "(II)I"⟩
abbrev cX9_bestRoom : ByteArray := prog_1_method_20_code
def yX9_bestRoom : MethodName := ⟨RX9, "bestRoom", "(I)I"⟩
abbrev cX9_canEnter : ByteArray := prog_1_method_21_code
def yX9_canEnter : MethodName := ⟨RX9, "canEnter", "(II)Z"⟩
abbrev cX9_canRent : ByteArray := prog_1_method_22_code
def yX9_canRent : MethodName := ⟨RX9, "canRent", "(II)Z"⟩
abbrev cX9_backFor : ByteArray := prog_1_method_23_code
def yX9_backFor : MethodName := ⟨RX9, "backFor", "(I)I"⟩
abbrev cX9_others : ByteArray := prog_1_method_24_code
def yX9_others : MethodName := ⟨RX9, "others", "(I)I"⟩
abbrev cX9_free : ByteArray := prog_1_method_25_code
def yX9_free : MethodName := ⟨RX9, "free", "(I)I"⟩
abbrev cX9_dryIn : ByteArray := prog_1_method_26_code
def yX9_dryIn : MethodName := ⟨RX9, "dryIn", "(I)I"⟩
abbrev cX9_dampest : ByteArray := prog_1_method_27_code
def yX9_dampest : MethodName := ⟨RX9, "dampest", "(I)I"⟩
abbrev cX9_ranked : ByteArray := prog_1_method_28_code
def yX9_ranked : MethodName := ⟨RX9, "ranked", "(II)I"⟩
abbrev cX9_strongest : ByteArray := prog_1_method_29_code
def yX9_strongest : MethodName := ⟨RX9, "strongest", "(I)I"⟩
abbrev cX9_isTold : ByteArray := prog_1_method_30_code
def yX9_isTold : MethodName := ⟨RX9, "isTold", "()Z"⟩
abbrev cX9_run : ByteArray := prog_1_method_32_code
def yX9_run : MethodName := ⟨RX9, "run", "()I"⟩
abbrev cX9_reason : ByteArray := prog_1_method_34_code
def yX9_reason : MethodName := ⟨RX9, "reason", "(IZ)I"⟩
abbrev cX9_tellRoom : ByteArray := prog_1_method_35_code
def yX9_tellRoom : MethodName := ⟨RX9, "tellRoom", "(I)I"⟩
abbrev cX9_tellEcho : ByteArray := prog_1_method_36_code
def yX9_tellEcho : MethodName := ⟨RX9, "tellEcho", "(I)I"⟩
abbrev cX9_tellSinger : ByteArray := prog_1_method_37_code
def yX9_tellSinger : MethodName := ⟨RX9, "tellSinger", "(I)I"⟩
abbrev cX9_character : ByteArray := prog_1_method_38_code
def yX9_character : MethodName := ⟨RX9, "character", "(I)C"⟩
abbrev cX9_account : ByteArray := prog_1_method_39_code
def yX9_account : MethodName := ⟨RX9, "account", "(I)I"⟩
abbrev cX9_meanDamp : ByteArray := prog_1_method_40_code
def yX9_meanDamp : MethodName := ⟨RX9, "meanDamp", "()D"⟩
abbrev cX9_letShare : ByteArray := prog_1_method_41_code
def yX9_letShare : MethodName := ⟨RX9, "letShare", "()F"⟩
abbrev cX9_checkRoom : ByteArray := prog_1_method_45_code
def yX9_checkRoom : MethodName := ⟨RX9, "checkRoom", "(I)V"⟩
abbrev cX9_checkEcho : ByteArray := prog_1_method_46_code
def yX9_checkEcho : MethodName := ⟨RX9, "checkEcho", "(I)V"⟩
abbrev cX9_checkSinger : ByteArray := prog_1_method_47_code
def yX9_checkSinger : MethodName := ⟨RX9, "checkSinger", "(I)V"⟩
abbrev cX9_checkSingerInside : ByteArray := prog_1_method_48_code
def yX9_checkSingerInside : MethodName := ⟨RX9, "checkSingerInside", "(I)V"⟩
abbrev cX9_change : ByteArray := prog_1_method_49_code
def yX9_change : MethodName := ⟨RX9, "change", "(LEchoCouncil$OrderKind;III)I"⟩
abbrev cX9_doesAllOrders : ByteArray := prog_1_method_50_code
def yX9_doesAllOrders : MethodName := ⟨RX9, "doesAllOrders", "()Z"⟩
abbrev cX9_doOrder : ByteArray := prog_1_method_51_code
def yX9_doOrder : MethodName := ⟨RX9, "doOrder", "(LEchoCouncil$OrderKind;III)I"⟩
abbrev cX9_isRefused : ByteArray := prog_1_method_52_code
def yX9_isRefused : MethodName := ⟨RX9, "isRefused", "(LEchoCouncil$OrderKind;III)Z"⟩
abbrev cX9_isRoomRefused : ByteArray := prog_1_method_53_code
def yX9_isRoomRefused : MethodName := ⟨RX9, "isRoomRefused", "(I)Z"⟩
abbrev cX9_isEchoRefused : ByteArray := prog_1_method_54_code
def yX9_isEchoRefused : MethodName := ⟨RX9, "isEchoRefused", "(II)Z"⟩
abbrev cX9_isSingerRefused : ByteArray := prog_1_method_55_code
def yX9_isSingerRefused : MethodName := ⟨RX9, "isSingerRefused", "(II)Z"⟩
abbrev cX9_isEnteringRefused : ByteArray := prog_1_method_56_code
def yX9_isEnteringRefused : MethodName := ⟨RX9, "isEnteringRefused", "(II)Z"⟩
abbrev cX9_isGoingOutRefused : ByteArray := prog_1_method_57_code
def yX9_isGoingOutRefused : MethodName := ⟨RX9, "isGoingOutRefused", "(I)Z"⟩
abbrev cX9_isCarryingRefused : ByteArray := prog_1_method_58_code
def yX9_isCarryingRefused : MethodName := ⟨RX9, "isCarryingRefused", "(II)Z"⟩
abbrev cX9_isRentingRefused : ByteArray := prog_1_method_59_code
def yX9_isRentingRefused : MethodName := ⟨RX9, "isRentingRefused", "(III)Z"⟩
abbrev cX9_isGivingBackRefused : ByteArray := prog_1_method_60_code
def yX9_isGivingBackRefused : MethodName := ⟨RX9, "isGivingBackRefused", "(II)Z"⟩
abbrev cX9_isSingingRefused : ByteArray := prog_1_method_61_code
def yX9_isSingingRefused : MethodName := ⟨RX9, "isSingingRefused", "(I)Z"⟩
abbrev cX9_bothWaysAgree : ByteArray := prog_1_method_62_code
def yX9_bothWaysAgree : MethodName := ⟨RX9, "bothWaysAgree", "(I)Z"⟩
abbrev cX9_countRoomsAhead : ByteArray := prog_1_method_63_code
def yX9_countRoomsAhead : MethodName := ⟨RX9, "countRoomsAhead", "(I)I"⟩
abbrev cX9_isDamperThan : ByteArray := prog_1_method_64_code
def yX9_isDamperThan : MethodName := ⟨RX9, "isDamperThan", "(II)Z"⟩
abbrev cX9_countSingersAhead : ByteArray := prog_1_method_65_code
def yX9_countSingersAhead : MethodName := ⟨RX9, "countSingersAhead", "(II)I"⟩
abbrev cX9_rankedValue : ByteArray := prog_1_method_66_code
def yX9_rankedValue : MethodName := ⟨RX9, "rankedValue", "(II)I"⟩
abbrev cX9_countEchoesAhead : ByteArray := prog_1_method_67_code
def yX9_countEchoesAhead : MethodName := ⟨RX9, "countEchoesAhead", "(I)I"⟩
abbrev cX9_isStrongerThan : ByteArray := prog_1_method_68_code
def yX9_isStrongerThan : MethodName := ⟨RX9, "isStrongerThan", "(II)Z"⟩
abbrev cX9_writeEchoesIn : ByteArray := prog_1_method_69_code
def yX9_writeEchoesIn : MethodName := ⟨RX9, "writeEchoesIn", "(I)V"⟩
abbrev cX9_writeSingersIn : ByteArray := prog_1_method_70_code
def yX9_writeSingersIn : MethodName := ⟨RX9, "writeSingersIn", "(I)V"⟩
def RX10 : String := "EchoCouncilModel"
def TX10 : u_T := fun k => match k with
  | _ => ("", "", "", false)
def tyX10 : Nat → FieldType := fun k => match k with
  | _ => .int
abbrev wsX100 : List Cond := u_ws RX10 TX10 0
theorem nmX10 : ∀ a, a < 0 → ∀ b, b < 0 → a ≠ b → (TX10 a).2.1 ≠ (TX10 b).2.1 := by decide +kernel
theorem tyX10_ok : ∀ k, k < 0 → parseFieldDescriptor (TX10 k).2.2.1 = some (tyX10 k) := by decide +kernel
def RJx145de : String := "java/io/Serializable"
def TJx145de : u_T := fun k => match k with
  | _ => ("", "", "", false)
def tyJx145de : Nat → FieldType := fun k => match k with
  | _ => .int
abbrev wsJx145de0 : List Cond := u_ws RJx145de TJx145de 0
theorem nmJx145de : ∀ a, a < 0 → ∀ b, b < 0 → a ≠ b → (TJx145de a).2.1 ≠ (TJx145de b).2.1 := by decide +kernel
theorem tyJx145de_ok : ∀ k, k < 0 → parseFieldDescriptor (TJx145de k).2.2.1 = some (tyJx145de k) := by decide +kernel
def RJ5 : String := "java/lang/AbstractStringBuilder"
def TJ5 : u_T := fun k => match k with
  | _ => ("", "", "", false)
def tyJ5 : Nat → FieldType := fun k => match k with
  | _ => .int
abbrev wsJ50 : List Cond := u_ws RJ5 TJ5 0
theorem nmJ5 : ∀ a, a < 0 → ∀ b, b < 0 → a ≠ b → (TJ5 a).2.1 ≠ (TJ5 b).2.1 := by decide +kernel
theorem tyJ5_ok : ∀ k, k < 0 → parseFieldDescriptor (TJ5 k).2.2.1 = some (tyJ5 k) := by decide +kernel
abbrev cJ5_init_d00df : ByteArray := prog_14_method_2_code
def yJ5_init_d00df : MethodName := ⟨RJ5, "<init>", "(I)V"⟩
abbrev cJ5_length_8abf5 : ByteArray := prog_14_method_6_code
def yJ5_length_8abf5 : MethodName := ⟨RJ5, "length", "()I"⟩
abbrev cJ5_ensureCapacityInternal_d00df : ByteArray := prog_14_method_9_code
def yJ5_ensureCapacityInternal_d00df : MethodName := ⟨RJ5, "ensureCapacityInternal", "(I)V"⟩
abbrev cJ5_newCapacity_0f7a4 : ByteArray := prog_14_method_10_code
def yJ5_newCapacity_0f7a4 : MethodName := ⟨RJ5, "newCapacity", "(I)I"⟩
abbrev cJ5_inflate_da8c8 : ByteArray := prog_14_method_11_code
def yJ5_inflate_da8c8 : MethodName := ⟨RJ5, "inflate", "()V"⟩
abbrev cJ5_setLength_d00df : ByteArray := prog_14_method_13_code
def yJ5_setLength_d00df : MethodName := ⟨RJ5, "setLength", "(I)V"⟩
abbrev cJ5_charAt_5068e : ByteArray := prog_14_method_14_code
def yJ5_charAt_5068e : MethodName := ⟨RJ5, "charAt", "(I)C"⟩
abbrev cJ5_append_cf1ce : ByteArray := prog_14_method_22_code
def yJ5_append_cf1ce : MethodName := ⟨RJ5, "append", "(Ljava/lang/String;)Ljava/lang/AbstractStringBuilder;"⟩
abbrev cJ5_appendNull_278bc : ByteArray := prog_14_method_26_code
def yJ5_appendNull_278bc : MethodName := ⟨RJ5, "appendNull", "()Ljava/lang/AbstractStringBuilder;"⟩
abbrev cJ5_append_3fe6f : ByteArray := prog_14_method_31_code
def yJ5_append_3fe6f : MethodName := ⟨RJ5, "append", "(C)Ljava/lang/AbstractStringBuilder;"⟩
abbrev cJ5_append_c97b9 : ByteArray := prog_14_method_32_code
def yJ5_append_c97b9 : MethodName := ⟨RJ5, "append", "(I)Ljava/lang/AbstractStringBuilder;"⟩
abbrev cJ5_getValue_6d5f1 : ByteArray := prog_14_method_64_code
def yJ5_getValue_6d5f1 : MethodName := ⟨RJ5, "getValue", "()[B"⟩
abbrev cJ5_isLatin1_aae02 : ByteArray := prog_14_method_68_code
def yJ5_isLatin1_aae02 : MethodName := ⟨RJ5, "isLatin1", "()Z"⟩
abbrev cJ5_inflateIfNeededFor_a7421 : ByteArray := prog_14_method_71_code
def yJ5_inflateIfNeededFor_a7421 : MethodName := ⟨RJ5, "inflateIfNeededFor", "(Ljava/lang/String;)V"⟩
abbrev cJ5_putStringAt_47b60 : ByteArray := prog_14_method_73_code
def yJ5_putStringAt_47b60 : MethodName := ⟨RJ5, "putStringAt", "(ILjava/lang/String;)V"⟩
def RJx2cfe8 : String := "java/lang/Appendable"
def TJx2cfe8 : u_T := fun k => match k with
  | _ => ("", "", "", false)
def tyJx2cfe8 : Nat → FieldType := fun k => match k with
  | _ => .int
abbrev wsJx2cfe80 : List Cond := u_ws RJx2cfe8 TJx2cfe8 0
theorem nmJx2cfe8 : ∀ a, a < 0 → ∀ b, b < 0 → a ≠ b → (TJx2cfe8 a).2.1 ≠ (TJx2cfe8 b).2.1 := by decide +kernel
theorem tyJx2cfe8_ok : ∀ k, k < 0 → parseFieldDescriptor (TJx2cfe8 k).2.2.1 = some (tyJx2cfe8 k) := by decide +kernel
def RJx00060 : String := "java/lang/ArrayIndexOutOfBoundsException"
def TJx00060 : u_T := fun k => match k with
  | 0 => ("java/lang/Throwable", "backtrace", "Ljava/lang/Object;", false)
  | 1 => ("java/lang/Throwable", "detailMessage", "Ljava/lang/String;", false)
  | 2 => ("java/lang/Throwable", "cause", "Ljava/lang/Throwable;", false)
  | 3 => ("java/lang/Throwable", "stackTrace", "[Ljava/lang/StackTraceElement;", false)
  | 4 => ("java/lang/Throwable", "depth", "I", false)
  | _ => ("java/lang/Throwable", "suppressedExceptions", "Ljava/util/List;", false)
def tyJx00060 : Nat → FieldType := fun k => match k with
  | 0 => .object "java/lang/Object"
  | 1 => .object "java/lang/String"
  | 2 => .object "java/lang/Throwable"
  | 3 => .array (.object "java/lang/StackTraceElement")
  | 4 => .int
  | _ => .object "java/util/List"
abbrev wsJx000600 : List Cond := u_ws RJx00060 TJx00060 6
theorem nmJx00060 : ∀ a, a < 6 → ∀ b, b < 6 → a ≠ b → (TJx00060 a).2.1 ≠ (TJx00060 b).2.1 := by decide +kernel
theorem tyJx00060_ok : ∀ k, k < 6 → parseFieldDescriptor (TJx00060 k).2.2.1 = some (tyJx00060 k) := by decide +kernel
abbrev cJx00060_init_a7421 : ByteArray := prog_17_method_2_code
def yJx00060_init_a7421 : MethodName := ⟨RJx00060, "<init>", "(Ljava/lang/String;)V"⟩
abbrev cJx00060_init_d00df : ByteArray := prog_17_method_3_code
def yJx00060_init_d00df : MethodName := ⟨RJx00060, "<init>", "(I)V"⟩
def RJx9f9b0 : String := "java/lang/CharSequence"
def TJx9f9b0 : u_T := fun k => match k with
  | _ => ("", "", "", false)
def tyJx9f9b0 : Nat → FieldType := fun k => match k with
  | _ => .int
abbrev wsJx9f9b00 : List Cond := u_ws RJx9f9b0 TJx9f9b0 0
theorem nmJx9f9b0 : ∀ a, a < 0 → ∀ b, b < 0 → a ≠ b → (TJx9f9b0 a).2.1 ≠ (TJx9f9b0 b).2.1 := by decide +kernel
theorem tyJx9f9b0_ok : ∀ k, k < 0 → parseFieldDescriptor (TJx9f9b0 k).2.2.1 = some (tyJx9f9b0 k) := by decide +kernel
def RJx8e188 : String := "java/lang/Cloneable"
def TJx8e188 : u_T := fun k => match k with
  | _ => ("", "", "", false)
def tyJx8e188 : Nat → FieldType := fun k => match k with
  | _ => .int
abbrev wsJx8e1880 : List Cond := u_ws RJx8e188 TJx8e188 0
theorem nmJx8e188 : ∀ a, a < 0 → ∀ b, b < 0 → a ≠ b → (TJx8e188 a).2.1 ≠ (TJx8e188 b).2.1 := by decide +kernel
theorem tyJx8e188_ok : ∀ k, k < 0 → parseFieldDescriptor (TJx8e188 k).2.2.1 = some (tyJx8e188 k) := by decide +kernel
def RJxb160c : String := "java/lang/Comparable"
def TJxb160c : u_T := fun k => match k with
  | _ => ("", "", "", false)
def tyJxb160c : Nat → FieldType := fun k => match k with
  | _ => .int
abbrev wsJxb160c0 : List Cond := u_ws RJxb160c TJxb160c 0
theorem nmJxb160c : ∀ a, a < 0 → ∀ b, b < 0 → a ≠ b → (TJxb160c a).2.1 ≠ (TJxb160c b).2.1 := by decide +kernel
theorem tyJxb160c_ok : ∀ k, k < 0 → parseFieldDescriptor (TJxb160c k).2.2.1 = some (tyJxb160c k) := by decide +kernel
def RJx29ce0 : String := "java/lang/Enum"
def TJx29ce0 : u_T := fun k => match k with
  | _ => ("", "", "", false)
def tyJx29ce0 : Nat → FieldType := fun k => match k with
  | _ => .int
abbrev wsJx29ce00 : List Cond := u_ws RJx29ce0 TJx29ce0 0
theorem nmJx29ce0 : ∀ a, a < 0 → ∀ b, b < 0 → a ≠ b → (TJx29ce0 a).2.1 ≠ (TJx29ce0 b).2.1 := by decide +kernel
theorem tyJx29ce0_ok : ∀ k, k < 0 → parseFieldDescriptor (TJx29ce0 k).2.2.1 = some (tyJx29ce0 k) := by decide +kernel
abbrev cJx29ce0_ordinal_8abf5 : ByteArray := prog_21_method_2_code
def yJx29ce0_ordinal_8abf5 : MethodName := ⟨RJx29ce0, "ordinal", "()I"⟩
def RJ6 : String := "java/lang/Integer"
def TJ6 : u_T := fun k => match k with
  | _ => ("", "", "", false)
def tyJ6 : Nat → FieldType := fun k => match k with
  | _ => .int
abbrev wsJ60 : List Cond := u_ws RJ6 TJ6 0
theorem nmJ6 : ∀ a, a < 0 → ∀ b, b < 0 → a ≠ b → (TJ6 a).2.1 ≠ (TJ6 b).2.1 := by decide +kernel
theorem tyJ6_ok : ∀ k, k < 0 → parseFieldDescriptor (TJ6 k).2.2.1 = some (tyJ6 k) := by decide +kernel
abbrev cJ6_getChars_ba4f3 : ByteArray := prog_25_method_12_code
def yJ6_getChars_ba4f3 : MethodName := ⟨RJ6, "getChars", "(II[B)I"⟩
abbrev cJ6_stringSize_0f7a4 : ByteArray := prog_25_method_13_code
def yJ6_stringSize_0f7a4 : MethodName := ⟨RJ6, "stringSize", "(I)I"⟩
abbrev cJ6_bitCount_0f7a4 : ByteArray := prog_25_method_49_code
def yJ6_bitCount_0f7a4 : MethodName := ⟨RJ6, "bitCount", "(I)I"⟩
def RJ9 : String := "java/lang/Math"
def TJ9 : u_T := fun k => match k with
  | _ => ("", "", "", false)
def tyJ9 : Nat → FieldType := fun k => match k with
  | _ => .int
abbrev wsJ90 : List Cond := u_ws RJ9 TJ9 0
theorem nmJ9 : ∀ a, a < 0 → ∀ b, b < 0 → a ≠ b → (TJ9 a).2.1 ≠ (TJ9 b).2.1 := by decide +kernel
theorem tyJ9_ok : ∀ k, k < 0 → parseFieldDescriptor (TJ9 k).2.2.1 = some (tyJ9 k) := by decide +kernel
abbrev cJ9_max_7cf53 : ByteArray := prog_26_method_65_code
def yJ9_max_7cf53 : MethodName := ⟨RJ9, "max", "(II)I"⟩
abbrev cJ9_min_7cf53 : ByteArray := prog_26_method_69_code
def yJ9_min_7cf53 : MethodName := ⟨RJ9, "min", "(II)I"⟩
def RJxd2413 : String := "java/lang/Number"
def TJxd2413 : u_T := fun k => match k with
  | _ => ("", "", "", false)
def tyJxd2413 : Nat → FieldType := fun k => match k with
  | _ => .int
abbrev wsJxd24130 : List Cond := u_ws RJxd2413 TJxd2413 0
theorem nmJxd2413 : ∀ a, a < 0 → ∀ b, b < 0 → a ≠ b → (TJxd2413 a).2.1 ≠ (TJxd2413 b).2.1 := by decide +kernel
theorem tyJxd2413_ok : ∀ k, k < 0 → parseFieldDescriptor (TJxd2413 k).2.2.1 = some (tyJxd2413 k) := by decide +kernel
def RJ0 : String := "java/lang/String"
def TJ0 : u_T := fun k => match k with
  | 0 => ("java/lang/String", "value", "[B", true)
  | 1 => ("java/lang/String", "coder", "B", true)
  | 2 => ("java/lang/String", "hash", "I", false)
  | _ => ("java/lang/String", "hashIsZero", "Z", false)
def tyJ0 : Nat → FieldType := fun k => match k with
  | 0 => .array .byte
  | 1 => .byte
  | 2 => .int
  | _ => .boolean
abbrev wsJ00 : List Cond := u_ws RJ0 TJ0 4
theorem nmJ0 : ∀ a, a < 4 → ∀ b, b < 4 → a ≠ b → (TJ0 a).2.1 ≠ (TJ0 b).2.1 := by decide +kernel
theorem tyJ0_ok : ∀ k, k < 4 → parseFieldDescriptor (TJ0 k).2.2.1 = some (tyJ0 k) := by decide +kernel
abbrev cJ0_init_81219 : ByteArray := prog_29_method_53_code
def yJ0_init_81219 : MethodName := ⟨RJ0, "<init>", "(Ljava/lang/StringBuilder;)V"⟩
abbrev cJ0_length_8abf5 : ByteArray := prog_29_method_54_code
def yJ0_length_8abf5 : MethodName := ⟨RJ0, "length", "()I"⟩
abbrev cJ0_charAt_5068e : ByteArray := prog_29_method_56_code
def yJ0_charAt_5068e : MethodName := ⟨RJ0, "charAt", "(I)C"⟩
abbrev cJ0_getBytes_840e7 : ByteArray := prog_29_method_147_code
def yJ0_getBytes_840e7 : MethodName := ⟨RJ0, "getBytes", "([BIB)V"⟩
abbrev cJ0_init_db425 : ByteArray := prog_29_method_150_code
def yJ0_init_db425 : MethodName := ⟨RJ0, "<init>", "(Ljava/lang/AbstractStringBuilder;Ljava/lang/Void;)V"⟩
abbrev cJ0_coder_7d493 : ByteArray := prog_29_method_152_code
def yJ0_coder_7d493 : MethodName := ⟨RJ0, "coder", "()B"⟩
abbrev cJ0_isLatin1_aae02 : ByteArray := prog_29_method_154_code
def yJ0_isLatin1_aae02 : MethodName := ⟨RJ0, "isLatin1", "()Z"⟩
abbrev cJ0_checkIndex_df160 : ByteArray := prog_29_method_155_code
def yJ0_checkIndex_df160 : MethodName := ⟨RJ0, "checkIndex", "(II)V"⟩
abbrev cJ0_checkBoundsOffCount_cabcc : ByteArray := prog_29_method_157_code
def yJ0_checkBoundsOffCount_cabcc : MethodName := ⟨RJ0, "checkBoundsOffCount", "(III)I"⟩
abbrev cJ0_checkBoundsBeginEnd_23922 : ByteArray := prog_29_method_158_code
def yJ0_checkBoundsBeginEnd_23922 : MethodName := ⟨RJ0, "checkBoundsBeginEnd", "(III)V"⟩
def RJ4 : String := "java/lang/StringBuilder"
def TJ4 : u_T := fun k => match k with
  | 0 => ("java/lang/AbstractStringBuilder", "value", "[B", false)
  | 1 => ("java/lang/AbstractStringBuilder", "coder", "B", false)
  | 2 => ("java/lang/AbstractStringBuilder", "maybeLatin1", "Z", false)
  | _ => ("java/lang/AbstractStringBuilder", "count", "I", false)
def tyJ4 : Nat → FieldType := fun k => match k with
  | 0 => .array .byte
  | 1 => .byte
  | 2 => .boolean
  | _ => .int
abbrev wsJ40 : List Cond := u_ws RJ4 TJ4 4
theorem nmJ4 : ∀ a, a < 4 → ∀ b, b < 4 → a ≠ b → (TJ4 a).2.1 ≠ (TJ4 b).2.1 := by decide +kernel
theorem tyJ4_ok : ∀ k, k < 4 → parseFieldDescriptor (TJ4 k).2.2.1 = some (tyJ4 k) := by decide +kernel
abbrev cJ4_init_da8c8 : ByteArray := prog_30_method_1_code
def yJ4_init_da8c8 : MethodName := ⟨RJ4, "<init>", "()V"⟩
abbrev cJ4_append_15ec4 : ByteArray := prog_30_method_7_code
def yJ4_append_15ec4 : MethodName := ⟨RJ4, "append", "(Ljava/lang/String;)Ljava/lang/StringBuilder;"⟩
abbrev cJ4_append_cf468 : ByteArray := prog_30_method_14_code
def yJ4_append_cf468 : MethodName := ⟨RJ4, "append", "(C)Ljava/lang/StringBuilder;"⟩
abbrev cJ4_append_bf812 : ByteArray := prog_30_method_15_code
def yJ4_append_bf812 : MethodName := ⟨RJ4, "append", "(I)Ljava/lang/StringBuilder;"⟩
abbrev cJ4_toString_0e30d : ByteArray := prog_30_method_42_code
def yJ4_toString_0e30d : MethodName := ⟨RJ4, "toString", "()Ljava/lang/String;"⟩
abbrev cJ4_charAt_5068e : ByteArray := prog_30_method_88_code
def yJ4_charAt_5068e : MethodName := ⟨RJ4, "charAt", "(I)C"⟩
abbrev cJ4_setLength_d00df : ByteArray := prog_30_method_89_code
def yJ4_setLength_d00df : MethodName := ⟨RJ4, "setLength", "(I)V"⟩
abbrev cJ4_length_8abf5 : ByteArray := prog_30_method_93_code
def yJ4_length_8abf5 : MethodName := ⟨RJ4, "length", "()I"⟩
def RJx7c733 : String := "java/lang/StringIndexOutOfBoundsException"
def TJx7c733 : u_T := fun k => match k with
  | 0 => ("java/lang/Throwable", "backtrace", "Ljava/lang/Object;", false)
  | 1 => ("java/lang/Throwable", "detailMessage", "Ljava/lang/String;", false)
  | 2 => ("java/lang/Throwable", "cause", "Ljava/lang/Throwable;", false)
  | 3 => ("java/lang/Throwable", "stackTrace", "[Ljava/lang/StackTraceElement;", false)
  | 4 => ("java/lang/Throwable", "depth", "I", false)
  | _ => ("java/lang/Throwable", "suppressedExceptions", "Ljava/util/List;", false)
def tyJx7c733 : Nat → FieldType := fun k => match k with
  | 0 => .object "java/lang/Object"
  | 1 => .object "java/lang/String"
  | 2 => .object "java/lang/Throwable"
  | 3 => .array (.object "java/lang/StackTraceElement")
  | 4 => .int
  | _ => .object "java/util/List"
abbrev wsJx7c7330 : List Cond := u_ws RJx7c733 TJx7c733 6
theorem nmJx7c733 : ∀ a, a < 6 → ∀ b, b < 6 → a ≠ b → (TJx7c733 a).2.1 ≠ (TJx7c733 b).2.1 := by decide +kernel
theorem tyJx7c733_ok : ∀ k, k < 6 → parseFieldDescriptor (TJx7c733 k).2.2.1 = some (tyJx7c733 k) := by decide +kernel
abbrev cJx7c733_init_d00df : ByteArray := prog_31_method_3_code
def yJx7c733_init_d00df : MethodName := ⟨RJx7c733, "<init>", "(I)V"⟩
def RJ1 : String := "java/lang/StringLatin1"
def TJ1 : u_T := fun k => match k with
  | _ => ("", "", "", false)
def tyJ1 : Nat → FieldType := fun k => match k with
  | _ => .int
abbrev wsJ10 : List Cond := u_ws RJ1 TJ1 0
theorem nmJ1 : ∀ a, a < 0 → ∀ b, b < 0 → a ≠ b → (TJ1 a).2.1 ≠ (TJ1 b).2.1 := by decide +kernel
theorem tyJ1_ok : ∀ k, k < 0 → parseFieldDescriptor (TJ1 k).2.2.1 = some (tyJ1 k) := by decide +kernel
abbrev cJ1_charAt_3b067 : ByteArray := prog_32_method_2_code
def yJ1_charAt_3b067 : MethodName := ⟨RJ1, "charAt", "([BI)C"⟩
abbrev cJ1_canEncode_fc78d : ByteArray := prog_32_method_3_code
def yJ1_canEncode_fc78d : MethodName := ⟨RJ1, "canEncode", "(C)Z"⟩
abbrev cJ1_fillNull_b72d1 : ByteArray := prog_32_method_48_code
def yJ1_fillNull_b72d1 : MethodName := ⟨RJ1, "fillNull", "([BII)V"⟩
abbrev cJ1_inflate_0e8fd : ByteArray := prog_32_method_50_code
def yJ1_inflate_0e8fd : MethodName := ⟨RJ1, "inflate", "([BI[BII)V"⟩
def RJ2 : String := "java/lang/StringUTF16"
def TJ2 : u_T := fun k => match k with
  | _ => ("", "", "", false)
def tyJ2 : Nat → FieldType := fun k => match k with
  | _ => .int
abbrev wsJ20 : List Cond := u_ws RJ2 TJ2 0
theorem nmJ2 : ∀ a, a < 0 → ∀ b, b < 0 → a ≠ b → (TJ2 a).2.1 ≠ (TJ2 b).2.1 := by decide +kernel
theorem tyJ2_ok : ∀ k, k < 0 → parseFieldDescriptor (TJ2 k).2.2.1 = some (tyJ2 k) := by decide +kernel
abbrev cJ2_newBytesFor_77867 : ByteArray := prog_33_method_2_code
def yJ2_newBytesFor_77867 : MethodName := ⟨RJ2, "newBytesFor", "(I)[B"⟩
abbrev cJ2_newBytesLength_0f7a4 : ByteArray := prog_33_method_3_code
def yJ2_newBytesLength_0f7a4 : MethodName := ⟨RJ2, "newBytesLength", "(I)I"⟩
abbrev cJ2_putChar_b72d1 : ByteArray := prog_33_method_4_code
def yJ2_putChar_b72d1 : MethodName := ⟨RJ2, "putChar", "([BII)V"⟩
abbrev cJ2_getChar_3b067 : ByteArray := prog_33_method_5_code
def yJ2_getChar_3b067 : MethodName := ⟨RJ2, "getChar", "([BI)C"⟩
abbrev cJ2_length_9d52b : ByteArray := prog_33_method_6_code
def yJ2_length_9d52b : MethodName := ⟨RJ2, "length", "([B)I"⟩
abbrev cJ2_coderFromArrayLen_85cad : ByteArray := prog_33_method_15_code
def yJ2_coderFromArrayLen_85cad : MethodName := ⟨RJ2, "coderFromArrayLen", "([BI)B"⟩
abbrev cJ2_compress_39247 : ByteArray := prog_33_method_17_code
def yJ2_compress_39247 : MethodName := ⟨RJ2, "compress", "([BII)[B"⟩
abbrev cJ2_compress_5af95 : ByteArray := prog_33_method_22_code
def yJ2_compress_5af95 : MethodName := ⟨RJ2, "compress", "([BI[BII)I"⟩
abbrev cJ2_fillNull_b72d1 : ByteArray := prog_33_method_70_code
def yJ2_fillNull_b72d1 : MethodName := ⟨RJ2, "fillNull", "([BII)V"⟩
abbrev cJ2_putCharSB_b72d1 : ByteArray := prog_33_method_71_code
def yJ2_putCharSB_b72d1 : MethodName := ⟨RJ2, "putCharSB", "([BII)V"⟩
abbrev cJ2_getChars_46870 : ByteArray := prog_33_method_77_code
def yJ2_getChars_46870 : MethodName := ⟨RJ2, "getChars", "(III[B)I"⟩
abbrev cJ2_putCharsAt_cd4e5 : ByteArray := prog_33_method_81_code
def yJ2_putCharsAt_cd4e5 : MethodName := ⟨RJ2, "putCharsAt", "([BICCCC)I"⟩
abbrev cJ2_charAt_3b067 : ByteArray := prog_33_method_83_code
def yJ2_charAt_3b067 : MethodName := ⟨RJ2, "charAt", "([BI)C"⟩
abbrev cJ2_inflate_0e8fd : ByteArray := prog_33_method_86_code
def yJ2_inflate_0e8fd : MethodName := ⟨RJ2, "inflate", "([BI[BII)V"⟩
abbrev cJ2_getChars_ba4f3 : ByteArray := prog_33_method_89_code
def yJ2_getChars_ba4f3 : MethodName := ⟨RJ2, "getChars", "(II[B)I"⟩
abbrev cJ2_checkIndex_2214a : ByteArray := prog_33_method_91_code
def yJ2_checkIndex_2214a : MethodName := ⟨RJ2, "checkIndex", "(I[B)V"⟩
abbrev cJ2_checkBoundsBeginEnd_d044e : ByteArray := prog_33_method_93_code
def yJ2_checkBoundsBeginEnd_d044e : MethodName := ⟨RJ2, "checkBoundsBeginEnd", "(II[B)V"⟩
abbrev cJ2_checkBoundsOffCount_d044e : ByteArray := prog_33_method_94_code
def yJ2_checkBoundsOffCount_d044e : MethodName := ⟨RJ2, "checkBoundsOffCount", "(II[B)V"⟩
def RJ10 : String := "java/lang/System"
def TJ10 : u_T := fun k => match k with
  | _ => ("", "", "", false)
def tyJ10 : Nat → FieldType := fun k => match k with
  | _ => .int
abbrev wsJ100 : List Cond := u_ws RJ10 TJ10 0
theorem nmJ10 : ∀ a, a < 0 → ∀ b, b < 0 → a ≠ b → (TJ10 a).2.1 ≠ (TJ10 b).2.1 := by decide +kernel
theorem tyJ10_ok : ∀ k, k < 0 → parseFieldDescriptor (TJ10 k).2.2.1 = some (tyJ10 k) := by decide +kernel
def RJxfd54e : String := "java/lang/constant/Constable"
def TJxfd54e : u_T := fun k => match k with
  | _ => ("", "", "", false)
def tyJxfd54e : Nat → FieldType := fun k => match k with
  | _ => .int
abbrev wsJxfd54e0 : List Cond := u_ws RJxfd54e TJxfd54e 0
theorem nmJxfd54e : ∀ a, a < 0 → ∀ b, b < 0 → a ≠ b → (TJxfd54e a).2.1 ≠ (TJxfd54e b).2.1 := by decide +kernel
theorem tyJxfd54e_ok : ∀ k, k < 0 → parseFieldDescriptor (TJxfd54e k).2.2.1 = some (tyJxfd54e k) := by decide +kernel
def RJx3cf43 : String := "java/lang/constant/ConstantDesc"
def TJx3cf43 : u_T := fun k => match k with
  | _ => ("", "", "", false)
def tyJx3cf43 : Nat → FieldType := fun k => match k with
  | _ => .int
abbrev wsJx3cf430 : List Cond := u_ws RJx3cf43 TJx3cf43 0
theorem nmJx3cf43 : ∀ a, a < 0 → ∀ b, b < 0 → a ≠ b → (TJx3cf43 a).2.1 ≠ (TJx3cf43 b).2.1 := by decide +kernel
theorem tyJx3cf43_ok : ∀ k, k < 0 → parseFieldDescriptor (TJx3cf43 k).2.2.1 = some (tyJx3cf43 k) := by decide +kernel
def RJ7 : String := "java/util/Arrays"
def TJ7 : u_T := fun k => match k with
  | _ => ("", "", "", false)
def tyJ7 : Nat → FieldType := fun k => match k with
  | _ => .int
abbrev wsJ70 : List Cond := u_ws RJ7 TJ7 0
theorem nmJ7 : ∀ a, a < 0 → ∀ b, b < 0 → a ≠ b → (TJ7 a).2.1 ≠ (TJ7 b).2.1 := by decide +kernel
theorem tyJ7_ok : ∀ k, k < 0 → parseFieldDescriptor (TJ7 k).2.2.1 = some (tyJ7 k) := by decide +kernel
abbrev cJ7_rangeCheck_23922 : ByteArray := prog_39_method_30_code
def yJ7_rangeCheck_23922 : MethodName := ⟨RJ7, "rangeCheck", "(III)V"⟩
abbrev cJ7_fill_eb02e : ByteArray := prog_39_method_110_code
def yJ7_fill_eb02e : MethodName := ⟨RJ7, "fill", "([BIIB)V"⟩
abbrev cJ7_copyOf_9075b : ByteArray := prog_39_method_121_code
def yJ7_copyOf_9075b : MethodName := ⟨RJ7, "copyOf", "([BI)[B"⟩
abbrev cJ7_checkLength_df160 : ByteArray := prog_39_method_131_code
def yJ7_checkLength_df160 : MethodName := ⟨RJ7, "checkLength", "(II)V"⟩
abbrev cJ7_copyOfRange_39247 : ByteArray := prog_39_method_132_code
def yJ7_copyOfRange_39247 : MethodName := ⟨RJ7, "copyOfRange", "([BII)[B"⟩
abbrev cJ7_copyOfRangeByte_39247 : ByteArray := prog_39_method_133_code
def yJ7_copyOfRangeByte_39247 : MethodName := ⟨RJ7, "copyOfRangeByte", "([BII)[B"⟩
def RJ8 : String := "jdk/internal/util/ArraysSupport"
def TJ8 : u_T := fun k => match k with
  | _ => ("", "", "", false)
def tyJ8 : Nat → FieldType := fun k => match k with
  | _ => .int
abbrev wsJ80 : List Cond := u_ws RJ8 TJ8 0
theorem nmJ8 : ∀ a, a < 0 → ∀ b, b < 0 → a ≠ b → (TJ8 a).2.1 ≠ (TJ8 b).2.1 := by decide +kernel
theorem tyJ8_ok : ∀ k, k < 0 → parseFieldDescriptor (TJ8 k).2.2.1 = some (tyJ8 k) := by decide +kernel
abbrev cJ8_newLength_cabcc : ByteArray := prog_41_method_27_code
def yJ8_newLength_cabcc : MethodName := ⟨RJ8, "newLength", "(III)I"⟩
abbrev cJ8_hugeLength_7cf53 : ByteArray := prog_41_method_28_code
def yJ8_hugeLength_7cf53 : MethodName := ⟨RJ8, "hugeLength", "(II)I"⟩
def RJ3 : String := "jdk/internal/util/Preconditions"
def TJ3 : u_T := fun k => match k with
  | _ => ("", "", "", false)
def tyJ3 : Nat → FieldType := fun k => match k with
  | _ => .int
abbrev wsJ30 : List Cond := u_ws RJ3 TJ3 0
theorem nmJ3 : ∀ a, a < 0 → ∀ b, b < 0 → a ≠ b → (TJ3 a).2.1 ≠ (TJ3 b).2.1 := by decide +kernel
theorem tyJ3_ok : ∀ k, k < 0 → parseFieldDescriptor (TJ3 k).2.2.1 = some (tyJ3 k) := by decide +kernel
abbrev cJ3_checkIndex_8e157 : ByteArray := prog_42_method_11_code
def yJ3_checkIndex_8e157 : MethodName := ⟨RJ3, "checkIndex", "(IILjava/util/function/BiFunction;)I"⟩
abbrev cJ3_checkFromToIndex_8c36e : ByteArray := prog_42_method_12_code
def yJ3_checkFromToIndex_8c36e : MethodName := ⟨RJ3, "checkFromToIndex", "(IIILjava/util/function/BiFunction;)I"⟩
abbrev cJ3_checkFromIndexSize_8c36e : ByteArray := prog_42_method_13_code
def yJ3_checkFromIndexSize_8c36e : MethodName := ⟨RJ3, "checkFromIndexSize", "(IIILjava/util/function/BiFunction;)I"⟩
def RL : String := "EchoCouncilLaw"
abbrev cL_cell : ByteArray := method_2_code
def yL_cell : MethodName := ⟨RL, "cell", "([II)I"⟩
abbrev cL_pick : ByteArray := method_3_code
def yL_pick : MethodName := ⟨RL, "pick", "([III)I"⟩
abbrev cL_plain : ByteArray := method_5_code
def yL_plain : MethodName := ⟨RL, "plain", "(LEchoCouncil;IIII)I"⟩
abbrev cL_deed : ByteArray := method_6_code
def yL_deed : MethodName := ⟨RL, "deed", "(LEchoCouncil;IIII)I"⟩
abbrev cL_asked : ByteArray := method_7_code
def yL_asked : MethodName := ⟨RL, "asked", "(LEchoCouncil;III)I"⟩
abbrev cL_ask : ByteArray := method_8_code
def yL_ask : MethodName := ⟨RL, "ask", "(LEchoCouncil;III)I"⟩
abbrev cL_lay : ByteArray := method_9_code
def yL_lay : MethodName := ⟨RL, "lay", "(LEchoCouncil;[I)V"⟩
abbrev cL_any : ByteArray := method_10_code
def yL_any : MethodName := ⟨RL, "any", "(LEchoCouncil;[II)I"⟩
abbrev cL_singersIn : ByteArray := method_12_code
def yL_singersIn : MethodName := ⟨RL, "singersIn", "(LEchoCouncil;I)I"⟩
abbrev cL_backOf : ByteArray := method_13_code
def yL_backOf : MethodName := ⟨RL, "backOf", "(LEchoCouncil;I)I"⟩
abbrev cL_tones : ByteArray := method_14_code
def yL_tones : MethodName := ⟨RL, "tones", "(LEchoCouncil;III)I"⟩
abbrev cL_isSingerRight : ByteArray := method_15_code
def yL_isSingerRight : MethodName := ⟨RL, "isSingerRight", "(LEchoCouncil;I)Z"⟩
abbrev cL_areRoomsRight : ByteArray := method_16_code
def yL_areRoomsRight : MethodName := ⟨RL, "areRoomsRight", "(LEchoCouncil;)Z"⟩
abbrev cL_areEchoesRight : ByteArray := method_17_code
def yL_areEchoesRight : MethodName := ⟨RL, "areEchoesRight", "(LEchoCouncil;)Z"⟩
abbrev cL_rank : ByteArray := method_18_code
def yL_rank : MethodName := ⟨RL, "rank", "(LEchoCouncil;II)I"⟩
abbrev cL_areRanksRight : ByteArray := method_19_code
def yL_areRanksRight : MethodName := ⟨RL, "areRanksRight", "(LEchoCouncil;)Z"⟩
abbrev cL_isLine : ByteArray := method_20_code
def yL_isLine : MethodName := ⟨RL, "isLine", "(LEchoCouncil;ILjava/lang/String;)Z"⟩
abbrev cL_areLinesRight : ByteArray := method_21_code
def yL_areLinesRight : MethodName := ⟨RL, "areLinesRight", "(LEchoCouncil;)Z"⟩
abbrev cL_law : ByteArray := code
def yL_law : MethodName := ⟨RL, "law", "([I)Z"⟩
abbrev vwCl : List vw_C := [(RJ0, TJ0, 4), (RJ4, TJ4, 4), (RJx00060, TJx00060, 6), (RJx7c733, TJx7c733, 6), (RX1, TX1, 6), (RX3, TX3, 7), (RX4, TX4, 3), (RX5, TX5, 6), (RX6, TX6, 4), (RX7, TX7, 6), (RX8, TX8, 7), (RX9, TX9, 8)]
def TW : List Cond := lw_tbl.filter goodWord
theorem tk_1 {w : Cond} (h : w ∈ tables_1_1) : w ∈ lw_tbl := List.mem_append_right _ (show w ∈ tables_1 from List.mem_append_left _ h)
theorem tk_2 {w : Cond} (h : w ∈ tables_1_2) : w ∈ lw_tbl := List.mem_append_right _ (show w ∈ tables_1 from List.mem_append_right _ (List.mem_append_left _ h))
theorem tk_3 {w : Cond} (h : w ∈ tables_1_3) : w ∈ lw_tbl := List.mem_append_right _ (show w ∈ tables_1 from List.mem_append_right _ (List.mem_append_right _ (List.mem_append_left _ h)))
theorem tk_4 {w : Cond} (h : w ∈ tables_1_4) : w ∈ lw_tbl := List.mem_append_right _ (show w ∈ tables_1 from List.mem_append_right _ (List.mem_append_right _ (List.mem_append_right _ (List.mem_append_left _ h))))
theorem tk_5 {w : Cond} (h : w ∈ tables_1_5) : w ∈ lw_tbl := List.mem_append_right _ (show w ∈ tables_1 from List.mem_append_right _ (List.mem_append_right _ (List.mem_append_right _ (List.mem_append_right _ (List.mem_append_left _ h)))))
theorem tk_6 {w : Cond} (h : w ∈ tables_1_6) : w ∈ lw_tbl := List.mem_append_right _ (show w ∈ tables_1 from List.mem_append_right _ (List.mem_append_right _ (List.mem_append_right _ (List.mem_append_right _ (List.mem_append_right _ (List.mem_append_left _ h))))))
theorem tk_7 {w : Cond} (h : w ∈ tables_1_7) : w ∈ lw_tbl := List.mem_append_right _ (show w ∈ tables_1 from List.mem_append_right _ (List.mem_append_right _ (List.mem_append_right _ (List.mem_append_right _ (List.mem_append_right _ (List.mem_append_right _ (h)))))))
theorem tk_w {w : Cond} (h : w ∈ lw_tbl) (g : goodWord w = true) : w ∈ TW := List.mem_filter.mpr ⟨h, g⟩
theorem tw_0 : (Cond.initialized "EchoCouncilLaw") ∈ lw_tbl := tk_1 (List.mem_of_getElem? (i := 0) (by decide +kernel))
theorem tw_1 : (Cond.initialized "EchoCouncil") ∈ lw_tbl := tk_1 (List.mem_of_getElem? (i := 1) (by decide +kernel))
theorem tw_2 : (Cond.initialized "EchoCouncil$State") ∈ lw_tbl := tk_1 (List.mem_of_getElem? (i := 2) (by decide +kernel))
theorem tw_3 : (Cond.initialized "EchoCouncil$Rooms") ∈ lw_tbl := tk_1 (List.mem_of_getElem? (i := 3) (by decide +kernel))
theorem tw_4 : (Cond.initialized "EchoCouncil$Echoes") ∈ lw_tbl := tk_1 (List.mem_of_getElem? (i := 4) (by decide +kernel))
theorem tw_5 : (Cond.initialized "EchoCouncil$Singers") ∈ lw_tbl := tk_1 (List.mem_of_getElem? (i := 5) (by decide +kernel))
theorem tw_6 : (Cond.initialized "EchoCouncil$Past") ∈ lw_tbl := tk_1 (List.mem_of_getElem? (i := 6) (by decide +kernel))
theorem tw_7 : (Cond.initialized "EchoCouncil$OrderText") ∈ lw_tbl := tk_1 (List.mem_of_getElem? (i := 7) (by decide +kernel))
theorem tw_8 : (Cond.initialized "java/lang/Enum") ∈ lw_tbl := tk_1 (List.mem_of_getElem? (i := 8) (by decide +kernel))
theorem tw_9 : (Cond.initialized "EchoCouncil$OrderKind") ∈ lw_tbl := tk_1 (List.mem_of_getElem? (i := 9) (by decide +kernel))
theorem tw_10 : (Cond.initialized "EchoCouncil$Refusal") ∈ lw_tbl := tk_1 (List.mem_of_getElem? (i := 10) (by decide +kernel))
theorem tw_11 : (Cond.initialized "java/lang/AbstractStringBuilder") ∈ lw_tbl := tk_1 (List.mem_of_getElem? (i := 11) (by decide +kernel))
theorem tw_12 : (Cond.initialized "java/lang/StringBuilder") ∈ lw_tbl := tk_1 (List.mem_of_getElem? (i := 12) (by decide +kernel))
theorem tw_13 : (Cond.initialized "java/lang/String") ∈ lw_tbl := tk_1 (List.mem_of_getElem? (i := 13) (by decide +kernel))
theorem tw_14 : (Cond.initialized "java/lang/StringUTF16") ∈ lw_tbl := tk_1 (List.mem_of_getElem? (i := 14) (by decide +kernel))
theorem tw_15 : (Cond.initialized "EchoCouncil$1") ∈ lw_tbl := tk_1 (List.mem_of_getElem? (i := 15) (by decide +kernel))
theorem tw_16 : (Cond.initialized "java/lang/Number") ∈ lw_tbl := tk_1 (List.mem_of_getElem? (i := 16) (by decide +kernel))
theorem tw_17 : (Cond.initialized "java/lang/Integer") ∈ lw_tbl := tk_1 (List.mem_of_getElem? (i := 17) (by decide +kernel))
theorem tw_18 : (Cond.initialized "java/lang/Throwable") ∈ lw_tbl := tk_1 (List.mem_of_getElem? (i := 18) (by decide +kernel))
theorem tw_19 : (Cond.initialized "java/lang/Exception") ∈ lw_tbl := tk_1 (List.mem_of_getElem? (i := 19) (by decide +kernel))
theorem tw_20 : (Cond.initialized "java/lang/RuntimeException") ∈ lw_tbl := tk_1 (List.mem_of_getElem? (i := 20) (by decide +kernel))
theorem tw_21 : (Cond.initialized "java/lang/UnsupportedOperationException") ∈ lw_tbl := tk_1 (List.mem_of_getElem? (i := 21) (by decide +kernel))
theorem tw_22 : (Cond.initialized "java/lang/System") ∈ lw_tbl := tk_1 (List.mem_of_getElem? (i := 22) (by decide +kernel))
theorem tw_23 : (Cond.initialized "java/lang/Math") ∈ lw_tbl := tk_1 (List.mem_of_getElem? (i := 23) (by decide +kernel))
theorem tw_24 : (Cond.initialized "java/lang/StringLatin1") ∈ lw_tbl := tk_1 (List.mem_of_getElem? (i := 24) (by decide +kernel))
theorem tw_25 : (Cond.initialized "jdk/internal/util/Preconditions") ∈ lw_tbl := tk_1 (List.mem_of_getElem? (i := 25) (by decide +kernel))
theorem tw_26 : (Cond.initialized "java/lang/IllegalArgumentException") ∈ lw_tbl := tk_1 (List.mem_of_getElem? (i := 26) (by decide +kernel))
theorem tw_27 : (Cond.initialized "java/lang/IndexOutOfBoundsException") ∈ lw_tbl := tk_1 (List.mem_of_getElem? (i := 27) (by decide +kernel))
theorem tw_28 : (Cond.initialized "java/lang/ArrayIndexOutOfBoundsException") ∈ lw_tbl := tk_1 (List.mem_of_getElem? (i := 28) (by decide +kernel))
theorem tw_29 : (Cond.initialized "java/util/NoSuchElementException") ∈ lw_tbl := tk_1 (List.mem_of_getElem? (i := 29) (by decide +kernel))
theorem tw_30 : (Cond.initialized "java/lang/ArithmeticException") ∈ lw_tbl := tk_1 (List.mem_of_getElem? (i := 30) (by decide +kernel))
theorem tw_31 : (Cond.initialized "jdk/internal/util/ArraysSupport") ∈ lw_tbl := tk_1 (List.mem_of_getElem? (i := 31) (by decide +kernel))
theorem tw_32 : (Cond.initialized "java/util/Arrays") ∈ lw_tbl := tk_1 (List.mem_of_getElem? (i := 32) (by decide +kernel))
theorem tw_33 : (Cond.initialized "java/lang/StringIndexOutOfBoundsException") ∈ lw_tbl := tk_1 (List.mem_of_getElem? (i := 33) (by decide +kernel))
theorem tw_34 : (Cond.classLink "EchoCouncilLaw" 26 "EchoCouncil") ∈ lw_tbl := tk_1 (List.mem_of_getElem? (i := 34) (by decide +kernel))
theorem tw_35 : (Cond.instantiable "EchoCouncil" 8) ∈ lw_tbl := tk_1 (List.mem_of_getElem? (i := 35) (by decide +kernel))
theorem tw_36 : (Cond.methodLink "EchoCouncilLaw" 246 ⟨"EchoCouncil", "<init>", "()V"⟩) ∈ lw_tbl := tk_1 (List.mem_of_getElem? (i := 36) (by decide +kernel))
theorem tw_37 : (Cond.instanceMethod ⟨"EchoCouncil", "<init>", "()V"⟩) ∈ lw_tbl := tk_1 (List.mem_of_getElem? (i := 37) (by decide +kernel))
theorem tw_38 : (Cond.code ⟨"EchoCouncil", "<init>", "()V"⟩ prog_1_method_1_code 1 none) ∈ lw_tbl := tk_1 (List.mem_of_getElem? (i := 38) (by decide +kernel))
theorem tw_39 : (Cond.methodLink "EchoCouncil" 1 ⟨"java/lang/Object", "<init>", "()V"⟩) ∈ lw_tbl := tk_1 (List.mem_of_getElem? (i := 39) (by decide +kernel))
theorem tw_40 : (Cond.instanceMethod ⟨"java/lang/Object", "<init>", "()V"⟩) ∈ lw_tbl := tk_1 (List.mem_of_getElem? (i := 40) (by decide +kernel))
theorem tw_41 : (Cond.code ⟨"java/lang/Object", "<init>", "()V"⟩ object_method_1_code 1 none) ∈ lw_tbl := tk_1 (List.mem_of_getElem? (i := 41) (by decide +kernel))
theorem tw_42 : (Cond.classLink "EchoCouncil" 7 "EchoCouncil$State") ∈ lw_tbl := tk_1 (List.mem_of_getElem? (i := 42) (by decide +kernel))
theorem tw_43 : (Cond.instantiable "EchoCouncil$State" 7) ∈ lw_tbl := tk_1 (List.mem_of_getElem? (i := 43) (by decide +kernel))
theorem tw_44 : (Cond.methodLinkNest "EchoCouncil" 9 ⟨"EchoCouncil$State", "<init>", "()V"⟩ "EchoCouncil") ∈ lw_tbl := tk_1 (List.mem_of_getElem? (i := 44) (by decide +kernel))
theorem tw_45 : (Cond.instanceMethod ⟨"EchoCouncil$State", "<init>", "()V"⟩) ∈ lw_tbl := tk_1 (List.mem_of_getElem? (i := 45) (by decide +kernel))
theorem tw_46 : (Cond.code ⟨"EchoCouncil$State", "<init>", "()V"⟩ prog_10_method_1_code 1 none) ∈ lw_tbl := tk_1 (List.mem_of_getElem? (i := 46) (by decide +kernel))
theorem tw_47 : (Cond.methodLink "EchoCouncil$State" 3 ⟨"java/lang/Object", "<init>", "()V"⟩) ∈ lw_tbl := tk_1 (List.mem_of_getElem? (i := 47) (by decide +kernel))
theorem tw_48 : (Cond.classLink "EchoCouncil$State" 9 "EchoCouncil$Rooms") ∈ lw_tbl := tk_1 (List.mem_of_getElem? (i := 48) (by decide +kernel))
theorem tw_49 : (Cond.instantiable "EchoCouncil$Rooms" 4) ∈ lw_tbl := tk_1 (List.mem_of_getElem? (i := 49) (by decide +kernel))
theorem tw_50 : (Cond.methodLinkNest "EchoCouncil$State" 11 ⟨"EchoCouncil$Rooms", "<init>", "()V"⟩ "EchoCouncil") ∈ lw_tbl := tk_1 (List.mem_of_getElem? (i := 50) (by decide +kernel))
theorem tw_51 : (Cond.instanceMethod ⟨"EchoCouncil$Rooms", "<init>", "()V"⟩) ∈ lw_tbl := tk_1 (List.mem_of_getElem? (i := 51) (by decide +kernel))
theorem tw_52 : (Cond.code ⟨"EchoCouncil$Rooms", "<init>", "()V"⟩ prog_8_method_1_code 1 none) ∈ lw_tbl := tk_1 (List.mem_of_getElem? (i := 52) (by decide +kernel))
theorem tw_53 : (Cond.methodLink "EchoCouncil$Rooms" 3 ⟨"java/lang/Object", "<init>", "()V"⟩) ∈ lw_tbl := tk_1 (List.mem_of_getElem? (i := 53) (by decide +kernel))
theorem tw_54 : (Cond.fieldLink "EchoCouncil$Rooms" 21 "EchoCouncil$Rooms" "count" "I") ∈ lw_tbl := tk_1 (List.mem_of_getElem? (i := 54) (by decide +kernel))
theorem tw_55 : (Cond.fieldLink "EchoCouncil$State" 55 "EchoCouncil$Rooms" "count" "I") ∈ lw_tbl := tk_1 (List.mem_of_getElem? (i := 55) (by decide +kernel))
theorem tw_56 : (Cond.fieldLink "EchoCouncil" 200 "EchoCouncil$Rooms" "count" "I") ∈ lw_tbl := tk_1 (List.mem_of_getElem? (i := 56) (by decide +kernel))
theorem tw_57 : (Cond.fieldLink "EchoCouncil$Rooms" 9 "EchoCouncil$Rooms" "size" "[I") ∈ lw_tbl := tk_1 (List.mem_of_getElem? (i := 57) (by decide +kernel))
theorem tw_58 : (Cond.fieldLink "EchoCouncil$State" 83 "EchoCouncil$Rooms" "size" "[I") ∈ lw_tbl := tk_1 (List.mem_of_getElem? (i := 58) (by decide +kernel))
theorem tw_59 : (Cond.fieldLink "EchoCouncil" 100 "EchoCouncil$Rooms" "size" "[I") ∈ lw_tbl := tk_1 (List.mem_of_getElem? (i := 59) (by decide +kernel))
theorem tw_60 : (Cond.fieldLink "EchoCouncil$Rooms" 15 "EchoCouncil$Rooms" "damp" "[I") ∈ lw_tbl := tk_1 (List.mem_of_getElem? (i := 60) (by decide +kernel))
theorem tw_61 : (Cond.fieldLink "EchoCouncil" 106 "EchoCouncil$Rooms" "damp" "[I") ∈ lw_tbl := tk_1 (List.mem_of_getElem? (i := 61) (by decide +kernel))
theorem tw_62 : (Cond.fieldLink "EchoCouncil$State" 93 "EchoCouncil$Rooms" "damp" "[I") ∈ lw_tbl := tk_1 (List.mem_of_getElem? (i := 62) (by decide +kernel))
theorem tw_63 : (Cond.fieldLink "EchoCouncil$Rooms" 18 "EchoCouncil$Rooms" "verses" "[I") ∈ lw_tbl := tk_1 (List.mem_of_getElem? (i := 63) (by decide +kernel))
theorem tw_64 : (Cond.fieldLink "EchoCouncil" 124 "EchoCouncil$Rooms" "verses" "[I") ∈ lw_tbl := tk_1 (List.mem_of_getElem? (i := 64) (by decide +kernel))
theorem tw_65 : (Cond.fieldLink "EchoCouncil$State" 128 "EchoCouncil$Rooms" "verses" "[I") ∈ lw_tbl := tk_1 (List.mem_of_getElem? (i := 65) (by decide +kernel))
theorem tw_66 : (Cond.lays "EchoCouncil$Rooms" "EchoCouncil$Rooms" "count" "I") ∈ lw_tbl := tk_1 (List.mem_of_getElem? (i := 66) (by decide +kernel))
theorem tw_67 : (Cond.soleField "EchoCouncil$Rooms" "count") ∈ lw_tbl := tk_1 (List.mem_of_getElem? (i := 67) (by decide +kernel))
theorem tw_68 : (Cond.laysFinal "EchoCouncil$Rooms" "EchoCouncil$Rooms" "size" "[I") ∈ lw_tbl := tk_1 (List.mem_of_getElem? (i := 68) (by decide +kernel))
theorem tw_69 : (Cond.soleField "EchoCouncil$Rooms" "size") ∈ lw_tbl := tk_1 (List.mem_of_getElem? (i := 69) (by decide +kernel))
theorem tw_70 : (Cond.laysFinal "EchoCouncil$Rooms" "EchoCouncil$Rooms" "damp" "[I") ∈ lw_tbl := tk_1 (List.mem_of_getElem? (i := 70) (by decide +kernel))
theorem tw_71 : (Cond.soleField "EchoCouncil$Rooms" "damp") ∈ lw_tbl := tk_1 (List.mem_of_getElem? (i := 71) (by decide +kernel))
theorem tw_72 : (Cond.laysFinal "EchoCouncil$Rooms" "EchoCouncil$Rooms" "verses" "[I") ∈ lw_tbl := tk_1 (List.mem_of_getElem? (i := 72) (by decide +kernel))
theorem tw_73 : (Cond.soleField "EchoCouncil$Rooms" "verses") ∈ lw_tbl := tk_1 (List.mem_of_getElem? (i := 73) (by decide +kernel))
theorem tw_74 : (Cond.superclass "EchoCouncil$Rooms" "java/lang/Object") ∈ lw_tbl := tk_1 (List.mem_of_getElem? (i := 74) (by decide +kernel))
theorem tw_75 : (Cond.arrayClass FieldType.int) ∈ lw_tbl := tk_1 (List.mem_of_getElem? (i := 75) (by decide +kernel))
theorem tw_76 : (Cond.classLink "EchoCouncil$State" 18 "EchoCouncil$Echoes") ∈ lw_tbl := tk_1 (List.mem_of_getElem? (i := 76) (by decide +kernel))
theorem tw_77 : (Cond.instantiable "EchoCouncil$Echoes" 6) ∈ lw_tbl := tk_1 (List.mem_of_getElem? (i := 77) (by decide +kernel))
theorem tw_78 : (Cond.methodLinkNest "EchoCouncil$State" 20 ⟨"EchoCouncil$Echoes", "<init>", "()V"⟩ "EchoCouncil") ∈ lw_tbl := tk_1 (List.mem_of_getElem? (i := 78) (by decide +kernel))
theorem tw_79 : (Cond.instanceMethod ⟨"EchoCouncil$Echoes", "<init>", "()V"⟩) ∈ lw_tbl := tk_1 (List.mem_of_getElem? (i := 79) (by decide +kernel))
theorem tw_80 : (Cond.code ⟨"EchoCouncil$Echoes", "<init>", "()V"⟩ prog_3_method_1_code 1 none) ∈ lw_tbl := tk_1 (List.mem_of_getElem? (i := 80) (by decide +kernel))
theorem tw_81 : (Cond.methodLink "EchoCouncil$Echoes" 3 ⟨"java/lang/Object", "<init>", "()V"⟩) ∈ lw_tbl := tk_1 (List.mem_of_getElem? (i := 81) (by decide +kernel))
theorem tw_82 : (Cond.fieldLink "EchoCouncil$Echoes" 27 "EchoCouncil$Echoes" "count" "I") ∈ lw_tbl := tk_1 (List.mem_of_getElem? (i := 82) (by decide +kernel))
theorem tw_83 : (Cond.fieldLink "EchoCouncil$State" 58 "EchoCouncil$Echoes" "count" "I") ∈ lw_tbl := tk_1 (List.mem_of_getElem? (i := 83) (by decide +kernel))
theorem tw_84 : (Cond.fieldLink "EchoCouncil" 244 "EchoCouncil$Echoes" "count" "I") ∈ lw_tbl := tk_1 (List.mem_of_getElem? (i := 84) (by decide +kernel))
theorem tw_85 : (Cond.fieldLink "EchoCouncil$Echoes" 9 "EchoCouncil$Echoes" "room" "[I") ∈ lw_tbl := tk_1 (List.mem_of_getElem? (i := 85) (by decide +kernel))
theorem tw_86 : (Cond.fieldLink "EchoCouncil$State" 67 "EchoCouncil$Echoes" "room" "[I") ∈ lw_tbl := tk_1 (List.mem_of_getElem? (i := 86) (by decide +kernel))
theorem tw_87 : (Cond.fieldLink "EchoCouncil" 141 "EchoCouncil$Echoes" "room" "[I") ∈ lw_tbl := tk_1 (List.mem_of_getElem? (i := 87) (by decide +kernel))
theorem tw_88 : (Cond.fieldLink "EchoCouncil$Echoes" 15 "EchoCouncil$Echoes" "strength" "[I") ∈ lw_tbl := tk_1 (List.mem_of_getElem? (i := 88) (by decide +kernel))
theorem tw_89 : (Cond.fieldLink "EchoCouncil$State" 71 "EchoCouncil$Echoes" "strength" "[I") ∈ lw_tbl := tk_1 (List.mem_of_getElem? (i := 89) (by decide +kernel))
theorem tw_90 : (Cond.fieldLink "EchoCouncil" 146 "EchoCouncil$Echoes" "strength" "[I") ∈ lw_tbl := tk_1 (List.mem_of_getElem? (i := 90) (by decide +kernel))
theorem tw_91 : (Cond.fieldLink "EchoCouncil$Echoes" 18 "EchoCouncil$Echoes" "singer" "[I") ∈ lw_tbl := tk_1 (List.mem_of_getElem? (i := 91) (by decide +kernel))
theorem tw_92 : (Cond.fieldLink "EchoCouncil$State" 64 "EchoCouncil$Echoes" "singer" "[I") ∈ lw_tbl := tk_1 (List.mem_of_getElem? (i := 92) (by decide +kernel))
theorem tw_93 : (Cond.fieldLink "EchoCouncil" 149 "EchoCouncil$Echoes" "singer" "[I") ∈ lw_tbl := tk_1 (List.mem_of_getElem? (i := 93) (by decide +kernel))
theorem tw_94 : (Cond.fieldLink "EchoCouncil$Echoes" 21 "EchoCouncil$Echoes" "verses" "[I") ∈ lw_tbl := tk_1 (List.mem_of_getElem? (i := 94) (by decide +kernel))
theorem tw_95 : (Cond.fieldLink "EchoCouncil" 152 "EchoCouncil$Echoes" "verses" "[I") ∈ lw_tbl := tk_1 (List.mem_of_getElem? (i := 95) (by decide +kernel))
theorem tw_96 : (Cond.fieldLink "EchoCouncil$State" 119 "EchoCouncil$Echoes" "verses" "[I") ∈ lw_tbl := tk_1 (List.mem_of_getElem? (i := 96) (by decide +kernel))
theorem tw_97 : (Cond.fieldLink "EchoCouncil$Echoes" 24 "EchoCouncil$Echoes" "tones" "[I") ∈ lw_tbl := tk_1 (List.mem_of_getElem? (i := 97) (by decide +kernel))
theorem tw_98 : (Cond.fieldLink "EchoCouncil" 153 "EchoCouncil$Echoes" "tones" "[I") ∈ lw_tbl := tk_1 (List.mem_of_getElem? (i := 98) (by decide +kernel))
theorem tw_99 : (Cond.fieldLink "EchoCouncil$State" 129 "EchoCouncil$Echoes" "tones" "[I") ∈ lw_tbl := tk_1 (List.mem_of_getElem? (i := 99) (by decide +kernel))
theorem tw_100 : (Cond.lays "EchoCouncil$Echoes" "EchoCouncil$Echoes" "count" "I") ∈ lw_tbl := tk_1 (List.mem_of_getElem? (i := 100) (by decide +kernel))
theorem tw_101 : (Cond.soleField "EchoCouncil$Echoes" "count") ∈ lw_tbl := tk_1 (List.mem_of_getElem? (i := 101) (by decide +kernel))
theorem tw_102 : (Cond.laysFinal "EchoCouncil$Echoes" "EchoCouncil$Echoes" "room" "[I") ∈ lw_tbl := tk_1 (List.mem_of_getElem? (i := 102) (by decide +kernel))
theorem tw_103 : (Cond.soleField "EchoCouncil$Echoes" "room") ∈ lw_tbl := tk_1 (List.mem_of_getElem? (i := 103) (by decide +kernel))
theorem tw_104 : (Cond.laysFinal "EchoCouncil$Echoes" "EchoCouncil$Echoes" "strength" "[I") ∈ lw_tbl := tk_1 (List.mem_of_getElem? (i := 104) (by decide +kernel))
theorem tw_105 : (Cond.soleField "EchoCouncil$Echoes" "strength") ∈ lw_tbl := tk_1 (List.mem_of_getElem? (i := 105) (by decide +kernel))
theorem tw_106 : (Cond.laysFinal "EchoCouncil$Echoes" "EchoCouncil$Echoes" "singer" "[I") ∈ lw_tbl := tk_1 (List.mem_of_getElem? (i := 106) (by decide +kernel))
theorem tw_107 : (Cond.soleField "EchoCouncil$Echoes" "singer") ∈ lw_tbl := tk_1 (List.mem_of_getElem? (i := 107) (by decide +kernel))
theorem tw_108 : (Cond.laysFinal "EchoCouncil$Echoes" "EchoCouncil$Echoes" "verses" "[I") ∈ lw_tbl := tk_1 (List.mem_of_getElem? (i := 108) (by decide +kernel))
theorem tw_109 : (Cond.soleField "EchoCouncil$Echoes" "verses") ∈ lw_tbl := tk_1 (List.mem_of_getElem? (i := 109) (by decide +kernel))
theorem tw_110 : (Cond.laysFinal "EchoCouncil$Echoes" "EchoCouncil$Echoes" "tones" "[I") ∈ lw_tbl := tk_1 (List.mem_of_getElem? (i := 110) (by decide +kernel))
theorem tw_111 : (Cond.soleField "EchoCouncil$Echoes" "tones") ∈ lw_tbl := tk_1 (List.mem_of_getElem? (i := 111) (by decide +kernel))
theorem tw_112 : (Cond.superclass "EchoCouncil$Echoes" "java/lang/Object") ∈ lw_tbl := tk_1 (List.mem_of_getElem? (i := 112) (by decide +kernel))
theorem tw_113 : (Cond.classLink "EchoCouncil$State" 25 "EchoCouncil$Singers") ∈ lw_tbl := tk_1 (List.mem_of_getElem? (i := 113) (by decide +kernel))
theorem tw_114 : (Cond.instantiable "EchoCouncil$Singers" 6) ∈ lw_tbl := tk_1 (List.mem_of_getElem? (i := 114) (by decide +kernel))
theorem tw_115 : (Cond.methodLinkNest "EchoCouncil$State" 27 ⟨"EchoCouncil$Singers", "<init>", "()V"⟩ "EchoCouncil") ∈ lw_tbl := tk_1 (List.mem_of_getElem? (i := 115) (by decide +kernel))
theorem tw_116 : (Cond.instanceMethod ⟨"EchoCouncil$Singers", "<init>", "()V"⟩) ∈ lw_tbl := tk_1 (List.mem_of_getElem? (i := 116) (by decide +kernel))
theorem tw_117 : (Cond.code ⟨"EchoCouncil$Singers", "<init>", "()V"⟩ prog_9_method_1_code 1 none) ∈ lw_tbl := tk_1 (List.mem_of_getElem? (i := 117) (by decide +kernel))
theorem tw_118 : (Cond.methodLink "EchoCouncil$Singers" 3 ⟨"java/lang/Object", "<init>", "()V"⟩) ∈ lw_tbl := tk_1 (List.mem_of_getElem? (i := 118) (by decide +kernel))
theorem tw_119 : (Cond.fieldLink "EchoCouncil$Singers" 27 "EchoCouncil$Singers" "count" "I") ∈ lw_tbl := tk_1 (List.mem_of_getElem? (i := 119) (by decide +kernel))
theorem tw_120 : (Cond.fieldLink "EchoCouncil$State" 59 "EchoCouncil$Singers" "count" "I") ∈ lw_tbl := tk_1 (List.mem_of_getElem? (i := 120) (by decide +kernel))
theorem tw_121 : (Cond.fieldLink "EchoCouncil" 238 "EchoCouncil$Singers" "count" "I") ∈ lw_tbl := tk_1 (List.mem_of_getElem? (i := 121) (by decide +kernel))
theorem tw_122 : (Cond.fieldLink "EchoCouncil$Singers" 9 "EchoCouncil$Singers" "shyness" "[I") ∈ lw_tbl := tk_1 (List.mem_of_getElem? (i := 122) (by decide +kernel))
theorem tw_123 : (Cond.fieldLink "EchoCouncil$State" 86 "EchoCouncil$Singers" "shyness" "[I") ∈ lw_tbl := tk_1 (List.mem_of_getElem? (i := 123) (by decide +kernel))
theorem tw_124 : (Cond.fieldLink "EchoCouncil" 165 "EchoCouncil$Singers" "shyness" "[I") ∈ lw_tbl := tk_1 (List.mem_of_getElem? (i := 124) (by decide +kernel))
theorem tw_125 : (Cond.fieldLink "EchoCouncil$Singers" 15 "EchoCouncil$Singers" "breath" "[I") ∈ lw_tbl := tk_1 (List.mem_of_getElem? (i := 125) (by decide +kernel))
theorem tw_126 : (Cond.fieldLink "EchoCouncil$State" 68 "EchoCouncil$Singers" "breath" "[I") ∈ lw_tbl := tk_1 (List.mem_of_getElem? (i := 126) (by decide +kernel))
theorem tw_127 : (Cond.fieldLink "EchoCouncil" 170 "EchoCouncil$Singers" "breath" "[I") ∈ lw_tbl := tk_1 (List.mem_of_getElem? (i := 127) (by decide +kernel))
theorem tw_128 : (Cond.fieldLink "EchoCouncil$Singers" 18 "EchoCouncil$Singers" "room" "[I") ∈ lw_tbl := tk_1 (List.mem_of_getElem? (i := 128) (by decide +kernel))
theorem tw_129 : (Cond.fieldLink "EchoCouncil$State" 60 "EchoCouncil$Singers" "room" "[I") ∈ lw_tbl := tk_1 (List.mem_of_getElem? (i := 129) (by decide +kernel))
theorem tw_130 : (Cond.fieldLink "EchoCouncil" 173 "EchoCouncil$Singers" "room" "[I") ∈ lw_tbl := tk_1 (List.mem_of_getElem? (i := 130) (by decide +kernel))
theorem tw_131 : (Cond.fieldLink "EchoCouncil$Singers" 21 "EchoCouncil$Singers" "verses" "[I") ∈ lw_tbl := tk_1 (List.mem_of_getElem? (i := 131) (by decide +kernel))
theorem tw_132 : (Cond.fieldLink "EchoCouncil" 177 "EchoCouncil$Singers" "verses" "[I") ∈ lw_tbl := tk_1 (List.mem_of_getElem? (i := 132) (by decide +kernel))
theorem tw_133 : (Cond.fieldLink "EchoCouncil$State" 132 "EchoCouncil$Singers" "verses" "[I") ∈ lw_tbl := tk_1 (List.mem_of_getElem? (i := 133) (by decide +kernel))
theorem tw_134 : (Cond.fieldLink "EchoCouncil$Singers" 24 "EchoCouncil$Singers" "tones" "[I") ∈ lw_tbl := tk_1 (List.mem_of_getElem? (i := 134) (by decide +kernel))
theorem tw_135 : (Cond.fieldLink "EchoCouncil" 178 "EchoCouncil$Singers" "tones" "[I") ∈ lw_tbl := tk_1 (List.mem_of_getElem? (i := 135) (by decide +kernel))
theorem tw_136 : (Cond.fieldLink "EchoCouncil$State" 133 "EchoCouncil$Singers" "tones" "[I") ∈ lw_tbl := tk_1 (List.mem_of_getElem? (i := 136) (by decide +kernel))
theorem tw_137 : (Cond.lays "EchoCouncil$Singers" "EchoCouncil$Singers" "count" "I") ∈ lw_tbl := tk_1 (List.mem_of_getElem? (i := 137) (by decide +kernel))
theorem tw_138 : (Cond.soleField "EchoCouncil$Singers" "count") ∈ lw_tbl := tk_1 (List.mem_of_getElem? (i := 138) (by decide +kernel))
theorem tw_139 : (Cond.laysFinal "EchoCouncil$Singers" "EchoCouncil$Singers" "shyness" "[I") ∈ lw_tbl := tk_1 (List.mem_of_getElem? (i := 139) (by decide +kernel))
theorem tw_140 : (Cond.soleField "EchoCouncil$Singers" "shyness") ∈ lw_tbl := tk_1 (List.mem_of_getElem? (i := 140) (by decide +kernel))
theorem tw_141 : (Cond.laysFinal "EchoCouncil$Singers" "EchoCouncil$Singers" "breath" "[I") ∈ lw_tbl := tk_1 (List.mem_of_getElem? (i := 141) (by decide +kernel))
theorem tw_142 : (Cond.soleField "EchoCouncil$Singers" "breath") ∈ lw_tbl := tk_1 (List.mem_of_getElem? (i := 142) (by decide +kernel))
theorem tw_143 : (Cond.laysFinal "EchoCouncil$Singers" "EchoCouncil$Singers" "room" "[I") ∈ lw_tbl := tk_1 (List.mem_of_getElem? (i := 143) (by decide +kernel))
theorem tw_144 : (Cond.soleField "EchoCouncil$Singers" "room") ∈ lw_tbl := tk_1 (List.mem_of_getElem? (i := 144) (by decide +kernel))
theorem tw_145 : (Cond.laysFinal "EchoCouncil$Singers" "EchoCouncil$Singers" "verses" "[I") ∈ lw_tbl := tk_1 (List.mem_of_getElem? (i := 145) (by decide +kernel))
theorem tw_146 : (Cond.soleField "EchoCouncil$Singers" "verses") ∈ lw_tbl := tk_1 (List.mem_of_getElem? (i := 146) (by decide +kernel))
theorem tw_147 : (Cond.laysFinal "EchoCouncil$Singers" "EchoCouncil$Singers" "tones" "[I") ∈ lw_tbl := tk_1 (List.mem_of_getElem? (i := 147) (by decide +kernel))
theorem tw_148 : (Cond.soleField "EchoCouncil$Singers" "tones") ∈ lw_tbl := tk_1 (List.mem_of_getElem? (i := 148) (by decide +kernel))
theorem tw_149 : (Cond.superclass "EchoCouncil$Singers" "java/lang/Object") ∈ lw_tbl := tk_1 (List.mem_of_getElem? (i := 149) (by decide +kernel))
theorem tw_150 : (Cond.fieldLink "EchoCouncil$State" 12 "EchoCouncil$State" "rooms" "LEchoCouncil$Rooms;") ∈ lw_tbl := tk_1 (List.mem_of_getElem? (i := 150) (by decide +kernel))
theorem tw_151 : (Cond.fieldLink "EchoCouncil" 96 "EchoCouncil$State" "rooms" "LEchoCouncil$Rooms;") ∈ lw_tbl := tk_1 (List.mem_of_getElem? (i := 151) (by decide +kernel))
theorem tw_152 : (Cond.fieldLink "EchoCouncil$State" 21 "EchoCouncil$State" "echoes" "LEchoCouncil$Echoes;") ∈ lw_tbl := tk_1 (List.mem_of_getElem? (i := 152) (by decide +kernel))
theorem tw_153 : (Cond.fieldLink "EchoCouncil" 137 "EchoCouncil$State" "echoes" "LEchoCouncil$Echoes;") ∈ lw_tbl := tk_1 (List.mem_of_getElem? (i := 153) (by decide +kernel))
theorem tw_154 : (Cond.fieldLink "EchoCouncil$State" 28 "EchoCouncil$State" "singers" "LEchoCouncil$Singers;") ∈ lw_tbl := tk_1 (List.mem_of_getElem? (i := 154) (by decide +kernel))
theorem tw_155 : (Cond.fieldLink "EchoCouncil" 161 "EchoCouncil$State" "singers" "LEchoCouncil$Singers;") ∈ lw_tbl := tk_1 (List.mem_of_getElem? (i := 155) (by decide +kernel))
theorem tw_156 : (Cond.fieldLink "EchoCouncil$State" 42 "EchoCouncil$State" "nights" "I") ∈ lw_tbl := tk_1 (List.mem_of_getElem? (i := 156) (by decide +kernel))
theorem tw_157 : (Cond.fieldLink "EchoCouncil" 357 "EchoCouncil$State" "nights" "I") ∈ lw_tbl := tk_1 (List.mem_of_getElem? (i := 157) (by decide +kernel))
theorem tw_158 : (Cond.fieldLink "EchoCouncil$State" 46 "EchoCouncil$State" "deposits" "I") ∈ lw_tbl := tk_1 (List.mem_of_getElem? (i := 158) (by decide +kernel))
theorem tw_159 : (Cond.fieldLink "EchoCouncil" 256 "EchoCouncil$State" "deposits" "I") ∈ lw_tbl := tk_1 (List.mem_of_getElem? (i := 159) (by decide +kernel))
theorem tw_160 : (Cond.fieldLink "EchoCouncil$State" 49 "EchoCouncil$State" "givenBack" "I") ∈ lw_tbl := tk_1 (List.mem_of_getElem? (i := 160) (by decide +kernel))
theorem tw_161 : (Cond.fieldLink "EchoCouncil" 259 "EchoCouncil$State" "givenBack" "I") ∈ lw_tbl := tk_1 (List.mem_of_getElem? (i := 161) (by decide +kernel))
theorem tw_162 : (Cond.fieldLink "EchoCouncil$State" 52 "EchoCouncil$State" "kept" "I") ∈ lw_tbl := tk_1 (List.mem_of_getElem? (i := 162) (by decide +kernel))
theorem tw_163 : (Cond.fieldLink "EchoCouncil" 262 "EchoCouncil$State" "kept" "I") ∈ lw_tbl := tk_1 (List.mem_of_getElem? (i := 163) (by decide +kernel))
theorem tw_164 : (Cond.laysFinal "EchoCouncil$State" "EchoCouncil$State" "rooms" "LEchoCouncil$Rooms;") ∈ lw_tbl := tk_1 (List.mem_of_getElem? (i := 164) (by decide +kernel))
theorem tw_165 : (Cond.soleField "EchoCouncil$State" "rooms") ∈ lw_tbl := tk_1 (List.mem_of_getElem? (i := 165) (by decide +kernel))
theorem tw_166 : (Cond.laysFinal "EchoCouncil$State" "EchoCouncil$State" "echoes" "LEchoCouncil$Echoes;") ∈ lw_tbl := tk_1 (List.mem_of_getElem? (i := 166) (by decide +kernel))
theorem tw_167 : (Cond.soleField "EchoCouncil$State" "echoes") ∈ lw_tbl := tk_1 (List.mem_of_getElem? (i := 167) (by decide +kernel))
theorem tw_168 : (Cond.laysFinal "EchoCouncil$State" "EchoCouncil$State" "singers" "LEchoCouncil$Singers;") ∈ lw_tbl := tk_1 (List.mem_of_getElem? (i := 168) (by decide +kernel))
theorem tw_169 : (Cond.soleField "EchoCouncil$State" "singers") ∈ lw_tbl := tk_1 (List.mem_of_getElem? (i := 169) (by decide +kernel))
theorem tw_170 : (Cond.lays "EchoCouncil$State" "EchoCouncil$State" "nights" "I") ∈ lw_tbl := tk_1 (List.mem_of_getElem? (i := 170) (by decide +kernel))
theorem tw_171 : (Cond.soleField "EchoCouncil$State" "nights") ∈ lw_tbl := tk_1 (List.mem_of_getElem? (i := 171) (by decide +kernel))
theorem tw_172 : (Cond.lays "EchoCouncil$State" "EchoCouncil$State" "deposits" "I") ∈ lw_tbl := tk_1 (List.mem_of_getElem? (i := 172) (by decide +kernel))
theorem tw_173 : (Cond.soleField "EchoCouncil$State" "deposits") ∈ lw_tbl := tk_1 (List.mem_of_getElem? (i := 173) (by decide +kernel))
theorem tw_174 : (Cond.lays "EchoCouncil$State" "EchoCouncil$State" "givenBack" "I") ∈ lw_tbl := tk_1 (List.mem_of_getElem? (i := 174) (by decide +kernel))
theorem tw_175 : (Cond.soleField "EchoCouncil$State" "givenBack") ∈ lw_tbl := tk_1 (List.mem_of_getElem? (i := 175) (by decide +kernel))
theorem tw_176 : (Cond.lays "EchoCouncil$State" "EchoCouncil$State" "kept" "I") ∈ lw_tbl := tk_1 (List.mem_of_getElem? (i := 176) (by decide +kernel))
theorem tw_177 : (Cond.soleField "EchoCouncil$State" "kept") ∈ lw_tbl := tk_1 (List.mem_of_getElem? (i := 177) (by decide +kernel))
theorem tw_178 : (Cond.superclass "EchoCouncil$State" "java/lang/Object") ∈ lw_tbl := tk_1 (List.mem_of_getElem? (i := 178) (by decide +kernel))
theorem tw_179 : (Cond.classLink "EchoCouncil" 22 "EchoCouncil$Past") ∈ lw_tbl := tk_1 (List.mem_of_getElem? (i := 179) (by decide +kernel))
theorem tw_180 : (Cond.instantiable "EchoCouncil$Past" 3) ∈ lw_tbl := tk_1 (List.mem_of_getElem? (i := 180) (by decide +kernel))
theorem tw_181 : (Cond.methodLink "EchoCouncil" 24 ⟨"EchoCouncil$Past", "<init>", "()V"⟩) ∈ lw_tbl := tk_1 (List.mem_of_getElem? (i := 181) (by decide +kernel))
theorem tw_182 : (Cond.instanceMethod ⟨"EchoCouncil$Past", "<init>", "()V"⟩) ∈ lw_tbl := tk_1 (List.mem_of_getElem? (i := 182) (by decide +kernel))
theorem tw_183 : (Cond.code ⟨"EchoCouncil$Past", "<init>", "()V"⟩ prog_6_method_1_code 2 none) ∈ lw_tbl := tk_1 (List.mem_of_getElem? (i := 183) (by decide +kernel))
theorem tw_184 : (Cond.methodLink "EchoCouncil$Past" 3 ⟨"java/lang/Object", "<init>", "()V"⟩) ∈ lw_tbl := tk_1 (List.mem_of_getElem? (i := 184) (by decide +kernel))
theorem tw_185 : (Cond.classLink "EchoCouncil$Past" 9 "EchoCouncil$State") ∈ lw_tbl := tk_1 (List.mem_of_getElem? (i := 185) (by decide +kernel))
theorem tw_186 : (Cond.arrayOver (FieldType.object "EchoCouncil$State")) ∈ lw_tbl := tk_1 (List.mem_of_getElem? (i := 186) (by decide +kernel))
theorem tw_187 : (Cond.methodLinkNest "EchoCouncil$Past" 17 ⟨"EchoCouncil$State", "<init>", "()V"⟩ "EchoCouncil") ∈ lw_tbl := tk_1 (List.mem_of_getElem? (i := 187) (by decide +kernel))
theorem tw_188 : (Cond.fieldLink "EchoCouncil$Past" 11 "EchoCouncil$Past" "states" "[LEchoCouncil$State;") ∈ lw_tbl := tk_1 (List.mem_of_getElem? (i := 188) (by decide +kernel))
theorem tw_189 : (Cond.fieldLink "EchoCouncil$Past" 18 "EchoCouncil$Past" "next" "I") ∈ lw_tbl := tk_1 (List.mem_of_getElem? (i := 189) (by decide +kernel))
theorem tw_190 : (Cond.fieldLink "EchoCouncil$Past" 26 "EchoCouncil$Past" "count" "I") ∈ lw_tbl := tk_1 (List.mem_of_getElem? (i := 190) (by decide +kernel))
theorem tw_191 : (Cond.fieldLink "EchoCouncil" 369 "EchoCouncil$Past" "count" "I") ∈ lw_tbl := tk_1 (List.mem_of_getElem? (i := 191) (by decide +kernel))
theorem tw_192 : (Cond.laysFinal "EchoCouncil$Past" "EchoCouncil$Past" "states" "[LEchoCouncil$State;") ∈ lw_tbl := tk_1 (List.mem_of_getElem? (i := 192) (by decide +kernel))
theorem tw_193 : (Cond.soleField "EchoCouncil$Past" "states") ∈ lw_tbl := tk_1 (List.mem_of_getElem? (i := 193) (by decide +kernel))
theorem tw_194 : (Cond.lays "EchoCouncil$Past" "EchoCouncil$Past" "next" "I") ∈ lw_tbl := tk_1 (List.mem_of_getElem? (i := 194) (by decide +kernel))
theorem tw_195 : (Cond.soleField "EchoCouncil$Past" "next") ∈ lw_tbl := tk_1 (List.mem_of_getElem? (i := 195) (by decide +kernel))
theorem tw_196 : (Cond.lays "EchoCouncil$Past" "EchoCouncil$Past" "count" "I") ∈ lw_tbl := tk_1 (List.mem_of_getElem? (i := 196) (by decide +kernel))
theorem tw_197 : (Cond.soleField "EchoCouncil$Past" "count") ∈ lw_tbl := tk_1 (List.mem_of_getElem? (i := 197) (by decide +kernel))
theorem tw_198 : (Cond.superclass "EchoCouncil$Past" "java/lang/Object") ∈ lw_tbl := tk_1 (List.mem_of_getElem? (i := 198) (by decide +kernel))
theorem tw_199 : (Cond.classLink "EchoCouncil" 29 "EchoCouncil$OrderText") ∈ lw_tbl := tk_1 (List.mem_of_getElem? (i := 199) (by decide +kernel))
theorem tw_200 : (Cond.instantiable "EchoCouncil$OrderText" 7) ∈ lw_tbl := tk_1 (List.mem_of_getElem? (i := 200) (by decide +kernel))
theorem tw_201 : (Cond.methodLink "EchoCouncil" 31 ⟨"EchoCouncil$OrderText", "<init>", "()V"⟩) ∈ lw_tbl := tk_1 (List.mem_of_getElem? (i := 201) (by decide +kernel))
theorem tw_202 : (Cond.instanceMethod ⟨"EchoCouncil$OrderText", "<init>", "()V"⟩) ∈ lw_tbl := tk_1 (List.mem_of_getElem? (i := 202) (by decide +kernel))
theorem tw_203 : (Cond.code ⟨"EchoCouncil$OrderText", "<init>", "()V"⟩ prog_5_method_1_code 2 none) ∈ lw_tbl := tk_1 (List.mem_of_getElem? (i := 203) (by decide +kernel))
theorem tw_204 : (Cond.methodLink "EchoCouncil$OrderText" 3 ⟨"java/lang/Object", "<init>", "()V"⟩) ∈ lw_tbl := tk_1 (List.mem_of_getElem? (i := 204) (by decide +kernel))
theorem tw_205 : (Cond.classLink "EchoCouncil$OrderText" 19 "EchoCouncil$OrderKind") ∈ lw_tbl := tk_1 (List.mem_of_getElem? (i := 205) (by decide +kernel))
theorem tw_206 : (Cond.arrayOver (FieldType.object "EchoCouncil$OrderKind")) ∈ lw_tbl := tk_1 (List.mem_of_getElem? (i := 206) (by decide +kernel))
theorem tw_207 : (Cond.classLink "EchoCouncil$OrderText" 25 "[[I") ∈ lw_tbl := tk_1 (List.mem_of_getElem? (i := 207) (by decide +kernel))
theorem tw_208 : (Cond.arrayOver (FieldType.array FieldType.int)) ∈ lw_tbl := tk_1 (List.mem_of_getElem? (i := 208) (by decide +kernel))
theorem tw_209 : (Cond.fieldLink "EchoCouncil$OrderText" 30 "EchoCouncil$OrderKind" "NIGHT" "LEchoCouncil$OrderKind;") ∈ lw_tbl := tk_1 (List.mem_of_getElem? (i := 209) (by decide +kernel))
theorem tw_210 : (Cond.laysStatic "EchoCouncil$OrderKind" "NIGHT" "LEchoCouncil$OrderKind;") ∈ lw_tbl := tk_1 (List.mem_of_getElem? (i := 210) (by decide +kernel))
theorem tw_211 : (Cond.fieldLink "EchoCouncil$OrderText" 9 "EchoCouncil$OrderText" "signs" "[C") ∈ lw_tbl := tk_1 (List.mem_of_getElem? (i := 211) (by decide +kernel))
theorem tw_212 : (Cond.fieldLink "EchoCouncil$OrderText" 44 "EchoCouncil$OrderText" "length" "I") ∈ lw_tbl := tk_1 (List.mem_of_getElem? (i := 212) (by decide +kernel))
theorem tw_213 : (Cond.fieldLink "EchoCouncil" 270 "EchoCouncil$OrderText" "length" "I") ∈ lw_tbl := tk_1 (List.mem_of_getElem? (i := 213) (by decide +kernel))
theorem tw_214 : (Cond.fieldLink "EchoCouncil$OrderText" 15 "EchoCouncil$OrderText" "fault" "I") ∈ lw_tbl := tk_1 (List.mem_of_getElem? (i := 214) (by decide +kernel))
theorem tw_215 : (Cond.fieldLink "EchoCouncil" 285 "EchoCouncil$OrderText" "fault" "I") ∈ lw_tbl := tk_1 (List.mem_of_getElem? (i := 215) (by decide +kernel))
theorem tw_216 : (Cond.fieldLink "EchoCouncil$OrderText" 37 "EchoCouncil$OrderText" "orders" "I") ∈ lw_tbl := tk_1 (List.mem_of_getElem? (i := 216) (by decide +kernel))
theorem tw_217 : (Cond.fieldLink "EchoCouncil" 299 "EchoCouncil$OrderText" "orders" "I") ∈ lw_tbl := tk_1 (List.mem_of_getElem? (i := 217) (by decide +kernel))
theorem tw_218 : (Cond.fieldLink "EchoCouncil$OrderText" 21 "EchoCouncil$OrderText" "kinds" "[LEchoCouncil$OrderKind;") ∈ lw_tbl := tk_1 (List.mem_of_getElem? (i := 218) (by decide +kernel))
theorem tw_219 : (Cond.fieldLink "EchoCouncil" 423 "EchoCouncil$OrderText" "kinds" "[LEchoCouncil$OrderKind;") ∈ lw_tbl := tk_1 (List.mem_of_getElem? (i := 219) (by decide +kernel))
theorem tw_220 : (Cond.fieldLink "EchoCouncil$OrderText" 27 "EchoCouncil$OrderText" "numbers" "[[I") ∈ lw_tbl := tk_1 (List.mem_of_getElem? (i := 220) (by decide +kernel))
theorem tw_221 : (Cond.fieldLink "EchoCouncil" 419 "EchoCouncil$OrderText" "numbers" "[[I") ∈ lw_tbl := tk_1 (List.mem_of_getElem? (i := 221) (by decide +kernel))
theorem tw_222 : (Cond.fieldLink "EchoCouncil$OrderText" 34 "EchoCouncil$OrderText" "position" "I") ∈ lw_tbl := tk_1 (List.mem_of_getElem? (i := 222) (by decide +kernel))
theorem tw_223 : (Cond.laysFinal "EchoCouncil$OrderText" "EchoCouncil$OrderText" "signs" "[C") ∈ lw_tbl := tk_1 (List.mem_of_getElem? (i := 223) (by decide +kernel))
theorem tw_224 : (Cond.soleField "EchoCouncil$OrderText" "signs") ∈ lw_tbl := tk_1 (List.mem_of_getElem? (i := 224) (by decide +kernel))
theorem tw_225 : (Cond.lays "EchoCouncil$OrderText" "EchoCouncil$OrderText" "length" "I") ∈ lw_tbl := tk_1 (List.mem_of_getElem? (i := 225) (by decide +kernel))
theorem tw_226 : (Cond.soleField "EchoCouncil$OrderText" "length") ∈ lw_tbl := tk_1 (List.mem_of_getElem? (i := 226) (by decide +kernel))
theorem tw_227 : (Cond.lays "EchoCouncil$OrderText" "EchoCouncil$OrderText" "fault" "I") ∈ lw_tbl := tk_1 (List.mem_of_getElem? (i := 227) (by decide +kernel))
theorem tw_228 : (Cond.soleField "EchoCouncil$OrderText" "fault") ∈ lw_tbl := tk_1 (List.mem_of_getElem? (i := 228) (by decide +kernel))
theorem tw_229 : (Cond.lays "EchoCouncil$OrderText" "EchoCouncil$OrderText" "orders" "I") ∈ lw_tbl := tk_1 (List.mem_of_getElem? (i := 229) (by decide +kernel))
theorem tw_230 : (Cond.soleField "EchoCouncil$OrderText" "orders") ∈ lw_tbl := tk_1 (List.mem_of_getElem? (i := 230) (by decide +kernel))
theorem tw_231 : (Cond.laysFinal "EchoCouncil$OrderText" "EchoCouncil$OrderText" "kinds" "[LEchoCouncil$OrderKind;") ∈ lw_tbl := tk_1 (List.mem_of_getElem? (i := 231) (by decide +kernel))
theorem tw_232 : (Cond.soleField "EchoCouncil$OrderText" "kinds") ∈ lw_tbl := tk_1 (List.mem_of_getElem? (i := 232) (by decide +kernel))
theorem tw_233 : (Cond.laysFinal "EchoCouncil$OrderText" "EchoCouncil$OrderText" "numbers" "[[I") ∈ lw_tbl := tk_1 (List.mem_of_getElem? (i := 233) (by decide +kernel))
theorem tw_234 : (Cond.soleField "EchoCouncil$OrderText" "numbers") ∈ lw_tbl := tk_1 (List.mem_of_getElem? (i := 234) (by decide +kernel))
theorem tw_235 : (Cond.lays "EchoCouncil$OrderText" "EchoCouncil$OrderText" "position" "I") ∈ lw_tbl := tk_1 (List.mem_of_getElem? (i := 235) (by decide +kernel))
theorem tw_236 : (Cond.soleField "EchoCouncil$OrderText" "position") ∈ lw_tbl := tk_1 (List.mem_of_getElem? (i := 236) (by decide +kernel))
theorem tw_237 : (Cond.superclass "EchoCouncil$OrderText" "java/lang/Object") ∈ lw_tbl := tk_1 (List.mem_of_getElem? (i := 237) (by decide +kernel))
theorem tw_238 : (Cond.arrayClass FieldType.char) ∈ lw_tbl := tk_1 (List.mem_of_getElem? (i := 238) (by decide +kernel))
theorem tw_239 : (Cond.classLink "EchoCouncil" 36 "EchoCouncil$Refusal") ∈ lw_tbl := tk_1 (List.mem_of_getElem? (i := 239) (by decide +kernel))
theorem tw_240 : (Cond.instantiable "EchoCouncil$Refusal" 6) ∈ lw_tbl := tk_2 (List.mem_of_getElem? (i := 0) (by decide +kernel))
theorem tw_241 : (Cond.methodLinkNest "EchoCouncil" 38 ⟨"EchoCouncil$Refusal", "<init>", "()V"⟩ "EchoCouncil") ∈ lw_tbl := tk_2 (List.mem_of_getElem? (i := 1) (by decide +kernel))
theorem tw_242 : (Cond.instanceMethod ⟨"EchoCouncil$Refusal", "<init>", "()V"⟩) ∈ lw_tbl := tk_2 (List.mem_of_getElem? (i := 2) (by decide +kernel))
theorem tw_243 : (Cond.code ⟨"EchoCouncil$Refusal", "<init>", "()V"⟩ prog_7_method_1_code 1 none) ∈ lw_tbl := tk_2 (List.mem_of_getElem? (i := 3) (by decide +kernel))
theorem tw_244 : (Cond.methodLink "EchoCouncil$Refusal" 1 ⟨"java/lang/Object", "<init>", "()V"⟩) ∈ lw_tbl := tk_2 (List.mem_of_getElem? (i := 4) (by decide +kernel))
theorem tw_245 : (Cond.fieldLink "EchoCouncil$Refusal" 7 "EchoCouncil$Refusal" "isKept" "Z") ∈ lw_tbl := tk_2 (List.mem_of_getElem? (i := 5) (by decide +kernel))
theorem tw_246 : (Cond.fieldLink "EchoCouncil" 304 "EchoCouncil$Refusal" "isKept" "Z") ∈ lw_tbl := tk_2 (List.mem_of_getElem? (i := 6) (by decide +kernel))
theorem tw_247 : (Cond.fieldLink "EchoCouncil$Refusal" 13 "EchoCouncil$Refusal" "number" "I") ∈ lw_tbl := tk_2 (List.mem_of_getElem? (i := 7) (by decide +kernel))
theorem tw_248 : (Cond.fieldLink "EchoCouncil" 313 "EchoCouncil$Refusal" "number" "I") ∈ lw_tbl := tk_2 (List.mem_of_getElem? (i := 8) (by decide +kernel))
theorem tw_249 : (Cond.fieldLink "EchoCouncil$Refusal" 17 "EchoCouncil$Refusal" "detail" "I") ∈ lw_tbl := tk_2 (List.mem_of_getElem? (i := 9) (by decide +kernel))
theorem tw_250 : (Cond.fieldLink "EchoCouncil" 310 "EchoCouncil$Refusal" "detail" "I") ∈ lw_tbl := tk_2 (List.mem_of_getElem? (i := 10) (by decide +kernel))
theorem tw_251 : (Cond.fieldLink "EchoCouncil$Refusal" 20 "EchoCouncil$Refusal" "hasCause" "Z") ∈ lw_tbl := tk_2 (List.mem_of_getElem? (i := 11) (by decide +kernel))
theorem tw_252 : (Cond.fieldLink "EchoCouncil" 316 "EchoCouncil$Refusal" "hasCause" "Z") ∈ lw_tbl := tk_2 (List.mem_of_getElem? (i := 12) (by decide +kernel))
theorem tw_253 : (Cond.fieldLink "EchoCouncil$Refusal" 23 "EchoCouncil$Refusal" "causeNumber" "I") ∈ lw_tbl := tk_2 (List.mem_of_getElem? (i := 13) (by decide +kernel))
theorem tw_254 : (Cond.fieldLink "EchoCouncil" 324 "EchoCouncil$Refusal" "causeNumber" "I") ∈ lw_tbl := tk_2 (List.mem_of_getElem? (i := 14) (by decide +kernel))
theorem tw_255 : (Cond.fieldLink "EchoCouncil$Refusal" 26 "EchoCouncil$Refusal" "causeDetail" "I") ∈ lw_tbl := tk_2 (List.mem_of_getElem? (i := 15) (by decide +kernel))
theorem tw_256 : (Cond.fieldLink "EchoCouncil" 321 "EchoCouncil$Refusal" "causeDetail" "I") ∈ lw_tbl := tk_2 (List.mem_of_getElem? (i := 16) (by decide +kernel))
theorem tw_257 : (Cond.lays "EchoCouncil$Refusal" "EchoCouncil$Refusal" "isKept" "Z") ∈ lw_tbl := tk_2 (List.mem_of_getElem? (i := 17) (by decide +kernel))
theorem tw_258 : (Cond.soleField "EchoCouncil$Refusal" "isKept") ∈ lw_tbl := tk_2 (List.mem_of_getElem? (i := 18) (by decide +kernel))
theorem tw_259 : (Cond.lays "EchoCouncil$Refusal" "EchoCouncil$Refusal" "number" "I") ∈ lw_tbl := tk_2 (List.mem_of_getElem? (i := 19) (by decide +kernel))
theorem tw_260 : (Cond.soleField "EchoCouncil$Refusal" "number") ∈ lw_tbl := tk_2 (List.mem_of_getElem? (i := 20) (by decide +kernel))
theorem tw_261 : (Cond.lays "EchoCouncil$Refusal" "EchoCouncil$Refusal" "detail" "I") ∈ lw_tbl := tk_2 (List.mem_of_getElem? (i := 21) (by decide +kernel))
theorem tw_262 : (Cond.soleField "EchoCouncil$Refusal" "detail") ∈ lw_tbl := tk_2 (List.mem_of_getElem? (i := 22) (by decide +kernel))
theorem tw_263 : (Cond.lays "EchoCouncil$Refusal" "EchoCouncil$Refusal" "hasCause" "Z") ∈ lw_tbl := tk_2 (List.mem_of_getElem? (i := 23) (by decide +kernel))
theorem tw_264 : (Cond.soleField "EchoCouncil$Refusal" "hasCause") ∈ lw_tbl := tk_2 (List.mem_of_getElem? (i := 24) (by decide +kernel))
theorem tw_265 : (Cond.lays "EchoCouncil$Refusal" "EchoCouncil$Refusal" "causeNumber" "I") ∈ lw_tbl := tk_2 (List.mem_of_getElem? (i := 25) (by decide +kernel))
theorem tw_266 : (Cond.soleField "EchoCouncil$Refusal" "causeNumber") ∈ lw_tbl := tk_2 (List.mem_of_getElem? (i := 26) (by decide +kernel))
theorem tw_267 : (Cond.lays "EchoCouncil$Refusal" "EchoCouncil$Refusal" "causeDetail" "I") ∈ lw_tbl := tk_2 (List.mem_of_getElem? (i := 27) (by decide +kernel))
theorem tw_268 : (Cond.soleField "EchoCouncil$Refusal" "causeDetail") ∈ lw_tbl := tk_2 (List.mem_of_getElem? (i := 28) (by decide +kernel))
theorem tw_269 : (Cond.superclass "EchoCouncil$Refusal" "java/lang/Object") ∈ lw_tbl := tk_2 (List.mem_of_getElem? (i := 29) (by decide +kernel))
theorem tw_270 : (Cond.classLink "EchoCouncil" 43 "java/lang/StringBuilder") ∈ lw_tbl := tk_2 (List.mem_of_getElem? (i := 30) (by decide +kernel))
theorem tw_271 : (Cond.instantiable "java/lang/StringBuilder" 4) ∈ lw_tbl := tk_2 (List.mem_of_getElem? (i := 31) (by decide +kernel))
theorem tw_272 : (Cond.methodLink "EchoCouncil" 45 ⟨"java/lang/StringBuilder", "<init>", "()V"⟩) ∈ lw_tbl := tk_2 (List.mem_of_getElem? (i := 32) (by decide +kernel))
theorem tw_273 : (Cond.instanceMethod ⟨"java/lang/StringBuilder", "<init>", "()V"⟩) ∈ lw_tbl := tk_2 (List.mem_of_getElem? (i := 33) (by decide +kernel))
theorem tw_274 : (Cond.code ⟨"java/lang/StringBuilder", "<init>", "()V"⟩ prog_30_method_1_code 1 none) ∈ lw_tbl := tk_2 (List.mem_of_getElem? (i := 34) (by decide +kernel))
theorem tw_275 : (Cond.methodLink "java/lang/StringBuilder" 1 ⟨"java/lang/AbstractStringBuilder", "<init>", "(I)V"⟩) ∈ lw_tbl := tk_2 (List.mem_of_getElem? (i := 35) (by decide +kernel))
theorem tw_276 : (Cond.instanceMethod ⟨"java/lang/AbstractStringBuilder", "<init>", "(I)V"⟩) ∈ lw_tbl := tk_2 (List.mem_of_getElem? (i := 36) (by decide +kernel))
theorem tw_277 : (Cond.code ⟨"java/lang/AbstractStringBuilder", "<init>", "(I)V"⟩ prog_14_method_2_code 2 none) ∈ lw_tbl := tk_2 (List.mem_of_getElem? (i := 37) (by decide +kernel))
theorem tw_278 : (Cond.methodLink "java/lang/AbstractStringBuilder" 3 ⟨"java/lang/Object", "<init>", "()V"⟩) ∈ lw_tbl := tk_2 (List.mem_of_getElem? (i := 38) (by decide +kernel))
theorem tw_279 : (Cond.fieldLink "java/lang/AbstractStringBuilder" 18 "java/lang/String" "COMPACT_STRINGS" "Z") ∈ lw_tbl := tk_2 (List.mem_of_getElem? (i := 39) (by decide +kernel))
theorem tw_280 : (Cond.laysStatic "java/lang/String" "COMPACT_STRINGS" "Z") ∈ lw_tbl := tk_2 (List.mem_of_getElem? (i := 40) (by decide +kernel))
theorem tw_281 : (Cond.methodLink "java/lang/AbstractStringBuilder" 26 ⟨"java/lang/StringUTF16", "newBytesFor", "(I)[B"⟩) ∈ lw_tbl := tk_2 (List.mem_of_getElem? (i := 41) (by decide +kernel))
theorem tw_282 : (Cond.static ⟨"java/lang/StringUTF16", "newBytesFor", "(I)[B"⟩) ∈ lw_tbl := tk_2 (List.mem_of_getElem? (i := 42) (by decide +kernel))
theorem tw_283 : (Cond.code ⟨"java/lang/StringUTF16", "newBytesFor", "(I)[B"⟩ prog_33_method_2_code 1 (Option.some (FieldType.array FieldType.byte))) ∈ lw_tbl := tk_2 (List.mem_of_getElem? (i := 43) (by decide +kernel))
theorem tw_284 : (Cond.methodLink "java/lang/StringUTF16" 11 ⟨"java/lang/StringUTF16", "newBytesLength", "(I)I"⟩) ∈ lw_tbl := tk_2 (List.mem_of_getElem? (i := 44) (by decide +kernel))
theorem tw_285 : (Cond.static ⟨"java/lang/StringUTF16", "newBytesLength", "(I)I"⟩) ∈ lw_tbl := tk_2 (List.mem_of_getElem? (i := 45) (by decide +kernel))
theorem tw_286 : (Cond.code ⟨"java/lang/StringUTF16", "newBytesLength", "(I)I"⟩ prog_33_method_3_code 1 (some FieldType.int)) ∈ lw_tbl := tk_2 (List.mem_of_getElem? (i := 46) (by decide +kernel))
theorem tw_287 : (Cond.constant "java/lang/StringUTF16" 20 (1073741823 : Int32)) ∈ lw_tbl := tk_2 (List.mem_of_getElem? (i := 47) (by decide +kernel))
theorem tw_288 : (Cond.fieldLink "java/lang/AbstractStringBuilder" 15 "java/lang/AbstractStringBuilder" "value" "[B") ∈ lw_tbl := tk_2 (List.mem_of_getElem? (i := 48) (by decide +kernel))
theorem tw_289 : (Cond.fieldLink "java/lang/AbstractStringBuilder" 22 "java/lang/AbstractStringBuilder" "coder" "B") ∈ lw_tbl := tk_2 (List.mem_of_getElem? (i := 49) (by decide +kernel))
theorem tw_290 : (Cond.fieldLink "java/lang/AbstractStringBuilder" 73 "java/lang/AbstractStringBuilder" "maybeLatin1" "Z") ∈ lw_tbl := tk_2 (List.mem_of_getElem? (i := 50) (by decide +kernel))
theorem tw_291 : (Cond.fieldLink "java/lang/String" 1048 "java/lang/AbstractStringBuilder" "maybeLatin1" "Z") ∈ lw_tbl := tk_2 (List.mem_of_getElem? (i := 51) (by decide +kernel))
theorem tw_292 : (Cond.fieldLink "java/lang/AbstractStringBuilder" 79 "java/lang/AbstractStringBuilder" "count" "I") ∈ lw_tbl := tk_2 (List.mem_of_getElem? (i := 52) (by decide +kernel))
theorem tw_293 : (Cond.lays "java/lang/StringBuilder" "java/lang/AbstractStringBuilder" "value" "[B") ∈ lw_tbl := tk_2 (List.mem_of_getElem? (i := 53) (by decide +kernel))
theorem tw_294 : (Cond.soleField "java/lang/AbstractStringBuilder" "value") ∈ lw_tbl := tk_2 (List.mem_of_getElem? (i := 54) (by decide +kernel))
theorem tw_295 : (Cond.lays "java/lang/StringBuilder" "java/lang/AbstractStringBuilder" "coder" "B") ∈ lw_tbl := tk_2 (List.mem_of_getElem? (i := 55) (by decide +kernel))
theorem tw_296 : (Cond.soleField "java/lang/AbstractStringBuilder" "coder") ∈ lw_tbl := tk_2 (List.mem_of_getElem? (i := 56) (by decide +kernel))
theorem tw_297 : (Cond.lays "java/lang/StringBuilder" "java/lang/AbstractStringBuilder" "maybeLatin1" "Z") ∈ lw_tbl := tk_2 (List.mem_of_getElem? (i := 57) (by decide +kernel))
theorem tw_298 : (Cond.soleField "java/lang/AbstractStringBuilder" "maybeLatin1") ∈ lw_tbl := tk_2 (List.mem_of_getElem? (i := 58) (by decide +kernel))
theorem tw_299 : (Cond.lays "java/lang/StringBuilder" "java/lang/AbstractStringBuilder" "count" "I") ∈ lw_tbl := tk_2 (List.mem_of_getElem? (i := 59) (by decide +kernel))
theorem tw_300 : (Cond.soleField "java/lang/AbstractStringBuilder" "count") ∈ lw_tbl := tk_2 (List.mem_of_getElem? (i := 60) (by decide +kernel))
theorem tw_301 : (Cond.superclass "java/lang/StringBuilder" "java/lang/AbstractStringBuilder") ∈ lw_tbl := tk_2 (List.mem_of_getElem? (i := 61) (by decide +kernel))
theorem tw_302 : (Cond.arrayClass FieldType.byte) ∈ lw_tbl := tk_2 (List.mem_of_getElem? (i := 62) (by decide +kernel))
theorem tw_303 : (Cond.fieldLink "EchoCouncil" 10 "EchoCouncil" "now" "LEchoCouncil$State;") ∈ lw_tbl := tk_2 (List.mem_of_getElem? (i := 63) (by decide +kernel))
theorem tw_304 : (Cond.fieldLink "EchoCouncil" 16 "EchoCouncil" "before" "LEchoCouncil$State;") ∈ lw_tbl := tk_2 (List.mem_of_getElem? (i := 64) (by decide +kernel))
theorem tw_305 : (Cond.fieldLink "EchoCouncil" 19 "EchoCouncil" "saved" "LEchoCouncil$State;") ∈ lw_tbl := tk_2 (List.mem_of_getElem? (i := 65) (by decide +kernel))
theorem tw_306 : (Cond.fieldLink "EchoCouncil" 25 "EchoCouncil" "past" "LEchoCouncil$Past;") ∈ lw_tbl := tk_2 (List.mem_of_getElem? (i := 66) (by decide +kernel))
theorem tw_307 : (Cond.fieldLink "EchoCouncil" 32 "EchoCouncil" "text" "LEchoCouncil$OrderText;") ∈ lw_tbl := tk_2 (List.mem_of_getElem? (i := 67) (by decide +kernel))
theorem tw_308 : (Cond.fieldLink "EchoCouncil" 39 "EchoCouncil" "refusal" "LEchoCouncil$Refusal;") ∈ lw_tbl := tk_2 (List.mem_of_getElem? (i := 68) (by decide +kernel))
theorem tw_309 : (Cond.fieldLink "EchoCouncil" 46 "EchoCouncil" "line" "Ljava/lang/StringBuilder;") ∈ lw_tbl := tk_2 (List.mem_of_getElem? (i := 69) (by decide +kernel))
theorem tw_310 : (Cond.laysFinal "EchoCouncil" "EchoCouncil" "now" "LEchoCouncil$State;") ∈ lw_tbl := tk_2 (List.mem_of_getElem? (i := 70) (by decide +kernel))
theorem tw_311 : (Cond.soleField "EchoCouncil" "now") ∈ lw_tbl := tk_2 (List.mem_of_getElem? (i := 71) (by decide +kernel))
theorem tw_312 : (Cond.laysFinal "EchoCouncil" "EchoCouncil" "before" "LEchoCouncil$State;") ∈ lw_tbl := tk_2 (List.mem_of_getElem? (i := 72) (by decide +kernel))
theorem tw_313 : (Cond.soleField "EchoCouncil" "before") ∈ lw_tbl := tk_2 (List.mem_of_getElem? (i := 73) (by decide +kernel))
theorem tw_314 : (Cond.laysFinal "EchoCouncil" "EchoCouncil" "saved" "LEchoCouncil$State;") ∈ lw_tbl := tk_2 (List.mem_of_getElem? (i := 74) (by decide +kernel))
theorem tw_315 : (Cond.soleField "EchoCouncil" "saved") ∈ lw_tbl := tk_2 (List.mem_of_getElem? (i := 75) (by decide +kernel))
theorem tw_316 : (Cond.lays "EchoCouncil" "EchoCouncil" "isSaved" "Z") ∈ lw_tbl := tk_2 (List.mem_of_getElem? (i := 76) (by decide +kernel))
theorem tw_317 : (Cond.soleField "EchoCouncil" "isSaved") ∈ lw_tbl := tk_2 (List.mem_of_getElem? (i := 77) (by decide +kernel))
theorem tw_318 : (Cond.laysFinal "EchoCouncil" "EchoCouncil" "past" "LEchoCouncil$Past;") ∈ lw_tbl := tk_2 (List.mem_of_getElem? (i := 78) (by decide +kernel))
theorem tw_319 : (Cond.soleField "EchoCouncil" "past") ∈ lw_tbl := tk_2 (List.mem_of_getElem? (i := 79) (by decide +kernel))
theorem tw_320 : (Cond.laysFinal "EchoCouncil" "EchoCouncil" "text" "LEchoCouncil$OrderText;") ∈ lw_tbl := tk_2 (List.mem_of_getElem? (i := 80) (by decide +kernel))
theorem tw_321 : (Cond.soleField "EchoCouncil" "text") ∈ lw_tbl := tk_2 (List.mem_of_getElem? (i := 81) (by decide +kernel))
theorem tw_322 : (Cond.laysFinal "EchoCouncil" "EchoCouncil" "refusal" "LEchoCouncil$Refusal;") ∈ lw_tbl := tk_2 (List.mem_of_getElem? (i := 82) (by decide +kernel))
theorem tw_323 : (Cond.soleField "EchoCouncil" "refusal") ∈ lw_tbl := tk_2 (List.mem_of_getElem? (i := 83) (by decide +kernel))
theorem tw_324 : (Cond.laysFinal "EchoCouncil" "EchoCouncil" "line" "Ljava/lang/StringBuilder;") ∈ lw_tbl := tk_2 (List.mem_of_getElem? (i := 84) (by decide +kernel))
theorem tw_325 : (Cond.soleField "EchoCouncil" "line") ∈ lw_tbl := tk_2 (List.mem_of_getElem? (i := 85) (by decide +kernel))
theorem tw_326 : (Cond.superclass "EchoCouncil" "java/lang/Object") ∈ lw_tbl := tk_2 (List.mem_of_getElem? (i := 86) (by decide +kernel))
theorem tw_327 : (Cond.methodLink "EchoCouncilLaw" 127 ⟨"EchoCouncil", "account", "(I)I"⟩) ∈ lw_tbl := tk_2 (List.mem_of_getElem? (i := 87) (by decide +kernel))
theorem tw_328 : (Cond.instanceMethod ⟨"EchoCouncil", "account", "(I)I"⟩) ∈ lw_tbl := tk_2 (List.mem_of_getElem? (i := 88) (by decide +kernel))
theorem tw_329 : (Cond.selects "EchoCouncil" ⟨"EchoCouncil", "account", "(I)I"⟩ ⟨"EchoCouncil", "account", "(I)I"⟩) ∈ lw_tbl := tk_2 (List.mem_of_getElem? (i := 89) (by decide +kernel))
theorem tw_330 : (Cond.code ⟨"EchoCouncil", "account", "(I)I"⟩ prog_1_method_39_code 2 (some FieldType.int)) ∈ lw_tbl := tk_2 (List.mem_of_getElem? (i := 90) (by decide +kernel))
theorem tw_331 : (Cond.methodLink "EchoCouncil" 354 ⟨"EchoCouncil$State", "countLet", "()I"⟩) ∈ lw_tbl := tk_2 (List.mem_of_getElem? (i := 91) (by decide +kernel))
theorem tw_332 : (Cond.instanceMethod ⟨"EchoCouncil$State", "countLet", "()I"⟩) ∈ lw_tbl := tk_2 (List.mem_of_getElem? (i := 92) (by decide +kernel))
theorem tw_333 : (Cond.selects "EchoCouncil$State" ⟨"EchoCouncil$State", "countLet", "()I"⟩ ⟨"EchoCouncil$State", "countLet", "()I"⟩) ∈ lw_tbl := tk_2 (List.mem_of_getElem? (i := 93) (by decide +kernel))
theorem tw_334 : (Cond.code ⟨"EchoCouncil$State", "countLet", "()I"⟩ prog_10_method_24_code 1 (some FieldType.int)) ∈ lw_tbl := tk_2 (List.mem_of_getElem? (i := 94) (by decide +kernel))
theorem tw_335 : (Cond.methodLink "EchoCouncil$State" 122 ⟨"EchoCouncil$State", "countLetTo", "(I)I"⟩) ∈ lw_tbl := tk_2 (List.mem_of_getElem? (i := 95) (by decide +kernel))
theorem tw_336 : (Cond.instanceMethod ⟨"EchoCouncil$State", "countLetTo", "(I)I"⟩) ∈ lw_tbl := tk_2 (List.mem_of_getElem? (i := 96) (by decide +kernel))
theorem tw_337 : (Cond.selects "EchoCouncil$State" ⟨"EchoCouncil$State", "countLetTo", "(I)I"⟩ ⟨"EchoCouncil$State", "countLetTo", "(I)I"⟩) ∈ lw_tbl := tk_2 (List.mem_of_getElem? (i := 97) (by decide +kernel))
theorem tw_338 : (Cond.code ⟨"EchoCouncil$State", "countLetTo", "(I)I"⟩ prog_10_method_23_code 4 (some FieldType.int)) ∈ lw_tbl := tk_2 (List.mem_of_getElem? (i := 98) (by decide +kernel))
theorem tw_339 : (Cond.methodLink "EchoCouncil" 360 ⟨"EchoCouncil$State", "dampOfAll", "()I"⟩) ∈ lw_tbl := tk_2 (List.mem_of_getElem? (i := 99) (by decide +kernel))
theorem tw_340 : (Cond.instanceMethod ⟨"EchoCouncil$State", "dampOfAll", "()I"⟩) ∈ lw_tbl := tk_2 (List.mem_of_getElem? (i := 100) (by decide +kernel))
theorem tw_341 : (Cond.selects "EchoCouncil$State" ⟨"EchoCouncil$State", "dampOfAll", "()I"⟩ ⟨"EchoCouncil$State", "dampOfAll", "()I"⟩) ∈ lw_tbl := tk_2 (List.mem_of_getElem? (i := 101) (by decide +kernel))
theorem tw_342 : (Cond.code ⟨"EchoCouncil$State", "dampOfAll", "()I"⟩ prog_10_method_27_code 3 (some FieldType.int)) ∈ lw_tbl := tk_2 (List.mem_of_getElem? (i := 102) (by decide +kernel))
theorem tw_343 : (Cond.methodLink "EchoCouncil" 363 ⟨"EchoCouncil$State", "versesOfAll", "()I"⟩) ∈ lw_tbl := tk_2 (List.mem_of_getElem? (i := 103) (by decide +kernel))
theorem tw_344 : (Cond.instanceMethod ⟨"EchoCouncil$State", "versesOfAll", "()I"⟩) ∈ lw_tbl := tk_2 (List.mem_of_getElem? (i := 104) (by decide +kernel))
theorem tw_345 : (Cond.selects "EchoCouncil$State" ⟨"EchoCouncil$State", "versesOfAll", "()I"⟩ ⟨"EchoCouncil$State", "versesOfAll", "()I"⟩) ∈ lw_tbl := tk_2 (List.mem_of_getElem? (i := 105) (by decide +kernel))
theorem tw_346 : (Cond.code ⟨"EchoCouncil$State", "versesOfAll", "()I"⟩ prog_10_method_28_code 3 (some FieldType.int)) ∈ lw_tbl := tk_2 (List.mem_of_getElem? (i := 106) (by decide +kernel))
theorem tw_347 : (Cond.methodLink "EchoCouncil" 366 ⟨"EchoCouncil$State", "tonesOfAll", "()I"⟩) ∈ lw_tbl := tk_2 (List.mem_of_getElem? (i := 107) (by decide +kernel))
theorem tw_348 : (Cond.instanceMethod ⟨"EchoCouncil$State", "tonesOfAll", "()I"⟩) ∈ lw_tbl := tk_2 (List.mem_of_getElem? (i := 108) (by decide +kernel))
theorem tw_349 : (Cond.selects "EchoCouncil$State" ⟨"EchoCouncil$State", "tonesOfAll", "()I"⟩ ⟨"EchoCouncil$State", "tonesOfAll", "()I"⟩) ∈ lw_tbl := tk_2 (List.mem_of_getElem? (i := 109) (by decide +kernel))
theorem tw_350 : (Cond.code ⟨"EchoCouncil$State", "tonesOfAll", "()I"⟩ prog_10_method_29_code 3 (some FieldType.int)) ∈ lw_tbl := tk_2 (List.mem_of_getElem? (i := 110) (by decide +kernel))
theorem tw_351 : (Cond.methodLink "EchoCouncil" 265 ⟨"EchoCouncil$State", "heldOfAll", "()I"⟩) ∈ lw_tbl := tk_2 (List.mem_of_getElem? (i := 111) (by decide +kernel))
theorem tw_352 : (Cond.instanceMethod ⟨"EchoCouncil$State", "heldOfAll", "()I"⟩) ∈ lw_tbl := tk_2 (List.mem_of_getElem? (i := 112) (by decide +kernel))
theorem tw_353 : (Cond.selects "EchoCouncil$State" ⟨"EchoCouncil$State", "heldOfAll", "()I"⟩ ⟨"EchoCouncil$State", "heldOfAll", "()I"⟩) ∈ lw_tbl := tk_2 (List.mem_of_getElem? (i := 113) (by decide +kernel))
theorem tw_354 : (Cond.code ⟨"EchoCouncil$State", "heldOfAll", "()I"⟩ prog_10_method_26_code 3 (some FieldType.int)) ∈ lw_tbl := tk_2 (List.mem_of_getElem? (i := 114) (by decide +kernel))
theorem tw_355 : (Cond.methodLink "EchoCouncil$State" 125 ⟨"EchoCouncil$State", "heldOf", "(I)I"⟩) ∈ lw_tbl := tk_2 (List.mem_of_getElem? (i := 115) (by decide +kernel))
theorem tw_356 : (Cond.instanceMethod ⟨"EchoCouncil$State", "heldOf", "(I)I"⟩) ∈ lw_tbl := tk_2 (List.mem_of_getElem? (i := 116) (by decide +kernel))
theorem tw_357 : (Cond.selects "EchoCouncil$State" ⟨"EchoCouncil$State", "heldOf", "(I)I"⟩ ⟨"EchoCouncil$State", "heldOf", "(I)I"⟩) ∈ lw_tbl := tk_2 (List.mem_of_getElem? (i := 117) (by decide +kernel))
theorem tw_358 : (Cond.code ⟨"EchoCouncil$State", "heldOf", "(I)I"⟩ prog_10_method_25_code 4 (some FieldType.int)) ∈ lw_tbl := tk_2 (List.mem_of_getElem? (i := 118) (by decide +kernel))
theorem tw_359 : (Cond.classLink "EchoCouncil" 127 "java/lang/IllegalArgumentException") ∈ lw_tbl := tk_2 (List.mem_of_getElem? (i := 119) (by decide +kernel))
theorem tw_360 : (Cond.instantiable "java/lang/IllegalArgumentException" 6) ∈ lw_tbl := tk_2 (List.mem_of_getElem? (i := 120) (by decide +kernel))
theorem tw_361 : (Cond.castable "java/lang/IllegalArgumentException" "java/lang/IllegalArgumentException") ∈ lw_tbl := tk_2 (List.mem_of_getElem? (i := 121) (by decide +kernel))
theorem tw_362 : (Cond.declares ⟨"java/lang/RuntimeException", "<init>", "()V"⟩) ∈ lw_tbl := tk_2 (List.mem_of_getElem? (i := 122) (by decide +kernel))
theorem tw_363 : (Cond.declares ⟨"java/lang/RuntimeException", "<init>", "(Ljava/lang/String;)V"⟩) ∈ lw_tbl := tk_2 (List.mem_of_getElem? (i := 123) (by decide +kernel))
theorem tw_364 : (Cond.declares ⟨"java/lang/Exception", "<init>", "()V"⟩) ∈ lw_tbl := tk_2 (List.mem_of_getElem? (i := 124) (by decide +kernel))
theorem tw_365 : (Cond.declares ⟨"java/lang/Exception", "<init>", "(Ljava/lang/String;)V"⟩) ∈ lw_tbl := tk_2 (List.mem_of_getElem? (i := 125) (by decide +kernel))
theorem tw_366 : (Cond.declares ⟨"java/lang/Throwable", "<init>", "()V"⟩) ∈ lw_tbl := tk_2 (List.mem_of_getElem? (i := 126) (by decide +kernel))
theorem tw_367 : (Cond.declares ⟨"java/lang/Throwable", "<init>", "(Ljava/lang/String;)V"⟩) ∈ lw_tbl := tk_2 (List.mem_of_getElem? (i := 127) (by decide +kernel))
theorem tw_368 : (Cond.selects "java/lang/IllegalArgumentException" ⟨"java/lang/Throwable", "fillInStackTrace", "(I)Ljava/lang/Throwable;"⟩ ⟨"java/lang/Throwable", "fillInStackTrace", "(I)Ljava/lang/Throwable;"⟩) ∈ lw_tbl := tk_2 (List.mem_of_getElem? (i := 128) (by decide +kernel))
theorem tw_369 : (Cond.selects "java/lang/IllegalArgumentException" ⟨"java/lang/Throwable", "fillInStackTrace", "()Ljava/lang/Throwable;"⟩ ⟨"java/lang/Throwable", "fillInStackTrace", "()Ljava/lang/Throwable;"⟩) ∈ lw_tbl := tk_2 (List.mem_of_getElem? (i := 129) (by decide +kernel))
theorem tw_370 : (Cond.lays "java/lang/IllegalArgumentException" "java/lang/Throwable" "cause" "Ljava/lang/Throwable;") ∈ lw_tbl := tk_2 (List.mem_of_getElem? (i := 130) (by decide +kernel))
theorem tw_371 : (Cond.lays "java/lang/Throwable" "java/lang/Throwable" "cause" "Ljava/lang/Throwable;") ∈ lw_tbl := tk_2 (List.mem_of_getElem? (i := 131) (by decide +kernel))
theorem tw_372 : (Cond.lays "java/lang/IllegalArgumentException" "java/lang/Throwable" "stackTrace" "[Ljava/lang/StackTraceElement;") ∈ lw_tbl := tk_2 (List.mem_of_getElem? (i := 132) (by decide +kernel))
theorem tw_373 : (Cond.lays "java/lang/Throwable" "java/lang/Throwable" "stackTrace" "[Ljava/lang/StackTraceElement;") ∈ lw_tbl := tk_2 (List.mem_of_getElem? (i := 133) (by decide +kernel))
theorem tw_374 : (Cond.lays "java/lang/IllegalArgumentException" "java/lang/Throwable" "suppressedExceptions" "Ljava/util/List;") ∈ lw_tbl := tk_2 (List.mem_of_getElem? (i := 134) (by decide +kernel))
theorem tw_375 : (Cond.lays "java/lang/Throwable" "java/lang/Throwable" "suppressedExceptions" "Ljava/util/List;") ∈ lw_tbl := tk_2 (List.mem_of_getElem? (i := 135) (by decide +kernel))
theorem tw_376 : (Cond.lays "java/lang/IllegalArgumentException" "java/lang/Throwable" "detailMessage" "Ljava/lang/String;") ∈ lw_tbl := tk_2 (List.mem_of_getElem? (i := 136) (by decide +kernel))
theorem tw_377 : (Cond.lays "java/lang/Throwable" "java/lang/Throwable" "detailMessage" "Ljava/lang/String;") ∈ lw_tbl := tk_2 (List.mem_of_getElem? (i := 137) (by decide +kernel))
theorem tw_378 : (Cond.lays "java/lang/IllegalArgumentException" "java/lang/Throwable" "backtrace" "Ljava/lang/Object;") ∈ lw_tbl := tk_2 (List.mem_of_getElem? (i := 138) (by decide +kernel))
theorem tw_379 : (Cond.lays "java/lang/Throwable" "java/lang/Throwable" "backtrace" "Ljava/lang/Object;") ∈ lw_tbl := tk_2 (List.mem_of_getElem? (i := 139) (by decide +kernel))
theorem tw_380 : (Cond.fieldLink "java/lang/Throwable" 198 "java/lang/Throwable" "backtrace" "Ljava/lang/Object;") ∈ lw_tbl := tk_2 (List.mem_of_getElem? (i := 140) (by decide +kernel))
theorem tw_381 : (Cond.superclass "java/lang/Throwable" "java/lang/Object") ∈ lw_tbl := tk_2 (List.mem_of_getElem? (i := 141) (by decide +kernel))
theorem tw_382 : (Cond.instanceMethod ⟨"java/lang/Throwable", "<init>", "()V"⟩) ∈ lw_tbl := tk_2 (List.mem_of_getElem? (i := 142) (by decide +kernel))
theorem tw_383 : (Cond.code ⟨"java/lang/Throwable", "<init>", "()V"⟩ prog_35_method_1_code 1 none) ∈ lw_tbl := tk_2 (List.mem_of_getElem? (i := 143) (by decide +kernel))
theorem tw_384 : (Cond.methodLink "java/lang/Throwable" 1 ⟨"java/lang/Object", "<init>", "()V"⟩) ∈ lw_tbl := tk_2 (List.mem_of_getElem? (i := 144) (by decide +kernel))
theorem tw_385 : (Cond.fieldLink "java/lang/Throwable" 13 "java/lang/Throwable" "UNASSIGNED_STACK" "[Ljava/lang/StackTraceElement;") ∈ lw_tbl := tk_2 (List.mem_of_getElem? (i := 145) (by decide +kernel))
theorem tw_386 : (Cond.laysStatic "java/lang/Throwable" "UNASSIGNED_STACK" "[Ljava/lang/StackTraceElement;") ∈ lw_tbl := tk_2 (List.mem_of_getElem? (i := 146) (by decide +kernel))
theorem tw_387 : (Cond.fieldLink "java/lang/Throwable" 20 "java/lang/Throwable" "SUPPRESSED_SENTINEL" "Ljava/util/List;") ∈ lw_tbl := tk_2 (List.mem_of_getElem? (i := 147) (by decide +kernel))
theorem tw_388 : (Cond.laysStatic "java/lang/Throwable" "SUPPRESSED_SENTINEL" "Ljava/util/List;") ∈ lw_tbl := tk_2 (List.mem_of_getElem? (i := 148) (by decide +kernel))
theorem tw_389 : (Cond.methodLink "java/lang/Throwable" 27 ⟨"java/lang/Throwable", "fillInStackTrace", "()Ljava/lang/Throwable;"⟩) ∈ lw_tbl := tk_2 (List.mem_of_getElem? (i := 149) (by decide +kernel))
theorem tw_390 : (Cond.instanceMethod ⟨"java/lang/Throwable", "fillInStackTrace", "()Ljava/lang/Throwable;"⟩) ∈ lw_tbl := tk_2 (List.mem_of_getElem? (i := 150) (by decide +kernel))
theorem tw_391 : (Cond.sameMethod "java/lang/Throwable" "java/lang/Throwable" "fillInStackTrace" "()Ljava/lang/Throwable;") ∈ lw_tbl := tk_2 (List.mem_of_getElem? (i := 151) (by decide +kernel))
theorem tw_392 : (Cond.selects "java/lang/ArithmeticException" ⟨"java/lang/Throwable", "fillInStackTrace", "()Ljava/lang/Throwable;"⟩ ⟨"java/lang/Throwable", "fillInStackTrace", "()Ljava/lang/Throwable;"⟩) ∈ lw_tbl := tk_2 (List.mem_of_getElem? (i := 152) (by decide +kernel))
theorem tw_393 : (Cond.selects "java/lang/ArrayIndexOutOfBoundsException" ⟨"java/lang/Throwable", "fillInStackTrace", "()Ljava/lang/Throwable;"⟩ ⟨"java/lang/Throwable", "fillInStackTrace", "()Ljava/lang/Throwable;"⟩) ∈ lw_tbl := tk_2 (List.mem_of_getElem? (i := 153) (by decide +kernel))
theorem tw_394 : (Cond.selects "java/lang/IndexOutOfBoundsException" ⟨"java/lang/Throwable", "fillInStackTrace", "()Ljava/lang/Throwable;"⟩ ⟨"java/lang/Throwable", "fillInStackTrace", "()Ljava/lang/Throwable;"⟩) ∈ lw_tbl := tk_2 (List.mem_of_getElem? (i := 154) (by decide +kernel))
theorem tw_395 : (Cond.selects "java/lang/StringIndexOutOfBoundsException" ⟨"java/lang/Throwable", "fillInStackTrace", "()Ljava/lang/Throwable;"⟩ ⟨"java/lang/Throwable", "fillInStackTrace", "()Ljava/lang/Throwable;"⟩) ∈ lw_tbl := tk_2 (List.mem_of_getElem? (i := 155) (by decide +kernel))
theorem tw_396 : (Cond.selects "java/lang/UnsupportedOperationException" ⟨"java/lang/Throwable", "fillInStackTrace", "()Ljava/lang/Throwable;"⟩ ⟨"java/lang/Throwable", "fillInStackTrace", "()Ljava/lang/Throwable;"⟩) ∈ lw_tbl := tk_2 (List.mem_of_getElem? (i := 156) (by decide +kernel))
theorem tw_397 : (Cond.selects "java/util/NoSuchElementException" ⟨"java/lang/Throwable", "fillInStackTrace", "()Ljava/lang/Throwable;"⟩ ⟨"java/lang/Throwable", "fillInStackTrace", "()Ljava/lang/Throwable;"⟩) ∈ lw_tbl := tk_2 (List.mem_of_getElem? (i := 157) (by decide +kernel))
theorem tw_398 : (Cond.codeSync ⟨"java/lang/Throwable", "fillInStackTrace", "()Ljava/lang/Throwable;"⟩ prog_35_method_18_code 1 (Option.some (FieldType.object "java/lang/Throwable"))) ∈ lw_tbl := tk_2 (List.mem_of_getElem? (i := 158) (by decide +kernel))
theorem tw_399 : (Cond.methodLink "java/lang/Throwable" 202 ⟨"java/lang/Throwable", "fillInStackTrace", "(I)Ljava/lang/Throwable;"⟩) ∈ lw_tbl := tk_2 (List.mem_of_getElem? (i := 159) (by decide +kernel))
theorem tw_400 : (Cond.privateMethod ⟨"java/lang/Throwable", "fillInStackTrace", "(I)Ljava/lang/Throwable;"⟩) ∈ lw_tbl := tk_2 (List.mem_of_getElem? (i := 160) (by decide +kernel))
theorem tw_401 : (Cond.instanceMethod ⟨"java/lang/Throwable", "fillInStackTrace", "(I)Ljava/lang/Throwable;"⟩) ∈ lw_tbl := tk_2 (List.mem_of_getElem? (i := 161) (by decide +kernel))
theorem tw_402 : (Cond.instantiable "java/lang/Throwable" 6) ∈ lw_tbl := tk_2 (List.mem_of_getElem? (i := 162) (by decide +kernel))
theorem tw_403 : (Cond.native ⟨"java/lang/Throwable", "fillInStackTrace", "(I)Ljava/lang/Throwable;"⟩) ∈ lw_tbl := tk_2 (List.mem_of_getElem? (i := 163) (by decide +kernel))
theorem tw_404 : (Cond.stringRef "EchoCouncil" 370 "no such account") ∈ lw_tbl := tk_2 (List.mem_of_getElem? (i := 164) (by decide +kernel))
theorem tw_405 : (Cond.methodLink "EchoCouncil" 131 ⟨"java/lang/IllegalArgumentException", "<init>", "(Ljava/lang/String;)V"⟩) ∈ lw_tbl := tk_2 (List.mem_of_getElem? (i := 165) (by decide +kernel))
theorem tw_406 : (Cond.instanceMethod ⟨"java/lang/IllegalArgumentException", "<init>", "(Ljava/lang/String;)V"⟩) ∈ lw_tbl := tk_2 (List.mem_of_getElem? (i := 166) (by decide +kernel))
theorem tw_407 : (Cond.code ⟨"java/lang/IllegalArgumentException", "<init>", "(Ljava/lang/String;)V"⟩ prog_23_method_2_code 2 none) ∈ lw_tbl := tk_2 (List.mem_of_getElem? (i := 167) (by decide +kernel))
theorem tw_408 : (Cond.methodLink "java/lang/IllegalArgumentException" 7 ⟨"java/lang/RuntimeException", "<init>", "(Ljava/lang/String;)V"⟩) ∈ lw_tbl := tk_2 (List.mem_of_getElem? (i := 168) (by decide +kernel))
theorem tw_409 : (Cond.instanceMethod ⟨"java/lang/RuntimeException", "<init>", "(Ljava/lang/String;)V"⟩) ∈ lw_tbl := tk_2 (List.mem_of_getElem? (i := 169) (by decide +kernel))
theorem tw_410 : (Cond.code ⟨"java/lang/RuntimeException", "<init>", "(Ljava/lang/String;)V"⟩ prog_28_method_2_code 2 none) ∈ lw_tbl := tk_2 (List.mem_of_getElem? (i := 170) (by decide +kernel))
theorem tw_411 : (Cond.methodLink "java/lang/RuntimeException" 7 ⟨"java/lang/Exception", "<init>", "(Ljava/lang/String;)V"⟩) ∈ lw_tbl := tk_2 (List.mem_of_getElem? (i := 171) (by decide +kernel))
theorem tw_412 : (Cond.instanceMethod ⟨"java/lang/Exception", "<init>", "(Ljava/lang/String;)V"⟩) ∈ lw_tbl := tk_2 (List.mem_of_getElem? (i := 172) (by decide +kernel))
theorem tw_413 : (Cond.code ⟨"java/lang/Exception", "<init>", "(Ljava/lang/String;)V"⟩ prog_22_method_2_code 2 none) ∈ lw_tbl := tk_2 (List.mem_of_getElem? (i := 173) (by decide +kernel))
theorem tw_414 : (Cond.methodLink "java/lang/Exception" 7 ⟨"java/lang/Throwable", "<init>", "(Ljava/lang/String;)V"⟩) ∈ lw_tbl := tk_2 (List.mem_of_getElem? (i := 174) (by decide +kernel))
theorem tw_415 : (Cond.instanceMethod ⟨"java/lang/Throwable", "<init>", "(Ljava/lang/String;)V"⟩) ∈ lw_tbl := tk_2 (List.mem_of_getElem? (i := 175) (by decide +kernel))
theorem tw_416 : (Cond.code ⟨"java/lang/Throwable", "<init>", "(Ljava/lang/String;)V"⟩ prog_35_method_2_code 2 none) ∈ lw_tbl := tk_2 (List.mem_of_getElem? (i := 176) (by decide +kernel))
theorem tw_417 : (Cond.fieldLink "java/lang/Throwable" 198 "java/lang/Throwable" "backtrace" "Ljava/lang/Object;") ∈ lw_tbl := tk_2 (List.mem_of_getElem? (i := 177) (by decide +kernel))
theorem tw_418 : (Cond.fieldLink "java/lang/Throwable" 31 "java/lang/Throwable" "detailMessage" "Ljava/lang/String;") ∈ lw_tbl := tk_2 (List.mem_of_getElem? (i := 178) (by decide +kernel))
theorem tw_419 : (Cond.fieldLink "java/lang/Throwable" 7 "java/lang/Throwable" "cause" "Ljava/lang/Throwable;") ∈ lw_tbl := tk_2 (List.mem_of_getElem? (i := 179) (by decide +kernel))
theorem tw_420 : (Cond.fieldLink "java/lang/Throwable" 17 "java/lang/Throwable" "stackTrace" "[Ljava/lang/StackTraceElement;") ∈ lw_tbl := tk_2 (List.mem_of_getElem? (i := 180) (by decide +kernel))
theorem tw_421 : (Cond.fieldLink "java/lang/Throwable" 24 "java/lang/Throwable" "suppressedExceptions" "Ljava/util/List;") ∈ lw_tbl := tk_2 (List.mem_of_getElem? (i := 181) (by decide +kernel))
theorem tw_422 : (Cond.soleField "java/lang/Throwable" "backtrace") ∈ lw_tbl := tk_2 (List.mem_of_getElem? (i := 182) (by decide +kernel))
theorem tw_423 : (Cond.soleField "java/lang/Throwable" "detailMessage") ∈ lw_tbl := tk_2 (List.mem_of_getElem? (i := 183) (by decide +kernel))
theorem tw_424 : (Cond.soleField "java/lang/Throwable" "cause") ∈ lw_tbl := tk_2 (List.mem_of_getElem? (i := 184) (by decide +kernel))
theorem tw_425 : (Cond.soleField "java/lang/Throwable" "stackTrace") ∈ lw_tbl := tk_2 (List.mem_of_getElem? (i := 185) (by decide +kernel))
theorem tw_426 : (Cond.lays "java/lang/IllegalArgumentException" "java/lang/Throwable" "depth" "I") ∈ lw_tbl := tk_2 (List.mem_of_getElem? (i := 186) (by decide +kernel))
theorem tw_427 : (Cond.soleField "java/lang/Throwable" "depth") ∈ lw_tbl := tk_2 (List.mem_of_getElem? (i := 187) (by decide +kernel))
theorem tw_428 : (Cond.soleField "java/lang/Throwable" "suppressedExceptions") ∈ lw_tbl := tk_2 (List.mem_of_getElem? (i := 188) (by decide +kernel))
theorem tw_429 : (Cond.superclass "java/lang/IllegalArgumentException" "java/lang/RuntimeException") ∈ lw_tbl := tk_2 (List.mem_of_getElem? (i := 189) (by decide +kernel))
theorem tw_430 : (Cond.methodLink "EchoCouncilLaw" 138 ⟨"EchoCouncilLaw", "ask", "(LEchoCouncil;III)I"⟩) ∈ lw_tbl := tk_2 (List.mem_of_getElem? (i := 190) (by decide +kernel))
theorem tw_431 : (Cond.static ⟨"EchoCouncilLaw", "ask", "(LEchoCouncil;III)I"⟩) ∈ lw_tbl := tk_2 (List.mem_of_getElem? (i := 191) (by decide +kernel))
theorem tw_432 : (Cond.codeWith ⟨"EchoCouncilLaw", "ask", "(LEchoCouncil;III)I"⟩ method_8_code 5 (some FieldType.int) [(0, 7, 8, 116), (0, 7, 14, 71), (0, 7, 20, 118)]) ∈ lw_tbl := tk_2 (List.mem_of_getElem? (i := 192) (by decide +kernel))
theorem tw_433 : (Cond.classLink "EchoCouncilLaw" 116 "java/lang/IndexOutOfBoundsException") ∈ lw_tbl := tk_2 (List.mem_of_getElem? (i := 193) (by decide +kernel))
theorem tw_434 : (Cond.instantiable "java/lang/ArrayIndexOutOfBoundsException" 6) ∈ lw_tbl := tk_2 (List.mem_of_getElem? (i := 194) (by decide +kernel))
theorem tw_435 : (Cond.instanceMethod ⟨"java/lang/ArrayIndexOutOfBoundsException", "<init>", "(Ljava/lang/String;)V"⟩) ∈ lw_tbl := tk_2 (List.mem_of_getElem? (i := 195) (by decide +kernel))
theorem tw_436 : (Cond.code ⟨"java/lang/ArrayIndexOutOfBoundsException", "<init>", "(Ljava/lang/String;)V"⟩ prog_17_method_2_code 2 none) ∈ lw_tbl := tk_2 (List.mem_of_getElem? (i := 196) (by decide +kernel))
theorem tw_437 : (Cond.methodLink "java/lang/ArrayIndexOutOfBoundsException" 7 ⟨"java/lang/IndexOutOfBoundsException", "<init>", "(Ljava/lang/String;)V"⟩) ∈ lw_tbl := tk_2 (List.mem_of_getElem? (i := 197) (by decide +kernel))
theorem tw_438 : (Cond.instanceMethod ⟨"java/lang/IndexOutOfBoundsException", "<init>", "(Ljava/lang/String;)V"⟩) ∈ lw_tbl := tk_2 (List.mem_of_getElem? (i := 198) (by decide +kernel))
theorem tw_439 : (Cond.code ⟨"java/lang/IndexOutOfBoundsException", "<init>", "(Ljava/lang/String;)V"⟩ prog_24_method_2_code 2 none) ∈ lw_tbl := tk_2 (List.mem_of_getElem? (i := 199) (by decide +kernel))
theorem tw_440 : (Cond.methodLink "java/lang/IndexOutOfBoundsException" 7 ⟨"java/lang/RuntimeException", "<init>", "(Ljava/lang/String;)V"⟩) ∈ lw_tbl := tk_2 (List.mem_of_getElem? (i := 200) (by decide +kernel))
theorem tw_441 : (Cond.lays "java/lang/ArrayIndexOutOfBoundsException" "java/lang/Throwable" "backtrace" "Ljava/lang/Object;") ∈ lw_tbl := tk_2 (List.mem_of_getElem? (i := 201) (by decide +kernel))
theorem tw_442 : (Cond.lays "java/lang/ArrayIndexOutOfBoundsException" "java/lang/Throwable" "detailMessage" "Ljava/lang/String;") ∈ lw_tbl := tk_2 (List.mem_of_getElem? (i := 202) (by decide +kernel))
theorem tw_443 : (Cond.lays "java/lang/ArrayIndexOutOfBoundsException" "java/lang/Throwable" "cause" "Ljava/lang/Throwable;") ∈ lw_tbl := tk_2 (List.mem_of_getElem? (i := 203) (by decide +kernel))
theorem tw_444 : (Cond.lays "java/lang/ArrayIndexOutOfBoundsException" "java/lang/Throwable" "stackTrace" "[Ljava/lang/StackTraceElement;") ∈ lw_tbl := tk_2 (List.mem_of_getElem? (i := 204) (by decide +kernel))
theorem tw_445 : (Cond.lays "java/lang/ArrayIndexOutOfBoundsException" "java/lang/Throwable" "depth" "I") ∈ lw_tbl := tk_2 (List.mem_of_getElem? (i := 205) (by decide +kernel))
theorem tw_446 : (Cond.lays "java/lang/ArrayIndexOutOfBoundsException" "java/lang/Throwable" "suppressedExceptions" "Ljava/util/List;") ∈ lw_tbl := tk_2 (List.mem_of_getElem? (i := 206) (by decide +kernel))
theorem tw_447 : (Cond.superclass "java/lang/ArrayIndexOutOfBoundsException" "java/lang/IndexOutOfBoundsException") ∈ lw_tbl := tk_2 (List.mem_of_getElem? (i := 207) (by decide +kernel))
theorem tw_448 : (Cond.castable "java/lang/ArrayIndexOutOfBoundsException" "java/lang/ArrayIndexOutOfBoundsException") ∈ lw_tbl := tk_2 (List.mem_of_getElem? (i := 208) (by decide +kernel))
theorem tw_449 : (Cond.declares ⟨"java/lang/IndexOutOfBoundsException", "<init>", "()V"⟩) ∈ lw_tbl := tk_2 (List.mem_of_getElem? (i := 209) (by decide +kernel))
theorem tw_450 : (Cond.declares ⟨"java/lang/IndexOutOfBoundsException", "<init>", "(Ljava/lang/String;)V"⟩) ∈ lw_tbl := tk_2 (List.mem_of_getElem? (i := 210) (by decide +kernel))
theorem tw_451 : (Cond.selects "java/lang/ArrayIndexOutOfBoundsException" ⟨"java/lang/Throwable", "fillInStackTrace", "(I)Ljava/lang/Throwable;"⟩ ⟨"java/lang/Throwable", "fillInStackTrace", "(I)Ljava/lang/Throwable;"⟩) ∈ lw_tbl := tk_2 (List.mem_of_getElem? (i := 211) (by decide +kernel))
theorem tw_452 : (Cond.instantiable "java/lang/String" 4) ∈ lw_tbl := tk_2 (List.mem_of_getElem? (i := 212) (by decide +kernel))
theorem tw_453 : (Cond.laysFinal "java/lang/String" "java/lang/String" "value" "[B") ∈ lw_tbl := tk_2 (List.mem_of_getElem? (i := 213) (by decide +kernel))
theorem tw_454 : (Cond.soleField "java/lang/String" "value") ∈ lw_tbl := tk_2 (List.mem_of_getElem? (i := 214) (by decide +kernel))
theorem tw_455 : (Cond.laysFinal "java/lang/String" "java/lang/String" "coder" "B") ∈ lw_tbl := tk_2 (List.mem_of_getElem? (i := 215) (by decide +kernel))
theorem tw_456 : (Cond.soleField "java/lang/String" "coder") ∈ lw_tbl := tk_2 (List.mem_of_getElem? (i := 216) (by decide +kernel))
theorem tw_457 : (Cond.classLink "EchoCouncilLaw" 71 "java/lang/IllegalArgumentException") ∈ lw_tbl := tk_2 (List.mem_of_getElem? (i := 217) (by decide +kernel))
theorem tw_458 : (Cond.classLink "EchoCouncilLaw" 118 "java/util/NoSuchElementException") ∈ lw_tbl := tk_2 (List.mem_of_getElem? (i := 218) (by decide +kernel))
theorem tw_459 : (Cond.methodLink "EchoCouncilLaw" 112 ⟨"EchoCouncilLaw", "asked", "(LEchoCouncil;III)I"⟩) ∈ lw_tbl := tk_2 (List.mem_of_getElem? (i := 219) (by decide +kernel))
theorem tw_460 : (Cond.static ⟨"EchoCouncilLaw", "asked", "(LEchoCouncil;III)I"⟩) ∈ lw_tbl := tk_2 (List.mem_of_getElem? (i := 220) (by decide +kernel))
theorem tw_461 : (Cond.code ⟨"EchoCouncilLaw", "asked", "(LEchoCouncil;III)I"⟩ method_7_code 4 (some FieldType.int)) ∈ lw_tbl := tk_2 (List.mem_of_getElem? (i := 221) (by decide +kernel))
theorem tw_462 : (Cond.methodLink "EchoCouncilLaw" 75 ⟨"EchoCouncil", "roomOf", "(II)I"⟩) ∈ lw_tbl := tk_2 (List.mem_of_getElem? (i := 222) (by decide +kernel))
theorem tw_463 : (Cond.instanceMethod ⟨"EchoCouncil", "roomOf", "(II)I"⟩) ∈ lw_tbl := tk_2 (List.mem_of_getElem? (i := 223) (by decide +kernel))
theorem tw_464 : (Cond.selects "EchoCouncil" ⟨"EchoCouncil", "roomOf", "(II)I"⟩ ⟨"EchoCouncil", "roomOf", "(II)I"⟩) ∈ lw_tbl := tk_2 (List.mem_of_getElem? (i := 224) (by decide +kernel))
theorem tw_465 : (Cond.code ⟨"EchoCouncil", "roomOf", "(II)I"⟩ prog_1_method_12_code 3 (some FieldType.int)) ∈ lw_tbl := tk_2 (List.mem_of_getElem? (i := 225) (by decide +kernel))
theorem tw_466 : (Cond.methodLink "EchoCouncil" 92 ⟨"EchoCouncil", "checkRoom", "(I)V"⟩) ∈ lw_tbl := tk_2 (List.mem_of_getElem? (i := 226) (by decide +kernel))
theorem tw_467 : (Cond.privateMethod ⟨"EchoCouncil", "checkRoom", "(I)V"⟩) ∈ lw_tbl := tk_2 (List.mem_of_getElem? (i := 227) (by decide +kernel))
theorem tw_468 : (Cond.instanceMethod ⟨"EchoCouncil", "checkRoom", "(I)V"⟩) ∈ lw_tbl := tk_2 (List.mem_of_getElem? (i := 228) (by decide +kernel))
theorem tw_469 : (Cond.code ⟨"EchoCouncil", "checkRoom", "(I)V"⟩ prog_1_method_45_code 2 none) ∈ lw_tbl := tk_2 (List.mem_of_getElem? (i := 229) (by decide +kernel))
theorem tw_470 : (Cond.methodLink "EchoCouncil" 393 ⟨"EchoCouncil$State", "hasRoom", "(I)Z"⟩) ∈ lw_tbl := tk_2 (List.mem_of_getElem? (i := 230) (by decide +kernel))
theorem tw_471 : (Cond.instanceMethod ⟨"EchoCouncil$State", "hasRoom", "(I)Z"⟩) ∈ lw_tbl := tk_2 (List.mem_of_getElem? (i := 231) (by decide +kernel))
theorem tw_472 : (Cond.selects "EchoCouncil$State" ⟨"EchoCouncil$State", "hasRoom", "(I)Z"⟩ ⟨"EchoCouncil$State", "hasRoom", "(I)Z"⟩) ∈ lw_tbl := tk_2 (List.mem_of_getElem? (i := 232) (by decide +kernel))
theorem tw_473 : (Cond.code ⟨"EchoCouncil$State", "hasRoom", "(I)Z"⟩ prog_10_method_3_code 2 (some FieldType.boolean)) ∈ lw_tbl := tk_2 (List.mem_of_getElem? (i := 233) (by decide +kernel))
theorem tw_474 : (Cond.classLink "EchoCouncil" 345 "java/lang/IndexOutOfBoundsException") ∈ lw_tbl := tk_2 (List.mem_of_getElem? (i := 234) (by decide +kernel))
theorem tw_475 : (Cond.instantiable "java/lang/IndexOutOfBoundsException" 6) ∈ lw_tbl := tk_2 (List.mem_of_getElem? (i := 235) (by decide +kernel))
theorem tw_476 : (Cond.castable "java/lang/IndexOutOfBoundsException" "java/lang/IndexOutOfBoundsException") ∈ lw_tbl := tk_2 (List.mem_of_getElem? (i := 236) (by decide +kernel))
theorem tw_477 : (Cond.selects "java/lang/IndexOutOfBoundsException" ⟨"java/lang/Throwable", "fillInStackTrace", "(I)Ljava/lang/Throwable;"⟩ ⟨"java/lang/Throwable", "fillInStackTrace", "(I)Ljava/lang/Throwable;"⟩) ∈ lw_tbl := tk_2 (List.mem_of_getElem? (i := 237) (by decide +kernel))
theorem tw_478 : (Cond.lays "java/lang/IndexOutOfBoundsException" "java/lang/Throwable" "cause" "Ljava/lang/Throwable;") ∈ lw_tbl := tk_2 (List.mem_of_getElem? (i := 238) (by decide +kernel))
theorem tw_479 : (Cond.lays "java/lang/IndexOutOfBoundsException" "java/lang/Throwable" "stackTrace" "[Ljava/lang/StackTraceElement;") ∈ lw_tbl := tk_2 (List.mem_of_getElem? (i := 239) (by decide +kernel))
theorem tw_480 : (Cond.lays "java/lang/IndexOutOfBoundsException" "java/lang/Throwable" "suppressedExceptions" "Ljava/util/List;") ∈ lw_tbl := tk_3 (List.mem_of_getElem? (i := 0) (by decide +kernel))
theorem tw_481 : (Cond.lays "java/lang/IndexOutOfBoundsException" "java/lang/Throwable" "detailMessage" "Ljava/lang/String;") ∈ lw_tbl := tk_3 (List.mem_of_getElem? (i := 1) (by decide +kernel))
theorem tw_482 : (Cond.lays "java/lang/IndexOutOfBoundsException" "java/lang/Throwable" "backtrace" "Ljava/lang/Object;") ∈ lw_tbl := tk_3 (List.mem_of_getElem? (i := 2) (by decide +kernel))
theorem tw_483 : (Cond.stringRef "EchoCouncil" 396 "there is no such room") ∈ lw_tbl := tk_3 (List.mem_of_getElem? (i := 3) (by decide +kernel))
theorem tw_484 : (Cond.methodLink "EchoCouncil" 349 ⟨"java/lang/IndexOutOfBoundsException", "<init>", "(Ljava/lang/String;)V"⟩) ∈ lw_tbl := tk_3 (List.mem_of_getElem? (i := 4) (by decide +kernel))
theorem tw_485 : (Cond.lays "java/lang/IndexOutOfBoundsException" "java/lang/Throwable" "depth" "I") ∈ lw_tbl := tk_3 (List.mem_of_getElem? (i := 5) (by decide +kernel))
theorem tw_486 : (Cond.superclass "java/lang/IndexOutOfBoundsException" "java/lang/RuntimeException") ∈ lw_tbl := tk_3 (List.mem_of_getElem? (i := 6) (by decide +kernel))
theorem tw_487 : (Cond.methodLink "EchoCouncil" 109 ⟨"EchoCouncil$State", "singersIn", "(I)I"⟩) ∈ lw_tbl := tk_3 (List.mem_of_getElem? (i := 7) (by decide +kernel))
theorem tw_488 : (Cond.instanceMethod ⟨"EchoCouncil$State", "singersIn", "(I)I"⟩) ∈ lw_tbl := tk_3 (List.mem_of_getElem? (i := 8) (by decide +kernel))
theorem tw_489 : (Cond.selects "EchoCouncil$State" ⟨"EchoCouncil$State", "singersIn", "(I)I"⟩ ⟨"EchoCouncil$State", "singersIn", "(I)I"⟩) ∈ lw_tbl := tk_3 (List.mem_of_getElem? (i := 9) (by decide +kernel))
theorem tw_490 : (Cond.code ⟨"EchoCouncil$State", "singersIn", "(I)I"⟩ prog_10_method_12_code 4 (some FieldType.int)) ∈ lw_tbl := tk_3 (List.mem_of_getElem? (i := 10) (by decide +kernel))
theorem tw_491 : (Cond.methodLink "EchoCouncil" 113 ⟨"java/lang/Integer", "bitCount", "(I)I"⟩) ∈ lw_tbl := tk_3 (List.mem_of_getElem? (i := 11) (by decide +kernel))
theorem tw_492 : (Cond.static ⟨"java/lang/Integer", "bitCount", "(I)I"⟩) ∈ lw_tbl := tk_3 (List.mem_of_getElem? (i := 12) (by decide +kernel))
theorem tw_493 : (Cond.code ⟨"java/lang/Integer", "bitCount", "(I)I"⟩ prog_25_method_49_code 1 (some FieldType.int)) ∈ lw_tbl := tk_3 (List.mem_of_getElem? (i := 13) (by decide +kernel))
theorem tw_494 : (Cond.constant "java/lang/Integer" 265 (1431655765 : Int32)) ∈ lw_tbl := tk_3 (List.mem_of_getElem? (i := 14) (by decide +kernel))
theorem tw_495 : (Cond.constant "java/lang/Integer" 266 (858993459 : Int32)) ∈ lw_tbl := tk_3 (List.mem_of_getElem? (i := 15) (by decide +kernel))
theorem tw_496 : (Cond.constant "java/lang/Integer" 267 (252645135 : Int32)) ∈ lw_tbl := tk_3 (List.mem_of_getElem? (i := 16) (by decide +kernel))
theorem tw_497 : (Cond.methodLink "EchoCouncil" 118 ⟨"EchoCouncil$State", "echoesIn", "(I)I"⟩) ∈ lw_tbl := tk_3 (List.mem_of_getElem? (i := 17) (by decide +kernel))
theorem tw_498 : (Cond.instanceMethod ⟨"EchoCouncil$State", "echoesIn", "(I)I"⟩) ∈ lw_tbl := tk_3 (List.mem_of_getElem? (i := 18) (by decide +kernel))
theorem tw_499 : (Cond.selects "EchoCouncil$State" ⟨"EchoCouncil$State", "echoesIn", "(I)I"⟩ ⟨"EchoCouncil$State", "echoesIn", "(I)I"⟩) ∈ lw_tbl := tk_3 (List.mem_of_getElem? (i := 19) (by decide +kernel))
theorem tw_500 : (Cond.code ⟨"EchoCouncil$State", "echoesIn", "(I)I"⟩ prog_10_method_13_code 4 (some FieldType.int)) ∈ lw_tbl := tk_3 (List.mem_of_getElem? (i := 20) (by decide +kernel))
theorem tw_501 : (Cond.methodLink "EchoCouncil" 121 ⟨"EchoCouncil$State", "freeIn", "(I)I"⟩) ∈ lw_tbl := tk_3 (List.mem_of_getElem? (i := 21) (by decide +kernel))
theorem tw_502 : (Cond.instanceMethod ⟨"EchoCouncil$State", "freeIn", "(I)I"⟩) ∈ lw_tbl := tk_3 (List.mem_of_getElem? (i := 22) (by decide +kernel))
theorem tw_503 : (Cond.selects "EchoCouncil$State" ⟨"EchoCouncil$State", "freeIn", "(I)I"⟩ ⟨"EchoCouncil$State", "freeIn", "(I)I"⟩) ∈ lw_tbl := tk_3 (List.mem_of_getElem? (i := 23) (by decide +kernel))
theorem tw_504 : (Cond.code ⟨"EchoCouncil$State", "freeIn", "(I)I"⟩ prog_10_method_14_code 4 (some FieldType.int)) ∈ lw_tbl := tk_3 (List.mem_of_getElem? (i := 24) (by decide +kernel))
theorem tw_505 : (Cond.methodLink "EchoCouncil$State" 89 ⟨"EchoCouncil$State", "isLet", "(I)Z"⟩) ∈ lw_tbl := tk_3 (List.mem_of_getElem? (i := 25) (by decide +kernel))
theorem tw_506 : (Cond.instanceMethod ⟨"EchoCouncil$State", "isLet", "(I)Z"⟩) ∈ lw_tbl := tk_3 (List.mem_of_getElem? (i := 26) (by decide +kernel))
theorem tw_507 : (Cond.selects "EchoCouncil$State" ⟨"EchoCouncil$State", "isLet", "(I)Z"⟩ ⟨"EchoCouncil$State", "isLet", "(I)Z"⟩) ∈ lw_tbl := tk_3 (List.mem_of_getElem? (i := 27) (by decide +kernel))
theorem tw_508 : (Cond.code ⟨"EchoCouncil$State", "isLet", "(I)Z"⟩ prog_10_method_7_code 2 (some FieldType.boolean)) ∈ lw_tbl := tk_3 (List.mem_of_getElem? (i := 28) (by decide +kernel))
theorem tw_509 : (Cond.stringRef "EchoCouncil" 129 "no such number of a room") ∈ lw_tbl := tk_3 (List.mem_of_getElem? (i := 29) (by decide +kernel))
theorem tw_510 : (Cond.methodLink "EchoCouncilLaw" 78 ⟨"EchoCouncil", "echoOf", "(II)I"⟩) ∈ lw_tbl := tk_3 (List.mem_of_getElem? (i := 30) (by decide +kernel))
theorem tw_511 : (Cond.instanceMethod ⟨"EchoCouncil", "echoOf", "(II)I"⟩) ∈ lw_tbl := tk_3 (List.mem_of_getElem? (i := 31) (by decide +kernel))
theorem tw_512 : (Cond.selects "EchoCouncil" ⟨"EchoCouncil", "echoOf", "(II)I"⟩ ⟨"EchoCouncil", "echoOf", "(II)I"⟩) ∈ lw_tbl := tk_3 (List.mem_of_getElem? (i := 32) (by decide +kernel))
theorem tw_513 : (Cond.code ⟨"EchoCouncil", "echoOf", "(II)I"⟩ prog_1_method_13_code 3 (some FieldType.int)) ∈ lw_tbl := tk_3 (List.mem_of_getElem? (i := 33) (by decide +kernel))
theorem tw_514 : (Cond.methodLink "EchoCouncil" 134 ⟨"EchoCouncil", "checkEcho", "(I)V"⟩) ∈ lw_tbl := tk_3 (List.mem_of_getElem? (i := 34) (by decide +kernel))
theorem tw_515 : (Cond.privateMethod ⟨"EchoCouncil", "checkEcho", "(I)V"⟩) ∈ lw_tbl := tk_3 (List.mem_of_getElem? (i := 35) (by decide +kernel))
theorem tw_516 : (Cond.instanceMethod ⟨"EchoCouncil", "checkEcho", "(I)V"⟩) ∈ lw_tbl := tk_3 (List.mem_of_getElem? (i := 36) (by decide +kernel))
theorem tw_517 : (Cond.code ⟨"EchoCouncil", "checkEcho", "(I)V"⟩ prog_1_method_46_code 2 none) ∈ lw_tbl := tk_3 (List.mem_of_getElem? (i := 37) (by decide +kernel))
theorem tw_518 : (Cond.methodLink "EchoCouncil" 398 ⟨"EchoCouncil$State", "hasEcho", "(I)Z"⟩) ∈ lw_tbl := tk_3 (List.mem_of_getElem? (i := 38) (by decide +kernel))
theorem tw_519 : (Cond.instanceMethod ⟨"EchoCouncil$State", "hasEcho", "(I)Z"⟩) ∈ lw_tbl := tk_3 (List.mem_of_getElem? (i := 39) (by decide +kernel))
theorem tw_520 : (Cond.selects "EchoCouncil$State" ⟨"EchoCouncil$State", "hasEcho", "(I)Z"⟩ ⟨"EchoCouncil$State", "hasEcho", "(I)Z"⟩) ∈ lw_tbl := tk_3 (List.mem_of_getElem? (i := 40) (by decide +kernel))
theorem tw_521 : (Cond.code ⟨"EchoCouncil$State", "hasEcho", "(I)Z"⟩ prog_10_method_4_code 2 (some FieldType.boolean)) ∈ lw_tbl := tk_3 (List.mem_of_getElem? (i := 41) (by decide +kernel))
theorem tw_522 : (Cond.stringRef "EchoCouncil" 401 "there is no such echo") ∈ lw_tbl := tk_3 (List.mem_of_getElem? (i := 42) (by decide +kernel))
theorem tw_523 : (Cond.stringRef "EchoCouncil" 156 "no such number of an echo") ∈ lw_tbl := tk_3 (List.mem_of_getElem? (i := 43) (by decide +kernel))
theorem tw_524 : (Cond.methodLink "EchoCouncilLaw" 81 ⟨"EchoCouncil", "singerOf", "(II)I"⟩) ∈ lw_tbl := tk_3 (List.mem_of_getElem? (i := 44) (by decide +kernel))
theorem tw_525 : (Cond.instanceMethod ⟨"EchoCouncil", "singerOf", "(II)I"⟩) ∈ lw_tbl := tk_3 (List.mem_of_getElem? (i := 45) (by decide +kernel))
theorem tw_526 : (Cond.selects "EchoCouncil" ⟨"EchoCouncil", "singerOf", "(II)I"⟩ ⟨"EchoCouncil", "singerOf", "(II)I"⟩) ∈ lw_tbl := tk_3 (List.mem_of_getElem? (i := 46) (by decide +kernel))
theorem tw_527 : (Cond.code ⟨"EchoCouncil", "singerOf", "(II)I"⟩ prog_1_method_14_code 3 (some FieldType.int)) ∈ lw_tbl := tk_3 (List.mem_of_getElem? (i := 47) (by decide +kernel))
theorem tw_528 : (Cond.methodLink "EchoCouncil" 158 ⟨"EchoCouncil", "checkSinger", "(I)V"⟩) ∈ lw_tbl := tk_3 (List.mem_of_getElem? (i := 48) (by decide +kernel))
theorem tw_529 : (Cond.privateMethod ⟨"EchoCouncil", "checkSinger", "(I)V"⟩) ∈ lw_tbl := tk_3 (List.mem_of_getElem? (i := 49) (by decide +kernel))
theorem tw_530 : (Cond.instanceMethod ⟨"EchoCouncil", "checkSinger", "(I)V"⟩) ∈ lw_tbl := tk_3 (List.mem_of_getElem? (i := 50) (by decide +kernel))
theorem tw_531 : (Cond.code ⟨"EchoCouncil", "checkSinger", "(I)V"⟩ prog_1_method_47_code 2 none) ∈ lw_tbl := tk_3 (List.mem_of_getElem? (i := 51) (by decide +kernel))
theorem tw_532 : (Cond.methodLink "EchoCouncil" 403 ⟨"EchoCouncil$State", "hasSinger", "(I)Z"⟩) ∈ lw_tbl := tk_3 (List.mem_of_getElem? (i := 52) (by decide +kernel))
theorem tw_533 : (Cond.instanceMethod ⟨"EchoCouncil$State", "hasSinger", "(I)Z"⟩) ∈ lw_tbl := tk_3 (List.mem_of_getElem? (i := 53) (by decide +kernel))
theorem tw_534 : (Cond.selects "EchoCouncil$State" ⟨"EchoCouncil$State", "hasSinger", "(I)Z"⟩ ⟨"EchoCouncil$State", "hasSinger", "(I)Z"⟩) ∈ lw_tbl := tk_3 (List.mem_of_getElem? (i := 54) (by decide +kernel))
theorem tw_535 : (Cond.code ⟨"EchoCouncil$State", "hasSinger", "(I)Z"⟩ prog_10_method_5_code 2 (some FieldType.boolean)) ∈ lw_tbl := tk_3 (List.mem_of_getElem? (i := 55) (by decide +kernel))
theorem tw_536 : (Cond.stringRef "EchoCouncil" 406 "there is no such singer") ∈ lw_tbl := tk_3 (List.mem_of_getElem? (i := 56) (by decide +kernel))
theorem tw_537 : (Cond.methodLink "EchoCouncil" 174 ⟨"EchoCouncil$State", "countLetTo", "(I)I"⟩) ∈ lw_tbl := tk_3 (List.mem_of_getElem? (i := 57) (by decide +kernel))
theorem tw_538 : (Cond.methodLink "EchoCouncil" 179 ⟨"EchoCouncil$State", "heldOf", "(I)I"⟩) ∈ lw_tbl := tk_3 (List.mem_of_getElem? (i := 58) (by decide +kernel))
theorem tw_539 : (Cond.stringRef "EchoCouncil" 182 "no such number of a singer") ∈ lw_tbl := tk_3 (List.mem_of_getElem? (i := 59) (by decide +kernel))
theorem tw_540 : (Cond.methodLink "EchoCouncilLaw" 84 ⟨"EchoCouncil", "tones", "(I)I"⟩) ∈ lw_tbl := tk_3 (List.mem_of_getElem? (i := 60) (by decide +kernel))
theorem tw_541 : (Cond.instanceMethod ⟨"EchoCouncil", "tones", "(I)I"⟩) ∈ lw_tbl := tk_3 (List.mem_of_getElem? (i := 61) (by decide +kernel))
theorem tw_542 : (Cond.selects "EchoCouncil" ⟨"EchoCouncil", "tones", "(I)I"⟩ ⟨"EchoCouncil", "tones", "(I)I"⟩) ∈ lw_tbl := tk_3 (List.mem_of_getElem? (i := 62) (by decide +kernel))
theorem tw_543 : (Cond.code ⟨"EchoCouncil", "tones", "(I)I"⟩ prog_1_method_15_code 2 (some FieldType.int)) ∈ lw_tbl := tk_3 (List.mem_of_getElem? (i := 63) (by decide +kernel))
theorem tw_544 : (Cond.methodLink "EchoCouncil" 184 ⟨"EchoCouncil", "checkSingerInside", "(I)V"⟩) ∈ lw_tbl := tk_3 (List.mem_of_getElem? (i := 64) (by decide +kernel))
theorem tw_545 : (Cond.privateMethod ⟨"EchoCouncil", "checkSingerInside", "(I)V"⟩) ∈ lw_tbl := tk_3 (List.mem_of_getElem? (i := 65) (by decide +kernel))
theorem tw_546 : (Cond.instanceMethod ⟨"EchoCouncil", "checkSingerInside", "(I)V"⟩) ∈ lw_tbl := tk_3 (List.mem_of_getElem? (i := 66) (by decide +kernel))
theorem tw_547 : (Cond.code ⟨"EchoCouncil", "checkSingerInside", "(I)V"⟩ prog_1_method_48_code 2 none) ∈ lw_tbl := tk_3 (List.mem_of_getElem? (i := 67) (by decide +kernel))
theorem tw_548 : (Cond.methodLink "EchoCouncil" 250 ⟨"EchoCouncil$State", "isInside", "(I)Z"⟩) ∈ lw_tbl := tk_3 (List.mem_of_getElem? (i := 68) (by decide +kernel))
theorem tw_549 : (Cond.instanceMethod ⟨"EchoCouncil$State", "isInside", "(I)Z"⟩) ∈ lw_tbl := tk_3 (List.mem_of_getElem? (i := 69) (by decide +kernel))
theorem tw_550 : (Cond.selects "EchoCouncil$State" ⟨"EchoCouncil$State", "isInside", "(I)Z"⟩ ⟨"EchoCouncil$State", "isInside", "(I)Z"⟩) ∈ lw_tbl := tk_3 (List.mem_of_getElem? (i := 70) (by decide +kernel))
theorem tw_551 : (Cond.code ⟨"EchoCouncil$State", "isInside", "(I)Z"⟩ prog_10_method_6_code 2 (some FieldType.boolean)) ∈ lw_tbl := tk_3 (List.mem_of_getElem? (i := 71) (by decide +kernel))
theorem tw_552 : (Cond.classLink "EchoCouncil" 204 "java/util/NoSuchElementException") ∈ lw_tbl := tk_3 (List.mem_of_getElem? (i := 72) (by decide +kernel))
theorem tw_553 : (Cond.instantiable "java/util/NoSuchElementException" 6) ∈ lw_tbl := tk_3 (List.mem_of_getElem? (i := 73) (by decide +kernel))
theorem tw_554 : (Cond.castable "java/util/NoSuchElementException" "java/util/NoSuchElementException") ∈ lw_tbl := tk_3 (List.mem_of_getElem? (i := 74) (by decide +kernel))
theorem tw_555 : (Cond.selects "java/util/NoSuchElementException" ⟨"java/lang/Throwable", "fillInStackTrace", "(I)Ljava/lang/Throwable;"⟩ ⟨"java/lang/Throwable", "fillInStackTrace", "(I)Ljava/lang/Throwable;"⟩) ∈ lw_tbl := tk_3 (List.mem_of_getElem? (i := 75) (by decide +kernel))
theorem tw_556 : (Cond.lays "java/util/NoSuchElementException" "java/lang/Throwable" "cause" "Ljava/lang/Throwable;") ∈ lw_tbl := tk_3 (List.mem_of_getElem? (i := 76) (by decide +kernel))
theorem tw_557 : (Cond.lays "java/util/NoSuchElementException" "java/lang/Throwable" "stackTrace" "[Ljava/lang/StackTraceElement;") ∈ lw_tbl := tk_3 (List.mem_of_getElem? (i := 77) (by decide +kernel))
theorem tw_558 : (Cond.lays "java/util/NoSuchElementException" "java/lang/Throwable" "suppressedExceptions" "Ljava/util/List;") ∈ lw_tbl := tk_3 (List.mem_of_getElem? (i := 78) (by decide +kernel))
theorem tw_559 : (Cond.lays "java/util/NoSuchElementException" "java/lang/Throwable" "detailMessage" "Ljava/lang/String;") ∈ lw_tbl := tk_3 (List.mem_of_getElem? (i := 79) (by decide +kernel))
theorem tw_560 : (Cond.lays "java/util/NoSuchElementException" "java/lang/Throwable" "backtrace" "Ljava/lang/Object;") ∈ lw_tbl := tk_3 (List.mem_of_getElem? (i := 80) (by decide +kernel))
theorem tw_561 : (Cond.stringRef "EchoCouncil" 408 "the singer is outside") ∈ lw_tbl := tk_3 (List.mem_of_getElem? (i := 81) (by decide +kernel))
theorem tw_562 : (Cond.methodLink "EchoCouncil" 208 ⟨"java/util/NoSuchElementException", "<init>", "(Ljava/lang/String;)V"⟩) ∈ lw_tbl := tk_3 (List.mem_of_getElem? (i := 82) (by decide +kernel))
theorem tw_563 : (Cond.instanceMethod ⟨"java/util/NoSuchElementException", "<init>", "(Ljava/lang/String;)V"⟩) ∈ lw_tbl := tk_3 (List.mem_of_getElem? (i := 83) (by decide +kernel))
theorem tw_564 : (Cond.code ⟨"java/util/NoSuchElementException", "<init>", "(Ljava/lang/String;)V"⟩ prog_40_method_4_code 2 none) ∈ lw_tbl := tk_3 (List.mem_of_getElem? (i := 84) (by decide +kernel))
theorem tw_565 : (Cond.methodLink "java/util/NoSuchElementException" 13 ⟨"java/lang/RuntimeException", "<init>", "(Ljava/lang/String;)V"⟩) ∈ lw_tbl := tk_3 (List.mem_of_getElem? (i := 85) (by decide +kernel))
theorem tw_566 : (Cond.lays "java/util/NoSuchElementException" "java/lang/Throwable" "depth" "I") ∈ lw_tbl := tk_3 (List.mem_of_getElem? (i := 86) (by decide +kernel))
theorem tw_567 : (Cond.superclass "java/util/NoSuchElementException" "java/lang/RuntimeException") ∈ lw_tbl := tk_3 (List.mem_of_getElem? (i := 87) (by decide +kernel))
theorem tw_568 : (Cond.methodLink "EchoCouncil" 187 ⟨"EchoCouncil$State", "tonesInRoom", "(II)I"⟩) ∈ lw_tbl := tk_3 (List.mem_of_getElem? (i := 88) (by decide +kernel))
theorem tw_569 : (Cond.instanceMethod ⟨"EchoCouncil$State", "tonesInRoom", "(II)I"⟩) ∈ lw_tbl := tk_3 (List.mem_of_getElem? (i := 89) (by decide +kernel))
theorem tw_570 : (Cond.selects "EchoCouncil$State" ⟨"EchoCouncil$State", "tonesInRoom", "(II)I"⟩ ⟨"EchoCouncil$State", "tonesInRoom", "(II)I"⟩) ∈ lw_tbl := tk_3 (List.mem_of_getElem? (i := 90) (by decide +kernel))
theorem tw_571 : (Cond.code ⟨"EchoCouncil$State", "tonesInRoom", "(II)I"⟩ prog_10_method_17_code 5 (some FieldType.int)) ∈ lw_tbl := tk_3 (List.mem_of_getElem? (i := 91) (by decide +kernel))
theorem tw_572 : (Cond.methodLink "EchoCouncil$State" 102 ⟨"EchoCouncil$State", "isHeard", "(III)Z"⟩) ∈ lw_tbl := tk_3 (List.mem_of_getElem? (i := 92) (by decide +kernel))
theorem tw_573 : (Cond.instanceMethod ⟨"EchoCouncil$State", "isHeard", "(III)Z"⟩) ∈ lw_tbl := tk_3 (List.mem_of_getElem? (i := 93) (by decide +kernel))
theorem tw_574 : (Cond.selects "EchoCouncil$State" ⟨"EchoCouncil$State", "isHeard", "(III)Z"⟩ ⟨"EchoCouncil$State", "isHeard", "(III)Z"⟩) ∈ lw_tbl := tk_3 (List.mem_of_getElem? (i := 94) (by decide +kernel))
theorem tw_575 : (Cond.code ⟨"EchoCouncil$State", "isHeard", "(III)Z"⟩ prog_10_method_16_code 4 (some FieldType.boolean)) ∈ lw_tbl := tk_3 (List.mem_of_getElem? (i := 95) (by decide +kernel))
theorem tw_576 : (Cond.methodLink "EchoCouncil$State" 106 ⟨"EchoCouncil$State", "aboveDamp", "(I)I"⟩) ∈ lw_tbl := tk_3 (List.mem_of_getElem? (i := 96) (by decide +kernel))
theorem tw_577 : (Cond.instanceMethod ⟨"EchoCouncil$State", "aboveDamp", "(I)I"⟩) ∈ lw_tbl := tk_3 (List.mem_of_getElem? (i := 97) (by decide +kernel))
theorem tw_578 : (Cond.selects "EchoCouncil$State" ⟨"EchoCouncil$State", "aboveDamp", "(I)I"⟩ ⟨"EchoCouncil$State", "aboveDamp", "(I)I"⟩) ∈ lw_tbl := tk_3 (List.mem_of_getElem? (i := 98) (by decide +kernel))
theorem tw_579 : (Cond.code ⟨"EchoCouncil$State", "aboveDamp", "(I)I"⟩ prog_10_method_15_code 2 (some FieldType.int)) ∈ lw_tbl := tk_3 (List.mem_of_getElem? (i := 99) (by decide +kernel))
theorem tw_580 : (Cond.methodLink "EchoCouncil$State" 96 ⟨"java/lang/Math", "max", "(II)I"⟩) ∈ lw_tbl := tk_3 (List.mem_of_getElem? (i := 100) (by decide +kernel))
theorem tw_581 : (Cond.static ⟨"java/lang/Math", "max", "(II)I"⟩) ∈ lw_tbl := tk_3 (List.mem_of_getElem? (i := 101) (by decide +kernel))
theorem tw_582 : (Cond.code ⟨"java/lang/Math", "max", "(II)I"⟩ prog_26_method_65_code 2 (some FieldType.int)) ∈ lw_tbl := tk_3 (List.mem_of_getElem? (i := 102) (by decide +kernel))
theorem tw_583 : (Cond.methodLink "EchoCouncilLaw" 87 ⟨"EchoCouncil", "verses", "(I)I"⟩) ∈ lw_tbl := tk_3 (List.mem_of_getElem? (i := 103) (by decide +kernel))
theorem tw_584 : (Cond.instanceMethod ⟨"EchoCouncil", "verses", "(I)I"⟩) ∈ lw_tbl := tk_3 (List.mem_of_getElem? (i := 104) (by decide +kernel))
theorem tw_585 : (Cond.selects "EchoCouncil" ⟨"EchoCouncil", "verses", "(I)I"⟩ ⟨"EchoCouncil", "verses", "(I)I"⟩) ∈ lw_tbl := tk_3 (List.mem_of_getElem? (i := 105) (by decide +kernel))
theorem tw_586 : (Cond.code ⟨"EchoCouncil", "verses", "(I)I"⟩ prog_1_method_17_code 2 (some FieldType.int)) ∈ lw_tbl := tk_3 (List.mem_of_getElem? (i := 106) (by decide +kernel))
theorem tw_587 : (Cond.methodLink "EchoCouncil" 194 ⟨"EchoCouncil$State", "versesInThought", "(I)I"⟩) ∈ lw_tbl := tk_3 (List.mem_of_getElem? (i := 107) (by decide +kernel))
theorem tw_588 : (Cond.instanceMethod ⟨"EchoCouncil$State", "versesInThought", "(I)I"⟩) ∈ lw_tbl := tk_3 (List.mem_of_getElem? (i := 108) (by decide +kernel))
theorem tw_589 : (Cond.selects "EchoCouncil$State" ⟨"EchoCouncil$State", "versesInThought", "(I)I"⟩ ⟨"EchoCouncil$State", "versesInThought", "(I)I"⟩) ∈ lw_tbl := tk_3 (List.mem_of_getElem? (i := 109) (by decide +kernel))
theorem tw_590 : (Cond.code ⟨"EchoCouncil$State", "versesInThought", "(I)I"⟩ prog_10_method_20_code 3 (some FieldType.int)) ∈ lw_tbl := tk_3 (List.mem_of_getElem? (i := 110) (by decide +kernel))
theorem tw_591 : (Cond.methodLink "EchoCouncil$State" 113 ⟨"EchoCouncil$State", "tonesAfter", "(II)I"⟩) ∈ lw_tbl := tk_3 (List.mem_of_getElem? (i := 111) (by decide +kernel))
theorem tw_592 : (Cond.instanceMethod ⟨"EchoCouncil$State", "tonesAfter", "(II)I"⟩) ∈ lw_tbl := tk_3 (List.mem_of_getElem? (i := 112) (by decide +kernel))
theorem tw_593 : (Cond.selects "EchoCouncil$State" ⟨"EchoCouncil$State", "tonesAfter", "(II)I"⟩ ⟨"EchoCouncil$State", "tonesAfter", "(II)I"⟩) ∈ lw_tbl := tk_3 (List.mem_of_getElem? (i := 113) (by decide +kernel))
theorem tw_594 : (Cond.code ⟨"EchoCouncil$State", "tonesAfter", "(II)I"⟩ prog_10_method_21_code 7 (some FieldType.int)) ∈ lw_tbl := tk_3 (List.mem_of_getElem? (i := 114) (by decide +kernel))
theorem tw_595 : (Cond.methodLink "EchoCouncil$State" 116 ⟨"java/lang/Math", "min", "(II)I"⟩) ∈ lw_tbl := tk_3 (List.mem_of_getElem? (i := 115) (by decide +kernel))
theorem tw_596 : (Cond.static ⟨"java/lang/Math", "min", "(II)I"⟩) ∈ lw_tbl := tk_3 (List.mem_of_getElem? (i := 116) (by decide +kernel))
theorem tw_597 : (Cond.code ⟨"java/lang/Math", "min", "(II)I"⟩ prog_26_method_69_code 2 (some FieldType.int)) ∈ lw_tbl := tk_3 (List.mem_of_getElem? (i := 117) (by decide +kernel))
theorem tw_598 : (Cond.methodLink "EchoCouncilLaw" 90 ⟨"EchoCouncil", "would", "(II)I"⟩) ∈ lw_tbl := tk_3 (List.mem_of_getElem? (i := 118) (by decide +kernel))
theorem tw_599 : (Cond.instanceMethod ⟨"EchoCouncil", "would", "(II)I"⟩) ∈ lw_tbl := tk_3 (List.mem_of_getElem? (i := 119) (by decide +kernel))
theorem tw_600 : (Cond.selects "EchoCouncil" ⟨"EchoCouncil", "would", "(II)I"⟩ ⟨"EchoCouncil", "would", "(II)I"⟩) ∈ lw_tbl := tk_3 (List.mem_of_getElem? (i := 120) (by decide +kernel))
theorem tw_601 : (Cond.code ⟨"EchoCouncil", "would", "(II)I"⟩ prog_1_method_19_code 3 (some FieldType.int)) ∈ lw_tbl := tk_3 (List.mem_of_getElem? (i := 121) (by decide +kernel))
theorem tw_602 : (Cond.methodLink "EchoCouncilLaw" 93 ⟨"EchoCouncil", "bestRoom", "(I)I"⟩) ∈ lw_tbl := tk_3 (List.mem_of_getElem? (i := 122) (by decide +kernel))
theorem tw_603 : (Cond.instanceMethod ⟨"EchoCouncil", "bestRoom", "(I)I"⟩) ∈ lw_tbl := tk_3 (List.mem_of_getElem? (i := 123) (by decide +kernel))
theorem tw_604 : (Cond.selects "EchoCouncil" ⟨"EchoCouncil", "bestRoom", "(I)I"⟩ ⟨"EchoCouncil", "bestRoom", "(I)I"⟩) ∈ lw_tbl := tk_3 (List.mem_of_getElem? (i := 124) (by decide +kernel))
theorem tw_605 : (Cond.code ⟨"EchoCouncil", "bestRoom", "(I)I"⟩ prog_1_method_20_code 4 (some FieldType.int)) ∈ lw_tbl := tk_3 (List.mem_of_getElem? (i := 125) (by decide +kernel))
theorem tw_606 : (Cond.stringRef "EchoCouncil" 206 "there are no rooms") ∈ lw_tbl := tk_3 (List.mem_of_getElem? (i := 126) (by decide +kernel))
theorem tw_607 : (Cond.methodLink "EchoCouncilLaw" 96 ⟨"EchoCouncil", "backFor", "(I)I"⟩) ∈ lw_tbl := tk_3 (List.mem_of_getElem? (i := 127) (by decide +kernel))
theorem tw_608 : (Cond.instanceMethod ⟨"EchoCouncil", "backFor", "(I)I"⟩) ∈ lw_tbl := tk_3 (List.mem_of_getElem? (i := 128) (by decide +kernel))
theorem tw_609 : (Cond.selects "EchoCouncil" ⟨"EchoCouncil", "backFor", "(I)I"⟩ ⟨"EchoCouncil", "backFor", "(I)I"⟩) ∈ lw_tbl := tk_3 (List.mem_of_getElem? (i := 129) (by decide +kernel))
theorem tw_610 : (Cond.code ⟨"EchoCouncil", "backFor", "(I)I"⟩ prog_1_method_23_code 2 (some FieldType.int)) ∈ lw_tbl := tk_3 (List.mem_of_getElem? (i := 130) (by decide +kernel))
theorem tw_611 : (Cond.methodLink "EchoCouncil" 217 ⟨"EchoCouncil$State", "isLet", "(I)Z"⟩) ∈ lw_tbl := tk_3 (List.mem_of_getElem? (i := 131) (by decide +kernel))
theorem tw_612 : (Cond.stringRef "EchoCouncil" 226 "the echo is not let") ∈ lw_tbl := tk_3 (List.mem_of_getElem? (i := 132) (by decide +kernel))
theorem tw_613 : (Cond.methodLink "EchoCouncil" 228 ⟨"EchoCouncil$State", "aboveDamp", "(I)I"⟩) ∈ lw_tbl := tk_3 (List.mem_of_getElem? (i := 133) (by decide +kernel))
theorem tw_614 : (Cond.methodLink "EchoCouncilLaw" 99 ⟨"EchoCouncil", "dampest", "(I)I"⟩) ∈ lw_tbl := tk_3 (List.mem_of_getElem? (i := 134) (by decide +kernel))
theorem tw_615 : (Cond.instanceMethod ⟨"EchoCouncil", "dampest", "(I)I"⟩) ∈ lw_tbl := tk_3 (List.mem_of_getElem? (i := 135) (by decide +kernel))
theorem tw_616 : (Cond.selects "EchoCouncil" ⟨"EchoCouncil", "dampest", "(I)I"⟩ ⟨"EchoCouncil", "dampest", "(I)I"⟩) ∈ lw_tbl := tk_3 (List.mem_of_getElem? (i := 136) (by decide +kernel))
theorem tw_617 : (Cond.code ⟨"EchoCouncil", "dampest", "(I)I"⟩ prog_1_method_27_code 3 (some FieldType.int)) ∈ lw_tbl := tk_3 (List.mem_of_getElem? (i := 137) (by decide +kernel))
theorem tw_618 : (Cond.methodLink "EchoCouncil" 231 ⟨"EchoCouncil", "countRoomsAhead", "(I)I"⟩) ∈ lw_tbl := tk_3 (List.mem_of_getElem? (i := 138) (by decide +kernel))
theorem tw_619 : (Cond.privateMethod ⟨"EchoCouncil", "countRoomsAhead", "(I)I"⟩) ∈ lw_tbl := tk_3 (List.mem_of_getElem? (i := 139) (by decide +kernel))
theorem tw_620 : (Cond.instanceMethod ⟨"EchoCouncil", "countRoomsAhead", "(I)I"⟩) ∈ lw_tbl := tk_3 (List.mem_of_getElem? (i := 140) (by decide +kernel))
theorem tw_621 : (Cond.code ⟨"EchoCouncil", "countRoomsAhead", "(I)I"⟩ prog_1_method_63_code 4 (some FieldType.int)) ∈ lw_tbl := tk_3 (List.mem_of_getElem? (i := 141) (by decide +kernel))
theorem tw_622 : (Cond.methodLink "EchoCouncil" 497 ⟨"EchoCouncil", "isDamperThan", "(II)Z"⟩) ∈ lw_tbl := tk_3 (List.mem_of_getElem? (i := 142) (by decide +kernel))
theorem tw_623 : (Cond.privateMethod ⟨"EchoCouncil", "isDamperThan", "(II)Z"⟩) ∈ lw_tbl := tk_3 (List.mem_of_getElem? (i := 143) (by decide +kernel))
theorem tw_624 : (Cond.instanceMethod ⟨"EchoCouncil", "isDamperThan", "(II)Z"⟩) ∈ lw_tbl := tk_3 (List.mem_of_getElem? (i := 144) (by decide +kernel))
theorem tw_625 : (Cond.code ⟨"EchoCouncil", "isDamperThan", "(II)Z"⟩ prog_1_method_64_code 5 (some FieldType.boolean)) ∈ lw_tbl := tk_3 (List.mem_of_getElem? (i := 145) (by decide +kernel))
theorem tw_626 : (Cond.stringRef "EchoCouncil" 234 "no such place in the order of rooms") ∈ lw_tbl := tk_3 (List.mem_of_getElem? (i := 146) (by decide +kernel))
theorem tw_627 : (Cond.methodLink "EchoCouncilLaw" 102 ⟨"EchoCouncil", "ranked", "(II)I"⟩) ∈ lw_tbl := tk_3 (List.mem_of_getElem? (i := 147) (by decide +kernel))
theorem tw_628 : (Cond.instanceMethod ⟨"EchoCouncil", "ranked", "(II)I"⟩) ∈ lw_tbl := tk_3 (List.mem_of_getElem? (i := 148) (by decide +kernel))
theorem tw_629 : (Cond.selects "EchoCouncil" ⟨"EchoCouncil", "ranked", "(II)I"⟩ ⟨"EchoCouncil", "ranked", "(II)I"⟩) ∈ lw_tbl := tk_3 (List.mem_of_getElem? (i := 149) (by decide +kernel))
theorem tw_630 : (Cond.code ⟨"EchoCouncil", "ranked", "(II)I"⟩ prog_1_method_28_code 4 (some FieldType.int)) ∈ lw_tbl := tk_3 (List.mem_of_getElem? (i := 150) (by decide +kernel))
theorem tw_631 : (Cond.stringRef "EchoCouncil" 236 "no such order of singers") ∈ lw_tbl := tk_3 (List.mem_of_getElem? (i := 151) (by decide +kernel))
theorem tw_632 : (Cond.methodLink "EchoCouncil" 239 ⟨"EchoCouncil", "countSingersAhead", "(II)I"⟩) ∈ lw_tbl := tk_3 (List.mem_of_getElem? (i := 152) (by decide +kernel))
theorem tw_633 : (Cond.privateMethod ⟨"EchoCouncil", "countSingersAhead", "(II)I"⟩) ∈ lw_tbl := tk_3 (List.mem_of_getElem? (i := 153) (by decide +kernel))
theorem tw_634 : (Cond.instanceMethod ⟨"EchoCouncil", "countSingersAhead", "(II)I"⟩) ∈ lw_tbl := tk_3 (List.mem_of_getElem? (i := 154) (by decide +kernel))
theorem tw_635 : (Cond.code ⟨"EchoCouncil", "countSingersAhead", "(II)I"⟩ prog_1_method_65_code 7 (some FieldType.int)) ∈ lw_tbl := tk_3 (List.mem_of_getElem? (i := 155) (by decide +kernel))
theorem tw_636 : (Cond.methodLink "EchoCouncil" 500 ⟨"EchoCouncil", "rankedValue", "(II)I"⟩) ∈ lw_tbl := tk_3 (List.mem_of_getElem? (i := 156) (by decide +kernel))
theorem tw_637 : (Cond.privateMethod ⟨"EchoCouncil", "rankedValue", "(II)I"⟩) ∈ lw_tbl := tk_3 (List.mem_of_getElem? (i := 157) (by decide +kernel))
theorem tw_638 : (Cond.instanceMethod ⟨"EchoCouncil", "rankedValue", "(II)I"⟩) ∈ lw_tbl := tk_3 (List.mem_of_getElem? (i := 158) (by decide +kernel))
theorem tw_639 : (Cond.code ⟨"EchoCouncil", "rankedValue", "(II)I"⟩ prog_1_method_66_code 3 (some FieldType.int)) ∈ lw_tbl := tk_3 (List.mem_of_getElem? (i := 159) (by decide +kernel))
theorem tw_640 : (Cond.stringRef "EchoCouncil" 242 "no such place in the order of singers") ∈ lw_tbl := tk_3 (List.mem_of_getElem? (i := 160) (by decide +kernel))
theorem tw_641 : (Cond.methodLink "EchoCouncilLaw" 105 ⟨"EchoCouncil", "strongest", "(I)I"⟩) ∈ lw_tbl := tk_3 (List.mem_of_getElem? (i := 161) (by decide +kernel))
theorem tw_642 : (Cond.instanceMethod ⟨"EchoCouncil", "strongest", "(I)I"⟩) ∈ lw_tbl := tk_3 (List.mem_of_getElem? (i := 162) (by decide +kernel))
theorem tw_643 : (Cond.selects "EchoCouncil" ⟨"EchoCouncil", "strongest", "(I)I"⟩ ⟨"EchoCouncil", "strongest", "(I)I"⟩) ∈ lw_tbl := tk_3 (List.mem_of_getElem? (i := 163) (by decide +kernel))
theorem tw_644 : (Cond.code ⟨"EchoCouncil", "strongest", "(I)I"⟩ prog_1_method_29_code 3 (some FieldType.int)) ∈ lw_tbl := tk_3 (List.mem_of_getElem? (i := 164) (by decide +kernel))
theorem tw_645 : (Cond.methodLink "EchoCouncil" 245 ⟨"EchoCouncil", "countEchoesAhead", "(I)I"⟩) ∈ lw_tbl := tk_3 (List.mem_of_getElem? (i := 165) (by decide +kernel))
theorem tw_646 : (Cond.privateMethod ⟨"EchoCouncil", "countEchoesAhead", "(I)I"⟩) ∈ lw_tbl := tk_3 (List.mem_of_getElem? (i := 166) (by decide +kernel))
theorem tw_647 : (Cond.instanceMethod ⟨"EchoCouncil", "countEchoesAhead", "(I)I"⟩) ∈ lw_tbl := tk_3 (List.mem_of_getElem? (i := 167) (by decide +kernel))
theorem tw_648 : (Cond.code ⟨"EchoCouncil", "countEchoesAhead", "(I)I"⟩ prog_1_method_67_code 4 (some FieldType.int)) ∈ lw_tbl := tk_3 (List.mem_of_getElem? (i := 168) (by decide +kernel))
theorem tw_649 : (Cond.methodLink "EchoCouncil" 503 ⟨"EchoCouncil", "isStrongerThan", "(II)Z"⟩) ∈ lw_tbl := tk_3 (List.mem_of_getElem? (i := 169) (by decide +kernel))
theorem tw_650 : (Cond.privateMethod ⟨"EchoCouncil", "isStrongerThan", "(II)Z"⟩) ∈ lw_tbl := tk_3 (List.mem_of_getElem? (i := 170) (by decide +kernel))
theorem tw_651 : (Cond.instanceMethod ⟨"EchoCouncil", "isStrongerThan", "(II)Z"⟩) ∈ lw_tbl := tk_3 (List.mem_of_getElem? (i := 171) (by decide +kernel))
theorem tw_652 : (Cond.code ⟨"EchoCouncil", "isStrongerThan", "(II)Z"⟩ prog_1_method_68_code 3 (some FieldType.boolean)) ∈ lw_tbl := tk_3 (List.mem_of_getElem? (i := 172) (by decide +kernel))
theorem tw_653 : (Cond.stringRef "EchoCouncil" 248 "no such place in the order of echoes") ∈ lw_tbl := tk_3 (List.mem_of_getElem? (i := 173) (by decide +kernel))
theorem tw_654 : (Cond.methodLink "EchoCouncilLaw" 108 ⟨"EchoCouncil", "reason", "(IZ)I"⟩) ∈ lw_tbl := tk_3 (List.mem_of_getElem? (i := 174) (by decide +kernel))
theorem tw_655 : (Cond.instanceMethod ⟨"EchoCouncil", "reason", "(IZ)I"⟩) ∈ lw_tbl := tk_3 (List.mem_of_getElem? (i := 175) (by decide +kernel))
theorem tw_656 : (Cond.selects "EchoCouncil" ⟨"EchoCouncil", "reason", "(IZ)I"⟩ ⟨"EchoCouncil", "reason", "(IZ)I"⟩) ∈ lw_tbl := tk_3 (List.mem_of_getElem? (i := 176) (by decide +kernel))
theorem tw_657 : (Cond.code ⟨"EchoCouncil", "reason", "(IZ)I"⟩ prog_1_method_34_code 3 (some FieldType.int)) ∈ lw_tbl := tk_3 (List.mem_of_getElem? (i := 177) (by decide +kernel))
theorem tw_658 : (Cond.stringRef "EchoCouncil" 302 "no such depth") ∈ lw_tbl := tk_3 (List.mem_of_getElem? (i := 178) (by decide +kernel))
theorem tw_659 : (Cond.stringRef "EchoCouncil" 308 "nothing was refused") ∈ lw_tbl := tk_3 (List.mem_of_getElem? (i := 179) (by decide +kernel))
theorem tw_660 : (Cond.stringRef "EchoCouncil" 319 "there is no cause") ∈ lw_tbl := tk_3 (List.mem_of_getElem? (i := 180) (by decide +kernel))
theorem tw_661 : (Cond.methodLink "EchoCouncilLaw" 247 ⟨"EchoCouncilLaw", "lay", "(LEchoCouncil;[I)V"⟩) ∈ lw_tbl := tk_3 (List.mem_of_getElem? (i := 181) (by decide +kernel))
theorem tw_662 : (Cond.static ⟨"EchoCouncilLaw", "lay", "(LEchoCouncil;[I)V"⟩) ∈ lw_tbl := tk_3 (List.mem_of_getElem? (i := 182) (by decide +kernel))
theorem tw_663 : (Cond.code ⟨"EchoCouncilLaw", "lay", "(LEchoCouncil;[I)V"⟩ method_9_code 4 none) ∈ lw_tbl := tk_3 (List.mem_of_getElem? (i := 183) (by decide +kernel))
theorem tw_664 : (Cond.methodLink "EchoCouncilLaw" 120 ⟨"EchoCouncilLaw", "pick", "([III)I"⟩) ∈ lw_tbl := tk_3 (List.mem_of_getElem? (i := 184) (by decide +kernel))
theorem tw_665 : (Cond.static ⟨"EchoCouncilLaw", "pick", "([III)I"⟩) ∈ lw_tbl := tk_3 (List.mem_of_getElem? (i := 185) (by decide +kernel))
theorem tw_666 : (Cond.code ⟨"EchoCouncilLaw", "pick", "([III)I"⟩ method_3_code 3 (some FieldType.int)) ∈ lw_tbl := tk_3 (List.mem_of_getElem? (i := 186) (by decide +kernel))
theorem tw_667 : (Cond.methodLink "EchoCouncilLaw" 9 ⟨"EchoCouncilLaw", "cell", "([II)I"⟩) ∈ lw_tbl := tk_3 (List.mem_of_getElem? (i := 187) (by decide +kernel))
theorem tw_668 : (Cond.static ⟨"EchoCouncilLaw", "cell", "([II)I"⟩) ∈ lw_tbl := tk_3 (List.mem_of_getElem? (i := 188) (by decide +kernel))
theorem tw_669 : (Cond.code ⟨"EchoCouncilLaw", "cell", "([II)I"⟩ method_2_code 3 (some FieldType.int)) ∈ lw_tbl := tk_3 (List.mem_of_getElem? (i := 189) (by decide +kernel))
theorem tw_670 : (Cond.constant "EchoCouncilLaw" 7 (69069 : Int32)) ∈ lw_tbl := tk_3 (List.mem_of_getElem? (i := 190) (by decide +kernel))
theorem tw_671 : (Cond.constant "EchoCouncilLaw" 8 (1103515245 : Int32)) ∈ lw_tbl := tk_3 (List.mem_of_getElem? (i := 191) (by decide +kernel))
theorem tw_672 : (Cond.methodLink "EchoCouncilLaw" 124 ⟨"EchoCouncilLaw", "deed", "(LEchoCouncil;IIII)I"⟩) ∈ lw_tbl := tk_3 (List.mem_of_getElem? (i := 192) (by decide +kernel))
theorem tw_673 : (Cond.static ⟨"EchoCouncilLaw", "deed", "(LEchoCouncil;IIII)I"⟩) ∈ lw_tbl := tk_3 (List.mem_of_getElem? (i := 193) (by decide +kernel))
theorem tw_674 : (Cond.codeWith ⟨"EchoCouncilLaw", "deed", "(LEchoCouncil;IIII)I"⟩ method_6_code 6 (some FieldType.int) [(0, 9, 10, 71), (0, 9, 16, 73)]) ∈ lw_tbl := tk_3 (List.mem_of_getElem? (i := 194) (by decide +kernel))
theorem tw_675 : (Cond.classLink "EchoCouncilLaw" 73 "java/lang/UnsupportedOperationException") ∈ lw_tbl := tk_3 (List.mem_of_getElem? (i := 195) (by decide +kernel))
theorem tw_676 : (Cond.methodLink "EchoCouncilLaw" 67 ⟨"EchoCouncilLaw", "plain", "(LEchoCouncil;IIII)I"⟩) ∈ lw_tbl := tk_3 (List.mem_of_getElem? (i := 196) (by decide +kernel))
theorem tw_677 : (Cond.static ⟨"EchoCouncilLaw", "plain", "(LEchoCouncil;IIII)I"⟩) ∈ lw_tbl := tk_3 (List.mem_of_getElem? (i := 197) (by decide +kernel))
theorem tw_678 : (Cond.code ⟨"EchoCouncilLaw", "plain", "(LEchoCouncil;IIII)I"⟩ method_5_code 5 (some FieldType.int)) ∈ lw_tbl := tk_3 (List.mem_of_getElem? (i := 198) (by decide +kernel))
theorem tw_679 : (Cond.methodLink "EchoCouncilLaw" 31 ⟨"EchoCouncil", "room", "(I)I"⟩) ∈ lw_tbl := tk_3 (List.mem_of_getElem? (i := 199) (by decide +kernel))
theorem tw_680 : (Cond.instanceMethod ⟨"EchoCouncil", "room", "(I)I"⟩) ∈ lw_tbl := tk_3 (List.mem_of_getElem? (i := 200) (by decide +kernel))
theorem tw_681 : (Cond.selects "EchoCouncil" ⟨"EchoCouncil", "room", "(I)I"⟩ ⟨"EchoCouncil", "room", "(I)I"⟩) ∈ lw_tbl := tk_3 (List.mem_of_getElem? (i := 201) (by decide +kernel))
theorem tw_682 : (Cond.code ⟨"EchoCouncil", "room", "(I)I"⟩ prog_1_method_2_code 2 (some FieldType.int)) ∈ lw_tbl := tk_3 (List.mem_of_getElem? (i := 202) (by decide +kernel))
theorem tw_683 : (Cond.fieldLink "EchoCouncil" 50 "EchoCouncil$OrderKind" "ROOM" "LEchoCouncil$OrderKind;") ∈ lw_tbl := tk_3 (List.mem_of_getElem? (i := 203) (by decide +kernel))
theorem tw_684 : (Cond.laysStatic "EchoCouncil$OrderKind" "ROOM" "LEchoCouncil$OrderKind;") ∈ lw_tbl := tk_3 (List.mem_of_getElem? (i := 204) (by decide +kernel))
theorem tw_685 : (Cond.methodLink "EchoCouncil" 56 ⟨"EchoCouncil", "change", "(LEchoCouncil$OrderKind;III)I"⟩) ∈ lw_tbl := tk_3 (List.mem_of_getElem? (i := 205) (by decide +kernel))
theorem tw_686 : (Cond.privateMethod ⟨"EchoCouncil", "change", "(LEchoCouncil$OrderKind;III)I"⟩) ∈ lw_tbl := tk_3 (List.mem_of_getElem? (i := 206) (by decide +kernel))
theorem tw_687 : (Cond.instanceMethod ⟨"EchoCouncil", "change", "(LEchoCouncil$OrderKind;III)I"⟩) ∈ lw_tbl := tk_3 (List.mem_of_getElem? (i := 207) (by decide +kernel))
theorem tw_688 : (Cond.code ⟨"EchoCouncil", "change", "(LEchoCouncil$OrderKind;III)I"⟩ prog_1_method_49_code 5 (some FieldType.int)) ∈ lw_tbl := tk_3 (List.mem_of_getElem? (i := 208) (by decide +kernel))
theorem tw_689 : (Cond.methodLink "EchoCouncil" 410 ⟨"EchoCouncil", "isRefused", "(LEchoCouncil$OrderKind;III)Z"⟩) ∈ lw_tbl := tk_3 (List.mem_of_getElem? (i := 209) (by decide +kernel))
theorem tw_690 : (Cond.privateMethod ⟨"EchoCouncil", "isRefused", "(LEchoCouncil$OrderKind;III)Z"⟩) ∈ lw_tbl := tk_3 (List.mem_of_getElem? (i := 210) (by decide +kernel))
theorem tw_691 : (Cond.instanceMethod ⟨"EchoCouncil", "isRefused", "(LEchoCouncil$OrderKind;III)Z"⟩) ∈ lw_tbl := tk_3 (List.mem_of_getElem? (i := 211) (by decide +kernel))
theorem tw_692 : (Cond.code ⟨"EchoCouncil", "isRefused", "(LEchoCouncil$OrderKind;III)Z"⟩ prog_1_method_52_code 5 (some FieldType.boolean)) ∈ lw_tbl := tk_3 (List.mem_of_getElem? (i := 212) (by decide +kernel))
theorem tw_693 : (Cond.fieldLink "EchoCouncil" 431 "EchoCouncil$1" "$SwitchMap$EchoCouncil$OrderKind" "[I") ∈ lw_tbl := tk_3 (List.mem_of_getElem? (i := 213) (by decide +kernel))
theorem tw_694 : (Cond.laysStatic "EchoCouncil$1" "$SwitchMap$EchoCouncil$OrderKind" "[I") ∈ lw_tbl := tk_3 (List.mem_of_getElem? (i := 214) (by decide +kernel))
theorem tw_695 : (Cond.methodLink "EchoCouncil" 436 ⟨"EchoCouncil$OrderKind", "ordinal", "()I"⟩) ∈ lw_tbl := tk_3 (List.mem_of_getElem? (i := 215) (by decide +kernel))
theorem tw_696 : (Cond.sameMethod "EchoCouncil$OrderKind" "java/lang/Enum" "ordinal" "()I") ∈ lw_tbl := tk_3 (List.mem_of_getElem? (i := 216) (by decide +kernel))
theorem tw_697 : (Cond.declares ⟨"java/lang/Enum", "ordinal", "()I"⟩) ∈ lw_tbl := tk_3 (List.mem_of_getElem? (i := 217) (by decide +kernel))
theorem tw_698 : (Cond.selects "EchoCouncil$OrderKind" ⟨"EchoCouncil$OrderKind", "ordinal", "()I"⟩ ⟨"java/lang/Enum", "ordinal", "()I"⟩) ∈ lw_tbl := tk_3 (List.mem_of_getElem? (i := 218) (by decide +kernel))
theorem tw_699 : (Cond.instanceMethod ⟨"java/lang/Enum", "ordinal", "()I"⟩) ∈ lw_tbl := tk_3 (List.mem_of_getElem? (i := 219) (by decide +kernel))
theorem tw_700 : (Cond.code ⟨"java/lang/Enum", "ordinal", "()I"⟩ prog_21_method_2_code 1 (some FieldType.int)) ∈ lw_tbl := tk_3 (List.mem_of_getElem? (i := 220) (by decide +kernel))
theorem tw_701 : (Cond.methodLink "EchoCouncil" 467 ⟨"EchoCouncil", "isRoomRefused", "(I)Z"⟩) ∈ lw_tbl := tk_3 (List.mem_of_getElem? (i := 221) (by decide +kernel))
theorem tw_702 : (Cond.privateMethod ⟨"EchoCouncil", "isRoomRefused", "(I)Z"⟩) ∈ lw_tbl := tk_3 (List.mem_of_getElem? (i := 222) (by decide +kernel))
theorem tw_703 : (Cond.instanceMethod ⟨"EchoCouncil", "isRoomRefused", "(I)Z"⟩) ∈ lw_tbl := tk_3 (List.mem_of_getElem? (i := 223) (by decide +kernel))
theorem tw_704 : (Cond.code ⟨"EchoCouncil", "isRoomRefused", "(I)Z"⟩ prog_1_method_53_code 2 (some FieldType.boolean)) ∈ lw_tbl := tk_3 (List.mem_of_getElem? (i := 224) (by decide +kernel))
theorem tw_705 : (Cond.methodLink "EchoCouncil" 495 ⟨"EchoCouncil$Refusal", "keep", "(II)Z"⟩) ∈ lw_tbl := tk_3 (List.mem_of_getElem? (i := 225) (by decide +kernel))
theorem tw_706 : (Cond.instanceMethod ⟨"EchoCouncil$Refusal", "keep", "(II)Z"⟩) ∈ lw_tbl := tk_3 (List.mem_of_getElem? (i := 226) (by decide +kernel))
theorem tw_707 : (Cond.selects "EchoCouncil$Refusal" ⟨"EchoCouncil$Refusal", "keep", "(II)Z"⟩ ⟨"EchoCouncil$Refusal", "keep", "(II)Z"⟩) ∈ lw_tbl := tk_3 (List.mem_of_getElem? (i := 227) (by decide +kernel))
theorem tw_708 : (Cond.code ⟨"EchoCouncil$Refusal", "keep", "(II)Z"⟩ prog_7_method_2_code 3 (some FieldType.boolean)) ∈ lw_tbl := tk_3 (List.mem_of_getElem? (i := 228) (by decide +kernel))
theorem tw_709 : (Cond.methodLink "EchoCouncil" 470 ⟨"EchoCouncil", "isEchoRefused", "(II)Z"⟩) ∈ lw_tbl := tk_3 (List.mem_of_getElem? (i := 229) (by decide +kernel))
theorem tw_710 : (Cond.privateMethod ⟨"EchoCouncil", "isEchoRefused", "(II)Z"⟩) ∈ lw_tbl := tk_3 (List.mem_of_getElem? (i := 230) (by decide +kernel))
theorem tw_711 : (Cond.instanceMethod ⟨"EchoCouncil", "isEchoRefused", "(II)Z"⟩) ∈ lw_tbl := tk_3 (List.mem_of_getElem? (i := 231) (by decide +kernel))
theorem tw_712 : (Cond.code ⟨"EchoCouncil", "isEchoRefused", "(II)Z"⟩ prog_1_method_54_code 3 (some FieldType.boolean)) ∈ lw_tbl := tk_3 (List.mem_of_getElem? (i := 232) (by decide +kernel))
theorem tw_713 : (Cond.methodLink "EchoCouncil" 473 ⟨"EchoCouncil", "isSingerRefused", "(II)Z"⟩) ∈ lw_tbl := tk_3 (List.mem_of_getElem? (i := 233) (by decide +kernel))
theorem tw_714 : (Cond.privateMethod ⟨"EchoCouncil", "isSingerRefused", "(II)Z"⟩) ∈ lw_tbl := tk_3 (List.mem_of_getElem? (i := 234) (by decide +kernel))
theorem tw_715 : (Cond.instanceMethod ⟨"EchoCouncil", "isSingerRefused", "(II)Z"⟩) ∈ lw_tbl := tk_3 (List.mem_of_getElem? (i := 235) (by decide +kernel))
theorem tw_716 : (Cond.code ⟨"EchoCouncil", "isSingerRefused", "(II)Z"⟩ prog_1_method_55_code 3 (some FieldType.boolean)) ∈ lw_tbl := tk_3 (List.mem_of_getElem? (i := 236) (by decide +kernel))
theorem tw_717 : (Cond.methodLink "EchoCouncil" 476 ⟨"EchoCouncil", "isEnteringRefused", "(II)Z"⟩) ∈ lw_tbl := tk_3 (List.mem_of_getElem? (i := 237) (by decide +kernel))
theorem tw_718 : (Cond.privateMethod ⟨"EchoCouncil", "isEnteringRefused", "(II)Z"⟩) ∈ lw_tbl := tk_3 (List.mem_of_getElem? (i := 238) (by decide +kernel))
theorem tw_719 : (Cond.instanceMethod ⟨"EchoCouncil", "isEnteringRefused", "(II)Z"⟩) ∈ lw_tbl := tk_3 (List.mem_of_getElem? (i := 239) (by decide +kernel))
theorem tw_720 : (Cond.code ⟨"EchoCouncil", "isEnteringRefused", "(II)Z"⟩ prog_1_method_56_code 3 (some FieldType.boolean)) ∈ lw_tbl := tk_4 (List.mem_of_getElem? (i := 0) (by decide +kernel))
theorem tw_721 : (Cond.methodLink "EchoCouncil" 209 ⟨"EchoCouncil$State", "isFull", "(I)Z"⟩) ∈ lw_tbl := tk_4 (List.mem_of_getElem? (i := 1) (by decide +kernel))
theorem tw_722 : (Cond.instanceMethod ⟨"EchoCouncil$State", "isFull", "(I)Z"⟩) ∈ lw_tbl := tk_4 (List.mem_of_getElem? (i := 2) (by decide +kernel))
theorem tw_723 : (Cond.selects "EchoCouncil$State" ⟨"EchoCouncil$State", "isFull", "(I)Z"⟩ ⟨"EchoCouncil$State", "isFull", "(I)Z"⟩) ∈ lw_tbl := tk_4 (List.mem_of_getElem? (i := 3) (by decide +kernel))
theorem tw_724 : (Cond.code ⟨"EchoCouncil$State", "isFull", "(I)Z"⟩ prog_10_method_10_code 2 (some FieldType.boolean)) ∈ lw_tbl := tk_4 (List.mem_of_getElem? (i := 4) (by decide +kernel))
theorem tw_725 : (Cond.methodLink "EchoCouncil$State" 74 ⟨"EchoCouncil$State", "singersIn", "(I)I"⟩) ∈ lw_tbl := tk_4 (List.mem_of_getElem? (i := 5) (by decide +kernel))
theorem tw_726 : (Cond.methodLink "EchoCouncil$State" 78 ⟨"java/lang/Integer", "bitCount", "(I)I"⟩) ∈ lw_tbl := tk_4 (List.mem_of_getElem? (i := 6) (by decide +kernel))
theorem tw_727 : (Cond.methodLink "EchoCouncil" 213 ⟨"EchoCouncil$State", "isTooShyFor", "(II)Z"⟩) ∈ lw_tbl := tk_4 (List.mem_of_getElem? (i := 7) (by decide +kernel))
theorem tw_728 : (Cond.instanceMethod ⟨"EchoCouncil$State", "isTooShyFor", "(II)Z"⟩) ∈ lw_tbl := tk_4 (List.mem_of_getElem? (i := 8) (by decide +kernel))
theorem tw_729 : (Cond.selects "EchoCouncil$State" ⟨"EchoCouncil$State", "isTooShyFor", "(II)Z"⟩ ⟨"EchoCouncil$State", "isTooShyFor", "(II)Z"⟩) ∈ lw_tbl := tk_4 (List.mem_of_getElem? (i := 9) (by decide +kernel))
theorem tw_730 : (Cond.code ⟨"EchoCouncil$State", "isTooShyFor", "(II)Z"⟩ prog_10_method_11_code 3 (some FieldType.boolean)) ∈ lw_tbl := tk_4 (List.mem_of_getElem? (i := 10) (by decide +kernel))
theorem tw_731 : (Cond.methodLink "EchoCouncil" 479 ⟨"EchoCouncil", "isGoingOutRefused", "(I)Z"⟩) ∈ lw_tbl := tk_4 (List.mem_of_getElem? (i := 11) (by decide +kernel))
theorem tw_732 : (Cond.privateMethod ⟨"EchoCouncil", "isGoingOutRefused", "(I)Z"⟩) ∈ lw_tbl := tk_4 (List.mem_of_getElem? (i := 12) (by decide +kernel))
theorem tw_733 : (Cond.instanceMethod ⟨"EchoCouncil", "isGoingOutRefused", "(I)Z"⟩) ∈ lw_tbl := tk_4 (List.mem_of_getElem? (i := 13) (by decide +kernel))
theorem tw_734 : (Cond.code ⟨"EchoCouncil", "isGoingOutRefused", "(I)Z"⟩ prog_1_method_57_code 2 (some FieldType.boolean)) ∈ lw_tbl := tk_4 (List.mem_of_getElem? (i := 14) (by decide +kernel))
theorem tw_735 : (Cond.methodLink "EchoCouncil" 482 ⟨"EchoCouncil", "isCarryingRefused", "(II)Z"⟩) ∈ lw_tbl := tk_4 (List.mem_of_getElem? (i := 15) (by decide +kernel))
theorem tw_736 : (Cond.privateMethod ⟨"EchoCouncil", "isCarryingRefused", "(II)Z"⟩) ∈ lw_tbl := tk_4 (List.mem_of_getElem? (i := 16) (by decide +kernel))
theorem tw_737 : (Cond.instanceMethod ⟨"EchoCouncil", "isCarryingRefused", "(II)Z"⟩) ∈ lw_tbl := tk_4 (List.mem_of_getElem? (i := 17) (by decide +kernel))
theorem tw_738 : (Cond.code ⟨"EchoCouncil", "isCarryingRefused", "(II)Z"⟩ prog_1_method_58_code 3 (some FieldType.boolean)) ∈ lw_tbl := tk_4 (List.mem_of_getElem? (i := 18) (by decide +kernel))
theorem tw_739 : (Cond.methodLink "EchoCouncil" 485 ⟨"EchoCouncil", "isRentingRefused", "(III)Z"⟩) ∈ lw_tbl := tk_4 (List.mem_of_getElem? (i := 19) (by decide +kernel))
theorem tw_740 : (Cond.privateMethod ⟨"EchoCouncil", "isRentingRefused", "(III)Z"⟩) ∈ lw_tbl := tk_4 (List.mem_of_getElem? (i := 20) (by decide +kernel))
theorem tw_741 : (Cond.instanceMethod ⟨"EchoCouncil", "isRentingRefused", "(III)Z"⟩) ∈ lw_tbl := tk_4 (List.mem_of_getElem? (i := 21) (by decide +kernel))
theorem tw_742 : (Cond.code ⟨"EchoCouncil", "isRentingRefused", "(III)Z"⟩ prog_1_method_59_code 4 (some FieldType.boolean)) ∈ lw_tbl := tk_4 (List.mem_of_getElem? (i := 22) (by decide +kernel))
theorem tw_743 : (Cond.methodLink "EchoCouncil" 220 ⟨"EchoCouncil$State", "isWithEcho", "(II)Z"⟩) ∈ lw_tbl := tk_4 (List.mem_of_getElem? (i := 23) (by decide +kernel))
theorem tw_744 : (Cond.instanceMethod ⟨"EchoCouncil$State", "isWithEcho", "(II)Z"⟩) ∈ lw_tbl := tk_4 (List.mem_of_getElem? (i := 24) (by decide +kernel))
theorem tw_745 : (Cond.selects "EchoCouncil$State" ⟨"EchoCouncil$State", "isWithEcho", "(II)Z"⟩ ⟨"EchoCouncil$State", "isWithEcho", "(II)Z"⟩) ∈ lw_tbl := tk_4 (List.mem_of_getElem? (i := 25) (by decide +kernel))
theorem tw_746 : (Cond.code ⟨"EchoCouncil$State", "isWithEcho", "(II)Z"⟩ prog_10_method_8_code 3 (some FieldType.boolean)) ∈ lw_tbl := tk_4 (List.mem_of_getElem? (i := 26) (by decide +kernel))
theorem tw_747 : (Cond.methodLink "EchoCouncil" 223 ⟨"EchoCouncil$State", "canPayFor", "(II)Z"⟩) ∈ lw_tbl := tk_4 (List.mem_of_getElem? (i := 27) (by decide +kernel))
theorem tw_748 : (Cond.instanceMethod ⟨"EchoCouncil$State", "canPayFor", "(II)Z"⟩) ∈ lw_tbl := tk_4 (List.mem_of_getElem? (i := 28) (by decide +kernel))
theorem tw_749 : (Cond.selects "EchoCouncil$State" ⟨"EchoCouncil$State", "canPayFor", "(II)Z"⟩ ⟨"EchoCouncil$State", "canPayFor", "(II)Z"⟩) ∈ lw_tbl := tk_4 (List.mem_of_getElem? (i := 29) (by decide +kernel))
theorem tw_750 : (Cond.code ⟨"EchoCouncil$State", "canPayFor", "(II)Z"⟩ prog_10_method_9_code 3 (some FieldType.boolean)) ∈ lw_tbl := tk_4 (List.mem_of_getElem? (i := 30) (by decide +kernel))
theorem tw_751 : (Cond.methodLink "EchoCouncil" 489 ⟨"EchoCouncil", "isGivingBackRefused", "(II)Z"⟩) ∈ lw_tbl := tk_4 (List.mem_of_getElem? (i := 31) (by decide +kernel))
theorem tw_752 : (Cond.privateMethod ⟨"EchoCouncil", "isGivingBackRefused", "(II)Z"⟩) ∈ lw_tbl := tk_4 (List.mem_of_getElem? (i := 32) (by decide +kernel))
theorem tw_753 : (Cond.instanceMethod ⟨"EchoCouncil", "isGivingBackRefused", "(II)Z"⟩) ∈ lw_tbl := tk_4 (List.mem_of_getElem? (i := 33) (by decide +kernel))
theorem tw_754 : (Cond.code ⟨"EchoCouncil", "isGivingBackRefused", "(II)Z"⟩ prog_1_method_60_code 3 (some FieldType.boolean)) ∈ lw_tbl := tk_4 (List.mem_of_getElem? (i := 34) (by decide +kernel))
theorem tw_755 : (Cond.methodLink "EchoCouncil" 492 ⟨"EchoCouncil", "isSingingRefused", "(I)Z"⟩) ∈ lw_tbl := tk_4 (List.mem_of_getElem? (i := 35) (by decide +kernel))
theorem tw_756 : (Cond.privateMethod ⟨"EchoCouncil", "isSingingRefused", "(I)Z"⟩) ∈ lw_tbl := tk_4 (List.mem_of_getElem? (i := 36) (by decide +kernel))
theorem tw_757 : (Cond.instanceMethod ⟨"EchoCouncil", "isSingingRefused", "(I)Z"⟩) ∈ lw_tbl := tk_4 (List.mem_of_getElem? (i := 37) (by decide +kernel))
theorem tw_758 : (Cond.code ⟨"EchoCouncil", "isSingingRefused", "(I)Z"⟩ prog_1_method_61_code 2 (some FieldType.boolean)) ∈ lw_tbl := tk_4 (List.mem_of_getElem? (i := 38) (by decide +kernel))
theorem tw_759 : (Cond.classLink "EchoCouncil" 294 "java/lang/UnsupportedOperationException") ∈ lw_tbl := tk_4 (List.mem_of_getElem? (i := 39) (by decide +kernel))
theorem tw_760 : (Cond.instantiable "java/lang/UnsupportedOperationException" 6) ∈ lw_tbl := tk_4 (List.mem_of_getElem? (i := 40) (by decide +kernel))
theorem tw_761 : (Cond.castable "java/lang/UnsupportedOperationException" "java/lang/UnsupportedOperationException") ∈ lw_tbl := tk_4 (List.mem_of_getElem? (i := 41) (by decide +kernel))
theorem tw_762 : (Cond.selects "java/lang/UnsupportedOperationException" ⟨"java/lang/Throwable", "fillInStackTrace", "(I)Ljava/lang/Throwable;"⟩ ⟨"java/lang/Throwable", "fillInStackTrace", "(I)Ljava/lang/Throwable;"⟩) ∈ lw_tbl := tk_4 (List.mem_of_getElem? (i := 42) (by decide +kernel))
theorem tw_763 : (Cond.lays "java/lang/UnsupportedOperationException" "java/lang/Throwable" "cause" "Ljava/lang/Throwable;") ∈ lw_tbl := tk_4 (List.mem_of_getElem? (i := 43) (by decide +kernel))
theorem tw_764 : (Cond.lays "java/lang/UnsupportedOperationException" "java/lang/Throwable" "stackTrace" "[Ljava/lang/StackTraceElement;") ∈ lw_tbl := tk_4 (List.mem_of_getElem? (i := 44) (by decide +kernel))
theorem tw_765 : (Cond.lays "java/lang/UnsupportedOperationException" "java/lang/Throwable" "suppressedExceptions" "Ljava/util/List;") ∈ lw_tbl := tk_4 (List.mem_of_getElem? (i := 45) (by decide +kernel))
theorem tw_766 : (Cond.lays "java/lang/UnsupportedOperationException" "java/lang/Throwable" "detailMessage" "Ljava/lang/String;") ∈ lw_tbl := tk_4 (List.mem_of_getElem? (i := 46) (by decide +kernel))
theorem tw_767 : (Cond.lays "java/lang/UnsupportedOperationException" "java/lang/Throwable" "backtrace" "Ljava/lang/Object;") ∈ lw_tbl := tk_4 (List.mem_of_getElem? (i := 47) (by decide +kernel))
theorem tw_768 : (Cond.stringRef "EchoCouncil" 414 "this is refused") ∈ lw_tbl := tk_4 (List.mem_of_getElem? (i := 48) (by decide +kernel))
theorem tw_769 : (Cond.methodLink "EchoCouncil" 298 ⟨"java/lang/UnsupportedOperationException", "<init>", "(Ljava/lang/String;)V"⟩) ∈ lw_tbl := tk_4 (List.mem_of_getElem? (i := 49) (by decide +kernel))
theorem tw_770 : (Cond.instanceMethod ⟨"java/lang/UnsupportedOperationException", "<init>", "(Ljava/lang/String;)V"⟩) ∈ lw_tbl := tk_4 (List.mem_of_getElem? (i := 50) (by decide +kernel))
theorem tw_771 : (Cond.code ⟨"java/lang/UnsupportedOperationException", "<init>", "(Ljava/lang/String;)V"⟩ prog_36_method_2_code 2 none) ∈ lw_tbl := tk_4 (List.mem_of_getElem? (i := 51) (by decide +kernel))
theorem tw_772 : (Cond.methodLink "java/lang/UnsupportedOperationException" 7 ⟨"java/lang/RuntimeException", "<init>", "(Ljava/lang/String;)V"⟩) ∈ lw_tbl := tk_4 (List.mem_of_getElem? (i := 52) (by decide +kernel))
theorem tw_773 : (Cond.lays "java/lang/UnsupportedOperationException" "java/lang/Throwable" "depth" "I") ∈ lw_tbl := tk_4 (List.mem_of_getElem? (i := 53) (by decide +kernel))
theorem tw_774 : (Cond.superclass "java/lang/UnsupportedOperationException" "java/lang/RuntimeException") ∈ lw_tbl := tk_4 (List.mem_of_getElem? (i := 54) (by decide +kernel))
theorem tw_775 : (Cond.methodLink "EchoCouncil" 84 ⟨"EchoCouncil$Past", "keep", "(LEchoCouncil$State;)V"⟩) ∈ lw_tbl := tk_4 (List.mem_of_getElem? (i := 55) (by decide +kernel))
theorem tw_776 : (Cond.instanceMethod ⟨"EchoCouncil$Past", "keep", "(LEchoCouncil$State;)V"⟩) ∈ lw_tbl := tk_4 (List.mem_of_getElem? (i := 56) (by decide +kernel))
theorem tw_777 : (Cond.selects "EchoCouncil$Past" ⟨"EchoCouncil$Past", "keep", "(LEchoCouncil$State;)V"⟩ ⟨"EchoCouncil$Past", "keep", "(LEchoCouncil$State;)V"⟩) ∈ lw_tbl := tk_4 (List.mem_of_getElem? (i := 57) (by decide +kernel))
theorem tw_778 : (Cond.code ⟨"EchoCouncil$Past", "keep", "(LEchoCouncil$State;)V"⟩ prog_6_method_2_code 2 none) ∈ lw_tbl := tk_4 (List.mem_of_getElem? (i := 58) (by decide +kernel))
theorem tw_779 : (Cond.methodLink "EchoCouncil$Past" 22 ⟨"EchoCouncil$State", "copyFrom", "(LEchoCouncil$State;)V"⟩) ∈ lw_tbl := tk_4 (List.mem_of_getElem? (i := 59) (by decide +kernel))
theorem tw_780 : (Cond.instanceMethod ⟨"EchoCouncil$State", "copyFrom", "(LEchoCouncil$State;)V"⟩) ∈ lw_tbl := tk_4 (List.mem_of_getElem? (i := 60) (by decide +kernel))
theorem tw_781 : (Cond.selects "EchoCouncil$State" ⟨"EchoCouncil$State", "copyFrom", "(LEchoCouncil$State;)V"⟩ ⟨"EchoCouncil$State", "copyFrom", "(LEchoCouncil$State;)V"⟩) ∈ lw_tbl := tk_4 (List.mem_of_getElem? (i := 61) (by decide +kernel))
theorem tw_782 : (Cond.code ⟨"EchoCouncil$State", "copyFrom", "(LEchoCouncil$State;)V"⟩ prog_10_method_2_code 2 none) ∈ lw_tbl := tk_4 (List.mem_of_getElem? (i := 62) (by decide +kernel))
theorem tw_783 : (Cond.methodLink "EchoCouncil$State" 32 ⟨"EchoCouncil$Rooms", "copyFrom", "(LEchoCouncil$Rooms;)V"⟩) ∈ lw_tbl := tk_4 (List.mem_of_getElem? (i := 63) (by decide +kernel))
theorem tw_784 : (Cond.instanceMethod ⟨"EchoCouncil$Rooms", "copyFrom", "(LEchoCouncil$Rooms;)V"⟩) ∈ lw_tbl := tk_4 (List.mem_of_getElem? (i := 64) (by decide +kernel))
theorem tw_785 : (Cond.selects "EchoCouncil$Rooms" ⟨"EchoCouncil$Rooms", "copyFrom", "(LEchoCouncil$Rooms;)V"⟩ ⟨"EchoCouncil$Rooms", "copyFrom", "(LEchoCouncil$Rooms;)V"⟩) ∈ lw_tbl := tk_4 (List.mem_of_getElem? (i := 65) (by decide +kernel))
theorem tw_786 : (Cond.code ⟨"EchoCouncil$Rooms", "copyFrom", "(LEchoCouncil$Rooms;)V"⟩ prog_8_method_2_code 2 none) ∈ lw_tbl := tk_4 (List.mem_of_getElem? (i := 66) (by decide +kernel))
theorem tw_787 : (Cond.methodLink "EchoCouncil$Rooms" 25 ⟨"java/lang/System", "arraycopy", "(Ljava/lang/Object;ILjava/lang/Object;II)V"⟩) ∈ lw_tbl := tk_4 (List.mem_of_getElem? (i := 67) (by decide +kernel))
theorem tw_788 : (Cond.static ⟨"java/lang/System", "arraycopy", "(Ljava/lang/Object;ILjava/lang/Object;II)V"⟩) ∈ lw_tbl := tk_4 (List.mem_of_getElem? (i := 68) (by decide +kernel))
theorem tw_789 : (Cond.native ⟨"java/lang/System", "arraycopy", "(Ljava/lang/Object;ILjava/lang/Object;II)V"⟩) ∈ lw_tbl := tk_4 (List.mem_of_getElem? (i := 69) (by decide +kernel))
theorem tw_790 : (Cond.methodLink "EchoCouncil$State" 36 ⟨"EchoCouncil$Echoes", "copyFrom", "(LEchoCouncil$Echoes;)V"⟩) ∈ lw_tbl := tk_4 (List.mem_of_getElem? (i := 70) (by decide +kernel))
theorem tw_791 : (Cond.instanceMethod ⟨"EchoCouncil$Echoes", "copyFrom", "(LEchoCouncil$Echoes;)V"⟩) ∈ lw_tbl := tk_4 (List.mem_of_getElem? (i := 71) (by decide +kernel))
theorem tw_792 : (Cond.selects "EchoCouncil$Echoes" ⟨"EchoCouncil$Echoes", "copyFrom", "(LEchoCouncil$Echoes;)V"⟩ ⟨"EchoCouncil$Echoes", "copyFrom", "(LEchoCouncil$Echoes;)V"⟩) ∈ lw_tbl := tk_4 (List.mem_of_getElem? (i := 72) (by decide +kernel))
theorem tw_793 : (Cond.code ⟨"EchoCouncil$Echoes", "copyFrom", "(LEchoCouncil$Echoes;)V"⟩ prog_3_method_2_code 2 none) ∈ lw_tbl := tk_4 (List.mem_of_getElem? (i := 73) (by decide +kernel))
theorem tw_794 : (Cond.methodLink "EchoCouncil$Echoes" 31 ⟨"java/lang/System", "arraycopy", "(Ljava/lang/Object;ILjava/lang/Object;II)V"⟩) ∈ lw_tbl := tk_4 (List.mem_of_getElem? (i := 74) (by decide +kernel))
theorem tw_795 : (Cond.methodLink "EchoCouncil$State" 39 ⟨"EchoCouncil$Singers", "copyFrom", "(LEchoCouncil$Singers;)V"⟩) ∈ lw_tbl := tk_4 (List.mem_of_getElem? (i := 75) (by decide +kernel))
theorem tw_796 : (Cond.instanceMethod ⟨"EchoCouncil$Singers", "copyFrom", "(LEchoCouncil$Singers;)V"⟩) ∈ lw_tbl := tk_4 (List.mem_of_getElem? (i := 76) (by decide +kernel))
theorem tw_797 : (Cond.selects "EchoCouncil$Singers" ⟨"EchoCouncil$Singers", "copyFrom", "(LEchoCouncil$Singers;)V"⟩ ⟨"EchoCouncil$Singers", "copyFrom", "(LEchoCouncil$Singers;)V"⟩) ∈ lw_tbl := tk_4 (List.mem_of_getElem? (i := 77) (by decide +kernel))
theorem tw_798 : (Cond.code ⟨"EchoCouncil$Singers", "copyFrom", "(LEchoCouncil$Singers;)V"⟩ prog_9_method_2_code 2 none) ∈ lw_tbl := tk_4 (List.mem_of_getElem? (i := 78) (by decide +kernel))
theorem tw_799 : (Cond.methodLink "EchoCouncil$Singers" 31 ⟨"java/lang/System", "arraycopy", "(Ljava/lang/Object;ILjava/lang/Object;II)V"⟩) ∈ lw_tbl := tk_4 (List.mem_of_getElem? (i := 79) (by decide +kernel))
theorem tw_800 : (Cond.methodLink "EchoCouncil$Past" 29 ⟨"java/lang/Math", "min", "(II)I"⟩) ∈ lw_tbl := tk_4 (List.mem_of_getElem? (i := 80) (by decide +kernel))
theorem tw_801 : (Cond.methodLink "EchoCouncil" 416 ⟨"EchoCouncil", "doOrder", "(LEchoCouncil$OrderKind;III)I"⟩) ∈ lw_tbl := tk_4 (List.mem_of_getElem? (i := 81) (by decide +kernel))
theorem tw_802 : (Cond.privateMethod ⟨"EchoCouncil", "doOrder", "(LEchoCouncil$OrderKind;III)I"⟩) ∈ lw_tbl := tk_4 (List.mem_of_getElem? (i := 82) (by decide +kernel))
theorem tw_803 : (Cond.instanceMethod ⟨"EchoCouncil", "doOrder", "(LEchoCouncil$OrderKind;III)I"⟩) ∈ lw_tbl := tk_4 (List.mem_of_getElem? (i := 83) (by decide +kernel))
theorem tw_804 : (Cond.code ⟨"EchoCouncil", "doOrder", "(LEchoCouncil$OrderKind;III)I"⟩ prog_1_method_51_code 5 (some FieldType.int)) ∈ lw_tbl := tk_4 (List.mem_of_getElem? (i := 84) (by decide +kernel))
theorem tw_805 : (Cond.methodLink "EchoCouncil" 439 ⟨"EchoCouncil$State", "addRoom", "(I)I"⟩) ∈ lw_tbl := tk_4 (List.mem_of_getElem? (i := 85) (by decide +kernel))
theorem tw_806 : (Cond.instanceMethod ⟨"EchoCouncil$State", "addRoom", "(I)I"⟩) ∈ lw_tbl := tk_4 (List.mem_of_getElem? (i := 86) (by decide +kernel))
theorem tw_807 : (Cond.selects "EchoCouncil$State" ⟨"EchoCouncil$State", "addRoom", "(I)I"⟩ ⟨"EchoCouncil$State", "addRoom", "(I)I"⟩) ∈ lw_tbl := tk_4 (List.mem_of_getElem? (i := 87) (by decide +kernel))
theorem tw_808 : (Cond.code ⟨"EchoCouncil$State", "addRoom", "(I)I"⟩ prog_10_method_30_code 3 (some FieldType.int)) ∈ lw_tbl := tk_4 (List.mem_of_getElem? (i := 88) (by decide +kernel))
theorem tw_809 : (Cond.methodLink "EchoCouncil" 442 ⟨"EchoCouncil$State", "addEcho", "(II)I"⟩) ∈ lw_tbl := tk_4 (List.mem_of_getElem? (i := 89) (by decide +kernel))
theorem tw_810 : (Cond.instanceMethod ⟨"EchoCouncil$State", "addEcho", "(II)I"⟩) ∈ lw_tbl := tk_4 (List.mem_of_getElem? (i := 90) (by decide +kernel))
theorem tw_811 : (Cond.selects "EchoCouncil$State" ⟨"EchoCouncil$State", "addEcho", "(II)I"⟩ ⟨"EchoCouncil$State", "addEcho", "(II)I"⟩) ∈ lw_tbl := tk_4 (List.mem_of_getElem? (i := 91) (by decide +kernel))
theorem tw_812 : (Cond.code ⟨"EchoCouncil$State", "addEcho", "(II)I"⟩ prog_10_method_31_code 4 (some FieldType.int)) ∈ lw_tbl := tk_4 (List.mem_of_getElem? (i := 92) (by decide +kernel))
theorem tw_813 : (Cond.methodLink "EchoCouncil" 445 ⟨"EchoCouncil$State", "addSinger", "(II)I"⟩) ∈ lw_tbl := tk_4 (List.mem_of_getElem? (i := 93) (by decide +kernel))
theorem tw_814 : (Cond.instanceMethod ⟨"EchoCouncil$State", "addSinger", "(II)I"⟩) ∈ lw_tbl := tk_4 (List.mem_of_getElem? (i := 94) (by decide +kernel))
theorem tw_815 : (Cond.selects "EchoCouncil$State" ⟨"EchoCouncil$State", "addSinger", "(II)I"⟩ ⟨"EchoCouncil$State", "addSinger", "(II)I"⟩) ∈ lw_tbl := tk_4 (List.mem_of_getElem? (i := 95) (by decide +kernel))
theorem tw_816 : (Cond.code ⟨"EchoCouncil$State", "addSinger", "(II)I"⟩ prog_10_method_32_code 4 (some FieldType.int)) ∈ lw_tbl := tk_4 (List.mem_of_getElem? (i := 96) (by decide +kernel))
theorem tw_817 : (Cond.methodLink "EchoCouncil" 448 ⟨"EchoCouncil$State", "moveIn", "(II)I"⟩) ∈ lw_tbl := tk_4 (List.mem_of_getElem? (i := 97) (by decide +kernel))
theorem tw_818 : (Cond.instanceMethod ⟨"EchoCouncil$State", "moveIn", "(II)I"⟩) ∈ lw_tbl := tk_4 (List.mem_of_getElem? (i := 98) (by decide +kernel))
theorem tw_819 : (Cond.selects "EchoCouncil$State" ⟨"EchoCouncil$State", "moveIn", "(II)I"⟩ ⟨"EchoCouncil$State", "moveIn", "(II)I"⟩) ∈ lw_tbl := tk_4 (List.mem_of_getElem? (i := 99) (by decide +kernel))
theorem tw_820 : (Cond.code ⟨"EchoCouncil$State", "moveIn", "(II)I"⟩ prog_10_method_33_code 3 (some FieldType.int)) ∈ lw_tbl := tk_4 (List.mem_of_getElem? (i := 100) (by decide +kernel))
theorem tw_821 : (Cond.methodLink "EchoCouncil" 451 ⟨"EchoCouncil$State", "moveOut", "(I)I"⟩) ∈ lw_tbl := tk_4 (List.mem_of_getElem? (i := 101) (by decide +kernel))
theorem tw_822 : (Cond.instanceMethod ⟨"EchoCouncil$State", "moveOut", "(I)I"⟩) ∈ lw_tbl := tk_4 (List.mem_of_getElem? (i := 102) (by decide +kernel))
theorem tw_823 : (Cond.selects "EchoCouncil$State" ⟨"EchoCouncil$State", "moveOut", "(I)I"⟩ ⟨"EchoCouncil$State", "moveOut", "(I)I"⟩) ∈ lw_tbl := tk_4 (List.mem_of_getElem? (i := 103) (by decide +kernel))
theorem tw_824 : (Cond.code ⟨"EchoCouncil$State", "moveOut", "(I)I"⟩ prog_10_method_34_code 3 (some FieldType.int)) ∈ lw_tbl := tk_4 (List.mem_of_getElem? (i := 104) (by decide +kernel))
theorem tw_825 : (Cond.methodLink "EchoCouncil" 454 ⟨"EchoCouncil$State", "moveEcho", "(II)I"⟩) ∈ lw_tbl := tk_4 (List.mem_of_getElem? (i := 105) (by decide +kernel))
theorem tw_826 : (Cond.instanceMethod ⟨"EchoCouncil$State", "moveEcho", "(II)I"⟩) ∈ lw_tbl := tk_4 (List.mem_of_getElem? (i := 106) (by decide +kernel))
theorem tw_827 : (Cond.selects "EchoCouncil$State" ⟨"EchoCouncil$State", "moveEcho", "(II)I"⟩ ⟨"EchoCouncil$State", "moveEcho", "(II)I"⟩) ∈ lw_tbl := tk_4 (List.mem_of_getElem? (i := 107) (by decide +kernel))
theorem tw_828 : (Cond.code ⟨"EchoCouncil$State", "moveEcho", "(II)I"⟩ prog_10_method_35_code 4 (some FieldType.int)) ∈ lw_tbl := tk_4 (List.mem_of_getElem? (i := 108) (by decide +kernel))
theorem tw_829 : (Cond.methodLink "EchoCouncil" 457 ⟨"EchoCouncil$State", "letEcho", "(III)I"⟩) ∈ lw_tbl := tk_4 (List.mem_of_getElem? (i := 109) (by decide +kernel))
theorem tw_830 : (Cond.instanceMethod ⟨"EchoCouncil$State", "letEcho", "(III)I"⟩) ∈ lw_tbl := tk_4 (List.mem_of_getElem? (i := 110) (by decide +kernel))
theorem tw_831 : (Cond.selects "EchoCouncil$State" ⟨"EchoCouncil$State", "letEcho", "(III)I"⟩ ⟨"EchoCouncil$State", "letEcho", "(III)I"⟩) ∈ lw_tbl := tk_4 (List.mem_of_getElem? (i := 111) (by decide +kernel))
theorem tw_832 : (Cond.code ⟨"EchoCouncil$State", "letEcho", "(III)I"⟩ prog_10_method_36_code 5 (some FieldType.int)) ∈ lw_tbl := tk_4 (List.mem_of_getElem? (i := 112) (by decide +kernel))
theorem tw_833 : (Cond.methodLink "EchoCouncil" 461 ⟨"EchoCouncil$State", "endLetting", "(I)I"⟩) ∈ lw_tbl := tk_4 (List.mem_of_getElem? (i := 113) (by decide +kernel))
theorem tw_834 : (Cond.instanceMethod ⟨"EchoCouncil$State", "endLetting", "(I)I"⟩) ∈ lw_tbl := tk_4 (List.mem_of_getElem? (i := 114) (by decide +kernel))
theorem tw_835 : (Cond.selects "EchoCouncil$State" ⟨"EchoCouncil$State", "endLetting", "(I)I"⟩ ⟨"EchoCouncil$State", "endLetting", "(I)I"⟩) ∈ lw_tbl := tk_4 (List.mem_of_getElem? (i := 115) (by decide +kernel))
theorem tw_836 : (Cond.code ⟨"EchoCouncil$State", "endLetting", "(I)I"⟩ prog_10_method_37_code 4 (some FieldType.int)) ∈ lw_tbl := tk_4 (List.mem_of_getElem? (i := 116) (by decide +kernel))
theorem tw_837 : (Cond.methodLink "EchoCouncil" 464 ⟨"EchoCouncil$State", "singVerse", "(I)I"⟩) ∈ lw_tbl := tk_4 (List.mem_of_getElem? (i := 117) (by decide +kernel))
theorem tw_838 : (Cond.instanceMethod ⟨"EchoCouncil$State", "singVerse", "(I)I"⟩) ∈ lw_tbl := tk_4 (List.mem_of_getElem? (i := 118) (by decide +kernel))
theorem tw_839 : (Cond.selects "EchoCouncil$State" ⟨"EchoCouncil$State", "singVerse", "(I)I"⟩ ⟨"EchoCouncil$State", "singVerse", "(I)I"⟩) ∈ lw_tbl := tk_4 (List.mem_of_getElem? (i := 119) (by decide +kernel))
theorem tw_840 : (Cond.code ⟨"EchoCouncil$State", "singVerse", "(I)I"⟩ prog_10_method_38_code 5 (some FieldType.int)) ∈ lw_tbl := tk_4 (List.mem_of_getElem? (i := 120) (by decide +kernel))
theorem tw_841 : (Cond.methodLink "EchoCouncil$State" 134 ⟨"EchoCouncil$State", "echoVerse", "(I)I"⟩) ∈ lw_tbl := tk_4 (List.mem_of_getElem? (i := 121) (by decide +kernel))
theorem tw_842 : (Cond.instanceMethod ⟨"EchoCouncil$State", "echoVerse", "(I)I"⟩) ∈ lw_tbl := tk_4 (List.mem_of_getElem? (i := 122) (by decide +kernel))
theorem tw_843 : (Cond.selects "EchoCouncil$State" ⟨"EchoCouncil$State", "echoVerse", "(I)I"⟩ ⟨"EchoCouncil$State", "echoVerse", "(I)I"⟩) ∈ lw_tbl := tk_4 (List.mem_of_getElem? (i := 123) (by decide +kernel))
theorem tw_844 : (Cond.code ⟨"EchoCouncil$State", "echoVerse", "(I)I"⟩ prog_10_method_39_code 3 (some FieldType.int)) ∈ lw_tbl := tk_4 (List.mem_of_getElem? (i := 124) (by decide +kernel))
theorem tw_845 : (Cond.methodLink "EchoCouncil$State" 137 ⟨"EchoCouncil$State", "endLetting", "(I)I"⟩) ∈ lw_tbl := tk_4 (List.mem_of_getElem? (i := 125) (by decide +kernel))
theorem tw_846 : (Cond.methodLink "EchoCouncil" 88 ⟨"EchoCouncil$State", "letNightPass", "()I"⟩) ∈ lw_tbl := tk_4 (List.mem_of_getElem? (i := 126) (by decide +kernel))
theorem tw_847 : (Cond.instanceMethod ⟨"EchoCouncil$State", "letNightPass", "()I"⟩) ∈ lw_tbl := tk_4 (List.mem_of_getElem? (i := 127) (by decide +kernel))
theorem tw_848 : (Cond.selects "EchoCouncil$State" ⟨"EchoCouncil$State", "letNightPass", "()I"⟩ ⟨"EchoCouncil$State", "letNightPass", "()I"⟩) ∈ lw_tbl := tk_4 (List.mem_of_getElem? (i := 128) (by decide +kernel))
theorem tw_849 : (Cond.code ⟨"EchoCouncil$State", "letNightPass", "()I"⟩ prog_10_method_40_code 4 (some FieldType.int)) ∈ lw_tbl := tk_4 (List.mem_of_getElem? (i := 129) (by decide +kernel))
theorem tw_850 : (Cond.methodLink "EchoCouncilLaw" 35 ⟨"EchoCouncil", "echo", "(II)I"⟩) ∈ lw_tbl := tk_4 (List.mem_of_getElem? (i := 130) (by decide +kernel))
theorem tw_851 : (Cond.instanceMethod ⟨"EchoCouncil", "echo", "(II)I"⟩) ∈ lw_tbl := tk_4 (List.mem_of_getElem? (i := 131) (by decide +kernel))
theorem tw_852 : (Cond.selects "EchoCouncil" ⟨"EchoCouncil", "echo", "(II)I"⟩ ⟨"EchoCouncil", "echo", "(II)I"⟩) ∈ lw_tbl := tk_4 (List.mem_of_getElem? (i := 132) (by decide +kernel))
theorem tw_853 : (Cond.code ⟨"EchoCouncil", "echo", "(II)I"⟩ prog_1_method_3_code 3 (some FieldType.int)) ∈ lw_tbl := tk_4 (List.mem_of_getElem? (i := 133) (by decide +kernel))
theorem tw_854 : (Cond.fieldLink "EchoCouncil" 60 "EchoCouncil$OrderKind" "ECHO" "LEchoCouncil$OrderKind;") ∈ lw_tbl := tk_4 (List.mem_of_getElem? (i := 134) (by decide +kernel))
theorem tw_855 : (Cond.laysStatic "EchoCouncil$OrderKind" "ECHO" "LEchoCouncil$OrderKind;") ∈ lw_tbl := tk_4 (List.mem_of_getElem? (i := 135) (by decide +kernel))
theorem tw_856 : (Cond.methodLink "EchoCouncilLaw" 39 ⟨"EchoCouncil", "singer", "(II)I"⟩) ∈ lw_tbl := tk_4 (List.mem_of_getElem? (i := 136) (by decide +kernel))
theorem tw_857 : (Cond.instanceMethod ⟨"EchoCouncil", "singer", "(II)I"⟩) ∈ lw_tbl := tk_4 (List.mem_of_getElem? (i := 137) (by decide +kernel))
theorem tw_858 : (Cond.selects "EchoCouncil" ⟨"EchoCouncil", "singer", "(II)I"⟩ ⟨"EchoCouncil", "singer", "(II)I"⟩) ∈ lw_tbl := tk_4 (List.mem_of_getElem? (i := 138) (by decide +kernel))
theorem tw_859 : (Cond.code ⟨"EchoCouncil", "singer", "(II)I"⟩ prog_1_method_4_code 3 (some FieldType.int)) ∈ lw_tbl := tk_4 (List.mem_of_getElem? (i := 139) (by decide +kernel))
theorem tw_860 : (Cond.fieldLink "EchoCouncil" 63 "EchoCouncil$OrderKind" "SINGER" "LEchoCouncil$OrderKind;") ∈ lw_tbl := tk_4 (List.mem_of_getElem? (i := 140) (by decide +kernel))
theorem tw_861 : (Cond.laysStatic "EchoCouncil$OrderKind" "SINGER" "LEchoCouncil$OrderKind;") ∈ lw_tbl := tk_4 (List.mem_of_getElem? (i := 141) (by decide +kernel))
theorem tw_862 : (Cond.methodLink "EchoCouncilLaw" 42 ⟨"EchoCouncil", "enter", "(II)I"⟩) ∈ lw_tbl := tk_4 (List.mem_of_getElem? (i := 142) (by decide +kernel))
theorem tw_863 : (Cond.instanceMethod ⟨"EchoCouncil", "enter", "(II)I"⟩) ∈ lw_tbl := tk_4 (List.mem_of_getElem? (i := 143) (by decide +kernel))
theorem tw_864 : (Cond.selects "EchoCouncil" ⟨"EchoCouncil", "enter", "(II)I"⟩ ⟨"EchoCouncil", "enter", "(II)I"⟩) ∈ lw_tbl := tk_4 (List.mem_of_getElem? (i := 144) (by decide +kernel))
theorem tw_865 : (Cond.code ⟨"EchoCouncil", "enter", "(II)I"⟩ prog_1_method_5_code 3 (some FieldType.int)) ∈ lw_tbl := tk_4 (List.mem_of_getElem? (i := 145) (by decide +kernel))
theorem tw_866 : (Cond.fieldLink "EchoCouncil" 66 "EchoCouncil$OrderKind" "ENTER" "LEchoCouncil$OrderKind;") ∈ lw_tbl := tk_4 (List.mem_of_getElem? (i := 146) (by decide +kernel))
theorem tw_867 : (Cond.laysStatic "EchoCouncil$OrderKind" "ENTER" "LEchoCouncil$OrderKind;") ∈ lw_tbl := tk_4 (List.mem_of_getElem? (i := 147) (by decide +kernel))
theorem tw_868 : (Cond.methodLink "EchoCouncilLaw" 45 ⟨"EchoCouncil", "out", "(I)I"⟩) ∈ lw_tbl := tk_4 (List.mem_of_getElem? (i := 148) (by decide +kernel))
theorem tw_869 : (Cond.instanceMethod ⟨"EchoCouncil", "out", "(I)I"⟩) ∈ lw_tbl := tk_4 (List.mem_of_getElem? (i := 149) (by decide +kernel))
theorem tw_870 : (Cond.selects "EchoCouncil" ⟨"EchoCouncil", "out", "(I)I"⟩ ⟨"EchoCouncil", "out", "(I)I"⟩) ∈ lw_tbl := tk_4 (List.mem_of_getElem? (i := 150) (by decide +kernel))
theorem tw_871 : (Cond.code ⟨"EchoCouncil", "out", "(I)I"⟩ prog_1_method_6_code 2 (some FieldType.int)) ∈ lw_tbl := tk_4 (List.mem_of_getElem? (i := 151) (by decide +kernel))
theorem tw_872 : (Cond.fieldLink "EchoCouncil" 69 "EchoCouncil$OrderKind" "OUT" "LEchoCouncil$OrderKind;") ∈ lw_tbl := tk_4 (List.mem_of_getElem? (i := 152) (by decide +kernel))
theorem tw_873 : (Cond.laysStatic "EchoCouncil$OrderKind" "OUT" "LEchoCouncil$OrderKind;") ∈ lw_tbl := tk_4 (List.mem_of_getElem? (i := 153) (by decide +kernel))
theorem tw_874 : (Cond.methodLink "EchoCouncilLaw" 48 ⟨"EchoCouncil", "carry", "(II)I"⟩) ∈ lw_tbl := tk_4 (List.mem_of_getElem? (i := 154) (by decide +kernel))
theorem tw_875 : (Cond.instanceMethod ⟨"EchoCouncil", "carry", "(II)I"⟩) ∈ lw_tbl := tk_4 (List.mem_of_getElem? (i := 155) (by decide +kernel))
theorem tw_876 : (Cond.selects "EchoCouncil" ⟨"EchoCouncil", "carry", "(II)I"⟩ ⟨"EchoCouncil", "carry", "(II)I"⟩) ∈ lw_tbl := tk_4 (List.mem_of_getElem? (i := 156) (by decide +kernel))
theorem tw_877 : (Cond.code ⟨"EchoCouncil", "carry", "(II)I"⟩ prog_1_method_7_code 3 (some FieldType.int)) ∈ lw_tbl := tk_4 (List.mem_of_getElem? (i := 157) (by decide +kernel))
theorem tw_878 : (Cond.fieldLink "EchoCouncil" 72 "EchoCouncil$OrderKind" "CARRY" "LEchoCouncil$OrderKind;") ∈ lw_tbl := tk_4 (List.mem_of_getElem? (i := 158) (by decide +kernel))
theorem tw_879 : (Cond.laysStatic "EchoCouncil$OrderKind" "CARRY" "LEchoCouncil$OrderKind;") ∈ lw_tbl := tk_4 (List.mem_of_getElem? (i := 159) (by decide +kernel))
theorem tw_880 : (Cond.methodLink "EchoCouncilLaw" 51 ⟨"EchoCouncil", "rent", "(III)I"⟩) ∈ lw_tbl := tk_4 (List.mem_of_getElem? (i := 160) (by decide +kernel))
theorem tw_881 : (Cond.instanceMethod ⟨"EchoCouncil", "rent", "(III)I"⟩) ∈ lw_tbl := tk_4 (List.mem_of_getElem? (i := 161) (by decide +kernel))
theorem tw_882 : (Cond.selects "EchoCouncil" ⟨"EchoCouncil", "rent", "(III)I"⟩ ⟨"EchoCouncil", "rent", "(III)I"⟩) ∈ lw_tbl := tk_4 (List.mem_of_getElem? (i := 162) (by decide +kernel))
theorem tw_883 : (Cond.code ⟨"EchoCouncil", "rent", "(III)I"⟩ prog_1_method_8_code 4 (some FieldType.int)) ∈ lw_tbl := tk_4 (List.mem_of_getElem? (i := 163) (by decide +kernel))
theorem tw_884 : (Cond.fieldLink "EchoCouncil" 75 "EchoCouncil$OrderKind" "RENT" "LEchoCouncil$OrderKind;") ∈ lw_tbl := tk_4 (List.mem_of_getElem? (i := 164) (by decide +kernel))
theorem tw_885 : (Cond.laysStatic "EchoCouncil$OrderKind" "RENT" "LEchoCouncil$OrderKind;") ∈ lw_tbl := tk_4 (List.mem_of_getElem? (i := 165) (by decide +kernel))
theorem tw_886 : (Cond.methodLink "EchoCouncilLaw" 55 ⟨"EchoCouncil", "back", "(II)I"⟩) ∈ lw_tbl := tk_4 (List.mem_of_getElem? (i := 166) (by decide +kernel))
theorem tw_887 : (Cond.instanceMethod ⟨"EchoCouncil", "back", "(II)I"⟩) ∈ lw_tbl := tk_4 (List.mem_of_getElem? (i := 167) (by decide +kernel))
theorem tw_888 : (Cond.selects "EchoCouncil" ⟨"EchoCouncil", "back", "(II)I"⟩ ⟨"EchoCouncil", "back", "(II)I"⟩) ∈ lw_tbl := tk_4 (List.mem_of_getElem? (i := 168) (by decide +kernel))
theorem tw_889 : (Cond.code ⟨"EchoCouncil", "back", "(II)I"⟩ prog_1_method_9_code 3 (some FieldType.int)) ∈ lw_tbl := tk_4 (List.mem_of_getElem? (i := 169) (by decide +kernel))
theorem tw_890 : (Cond.fieldLink "EchoCouncil" 78 "EchoCouncil$OrderKind" "BACK" "LEchoCouncil$OrderKind;") ∈ lw_tbl := tk_4 (List.mem_of_getElem? (i := 170) (by decide +kernel))
theorem tw_891 : (Cond.laysStatic "EchoCouncil$OrderKind" "BACK" "LEchoCouncil$OrderKind;") ∈ lw_tbl := tk_4 (List.mem_of_getElem? (i := 171) (by decide +kernel))
theorem tw_892 : (Cond.methodLink "EchoCouncilLaw" 58 ⟨"EchoCouncil", "sing", "(I)I"⟩) ∈ lw_tbl := tk_4 (List.mem_of_getElem? (i := 172) (by decide +kernel))
theorem tw_893 : (Cond.instanceMethod ⟨"EchoCouncil", "sing", "(I)I"⟩) ∈ lw_tbl := tk_4 (List.mem_of_getElem? (i := 173) (by decide +kernel))
theorem tw_894 : (Cond.selects "EchoCouncil" ⟨"EchoCouncil", "sing", "(I)I"⟩ ⟨"EchoCouncil", "sing", "(I)I"⟩) ∈ lw_tbl := tk_4 (List.mem_of_getElem? (i := 174) (by decide +kernel))
theorem tw_895 : (Cond.code ⟨"EchoCouncil", "sing", "(I)I"⟩ prog_1_method_10_code 2 (some FieldType.int)) ∈ lw_tbl := tk_4 (List.mem_of_getElem? (i := 175) (by decide +kernel))
theorem tw_896 : (Cond.fieldLink "EchoCouncil" 81 "EchoCouncil$OrderKind" "SING" "LEchoCouncil$OrderKind;") ∈ lw_tbl := tk_4 (List.mem_of_getElem? (i := 176) (by decide +kernel))
theorem tw_897 : (Cond.laysStatic "EchoCouncil$OrderKind" "SING" "LEchoCouncil$OrderKind;") ∈ lw_tbl := tk_4 (List.mem_of_getElem? (i := 177) (by decide +kernel))
theorem tw_898 : (Cond.methodLink "EchoCouncilLaw" 61 ⟨"EchoCouncil", "night", "()I"⟩) ∈ lw_tbl := tk_4 (List.mem_of_getElem? (i := 178) (by decide +kernel))
theorem tw_899 : (Cond.instanceMethod ⟨"EchoCouncil", "night", "()I"⟩) ∈ lw_tbl := tk_4 (List.mem_of_getElem? (i := 179) (by decide +kernel))
theorem tw_900 : (Cond.selects "EchoCouncil" ⟨"EchoCouncil", "night", "()I"⟩ ⟨"EchoCouncil", "night", "()I"⟩) ∈ lw_tbl := tk_4 (List.mem_of_getElem? (i := 180) (by decide +kernel))
theorem tw_901 : (Cond.code ⟨"EchoCouncil", "night", "()I"⟩ prog_1_method_11_code 1 (some FieldType.int)) ∈ lw_tbl := tk_4 (List.mem_of_getElem? (i := 181) (by decide +kernel))
theorem tw_902 : (Cond.methodLink "EchoCouncilLaw" 64 ⟨"EchoCouncil", "run", "()I"⟩) ∈ lw_tbl := tk_4 (List.mem_of_getElem? (i := 182) (by decide +kernel))
theorem tw_903 : (Cond.instanceMethod ⟨"EchoCouncil", "run", "()I"⟩) ∈ lw_tbl := tk_4 (List.mem_of_getElem? (i := 183) (by decide +kernel))
theorem tw_904 : (Cond.selects "EchoCouncil" ⟨"EchoCouncil", "run", "()I"⟩ ⟨"EchoCouncil", "run", "()I"⟩) ∈ lw_tbl := tk_4 (List.mem_of_getElem? (i := 184) (by decide +kernel))
theorem tw_905 : (Cond.code ⟨"EchoCouncil", "run", "()I"⟩ prog_1_method_32_code 1 (some FieldType.int)) ∈ lw_tbl := tk_4 (List.mem_of_getElem? (i := 185) (by decide +kernel))
theorem tw_906 : (Cond.methodLink "EchoCouncil" 282 ⟨"EchoCouncil$OrderText", "readAll", "()V"⟩) ∈ lw_tbl := tk_4 (List.mem_of_getElem? (i := 186) (by decide +kernel))
theorem tw_907 : (Cond.instanceMethod ⟨"EchoCouncil$OrderText", "readAll", "()V"⟩) ∈ lw_tbl := tk_4 (List.mem_of_getElem? (i := 187) (by decide +kernel))
theorem tw_908 : (Cond.selects "EchoCouncil$OrderText" ⟨"EchoCouncil$OrderText", "readAll", "()V"⟩ ⟨"EchoCouncil$OrderText", "readAll", "()V"⟩) ∈ lw_tbl := tk_4 (List.mem_of_getElem? (i := 188) (by decide +kernel))
theorem tw_909 : (Cond.code ⟨"EchoCouncil$OrderText", "readAll", "()V"⟩ prog_5_method_2_code 1 none) ∈ lw_tbl := tk_4 (List.mem_of_getElem? (i := 189) (by decide +kernel))
theorem tw_910 : (Cond.methodLink "EchoCouncil$OrderText" 40 ⟨"EchoCouncil$OrderText", "readsOrder", "(I)Z"⟩) ∈ lw_tbl := tk_4 (List.mem_of_getElem? (i := 190) (by decide +kernel))
theorem tw_911 : (Cond.instanceMethod ⟨"EchoCouncil$OrderText", "readsOrder", "(I)Z"⟩) ∈ lw_tbl := tk_4 (List.mem_of_getElem? (i := 191) (by decide +kernel))
theorem tw_912 : (Cond.selects "EchoCouncil$OrderText" ⟨"EchoCouncil$OrderText", "readsOrder", "(I)Z"⟩ ⟨"EchoCouncil$OrderText", "readsOrder", "(I)Z"⟩) ∈ lw_tbl := tk_4 (List.mem_of_getElem? (i := 192) (by decide +kernel))
theorem tw_913 : (Cond.code ⟨"EchoCouncil$OrderText", "readsOrder", "(I)Z"⟩ prog_5_method_3_code 4 (some FieldType.boolean)) ∈ lw_tbl := tk_4 (List.mem_of_getElem? (i := 193) (by decide +kernel))
theorem tw_914 : (Cond.fieldLinkNest "EchoCouncil$OrderText" 51 "EchoCouncil" "KINDS" "[LEchoCouncil$OrderKind;" "EchoCouncil") ∈ lw_tbl := tk_4 (List.mem_of_getElem? (i := 194) (by decide +kernel))
theorem tw_915 : (Cond.laysStatic "EchoCouncil" "KINDS" "[LEchoCouncil$OrderKind;") ∈ lw_tbl := tk_4 (List.mem_of_getElem? (i := 195) (by decide +kernel))
theorem tw_916 : (Cond.methodLink "EchoCouncil$OrderText" 58 ⟨"EchoCouncil$OrderText", "countSame", "(Ljava/lang/String;)I"⟩) ∈ lw_tbl := tk_4 (List.mem_of_getElem? (i := 196) (by decide +kernel))
theorem tw_917 : (Cond.instanceMethod ⟨"EchoCouncil$OrderText", "countSame", "(Ljava/lang/String;)I"⟩) ∈ lw_tbl := tk_4 (List.mem_of_getElem? (i := 197) (by decide +kernel))
theorem tw_918 : (Cond.selects "EchoCouncil$OrderText" ⟨"EchoCouncil$OrderText", "countSame", "(Ljava/lang/String;)I"⟩ ⟨"EchoCouncil$OrderText", "countSame", "(Ljava/lang/String;)I"⟩) ∈ lw_tbl := tk_4 (List.mem_of_getElem? (i := 198) (by decide +kernel))
theorem tw_919 : (Cond.code ⟨"EchoCouncil$OrderText", "countSame", "(Ljava/lang/String;)I"⟩ prog_5_method_5_code 3 (some FieldType.int)) ∈ lw_tbl := tk_4 (List.mem_of_getElem? (i := 199) (by decide +kernel))
theorem tw_920 : (Cond.methodLink "EchoCouncil$OrderText" 62 ⟨"java/lang/String", "length", "()I"⟩) ∈ lw_tbl := tk_4 (List.mem_of_getElem? (i := 200) (by decide +kernel))
theorem tw_921 : (Cond.instanceMethod ⟨"java/lang/String", "length", "()I"⟩) ∈ lw_tbl := tk_4 (List.mem_of_getElem? (i := 201) (by decide +kernel))
theorem tw_922 : (Cond.selects "java/lang/String" ⟨"java/lang/String", "length", "()I"⟩ ⟨"java/lang/String", "length", "()I"⟩) ∈ lw_tbl := tk_4 (List.mem_of_getElem? (i := 202) (by decide +kernel))
theorem tw_923 : (Cond.code ⟨"java/lang/String", "length", "()I"⟩ prog_29_method_54_code 1 (some FieldType.int)) ∈ lw_tbl := tk_4 (List.mem_of_getElem? (i := 203) (by decide +kernel))
theorem tw_924 : (Cond.methodLink "java/lang/String" 335 ⟨"java/lang/String", "coder", "()B"⟩) ∈ lw_tbl := tk_4 (List.mem_of_getElem? (i := 204) (by decide +kernel))
theorem tw_925 : (Cond.instanceMethod ⟨"java/lang/String", "coder", "()B"⟩) ∈ lw_tbl := tk_4 (List.mem_of_getElem? (i := 205) (by decide +kernel))
theorem tw_926 : (Cond.selects "java/lang/String" ⟨"java/lang/String", "coder", "()B"⟩ ⟨"java/lang/String", "coder", "()B"⟩) ∈ lw_tbl := tk_4 (List.mem_of_getElem? (i := 206) (by decide +kernel))
theorem tw_927 : (Cond.code ⟨"java/lang/String", "coder", "()B"⟩ prog_29_method_152_code 1 (some FieldType.byte)) ∈ lw_tbl := tk_4 (List.mem_of_getElem? (i := 207) (by decide +kernel))
theorem tw_928 : (Cond.fieldLink "java/lang/String" 38 "java/lang/String" "COMPACT_STRINGS" "Z") ∈ lw_tbl := tk_4 (List.mem_of_getElem? (i := 208) (by decide +kernel))
theorem tw_929 : (Cond.methodLink "EchoCouncil$OrderText" 80 ⟨"java/lang/String", "charAt", "(I)C"⟩) ∈ lw_tbl := tk_4 (List.mem_of_getElem? (i := 209) (by decide +kernel))
theorem tw_930 : (Cond.instanceMethod ⟨"java/lang/String", "charAt", "(I)C"⟩) ∈ lw_tbl := tk_4 (List.mem_of_getElem? (i := 210) (by decide +kernel))
theorem tw_931 : (Cond.selects "java/lang/String" ⟨"java/lang/String", "charAt", "(I)C"⟩ ⟨"java/lang/String", "charAt", "(I)C"⟩) ∈ lw_tbl := tk_4 (List.mem_of_getElem? (i := 211) (by decide +kernel))
theorem tw_932 : (Cond.code ⟨"java/lang/String", "charAt", "(I)C"⟩ prog_29_method_56_code 2 (some FieldType.char)) ∈ lw_tbl := tk_4 (List.mem_of_getElem? (i := 212) (by decide +kernel))
theorem tw_933 : (Cond.methodLink "java/lang/String" 492 ⟨"java/lang/String", "isLatin1", "()Z"⟩) ∈ lw_tbl := tk_4 (List.mem_of_getElem? (i := 213) (by decide +kernel))
theorem tw_934 : (Cond.instanceMethod ⟨"java/lang/String", "isLatin1", "()Z"⟩) ∈ lw_tbl := tk_4 (List.mem_of_getElem? (i := 214) (by decide +kernel))
theorem tw_935 : (Cond.selects "java/lang/String" ⟨"java/lang/String", "isLatin1", "()Z"⟩ ⟨"java/lang/String", "isLatin1", "()Z"⟩) ∈ lw_tbl := tk_4 (List.mem_of_getElem? (i := 215) (by decide +kernel))
theorem tw_936 : (Cond.code ⟨"java/lang/String", "isLatin1", "()Z"⟩ prog_29_method_154_code 1 (some FieldType.boolean)) ∈ lw_tbl := tk_4 (List.mem_of_getElem? (i := 216) (by decide +kernel))
theorem tw_937 : (Cond.methodLink "java/lang/String" 495 ⟨"java/lang/StringLatin1", "charAt", "([BI)C"⟩) ∈ lw_tbl := tk_4 (List.mem_of_getElem? (i := 217) (by decide +kernel))
theorem tw_938 : (Cond.static ⟨"java/lang/StringLatin1", "charAt", "([BI)C"⟩) ∈ lw_tbl := tk_4 (List.mem_of_getElem? (i := 218) (by decide +kernel))
theorem tw_939 : (Cond.code ⟨"java/lang/StringLatin1", "charAt", "([BI)C"⟩ prog_32_method_2_code 2 (some FieldType.char)) ∈ lw_tbl := tk_4 (List.mem_of_getElem? (i := 219) (by decide +kernel))
theorem tw_940 : (Cond.methodLink "java/lang/StringLatin1" 9 ⟨"java/lang/String", "checkIndex", "(II)V"⟩) ∈ lw_tbl := tk_4 (List.mem_of_getElem? (i := 220) (by decide +kernel))
theorem tw_941 : (Cond.static ⟨"java/lang/String", "checkIndex", "(II)V"⟩) ∈ lw_tbl := tk_4 (List.mem_of_getElem? (i := 221) (by decide +kernel))
theorem tw_942 : (Cond.code ⟨"java/lang/String", "checkIndex", "(II)V"⟩ prog_29_method_155_code 2 none) ∈ lw_tbl := tk_4 (List.mem_of_getElem? (i := 222) (by decide +kernel))
theorem tw_943 : (Cond.fieldLink "java/lang/String" 1053 "jdk/internal/util/Preconditions" "SIOOBE_FORMATTER" "Ljava/util/function/BiFunction;") ∈ lw_tbl := tk_4 (List.mem_of_getElem? (i := 223) (by decide +kernel))
theorem tw_944 : (Cond.laysStatic "jdk/internal/util/Preconditions" "SIOOBE_FORMATTER" "Ljava/util/function/BiFunction;") ∈ lw_tbl := tk_4 (List.mem_of_getElem? (i := 224) (by decide +kernel))
theorem tw_945 : (Cond.methodLink "java/lang/String" 1059 ⟨"jdk/internal/util/Preconditions", "checkIndex", "(IILjava/util/function/BiFunction;)I"⟩) ∈ lw_tbl := tk_4 (List.mem_of_getElem? (i := 225) (by decide +kernel))
theorem tw_946 : (Cond.static ⟨"jdk/internal/util/Preconditions", "checkIndex", "(IILjava/util/function/BiFunction;)I"⟩) ∈ lw_tbl := tk_4 (List.mem_of_getElem? (i := 226) (by decide +kernel))
theorem tw_947 : (Cond.code ⟨"jdk/internal/util/Preconditions", "checkIndex", "(IILjava/util/function/BiFunction;)I"⟩ prog_42_method_11_code 3 (some FieldType.int)) ∈ lw_tbl := tk_4 (List.mem_of_getElem? (i := 227) (by decide +kernel))
theorem tw_948 : (Cond.methodLink "java/lang/String" 498 ⟨"java/lang/StringUTF16", "charAt", "([BI)C"⟩) ∈ lw_tbl := tk_4 (List.mem_of_getElem? (i := 228) (by decide +kernel))
theorem tw_949 : (Cond.static ⟨"java/lang/StringUTF16", "charAt", "([BI)C"⟩) ∈ lw_tbl := tk_4 (List.mem_of_getElem? (i := 229) (by decide +kernel))
theorem tw_950 : (Cond.code ⟨"java/lang/StringUTF16", "charAt", "([BI)C"⟩ prog_33_method_83_code 2 (some FieldType.char)) ∈ lw_tbl := tk_4 (List.mem_of_getElem? (i := 230) (by decide +kernel))
theorem tw_951 : (Cond.methodLink "java/lang/StringUTF16" 67 ⟨"java/lang/StringUTF16", "checkIndex", "(I[B)V"⟩) ∈ lw_tbl := tk_4 (List.mem_of_getElem? (i := 231) (by decide +kernel))
theorem tw_952 : (Cond.static ⟨"java/lang/StringUTF16", "checkIndex", "(I[B)V"⟩) ∈ lw_tbl := tk_4 (List.mem_of_getElem? (i := 232) (by decide +kernel))
theorem tw_953 : (Cond.code ⟨"java/lang/StringUTF16", "checkIndex", "(I[B)V"⟩ prog_33_method_91_code 2 none) ∈ lw_tbl := tk_4 (List.mem_of_getElem? (i := 233) (by decide +kernel))
theorem tw_954 : (Cond.methodLink "java/lang/StringUTF16" 48 ⟨"java/lang/StringUTF16", "length", "([B)I"⟩) ∈ lw_tbl := tk_4 (List.mem_of_getElem? (i := 234) (by decide +kernel))
theorem tw_955 : (Cond.static ⟨"java/lang/StringUTF16", "length", "([B)I"⟩) ∈ lw_tbl := tk_4 (List.mem_of_getElem? (i := 235) (by decide +kernel))
theorem tw_956 : (Cond.code ⟨"java/lang/StringUTF16", "length", "([B)I"⟩ prog_33_method_6_code 1 (some FieldType.int)) ∈ lw_tbl := tk_4 (List.mem_of_getElem? (i := 236) (by decide +kernel))
theorem tw_957 : (Cond.methodLink "java/lang/StringUTF16" 414 ⟨"java/lang/String", "checkIndex", "(II)V"⟩) ∈ lw_tbl := tk_4 (List.mem_of_getElem? (i := 237) (by decide +kernel))
theorem tw_958 : (Cond.methodLink "java/lang/StringUTF16" 71 ⟨"java/lang/StringUTF16", "getChar", "([BI)C"⟩) ∈ lw_tbl := tk_4 (List.mem_of_getElem? (i := 238) (by decide +kernel))
theorem tw_959 : (Cond.static ⟨"java/lang/StringUTF16", "getChar", "([BI)C"⟩) ∈ lw_tbl := tk_4 (List.mem_of_getElem? (i := 239) (by decide +kernel))
theorem tw_960 : (Cond.code ⟨"java/lang/StringUTF16", "getChar", "([BI)C"⟩ prog_33_method_5_code 2 (some FieldType.char)) ∈ lw_tbl := tk_5 (List.mem_of_getElem? (i := 0) (by decide +kernel))
theorem tw_961 : (Cond.fieldLink "java/lang/StringUTF16" 44 "java/lang/StringUTF16" "$assertionsDisabled" "Z") ∈ lw_tbl := tk_5 (List.mem_of_getElem? (i := 1) (by decide +kernel))
theorem tw_962 : (Cond.laysStatic "java/lang/StringUTF16" "$assertionsDisabled" "Z") ∈ lw_tbl := tk_5 (List.mem_of_getElem? (i := 2) (by decide +kernel))
theorem tw_963 : (Cond.fieldLink "java/lang/StringUTF16" 59 "java/lang/StringUTF16" "HI_BYTE_SHIFT" "I") ∈ lw_tbl := tk_5 (List.mem_of_getElem? (i := 3) (by decide +kernel))
theorem tw_964 : (Cond.laysStatic "java/lang/StringUTF16" "HI_BYTE_SHIFT" "I") ∈ lw_tbl := tk_5 (List.mem_of_getElem? (i := 4) (by decide +kernel))
theorem tw_965 : (Cond.fieldLink "java/lang/StringUTF16" 63 "java/lang/StringUTF16" "LO_BYTE_SHIFT" "I") ∈ lw_tbl := tk_5 (List.mem_of_getElem? (i := 5) (by decide +kernel))
theorem tw_966 : (Cond.laysStatic "java/lang/StringUTF16" "LO_BYTE_SHIFT" "I") ∈ lw_tbl := tk_5 (List.mem_of_getElem? (i := 6) (by decide +kernel))
theorem tw_967 : (Cond.methodLink "EchoCouncil$OrderText" 67 ⟨"EchoCouncil$OrderText", "readsNumbers", "(LEchoCouncil$OrderKind;[I)Z"⟩) ∈ lw_tbl := tk_5 (List.mem_of_getElem? (i := 7) (by decide +kernel))
theorem tw_968 : (Cond.instanceMethod ⟨"EchoCouncil$OrderText", "readsNumbers", "(LEchoCouncil$OrderKind;[I)Z"⟩) ∈ lw_tbl := tk_5 (List.mem_of_getElem? (i := 8) (by decide +kernel))
theorem tw_969 : (Cond.selects "EchoCouncil$OrderText" ⟨"EchoCouncil$OrderText", "readsNumbers", "(LEchoCouncil$OrderKind;[I)Z"⟩ ⟨"EchoCouncil$OrderText", "readsNumbers", "(LEchoCouncil$OrderKind;[I)Z"⟩) ∈ lw_tbl := tk_5 (List.mem_of_getElem? (i := 9) (by decide +kernel))
theorem tw_970 : (Cond.code ⟨"EchoCouncil$OrderText", "readsNumbers", "(LEchoCouncil$OrderKind;[I)Z"⟩ prog_5_method_6_code 4 (some FieldType.boolean)) ∈ lw_tbl := tk_5 (List.mem_of_getElem? (i := 10) (by decide +kernel))
theorem tw_971 : (Cond.methodLink "EchoCouncil$OrderText" 47 ⟨"EchoCouncil$OrderText", "readsSign", "(C)Z"⟩) ∈ lw_tbl := tk_5 (List.mem_of_getElem? (i := 11) (by decide +kernel))
theorem tw_972 : (Cond.instanceMethod ⟨"EchoCouncil$OrderText", "readsSign", "(C)Z"⟩) ∈ lw_tbl := tk_5 (List.mem_of_getElem? (i := 12) (by decide +kernel))
theorem tw_973 : (Cond.selects "EchoCouncil$OrderText" ⟨"EchoCouncil$OrderText", "readsSign", "(C)Z"⟩ ⟨"EchoCouncil$OrderText", "readsSign", "(C)Z"⟩) ∈ lw_tbl := tk_5 (List.mem_of_getElem? (i := 13) (by decide +kernel))
theorem tw_974 : (Cond.code ⟨"EchoCouncil$OrderText", "readsSign", "(C)Z"⟩ prog_5_method_7_code 2 (some FieldType.boolean)) ∈ lw_tbl := tk_5 (List.mem_of_getElem? (i := 14) (by decide +kernel))
theorem tw_975 : (Cond.methodLink "EchoCouncil$OrderText" 86 ⟨"EchoCouncil$OrderText", "isAtDigit", "()Z"⟩) ∈ lw_tbl := tk_5 (List.mem_of_getElem? (i := 15) (by decide +kernel))
theorem tw_976 : (Cond.instanceMethod ⟨"EchoCouncil$OrderText", "isAtDigit", "()Z"⟩) ∈ lw_tbl := tk_5 (List.mem_of_getElem? (i := 16) (by decide +kernel))
theorem tw_977 : (Cond.selects "EchoCouncil$OrderText" ⟨"EchoCouncil$OrderText", "isAtDigit", "()Z"⟩ ⟨"EchoCouncil$OrderText", "isAtDigit", "()Z"⟩) ∈ lw_tbl := tk_5 (List.mem_of_getElem? (i := 17) (by decide +kernel))
theorem tw_978 : (Cond.code ⟨"EchoCouncil$OrderText", "isAtDigit", "()Z"⟩ prog_5_method_8_code 1 (some FieldType.boolean)) ∈ lw_tbl := tk_5 (List.mem_of_getElem? (i := 18) (by decide +kernel))
theorem tw_979 : (Cond.methodLink "EchoCouncil$OrderText" 90 ⟨"EchoCouncil$OrderText", "readDigit", "()I"⟩) ∈ lw_tbl := tk_5 (List.mem_of_getElem? (i := 19) (by decide +kernel))
theorem tw_980 : (Cond.instanceMethod ⟨"EchoCouncil$OrderText", "readDigit", "()I"⟩) ∈ lw_tbl := tk_5 (List.mem_of_getElem? (i := 20) (by decide +kernel))
theorem tw_981 : (Cond.selects "EchoCouncil$OrderText" ⟨"EchoCouncil$OrderText", "readDigit", "()I"⟩ ⟨"EchoCouncil$OrderText", "readDigit", "()I"⟩) ∈ lw_tbl := tk_5 (List.mem_of_getElem? (i := 21) (by decide +kernel))
theorem tw_982 : (Cond.code ⟨"EchoCouncil$OrderText", "readDigit", "()I"⟩ prog_5_method_9_code 2 (some FieldType.int)) ∈ lw_tbl := tk_5 (List.mem_of_getElem? (i := 22) (by decide +kernel))
theorem tw_983 : (Cond.methodLink "EchoCouncil$OrderText" 71 ⟨"EchoCouncil$OrderText", "longestStart", "()I"⟩) ∈ lw_tbl := tk_5 (List.mem_of_getElem? (i := 23) (by decide +kernel))
theorem tw_984 : (Cond.instanceMethod ⟨"EchoCouncil$OrderText", "longestStart", "()I"⟩) ∈ lw_tbl := tk_5 (List.mem_of_getElem? (i := 24) (by decide +kernel))
theorem tw_985 : (Cond.selects "EchoCouncil$OrderText" ⟨"EchoCouncil$OrderText", "longestStart", "()I"⟩ ⟨"EchoCouncil$OrderText", "longestStart", "()I"⟩) ∈ lw_tbl := tk_5 (List.mem_of_getElem? (i := 25) (by decide +kernel))
theorem tw_986 : (Cond.code ⟨"EchoCouncil$OrderText", "longestStart", "()I"⟩ prog_5_method_4_code 3 (some FieldType.int)) ∈ lw_tbl := tk_5 (List.mem_of_getElem? (i := 26) (by decide +kernel))
theorem tw_987 : (Cond.methodLink "EchoCouncil$OrderText" 74 ⟨"java/lang/Math", "max", "(II)I"⟩) ∈ lw_tbl := tk_5 (List.mem_of_getElem? (i := 27) (by decide +kernel))
theorem tw_988 : (Cond.stringRef "EchoCouncil" 288 "the text has a fault") ∈ lw_tbl := tk_5 (List.mem_of_getElem? (i := 28) (by decide +kernel))
theorem tw_989 : (Cond.methodLink "EchoCouncil" 290 ⟨"EchoCouncil", "doesAllOrders", "()Z"⟩) ∈ lw_tbl := tk_5 (List.mem_of_getElem? (i := 29) (by decide +kernel))
theorem tw_990 : (Cond.privateMethod ⟨"EchoCouncil", "doesAllOrders", "()Z"⟩) ∈ lw_tbl := tk_5 (List.mem_of_getElem? (i := 30) (by decide +kernel))
theorem tw_991 : (Cond.instanceMethod ⟨"EchoCouncil", "doesAllOrders", "()Z"⟩) ∈ lw_tbl := tk_5 (List.mem_of_getElem? (i := 31) (by decide +kernel))
theorem tw_992 : (Cond.code ⟨"EchoCouncil", "doesAllOrders", "()Z"⟩ prog_1_method_50_code 3 (some FieldType.boolean)) ∈ lw_tbl := tk_5 (List.mem_of_getElem? (i := 32) (by decide +kernel))
theorem tw_993 : (Cond.methodLink "EchoCouncil" 382 ⟨"EchoCouncil$State", "copyFrom", "(LEchoCouncil$State;)V"⟩) ∈ lw_tbl := tk_5 (List.mem_of_getElem? (i := 33) (by decide +kernel))
theorem tw_994 : (Cond.methodLink "EchoCouncil" 427 ⟨"EchoCouncil$Refusal", "putBehind", "(II)V"⟩) ∈ lw_tbl := tk_5 (List.mem_of_getElem? (i := 34) (by decide +kernel))
theorem tw_995 : (Cond.instanceMethod ⟨"EchoCouncil$Refusal", "putBehind", "(II)V"⟩) ∈ lw_tbl := tk_5 (List.mem_of_getElem? (i := 35) (by decide +kernel))
theorem tw_996 : (Cond.selects "EchoCouncil$Refusal" ⟨"EchoCouncil$Refusal", "putBehind", "(II)V"⟩ ⟨"EchoCouncil$Refusal", "putBehind", "(II)V"⟩) ∈ lw_tbl := tk_5 (List.mem_of_getElem? (i := 36) (by decide +kernel))
theorem tw_997 : (Cond.code ⟨"EchoCouncil$Refusal", "putBehind", "(II)V"⟩ prog_7_method_3_code 3 none) ∈ lw_tbl := tk_5 (List.mem_of_getElem? (i := 37) (by decide +kernel))
theorem tw_998 : (Cond.stringRef "EchoCouncil" 296 "an order is refused") ∈ lw_tbl := tk_5 (List.mem_of_getElem? (i := 38) (by decide +kernel))
theorem tw_999 : (Cond.methodLink "EchoCouncilLaw" 251 ⟨"EchoCouncilLaw", "any", "(LEchoCouncil;[II)I"⟩) ∈ lw_tbl := tk_5 (List.mem_of_getElem? (i := 39) (by decide +kernel))
theorem tw_1000 : (Cond.static ⟨"EchoCouncilLaw", "any", "(LEchoCouncil;[II)I"⟩) ∈ lw_tbl := tk_5 (List.mem_of_getElem? (i := 40) (by decide +kernel))
theorem tw_1001 : (Cond.code ⟨"EchoCouncilLaw", "any", "(LEchoCouncil;[II)I"⟩ method_10_code 6 (some FieldType.int)) ∈ lw_tbl := tk_5 (List.mem_of_getElem? (i := 41) (by decide +kernel))
theorem tw_1002 : (Cond.methodLink "EchoCouncilLaw" 130 ⟨"java/lang/Math", "max", "(II)I"⟩) ∈ lw_tbl := tk_5 (List.mem_of_getElem? (i := 42) (by decide +kernel))
theorem tw_1003 : (Cond.methodLink "EchoCouncilLaw" 268 ⟨"EchoCouncilLaw", "isSingerRight", "(LEchoCouncil;I)Z"⟩) ∈ lw_tbl := tk_5 (List.mem_of_getElem? (i := 43) (by decide +kernel))
theorem tw_1004 : (Cond.static ⟨"EchoCouncilLaw", "isSingerRight", "(LEchoCouncil;I)Z"⟩) ∈ lw_tbl := tk_5 (List.mem_of_getElem? (i := 44) (by decide +kernel))
theorem tw_1005 : (Cond.code ⟨"EchoCouncilLaw", "isSingerRight", "(LEchoCouncil;I)Z"⟩ method_15_code 11 (some FieldType.boolean)) ∈ lw_tbl := tk_5 (List.mem_of_getElem? (i := 45) (by decide +kernel))
theorem tw_1006 : (Cond.methodLink "EchoCouncilLaw" 141 ⟨"EchoCouncil", "canRent", "(II)Z"⟩) ∈ lw_tbl := tk_5 (List.mem_of_getElem? (i := 46) (by decide +kernel))
theorem tw_1007 : (Cond.instanceMethod ⟨"EchoCouncil", "canRent", "(II)Z"⟩) ∈ lw_tbl := tk_5 (List.mem_of_getElem? (i := 47) (by decide +kernel))
theorem tw_1008 : (Cond.selects "EchoCouncil" ⟨"EchoCouncil", "canRent", "(II)Z"⟩ ⟨"EchoCouncil", "canRent", "(II)Z"⟩) ∈ lw_tbl := tk_5 (List.mem_of_getElem? (i := 48) (by decide +kernel))
theorem tw_1009 : (Cond.code ⟨"EchoCouncil", "canRent", "(II)Z"⟩ prog_1_method_22_code 3 (some FieldType.boolean)) ∈ lw_tbl := tk_5 (List.mem_of_getElem? (i := 49) (by decide +kernel))
theorem tw_1010 : (Cond.methodLink "EchoCouncilLaw" 145 ⟨"EchoCouncilLaw", "singersIn", "(LEchoCouncil;I)I"⟩) ∈ lw_tbl := tk_5 (List.mem_of_getElem? (i := 50) (by decide +kernel))
theorem tw_1011 : (Cond.static ⟨"EchoCouncilLaw", "singersIn", "(LEchoCouncil;I)I"⟩) ∈ lw_tbl := tk_5 (List.mem_of_getElem? (i := 51) (by decide +kernel))
theorem tw_1012 : (Cond.code ⟨"EchoCouncilLaw", "singersIn", "(LEchoCouncil;I)I"⟩ method_12_code 4 (some FieldType.int)) ∈ lw_tbl := tk_5 (List.mem_of_getElem? (i := 52) (by decide +kernel))
theorem tw_1013 : (Cond.methodLink "EchoCouncilLaw" 149 ⟨"java/lang/Integer", "bitCount", "(I)I"⟩) ∈ lw_tbl := tk_5 (List.mem_of_getElem? (i := 53) (by decide +kernel))
theorem tw_1014 : (Cond.methodLink "EchoCouncilLaw" 154 ⟨"EchoCouncil", "canEnter", "(II)Z"⟩) ∈ lw_tbl := tk_5 (List.mem_of_getElem? (i := 54) (by decide +kernel))
theorem tw_1015 : (Cond.instanceMethod ⟨"EchoCouncil", "canEnter", "(II)Z"⟩) ∈ lw_tbl := tk_5 (List.mem_of_getElem? (i := 55) (by decide +kernel))
theorem tw_1016 : (Cond.selects "EchoCouncil" ⟨"EchoCouncil", "canEnter", "(II)Z"⟩ ⟨"EchoCouncil", "canEnter", "(II)Z"⟩) ∈ lw_tbl := tk_5 (List.mem_of_getElem? (i := 56) (by decide +kernel))
theorem tw_1017 : (Cond.code ⟨"EchoCouncil", "canEnter", "(II)Z"⟩ prog_1_method_21_code 3 (some FieldType.boolean)) ∈ lw_tbl := tk_5 (List.mem_of_getElem? (i := 57) (by decide +kernel))
theorem tw_1018 : (Cond.methodLink "EchoCouncilLaw" 157 ⟨"EchoCouncilLaw", "tones", "(LEchoCouncil;III)I"⟩) ∈ lw_tbl := tk_5 (List.mem_of_getElem? (i := 58) (by decide +kernel))
theorem tw_1019 : (Cond.static ⟨"EchoCouncilLaw", "tones", "(LEchoCouncil;III)I"⟩) ∈ lw_tbl := tk_5 (List.mem_of_getElem? (i := 59) (by decide +kernel))
theorem tw_1020 : (Cond.code ⟨"EchoCouncilLaw", "tones", "(LEchoCouncil;III)I"⟩ method_14_code 7 (some FieldType.int)) ∈ lw_tbl := tk_5 (List.mem_of_getElem? (i := 60) (by decide +kernel))
theorem tw_1021 : (Cond.methodLink "EchoCouncilLaw" 135 ⟨"java/lang/Math", "min", "(II)I"⟩) ∈ lw_tbl := tk_5 (List.mem_of_getElem? (i := 61) (by decide +kernel))
theorem tw_1022 : (Cond.methodLink "EchoCouncilLaw" 159 ⟨"EchoCouncil", "tonesAgain", "(I)I"⟩) ∈ lw_tbl := tk_5 (List.mem_of_getElem? (i := 62) (by decide +kernel))
theorem tw_1023 : (Cond.instanceMethod ⟨"EchoCouncil", "tonesAgain", "(I)I"⟩) ∈ lw_tbl := tk_5 (List.mem_of_getElem? (i := 63) (by decide +kernel))
theorem tw_1024 : (Cond.selects "EchoCouncil" ⟨"EchoCouncil", "tonesAgain", "(I)I"⟩ ⟨"EchoCouncil", "tonesAgain", "(I)I"⟩) ∈ lw_tbl := tk_5 (List.mem_of_getElem? (i := 64) (by decide +kernel))
theorem tw_1025 : (Cond.code ⟨"EchoCouncil", "tonesAgain", "(I)I"⟩ prog_1_method_16_code 2 (some FieldType.int)) ∈ lw_tbl := tk_5 (List.mem_of_getElem? (i := 65) (by decide +kernel))
theorem tw_1026 : (Cond.methodLink "EchoCouncil" 191 ⟨"EchoCouncil$State", "tonesByStrength", "(I)I"⟩) ∈ lw_tbl := tk_5 (List.mem_of_getElem? (i := 66) (by decide +kernel))
theorem tw_1027 : (Cond.instanceMethod ⟨"EchoCouncil$State", "tonesByStrength", "(I)I"⟩) ∈ lw_tbl := tk_5 (List.mem_of_getElem? (i := 67) (by decide +kernel))
theorem tw_1028 : (Cond.selects "EchoCouncil$State" ⟨"EchoCouncil$State", "tonesByStrength", "(I)I"⟩ ⟨"EchoCouncil$State", "tonesByStrength", "(I)I"⟩) ∈ lw_tbl := tk_5 (List.mem_of_getElem? (i := 68) (by decide +kernel))
theorem tw_1029 : (Cond.code ⟨"EchoCouncil$State", "tonesByStrength", "(I)I"⟩ prog_10_method_18_code 5 (some FieldType.int)) ∈ lw_tbl := tk_5 (List.mem_of_getElem? (i := 69) (by decide +kernel))
theorem tw_1030 : (Cond.methodLink "EchoCouncil$State" 109 ⟨"EchoCouncil$State", "countHeardOf", "(III)I"⟩) ∈ lw_tbl := tk_5 (List.mem_of_getElem? (i := 70) (by decide +kernel))
theorem tw_1031 : (Cond.instanceMethod ⟨"EchoCouncil$State", "countHeardOf", "(III)I"⟩) ∈ lw_tbl := tk_5 (List.mem_of_getElem? (i := 71) (by decide +kernel))
theorem tw_1032 : (Cond.selects "EchoCouncil$State" ⟨"EchoCouncil$State", "countHeardOf", "(III)I"⟩ ⟨"EchoCouncil$State", "countHeardOf", "(III)I"⟩) ∈ lw_tbl := tk_5 (List.mem_of_getElem? (i := 72) (by decide +kernel))
theorem tw_1033 : (Cond.code ⟨"EchoCouncil$State", "countHeardOf", "(III)I"⟩ prog_10_method_19_code 6 (some FieldType.int)) ∈ lw_tbl := tk_5 (List.mem_of_getElem? (i := 73) (by decide +kernel))
theorem tw_1034 : (Cond.methodLink "EchoCouncilLaw" 162 ⟨"EchoCouncil", "versesAgain", "(I)I"⟩) ∈ lw_tbl := tk_5 (List.mem_of_getElem? (i := 74) (by decide +kernel))
theorem tw_1035 : (Cond.instanceMethod ⟨"EchoCouncil", "versesAgain", "(I)I"⟩) ∈ lw_tbl := tk_5 (List.mem_of_getElem? (i := 75) (by decide +kernel))
theorem tw_1036 : (Cond.selects "EchoCouncil" ⟨"EchoCouncil", "versesAgain", "(I)I"⟩ ⟨"EchoCouncil", "versesAgain", "(I)I"⟩) ∈ lw_tbl := tk_5 (List.mem_of_getElem? (i := 76) (by decide +kernel))
theorem tw_1037 : (Cond.code ⟨"EchoCouncil", "versesAgain", "(I)I"⟩ prog_1_method_18_code 2 (some FieldType.int)) ∈ lw_tbl := tk_5 (List.mem_of_getElem? (i := 77) (by decide +kernel))
theorem tw_1038 : (Cond.methodLink "EchoCouncil" 197 ⟨"EchoCouncil$State", "versesByEcho", "(I)I"⟩) ∈ lw_tbl := tk_5 (List.mem_of_getElem? (i := 78) (by decide +kernel))
theorem tw_1039 : (Cond.instanceMethod ⟨"EchoCouncil$State", "versesByEcho", "(I)I"⟩) ∈ lw_tbl := tk_5 (List.mem_of_getElem? (i := 79) (by decide +kernel))
theorem tw_1040 : (Cond.selects "EchoCouncil$State" ⟨"EchoCouncil$State", "versesByEcho", "(I)I"⟩ ⟨"EchoCouncil$State", "versesByEcho", "(I)I"⟩) ∈ lw_tbl := tk_5 (List.mem_of_getElem? (i := 80) (by decide +kernel))
theorem tw_1041 : (Cond.code ⟨"EchoCouncil$State", "versesByEcho", "(I)I"⟩ prog_10_method_22_code 4 (some FieldType.int)) ∈ lw_tbl := tk_5 (List.mem_of_getElem? (i := 81) (by decide +kernel))
theorem tw_1042 : (Cond.methodLink "EchoCouncilLaw" 255 ⟨"EchoCouncilLaw", "areRoomsRight", "(LEchoCouncil;)Z"⟩) ∈ lw_tbl := tk_5 (List.mem_of_getElem? (i := 82) (by decide +kernel))
theorem tw_1043 : (Cond.static ⟨"EchoCouncilLaw", "areRoomsRight", "(LEchoCouncil;)Z"⟩) ∈ lw_tbl := tk_5 (List.mem_of_getElem? (i := 83) (by decide +kernel))
theorem tw_1044 : (Cond.code ⟨"EchoCouncilLaw", "areRoomsRight", "(LEchoCouncil;)Z"⟩ method_16_code 10 (some FieldType.boolean)) ∈ lw_tbl := tk_5 (List.mem_of_getElem? (i := 84) (by decide +kernel))
theorem tw_1045 : (Cond.methodLink "EchoCouncilLaw" 165 ⟨"EchoCouncil", "others", "(I)I"⟩) ∈ lw_tbl := tk_5 (List.mem_of_getElem? (i := 85) (by decide +kernel))
theorem tw_1046 : (Cond.instanceMethod ⟨"EchoCouncil", "others", "(I)I"⟩) ∈ lw_tbl := tk_5 (List.mem_of_getElem? (i := 86) (by decide +kernel))
theorem tw_1047 : (Cond.selects "EchoCouncil" ⟨"EchoCouncil", "others", "(I)I"⟩ ⟨"EchoCouncil", "others", "(I)I"⟩) ∈ lw_tbl := tk_5 (List.mem_of_getElem? (i := 87) (by decide +kernel))
theorem tw_1048 : (Cond.code ⟨"EchoCouncil", "others", "(I)I"⟩ prog_1_method_24_code 2 (some FieldType.int)) ∈ lw_tbl := tk_5 (List.mem_of_getElem? (i := 88) (by decide +kernel))
theorem tw_1049 : (Cond.methodLink "EchoCouncilLaw" 168 ⟨"EchoCouncil", "free", "(I)I"⟩) ∈ lw_tbl := tk_5 (List.mem_of_getElem? (i := 89) (by decide +kernel))
theorem tw_1050 : (Cond.instanceMethod ⟨"EchoCouncil", "free", "(I)I"⟩) ∈ lw_tbl := tk_5 (List.mem_of_getElem? (i := 90) (by decide +kernel))
theorem tw_1051 : (Cond.selects "EchoCouncil" ⟨"EchoCouncil", "free", "(I)I"⟩ ⟨"EchoCouncil", "free", "(I)I"⟩) ∈ lw_tbl := tk_5 (List.mem_of_getElem? (i := 91) (by decide +kernel))
theorem tw_1052 : (Cond.code ⟨"EchoCouncil", "free", "(I)I"⟩ prog_1_method_25_code 2 (some FieldType.int)) ∈ lw_tbl := tk_5 (List.mem_of_getElem? (i := 92) (by decide +kernel))
theorem tw_1053 : (Cond.methodLink "EchoCouncilLaw" 171 ⟨"EchoCouncil", "dryIn", "(I)I"⟩) ∈ lw_tbl := tk_5 (List.mem_of_getElem? (i := 93) (by decide +kernel))
theorem tw_1054 : (Cond.instanceMethod ⟨"EchoCouncil", "dryIn", "(I)I"⟩) ∈ lw_tbl := tk_5 (List.mem_of_getElem? (i := 94) (by decide +kernel))
theorem tw_1055 : (Cond.selects "EchoCouncil" ⟨"EchoCouncil", "dryIn", "(I)I"⟩ ⟨"EchoCouncil", "dryIn", "(I)I"⟩) ∈ lw_tbl := tk_5 (List.mem_of_getElem? (i := 95) (by decide +kernel))
theorem tw_1056 : (Cond.code ⟨"EchoCouncil", "dryIn", "(I)I"⟩ prog_1_method_26_code 2 (some FieldType.int)) ∈ lw_tbl := tk_5 (List.mem_of_getElem? (i := 96) (by decide +kernel))
theorem tw_1057 : (Cond.methodLink "EchoCouncilLaw" 174 ⟨"EchoCouncil", "meanDamp", "()D"⟩) ∈ lw_tbl := tk_5 (List.mem_of_getElem? (i := 97) (by decide +kernel))
theorem tw_1058 : (Cond.instanceMethod ⟨"EchoCouncil", "meanDamp", "()D"⟩) ∈ lw_tbl := tk_5 (List.mem_of_getElem? (i := 98) (by decide +kernel))
theorem tw_1059 : (Cond.selects "EchoCouncil" ⟨"EchoCouncil", "meanDamp", "()D"⟩ ⟨"EchoCouncil", "meanDamp", "()D"⟩) ∈ lw_tbl := tk_5 (List.mem_of_getElem? (i := 99) (by decide +kernel))
theorem tw_1060 : (Cond.code ⟨"EchoCouncil", "meanDamp", "()D"⟩ prog_1_method_40_code 1 (some FieldType.double)) ∈ lw_tbl := tk_5 (List.mem_of_getElem? (i := 100) (by decide +kernel))
theorem tw_1061 : (Cond.classLink "EchoCouncil" 372 "java/lang/ArithmeticException") ∈ lw_tbl := tk_5 (List.mem_of_getElem? (i := 101) (by decide +kernel))
theorem tw_1062 : (Cond.instantiable "java/lang/ArithmeticException" 6) ∈ lw_tbl := tk_5 (List.mem_of_getElem? (i := 102) (by decide +kernel))
theorem tw_1063 : (Cond.castable "java/lang/ArithmeticException" "java/lang/ArithmeticException") ∈ lw_tbl := tk_5 (List.mem_of_getElem? (i := 103) (by decide +kernel))
theorem tw_1064 : (Cond.selects "java/lang/ArithmeticException" ⟨"java/lang/Throwable", "fillInStackTrace", "(I)Ljava/lang/Throwable;"⟩ ⟨"java/lang/Throwable", "fillInStackTrace", "(I)Ljava/lang/Throwable;"⟩) ∈ lw_tbl := tk_5 (List.mem_of_getElem? (i := 104) (by decide +kernel))
theorem tw_1065 : (Cond.lays "java/lang/ArithmeticException" "java/lang/Throwable" "cause" "Ljava/lang/Throwable;") ∈ lw_tbl := tk_5 (List.mem_of_getElem? (i := 105) (by decide +kernel))
theorem tw_1066 : (Cond.lays "java/lang/ArithmeticException" "java/lang/Throwable" "stackTrace" "[Ljava/lang/StackTraceElement;") ∈ lw_tbl := tk_5 (List.mem_of_getElem? (i := 106) (by decide +kernel))
theorem tw_1067 : (Cond.lays "java/lang/ArithmeticException" "java/lang/Throwable" "suppressedExceptions" "Ljava/util/List;") ∈ lw_tbl := tk_5 (List.mem_of_getElem? (i := 107) (by decide +kernel))
theorem tw_1068 : (Cond.lays "java/lang/ArithmeticException" "java/lang/Throwable" "detailMessage" "Ljava/lang/String;") ∈ lw_tbl := tk_5 (List.mem_of_getElem? (i := 108) (by decide +kernel))
theorem tw_1069 : (Cond.lays "java/lang/ArithmeticException" "java/lang/Throwable" "backtrace" "Ljava/lang/Object;") ∈ lw_tbl := tk_5 (List.mem_of_getElem? (i := 109) (by decide +kernel))
theorem tw_1070 : (Cond.methodLink "EchoCouncil" 374 ⟨"java/lang/ArithmeticException", "<init>", "(Ljava/lang/String;)V"⟩) ∈ lw_tbl := tk_5 (List.mem_of_getElem? (i := 110) (by decide +kernel))
theorem tw_1071 : (Cond.instanceMethod ⟨"java/lang/ArithmeticException", "<init>", "(Ljava/lang/String;)V"⟩) ∈ lw_tbl := tk_5 (List.mem_of_getElem? (i := 111) (by decide +kernel))
theorem tw_1072 : (Cond.code ⟨"java/lang/ArithmeticException", "<init>", "(Ljava/lang/String;)V"⟩ prog_16_method_2_code 2 none) ∈ lw_tbl := tk_5 (List.mem_of_getElem? (i := 112) (by decide +kernel))
theorem tw_1073 : (Cond.methodLink "java/lang/ArithmeticException" 7 ⟨"java/lang/RuntimeException", "<init>", "(Ljava/lang/String;)V"⟩) ∈ lw_tbl := tk_5 (List.mem_of_getElem? (i := 113) (by decide +kernel))
theorem tw_1074 : (Cond.lays "java/lang/ArithmeticException" "java/lang/Throwable" "depth" "I") ∈ lw_tbl := tk_5 (List.mem_of_getElem? (i := 114) (by decide +kernel))
theorem tw_1075 : (Cond.superclass "java/lang/ArithmeticException" "java/lang/RuntimeException") ∈ lw_tbl := tk_5 (List.mem_of_getElem? (i := 115) (by decide +kernel))
theorem tw_1076 : (Cond.methodLink "EchoCouncilLaw" 259 ⟨"EchoCouncilLaw", "areEchoesRight", "(LEchoCouncil;)Z"⟩) ∈ lw_tbl := tk_5 (List.mem_of_getElem? (i := 116) (by decide +kernel))
theorem tw_1077 : (Cond.static ⟨"EchoCouncilLaw", "areEchoesRight", "(LEchoCouncil;)Z"⟩) ∈ lw_tbl := tk_5 (List.mem_of_getElem? (i := 117) (by decide +kernel))
theorem tw_1078 : (Cond.code ⟨"EchoCouncilLaw", "areEchoesRight", "(LEchoCouncil;)Z"⟩ method_17_code 12 (some FieldType.boolean)) ∈ lw_tbl := tk_5 (List.mem_of_getElem? (i := 118) (by decide +kernel))
theorem tw_1079 : (Cond.methodLink "EchoCouncilLaw" 178 ⟨"EchoCouncilLaw", "backOf", "(LEchoCouncil;I)I"⟩) ∈ lw_tbl := tk_5 (List.mem_of_getElem? (i := 119) (by decide +kernel))
theorem tw_1080 : (Cond.static ⟨"EchoCouncilLaw", "backOf", "(LEchoCouncil;I)I"⟩) ∈ lw_tbl := tk_5 (List.mem_of_getElem? (i := 120) (by decide +kernel))
theorem tw_1081 : (Cond.code ⟨"EchoCouncilLaw", "backOf", "(LEchoCouncil;I)I"⟩ method_13_code 2 (some FieldType.int)) ∈ lw_tbl := tk_5 (List.mem_of_getElem? (i := 121) (by decide +kernel))
theorem tw_1082 : (Cond.methodLink "EchoCouncilLaw" 181 ⟨"EchoCouncil", "isTold", "()Z"⟩) ∈ lw_tbl := tk_5 (List.mem_of_getElem? (i := 122) (by decide +kernel))
theorem tw_1083 : (Cond.instanceMethod ⟨"EchoCouncil", "isTold", "()Z"⟩) ∈ lw_tbl := tk_5 (List.mem_of_getElem? (i := 123) (by decide +kernel))
theorem tw_1084 : (Cond.selects "EchoCouncil" ⟨"EchoCouncil", "isTold", "()Z"⟩ ⟨"EchoCouncil", "isTold", "()Z"⟩) ∈ lw_tbl := tk_5 (List.mem_of_getElem? (i := 124) (by decide +kernel))
theorem tw_1085 : (Cond.code ⟨"EchoCouncil", "isTold", "()Z"⟩ prog_1_method_30_code 2 (some FieldType.boolean)) ∈ lw_tbl := tk_5 (List.mem_of_getElem? (i := 125) (by decide +kernel))
theorem tw_1086 : (Cond.methodLink "EchoCouncil" 253 ⟨"EchoCouncil", "bothWaysAgree", "(I)Z"⟩) ∈ lw_tbl := tk_5 (List.mem_of_getElem? (i := 126) (by decide +kernel))
theorem tw_1087 : (Cond.privateMethod ⟨"EchoCouncil", "bothWaysAgree", "(I)Z"⟩) ∈ lw_tbl := tk_5 (List.mem_of_getElem? (i := 127) (by decide +kernel))
theorem tw_1088 : (Cond.instanceMethod ⟨"EchoCouncil", "bothWaysAgree", "(I)Z"⟩) ∈ lw_tbl := tk_5 (List.mem_of_getElem? (i := 128) (by decide +kernel))
theorem tw_1089 : (Cond.code ⟨"EchoCouncil", "bothWaysAgree", "(I)Z"⟩ prog_1_method_62_code 2 (some FieldType.boolean)) ∈ lw_tbl := tk_5 (List.mem_of_getElem? (i := 129) (by decide +kernel))
theorem tw_1090 : (Cond.methodLink "EchoCouncilLaw" 185 ⟨"EchoCouncil", "letShare", "()F"⟩) ∈ lw_tbl := tk_5 (List.mem_of_getElem? (i := 130) (by decide +kernel))
theorem tw_1091 : (Cond.instanceMethod ⟨"EchoCouncil", "letShare", "()F"⟩) ∈ lw_tbl := tk_5 (List.mem_of_getElem? (i := 131) (by decide +kernel))
theorem tw_1092 : (Cond.selects "EchoCouncil" ⟨"EchoCouncil", "letShare", "()F"⟩ ⟨"EchoCouncil", "letShare", "()F"⟩) ∈ lw_tbl := tk_5 (List.mem_of_getElem? (i := 132) (by decide +kernel))
theorem tw_1093 : (Cond.code ⟨"EchoCouncil", "letShare", "()F"⟩ prog_1_method_41_code 1 (some FieldType.float)) ∈ lw_tbl := tk_5 (List.mem_of_getElem? (i := 133) (by decide +kernel))
theorem tw_1094 : (Cond.stringRef "EchoCouncil" 375 "there are no echoes") ∈ lw_tbl := tk_5 (List.mem_of_getElem? (i := 134) (by decide +kernel))
theorem tw_1095 : (Cond.methodLink "EchoCouncilLaw" 262 ⟨"EchoCouncilLaw", "areRanksRight", "(LEchoCouncil;)Z"⟩) ∈ lw_tbl := tk_5 (List.mem_of_getElem? (i := 135) (by decide +kernel))
theorem tw_1096 : (Cond.static ⟨"EchoCouncilLaw", "areRanksRight", "(LEchoCouncil;)Z"⟩) ∈ lw_tbl := tk_5 (List.mem_of_getElem? (i := 136) (by decide +kernel))
theorem tw_1097 : (Cond.code ⟨"EchoCouncilLaw", "areRanksRight", "(LEchoCouncil;)Z"⟩ method_19_code 7 (some FieldType.boolean)) ∈ lw_tbl := tk_5 (List.mem_of_getElem? (i := 137) (by decide +kernel))
theorem tw_1098 : (Cond.methodLink "EchoCouncilLaw" 189 ⟨"EchoCouncilLaw", "rank", "(LEchoCouncil;II)I"⟩) ∈ lw_tbl := tk_5 (List.mem_of_getElem? (i := 138) (by decide +kernel))
theorem tw_1099 : (Cond.static ⟨"EchoCouncilLaw", "rank", "(LEchoCouncil;II)I"⟩) ∈ lw_tbl := tk_5 (List.mem_of_getElem? (i := 139) (by decide +kernel))
theorem tw_1100 : (Cond.code ⟨"EchoCouncilLaw", "rank", "(LEchoCouncil;II)I"⟩ method_18_code 3 (some FieldType.int)) ∈ lw_tbl := tk_5 (List.mem_of_getElem? (i := 140) (by decide +kernel))
theorem tw_1101 : (Cond.methodLink "EchoCouncilLaw" 265 ⟨"EchoCouncilLaw", "areLinesRight", "(LEchoCouncil;)Z"⟩) ∈ lw_tbl := tk_5 (List.mem_of_getElem? (i := 141) (by decide +kernel))
theorem tw_1102 : (Cond.static ⟨"EchoCouncilLaw", "areLinesRight", "(LEchoCouncil;)Z"⟩) ∈ lw_tbl := tk_5 (List.mem_of_getElem? (i := 142) (by decide +kernel))
theorem tw_1103 : (Cond.code ⟨"EchoCouncilLaw", "areLinesRight", "(LEchoCouncil;)Z"⟩ method_21_code 5 (some FieldType.boolean)) ∈ lw_tbl := tk_5 (List.mem_of_getElem? (i := 143) (by decide +kernel))
theorem tw_1104 : (Cond.classLink "EchoCouncilLaw" 196 "java/lang/StringBuilder") ∈ lw_tbl := tk_5 (List.mem_of_getElem? (i := 144) (by decide +kernel))
theorem tw_1105 : (Cond.methodLink "EchoCouncilLaw" 198 ⟨"java/lang/StringBuilder", "<init>", "()V"⟩) ∈ lw_tbl := tk_5 (List.mem_of_getElem? (i := 145) (by decide +kernel))
theorem tw_1106 : (Cond.methodLink "EchoCouncilLaw" 199 ⟨"java/lang/StringBuilder", "append", "(I)Ljava/lang/StringBuilder;"⟩) ∈ lw_tbl := tk_5 (List.mem_of_getElem? (i := 146) (by decide +kernel))
theorem tw_1107 : (Cond.instanceMethod ⟨"java/lang/StringBuilder", "append", "(I)Ljava/lang/StringBuilder;"⟩) ∈ lw_tbl := tk_5 (List.mem_of_getElem? (i := 147) (by decide +kernel))
theorem tw_1108 : (Cond.selects "java/lang/StringBuilder" ⟨"java/lang/StringBuilder", "append", "(I)Ljava/lang/StringBuilder;"⟩ ⟨"java/lang/StringBuilder", "append", "(I)Ljava/lang/StringBuilder;"⟩) ∈ lw_tbl := tk_5 (List.mem_of_getElem? (i := 148) (by decide +kernel))
theorem tw_1109 : (Cond.code ⟨"java/lang/StringBuilder", "append", "(I)Ljava/lang/StringBuilder;"⟩ prog_30_method_15_code 2 (Option.some (FieldType.object "java/lang/StringBuilder"))) ∈ lw_tbl := tk_5 (List.mem_of_getElem? (i := 149) (by decide +kernel))
theorem tw_1110 : (Cond.methodLink "java/lang/StringBuilder" 53 ⟨"java/lang/AbstractStringBuilder", "append", "(I)Ljava/lang/AbstractStringBuilder;"⟩) ∈ lw_tbl := tk_5 (List.mem_of_getElem? (i := 150) (by decide +kernel))
theorem tw_1111 : (Cond.instanceMethod ⟨"java/lang/AbstractStringBuilder", "append", "(I)Ljava/lang/AbstractStringBuilder;"⟩) ∈ lw_tbl := tk_5 (List.mem_of_getElem? (i := 151) (by decide +kernel))
theorem tw_1112 : (Cond.code ⟨"java/lang/AbstractStringBuilder", "append", "(I)Ljava/lang/AbstractStringBuilder;"⟩ prog_14_method_32_code 4 (Option.some (FieldType.object "java/lang/AbstractStringBuilder"))) ∈ lw_tbl := tk_5 (List.mem_of_getElem? (i := 152) (by decide +kernel))
theorem tw_1113 : (Cond.methodLink "java/lang/AbstractStringBuilder" 245 ⟨"java/lang/Integer", "stringSize", "(I)I"⟩) ∈ lw_tbl := tk_5 (List.mem_of_getElem? (i := 153) (by decide +kernel))
theorem tw_1114 : (Cond.static ⟨"java/lang/Integer", "stringSize", "(I)I"⟩) ∈ lw_tbl := tk_5 (List.mem_of_getElem? (i := 154) (by decide +kernel))
theorem tw_1115 : (Cond.code ⟨"java/lang/Integer", "stringSize", "(I)I"⟩ prog_25_method_13_code 4 (some FieldType.int)) ∈ lw_tbl := tk_5 (List.mem_of_getElem? (i := 155) (by decide +kernel))
theorem tw_1116 : (Cond.methodLink "java/lang/AbstractStringBuilder" 100 ⟨"java/lang/AbstractStringBuilder", "ensureCapacityInternal", "(I)V"⟩) ∈ lw_tbl := tk_5 (List.mem_of_getElem? (i := 156) (by decide +kernel))
theorem tw_1117 : (Cond.privateMethod ⟨"java/lang/AbstractStringBuilder", "ensureCapacityInternal", "(I)V"⟩) ∈ lw_tbl := tk_5 (List.mem_of_getElem? (i := 157) (by decide +kernel))
theorem tw_1118 : (Cond.instanceMethod ⟨"java/lang/AbstractStringBuilder", "ensureCapacityInternal", "(I)V"⟩) ∈ lw_tbl := tk_5 (List.mem_of_getElem? (i := 158) (by decide +kernel))
theorem tw_1119 : (Cond.code ⟨"java/lang/AbstractStringBuilder", "ensureCapacityInternal", "(I)V"⟩ prog_14_method_9_code 3 none) ∈ lw_tbl := tk_5 (List.mem_of_getElem? (i := 159) (by decide +kernel))
theorem tw_1120 : (Cond.methodLink "java/lang/AbstractStringBuilder" 104 ⟨"java/lang/AbstractStringBuilder", "newCapacity", "(I)I"⟩) ∈ lw_tbl := tk_5 (List.mem_of_getElem? (i := 160) (by decide +kernel))
theorem tw_1121 : (Cond.privateMethod ⟨"java/lang/AbstractStringBuilder", "newCapacity", "(I)I"⟩) ∈ lw_tbl := tk_5 (List.mem_of_getElem? (i := 161) (by decide +kernel))
theorem tw_1122 : (Cond.instanceMethod ⟨"java/lang/AbstractStringBuilder", "newCapacity", "(I)I"⟩) ∈ lw_tbl := tk_5 (List.mem_of_getElem? (i := 162) (by decide +kernel))
theorem tw_1123 : (Cond.code ⟨"java/lang/AbstractStringBuilder", "newCapacity", "(I)I"⟩ prog_14_method_10_code 6 (some FieldType.int)) ∈ lw_tbl := tk_5 (List.mem_of_getElem? (i := 163) (by decide +kernel))
theorem tw_1124 : (Cond.methodLink "java/lang/AbstractStringBuilder" 114 ⟨"jdk/internal/util/ArraysSupport", "newLength", "(III)I"⟩) ∈ lw_tbl := tk_5 (List.mem_of_getElem? (i := 164) (by decide +kernel))
theorem tw_1125 : (Cond.static ⟨"jdk/internal/util/ArraysSupport", "newLength", "(III)I"⟩) ∈ lw_tbl := tk_5 (List.mem_of_getElem? (i := 165) (by decide +kernel))
theorem tw_1126 : (Cond.code ⟨"jdk/internal/util/ArraysSupport", "newLength", "(III)I"⟩ prog_41_method_27_code 4 (some FieldType.int)) ∈ lw_tbl := tk_5 (List.mem_of_getElem? (i := 166) (by decide +kernel))
theorem tw_1127 : (Cond.methodLink "jdk/internal/util/ArraysSupport" 194 ⟨"java/lang/Math", "max", "(II)I"⟩) ∈ lw_tbl := tk_5 (List.mem_of_getElem? (i := 167) (by decide +kernel))
theorem tw_1128 : (Cond.constant "jdk/internal/util/ArraysSupport" 200 (2147483639 : Int32)) ∈ lw_tbl := tk_5 (List.mem_of_getElem? (i := 168) (by decide +kernel))
theorem tw_1129 : (Cond.methodLink "jdk/internal/util/ArraysSupport" 201 ⟨"jdk/internal/util/ArraysSupport", "hugeLength", "(II)I"⟩) ∈ lw_tbl := tk_5 (List.mem_of_getElem? (i := 169) (by decide +kernel))
theorem tw_1130 : (Cond.static ⟨"jdk/internal/util/ArraysSupport", "hugeLength", "(II)I"⟩) ∈ lw_tbl := tk_5 (List.mem_of_getElem? (i := 170) (by decide +kernel))
theorem tw_1131 : (Cond.code ⟨"jdk/internal/util/ArraysSupport", "hugeLength", "(II)I"⟩ prog_41_method_28_code 3 (some FieldType.int)) ∈ lw_tbl := tk_5 (List.mem_of_getElem? (i := 171) (by decide +kernel))
theorem tw_1132 : (Cond.constant "java/lang/AbstractStringBuilder" 39 (2147483647 : Int32)) ∈ lw_tbl := tk_5 (List.mem_of_getElem? (i := 172) (by decide +kernel))
theorem tw_1133 : (Cond.methodLink "java/lang/AbstractStringBuilder" 108 ⟨"java/util/Arrays", "copyOf", "([BI)[B"⟩) ∈ lw_tbl := tk_5 (List.mem_of_getElem? (i := 173) (by decide +kernel))
theorem tw_1134 : (Cond.static ⟨"java/util/Arrays", "copyOf", "([BI)[B"⟩) ∈ lw_tbl := tk_5 (List.mem_of_getElem? (i := 174) (by decide +kernel))
theorem tw_1135 : (Cond.code ⟨"java/util/Arrays", "copyOf", "([BI)[B"⟩ prog_39_method_121_code 3 (Option.some (FieldType.array FieldType.byte))) ∈ lw_tbl := tk_5 (List.mem_of_getElem? (i := 175) (by decide +kernel))
theorem tw_1136 : (Cond.methodLink "java/util/Arrays" 310 ⟨"[B", "clone", "()Ljava/lang/Object;"⟩) ∈ lw_tbl := tk_5 (List.mem_of_getElem? (i := 176) (by decide +kernel))
theorem tw_1137 : (Cond.sameMethod "[B" "java/lang/Object" "clone" "()Ljava/lang/Object;") ∈ lw_tbl := tk_5 (List.mem_of_getElem? (i := 177) (by decide +kernel))
theorem tw_1138 : (Cond.native ⟨"java/lang/Object", "clone", "()Ljava/lang/Object;"⟩) ∈ lw_tbl := tk_5 (List.mem_of_getElem? (i := 178) (by decide +kernel))
theorem tw_1139 : (Cond.instanceMethod ⟨"java/lang/Object", "clone", "()Ljava/lang/Object;"⟩) ∈ lw_tbl := tk_5 (List.mem_of_getElem? (i := 179) (by decide +kernel))
theorem tw_1140 : (Cond.selects "[B" ⟨"[B", "clone", "()Ljava/lang/Object;"⟩ ⟨"java/lang/Object", "clone", "()Ljava/lang/Object;"⟩) ∈ lw_tbl := tk_5 (List.mem_of_getElem? (i := 180) (by decide +kernel))
theorem tw_1141 : (Cond.castable "[B" "java/lang/Cloneable") ∈ lw_tbl := tk_5 (List.mem_of_getElem? (i := 181) (by decide +kernel))
theorem tw_1142 : (Cond.classLink "java/util/Arrays" 311 "[B") ∈ lw_tbl := tk_5 (List.mem_of_getElem? (i := 182) (by decide +kernel))
theorem tw_1143 : (Cond.methodLink "java/util/Arrays" 304 ⟨"java/lang/Math", "min", "(II)I"⟩) ∈ lw_tbl := tk_5 (List.mem_of_getElem? (i := 183) (by decide +kernel))
theorem tw_1144 : (Cond.methodLink "java/util/Arrays" 150 ⟨"java/lang/System", "arraycopy", "(Ljava/lang/Object;ILjava/lang/Object;II)V"⟩) ∈ lw_tbl := tk_5 (List.mem_of_getElem? (i := 184) (by decide +kernel))
theorem tw_1145 : (Cond.methodLink "java/lang/AbstractStringBuilder" 83 ⟨"java/lang/AbstractStringBuilder", "isLatin1", "()Z"⟩) ∈ lw_tbl := tk_5 (List.mem_of_getElem? (i := 185) (by decide +kernel))
theorem tw_1146 : (Cond.instanceMethod ⟨"java/lang/AbstractStringBuilder", "isLatin1", "()Z"⟩) ∈ lw_tbl := tk_5 (List.mem_of_getElem? (i := 186) (by decide +kernel))
theorem tw_1147 : (Cond.sameMethod "java/lang/AbstractStringBuilder" "java/lang/AbstractStringBuilder" "isLatin1" "()Z") ∈ lw_tbl := tk_5 (List.mem_of_getElem? (i := 187) (by decide +kernel))
theorem tw_1148 : (Cond.selects "java/lang/StringBuilder" ⟨"java/lang/AbstractStringBuilder", "isLatin1", "()Z"⟩ ⟨"java/lang/AbstractStringBuilder", "isLatin1", "()Z"⟩) ∈ lw_tbl := tk_5 (List.mem_of_getElem? (i := 188) (by decide +kernel))
theorem tw_1149 : (Cond.code ⟨"java/lang/AbstractStringBuilder", "isLatin1", "()Z"⟩ prog_14_method_68_code 1 (some FieldType.boolean)) ∈ lw_tbl := tk_5 (List.mem_of_getElem? (i := 189) (by decide +kernel))
theorem tw_1150 : (Cond.methodLink "java/lang/AbstractStringBuilder" 248 ⟨"java/lang/Integer", "getChars", "(II[B)I"⟩) ∈ lw_tbl := tk_5 (List.mem_of_getElem? (i := 190) (by decide +kernel))
theorem tw_1151 : (Cond.static ⟨"java/lang/Integer", "getChars", "(II[B)I"⟩) ∈ lw_tbl := tk_5 (List.mem_of_getElem? (i := 191) (by decide +kernel))
theorem tw_1152 : (Cond.code ⟨"java/lang/Integer", "getChars", "(II[B)I"⟩ prog_25_method_12_code 7 (some FieldType.int)) ∈ lw_tbl := tk_5 (List.mem_of_getElem? (i := 192) (by decide +kernel))
theorem tw_1153 : (Cond.fieldLink "java/lang/Integer" 83 "java/lang/Integer" "DigitOnes" "[B") ∈ lw_tbl := tk_5 (List.mem_of_getElem? (i := 193) (by decide +kernel))
theorem tw_1154 : (Cond.laysStatic "java/lang/Integer" "DigitOnes" "[B") ∈ lw_tbl := tk_5 (List.mem_of_getElem? (i := 194) (by decide +kernel))
theorem tw_1155 : (Cond.fieldLink "java/lang/Integer" 87 "java/lang/Integer" "DigitTens" "[B") ∈ lw_tbl := tk_5 (List.mem_of_getElem? (i := 195) (by decide +kernel))
theorem tw_1156 : (Cond.laysStatic "java/lang/Integer" "DigitTens" "[B") ∈ lw_tbl := tk_5 (List.mem_of_getElem? (i := 196) (by decide +kernel))
theorem tw_1157 : (Cond.methodLink "java/lang/AbstractStringBuilder" 251 ⟨"java/lang/StringUTF16", "getChars", "(III[B)I"⟩) ∈ lw_tbl := tk_5 (List.mem_of_getElem? (i := 197) (by decide +kernel))
theorem tw_1158 : (Cond.static ⟨"java/lang/StringUTF16", "getChars", "(III[B)I"⟩) ∈ lw_tbl := tk_5 (List.mem_of_getElem? (i := 198) (by decide +kernel))
theorem tw_1159 : (Cond.code ⟨"java/lang/StringUTF16", "getChars", "(III[B)I"⟩ prog_33_method_77_code 5 (some FieldType.int)) ∈ lw_tbl := tk_5 (List.mem_of_getElem? (i := 199) (by decide +kernel))
theorem tw_1160 : (Cond.methodLink "java/lang/StringUTF16" 96 ⟨"java/lang/StringUTF16", "checkBoundsBeginEnd", "(II[B)V"⟩) ∈ lw_tbl := tk_5 (List.mem_of_getElem? (i := 200) (by decide +kernel))
theorem tw_1161 : (Cond.static ⟨"java/lang/StringUTF16", "checkBoundsBeginEnd", "(II[B)V"⟩) ∈ lw_tbl := tk_5 (List.mem_of_getElem? (i := 201) (by decide +kernel))
theorem tw_1162 : (Cond.code ⟨"java/lang/StringUTF16", "checkBoundsBeginEnd", "(II[B)V"⟩ prog_33_method_93_code 3 none) ∈ lw_tbl := tk_5 (List.mem_of_getElem? (i := 202) (by decide +kernel))
theorem tw_1163 : (Cond.methodLink "java/lang/StringUTF16" 241 ⟨"java/lang/String", "checkBoundsBeginEnd", "(III)V"⟩) ∈ lw_tbl := tk_5 (List.mem_of_getElem? (i := 203) (by decide +kernel))
theorem tw_1164 : (Cond.static ⟨"java/lang/String", "checkBoundsBeginEnd", "(III)V"⟩) ∈ lw_tbl := tk_5 (List.mem_of_getElem? (i := 204) (by decide +kernel))
theorem tw_1165 : (Cond.code ⟨"java/lang/String", "checkBoundsBeginEnd", "(III)V"⟩ prog_29_method_158_code 3 none) ∈ lw_tbl := tk_5 (List.mem_of_getElem? (i := 205) (by decide +kernel))
theorem tw_1166 : (Cond.methodLink "java/lang/String" 1062 ⟨"jdk/internal/util/Preconditions", "checkFromToIndex", "(IIILjava/util/function/BiFunction;)I"⟩) ∈ lw_tbl := tk_5 (List.mem_of_getElem? (i := 206) (by decide +kernel))
theorem tw_1167 : (Cond.static ⟨"jdk/internal/util/Preconditions", "checkFromToIndex", "(IIILjava/util/function/BiFunction;)I"⟩) ∈ lw_tbl := tk_5 (List.mem_of_getElem? (i := 207) (by decide +kernel))
theorem tw_1168 : (Cond.code ⟨"jdk/internal/util/Preconditions", "checkFromToIndex", "(IIILjava/util/function/BiFunction;)I"⟩ prog_42_method_12_code 4 (some FieldType.int)) ∈ lw_tbl := tk_5 (List.mem_of_getElem? (i := 208) (by decide +kernel))
theorem tw_1169 : (Cond.methodLink "java/lang/StringUTF16" 393 ⟨"java/lang/StringUTF16", "getChars", "(II[B)I"⟩) ∈ lw_tbl := tk_5 (List.mem_of_getElem? (i := 209) (by decide +kernel))
theorem tw_1170 : (Cond.static ⟨"java/lang/StringUTF16", "getChars", "(II[B)I"⟩) ∈ lw_tbl := tk_5 (List.mem_of_getElem? (i := 210) (by decide +kernel))
theorem tw_1171 : (Cond.code ⟨"java/lang/StringUTF16", "getChars", "(II[B)I"⟩ prog_33_method_89_code 7 (some FieldType.int)) ∈ lw_tbl := tk_5 (List.mem_of_getElem? (i := 211) (by decide +kernel))
theorem tw_1172 : (Cond.fieldLink "java/lang/StringUTF16" 403 "java/lang/Integer" "DigitOnes" "[B") ∈ lw_tbl := tk_5 (List.mem_of_getElem? (i := 212) (by decide +kernel))
theorem tw_1173 : (Cond.methodLink "java/lang/StringUTF16" 111 ⟨"java/lang/StringUTF16", "putChar", "([BII)V"⟩) ∈ lw_tbl := tk_5 (List.mem_of_getElem? (i := 213) (by decide +kernel))
theorem tw_1174 : (Cond.static ⟨"java/lang/StringUTF16", "putChar", "([BII)V"⟩) ∈ lw_tbl := tk_5 (List.mem_of_getElem? (i := 214) (by decide +kernel))
theorem tw_1175 : (Cond.code ⟨"java/lang/StringUTF16", "putChar", "([BII)V"⟩ prog_33_method_4_code 3 none) ∈ lw_tbl := tk_5 (List.mem_of_getElem? (i := 215) (by decide +kernel))
theorem tw_1176 : (Cond.fieldLink "java/lang/StringUTF16" 407 "java/lang/Integer" "DigitTens" "[B") ∈ lw_tbl := tk_5 (List.mem_of_getElem? (i := 216) (by decide +kernel))
theorem tw_1177 : (Cond.stringRef "EchoCouncilLaw" 202 "[") ∈ lw_tbl := tk_5 (List.mem_of_getElem? (i := 217) (by decide +kernel))
theorem tw_1178 : (Cond.methodLink "EchoCouncilLaw" 204 ⟨"java/lang/StringBuilder", "append", "(Ljava/lang/String;)Ljava/lang/StringBuilder;"⟩) ∈ lw_tbl := tk_5 (List.mem_of_getElem? (i := 218) (by decide +kernel))
theorem tw_1179 : (Cond.instanceMethod ⟨"java/lang/StringBuilder", "append", "(Ljava/lang/String;)Ljava/lang/StringBuilder;"⟩) ∈ lw_tbl := tk_5 (List.mem_of_getElem? (i := 219) (by decide +kernel))
theorem tw_1180 : (Cond.selects "java/lang/StringBuilder" ⟨"java/lang/StringBuilder", "append", "(Ljava/lang/String;)Ljava/lang/StringBuilder;"⟩ ⟨"java/lang/StringBuilder", "append", "(Ljava/lang/String;)Ljava/lang/StringBuilder;"⟩) ∈ lw_tbl := tk_5 (List.mem_of_getElem? (i := 220) (by decide +kernel))
theorem tw_1181 : (Cond.code ⟨"java/lang/StringBuilder", "append", "(Ljava/lang/String;)Ljava/lang/StringBuilder;"⟩ prog_30_method_7_code 2 (Option.some (FieldType.object "java/lang/StringBuilder"))) ∈ lw_tbl := tk_5 (List.mem_of_getElem? (i := 221) (by decide +kernel))
theorem tw_1182 : (Cond.methodLink "java/lang/StringBuilder" 29 ⟨"java/lang/AbstractStringBuilder", "append", "(Ljava/lang/String;)Ljava/lang/AbstractStringBuilder;"⟩) ∈ lw_tbl := tk_5 (List.mem_of_getElem? (i := 222) (by decide +kernel))
theorem tw_1183 : (Cond.instanceMethod ⟨"java/lang/AbstractStringBuilder", "append", "(Ljava/lang/String;)Ljava/lang/AbstractStringBuilder;"⟩) ∈ lw_tbl := tk_5 (List.mem_of_getElem? (i := 223) (by decide +kernel))
theorem tw_1184 : (Cond.code ⟨"java/lang/AbstractStringBuilder", "append", "(Ljava/lang/String;)Ljava/lang/AbstractStringBuilder;"⟩ prog_14_method_22_code 3 (Option.some (FieldType.object "java/lang/AbstractStringBuilder"))) ∈ lw_tbl := tk_5 (List.mem_of_getElem? (i := 224) (by decide +kernel))
theorem tw_1185 : (Cond.methodLink "java/lang/AbstractStringBuilder" 204 ⟨"java/lang/AbstractStringBuilder", "appendNull", "()Ljava/lang/AbstractStringBuilder;"⟩) ∈ lw_tbl := tk_5 (List.mem_of_getElem? (i := 225) (by decide +kernel))
theorem tw_1186 : (Cond.privateMethod ⟨"java/lang/AbstractStringBuilder", "appendNull", "()Ljava/lang/AbstractStringBuilder;"⟩) ∈ lw_tbl := tk_5 (List.mem_of_getElem? (i := 226) (by decide +kernel))
theorem tw_1187 : (Cond.instanceMethod ⟨"java/lang/AbstractStringBuilder", "appendNull", "()Ljava/lang/AbstractStringBuilder;"⟩) ∈ lw_tbl := tk_5 (List.mem_of_getElem? (i := 227) (by decide +kernel))
theorem tw_1188 : (Cond.code ⟨"java/lang/AbstractStringBuilder", "appendNull", "()Ljava/lang/AbstractStringBuilder;"⟩ prog_14_method_26_code 3 (Option.some (FieldType.object "java/lang/AbstractStringBuilder"))) ∈ lw_tbl := tk_5 (List.mem_of_getElem? (i := 228) (by decide +kernel))
theorem tw_1189 : (Cond.methodLink "java/lang/AbstractStringBuilder" 226 ⟨"java/lang/StringUTF16", "putCharsAt", "([BICCCC)I"⟩) ∈ lw_tbl := tk_5 (List.mem_of_getElem? (i := 229) (by decide +kernel))
theorem tw_1190 : (Cond.static ⟨"java/lang/StringUTF16", "putCharsAt", "([BICCCC)I"⟩) ∈ lw_tbl := tk_5 (List.mem_of_getElem? (i := 230) (by decide +kernel))
theorem tw_1191 : (Cond.code ⟨"java/lang/StringUTF16", "putCharsAt", "([BICCCC)I"⟩ prog_33_method_81_code 7 (some FieldType.int)) ∈ lw_tbl := tk_5 (List.mem_of_getElem? (i := 231) (by decide +kernel))
theorem tw_1192 : (Cond.methodLink "java/lang/AbstractStringBuilder" 32 ⟨"java/lang/String", "length", "()I"⟩) ∈ lw_tbl := tk_5 (List.mem_of_getElem? (i := 232) (by decide +kernel))
theorem tw_1193 : (Cond.methodLink "java/lang/AbstractStringBuilder" 208 ⟨"java/lang/AbstractStringBuilder", "putStringAt", "(ILjava/lang/String;)V"⟩) ∈ lw_tbl := tk_5 (List.mem_of_getElem? (i := 233) (by decide +kernel))
theorem tw_1194 : (Cond.privateMethod ⟨"java/lang/AbstractStringBuilder", "putStringAt", "(ILjava/lang/String;)V"⟩) ∈ lw_tbl := tk_5 (List.mem_of_getElem? (i := 234) (by decide +kernel))
theorem tw_1195 : (Cond.instanceMethod ⟨"java/lang/AbstractStringBuilder", "putStringAt", "(ILjava/lang/String;)V"⟩) ∈ lw_tbl := tk_5 (List.mem_of_getElem? (i := 235) (by decide +kernel))
theorem tw_1196 : (Cond.code ⟨"java/lang/AbstractStringBuilder", "putStringAt", "(ILjava/lang/String;)V"⟩ prog_14_method_73_code 3 none) ∈ lw_tbl := tk_5 (List.mem_of_getElem? (i := 236) (by decide +kernel))
theorem tw_1197 : (Cond.methodLink "java/lang/AbstractStringBuilder" 397 ⟨"java/lang/AbstractStringBuilder", "inflateIfNeededFor", "(Ljava/lang/String;)V"⟩) ∈ lw_tbl := tk_5 (List.mem_of_getElem? (i := 237) (by decide +kernel))
theorem tw_1198 : (Cond.privateMethod ⟨"java/lang/AbstractStringBuilder", "inflateIfNeededFor", "(Ljava/lang/String;)V"⟩) ∈ lw_tbl := tk_5 (List.mem_of_getElem? (i := 238) (by decide +kernel))
theorem tw_1199 : (Cond.instanceMethod ⟨"java/lang/AbstractStringBuilder", "inflateIfNeededFor", "(Ljava/lang/String;)V"⟩) ∈ lw_tbl := tk_5 (List.mem_of_getElem? (i := 239) (by decide +kernel))
theorem tw_1200 : (Cond.code ⟨"java/lang/AbstractStringBuilder", "inflateIfNeededFor", "(Ljava/lang/String;)V"⟩ prog_14_method_71_code 2 none) ∈ lw_tbl := tk_6 (List.mem_of_getElem? (i := 0) (by decide +kernel))
theorem tw_1201 : (Cond.methodLink "java/lang/AbstractStringBuilder" 40 ⟨"java/lang/String", "coder", "()B"⟩) ∈ lw_tbl := tk_6 (List.mem_of_getElem? (i := 1) (by decide +kernel))
theorem tw_1202 : (Cond.methodLink "java/lang/AbstractStringBuilder" 195 ⟨"java/lang/AbstractStringBuilder", "inflate", "()V"⟩) ∈ lw_tbl := tk_6 (List.mem_of_getElem? (i := 2) (by decide +kernel))
theorem tw_1203 : (Cond.privateMethod ⟨"java/lang/AbstractStringBuilder", "inflate", "()V"⟩) ∈ lw_tbl := tk_6 (List.mem_of_getElem? (i := 3) (by decide +kernel))
theorem tw_1204 : (Cond.instanceMethod ⟨"java/lang/AbstractStringBuilder", "inflate", "()V"⟩) ∈ lw_tbl := tk_6 (List.mem_of_getElem? (i := 4) (by decide +kernel))
theorem tw_1205 : (Cond.code ⟨"java/lang/AbstractStringBuilder", "inflate", "()V"⟩ prog_14_method_11_code 2 none) ∈ lw_tbl := tk_6 (List.mem_of_getElem? (i := 5) (by decide +kernel))
theorem tw_1206 : (Cond.methodLink "java/lang/AbstractStringBuilder" 125 ⟨"java/lang/StringLatin1", "inflate", "([BI[BII)V"⟩) ∈ lw_tbl := tk_6 (List.mem_of_getElem? (i := 6) (by decide +kernel))
theorem tw_1207 : (Cond.static ⟨"java/lang/StringLatin1", "inflate", "([BI[BII)V"⟩) ∈ lw_tbl := tk_6 (List.mem_of_getElem? (i := 7) (by decide +kernel))
theorem tw_1208 : (Cond.code ⟨"java/lang/StringLatin1", "inflate", "([BI[BII)V"⟩ prog_32_method_50_code 5 none) ∈ lw_tbl := tk_6 (List.mem_of_getElem? (i := 8) (by decide +kernel))
theorem tw_1209 : (Cond.methodLink "java/lang/StringLatin1" 240 ⟨"java/lang/StringUTF16", "inflate", "([BI[BII)V"⟩) ∈ lw_tbl := tk_6 (List.mem_of_getElem? (i := 9) (by decide +kernel))
theorem tw_1210 : (Cond.static ⟨"java/lang/StringUTF16", "inflate", "([BI[BII)V"⟩) ∈ lw_tbl := tk_6 (List.mem_of_getElem? (i := 10) (by decide +kernel))
theorem tw_1211 : (Cond.code ⟨"java/lang/StringUTF16", "inflate", "([BI[BII)V"⟩ prog_33_method_86_code 6 none) ∈ lw_tbl := tk_6 (List.mem_of_getElem? (i := 11) (by decide +kernel))
theorem tw_1212 : (Cond.methodLink "java/lang/StringUTF16" 173 ⟨"java/lang/StringUTF16", "checkBoundsOffCount", "(II[B)V"⟩) ∈ lw_tbl := tk_6 (List.mem_of_getElem? (i := 12) (by decide +kernel))
theorem tw_1213 : (Cond.static ⟨"java/lang/StringUTF16", "checkBoundsOffCount", "(II[B)V"⟩) ∈ lw_tbl := tk_6 (List.mem_of_getElem? (i := 13) (by decide +kernel))
theorem tw_1214 : (Cond.code ⟨"java/lang/StringUTF16", "checkBoundsOffCount", "(II[B)V"⟩ prog_33_method_94_code 3 none) ∈ lw_tbl := tk_6 (List.mem_of_getElem? (i := 14) (by decide +kernel))
theorem tw_1215 : (Cond.methodLink "java/lang/StringUTF16" 419 ⟨"java/lang/String", "checkBoundsOffCount", "(III)I"⟩) ∈ lw_tbl := tk_6 (List.mem_of_getElem? (i := 15) (by decide +kernel))
theorem tw_1216 : (Cond.static ⟨"java/lang/String", "checkBoundsOffCount", "(III)I"⟩) ∈ lw_tbl := tk_6 (List.mem_of_getElem? (i := 16) (by decide +kernel))
theorem tw_1217 : (Cond.code ⟨"java/lang/String", "checkBoundsOffCount", "(III)I"⟩ prog_29_method_157_code 3 (some FieldType.int)) ∈ lw_tbl := tk_6 (List.mem_of_getElem? (i := 17) (by decide +kernel))
theorem tw_1218 : (Cond.methodLink "java/lang/String" 1065 ⟨"jdk/internal/util/Preconditions", "checkFromIndexSize", "(IIILjava/util/function/BiFunction;)I"⟩) ∈ lw_tbl := tk_6 (List.mem_of_getElem? (i := 18) (by decide +kernel))
theorem tw_1219 : (Cond.static ⟨"jdk/internal/util/Preconditions", "checkFromIndexSize", "(IIILjava/util/function/BiFunction;)I"⟩) ∈ lw_tbl := tk_6 (List.mem_of_getElem? (i := 19) (by decide +kernel))
theorem tw_1220 : (Cond.code ⟨"jdk/internal/util/Preconditions", "checkFromIndexSize", "(IIILjava/util/function/BiFunction;)I"⟩ prog_42_method_13_code 4 (some FieldType.int)) ∈ lw_tbl := tk_6 (List.mem_of_getElem? (i := 20) (by decide +kernel))
theorem tw_1221 : (Cond.methodLink "java/lang/AbstractStringBuilder" 399 ⟨"java/lang/String", "getBytes", "([BIB)V"⟩) ∈ lw_tbl := tk_6 (List.mem_of_getElem? (i := 21) (by decide +kernel))
theorem tw_1222 : (Cond.instanceMethod ⟨"java/lang/String", "getBytes", "([BIB)V"⟩) ∈ lw_tbl := tk_6 (List.mem_of_getElem? (i := 22) (by decide +kernel))
theorem tw_1223 : (Cond.selects "java/lang/String" ⟨"java/lang/String", "getBytes", "([BIB)V"⟩ ⟨"java/lang/String", "getBytes", "([BIB)V"⟩) ∈ lw_tbl := tk_6 (List.mem_of_getElem? (i := 23) (by decide +kernel))
theorem tw_1224 : (Cond.code ⟨"java/lang/String", "getBytes", "([BIB)V"⟩ prog_29_method_147_code 4 none) ∈ lw_tbl := tk_6 (List.mem_of_getElem? (i := 24) (by decide +kernel))
theorem tw_1225 : (Cond.methodLink "java/lang/String" 212 ⟨"java/lang/System", "arraycopy", "(Ljava/lang/Object;ILjava/lang/Object;II)V"⟩) ∈ lw_tbl := tk_6 (List.mem_of_getElem? (i := 25) (by decide +kernel))
theorem tw_1226 : (Cond.methodLink "java/lang/String" 106 ⟨"java/lang/StringLatin1", "inflate", "([BI[BII)V"⟩) ∈ lw_tbl := tk_6 (List.mem_of_getElem? (i := 26) (by decide +kernel))
theorem tw_1227 : (Cond.stringRef "EchoCouncilLaw" 207 "~") ∈ lw_tbl := tk_6 (List.mem_of_getElem? (i := 27) (by decide +kernel))
theorem tw_1228 : (Cond.stringRef "EchoCouncilLaw" 209 "]") ∈ lw_tbl := tk_6 (List.mem_of_getElem? (i := 28) (by decide +kernel))
theorem tw_1229 : (Cond.methodLink "EchoCouncilLaw" 211 ⟨"java/lang/StringBuilder", "toString", "()Ljava/lang/String;"⟩) ∈ lw_tbl := tk_6 (List.mem_of_getElem? (i := 29) (by decide +kernel))
theorem tw_1230 : (Cond.instanceMethod ⟨"java/lang/StringBuilder", "toString", "()Ljava/lang/String;"⟩) ∈ lw_tbl := tk_6 (List.mem_of_getElem? (i := 30) (by decide +kernel))
theorem tw_1231 : (Cond.selects "java/lang/StringBuilder" ⟨"java/lang/StringBuilder", "toString", "()Ljava/lang/String;"⟩ ⟨"java/lang/StringBuilder", "toString", "()Ljava/lang/String;"⟩) ∈ lw_tbl := tk_6 (List.mem_of_getElem? (i := 31) (by decide +kernel))
theorem tw_1232 : (Cond.code ⟨"java/lang/StringBuilder", "toString", "()Ljava/lang/String;"⟩ prog_30_method_42_code 1 (Option.some (FieldType.object "java/lang/String"))) ∈ lw_tbl := tk_6 (List.mem_of_getElem? (i := 32) (by decide +kernel))
theorem tw_1233 : (Cond.classLink "java/lang/StringBuilder" 18 "java/lang/String") ∈ lw_tbl := tk_6 (List.mem_of_getElem? (i := 33) (by decide +kernel))
theorem tw_1234 : (Cond.methodLink "java/lang/StringBuilder" 137 ⟨"java/lang/String", "<init>", "(Ljava/lang/StringBuilder;)V"⟩) ∈ lw_tbl := tk_6 (List.mem_of_getElem? (i := 34) (by decide +kernel))
theorem tw_1235 : (Cond.instanceMethod ⟨"java/lang/String", "<init>", "(Ljava/lang/StringBuilder;)V"⟩) ∈ lw_tbl := tk_6 (List.mem_of_getElem? (i := 35) (by decide +kernel))
theorem tw_1236 : (Cond.code ⟨"java/lang/String", "<init>", "(Ljava/lang/StringBuilder;)V"⟩ prog_29_method_53_code 2 none) ∈ lw_tbl := tk_6 (List.mem_of_getElem? (i := 36) (by decide +kernel))
theorem tw_1237 : (Cond.methodLink "java/lang/String" 489 ⟨"java/lang/String", "<init>", "(Ljava/lang/AbstractStringBuilder;Ljava/lang/Void;)V"⟩) ∈ lw_tbl := tk_6 (List.mem_of_getElem? (i := 37) (by decide +kernel))
theorem tw_1238 : (Cond.instanceMethod ⟨"java/lang/String", "<init>", "(Ljava/lang/AbstractStringBuilder;Ljava/lang/Void;)V"⟩) ∈ lw_tbl := tk_6 (List.mem_of_getElem? (i := 38) (by decide +kernel))
theorem tw_1239 : (Cond.code ⟨"java/lang/String", "<init>", "(Ljava/lang/AbstractStringBuilder;Ljava/lang/Void;)V"⟩ prog_29_method_150_code 5 none) ∈ lw_tbl := tk_6 (List.mem_of_getElem? (i := 39) (by decide +kernel))
theorem tw_1240 : (Cond.methodLink "java/lang/String" 1 ⟨"java/lang/Object", "<init>", "()V"⟩) ∈ lw_tbl := tk_6 (List.mem_of_getElem? (i := 40) (by decide +kernel))
theorem tw_1241 : (Cond.methodLink "java/lang/String" 552 ⟨"java/lang/AbstractStringBuilder", "getValue", "()[B"⟩) ∈ lw_tbl := tk_6 (List.mem_of_getElem? (i := 41) (by decide +kernel))
theorem tw_1242 : (Cond.instanceMethod ⟨"java/lang/AbstractStringBuilder", "getValue", "()[B"⟩) ∈ lw_tbl := tk_6 (List.mem_of_getElem? (i := 42) (by decide +kernel))
theorem tw_1243 : (Cond.sameMethod "java/lang/AbstractStringBuilder" "java/lang/AbstractStringBuilder" "getValue" "()[B") ∈ lw_tbl := tk_6 (List.mem_of_getElem? (i := 43) (by decide +kernel))
theorem tw_1244 : (Cond.selects "java/lang/StringBuilder" ⟨"java/lang/AbstractStringBuilder", "getValue", "()[B"⟩ ⟨"java/lang/AbstractStringBuilder", "getValue", "()[B"⟩) ∈ lw_tbl := tk_6 (List.mem_of_getElem? (i := 44) (by decide +kernel))
theorem tw_1245 : (Cond.code ⟨"java/lang/AbstractStringBuilder", "getValue", "()[B"⟩ prog_14_method_64_code 1 (Option.some (FieldType.array FieldType.byte))) ∈ lw_tbl := tk_6 (List.mem_of_getElem? (i := 45) (by decide +kernel))
theorem tw_1246 : (Cond.methodLink "java/lang/String" 549 ⟨"java/lang/AbstractStringBuilder", "length", "()I"⟩) ∈ lw_tbl := tk_6 (List.mem_of_getElem? (i := 46) (by decide +kernel))
theorem tw_1247 : (Cond.instanceMethod ⟨"java/lang/AbstractStringBuilder", "length", "()I"⟩) ∈ lw_tbl := tk_6 (List.mem_of_getElem? (i := 47) (by decide +kernel))
theorem tw_1248 : (Cond.sameMethod "java/lang/AbstractStringBuilder" "java/lang/AbstractStringBuilder" "length" "()I") ∈ lw_tbl := tk_6 (List.mem_of_getElem? (i := 48) (by decide +kernel))
theorem tw_1249 : (Cond.selects "java/lang/StringBuilder" ⟨"java/lang/AbstractStringBuilder", "length", "()I"⟩ ⟨"java/lang/StringBuilder", "length", "()I"⟩) ∈ lw_tbl := tk_6 (List.mem_of_getElem? (i := 49) (by decide +kernel))
theorem tw_1250 : (Cond.instanceMethod ⟨"java/lang/StringBuilder", "length", "()I"⟩) ∈ lw_tbl := tk_6 (List.mem_of_getElem? (i := 50) (by decide +kernel))
theorem tw_1251 : (Cond.code ⟨"java/lang/StringBuilder", "length", "()I"⟩ prog_30_method_93_code 1 (some FieldType.int)) ∈ lw_tbl := tk_6 (List.mem_of_getElem? (i := 51) (by decide +kernel))
theorem tw_1252 : (Cond.methodLink "java/lang/StringBuilder" 343 ⟨"java/lang/AbstractStringBuilder", "length", "()I"⟩) ∈ lw_tbl := tk_6 (List.mem_of_getElem? (i := 52) (by decide +kernel))
theorem tw_1253 : (Cond.code ⟨"java/lang/AbstractStringBuilder", "length", "()I"⟩ prog_14_method_6_code 1 (some FieldType.int)) ∈ lw_tbl := tk_6 (List.mem_of_getElem? (i := 53) (by decide +kernel))
theorem tw_1254 : (Cond.methodLink "java/lang/String" 1047 ⟨"java/lang/AbstractStringBuilder", "isLatin1", "()Z"⟩) ∈ lw_tbl := tk_6 (List.mem_of_getElem? (i := 54) (by decide +kernel))
theorem tw_1255 : (Cond.methodLink "java/lang/String" 54 ⟨"java/util/Arrays", "copyOfRange", "([BII)[B"⟩) ∈ lw_tbl := tk_6 (List.mem_of_getElem? (i := 55) (by decide +kernel))
theorem tw_1256 : (Cond.static ⟨"java/util/Arrays", "copyOfRange", "([BII)[B"⟩) ∈ lw_tbl := tk_6 (List.mem_of_getElem? (i := 56) (by decide +kernel))
theorem tw_1257 : (Cond.code ⟨"java/util/Arrays", "copyOfRange", "([BII)[B"⟩ prog_39_method_132_code 3 (Option.some (FieldType.array FieldType.byte))) ∈ lw_tbl := tk_6 (List.mem_of_getElem? (i := 57) (by decide +kernel))
theorem tw_1258 : (Cond.methodLink "java/util/Arrays" 339 ⟨"java/util/Arrays", "copyOfRangeByte", "([BII)[B"⟩) ∈ lw_tbl := tk_6 (List.mem_of_getElem? (i := 58) (by decide +kernel))
theorem tw_1259 : (Cond.static ⟨"java/util/Arrays", "copyOfRangeByte", "([BII)[B"⟩) ∈ lw_tbl := tk_6 (List.mem_of_getElem? (i := 59) (by decide +kernel))
theorem tw_1260 : (Cond.code ⟨"java/util/Arrays", "copyOfRangeByte", "([BII)[B"⟩ prog_39_method_133_code 5 (Option.some (FieldType.array FieldType.byte))) ∈ lw_tbl := tk_6 (List.mem_of_getElem? (i := 60) (by decide +kernel))
theorem tw_1261 : (Cond.methodLink "java/util/Arrays" 343 ⟨"java/util/Arrays", "checkLength", "(II)V"⟩) ∈ lw_tbl := tk_6 (List.mem_of_getElem? (i := 61) (by decide +kernel))
theorem tw_1262 : (Cond.static ⟨"java/util/Arrays", "checkLength", "(II)V"⟩) ∈ lw_tbl := tk_6 (List.mem_of_getElem? (i := 62) (by decide +kernel))
theorem tw_1263 : (Cond.code ⟨"java/util/Arrays", "checkLength", "(II)V"⟩ prog_39_method_131_code 2 none) ∈ lw_tbl := tk_6 (List.mem_of_getElem? (i := 63) (by decide +kernel))
theorem tw_1264 : (Cond.classLink "java/util/Arrays" 43 "java/lang/IllegalArgumentException") ∈ lw_tbl := tk_6 (List.mem_of_getElem? (i := 64) (by decide +kernel))
theorem tw_1265 : (Cond.classLink "java/util/Arrays" 45 "java/lang/StringBuilder") ∈ lw_tbl := tk_6 (List.mem_of_getElem? (i := 65) (by decide +kernel))
theorem tw_1266 : (Cond.methodLink "java/util/Arrays" 47 ⟨"java/lang/StringBuilder", "<init>", "()V"⟩) ∈ lw_tbl := tk_6 (List.mem_of_getElem? (i := 66) (by decide +kernel))
theorem tw_1267 : (Cond.methodLink "java/util/Arrays" 54 ⟨"java/lang/StringBuilder", "append", "(I)Ljava/lang/StringBuilder;"⟩) ∈ lw_tbl := tk_6 (List.mem_of_getElem? (i := 67) (by decide +kernel))
theorem tw_1268 : (Cond.stringRef "java/util/Arrays" 337 " > ") ∈ lw_tbl := tk_6 (List.mem_of_getElem? (i := 68) (by decide +kernel))
theorem tw_1269 : (Cond.methodLink "java/util/Arrays" 50 ⟨"java/lang/StringBuilder", "append", "(Ljava/lang/String;)Ljava/lang/StringBuilder;"⟩) ∈ lw_tbl := tk_6 (List.mem_of_getElem? (i := 69) (by decide +kernel))
theorem tw_1270 : (Cond.methodLink "java/util/Arrays" 61 ⟨"java/lang/StringBuilder", "toString", "()Ljava/lang/String;"⟩) ∈ lw_tbl := tk_6 (List.mem_of_getElem? (i := 70) (by decide +kernel))
theorem tw_1271 : (Cond.methodLink "java/util/Arrays" 65 ⟨"java/lang/IllegalArgumentException", "<init>", "(Ljava/lang/String;)V"⟩) ∈ lw_tbl := tk_6 (List.mem_of_getElem? (i := 71) (by decide +kernel))
theorem tw_1272 : (Cond.methodLink "java/lang/String" 1051 ⟨"java/lang/StringUTF16", "compress", "([BII)[B"⟩) ∈ lw_tbl := tk_6 (List.mem_of_getElem? (i := 72) (by decide +kernel))
theorem tw_1273 : (Cond.static ⟨"java/lang/StringUTF16", "compress", "([BII)[B"⟩) ∈ lw_tbl := tk_6 (List.mem_of_getElem? (i := 73) (by decide +kernel))
theorem tw_1274 : (Cond.code ⟨"java/lang/StringUTF16", "compress", "([BII)[B"⟩ prog_33_method_17_code 6 (Option.some (FieldType.array FieldType.byte))) ∈ lw_tbl := tk_6 (List.mem_of_getElem? (i := 74) (by decide +kernel))
theorem tw_1275 : (Cond.methodLink "java/lang/StringUTF16" 123 ⟨"java/lang/StringUTF16", "compress", "([BI[BII)I"⟩) ∈ lw_tbl := tk_6 (List.mem_of_getElem? (i := 75) (by decide +kernel))
theorem tw_1276 : (Cond.static ⟨"java/lang/StringUTF16", "compress", "([BI[BII)I"⟩) ∈ lw_tbl := tk_6 (List.mem_of_getElem? (i := 76) (by decide +kernel))
theorem tw_1277 : (Cond.code ⟨"java/lang/StringUTF16", "compress", "([BI[BII)I"⟩ prog_33_method_22_code 7 (some FieldType.int)) ∈ lw_tbl := tk_6 (List.mem_of_getElem? (i := 77) (by decide +kernel))
theorem tw_1278 : (Cond.methodLink "java/lang/StringUTF16" 126 ⟨"java/util/Arrays", "copyOfRange", "([BII)[B"⟩) ∈ lw_tbl := tk_6 (List.mem_of_getElem? (i := 78) (by decide +kernel))
theorem tw_1279 : (Cond.methodLink "java/lang/String" 47 ⟨"java/lang/StringUTF16", "coderFromArrayLen", "([BI)B"⟩) ∈ lw_tbl := tk_6 (List.mem_of_getElem? (i := 79) (by decide +kernel))
theorem tw_1280 : (Cond.static ⟨"java/lang/StringUTF16", "coderFromArrayLen", "([BI)B"⟩) ∈ lw_tbl := tk_6 (List.mem_of_getElem? (i := 80) (by decide +kernel))
theorem tw_1281 : (Cond.code ⟨"java/lang/StringUTF16", "coderFromArrayLen", "([BI)B"⟩ prog_33_method_15_code 2 (some FieldType.byte)) ∈ lw_tbl := tk_6 (List.mem_of_getElem? (i := 81) (by decide +kernel))
theorem tw_1282 : (Cond.fieldLink "java/lang/String" 9 "java/lang/String" "value" "[B") ∈ lw_tbl := tk_6 (List.mem_of_getElem? (i := 82) (by decide +kernel))
theorem tw_1283 : (Cond.fieldLink "java/lang/String" 15 "java/lang/String" "coder" "B") ∈ lw_tbl := tk_6 (List.mem_of_getElem? (i := 83) (by decide +kernel))
theorem tw_1284 : (Cond.lays "java/lang/String" "java/lang/String" "hash" "I") ∈ lw_tbl := tk_6 (List.mem_of_getElem? (i := 84) (by decide +kernel))
theorem tw_1285 : (Cond.soleField "java/lang/String" "hash") ∈ lw_tbl := tk_6 (List.mem_of_getElem? (i := 85) (by decide +kernel))
theorem tw_1286 : (Cond.lays "java/lang/String" "java/lang/String" "hashIsZero" "Z") ∈ lw_tbl := tk_6 (List.mem_of_getElem? (i := 86) (by decide +kernel))
theorem tw_1287 : (Cond.soleField "java/lang/String" "hashIsZero") ∈ lw_tbl := tk_6 (List.mem_of_getElem? (i := 87) (by decide +kernel))
theorem tw_1288 : (Cond.superclass "java/lang/String" "java/lang/Object") ∈ lw_tbl := tk_6 (List.mem_of_getElem? (i := 88) (by decide +kernel))
theorem tw_1289 : (Cond.stringRef "EchoCouncilLaw" 215 "") ∈ lw_tbl := tk_6 (List.mem_of_getElem? (i := 89) (by decide +kernel))
theorem tw_1290 : (Cond.stringRef "EchoCouncilLaw" 217 "*") ∈ lw_tbl := tk_6 (List.mem_of_getElem? (i := 90) (by decide +kernel))
theorem tw_1291 : (Cond.stringRef "EchoCouncilLaw" 219 "s") ∈ lw_tbl := tk_6 (List.mem_of_getElem? (i := 91) (by decide +kernel))
theorem tw_1292 : (Cond.methodLink "EchoCouncilLaw" 221 ⟨"EchoCouncil", "tellRoom", "(I)I"⟩) ∈ lw_tbl := tk_6 (List.mem_of_getElem? (i := 92) (by decide +kernel))
theorem tw_1293 : (Cond.instanceMethod ⟨"EchoCouncil", "tellRoom", "(I)I"⟩) ∈ lw_tbl := tk_6 (List.mem_of_getElem? (i := 93) (by decide +kernel))
theorem tw_1294 : (Cond.selects "EchoCouncil" ⟨"EchoCouncil", "tellRoom", "(I)I"⟩ ⟨"EchoCouncil", "tellRoom", "(I)I"⟩) ∈ lw_tbl := tk_6 (List.mem_of_getElem? (i := 94) (by decide +kernel))
theorem tw_1295 : (Cond.code ⟨"EchoCouncil", "tellRoom", "(I)I"⟩ prog_1_method_35_code 2 (some FieldType.int)) ∈ lw_tbl := tk_6 (List.mem_of_getElem? (i := 95) (by decide +kernel))
theorem tw_1296 : (Cond.methodLink "EchoCouncil" 327 ⟨"java/lang/StringBuilder", "setLength", "(I)V"⟩) ∈ lw_tbl := tk_6 (List.mem_of_getElem? (i := 96) (by decide +kernel))
theorem tw_1297 : (Cond.instanceMethod ⟨"java/lang/StringBuilder", "setLength", "(I)V"⟩) ∈ lw_tbl := tk_6 (List.mem_of_getElem? (i := 97) (by decide +kernel))
theorem tw_1298 : (Cond.selects "java/lang/StringBuilder" ⟨"java/lang/StringBuilder", "setLength", "(I)V"⟩ ⟨"java/lang/StringBuilder", "setLength", "(I)V"⟩) ∈ lw_tbl := tk_6 (List.mem_of_getElem? (i := 98) (by decide +kernel))
theorem tw_1299 : (Cond.code ⟨"java/lang/StringBuilder", "setLength", "(I)V"⟩ prog_30_method_89_code 2 none) ∈ lw_tbl := tk_6 (List.mem_of_getElem? (i := 99) (by decide +kernel))
theorem tw_1300 : (Cond.methodLink "java/lang/StringBuilder" 333 ⟨"java/lang/AbstractStringBuilder", "setLength", "(I)V"⟩) ∈ lw_tbl := tk_6 (List.mem_of_getElem? (i := 100) (by decide +kernel))
theorem tw_1301 : (Cond.instanceMethod ⟨"java/lang/AbstractStringBuilder", "setLength", "(I)V"⟩) ∈ lw_tbl := tk_6 (List.mem_of_getElem? (i := 101) (by decide +kernel))
theorem tw_1302 : (Cond.code ⟨"java/lang/AbstractStringBuilder", "setLength", "(I)V"⟩ prog_14_method_13_code 2 none) ∈ lw_tbl := tk_6 (List.mem_of_getElem? (i := 102) (by decide +kernel))
theorem tw_1303 : (Cond.classLink "java/lang/AbstractStringBuilder" 129 "java/lang/StringIndexOutOfBoundsException") ∈ lw_tbl := tk_6 (List.mem_of_getElem? (i := 103) (by decide +kernel))
theorem tw_1304 : (Cond.instantiable "java/lang/StringIndexOutOfBoundsException" 6) ∈ lw_tbl := tk_6 (List.mem_of_getElem? (i := 104) (by decide +kernel))
theorem tw_1305 : (Cond.methodLink "java/lang/AbstractStringBuilder" 131 ⟨"java/lang/StringIndexOutOfBoundsException", "<init>", "(I)V"⟩) ∈ lw_tbl := tk_6 (List.mem_of_getElem? (i := 105) (by decide +kernel))
theorem tw_1306 : (Cond.instanceMethod ⟨"java/lang/StringIndexOutOfBoundsException", "<init>", "(I)V"⟩) ∈ lw_tbl := tk_6 (List.mem_of_getElem? (i := 106) (by decide +kernel))
theorem tw_1307 : (Cond.code ⟨"java/lang/StringIndexOutOfBoundsException", "<init>", "(I)V"⟩ prog_31_method_3_code 2 none) ∈ lw_tbl := tk_6 (List.mem_of_getElem? (i := 107) (by decide +kernel))
theorem tw_1308 : (Cond.classLink "java/lang/StringIndexOutOfBoundsException" 10 "java/lang/StringBuilder") ∈ lw_tbl := tk_6 (List.mem_of_getElem? (i := 108) (by decide +kernel))
theorem tw_1309 : (Cond.methodLink "java/lang/StringIndexOutOfBoundsException" 12 ⟨"java/lang/StringBuilder", "<init>", "()V"⟩) ∈ lw_tbl := tk_6 (List.mem_of_getElem? (i := 109) (by decide +kernel))
theorem tw_1310 : (Cond.stringRef "java/lang/StringIndexOutOfBoundsException" 13 "String index out of range: ") ∈ lw_tbl := tk_6 (List.mem_of_getElem? (i := 110) (by decide +kernel))
theorem tw_1311 : (Cond.methodLink "java/lang/StringIndexOutOfBoundsException" 15 ⟨"java/lang/StringBuilder", "append", "(Ljava/lang/String;)Ljava/lang/StringBuilder;"⟩) ∈ lw_tbl := tk_6 (List.mem_of_getElem? (i := 111) (by decide +kernel))
theorem tw_1312 : (Cond.methodLink "java/lang/StringIndexOutOfBoundsException" 19 ⟨"java/lang/StringBuilder", "append", "(I)Ljava/lang/StringBuilder;"⟩) ∈ lw_tbl := tk_6 (List.mem_of_getElem? (i := 112) (by decide +kernel))
theorem tw_1313 : (Cond.methodLink "java/lang/StringIndexOutOfBoundsException" 22 ⟨"java/lang/StringBuilder", "toString", "()Ljava/lang/String;"⟩) ∈ lw_tbl := tk_6 (List.mem_of_getElem? (i := 113) (by decide +kernel))
theorem tw_1314 : (Cond.methodLink "java/lang/StringIndexOutOfBoundsException" 7 ⟨"java/lang/IndexOutOfBoundsException", "<init>", "(Ljava/lang/String;)V"⟩) ∈ lw_tbl := tk_6 (List.mem_of_getElem? (i := 114) (by decide +kernel))
theorem tw_1315 : (Cond.lays "java/lang/StringIndexOutOfBoundsException" "java/lang/Throwable" "backtrace" "Ljava/lang/Object;") ∈ lw_tbl := tk_6 (List.mem_of_getElem? (i := 115) (by decide +kernel))
theorem tw_1316 : (Cond.lays "java/lang/StringIndexOutOfBoundsException" "java/lang/Throwable" "detailMessage" "Ljava/lang/String;") ∈ lw_tbl := tk_6 (List.mem_of_getElem? (i := 116) (by decide +kernel))
theorem tw_1317 : (Cond.lays "java/lang/StringIndexOutOfBoundsException" "java/lang/Throwable" "cause" "Ljava/lang/Throwable;") ∈ lw_tbl := tk_6 (List.mem_of_getElem? (i := 117) (by decide +kernel))
theorem tw_1318 : (Cond.lays "java/lang/StringIndexOutOfBoundsException" "java/lang/Throwable" "stackTrace" "[Ljava/lang/StackTraceElement;") ∈ lw_tbl := tk_6 (List.mem_of_getElem? (i := 118) (by decide +kernel))
theorem tw_1319 : (Cond.lays "java/lang/StringIndexOutOfBoundsException" "java/lang/Throwable" "depth" "I") ∈ lw_tbl := tk_6 (List.mem_of_getElem? (i := 119) (by decide +kernel))
theorem tw_1320 : (Cond.lays "java/lang/StringIndexOutOfBoundsException" "java/lang/Throwable" "suppressedExceptions" "Ljava/util/List;") ∈ lw_tbl := tk_6 (List.mem_of_getElem? (i := 120) (by decide +kernel))
theorem tw_1321 : (Cond.superclass "java/lang/StringIndexOutOfBoundsException" "java/lang/IndexOutOfBoundsException") ∈ lw_tbl := tk_6 (List.mem_of_getElem? (i := 121) (by decide +kernel))
theorem tw_1322 : (Cond.methodLink "java/lang/AbstractStringBuilder" 133 ⟨"java/lang/StringLatin1", "fillNull", "([BII)V"⟩) ∈ lw_tbl := tk_6 (List.mem_of_getElem? (i := 122) (by decide +kernel))
theorem tw_1323 : (Cond.static ⟨"java/lang/StringLatin1", "fillNull", "([BII)V"⟩) ∈ lw_tbl := tk_6 (List.mem_of_getElem? (i := 123) (by decide +kernel))
theorem tw_1324 : (Cond.code ⟨"java/lang/StringLatin1", "fillNull", "([BII)V"⟩ prog_32_method_48_code 3 none) ∈ lw_tbl := tk_6 (List.mem_of_getElem? (i := 124) (by decide +kernel))
theorem tw_1325 : (Cond.methodLink "java/lang/StringLatin1" 236 ⟨"java/util/Arrays", "fill", "([BIIB)V"⟩) ∈ lw_tbl := tk_6 (List.mem_of_getElem? (i := 125) (by decide +kernel))
theorem tw_1326 : (Cond.static ⟨"java/util/Arrays", "fill", "([BIIB)V"⟩) ∈ lw_tbl := tk_6 (List.mem_of_getElem? (i := 126) (by decide +kernel))
theorem tw_1327 : (Cond.code ⟨"java/util/Arrays", "fill", "([BIIB)V"⟩ prog_39_method_110_code 5 none) ∈ lw_tbl := tk_6 (List.mem_of_getElem? (i := 127) (by decide +kernel))
theorem tw_1328 : (Cond.methodLink "java/util/Arrays" 13 ⟨"java/util/Arrays", "rangeCheck", "(III)V"⟩) ∈ lw_tbl := tk_6 (List.mem_of_getElem? (i := 128) (by decide +kernel))
theorem tw_1329 : (Cond.static ⟨"java/util/Arrays", "rangeCheck", "(III)V"⟩) ∈ lw_tbl := tk_6 (List.mem_of_getElem? (i := 129) (by decide +kernel))
theorem tw_1330 : (Cond.code ⟨"java/util/Arrays", "rangeCheck", "(III)V"⟩ prog_39_method_30_code 3 none) ∈ lw_tbl := tk_6 (List.mem_of_getElem? (i := 130) (by decide +kernel))
theorem tw_1331 : (Cond.stringRef "java/util/Arrays" 48 "fromIndex(") ∈ lw_tbl := tk_6 (List.mem_of_getElem? (i := 131) (by decide +kernel))
theorem tw_1332 : (Cond.stringRef "java/util/Arrays" 57 ") > toIndex(") ∈ lw_tbl := tk_6 (List.mem_of_getElem? (i := 132) (by decide +kernel))
theorem tw_1333 : (Cond.stringRef "java/util/Arrays" 59 ")") ∈ lw_tbl := tk_6 (List.mem_of_getElem? (i := 133) (by decide +kernel))
theorem tw_1334 : (Cond.classLink "java/util/Arrays" 68 "java/lang/ArrayIndexOutOfBoundsException") ∈ lw_tbl := tk_6 (List.mem_of_getElem? (i := 134) (by decide +kernel))
theorem tw_1335 : (Cond.methodLink "java/util/Arrays" 70 ⟨"java/lang/ArrayIndexOutOfBoundsException", "<init>", "(I)V"⟩) ∈ lw_tbl := tk_6 (List.mem_of_getElem? (i := 135) (by decide +kernel))
theorem tw_1336 : (Cond.instanceMethod ⟨"java/lang/ArrayIndexOutOfBoundsException", "<init>", "(I)V"⟩) ∈ lw_tbl := tk_6 (List.mem_of_getElem? (i := 136) (by decide +kernel))
theorem tw_1337 : (Cond.code ⟨"java/lang/ArrayIndexOutOfBoundsException", "<init>", "(I)V"⟩ prog_17_method_3_code 2 none) ∈ lw_tbl := tk_6 (List.mem_of_getElem? (i := 137) (by decide +kernel))
theorem tw_1338 : (Cond.classLink "java/lang/ArrayIndexOutOfBoundsException" 10 "java/lang/StringBuilder") ∈ lw_tbl := tk_6 (List.mem_of_getElem? (i := 138) (by decide +kernel))
theorem tw_1339 : (Cond.methodLink "java/lang/ArrayIndexOutOfBoundsException" 12 ⟨"java/lang/StringBuilder", "<init>", "()V"⟩) ∈ lw_tbl := tk_6 (List.mem_of_getElem? (i := 139) (by decide +kernel))
theorem tw_1340 : (Cond.stringRef "java/lang/ArrayIndexOutOfBoundsException" 13 "Array index out of range: ") ∈ lw_tbl := tk_6 (List.mem_of_getElem? (i := 140) (by decide +kernel))
theorem tw_1341 : (Cond.methodLink "java/lang/ArrayIndexOutOfBoundsException" 15 ⟨"java/lang/StringBuilder", "append", "(Ljava/lang/String;)Ljava/lang/StringBuilder;"⟩) ∈ lw_tbl := tk_6 (List.mem_of_getElem? (i := 141) (by decide +kernel))
theorem tw_1342 : (Cond.methodLink "java/lang/ArrayIndexOutOfBoundsException" 19 ⟨"java/lang/StringBuilder", "append", "(I)Ljava/lang/StringBuilder;"⟩) ∈ lw_tbl := tk_6 (List.mem_of_getElem? (i := 142) (by decide +kernel))
theorem tw_1343 : (Cond.methodLink "java/lang/ArrayIndexOutOfBoundsException" 22 ⟨"java/lang/StringBuilder", "toString", "()Ljava/lang/String;"⟩) ∈ lw_tbl := tk_6 (List.mem_of_getElem? (i := 143) (by decide +kernel))
theorem tw_1344 : (Cond.methodLink "java/lang/AbstractStringBuilder" 137 ⟨"java/lang/StringUTF16", "fillNull", "([BII)V"⟩) ∈ lw_tbl := tk_6 (List.mem_of_getElem? (i := 144) (by decide +kernel))
theorem tw_1345 : (Cond.static ⟨"java/lang/StringUTF16", "fillNull", "([BII)V"⟩) ∈ lw_tbl := tk_6 (List.mem_of_getElem? (i := 145) (by decide +kernel))
theorem tw_1346 : (Cond.code ⟨"java/lang/StringUTF16", "fillNull", "([BII)V"⟩ prog_33_method_70_code 3 none) ∈ lw_tbl := tk_6 (List.mem_of_getElem? (i := 146) (by decide +kernel))
theorem tw_1347 : (Cond.methodLink "java/lang/StringUTF16" 380 ⟨"java/util/Arrays", "fill", "([BIIB)V"⟩) ∈ lw_tbl := tk_6 (List.mem_of_getElem? (i := 147) (by decide +kernel))
theorem tw_1348 : (Cond.methodLink "EchoCouncil" 330 ⟨"java/lang/StringBuilder", "append", "(I)Ljava/lang/StringBuilder;"⟩) ∈ lw_tbl := tk_6 (List.mem_of_getElem? (i := 148) (by decide +kernel))
theorem tw_1349 : (Cond.methodLink "EchoCouncil" 334 ⟨"java/lang/StringBuilder", "append", "(C)Ljava/lang/StringBuilder;"⟩) ∈ lw_tbl := tk_6 (List.mem_of_getElem? (i := 149) (by decide +kernel))
theorem tw_1350 : (Cond.instanceMethod ⟨"java/lang/StringBuilder", "append", "(C)Ljava/lang/StringBuilder;"⟩) ∈ lw_tbl := tk_6 (List.mem_of_getElem? (i := 150) (by decide +kernel))
theorem tw_1351 : (Cond.selects "java/lang/StringBuilder" ⟨"java/lang/StringBuilder", "append", "(C)Ljava/lang/StringBuilder;"⟩ ⟨"java/lang/StringBuilder", "append", "(C)Ljava/lang/StringBuilder;"⟩) ∈ lw_tbl := tk_6 (List.mem_of_getElem? (i := 151) (by decide +kernel))
theorem tw_1352 : (Cond.code ⟨"java/lang/StringBuilder", "append", "(C)Ljava/lang/StringBuilder;"⟩ prog_30_method_14_code 2 (Option.some (FieldType.object "java/lang/StringBuilder"))) ∈ lw_tbl := tk_6 (List.mem_of_getElem? (i := 152) (by decide +kernel))
theorem tw_1353 : (Cond.methodLink "java/lang/StringBuilder" 50 ⟨"java/lang/AbstractStringBuilder", "append", "(C)Ljava/lang/AbstractStringBuilder;"⟩) ∈ lw_tbl := tk_6 (List.mem_of_getElem? (i := 153) (by decide +kernel))
theorem tw_1354 : (Cond.instanceMethod ⟨"java/lang/AbstractStringBuilder", "append", "(C)Ljava/lang/AbstractStringBuilder;"⟩) ∈ lw_tbl := tk_6 (List.mem_of_getElem? (i := 154) (by decide +kernel))
theorem tw_1355 : (Cond.code ⟨"java/lang/AbstractStringBuilder", "append", "(C)Ljava/lang/AbstractStringBuilder;"⟩ prog_14_method_31_code 2 (Option.some (FieldType.object "java/lang/AbstractStringBuilder"))) ∈ lw_tbl := tk_6 (List.mem_of_getElem? (i := 155) (by decide +kernel))
theorem tw_1356 : (Cond.methodLink "java/lang/AbstractStringBuilder" 191 ⟨"java/lang/StringLatin1", "canEncode", "(C)Z"⟩) ∈ lw_tbl := tk_6 (List.mem_of_getElem? (i := 156) (by decide +kernel))
theorem tw_1357 : (Cond.static ⟨"java/lang/StringLatin1", "canEncode", "(C)Z"⟩) ∈ lw_tbl := tk_6 (List.mem_of_getElem? (i := 157) (by decide +kernel))
theorem tw_1358 : (Cond.code ⟨"java/lang/StringLatin1", "canEncode", "(C)Z"⟩ prog_32_method_3_code 1 (some FieldType.boolean)) ∈ lw_tbl := tk_6 (List.mem_of_getElem? (i := 158) (by decide +kernel))
theorem tw_1359 : (Cond.methodLink "java/lang/AbstractStringBuilder" 197 ⟨"java/lang/StringUTF16", "putCharSB", "([BII)V"⟩) ∈ lw_tbl := tk_6 (List.mem_of_getElem? (i := 159) (by decide +kernel))
theorem tw_1360 : (Cond.static ⟨"java/lang/StringUTF16", "putCharSB", "([BII)V"⟩) ∈ lw_tbl := tk_6 (List.mem_of_getElem? (i := 160) (by decide +kernel))
theorem tw_1361 : (Cond.code ⟨"java/lang/StringUTF16", "putCharSB", "([BII)V"⟩ prog_33_method_71_code 3 none) ∈ lw_tbl := tk_6 (List.mem_of_getElem? (i := 161) (by decide +kernel))
theorem tw_1362 : (Cond.methodLink "EchoCouncil" 337 ⟨"EchoCouncil", "writeEchoesIn", "(I)V"⟩) ∈ lw_tbl := tk_6 (List.mem_of_getElem? (i := 162) (by decide +kernel))
theorem tw_1363 : (Cond.privateMethod ⟨"EchoCouncil", "writeEchoesIn", "(I)V"⟩) ∈ lw_tbl := tk_6 (List.mem_of_getElem? (i := 163) (by decide +kernel))
theorem tw_1364 : (Cond.instanceMethod ⟨"EchoCouncil", "writeEchoesIn", "(I)V"⟩) ∈ lw_tbl := tk_6 (List.mem_of_getElem? (i := 164) (by decide +kernel))
theorem tw_1365 : (Cond.code ⟨"EchoCouncil", "writeEchoesIn", "(I)V"⟩ prog_1_method_69_code 3 none) ∈ lw_tbl := tk_6 (List.mem_of_getElem? (i := 165) (by decide +kernel))
theorem tw_1366 : (Cond.methodLink "EchoCouncil" 340 ⟨"EchoCouncil", "writeSingersIn", "(I)V"⟩) ∈ lw_tbl := tk_6 (List.mem_of_getElem? (i := 166) (by decide +kernel))
theorem tw_1367 : (Cond.privateMethod ⟨"EchoCouncil", "writeSingersIn", "(I)V"⟩) ∈ lw_tbl := tk_6 (List.mem_of_getElem? (i := 167) (by decide +kernel))
theorem tw_1368 : (Cond.instanceMethod ⟨"EchoCouncil", "writeSingersIn", "(I)V"⟩) ∈ lw_tbl := tk_6 (List.mem_of_getElem? (i := 168) (by decide +kernel))
theorem tw_1369 : (Cond.code ⟨"EchoCouncil", "writeSingersIn", "(I)V"⟩ prog_1_method_70_code 3 none) ∈ lw_tbl := tk_6 (List.mem_of_getElem? (i := 169) (by decide +kernel))
theorem tw_1370 : (Cond.methodLink "EchoCouncil" 343 ⟨"java/lang/StringBuilder", "length", "()I"⟩) ∈ lw_tbl := tk_6 (List.mem_of_getElem? (i := 170) (by decide +kernel))
theorem tw_1371 : (Cond.methodLink "EchoCouncilLaw" 224 ⟨"EchoCouncilLaw", "isLine", "(LEchoCouncil;ILjava/lang/String;)Z"⟩) ∈ lw_tbl := tk_6 (List.mem_of_getElem? (i := 171) (by decide +kernel))
theorem tw_1372 : (Cond.static ⟨"EchoCouncilLaw", "isLine", "(LEchoCouncil;ILjava/lang/String;)Z"⟩) ∈ lw_tbl := tk_6 (List.mem_of_getElem? (i := 172) (by decide +kernel))
theorem tw_1373 : (Cond.code ⟨"EchoCouncilLaw", "isLine", "(LEchoCouncil;ILjava/lang/String;)Z"⟩ method_20_code 5 (some FieldType.boolean)) ∈ lw_tbl := tk_6 (List.mem_of_getElem? (i := 173) (by decide +kernel))
theorem tw_1374 : (Cond.methodLink "EchoCouncilLaw" 15 ⟨"java/lang/String", "length", "()I"⟩) ∈ lw_tbl := tk_6 (List.mem_of_getElem? (i := 174) (by decide +kernel))
theorem tw_1375 : (Cond.methodLink "EchoCouncilLaw" 193 ⟨"EchoCouncil", "character", "(I)C"⟩) ∈ lw_tbl := tk_6 (List.mem_of_getElem? (i := 175) (by decide +kernel))
theorem tw_1376 : (Cond.instanceMethod ⟨"EchoCouncil", "character", "(I)C"⟩) ∈ lw_tbl := tk_6 (List.mem_of_getElem? (i := 176) (by decide +kernel))
theorem tw_1377 : (Cond.selects "EchoCouncil" ⟨"EchoCouncil", "character", "(I)C"⟩ ⟨"EchoCouncil", "character", "(I)C"⟩) ∈ lw_tbl := tk_6 (List.mem_of_getElem? (i := 177) (by decide +kernel))
theorem tw_1378 : (Cond.code ⟨"EchoCouncil", "character", "(I)C"⟩ prog_1_method_38_code 2 (some FieldType.char)) ∈ lw_tbl := tk_6 (List.mem_of_getElem? (i := 178) (by decide +kernel))
theorem tw_1379 : (Cond.stringRef "EchoCouncil" 347 "no such index in the line") ∈ lw_tbl := tk_6 (List.mem_of_getElem? (i := 179) (by decide +kernel))
theorem tw_1380 : (Cond.methodLink "EchoCouncil" 350 ⟨"java/lang/StringBuilder", "charAt", "(I)C"⟩) ∈ lw_tbl := tk_6 (List.mem_of_getElem? (i := 180) (by decide +kernel))
theorem tw_1381 : (Cond.instanceMethod ⟨"java/lang/StringBuilder", "charAt", "(I)C"⟩) ∈ lw_tbl := tk_6 (List.mem_of_getElem? (i := 181) (by decide +kernel))
theorem tw_1382 : (Cond.selects "java/lang/StringBuilder" ⟨"java/lang/StringBuilder", "charAt", "(I)C"⟩ ⟨"java/lang/StringBuilder", "charAt", "(I)C"⟩) ∈ lw_tbl := tk_6 (List.mem_of_getElem? (i := 182) (by decide +kernel))
theorem tw_1383 : (Cond.code ⟨"java/lang/StringBuilder", "charAt", "(I)C"⟩ prog_30_method_88_code 2 (some FieldType.char)) ∈ lw_tbl := tk_6 (List.mem_of_getElem? (i := 183) (by decide +kernel))
theorem tw_1384 : (Cond.methodLink "java/lang/StringBuilder" 329 ⟨"java/lang/AbstractStringBuilder", "charAt", "(I)C"⟩) ∈ lw_tbl := tk_6 (List.mem_of_getElem? (i := 184) (by decide +kernel))
theorem tw_1385 : (Cond.instanceMethod ⟨"java/lang/AbstractStringBuilder", "charAt", "(I)C"⟩) ∈ lw_tbl := tk_6 (List.mem_of_getElem? (i := 185) (by decide +kernel))
theorem tw_1386 : (Cond.code ⟨"java/lang/AbstractStringBuilder", "charAt", "(I)C"⟩ prog_14_method_14_code 5 (some FieldType.char)) ∈ lw_tbl := tk_6 (List.mem_of_getElem? (i := 186) (by decide +kernel))
theorem tw_1387 : (Cond.methodLink "java/lang/AbstractStringBuilder" 138 ⟨"java/lang/Math", "min", "(II)I"⟩) ∈ lw_tbl := tk_6 (List.mem_of_getElem? (i := 187) (by decide +kernel))
theorem tw_1388 : (Cond.methodLink "java/lang/AbstractStringBuilder" 144 ⟨"java/lang/String", "checkIndex", "(II)V"⟩) ∈ lw_tbl := tk_6 (List.mem_of_getElem? (i := 188) (by decide +kernel))
theorem tw_1389 : (Cond.methodLink "java/lang/AbstractStringBuilder" 148 ⟨"java/lang/StringUTF16", "getChar", "([BI)C"⟩) ∈ lw_tbl := tk_6 (List.mem_of_getElem? (i := 189) (by decide +kernel))
theorem tw_1390 : (Cond.methodLink "EchoCouncilLaw" 21 ⟨"java/lang/String", "charAt", "(I)C"⟩) ∈ lw_tbl := tk_6 (List.mem_of_getElem? (i := 190) (by decide +kernel))
theorem tw_1391 : (Cond.stringRef "EchoCouncilLaw" 228 "=") ∈ lw_tbl := tk_6 (List.mem_of_getElem? (i := 191) (by decide +kernel))
theorem tw_1392 : (Cond.stringRef "EchoCouncilLaw" 230 "/") ∈ lw_tbl := tk_6 (List.mem_of_getElem? (i := 192) (by decide +kernel))
theorem tw_1393 : (Cond.methodLink "EchoCouncilLaw" 232 ⟨"EchoCouncil", "tellEcho", "(I)I"⟩) ∈ lw_tbl := tk_6 (List.mem_of_getElem? (i := 193) (by decide +kernel))
theorem tw_1394 : (Cond.instanceMethod ⟨"EchoCouncil", "tellEcho", "(I)I"⟩) ∈ lw_tbl := tk_6 (List.mem_of_getElem? (i := 194) (by decide +kernel))
theorem tw_1395 : (Cond.selects "EchoCouncil" ⟨"EchoCouncil", "tellEcho", "(I)I"⟩ ⟨"EchoCouncil", "tellEcho", "(I)I"⟩) ∈ lw_tbl := tk_6 (List.mem_of_getElem? (i := 195) (by decide +kernel))
theorem tw_1396 : (Cond.code ⟨"EchoCouncil", "tellEcho", "(I)I"⟩ prog_1_method_36_code 2 (some FieldType.int)) ∈ lw_tbl := tk_6 (List.mem_of_getElem? (i := 196) (by decide +kernel))
theorem tw_1397 : (Cond.stringRef "EchoCouncilLaw" 235 "^") ∈ lw_tbl := tk_6 (List.mem_of_getElem? (i := 197) (by decide +kernel))
theorem tw_1398 : (Cond.stringRef "EchoCouncilLaw" 237 "@") ∈ lw_tbl := tk_6 (List.mem_of_getElem? (i := 198) (by decide +kernel))
theorem tw_1399 : (Cond.methodLink "EchoCouncilLaw" 239 ⟨"EchoCouncil", "tellSinger", "(I)I"⟩) ∈ lw_tbl := tk_6 (List.mem_of_getElem? (i := 199) (by decide +kernel))
theorem tw_1400 : (Cond.instanceMethod ⟨"EchoCouncil", "tellSinger", "(I)I"⟩) ∈ lw_tbl := tk_6 (List.mem_of_getElem? (i := 200) (by decide +kernel))
theorem tw_1401 : (Cond.selects "EchoCouncil" ⟨"EchoCouncil", "tellSinger", "(I)I"⟩ ⟨"EchoCouncil", "tellSinger", "(I)I"⟩) ∈ lw_tbl := tk_6 (List.mem_of_getElem? (i := 201) (by decide +kernel))
theorem tw_1402 : (Cond.code ⟨"EchoCouncil", "tellSinger", "(I)I"⟩ prog_1_method_37_code 2 (some FieldType.int)) ∈ lw_tbl := tk_6 (List.mem_of_getElem? (i := 202) (by decide +kernel))
theorem tw_1403 : (Cond.stringRef "EchoCouncilLaw" 242 "!") ∈ lw_tbl := tk_6 (List.mem_of_getElem? (i := 203) (by decide +kernel))
theorem tw_1404 : (Cond.stringRef "EchoCouncilLaw" 244 "%") ∈ lw_tbl := tk_6 (List.mem_of_getElem? (i := 204) (by decide +kernel))
theorem tw_1405 : (Cond.sameMethod "java/lang/Throwable" "java/lang/Throwable" "fillInStackTrace" "(I)Ljava/lang/Throwable;") ∈ lw_tbl := tk_6 (List.mem_of_getElem? (i := 205) (by decide +kernel))
theorem tw_1406 : (Cond.sameMethod "java/lang/AbstractStringBuilder" "java/lang/AbstractStringBuilder" "append" "(I)Ljava/lang/AbstractStringBuilder;") ∈ lw_tbl := tk_6 (List.mem_of_getElem? (i := 206) (by decide +kernel))
theorem tw_1407 : (Cond.sameMethod "java/lang/AbstractStringBuilder" "java/lang/AbstractStringBuilder" "ensureCapacityInternal" "(I)V") ∈ lw_tbl := tk_6 (List.mem_of_getElem? (i := 207) (by decide +kernel))
theorem tw_1408 : (Cond.sameMethod "java/lang/AbstractStringBuilder" "java/lang/AbstractStringBuilder" "newCapacity" "(I)I") ∈ lw_tbl := tk_6 (List.mem_of_getElem? (i := 208) (by decide +kernel))
theorem tw_1409 : (Cond.sameMethod "java/lang/AbstractStringBuilder" "java/lang/AbstractStringBuilder" "append" "(Ljava/lang/String;)Ljava/lang/AbstractStringBuilder;") ∈ lw_tbl := tk_6 (List.mem_of_getElem? (i := 209) (by decide +kernel))
theorem tw_1410 : (Cond.sameMethod "java/lang/AbstractStringBuilder" "java/lang/AbstractStringBuilder" "appendNull" "()Ljava/lang/AbstractStringBuilder;") ∈ lw_tbl := tk_6 (List.mem_of_getElem? (i := 210) (by decide +kernel))
theorem tw_1411 : (Cond.sameMethod "java/lang/AbstractStringBuilder" "java/lang/AbstractStringBuilder" "putStringAt" "(ILjava/lang/String;)V") ∈ lw_tbl := tk_6 (List.mem_of_getElem? (i := 211) (by decide +kernel))
theorem tw_1412 : (Cond.sameMethod "java/lang/AbstractStringBuilder" "java/lang/AbstractStringBuilder" "inflateIfNeededFor" "(Ljava/lang/String;)V") ∈ lw_tbl := tk_6 (List.mem_of_getElem? (i := 212) (by decide +kernel))
theorem tw_1413 : (Cond.sameMethod "java/lang/AbstractStringBuilder" "java/lang/AbstractStringBuilder" "inflate" "()V") ∈ lw_tbl := tk_6 (List.mem_of_getElem? (i := 213) (by decide +kernel))
theorem tw_1414 : (Cond.sameMethod "java/lang/AbstractStringBuilder" "java/lang/AbstractStringBuilder" "setLength" "(I)V") ∈ lw_tbl := tk_6 (List.mem_of_getElem? (i := 214) (by decide +kernel))
theorem tw_1415 : (Cond.sameMethod "java/lang/AbstractStringBuilder" "java/lang/AbstractStringBuilder" "append" "(C)Ljava/lang/AbstractStringBuilder;") ∈ lw_tbl := tk_6 (List.mem_of_getElem? (i := 215) (by decide +kernel))
theorem tw_1416 : (Cond.selects "java/lang/StringBuilder" ⟨"java/lang/StringBuilder", "length", "()I"⟩ ⟨"java/lang/StringBuilder", "length", "()I"⟩) ∈ lw_tbl := tk_6 (List.mem_of_getElem? (i := 216) (by decide +kernel))
theorem tw_1417 : (Cond.sameMethod "java/lang/AbstractStringBuilder" "java/lang/AbstractStringBuilder" "charAt" "(I)C") ∈ lw_tbl := tk_6 (List.mem_of_getElem? (i := 217) (by decide +kernel))
theorem tw_1418 : (Cond.castable "java/lang/ArrayIndexOutOfBoundsException" "java/lang/IndexOutOfBoundsException") ∈ lw_tbl := tk_6 (List.mem_of_getElem? (i := 218) (by decide +kernel))
theorem tw_1419 : (Cond.castable "java/lang/StringIndexOutOfBoundsException" "java/lang/IndexOutOfBoundsException") ∈ lw_tbl := tk_6 (List.mem_of_getElem? (i := 219) (by decide +kernel))
theorem tw_1420 : (Cond.castable "EchoCouncil" "java/lang/Object") ∈ lw_tbl := tk_6 (List.mem_of_getElem? (i := 220) (by decide +kernel))
theorem tw_1421 : (Cond.castable "EchoCouncil$State" "java/lang/Object") ∈ lw_tbl := tk_6 (List.mem_of_getElem? (i := 221) (by decide +kernel))
theorem tw_1422 : (Cond.castable "EchoCouncil$Rooms" "java/lang/Object") ∈ lw_tbl := tk_6 (List.mem_of_getElem? (i := 222) (by decide +kernel))
theorem tw_1423 : (Cond.castable "EchoCouncil$Echoes" "java/lang/Object") ∈ lw_tbl := tk_6 (List.mem_of_getElem? (i := 223) (by decide +kernel))
theorem tw_1424 : (Cond.castable "EchoCouncil$Singers" "java/lang/Object") ∈ lw_tbl := tk_6 (List.mem_of_getElem? (i := 224) (by decide +kernel))
theorem tw_1425 : (Cond.castable "EchoCouncil$Past" "java/lang/Object") ∈ lw_tbl := tk_6 (List.mem_of_getElem? (i := 225) (by decide +kernel))
theorem tw_1426 : (Cond.castable "EchoCouncil$OrderText" "java/lang/Object") ∈ lw_tbl := tk_6 (List.mem_of_getElem? (i := 226) (by decide +kernel))
theorem tw_1427 : (Cond.castable "EchoCouncil$OrderKind" "java/lang/Object") ∈ lw_tbl := tk_6 (List.mem_of_getElem? (i := 227) (by decide +kernel))
theorem tw_1428 : (Cond.castable "EchoCouncil$Refusal" "java/lang/Object") ∈ lw_tbl := tk_6 (List.mem_of_getElem? (i := 228) (by decide +kernel))
theorem tw_1429 : (Cond.castable "java/lang/StringBuilder" "java/lang/Object") ∈ lw_tbl := tk_6 (List.mem_of_getElem? (i := 229) (by decide +kernel))
theorem tw_1430 : (Cond.castable "java/lang/UnsupportedOperationException" "java/lang/Object") ∈ lw_tbl := tk_6 (List.mem_of_getElem? (i := 230) (by decide +kernel))
theorem tw_1431 : (Cond.castable "java/lang/IllegalArgumentException" "java/lang/Object") ∈ lw_tbl := tk_6 (List.mem_of_getElem? (i := 231) (by decide +kernel))
theorem tw_1432 : (Cond.castable "java/lang/ArrayIndexOutOfBoundsException" "java/lang/Object") ∈ lw_tbl := tk_6 (List.mem_of_getElem? (i := 232) (by decide +kernel))
theorem tw_1433 : (Cond.castable "java/lang/IndexOutOfBoundsException" "java/lang/Object") ∈ lw_tbl := tk_6 (List.mem_of_getElem? (i := 233) (by decide +kernel))
theorem tw_1434 : (Cond.castable "java/util/NoSuchElementException" "java/lang/Object") ∈ lw_tbl := tk_6 (List.mem_of_getElem? (i := 234) (by decide +kernel))
theorem tw_1435 : (Cond.castable "java/lang/ArithmeticException" "java/lang/Object") ∈ lw_tbl := tk_6 (List.mem_of_getElem? (i := 235) (by decide +kernel))
theorem tw_1436 : (Cond.castable "java/lang/String" "java/lang/Object") ∈ lw_tbl := tk_6 (List.mem_of_getElem? (i := 236) (by decide +kernel))
theorem tw_1437 : (Cond.castable "java/lang/StringIndexOutOfBoundsException" "java/lang/Object") ∈ lw_tbl := tk_6 (List.mem_of_getElem? (i := 237) (by decide +kernel))
theorem tw_1438 : (Cond.castable "java/lang/Throwable" "java/lang/Object") ∈ lw_tbl := tk_6 (List.mem_of_getElem? (i := 238) (by decide +kernel))
theorem tw_1439 : (Cond.fieldLink "java/lang/Enum" 7 "java/lang/Enum" "ordinal" "I") ∈ lw_tbl := tk_6 (List.mem_of_getElem? (i := 239) (by decide +kernel))
theorem tw_1440 : (Cond.fieldLink "EchoCouncil$OrderText" 54 "EchoCouncil$OrderKind" "word" "Ljava/lang/String;") ∈ lw_tbl := tk_7 (List.mem_of_getElem? (i := 0) (by decide +kernel))
theorem tw_1441 : (Cond.fieldLink "EchoCouncil$OrderText" 84 "EchoCouncil$OrderKind" "numbers" "I") ∈ lw_tbl := tk_7 (List.mem_of_getElem? (i := 1) (by decide +kernel))
theorem tw_1442 : (Cond.fieldLink "EchoCouncil$OrderText" 93 "EchoCouncil$OrderKind" "digitsOfLast" "I") ∈ lw_tbl := tk_7 (List.mem_of_getElem? (i := 2) (by decide +kernel))
theorem tw_1443 : (Cond.stringRef "EchoCouncil$OrderKind" 95 "night") ∈ lw_tbl := tk_7 (List.mem_of_getElem? (i := 3) (by decide +kernel))
theorem tw_1444 : (Cond.stringRef "EchoCouncil$OrderKind" 65 "room ") ∈ lw_tbl := tk_7 (List.mem_of_getElem? (i := 4) (by decide +kernel))
theorem tw_1445 : (Cond.stringRef "EchoCouncil$OrderKind" 71 "echo ") ∈ lw_tbl := tk_7 (List.mem_of_getElem? (i := 5) (by decide +kernel))
theorem tw_1446 : (Cond.stringRef "EchoCouncil$OrderKind" 74 "singer ") ∈ lw_tbl := tk_7 (List.mem_of_getElem? (i := 6) (by decide +kernel))
theorem tw_1447 : (Cond.stringRef "EchoCouncil$OrderKind" 77 "enter ") ∈ lw_tbl := tk_7 (List.mem_of_getElem? (i := 7) (by decide +kernel))
theorem tw_1448 : (Cond.stringRef "EchoCouncil$OrderKind" 80 "out ") ∈ lw_tbl := tk_7 (List.mem_of_getElem? (i := 8) (by decide +kernel))
theorem tw_1449 : (Cond.stringRef "EchoCouncil$OrderKind" 83 "carry ") ∈ lw_tbl := tk_7 (List.mem_of_getElem? (i := 9) (by decide +kernel))
theorem tw_1450 : (Cond.stringRef "EchoCouncil$OrderKind" 86 "rent ") ∈ lw_tbl := tk_7 (List.mem_of_getElem? (i := 10) (by decide +kernel))
theorem tw_1451 : (Cond.stringRef "EchoCouncil$OrderKind" 89 "back ") ∈ lw_tbl := tk_7 (List.mem_of_getElem? (i := 11) (by decide +kernel))
theorem tw_1452 : (Cond.stringRef "EchoCouncil$OrderKind" 92 "sing ") ∈ lw_tbl := tk_7 (List.mem_of_getElem? (i := 12) (by decide +kernel))
