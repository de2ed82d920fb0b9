def RX0 : String := "DustParish$Acts"
def TX0 : u_T := fun k => match k with
  | 0 => ("DustParish$Acts", "many", "I", false)
  | 1 => ("DustParish$Acts", "first", "I", false)
  | _ => ("DustParish$Acts", "before", "[LDustParish$State;", true)
def tyX0 : Nat → FieldType := fun k => match k with
  | 0 => .int
  | 1 => .int
  | _ => .array (.object "DustParish$State")
abbrev wsX00 : List Cond := u_ws RX0 TX0 3
theorem nmX0 : ∀ a, a < 3 → ∀ b, b < 3 → a ≠ b → (TX0 a).2.1 ≠ (TX0 b).2.1 := by decide +kernel
theorem tyX0_ok : ∀ k, k < 3 → parseFieldDescriptor (TX0 k).2.2.1 = some (tyX0 k) := by decide +kernel
abbrev cX0_init : ByteArray := prog_2_method_1_code
def yX0_init : MethodName := ⟨RX0, "<init>", "()V"⟩
abbrev cX0_remember : ByteArray := prog_2_method_2_code
def yX0_remember : MethodName := ⟨RX0, "remember", "(LDustParish$State;)V"⟩
abbrev cX0_giveBack : ByteArray := prog_2_method_3_code
def yX0_giveBack : MethodName := ⟨RX0, "giveBack", "(LDustParish$State;)V"⟩
abbrev cX0_copy : ByteArray := prog_2_method_4_code
def yX0_copy : MethodName := ⟨RX0, "copy", "(LDustParish$Acts;)V"⟩
def RX1 : String := "DustParish$Course"
def TX1 : u_T := fun k => match k with
  | _ => ("", "", "", false)
def tyX1 : Nat → FieldType := fun k => match k with
  | _ => .int
abbrev wsX10 : List Cond := u_ws RX1 TX1 0
theorem nmX1 : ∀ a, a < 0 → ∀ b, b < 0 → a ≠ b → (TX1 a).2.1 ≠ (TX1 b).2.1 := by decide +kernel
theorem tyX1_ok : ∀ k, k < 0 → parseFieldDescriptor (TX1 k).2.2.1 = some (tyX1 k) := by decide +kernel
abbrev cX1_windOf : ByteArray := prog_3_method_2_code
def yX1_windOf : MethodName := ⟨RX1, "windOf", "(LDustParish$Facts;LDustParish$State;I)I"⟩
abbrev cX1_passMany : ByteArray := prog_3_method_3_code
def yX1_passMany : MethodName := ⟨RX1, "passMany", "(LDustParish$Facts;LDustParish$State;I)V"⟩
abbrev cX1_pass : ByteArray := prog_3_method_4_code
def yX1_pass : MethodName := ⟨RX1, "pass", "(LDustParish$Facts;LDustParish$State;II)V"⟩
abbrev cX1_carry : ByteArray := prog_3_method_5_code
def yX1_carry : MethodName := ⟨RX1, "carry", "(LDustParish$Facts;LDustParish$State;I)V"⟩
abbrev cX1_tithe : ByteArray := prog_3_method_6_code
def yX1_tithe : MethodName := ⟨RX1, "tithe", "(LDustParish$Facts;LDustParish$State;)V"⟩
abbrev cX1_titheOf : ByteArray := prog_3_method_7_code
def yX1_titheOf : MethodName := ⟨RX1, "titheOf", "(LDustParish$Facts;LDustParish$State;I)I"⟩
abbrev cX1_dustInAll : ByteArray := prog_3_method_8_code
def yX1_dustInAll : MethodName := ⟨RX1, "dustInAll", "(LDustParish$Facts;LDustParish$State;)I"⟩
abbrev cX1_heretics : ByteArray := prog_3_method_9_code
def yX1_heretics : MethodName := ⟨RX1, "heretics", "(LDustParish$Facts;LDustParish$State;)I"⟩
abbrev cX1_isUnclean : ByteArray := prog_3_method_10_code
def yX1_isUnclean : MethodName := ⟨RX1, "isUnclean", "(LDustParish$Facts;LDustParish$State;I)Z"⟩
def RX2 : String := "DustParish$Facts"
def TX2 : u_T := fun k => match k with
  | 0 => ("DustParish$Facts", "rooms", "I", false)
  | 1 => ("DustParish$Facts", "kind", "[I", true)
  | 2 => ("DustParish$Facts", "owner", "[I", true)
  | 3 => ("DustParish$Facts", "dust", "[I", true)
  | 4 => ("DustParish$Facts", "settles", "[I", true)
  | 5 => ("DustParish$Facts", "doors", "I", false)
  | 6 => ("DustParish$Facts", "doorOne", "[I", true)
  | 7 => ("DustParish$Facts", "doorOther", "[I", true)
  | 8 => ("DustParish$Facts", "winds", "I", false)
  | 9 => ("DustParish$Facts", "blows", "[I", true)
  | 10 => ("DustParish$Facts", "blowFrom", "[I", true)
  | 11 => ("DustParish$Facts", "blowTo", "[I", true)
  | 12 => ("DustParish$Facts", "tenths", "[I", true)
  | 13 => ("DustParish$Facts", "numbers", "I", false)
  | 14 => ("DustParish$Facts", "calendar", "[I", true)
  | 15 => ("DustParish$Facts", "every", "I", false)
  | 16 => ("DustParish$Facts", "clean", "I", false)
  | 17 => ("DustParish$Facts", "rule", "LDustParish$Rule;", true)
  | 18 => ("DustParish$Facts", "ways", "[I", true)
  | _ => ("DustParish$Facts", "houses", "[I", true)
def tyX2 : Nat → FieldType := fun k => match k with
  | 0 => .int
  | 1 => .array .int
  | 2 => .array .int
  | 3 => .array .int
  | 4 => .array .int
  | 5 => .int
  | 6 => .array .int
  | 7 => .array .int
  | 8 => .int
  | 9 => .array .int
  | 10 => .array .int
  | 11 => .array .int
  | 12 => .array .int
  | 13 => .int
  | 14 => .array .int
  | 15 => .int
  | 16 => .int
  | 17 => .object "DustParish$Rule"
  | 18 => .array .int
  | _ => .array .int
abbrev wsX20 : List Cond := u_ws RX2 TX2 20
theorem nmX2 : ∀ a, a < 20 → ∀ b, b < 20 → a ≠ b → (TX2 a).2.1 ≠ (TX2 b).2.1 := by decide +kernel
theorem tyX2_ok : ∀ k, k < 20 → parseFieldDescriptor (TX2 k).2.2.1 = some (tyX2 k) := by decide +kernel
abbrev cX2_init : ByteArray := prog_4_method_1_code
def yX2_init : MethodName := ⟨RX2, "<init>", "()V"⟩
abbrev cX2_clear : ByteArray := prog_4_method_2_code
def yX2_clear : MethodName := ⟨RX2, "clear", "()V"⟩
abbrev cX2_addDoor : ByteArray := prog_4_method_3_code
def yX2_addDoor : MethodName := ⟨RX2, "addDoor", "(III)V"⟩
abbrev cX2_measure : ByteArray := prog_4_method_4_code
def yX2_measure : MethodName := ⟨RX2, "measure", "()V"⟩
abbrev cX2_shortenBy : ByteArray := prog_4_method_5_code
def yX2_shortenBy : MethodName := ⟨RX2, "shortenBy", "(I)V"⟩
abbrev cX2_wayFrom : ByteArray := prog_4_method_6_code
def yX2_wayFrom : MethodName := ⟨RX2, "wayFrom", "(II)I"⟩
abbrev cX2_hasDoor : ByteArray := prog_4_method_7_code
def yX2_hasDoor : MethodName := ⟨RX2, "hasDoor", "(II)Z"⟩
abbrev cX2_doorsOf : ByteArray := prog_4_method_8_code
def yX2_doorsOf : MethodName := ⟨RX2, "doorsOf", "(I)I"⟩
abbrev cX2_behindFirstDoor : ByteArray := prog_4_method_9_code
def yX2_behindFirstDoor : MethodName := ⟨RX2, "behindFirstDoor", "(I)I"⟩
abbrev cX2_behind : ByteArray := prog_4_method_10_code
def yX2_behind : MethodName := ⟨RX2, "behind", "(II)I"⟩
abbrev cX2_comesTo : ByteArray := prog_4_method_11_code
def yX2_comesTo : MethodName := ⟨RX2, "comesTo", "(I)I"⟩
abbrev cX2_arrives : ByteArray := prog_4_method_12_code
def yX2_arrives : MethodName := ⟨RX2, "arrives", "(II)I"⟩
def RX3 : String := "DustParish$Present"
def TX3 : u_T := fun k => match k with
  | 0 => ("DustParish$Present", "state", "LDustParish$State;", true)
  | 1 => ("DustParish$Present", "acts", "LDustParish$Acts;", true)
  | 2 => ("DustParish$Present", "sights", "LDustParish$Sights;", true)
  | _ => ("DustParish$Present", "refused", "[I", true)
def tyX3 : Nat → FieldType := fun k => match k with
  | 0 => .object "DustParish$State"
  | 1 => .object "DustParish$Acts"
  | 2 => .object "DustParish$Sights"
  | _ => .array .int
abbrev wsX30 : List Cond := u_ws RX3 TX3 4
theorem nmX3 : ∀ a, a < 4 → ∀ b, b < 4 → a ≠ b → (TX3 a).2.1 ≠ (TX3 b).2.1 := by decide +kernel
theorem tyX3_ok : ∀ k, k < 4 → parseFieldDescriptor (TX3 k).2.2.1 = some (tyX3 k) := by decide +kernel
abbrev cX3_init : ByteArray := prog_5_method_1_code
def yX3_init : MethodName := ⟨RX3, "<init>", "()V"⟩
abbrev cX3_begin : ByteArray := prog_5_method_2_code
def yX3_begin : MethodName := ⟨RX3, "begin", "(LDustParish$Facts;)V"⟩
abbrev cX3_copy : ByteArray := prog_5_method_3_code
def yX3_copy : MethodName := ⟨RX3, "copy", "(LDustParish$Present;)V"⟩
def RX4 : String := "DustParish$Reader"
def TX4 : u_T := fun k => match k with
  | 0 => ("DustParish$Reader", "tokens", "LDustParish$Tokens;", true)
  | 1 => ("DustParish$Reader", "rules", "LDustParish$RuleReader;", true)
  | 2 => ("DustParish$Reader", "facts", "LDustParish$Facts;", false)
  | 3 => ("DustParish$Reader", "told", "I", false)
  | 4 => ("DustParish$Reader", "hasCalendar", "Z", false)
  | 5 => ("DustParish$Reader", "hasEvery", "Z", false)
  | 6 => ("DustParish$Reader", "hasClean", "Z", false)
  | _ => ("DustParish$Reader", "hasTithe", "Z", false)
def tyX4 : Nat → FieldType := fun k => match k with
  | 0 => .object "DustParish$Tokens"
  | 1 => .object "DustParish$RuleReader"
  | 2 => .object "DustParish$Facts"
  | 3 => .int
  | 4 => .boolean
  | 5 => .boolean
  | 6 => .boolean
  | _ => .boolean
abbrev wsX40 : List Cond := u_ws RX4 TX4 8
theorem nmX4 : ∀ a, a < 8 → ∀ b, b < 8 → a ≠ b → (TX4 a).2.1 ≠ (TX4 b).2.1 := by decide +kernel
theorem tyX4_ok : ∀ k, k < 8 → parseFieldDescriptor (TX4 k).2.2.1 = some (tyX4 k) := by decide +kernel
abbrev cX4_init : ByteArray := prog_6_method_1_code
def yX4_init : MethodName := ⟨RX4, "<init>", "([BLDustParish$Facts;)V"⟩
abbrev cX4_place : ByteArray := prog_6_method_2_code
def yX4_place : MethodName := ⟨RX4, "place", "()I"⟩
abbrev cX4_read : ByteArray := prog_6_method_3_code
def yX4_read : MethodName := ⟨RX4, "read", "(ILDustParish$Facts;)I"⟩
abbrev cX4_readLine : ByteArray := prog_6_method_4_code
def yX4_readLine : MethodName := ⟨RX4, "readLine", "()I"⟩
abbrev cX4_readNumber : ByteArray := prog_6_method_5_code
def yX4_readNumber : MethodName := ⟨RX4, "readNumber", "(II)I"⟩
abbrev cX4_readRoomNumber : ByteArray := prog_6_method_6_code
def yX4_readRoomNumber : MethodName := ⟨RX4, "readRoomNumber", "()I"⟩
abbrev cX4_lookAtNumber : ByteArray := prog_6_method_7_code
def yX4_lookAtNumber : MethodName := ⟨RX4, "lookAtNumber", "()I"⟩
abbrev cX4_lookAtRoomNumber : ByteArray := prog_6_method_8_code
def yX4_lookAtRoomNumber : MethodName := ⟨RX4, "lookAtRoomNumber", "()I"⟩
abbrev cX4_readRoom : ByteArray := prog_6_method_9_code
def yX4_readRoom : MethodName := ⟨RX4, "readRoom", "(I)I"⟩
abbrev cX4_readDoor : ByteArray := prog_6_method_10_code
def yX4_readDoor : MethodName := ⟨RX4, "readDoor", "()I"⟩
abbrev cX4_readWind : ByteArray := prog_6_method_11_code
def yX4_readWind : MethodName := ⟨RX4, "readWind", "()I"⟩
abbrev cX4_readBlow : ByteArray := prog_6_method_12_code
def yX4_readBlow : MethodName := ⟨RX4, "readBlow", "()I"⟩
abbrev cX4_readCalendar : ByteArray := prog_6_method_13_code
def yX4_readCalendar : MethodName := ⟨RX4, "readCalendar", "()I"⟩
abbrev cX4_readEvery : ByteArray := prog_6_method_14_code
def yX4_readEvery : MethodName := ⟨RX4, "readEvery", "()I"⟩
abbrev cX4_readClean : ByteArray := prog_6_method_15_code
def yX4_readClean : MethodName := ⟨RX4, "readClean", "()I"⟩
def RX5 : String := "DustParish$Rule"
def TX5 : u_T := fun k => match k with
  | 0 => ("DustParish$Rule", "values", "[I", true)
  | 1 => ("DustParish$Rule", "size", "I", false)
  | 2 => ("DustParish$Rule", "code", "[I", true)
  | _ => ("DustParish$Rule", "stack", "[I", true)
def tyX5 : Nat → FieldType := fun k => match k with
  | 0 => .array .int
  | 1 => .int
  | 2 => .array .int
  | _ => .array .int
abbrev wsX50 : List Cond := u_ws RX5 TX5 4
theorem nmX5 : ∀ a, a < 4 → ∀ b, b < 4 → a ≠ b → (TX5 a).2.1 ≠ (TX5 b).2.1 := by decide +kernel
theorem tyX5_ok : ∀ k, k < 4 → parseFieldDescriptor (TX5 k).2.2.1 = some (tyX5 k) := by decide +kernel
abbrev cX5_init : ByteArray := prog_7_method_1_code
def yX5_init : MethodName := ⟨RX5, "<init>", "()V"⟩
abbrev cX5_clear : ByteArray := prog_7_method_2_code
def yX5_clear : MethodName := ⟨RX5, "clear", "()V"⟩
abbrev cX5_isEmpty : ByteArray := prog_7_method_3_code
def yX5_isEmpty : MethodName := ⟨RX5, "isEmpty", "()Z"⟩
abbrev cX5_put : ByteArray := prog_7_method_4_code
def yX5_put : MethodName := ⟨RX5, "put", "(I)V"⟩
abbrev cX5_amount : ByteArray := prog_7_method_5_code
def yX5_amount : MethodName := ⟨RX5, "amount", "()I"⟩
abbrev cX5_join : ByteArray := prog_7_method_6_code
def yX5_join : MethodName := ⟨RX5, "join", "(III)I"⟩
def RX6 : String := "DustParish$RuleReader"
def TX6 : u_T := fun k => match k with
  | 0 => ("DustParish$RuleReader", "waiting", "[I", true)
  | 1 => ("DustParish$RuleReader", "many", "I", false)
  | 2 => ("DustParish$RuleReader", "depth", "I", false)
  | 3 => ("DustParish$RuleReader", "nots", "I", false)
  | 4 => ("DustParish$RuleReader", "wantsPart", "Z", false)
  | 5 => ("DustParish$RuleReader", "notMayStand", "Z", false)
  | 6 => ("DustParish$RuleReader", "tokens", "LDustParish$Tokens;", true)
  | _ => ("DustParish$RuleReader", "rule", "LDustParish$Rule;", false)
def tyX6 : Nat → FieldType := fun k => match k with
  | 0 => .array .int
  | 1 => .int
  | 2 => .int
  | 3 => .int
  | 4 => .boolean
  | 5 => .boolean
  | 6 => .object "DustParish$Tokens"
  | _ => .object "DustParish$Rule"
abbrev wsX60 : List Cond := u_ws RX6 TX6 8
theorem nmX6 : ∀ a, a < 8 → ∀ b, b < 8 → a ≠ b → (TX6 a).2.1 ≠ (TX6 b).2.1 := by decide +kernel
theorem tyX6_ok : ∀ k, k < 8 → parseFieldDescriptor (TX6 k).2.2.1 = some (tyX6 k) := by decide +kernel
abbrev cX6_init : ByteArray := prog_8_method_1_code
def yX6_init : MethodName := ⟨RX6, "<init>", "(LDustParish$Tokens;LDustParish$Rule;)V"⟩
abbrev cX6_read : ByteArray := prog_8_method_2_code
def yX6_read : MethodName := ⟨RX6, "read", "(LDustParish$Rule;)I"⟩
abbrev cX6_wantNot : ByteArray := prog_8_method_3_code
def yX6_wantNot : MethodName := ⟨RX6, "wantNot", "()V"⟩
abbrev cX6_wantPart : ByteArray := prog_8_method_4_code
def yX6_wantPart : MethodName := ⟨RX6, "wantPart", "()V"⟩
abbrev cX6_readPart : ByteArray := prog_8_method_5_code
def yX6_readPart : MethodName := ⟨RX6, "readPart", "()I"⟩
abbrev cX6_valueAtHand : ByteArray := prog_8_method_6_code
def yX6_valueAtHand : MethodName := ⟨RX6, "valueAtHand", "()I"⟩
abbrev cX6_readSign : ByteArray := prog_8_method_7_code
def yX6_readSign : MethodName := ⟨RX6, "readSign", "()I"⟩
abbrev cX6_close : ByteArray := prog_8_method_8_code
def yX6_close : MethodName := ⟨RX6, "close", "()I"⟩
abbrev cX6_signAtHand : ByteArray := prog_8_method_9_code
def yX6_signAtHand : MethodName := ⟨RX6, "signAtHand", "()I"⟩
abbrev cX6_strengthOf : ByteArray := prog_8_method_10_code
def yX6_strengthOf : MethodName := ⟨RX6, "strengthOf", "(I)I"⟩
abbrev cX6_strengthWaiting : ByteArray := prog_8_method_11_code
def yX6_strengthWaiting : MethodName := ⟨RX6, "strengthWaiting", "()I"⟩
abbrev cX6_release : ByteArray := prog_8_method_12_code
def yX6_release : MethodName := ⟨RX6, "release", "(I)V"⟩
abbrev cX6_hold : ByteArray := prog_8_method_13_code
def yX6_hold : MethodName := ⟨RX6, "hold", "(I)I"⟩
def RX7 : String := "DustParish$Sights"
def TX7 : u_T := fun k => match k with
  | 0 => ("DustParish$Sights", "many", "I", false)
  | 1 => ("DustParish$Sights", "room", "[I", true)
  | 2 => ("DustParish$Sights", "ahead", "[I", true)
  | _ => ("DustParish$Sights", "much", "[I", true)
def tyX7 : Nat → FieldType := fun k => match k with
  | 0 => .int
  | 1 => .array .int
  | 2 => .array .int
  | _ => .array .int
abbrev wsX70 : List Cond := u_ws RX7 TX7 4
theorem nmX7 : ∀ a, a < 4 → ∀ b, b < 4 → a ≠ b → (TX7 a).2.1 ≠ (TX7 b).2.1 := by decide +kernel
theorem tyX7_ok : ∀ k, k < 4 → parseFieldDescriptor (TX7 k).2.2.1 = some (tyX7 k) := by decide +kernel
abbrev cX7_init : ByteArray := prog_9_method_1_code
def yX7_init : MethodName := ⟨RX7, "<init>", "()V"⟩
abbrev cX7_add : ByteArray := prog_9_method_2_code
def yX7_add : MethodName := ⟨RX7, "add", "(III)V"⟩
abbrev cX7_lastDay : ByteArray := prog_9_method_3_code
def yX7_lastDay : MethodName := ⟨RX7, "lastDay", "()I"⟩
abbrev cX7_areSo : ByteArray := prog_9_method_4_code
def yX7_areSo : MethodName := ⟨RX7, "areSo", "(ILDustParish$State;)Z"⟩
abbrev cX7_copy : ByteArray := prog_9_method_5_code
def yX7_copy : MethodName := ⟨RX7, "copy", "(LDustParish$Sights;)V"⟩
def RX8 : String := "DustParish$State"
def TX8 : u_T := fun k => match k with
  | 0 => ("DustParish$State", "day", "I", false)
  | 1 => ("DustParish$State", "taken", "I", false)
  | 2 => ("DustParish$State", "stolen", "I", false)
  | 3 => ("DustParish$State", "dust", "[I", true)
  | 4 => ("DustParish$State", "brought", "[I", true)
  | _ => ("DustParish$State", "calendar", "[I", true)
def tyX8 : Nat → FieldType := fun k => match k with
  | 0 => .int
  | 1 => .int
  | 2 => .int
  | 3 => .array .int
  | 4 => .array .int
  | _ => .array .int
abbrev wsX80 : List Cond := u_ws RX8 TX8 6
theorem nmX8 : ∀ a, a < 6 → ∀ b, b < 6 → a ≠ b → (TX8 a).2.1 ≠ (TX8 b).2.1 := by decide +kernel
theorem tyX8_ok : ∀ k, k < 6 → parseFieldDescriptor (TX8 k).2.2.1 = some (tyX8 k) := by decide +kernel
abbrev cX8_init : ByteArray := prog_10_method_1_code
def yX8_init : MethodName := ⟨RX8, "<init>", "()V"⟩
abbrev cX8_begin : ByteArray := prog_10_method_2_code
def yX8_begin : MethodName := ⟨RX8, "begin", "(LDustParish$Facts;)V"⟩
abbrev cX8_copy : ByteArray := prog_10_method_3_code
def yX8_copy : MethodName := ⟨RX8, "copy", "(LDustParish$State;)V"⟩
abbrev cX8_lay : ByteArray := prog_10_method_4_code
def yX8_lay : MethodName := ⟨RX8, "lay", "(II)V"⟩
abbrev cX8_bring : ByteArray := prog_10_method_5_code
def yX8_bring : MethodName := ⟨RX8, "bring", "(III)V"⟩
abbrev cX8_steal : ByteArray := prog_10_method_6_code
def yX8_steal : MethodName := ⟨RX8, "steal", "(II)I"⟩
def RX9 : String := "DustParish$Tokens"
def TX9 : u_T := fun k => match k with
  | 0 => ("DustParish$Tokens", "what", "I", false)
  | 1 => ("DustParish$Tokens", "start", "I", false)
  | 2 => ("DustParish$Tokens", "value", "I", false)
  | 3 => ("DustParish$Tokens", "tooLong", "Z", false)
  | 4 => ("DustParish$Tokens", "end", "I", false)
  | 5 => ("DustParish$Tokens", "length", "I", false)
  | _ => ("DustParish$Tokens", "text", "[B", true)
def tyX9 : Nat → FieldType := fun k => match k with
  | 0 => .int
  | 1 => .int
  | 2 => .int
  | 3 => .boolean
  | 4 => .int
  | 5 => .int
  | _ => .array .byte
abbrev wsX90 : List Cond := u_ws RX9 TX9 7
theorem nmX9 : ∀ a, a < 7 → ∀ b, b < 7 → a ≠ b → (TX9 a).2.1 ≠ (TX9 b).2.1 := by decide +kernel
theorem tyX9_ok : ∀ k, k < 7 → parseFieldDescriptor (TX9 k).2.2.1 = some (tyX9 k) := by decide +kernel
abbrev cX9_init : ByteArray := prog_11_method_1_code
def yX9_init : MethodName := ⟨RX9, "<init>", "([B)V"⟩
abbrev cX9_begin : ByteArray := prog_11_method_2_code
def yX9_begin : MethodName := ⟨RX9, "begin", "(I)V"⟩
abbrev cX9_step : ByteArray := prog_11_method_3_code
def yX9_step : MethodName := ⟨RX9, "step", "()V"⟩
abbrev cX9_takeNumber : ByteArray := prog_11_method_4_code
def yX9_takeNumber : MethodName := ⟨RX9, "takeNumber", "()V"⟩
abbrev cX9_isWord : ByteArray := prog_11_method_5_code
def yX9_isWord : MethodName := ⟨RX9, "isWord", "(Ljava/lang/String;)Z"⟩
abbrev cX9_isSign : ByteArray := prog_11_method_6_code
def yX9_isSign : MethodName := ⟨RX9, "isSign", "(C)Z"⟩
abbrev cX9_isBlank : ByteArray := prog_11_method_7_code
def yX9_isBlank : MethodName := ⟨RX9, "isBlank", "(I)Z"⟩
abbrev cX9_isLetter : ByteArray := prog_11_method_8_code
def yX9_isLetter : MethodName := ⟨RX9, "isLetter", "(I)Z"⟩
abbrev cX9_isDigit : ByteArray := prog_11_method_9_code
def yX9_isDigit : MethodName := ⟨RX9, "isDigit", "(I)Z"⟩
def RX10 : String := "DustParish"
def TX10 : u_T := fun k => match k with
  | 0 => ("DustParish", "tape", "[B", true)
  | 1 => ("DustParish", "tapeLength", "I", false)
  | 2 => ("DustParish", "faultPlace", "I", false)
  | 3 => ("DustParish", "facts", "LDustParish$Facts;", false)
  | 4 => ("DustParish", "spareFacts", "LDustParish$Facts;", false)
  | 5 => ("DustParish", "reader", "LDustParish$Reader;", true)
  | 6 => ("DustParish", "now", "LDustParish$Present;", true)
  | 7 => ("DustParish", "kept", "LDustParish$Present;", true)
  | 8 => ("DustParish", "hasImage", "Z", false)
  | 9 => ("DustParish", "trial", "LDustParish$State;", true)
  | 10 => ("DustParish", "windRow", "[I", true)
  | 11 => ("DustParish", "bestRow", "[I", true)
  | 12 => ("DustParish", "grains", "[I", true)
  | 13 => ("DustParish", "loads", "[I", true)
  | _ => ("DustParish", "walks", "[I", true)
def tyX10 : Nat → FieldType := fun k => match k with
  | 0 => .array .byte
  | 1 => .int
  | 2 => .int
  | 3 => .object "DustParish$Facts"
  | 4 => .object "DustParish$Facts"
  | 5 => .object "DustParish$Reader"
  | 6 => .object "DustParish$Present"
  | 7 => .object "DustParish$Present"
  | 8 => .boolean
  | 9 => .object "DustParish$State"
  | 10 => .array .int
  | 11 => .array .int
  | 12 => .array .int
  | 13 => .array .int
  | _ => .array .int
abbrev wsX100 : List Cond := u_ws RX10 TX10 15
theorem nmX10 : ∀ a, a < 15 → ∀ b, b < 15 → a ≠ b → (TX10 a).2.1 ≠ (TX10 b).2.1 := by decide +kernel
theorem tyX10_ok : ∀ k, k < 15 → parseFieldDescriptor (TX10 k).2.2.1 = some (tyX10 k) := by decide +kernel
abbrev cX10_init : ByteArray := prog_1_method_1_code
def yX10_init : MethodName := ⟨RX10, "<init>", "()V"⟩
abbrev cX10_feed : ByteArray := prog_1_method_2_code
def yX10_feed : MethodName := ⟨RX10, "feed", "(IIIII)I"⟩
abbrev cX10_append : ByteArray := prog_1_method_3_code
def yX10_append : MethodName := ⟨RX10, "append", "(I)V"⟩
abbrev cX10_parish : ByteArray := prog_1_method_4_code
def yX10_parish : MethodName := ⟨RX10, "parish", "(I)I"⟩
abbrev cX10_fault : ByteArray := prog_1_method_5_code
def yX10_fault : MethodName := ⟨RX10, "fault", "()I"⟩
abbrev cX10_count : ByteArray := prog_1_method_6_code
def yX10_count : MethodName := ⟨RX10, "count", "(I)I"⟩
abbrev cX10_room : ByteArray := prog_1_method_7_code
def yX10_room : MethodName := ⟨RX10, "room", "(II)I"⟩
abbrev cX10_far : ByteArray := prog_1_method_8_code
def yX10_far : MethodName := ⟨RX10, "far", "(II)I"⟩
abbrev cX10_near : ByteArray := prog_1_method_9_code
def yX10_near : MethodName := ⟨RX10, "near", "(II)I"⟩
abbrev cX10_blow : ByteArray := prog_1_method_10_code
def yX10_blow : MethodName := ⟨RX10, "blow", "(III)I"⟩
abbrev cX10_wind : ByteArray := prog_1_method_11_code
def yX10_wind : MethodName := ⟨RX10, "wind", "(I)I"⟩
abbrev cX10_days : ByteArray := prog_1_method_12_code
def yX10_days : MethodName := ⟨RX10, "days", "(I)I"⟩
abbrev cX10_sweep : ByteArray := prog_1_method_13_code
def yX10_sweep : MethodName := ⟨RX10, "sweep", "(III)I"⟩
abbrev cX10_shake : ByteArray := prog_1_method_14_code
def yX10_shake : MethodName := ⟨RX10, "shake", "(II)I"⟩
abbrev cX10_sneeze : ByteArray := prog_1_method_15_code
def yX10_sneeze : MethodName := ⟨RX10, "sneeze", "(II)I"⟩
abbrev cX10_plan : ByteArray := prog_1_method_16_code
def yX10_plan : MethodName := ⟨RX10, "plan", "(II)I"⟩
abbrev cX10_undo : ByteArray := prog_1_method_17_code
def yX10_undo : MethodName := ⟨RX10, "undo", "()I"⟩
abbrev cX10_then : ByteArray := prog_1_method_18_code
def yX10_then : MethodName := ⟨RX10, "then", "(II)I"⟩
abbrev cX10_taken : ByteArray := prog_1_method_19_code
def yX10_taken : MethodName := ⟨RX10, "taken", "(I)I"⟩
abbrev cX10_thick : ByteArray := prog_1_method_20_code
def yX10_thick : MethodName := ⟨RX10, "thick", "(II)I"⟩
abbrev cX10_heresy : ByteArray := prog_1_method_21_code
def yX10_heresy : MethodName := ⟨RX10, "heresy", "()I"⟩
abbrev cX10_poorest : ByteArray := prog_1_method_22_code
def yX10_poorest : MethodName := ⟨RX10, "poorest", "(I)I"⟩
abbrev cX10_fullest : ByteArray := prog_1_method_23_code
def yX10_fullest : MethodName := ⟨RX10, "fullest", "(I)I"⟩
abbrev cX10_change : ByteArray := prog_1_method_24_code
def yX10_change : MethodName := ⟨RX10, "change", "(I)I"⟩
abbrev cX10_tryChange : ByteArray := prog_1_method_25_code
def yX10_tryChange : MethodName := ⟨RX10, "tryChange", "(III)V"⟩
abbrev cX10_often : ByteArray := prog_1_method_26_code
def yX10_often : MethodName := ⟨RX10, "often", "(I)I"⟩
abbrev cX10_lost : ByteArray := prog_1_method_27_code
def yX10_lost : MethodName := ⟨RX10, "lost", "(I)I"⟩
abbrev cX10_order : ByteArray := prog_1_method_28_code
def yX10_order : MethodName := ⟨RX10, "order", "(II)I"⟩
abbrev cX10_findOrder : ByteArray := prog_1_method_29_code
def yX10_findOrder : MethodName := ⟨RX10, "findOrder", "(I)I"⟩
abbrev cX10_nextRow : ByteArray := prog_1_method_30_code
def yX10_nextRow : MethodName := ⟨RX10, "nextRow", "([II)Z"⟩
abbrev cX10_swap : ByteArray := prog_1_method_31_code
def yX10_swap : MethodName := ⟨RX10, "swap", "([III)V"⟩
abbrev cX10_alms : ByteArray := prog_1_method_32_code
def yX10_alms : MethodName := ⟨RX10, "alms", "()I"⟩
abbrev cX10_round : ByteArray := prog_1_method_33_code
def yX10_round : MethodName := ⟨RX10, "round", "(II)I"⟩
abbrev cX10_walkAll : ByteArray := prog_1_method_34_code
def yX10_walkAll : MethodName := ⟨RX10, "walkAll", "(II)V"⟩
abbrev cX10_walkTo : ByteArray := prog_1_method_35_code
def yX10_walkTo : MethodName := ⟨RX10, "walkTo", "(III)I"⟩
abbrev cX10_shorter : ByteArray := prog_1_method_36_code
def yX10_shorter : MethodName := ⟨RX10, "shorter", "(II)I"⟩
abbrev cX10_shares : ByteArray := prog_1_method_37_code
def yX10_shares : MethodName := ⟨RX10, "shares", "(I)I"⟩
abbrev cX10_evenest : ByteArray := prog_1_method_38_code
def yX10_evenest : MethodName := ⟨RX10, "evenest", "(III)I"⟩
abbrev cX10_from : ByteArray := prog_1_method_39_code
def yX10_from : MethodName := ⟨RX10, "from", "(III)I"⟩
abbrev cX10_carryGrains : ByteArray := prog_1_method_40_code
def yX10_carryGrains : MethodName := ⟨RX10, "carryGrains", "(I)V"⟩
abbrev cX10_lend : ByteArray := prog_1_method_41_code
def yX10_lend : MethodName := ⟨RX10, "lend", "(I)I"⟩
abbrev cX10_riches : ByteArray := prog_1_method_42_code
def yX10_riches : MethodName := ⟨RX10, "riches", "(I)I"⟩
abbrev cX10_see : ByteArray := prog_1_method_43_code
def yX10_see : MethodName := ⟨RX10, "see", "(III)I"⟩
abbrev cX10_hand : ByteArray := prog_1_method_44_code
def yX10_hand : MethodName := ⟨RX10, "hand", "(I)I"⟩
abbrev cX10_wouldBeSo : ByteArray := prog_1_method_45_code
def yX10_wouldBeSo : MethodName := ⟨RX10, "wouldBeSo", "(II)Z"⟩
abbrev cX10_forget : ByteArray := prog_1_method_46_code
def yX10_forget : MethodName := ⟨RX10, "forget", "()V"⟩
abbrev cX10_game : ByteArray := prog_1_method_47_code
def yX10_game : MethodName := ⟨RX10, "game", "(III)I"⟩
abbrev cX10_lowestRoom : ByteArray := prog_1_method_48_code
def yX10_lowestRoom : MethodName := ⟨RX10, "lowestRoom", "(I)I"⟩
abbrev cX10_rests : ByteArray := prog_1_method_49_code
def yX10_rests : MethodName := ⟨RX10, "rests", "(IIII)Z"⟩
abbrev cX10_lossOf : ByteArray := prog_1_method_50_code
def yX10_lossOf : MethodName := ⟨RX10, "lossOf", "(IIII)I"⟩
abbrev cX10_years : ByteArray := prog_1_method_51_code
def yX10_years : MethodName := ⟨RX10, "years", "(III)I"⟩
abbrev cX10_nextSeed : ByteArray := prog_1_method_52_code
def yX10_nextSeed : MethodName := ⟨RX10, "nextSeed", "(I)I"⟩
abbrev cX10_draw : ByteArray := prog_1_method_53_code
def yX10_draw : MethodName := ⟨RX10, "draw", "(II)I"⟩
abbrev cX10_happen : ByteArray := prog_1_method_54_code
def yX10_happen : MethodName := ⟨RX10, "happen", "(II)V"⟩
abbrev cX10_fullestTrialRoom : ByteArray := prog_1_method_55_code
def yX10_fullestTrialRoom : MethodName := ⟨RX10, "fullestTrialRoom", "()I"⟩
abbrev cX10_image : ByteArray := prog_1_method_56_code
def yX10_image : MethodName := ⟨RX10, "image", "()V"⟩
abbrev cX10_restore : ByteArray := prog_1_method_57_code
def yX10_restore : MethodName := ⟨RX10, "restore", "()Z"⟩
abbrev cX10_needRoom : ByteArray := prog_1_method_58_code
def yX10_needRoom : MethodName := ⟨RX10, "needRoom", "(I)V"⟩
abbrev cX10_needAhead : ByteArray := prog_1_method_59_code
def yX10_needAhead : MethodName := ⟨RX10, "needAhead", "(I)V"⟩
abbrev cX10_refuse : ByteArray := prog_1_method_60_code
def yX10_refuse : MethodName := ⟨RX10, "refuse", "(I)I"⟩
abbrev cX10_tryDays : ByteArray := prog_1_method_61_code
def yX10_tryDays : MethodName := ⟨RX10, "tryDays", "(I)V"⟩
def RX11 : String := "DustParishModel"
def TX11 : u_T := fun k => match k with
  | 0 => ("DustParishModel", "kinds", "[Ljava/lang/String;", true)
  | 1 => ("DustParishModel", "values", "[Ljava/lang/String;", true)
  | 2 => ("DustParishModel", "code", "I", false)
  | 3 => ("DustParishModel", "told", "[I", true)
  | 4 => ("DustParishModel", "kind", "[I", true)
  | 5 => ("DustParishModel", "owner", "[I", true)
  | 6 => ("DustParishModel", "dustTold", "[I", true)
  | 7 => ("DustParishModel", "settles", "[I", true)
  | 8 => ("DustParishModel", "doorA", "[I", true)
  | 9 => ("DustParishModel", "doorB", "[I", true)
  | 10 => ("DustParishModel", "steps", "[I", true)
  | 11 => ("DustParishModel", "blows", "[I", true)
  | 12 => ("DustParishModel", "blowFrom", "[I", true)
  | 13 => ("DustParishModel", "blowTo", "[I", true)
  | 14 => ("DustParishModel", "blowBy", "[I", true)
  | 15 => ("DustParishModel", "calendarTold", "[I", true)
  | 16 => ("DustParishModel", "signs", "[I", true)
  | 17 => ("DustParishModel", "status", "[I", true)
  | 18 => ("DustParishModel", "tape", "[I", true)
  | 19 => ("DustParishModel", "taped", "I", false)
  | 20 => ("DustParishModel", "at", "I", false)
  | 21 => ("DustParishModel", "size", "I", false)
  | 22 => ("DustParishModel", "token", "I", false)
  | 23 => ("DustParishModel", "number", "I", false)
  | 24 => ("DustParishModel", "begins", "I", false)
  | 25 => ("DustParishModel", "stops", "I", false)
  | 26 => ("DustParishModel", "bad", "I", false)
  | 27 => ("DustParishModel", "badPlace", "I", false)
  | 28 => ("DustParishModel", "faultPlace", "I", false)
  | 29 => ("DustParishModel", "dust", "[I", true)
  | 30 => ("DustParishModel", "brought", "[I", true)
  | 31 => ("DustParishModel", "calendar", "[I", true)
  | 32 => ("DustParishModel", "past", "[I", true)
  | 33 => ("DustParishModel", "day", "I", false)
  | 34 => ("DustParishModel", "taken", "I", false)
  | 35 => ("DustParishModel", "stolen", "I", false)
  | 36 => ("DustParishModel", "acts", "I", false)
  | 37 => ("DustParishModel", "seen", "I", false)
  | 38 => ("DustParishModel", "asked", "[I", true)
  | 39 => ("DustParishModel", "stack", "[I", true)
  | 40 => ("DustParishModel", "tithes", "[I", true)
  | 41 => ("DustParishModel", "ways", "[I", true)
  | 42 => ("DustParishModel", "rowThen", "[I", true)
  | 43 => ("DustParishModel", "order", "[I", true)
  | 44 => ("DustParishModel", "bestOrder", "[I", true)
  | 45 => ("DustParishModel", "mostByOrder", "I", false)
  | 46 => ("DustParishModel", "rounds", "[I", true)
  | 47 => ("DustParishModel", "loads", "[I", true)
  | 48 => ("DustParishModel", "grain", "[I", true)
  | 49 => ("DustParishModel", "seenRoom", "[I", true)
  | 50 => ("DustParishModel", "seenDays", "[I", true)
  | 51 => ("DustParishModel", "seenMuch", "[I", true)
  | 52 => ("DustParishModel", "rowSeen", "[I", true)
  | 53 => ("DustParishModel", "seedNow", "I", false)
  | 54 => ("DustParishModel", "hasImage", "Z", false)
  | 55 => ("DustParishModel", "actsThen", "I", false)
  | 56 => ("DustParishModel", "seenThen", "I", false)
  | 57 => ("DustParishModel", "imageRow", "[I", true)
  | 58 => ("DustParishModel", "pastThen", "[I", true)
  | 59 => ("DustParishModel", "seenRoomThen", "[I", true)
  | 60 => ("DustParishModel", "seenDaysThen", "[I", true)
  | 61 => ("DustParishModel", "seenMuchThen", "[I", true)
  | _ => ("DustParishModel", "statusThen", "[I", true)
def tyX11 : Nat → FieldType := fun k => match k with
  | 0 => .array (.object "java/lang/String")
  | 1 => .array (.object "java/lang/String")
  | 2 => .int
  | 3 => .array .int
  | 4 => .array .int
  | 5 => .array .int
  | 6 => .array .int
  | 7 => .array .int
  | 8 => .array .int
  | 9 => .array .int
  | 10 => .array .int
  | 11 => .array .int
  | 12 => .array .int
  | 13 => .array .int
  | 14 => .array .int
  | 15 => .array .int
  | 16 => .array .int
  | 17 => .array .int
  | 18 => .array .int
  | 19 => .int
  | 20 => .int
  | 21 => .int
  | 22 => .int
  | 23 => .int
  | 24 => .int
  | 25 => .int
  | 26 => .int
  | 27 => .int
  | 28 => .int
  | 29 => .array .int
  | 30 => .array .int
  | 31 => .array .int
  | 32 => .array .int
  | 33 => .int
  | 34 => .int
  | 35 => .int
  | 36 => .int
  | 37 => .int
  | 38 => .array .int
  | 39 => .array .int
  | 40 => .array .int
  | 41 => .array .int
  | 42 => .array .int
  | 43 => .array .int
  | 44 => .array .int
  | 45 => .int
  | 46 => .array .int
  | 47 => .array .int
  | 48 => .array .int
  | 49 => .array .int
  | 50 => .array .int
  | 51 => .array .int
  | 52 => .array .int
  | 53 => .int
  | 54 => .boolean
  | 55 => .int
  | 56 => .int
  | 57 => .array .int
  | 58 => .array .int
  | 59 => .array .int
  | 60 => .array .int
  | 61 => .array .int
  | _ => .array .int
abbrev wsX110 : List Cond := u_ws RX11 TX11 63
theorem nmX11 : ∀ a, a < 63 → ∀ b, b < 63 → a ≠ b → (TX11 a).2.1 ≠ (TX11 b).2.1 := by decide +kernel
theorem tyX11_ok : ∀ k, k < 63 → parseFieldDescriptor (TX11 k).2.2.1 = some (tyX11 k) := by decide +kernel
abbrev cX11_init : ByteArray := prog_13_method_1_code
def yX11_init : MethodName := ⟨RX11, "<init>", "()V"⟩
abbrev cX11_thrown : ByteArray := prog_13_method_2_code
def yX11_thrown : MethodName := ⟨RX11, "thrown", "()I"⟩
abbrev cX11_fail : ByteArray := prog_13_method_3_code
def yX11_fail : MethodName := ⟨RX11, "fail", "(I)I"⟩
abbrev cX11_isIn : ByteArray := prog_13_method_4_code
def yX11_isIn : MethodName := ⟨RX11, "isIn", "(JJJ)Z"⟩
abbrev cX11_isOf : ByteArray := prog_13_method_5_code
def yX11_isOf : MethodName := ⟨RX11, "isOf", "(II)Z"⟩
abbrev cX11_isRoom : ByteArray := prog_13_method_6_code
def yX11_isRoom : MethodName := ⟨RX11, "isRoom", "(I)Z"⟩
abbrev cX11_isAhead : ByteArray := prog_13_method_7_code
def yX11_isAhead : MethodName := ⟨RX11, "isAhead", "(I)Z"⟩
abbrev cX11_feed : ByteArray := prog_13_method_8_code
def yX11_feed : MethodName := ⟨RX11, "feed", "(IIIII)I"⟩
abbrev cX11_byteAt : ByteArray := prog_13_method_9_code
def yX11_byteAt : MethodName := ⟨RX11, "byteAt", "(I)I"⟩
abbrev cX11_isLetter : ByteArray := prog_13_method_10_code
def yX11_isLetter : MethodName := ⟨RX11, "isLetter", "(I)Z"⟩
abbrev cX11_isDigit : ByteArray := prog_13_method_11_code
def yX11_isDigit : MethodName := ⟨RX11, "isDigit", "(I)Z"⟩
abbrev cX11_isMark : ByteArray := prog_13_method_12_code
def yX11_isMark : MethodName := ⟨RX11, "isMark", "(I)Z"⟩
abbrev cX11_stepOn : ByteArray := prog_13_method_13_code
def yX11_stepOn : MethodName := ⟨RX11, "stepOn", "()V"⟩
abbrev cX11_wrong : ByteArray := prog_13_method_14_code
def yX11_wrong : MethodName := ⟨RX11, "wrong", "(I)V"⟩
abbrev cX11_is : ByteArray := prog_13_method_15_code
def yX11_is : MethodName := ⟨RX11, "is", "(Ljava/lang/String;)Z"⟩
abbrev cX11_which : ByteArray := prog_13_method_16_code
def yX11_which : MethodName := ⟨RX11, "which", "([Ljava/lang/String;)I"⟩
abbrev cX11_isMarked : ByteArray := prog_13_method_17_code
def yX11_isMarked : MethodName := ⟨RX11, "isMarked", "(I)Z"⟩
abbrev cX11_mark : ByteArray := prog_13_method_18_code
def yX11_mark : MethodName := ⟨RX11, "mark", "(I)V"⟩
abbrev cX11_numberNow : ByteArray := prog_13_method_19_code
def yX11_numberNow : MethodName := ⟨RX11, "numberNow", "(II)I"⟩
abbrev cX11_readNumber : ByteArray := prog_13_method_20_code
def yX11_readNumber : MethodName := ⟨RX11, "readNumber", "(II)I"⟩
abbrev cX11_roomNow : ByteArray := prog_13_method_21_code
def yX11_roomNow : MethodName := ⟨RX11, "roomNow", "()I"⟩
abbrev cX11_readRoom : ByteArray := prog_13_method_22_code
def yX11_readRoom : MethodName := ⟨RX11, "readRoom", "()I"⟩
abbrev cX11_lay : ByteArray := prog_13_method_23_code
def yX11_lay : MethodName := ⟨RX11, "lay", "(I)V"⟩
abbrev cX11_readPart : ByteArray := prog_13_method_24_code
def yX11_readPart : MethodName := ⟨RX11, "readPart", "(I)V"⟩
abbrev cX11_readProduct : ByteArray := prog_13_method_25_code
def yX11_readProduct : MethodName := ⟨RX11, "readProduct", "(I)V"⟩
abbrev cX11_readSum : ByteArray := prog_13_method_26_code
def yX11_readSum : MethodName := ⟨RX11, "readSum", "(I)V"⟩
abbrev cX11_readNot : ByteArray := prog_13_method_27_code
def yX11_readNot : MethodName := ⟨RX11, "readNot", "(I)V"⟩
abbrev cX11_readAnd : ByteArray := prog_13_method_28_code
def yX11_readAnd : MethodName := ⟨RX11, "readAnd", "(I)V"⟩
abbrev cX11_readExpression : ByteArray := prog_13_method_29_code
def yX11_readExpression : MethodName := ⟨RX11, "readExpression", "(I)V"⟩
abbrev cX11_another : ByteArray := prog_13_method_30_code
def yX11_another : MethodName := ⟨RX11, "another", "(II)Z"⟩
abbrev cX11_sayRoom : ByteArray := prog_13_method_31_code
def yX11_sayRoom : MethodName := ⟨RX11, "sayRoom", "(I)V"⟩
abbrev cX11_isDoor : ByteArray := prog_13_method_32_code
def yX11_isDoor : MethodName := ⟨RX11, "isDoor", "(II)Z"⟩
abbrev cX11_sayDoor : ByteArray := prog_13_method_33_code
def yX11_sayDoor : MethodName := ⟨RX11, "sayDoor", "()V"⟩
abbrev cX11_sayWind : ByteArray := prog_13_method_34_code
def yX11_sayWind : MethodName := ⟨RX11, "sayWind", "()V"⟩
abbrev cX11_sayBlow : ByteArray := prog_13_method_35_code
def yX11_sayBlow : MethodName := ⟨RX11, "sayBlow", "()V"⟩
abbrev cX11_sayCalendar : ByteArray := prog_13_method_36_code
def yX11_sayCalendar : MethodName := ⟨RX11, "sayCalendar", "()V"⟩
abbrev cX11_readLine : ByteArray := prog_13_method_37_code
def yX11_readLine : MethodName := ⟨RX11, "readLine", "(I)I"⟩
abbrev cX11_parish : ByteArray := prog_13_method_38_code
def yX11_parish : MethodName := ⟨RX11, "parish", "(I)I"⟩
abbrev cX11_takeHalf : ByteArray := prog_13_method_39_code
def yX11_takeHalf : MethodName := ⟨RX11, "takeHalf", "([I)V"⟩
abbrev cX11_takeOver : ByteArray := prog_13_method_40_code
def yX11_takeOver : MethodName := ⟨RX11, "takeOver", "()V"⟩
abbrev cX11_fault : ByteArray := prog_13_method_41_code
def yX11_fault : MethodName := ⟨RX11, "fault", "()I"⟩
abbrev cX11_pack : ByteArray := prog_13_method_42_code
def yX11_pack : MethodName := ⟨RX11, "pack", "([II)V"⟩
abbrev cX11_unpack : ByteArray := prog_13_method_43_code
def yX11_unpack : MethodName := ⟨RX11, "unpack", "([II)V"⟩
abbrev cX11_reckon : ByteArray := prog_13_method_44_code
def yX11_reckon : MethodName := ⟨RX11, "reckon", "(III)I"⟩
abbrev cX11_valueNow : ByteArray := prog_13_method_45_code
def yX11_valueNow : MethodName := ⟨RX11, "valueNow", "()I"⟩
abbrev cX11_tithe : ByteArray := prog_13_method_46_code
def yX11_tithe : MethodName := ⟨RX11, "tithe", "(I)I"⟩
abbrev cX11_lays : ByteArray := prog_13_method_47_code
def yX11_lays : MethodName := ⟨RX11, "lays", "(II)V"⟩
abbrev cX11_settle : ByteArray := prog_13_method_48_code
def yX11_settle : MethodName := ⟨RX11, "settle", "()V"⟩
abbrev cX11_windOf : ByteArray := prog_13_method_49_code
def yX11_windOf : MethodName := ⟨RX11, "windOf", "(I)I"⟩
abbrev cX11_blows : ByteArray := prog_13_method_50_code
def yX11_blows : MethodName := ⟨RX11, "blows", "(I)V"⟩
abbrev cX11_church : ByteArray := prog_13_method_51_code
def yX11_church : MethodName := ⟨RX11, "church", "()V"⟩
abbrev cX11_passes : ByteArray := prog_13_method_52_code
def yX11_passes : MethodName := ⟨RX11, "passes", "(II)V"⟩
abbrev cX11_aDay : ByteArray := prog_13_method_53_code
def yX11_aDay : MethodName := ⟨RX11, "aDay", "()V"⟩
abbrev cX11_goOn : ByteArray := prog_13_method_54_code
def yX11_goOn : MethodName := ⟨RX11, "goOn", "(I)V"⟩
abbrev cX11_allDust : ByteArray := prog_13_method_55_code
def yX11_allDust : MethodName := ⟨RX11, "allDust", "()I"⟩
abbrev cX11_heretics : ByteArray := prog_13_method_56_code
def yX11_heretics : MethodName := ⟨RX11, "heretics", "()I"⟩
abbrev cX11_count : ByteArray := prog_13_method_57_code
def yX11_count : MethodName := ⟨RX11, "count", "(I)I"⟩
abbrev cX11_hasDoor : ByteArray := prog_13_method_58_code
def yX11_hasDoor : MethodName := ⟨RX11, "hasDoor", "(II)Z"⟩
abbrev cX11_room : ByteArray := prog_13_method_59_code
def yX11_room : MethodName := ⟨RX11, "room", "(II)I"⟩
abbrev cX11_tellWays : ByteArray := prog_13_method_60_code
def yX11_tellWays : MethodName := ⟨RX11, "tellWays", "()V"⟩
abbrev cX11_orNone : ByteArray := prog_13_method_61_code
def yX11_orNone : MethodName := ⟨RX11, "orNone", "(I)I"⟩
abbrev cX11_far : ByteArray := prog_13_method_62_code
def yX11_far : MethodName := ⟨RX11, "far", "(II)I"⟩
abbrev cX11_near : ByteArray := prog_13_method_63_code
def yX11_near : MethodName := ⟨RX11, "near", "(II)I"⟩
abbrev cX11_blow : ByteArray := prog_13_method_64_code
def yX11_blow : MethodName := ⟨RX11, "blow", "(III)I"⟩
abbrev cX11_wind : ByteArray := prog_13_method_65_code
def yX11_wind : MethodName := ⟨RX11, "wind", "(I)I"⟩
abbrev cX11_refuse : ByteArray := prog_13_method_66_code
def yX11_refuse : MethodName := ⟨RX11, "refuse", "(I)I"⟩
abbrev cX11_keep : ByteArray := prog_13_method_67_code
def yX11_keep : MethodName := ⟨RX11, "keep", "()V"⟩
abbrev cX11_days : ByteArray := prog_13_method_68_code
def yX11_days : MethodName := ⟨RX11, "days", "(I)I"⟩
abbrev cX11_bring : ByteArray := prog_13_method_69_code
def yX11_bring : MethodName := ⟨RX11, "bring", "(III)V"⟩
abbrev cX11_sweep : ByteArray := prog_13_method_70_code
def yX11_sweep : MethodName := ⟨RX11, "sweep", "(III)I"⟩
abbrev cX11_shake : ByteArray := prog_13_method_71_code
def yX11_shake : MethodName := ⟨RX11, "shake", "(II)I"⟩
abbrev cX11_steal : ByteArray := prog_13_method_72_code
def yX11_steal : MethodName := ⟨RX11, "steal", "(II)I"⟩
abbrev cX11_sneeze : ByteArray := prog_13_method_73_code
def yX11_sneeze : MethodName := ⟨RX11, "sneeze", "(II)I"⟩
abbrev cX11_plan : ByteArray := prog_13_method_74_code
def yX11_plan : MethodName := ⟨RX11, "plan", "(II)I"⟩
abbrev cX11_undo : ByteArray := prog_13_method_75_code
def yX11_undo : MethodName := ⟨RX11, "undo", "()I"⟩
abbrev cX11_then : ByteArray := prog_13_method_76_code
def yX11_then : MethodName := ⟨RX11, "then", "(II)I"⟩
abbrev cX11_takenIn : ByteArray := prog_13_method_77_code
def yX11_takenIn : MethodName := ⟨RX11, "takenIn", "(II)I"⟩
abbrev cX11_taken : ByteArray := prog_13_method_78_code
def yX11_taken : MethodName := ⟨RX11, "taken", "(I)I"⟩
abbrev cX11_thick : ByteArray := prog_13_method_79_code
def yX11_thick : MethodName := ⟨RX11, "thick", "(II)I"⟩
abbrev cX11_heresy : ByteArray := prog_13_method_80_code
def yX11_heresy : MethodName := ⟨RX11, "heresy", "()I"⟩
abbrev cX11_byOrder : ByteArray := prog_13_method_81_code
def yX11_byOrder : MethodName := ⟨RX11, "byOrder", "(I)I"⟩
abbrev cX11_goOrders : ByteArray := prog_13_method_82_code
def yX11_goOrders : MethodName := ⟨RX11, "goOrders", "(III)V"⟩
abbrev cX11_order : ByteArray := prog_13_method_83_code
def yX11_order : MethodName := ⟨RX11, "order", "(II)I"⟩
abbrev cX11_alms : ByteArray := prog_13_method_84_code
def yX11_alms : MethodName := ⟨RX11, "alms", "()I"⟩
abbrev cX11_round : ByteArray := prog_13_method_85_code
def yX11_round : MethodName := ⟨RX11, "round", "(II)I"⟩
abbrev cX11_sharesFrom : ByteArray := prog_13_method_86_code
def yX11_sharesFrom : MethodName := ⟨RX11, "sharesFrom", "(III)I"⟩
abbrev cX11_shares : ByteArray := prog_13_method_87_code
def yX11_shares : MethodName := ⟨RX11, "shares", "(I)I"⟩
abbrev cX11_from : ByteArray := prog_13_method_88_code
def yX11_from : MethodName := ⟨RX11, "from", "(III)I"⟩
abbrev cX11_poorest : ByteArray := prog_13_method_89_code
def yX11_poorest : MethodName := ⟨RX11, "poorest", "(I)I"⟩
abbrev cX11_fullest : ByteArray := prog_13_method_90_code
def yX11_fullest : MethodName := ⟨RX11, "fullest", "(I)I"⟩
abbrev cX11_exchange : ByteArray := prog_13_method_91_code
def yX11_exchange : MethodName := ⟨RX11, "exchange", "(II)V"⟩
abbrev cX11_change : ByteArray := prog_13_method_92_code
def yX11_change : MethodName := ⟨RX11, "change", "(I)I"⟩
abbrev cX11_lend : ByteArray := prog_13_method_93_code
def yX11_lend : MethodName := ⟨RX11, "lend", "(I)I"⟩
abbrev cX11_often : ByteArray := prog_13_method_94_code
def yX11_often : MethodName := ⟨RX11, "often", "(I)I"⟩
abbrev cX11_riches : ByteArray := prog_13_method_95_code
def yX11_riches : MethodName := ⟨RX11, "riches", "(I)I"⟩
abbrev cX11_lost : ByteArray := prog_13_method_96_code
def yX11_lost : MethodName := ⟨RX11, "lost", "(I)I"⟩
abbrev cX11_see : ByteArray := prog_13_method_97_code
def yX11_see : MethodName := ⟨RX11, "see", "(III)I"⟩
abbrev cX11_isAsSeen : ByteArray := prog_13_method_98_code
def yX11_isAsSeen : MethodName := ⟨RX11, "isAsSeen", "()Z"⟩
abbrev cX11_hand : ByteArray := prog_13_method_99_code
def yX11_hand : MethodName := ⟨RX11, "hand", "(I)I"⟩
abbrev cX11_forget : ByteArray := prog_13_method_100_code
def yX11_forget : MethodName := ⟨RX11, "forget", "()V"⟩
abbrev cX11_lowest : ByteArray := prog_13_method_101_code
def yX11_lowest : MethodName := ⟨RX11, "lowest", "(I)I"⟩
abbrev cX11_loss : ByteArray := prog_13_method_102_code
def yX11_loss : MethodName := ⟨RX11, "loss", "(IIII)I"⟩
abbrev cX11_game : ByteArray := prog_13_method_103_code
def yX11_game : MethodName := ⟨RX11, "game", "(III)I"⟩
abbrev cX11_drawOf : ByteArray := prog_13_method_104_code
def yX11_drawOf : MethodName := ⟨RX11, "drawOf", "(I)I"⟩
abbrev cX11_shakeFirst : ByteArray := prog_13_method_105_code
def yX11_shakeFirst : MethodName := ⟨RX11, "shakeFirst", "(I)V"⟩
abbrev cX11_something : ByteArray := prog_13_method_106_code
def yX11_something : MethodName := ⟨RX11, "something", "()V"⟩
abbrev cX11_years : ByteArray := prog_13_method_107_code
def yX11_years : MethodName := ⟨RX11, "years", "(III)I"⟩
abbrev cX11_be : ByteArray := prog_13_method_108_code
def yX11_be : MethodName := ⟨RX11, "be", "([I[I)V"⟩
abbrev cX11_image : ByteArray := prog_13_method_109_code
def yX11_image : MethodName := ⟨RX11, "image", "()V"⟩
abbrev cX11_restore : ByteArray := prog_13_method_110_code
def yX11_restore : MethodName := ⟨RX11, "restore", "()Z"⟩
def RJx145de : String := "java/io/Serializable"
def TJx145de : u_T := fun k => match k with
  | _ => ("", "", "", false)
def tyJx145de : Nat → FieldType := fun k => match k with
  | _ => .int
abbrev wsJx145de0 : List Cond := u_ws RJx145de TJx145de 0
theorem nmJx145de : ∀ a, a < 0 → ∀ b, b < 0 → a ≠ b → (TJx145de a).2.1 ≠ (TJx145de b).2.1 := by decide +kernel
theorem tyJx145de_ok : ∀ k, k < 0 → parseFieldDescriptor (TJx145de k).2.2.1 = some (tyJx145de k) := by decide +kernel
def RJx9f9b0 : String := "java/lang/CharSequence"
def TJx9f9b0 : u_T := fun k => match k with
  | _ => ("", "", "", false)
def tyJx9f9b0 : Nat → FieldType := fun k => match k with
  | _ => .int
abbrev wsJx9f9b00 : List Cond := u_ws RJx9f9b0 TJx9f9b0 0
theorem nmJx9f9b0 : ∀ a, a < 0 → ∀ b, b < 0 → a ≠ b → (TJx9f9b0 a).2.1 ≠ (TJx9f9b0 b).2.1 := by decide +kernel
theorem tyJx9f9b0_ok : ∀ k, k < 0 → parseFieldDescriptor (TJx9f9b0 k).2.2.1 = some (tyJx9f9b0 k) := by decide +kernel
def RJ11 : String := "java/lang/Character"
def TJ11 : u_T := fun k => match k with
  | _ => ("", "", "", false)
def tyJ11 : Nat → FieldType := fun k => match k with
  | _ => .int
abbrev wsJ110 : List Cond := u_ws RJ11 TJ11 0
theorem nmJ11 : ∀ a, a < 0 → ∀ b, b < 0 → a ≠ b → (TJ11 a).2.1 ≠ (TJ11 b).2.1 := by decide +kernel
theorem tyJ11_ok : ∀ k, k < 0 → parseFieldDescriptor (TJ11 k).2.2.1 = some (tyJ11 k) := by decide +kernel
abbrev cJ11_isValidCodePoint_9a6ad : ByteArray := prog_16_method_11_code
def yJ11_isValidCodePoint_9a6ad : MethodName := ⟨RJ11, "isValidCodePoint", "(I)Z"⟩
abbrev cJ11_highSurrogate_5068e : ByteArray := prog_16_method_28_code
def yJ11_highSurrogate_5068e : MethodName := ⟨RJ11, "highSurrogate", "(I)C"⟩
abbrev cJ11_lowSurrogate_5068e : ByteArray := prog_16_method_29_code
def yJ11_lowSurrogate_5068e : MethodName := ⟨RJ11, "lowSurrogate", "(I)C"⟩
def RJxb160c : String := "java/lang/Comparable"
def TJxb160c : u_T := fun k => match k with
  | _ => ("", "", "", false)
def tyJxb160c : Nat → FieldType := fun k => match k with
  | _ => .int
abbrev wsJxb160c0 : List Cond := u_ws RJxb160c TJxb160c 0
theorem nmJxb160c : ∀ a, a < 0 → ∀ b, b < 0 → a ≠ b → (TJxb160c a).2.1 ≠ (TJxb160c b).2.1 := by decide +kernel
theorem tyJxb160c_ok : ∀ k, k < 0 → parseFieldDescriptor (TJxb160c k).2.2.1 = some (tyJxb160c k) := by decide +kernel
def RJ9 : String := "java/lang/Math"
def TJ9 : u_T := fun k => match k with
  | _ => ("", "", "", false)
def tyJ9 : Nat → FieldType := fun k => match k with
  | _ => .int
abbrev wsJ90 : List Cond := u_ws RJ9 TJ9 0
theorem nmJ9 : ∀ a, a < 0 → ∀ b, b < 0 → a ≠ b → (TJ9 a).2.1 ≠ (TJ9 b).2.1 := by decide +kernel
theorem tyJ9_ok : ∀ k, k < 0 → parseFieldDescriptor (TJ9 k).2.2.1 = some (tyJ9 k) := by decide +kernel
abbrev cJ9_max_7cf53 : ByteArray := prog_20_method_65_code
def yJ9_max_7cf53 : MethodName := ⟨RJ9, "max", "(II)I"⟩
abbrev cJ9_min_7cf53 : ByteArray := prog_20_method_69_code
def yJ9_min_7cf53 : MethodName := ⟨RJ9, "min", "(II)I"⟩
def RJ0 : String := "java/lang/String"
def TJ0 : u_T := fun k => match k with
  | _ => ("", "", "", false)
def tyJ0 : Nat → FieldType := fun k => match k with
  | _ => .int
abbrev wsJ00 : List Cond := u_ws RJ0 TJ0 0
theorem nmJ0 : ∀ a, a < 0 → ∀ b, b < 0 → a ≠ b → (TJ0 a).2.1 ≠ (TJ0 b).2.1 := by decide +kernel
theorem tyJ0_ok : ∀ k, k < 0 → parseFieldDescriptor (TJ0 k).2.2.1 = some (tyJ0 k) := by decide +kernel
abbrev cJ0_length_8abf5 : ByteArray := prog_22_method_54_code
def yJ0_length_8abf5 : MethodName := ⟨RJ0, "length", "()I"⟩
abbrev cJ0_charAt_5068e : ByteArray := prog_22_method_56_code
def yJ0_charAt_5068e : MethodName := ⟨RJ0, "charAt", "(I)C"⟩
abbrev cJ0_indexOf_0f7a4 : ByteArray := prog_22_method_79_code
def yJ0_indexOf_0f7a4 : MethodName := ⟨RJ0, "indexOf", "(I)I"⟩
abbrev cJ0_indexOf_7cf53 : ByteArray := prog_22_method_80_code
def yJ0_indexOf_7cf53 : MethodName := ⟨RJ0, "indexOf", "(II)I"⟩
abbrev cJ0_coder_7d493 : ByteArray := prog_22_method_152_code
def yJ0_coder_7d493 : MethodName := ⟨RJ0, "coder", "()B"⟩
abbrev cJ0_isLatin1_aae02 : ByteArray := prog_22_method_154_code
def yJ0_isLatin1_aae02 : MethodName := ⟨RJ0, "isLatin1", "()Z"⟩
abbrev cJ0_checkIndex_df160 : ByteArray := prog_22_method_155_code
def yJ0_checkIndex_df160 : MethodName := ⟨RJ0, "checkIndex", "(II)V"⟩
abbrev cJ0_checkBoundsBeginEnd_23922 : ByteArray := prog_22_method_158_code
def yJ0_checkBoundsBeginEnd_23922 : MethodName := ⟨RJ0, "checkBoundsBeginEnd", "(III)V"⟩
def RJ1 : String := "java/lang/StringLatin1"
def TJ1 : u_T := fun k => match k with
  | _ => ("", "", "", false)
def tyJ1 : Nat → FieldType := fun k => match k with
  | _ => .int
abbrev wsJ10 : List Cond := u_ws RJ1 TJ1 0
theorem nmJ1 : ∀ a, a < 0 → ∀ b, b < 0 → a ≠ b → (TJ1 a).2.1 ≠ (TJ1 b).2.1 := by decide +kernel
theorem tyJ1_ok : ∀ k, k < 0 → parseFieldDescriptor (TJ1 k).2.2.1 = some (tyJ1 k) := by decide +kernel
abbrev cJ1_charAt_3b067 : ByteArray := prog_23_method_2_code
def yJ1_charAt_3b067 : MethodName := ⟨RJ1, "charAt", "([BI)C"⟩
abbrev cJ1_canEncode_9a6ad : ByteArray := prog_23_method_4_code
def yJ1_canEncode_9a6ad : MethodName := ⟨RJ1, "canEncode", "(I)Z"⟩
abbrev cJ1_indexOf_4cfef : ByteArray := prog_23_method_22_code
def yJ1_indexOf_4cfef : MethodName := ⟨RJ1, "indexOf", "([BIII)I"⟩
abbrev cJ1_indexOfChar_4cfef : ByteArray := prog_23_method_23_code
def yJ1_indexOfChar_4cfef : MethodName := ⟨RJ1, "indexOfChar", "([BIII)I"⟩
def RJ2 : String := "java/lang/StringUTF16"
def TJ2 : u_T := fun k => match k with
  | _ => ("", "", "", false)
def tyJ2 : Nat → FieldType := fun k => match k with
  | _ => .int
abbrev wsJ20 : List Cond := u_ws RJ2 TJ2 0
theorem nmJ2 : ∀ a, a < 0 → ∀ b, b < 0 → a ≠ b → (TJ2 a).2.1 ≠ (TJ2 b).2.1 := by decide +kernel
theorem tyJ2_ok : ∀ k, k < 0 → parseFieldDescriptor (TJ2 k).2.2.1 = some (tyJ2 k) := by decide +kernel
abbrev cJ2_getChar_3b067 : ByteArray := prog_24_method_5_code
def yJ2_getChar_3b067 : MethodName := ⟨RJ2, "getChar", "([BI)C"⟩
abbrev cJ2_length_9d52b : ByteArray := prog_24_method_6_code
def yJ2_length_9d52b : MethodName := ⟨RJ2, "length", "([B)I"⟩
abbrev cJ2_indexOf_4cfef : ByteArray := prog_24_method_40_code
def yJ2_indexOf_4cfef : MethodName := ⟨RJ2, "indexOf", "([BIII)I"⟩
abbrev cJ2_indexOfChar_4cfef : ByteArray := prog_24_method_47_code
def yJ2_indexOfChar_4cfef : MethodName := ⟨RJ2, "indexOfChar", "([BIII)I"⟩
abbrev cJ2_indexOfCharUnsafe_4cfef : ByteArray := prog_24_method_48_code
def yJ2_indexOfCharUnsafe_4cfef : MethodName := ⟨RJ2, "indexOfCharUnsafe", "([BIII)I"⟩
abbrev cJ2_indexOfSupplementary_4cfef : ByteArray := prog_24_method_49_code
def yJ2_indexOfSupplementary_4cfef : MethodName := ⟨RJ2, "indexOfSupplementary", "([BIII)I"⟩
abbrev cJ2_charAt_3b067 : ByteArray := prog_24_method_83_code
def yJ2_charAt_3b067 : MethodName := ⟨RJ2, "charAt", "([BI)C"⟩
abbrev cJ2_checkIndex_2214a : ByteArray := prog_24_method_91_code
def yJ2_checkIndex_2214a : MethodName := ⟨RJ2, "checkIndex", "(I[B)V"⟩
abbrev cJ2_checkBoundsBeginEnd_d044e : ByteArray := prog_24_method_93_code
def yJ2_checkBoundsBeginEnd_d044e : MethodName := ⟨RJ2, "checkBoundsBeginEnd", "(II[B)V"⟩
def RJ10 : String := "java/lang/System"
def TJ10 : u_T := fun k => match k with
  | _ => ("", "", "", false)
def tyJ10 : Nat → FieldType := fun k => match k with
  | _ => .int
abbrev wsJ100 : List Cond := u_ws RJ10 TJ10 0
theorem nmJ10 : ∀ a, a < 0 → ∀ b, b < 0 → a ≠ b → (TJ10 a).2.1 ≠ (TJ10 b).2.1 := by decide +kernel
theorem tyJ10_ok : ∀ k, k < 0 → parseFieldDescriptor (TJ10 k).2.2.1 = some (tyJ10 k) := by decide +kernel
def RJxfd54e : String := "java/lang/constant/Constable"
def TJxfd54e : u_T := fun k => match k with
  | _ => ("", "", "", false)
def tyJxfd54e : Nat → FieldType := fun k => match k with
  | _ => .int
abbrev wsJxfd54e0 : List Cond := u_ws RJxfd54e TJxfd54e 0
theorem nmJxfd54e : ∀ a, a < 0 → ∀ b, b < 0 → a ≠ b → (TJxfd54e a).2.1 ≠ (TJxfd54e b).2.1 := by decide +kernel
theorem tyJxfd54e_ok : ∀ k, k < 0 → parseFieldDescriptor (TJxfd54e k).2.2.1 = some (tyJxfd54e k) := by decide +kernel
def RJx3cf43 : String := "java/lang/constant/ConstantDesc"
def TJx3cf43 : u_T := fun k => match k with
  | _ => ("", "", "", false)
def tyJx3cf43 : Nat → FieldType := fun k => match k with
  | _ => .int
abbrev wsJx3cf430 : List Cond := u_ws RJx3cf43 TJx3cf43 0
theorem nmJx3cf43 : ∀ a, a < 0 → ∀ b, b < 0 → a ≠ b → (TJx3cf43 a).2.1 ≠ (TJx3cf43 b).2.1 := by decide +kernel
theorem tyJx3cf43_ok : ∀ k, k < 0 → parseFieldDescriptor (TJx3cf43 k).2.2.1 = some (tyJx3cf43 k) := by decide +kernel
def RJ7 : String := "java/util/Arrays"
def TJ7 : u_T := fun k => match k with
  | _ => ("", "", "", false)
def tyJ7 : Nat → FieldType := fun k => match k with
  | _ => .int
abbrev wsJ70 : List Cond := u_ws RJ7 TJ7 0
theorem nmJ7 : ∀ a, a < 0 → ∀ b, b < 0 → a ≠ b → (TJ7 a).2.1 ≠ (TJ7 b).2.1 := by decide +kernel
theorem tyJ7_ok : ∀ k, k < 0 → parseFieldDescriptor (TJ7 k).2.2.1 = some (tyJ7 k) := by decide +kernel
abbrev cJ7_fill_53178 : ByteArray := prog_29_method_103_code
def yJ7_fill_53178 : MethodName := ⟨RJ7, "fill", "([II)V"⟩
def RJ3 : String := "jdk/internal/util/Preconditions"
def TJ3 : u_T := fun k => match k with
  | _ => ("", "", "", false)
def tyJ3 : Nat → FieldType := fun k => match k with
  | _ => .int
abbrev wsJ30 : List Cond := u_ws RJ3 TJ3 0
theorem nmJ3 : ∀ a, a < 0 → ∀ b, b < 0 → a ≠ b → (TJ3 a).2.1 ≠ (TJ3 b).2.1 := by decide +kernel
theorem tyJ3_ok : ∀ k, k < 0 → parseFieldDescriptor (TJ3 k).2.2.1 = some (tyJ3 k) := by decide +kernel
abbrev cJ3_checkIndex_8e157 : ByteArray := prog_31_method_11_code
def yJ3_checkIndex_8e157 : MethodName := ⟨RJ3, "checkIndex", "(IILjava/util/function/BiFunction;)I"⟩
abbrev cJ3_checkFromToIndex_8c36e : ByteArray := prog_31_method_12_code
def yJ3_checkFromToIndex_8c36e : MethodName := ⟨RJ3, "checkFromToIndex", "(IIILjava/util/function/BiFunction;)I"⟩
def RL : String := "DustParishLaw"
abbrev cL_parish : ByteArray := method_3_code
def yL_parish : MethodName := ⟨RL, "parish", "(LDustParish;I[J)I"⟩
abbrev cL_count : ByteArray := method_4_code
def yL_count : MethodName := ⟨RL, "count", "(LDustParish;I[J)I"⟩
abbrev cL_room : ByteArray := method_5_code
def yL_room : MethodName := ⟨RL, "room", "(LDustParish;II[J)I"⟩
abbrev cL_far : ByteArray := method_6_code
def yL_far : MethodName := ⟨RL, "far", "(LDustParish;II[J)I"⟩
abbrev cL_near : ByteArray := method_7_code
def yL_near : MethodName := ⟨RL, "near", "(LDustParish;II[J)I"⟩
abbrev cL_blow : ByteArray := method_8_code
def yL_blow : MethodName := ⟨RL, "blow", "(LDustParish;III[J)I"⟩
abbrev cL_wind : ByteArray := method_9_code
def yL_wind : MethodName := ⟨RL, "wind", "(LDustParish;I[J)I"⟩
abbrev cL_sweep : ByteArray := method_10_code
def yL_sweep : MethodName := ⟨RL, "sweep", "(LDustParish;III[J)I"⟩
abbrev cL_shake : ByteArray := method_11_code
def yL_shake : MethodName := ⟨RL, "shake", "(LDustParish;II[J)I"⟩
abbrev cL_sneeze : ByteArray := method_12_code
def yL_sneeze : MethodName := ⟨RL, "sneeze", "(LDustParish;II[J)I"⟩
abbrev cL_then : ByteArray := method_13_code
def yL_then : MethodName := ⟨RL, "then", "(LDustParish;II[J)I"⟩
abbrev cL_taken : ByteArray := method_14_code
def yL_taken : MethodName := ⟨RL, "taken", "(LDustParish;I[J)I"⟩
abbrev cL_thick : ByteArray := method_15_code
def yL_thick : MethodName := ⟨RL, "thick", "(LDustParish;II[J)I"⟩
abbrev cL_order : ByteArray := method_16_code
def yL_order : MethodName := ⟨RL, "order", "(LDustParish;II[J)I"⟩
abbrev cL_round : ByteArray := method_17_code
def yL_round : MethodName := ⟨RL, "round", "(LDustParish;II[J)I"⟩
abbrev cL_shares : ByteArray := method_18_code
def yL_shares : MethodName := ⟨RL, "shares", "(LDustParish;I[J)I"⟩
abbrev cL_from : ByteArray := method_19_code
def yL_from : MethodName := ⟨RL, "from", "(LDustParish;III[J)I"⟩
abbrev cL_poorest : ByteArray := method_20_code
def yL_poorest : MethodName := ⟨RL, "poorest", "(LDustParish;I[J)I"⟩
abbrev cL_fullest : ByteArray := method_21_code
def yL_fullest : MethodName := ⟨RL, "fullest", "(LDustParish;I[J)I"⟩
abbrev cL_change : ByteArray := method_22_code
def yL_change : MethodName := ⟨RL, "change", "(LDustParish;I[J)I"⟩
abbrev cL_lend : ByteArray := method_23_code
def yL_lend : MethodName := ⟨RL, "lend", "(LDustParish;I[J)I"⟩
abbrev cL_often : ByteArray := method_24_code
def yL_often : MethodName := ⟨RL, "often", "(LDustParish;I[J)I"⟩
abbrev cL_riches : ByteArray := method_25_code
def yL_riches : MethodName := ⟨RL, "riches", "(LDustParish;I[J)I"⟩
abbrev cL_lost : ByteArray := method_26_code
def yL_lost : MethodName := ⟨RL, "lost", "(LDustParish;I[J)I"⟩
abbrev cL_see : ByteArray := method_27_code
def yL_see : MethodName := ⟨RL, "see", "(LDustParish;III[J)I"⟩
abbrev cL_hand : ByteArray := method_28_code
def yL_hand : MethodName := ⟨RL, "hand", "(LDustParish;I[J)I"⟩
abbrev cL_game : ByteArray := method_29_code
def yL_game : MethodName := ⟨RL, "game", "(LDustParish;III[J)I"⟩
abbrev cL_years : ByteArray := method_30_code
def yL_years : MethodName := ⟨RL, "years", "(LDustParish;III[J)I"⟩
abbrev cL_law : ByteArray := code
def yL_law : MethodName := ⟨RL, "law", "([I)Z"⟩
theorem dJ11_isValidCodePoint_9a6ad_0 : decode cJ11_isValidCodePoint_9a6ad 0 = .ok (.iload_n 0, 1) := by decide +kernel
theorem dJ11_isValidCodePoint_9a6ad_1 : decode cJ11_isValidCodePoint_9a6ad 1 = .ok (.bipush 16, 2) := by decide +kernel
theorem dJ11_isValidCodePoint_9a6ad_3 : decode cJ11_isValidCodePoint_9a6ad 3 = .ok (.iushr, 1) := by decide +kernel
theorem dJ11_isValidCodePoint_9a6ad_4 : decode cJ11_isValidCodePoint_9a6ad 4 = .ok (.istore_n 1, 1) := by decide +kernel
theorem dJ11_isValidCodePoint_9a6ad_5 : decode cJ11_isValidCodePoint_9a6ad 5 = .ok (.iload_n 1, 1) := by decide +kernel
theorem dJ11_isValidCodePoint_9a6ad_6 : decode cJ11_isValidCodePoint_9a6ad 6 = .ok (.bipush 17, 2) := by decide +kernel
theorem dJ11_isValidCodePoint_9a6ad_8 : decode cJ11_isValidCodePoint_9a6ad 8 = .ok (.if_icmp .ge 7, 3) := by decide +kernel
theorem dJ11_isValidCodePoint_9a6ad_11 : decode cJ11_isValidCodePoint_9a6ad 11 = .ok (.iconst 1, 1) := by decide +kernel
theorem dJ11_isValidCodePoint_9a6ad_12 : decode cJ11_isValidCodePoint_9a6ad 12 = .ok (.goto 4, 3) := by decide +kernel
theorem dJ11_isValidCodePoint_9a6ad_15 : decode cJ11_isValidCodePoint_9a6ad 15 = .ok (.iconst 0, 1) := by decide +kernel
theorem dJ11_isValidCodePoint_9a6ad_16 : decode cJ11_isValidCodePoint_9a6ad 16 = .ok (.ireturn, 1) := by decide +kernel
theorem dJ11_highSurrogate_5068e_0 : decode cJ11_highSurrogate_5068e 0 = .ok (.iload_n 0, 1) := by decide +kernel
theorem dJ11_highSurrogate_5068e_1 : decode cJ11_highSurrogate_5068e 1 = .ok (.bipush 10, 2) := by decide +kernel
theorem dJ11_highSurrogate_5068e_3 : decode cJ11_highSurrogate_5068e 3 = .ok (.iushr, 1) := by decide +kernel
theorem dJ11_highSurrogate_5068e_4 : decode cJ11_highSurrogate_5068e 4 = .ok (.ldc 110, 2) := by decide +kernel
theorem dJ11_highSurrogate_5068e_6 : decode cJ11_highSurrogate_5068e 6 = .ok (.iadd, 1) := by decide +kernel
theorem dJ11_highSurrogate_5068e_7 : decode cJ11_highSurrogate_5068e 7 = .ok (.i2c, 1) := by decide +kernel
theorem dJ11_highSurrogate_5068e_8 : decode cJ11_highSurrogate_5068e 8 = .ok (.ireturn, 1) := by decide +kernel
theorem dJ11_lowSurrogate_5068e_0 : decode cJ11_lowSurrogate_5068e 0 = .ok (.iload_n 0, 1) := by decide +kernel
theorem dJ11_lowSurrogate_5068e_1 : decode cJ11_lowSurrogate_5068e 1 = .ok (.sipush 1023, 3) := by decide +kernel
theorem dJ11_lowSurrogate_5068e_4 : decode cJ11_lowSurrogate_5068e 4 = .ok (.iand, 1) := by decide +kernel
theorem dJ11_lowSurrogate_5068e_5 : decode cJ11_lowSurrogate_5068e 5 = .ok (.ldc 76, 2) := by decide +kernel
theorem dJ11_lowSurrogate_5068e_7 : decode cJ11_lowSurrogate_5068e 7 = .ok (.iadd, 1) := by decide +kernel
theorem dJ11_lowSurrogate_5068e_8 : decode cJ11_lowSurrogate_5068e 8 = .ok (.i2c, 1) := by decide +kernel
theorem dJ11_lowSurrogate_5068e_9 : decode cJ11_lowSurrogate_5068e 9 = .ok (.ireturn, 1) := by decide +kernel
theorem dJ9_max_7cf53_0 : decode cJ9_max_7cf53 0 = .ok (.iload_n 0, 1) := by decide +kernel
theorem dJ9_max_7cf53_1 : decode cJ9_max_7cf53 1 = .ok (.iload_n 1, 1) := by decide +kernel
theorem dJ9_max_7cf53_2 : decode cJ9_max_7cf53 2 = .ok (.if_icmp .lt 7, 3) := by decide +kernel
theorem dJ9_max_7cf53_5 : decode cJ9_max_7cf53 5 = .ok (.iload_n 0, 1) := by decide +kernel
theorem dJ9_max_7cf53_6 : decode cJ9_max_7cf53 6 = .ok (.goto 4, 3) := by decide +kernel
theorem dJ9_max_7cf53_9 : decode cJ9_max_7cf53 9 = .ok (.iload_n 1, 1) := by decide +kernel
theorem dJ9_max_7cf53_10 : decode cJ9_max_7cf53 10 = .ok (.ireturn, 1) := by decide +kernel
theorem dJ9_min_7cf53_0 : decode cJ9_min_7cf53 0 = .ok (.iload_n 0, 1) := by decide +kernel
theorem dJ9_min_7cf53_1 : decode cJ9_min_7cf53 1 = .ok (.iload_n 1, 1) := by decide +kernel
theorem dJ9_min_7cf53_2 : decode cJ9_min_7cf53 2 = .ok (.if_icmp .gt 7, 3) := by decide +kernel
theorem dJ9_min_7cf53_5 : decode cJ9_min_7cf53 5 = .ok (.iload_n 0, 1) := by decide +kernel
theorem dJ9_min_7cf53_6 : decode cJ9_min_7cf53 6 = .ok (.goto 4, 3) := by decide +kernel
theorem dJ9_min_7cf53_9 : decode cJ9_min_7cf53 9 = .ok (.iload_n 1, 1) := by decide +kernel
theorem dJ9_min_7cf53_10 : decode cJ9_min_7cf53 10 = .ok (.ireturn, 1) := by decide +kernel
set_option maxRecDepth 20000 in
theorem dJ0_length_8abf5_0 : decode cJ0_length_8abf5 0 = .ok (.aload_n 0, 1) := by decide +kernel
theorem dJ0_length_8abf5_1 : decode cJ0_length_8abf5 1 = .ok (.getfield 9, 3) := by decide +kernel
theorem dJ0_length_8abf5_4 : decode cJ0_length_8abf5 4 = .ok (.arraylength, 1) := by decide +kernel
theorem dJ0_length_8abf5_5 : decode cJ0_length_8abf5 5 = .ok (.aload_n 0, 1) := by decide +kernel
theorem dJ0_length_8abf5_6 : decode cJ0_length_8abf5 6 = .ok (.invokevirtual 335, 3) := by decide +kernel
theorem dJ0_length_8abf5_9 : decode cJ0_length_8abf5 9 = .ok (.ishr, 1) := by decide +kernel
theorem dJ0_length_8abf5_10 : decode cJ0_length_8abf5 10 = .ok (.ireturn, 1) := by decide +kernel
set_option maxRecDepth 20000 in
theorem dJ0_charAt_5068e_0 : decode cJ0_charAt_5068e 0 = .ok (.aload_n 0, 1) := by decide +kernel
theorem dJ0_charAt_5068e_1 : decode cJ0_charAt_5068e 1 = .ok (.invokevirtual 492, 3) := by decide +kernel
theorem dJ0_charAt_5068e_4 : decode cJ0_charAt_5068e 4 = .ok (.ifCond .eq 12, 3) := by decide +kernel
theorem dJ0_charAt_5068e_7 : decode cJ0_charAt_5068e 7 = .ok (.aload_n 0, 1) := by decide +kernel
theorem dJ0_charAt_5068e_8 : decode cJ0_charAt_5068e 8 = .ok (.getfield 9, 3) := by decide +kernel
theorem dJ0_charAt_5068e_11 : decode cJ0_charAt_5068e 11 = .ok (.iload_n 1, 1) := by decide +kernel
theorem dJ0_charAt_5068e_12 : decode cJ0_charAt_5068e 12 = .ok (.invokestatic 495, 3) := by decide +kernel
theorem dJ0_charAt_5068e_15 : decode cJ0_charAt_5068e 15 = .ok (.ireturn, 1) := by decide +kernel
theorem dJ0_charAt_5068e_16 : decode cJ0_charAt_5068e 16 = .ok (.aload_n 0, 1) := by decide +kernel
theorem dJ0_charAt_5068e_17 : decode cJ0_charAt_5068e 17 = .ok (.getfield 9, 3) := by decide +kernel
theorem dJ0_charAt_5068e_20 : decode cJ0_charAt_5068e 20 = .ok (.iload_n 1, 1) := by decide +kernel
theorem dJ0_charAt_5068e_21 : decode cJ0_charAt_5068e 21 = .ok (.invokestatic 498, 3) := by decide +kernel
theorem dJ0_charAt_5068e_24 : decode cJ0_charAt_5068e 24 = .ok (.ireturn, 1) := by decide +kernel
set_option maxRecDepth 20000 in
theorem dJ0_indexOf_0f7a4_0 : decode cJ0_indexOf_0f7a4 0 = .ok (.aload_n 0, 1) := by decide +kernel
theorem dJ0_indexOf_0f7a4_1 : decode cJ0_indexOf_0f7a4 1 = .ok (.iload_n 1, 1) := by decide +kernel
theorem dJ0_indexOf_0f7a4_2 : decode cJ0_indexOf_0f7a4 2 = .ok (.iconst 0, 1) := by decide +kernel
theorem dJ0_indexOf_0f7a4_3 : decode cJ0_indexOf_0f7a4 3 = .ok (.invokevirtual 633, 3) := by decide +kernel
theorem dJ0_indexOf_0f7a4_6 : decode cJ0_indexOf_0f7a4 6 = .ok (.ireturn, 1) := by decide +kernel
set_option maxRecDepth 20000 in
theorem dJ0_indexOf_7cf53_0 : decode cJ0_indexOf_7cf53 0 = .ok (.aload_n 0, 1) := by decide +kernel
theorem dJ0_indexOf_7cf53_1 : decode cJ0_indexOf_7cf53 1 = .ok (.invokevirtual 492, 3) := by decide +kernel
theorem dJ0_indexOf_7cf53_4 : decode cJ0_indexOf_7cf53 4 = .ok (.ifCond .eq 19, 3) := by decide +kernel
theorem dJ0_indexOf_7cf53_7 : decode cJ0_indexOf_7cf53 7 = .ok (.aload_n 0, 1) := by decide +kernel
theorem dJ0_indexOf_7cf53_8 : decode cJ0_indexOf_7cf53 8 = .ok (.getfield 9, 3) := by decide +kernel
theorem dJ0_indexOf_7cf53_11 : decode cJ0_indexOf_7cf53 11 = .ok (.iload_n 1, 1) := by decide +kernel
theorem dJ0_indexOf_7cf53_12 : decode cJ0_indexOf_7cf53 12 = .ok (.iload_n 2, 1) := by decide +kernel
theorem dJ0_indexOf_7cf53_13 : decode cJ0_indexOf_7cf53 13 = .ok (.aload_n 0, 1) := by decide +kernel
theorem dJ0_indexOf_7cf53_14 : decode cJ0_indexOf_7cf53 14 = .ok (.invokevirtual 505, 3) := by decide +kernel
theorem dJ0_indexOf_7cf53_17 : decode cJ0_indexOf_7cf53 17 = .ok (.invokestatic 637, 3) := by decide +kernel
theorem dJ0_indexOf_7cf53_20 : decode cJ0_indexOf_7cf53 20 = .ok (.goto 16, 3) := by decide +kernel
theorem dJ0_indexOf_7cf53_23 : decode cJ0_indexOf_7cf53 23 = .ok (.aload_n 0, 1) := by decide +kernel
theorem dJ0_indexOf_7cf53_24 : decode cJ0_indexOf_7cf53 24 = .ok (.getfield 9, 3) := by decide +kernel
theorem dJ0_indexOf_7cf53_27 : decode cJ0_indexOf_7cf53 27 = .ok (.iload_n 1, 1) := by decide +kernel
theorem dJ0_indexOf_7cf53_28 : decode cJ0_indexOf_7cf53 28 = .ok (.iload_n 2, 1) := by decide +kernel
theorem dJ0_indexOf_7cf53_29 : decode cJ0_indexOf_7cf53 29 = .ok (.aload_n 0, 1) := by decide +kernel
theorem dJ0_indexOf_7cf53_30 : decode cJ0_indexOf_7cf53 30 = .ok (.invokevirtual 505, 3) := by decide +kernel
theorem dJ0_indexOf_7cf53_33 : decode cJ0_indexOf_7cf53 33 = .ok (.invokestatic 640, 3) := by decide +kernel
theorem dJ0_indexOf_7cf53_36 : decode cJ0_indexOf_7cf53 36 = .ok (.ireturn, 1) := by decide +kernel
theorem dJ0_coder_7d493_0 : decode cJ0_coder_7d493 0 = .ok (.getstatic 38, 3) := by decide +kernel
theorem dJ0_coder_7d493_3 : decode cJ0_coder_7d493 3 = .ok (.ifCond .eq 10, 3) := by decide +kernel
theorem dJ0_coder_7d493_6 : decode cJ0_coder_7d493 6 = .ok (.aload_n 0, 1) := by decide +kernel
theorem dJ0_coder_7d493_7 : decode cJ0_coder_7d493 7 = .ok (.getfield 15, 3) := by decide +kernel
theorem dJ0_coder_7d493_10 : decode cJ0_coder_7d493 10 = .ok (.goto 4, 3) := by decide +kernel
theorem dJ0_coder_7d493_13 : decode cJ0_coder_7d493 13 = .ok (.iconst 1, 1) := by decide +kernel
theorem dJ0_coder_7d493_14 : decode cJ0_coder_7d493 14 = .ok (.ireturn, 1) := by decide +kernel
theorem dJ0_isLatin1_aae02_0 : decode cJ0_isLatin1_aae02 0 = .ok (.getstatic 38, 3) := by decide +kernel
theorem dJ0_isLatin1_aae02_3 : decode cJ0_isLatin1_aae02 3 = .ok (.ifCond .eq 14, 3) := by decide +kernel
theorem dJ0_isLatin1_aae02_6 : decode cJ0_isLatin1_aae02 6 = .ok (.aload_n 0, 1) := by decide +kernel
theorem dJ0_isLatin1_aae02_7 : decode cJ0_isLatin1_aae02 7 = .ok (.getfield 15, 3) := by decide +kernel
theorem dJ0_isLatin1_aae02_10 : decode cJ0_isLatin1_aae02 10 = .ok (.ifCond .ne 7, 3) := by decide +kernel
theorem dJ0_isLatin1_aae02_13 : decode cJ0_isLatin1_aae02 13 = .ok (.iconst 1, 1) := by decide +kernel
theorem dJ0_isLatin1_aae02_14 : decode cJ0_isLatin1_aae02 14 = .ok (.goto 4, 3) := by decide +kernel
theorem dJ0_isLatin1_aae02_17 : decode cJ0_isLatin1_aae02 17 = .ok (.iconst 0, 1) := by decide +kernel
theorem dJ0_isLatin1_aae02_18 : decode cJ0_isLatin1_aae02 18 = .ok (.ireturn, 1) := by decide +kernel
set_option maxRecDepth 20000 in
theorem dJ0_checkIndex_df160_0 : decode cJ0_checkIndex_df160 0 = .ok (.iload_n 0, 1) := by decide +kernel
theorem dJ0_checkIndex_df160_1 : decode cJ0_checkIndex_df160 1 = .ok (.iload_n 1, 1) := by decide +kernel
theorem dJ0_checkIndex_df160_2 : decode cJ0_checkIndex_df160 2 = .ok (.getstatic 1053, 3) := by decide +kernel
theorem dJ0_checkIndex_df160_5 : decode cJ0_checkIndex_df160 5 = .ok (.invokestatic 1059, 3) := by decide +kernel
theorem dJ0_checkIndex_df160_8 : decode cJ0_checkIndex_df160 8 = .ok (.pop, 1) := by decide +kernel
theorem dJ0_checkIndex_df160_9 : decode cJ0_checkIndex_df160 9 = .ok (.return_, 1) := by decide +kernel
set_option maxRecDepth 20000 in
theorem dJ0_checkBoundsBeginEnd_23922_0 : decode cJ0_checkBoundsBeginEnd_23922 0 = .ok (.iload_n 0, 1) := by decide +kernel
theorem dJ0_checkBoundsBeginEnd_23922_1 : decode cJ0_checkBoundsBeginEnd_23922 1 = .ok (.iload_n 1, 1) := by decide +kernel
theorem dJ0_checkBoundsBeginEnd_23922_2 : decode cJ0_checkBoundsBeginEnd_23922 2 = .ok (.iload_n 2, 1) := by decide +kernel
theorem dJ0_checkBoundsBeginEnd_23922_3 : decode cJ0_checkBoundsBeginEnd_23922 3 = .ok (.getstatic 1053, 3) := by decide +kernel
theorem dJ0_checkBoundsBeginEnd_23922_6 : decode cJ0_checkBoundsBeginEnd_23922 6 = .ok (.invokestatic 1062, 3) := by decide +kernel
theorem dJ0_checkBoundsBeginEnd_23922_9 : decode cJ0_checkBoundsBeginEnd_23922 9 = .ok (.pop, 1) := by decide +kernel
theorem dJ0_checkBoundsBeginEnd_23922_10 : decode cJ0_checkBoundsBeginEnd_23922 10 = .ok (.return_, 1) := by decide +kernel
set_option maxRecDepth 20000 in
theorem dJ1_charAt_3b067_0 : decode cJ1_charAt_3b067 0 = .ok (.iload_n 1, 1) := by decide +kernel
theorem dJ1_charAt_3b067_1 : decode cJ1_charAt_3b067 1 = .ok (.aload_n 0, 1) := by decide +kernel
theorem dJ1_charAt_3b067_2 : decode cJ1_charAt_3b067 2 = .ok (.arraylength, 1) := by decide +kernel
theorem dJ1_charAt_3b067_3 : decode cJ1_charAt_3b067 3 = .ok (.invokestatic 9, 3) := by decide +kernel
theorem dJ1_charAt_3b067_6 : decode cJ1_charAt_3b067 6 = .ok (.aload_n 0, 1) := by decide +kernel
theorem dJ1_charAt_3b067_7 : decode cJ1_charAt_3b067 7 = .ok (.iload_n 1, 1) := by decide +kernel
theorem dJ1_charAt_3b067_8 : decode cJ1_charAt_3b067 8 = .ok (.baload, 1) := by decide +kernel
theorem dJ1_charAt_3b067_9 : decode cJ1_charAt_3b067 9 = .ok (.sipush 255, 3) := by decide +kernel
theorem dJ1_charAt_3b067_12 : decode cJ1_charAt_3b067 12 = .ok (.iand, 1) := by decide +kernel
theorem dJ1_charAt_3b067_13 : decode cJ1_charAt_3b067 13 = .ok (.i2c, 1) := by decide +kernel
theorem dJ1_charAt_3b067_14 : decode cJ1_charAt_3b067 14 = .ok (.ireturn, 1) := by decide +kernel
theorem dJ1_canEncode_9a6ad_0 : decode cJ1_canEncode_9a6ad 0 = .ok (.iload_n 0, 1) := by decide +kernel
theorem dJ1_canEncode_9a6ad_1 : decode cJ1_canEncode_9a6ad 1 = .ok (.ifCond .lt 14, 3) := by decide +kernel
theorem dJ1_canEncode_9a6ad_4 : decode cJ1_canEncode_9a6ad 4 = .ok (.iload_n 0, 1) := by decide +kernel
theorem dJ1_canEncode_9a6ad_5 : decode cJ1_canEncode_9a6ad 5 = .ok (.sipush 255, 3) := by decide +kernel
theorem dJ1_canEncode_9a6ad_8 : decode cJ1_canEncode_9a6ad 8 = .ok (.if_icmp .gt 7, 3) := by decide +kernel
theorem dJ1_canEncode_9a6ad_11 : decode cJ1_canEncode_9a6ad 11 = .ok (.iconst 1, 1) := by decide +kernel
theorem dJ1_canEncode_9a6ad_12 : decode cJ1_canEncode_9a6ad 12 = .ok (.goto 4, 3) := by decide +kernel
theorem dJ1_canEncode_9a6ad_15 : decode cJ1_canEncode_9a6ad 15 = .ok (.iconst 0, 1) := by decide +kernel
theorem dJ1_canEncode_9a6ad_16 : decode cJ1_canEncode_9a6ad 16 = .ok (.ireturn, 1) := by decide +kernel
set_option maxRecDepth 20000 in
theorem dJ1_indexOf_4cfef_0 : decode cJ1_indexOf_4cfef 0 = .ok (.iload_n 1, 1) := by decide +kernel
theorem dJ1_indexOf_4cfef_1 : decode cJ1_indexOf_4cfef 1 = .ok (.invokestatic 88, 3) := by decide +kernel
theorem dJ1_indexOf_4cfef_4 : decode cJ1_indexOf_4cfef 4 = .ok (.ifCond .ne 5, 3) := by decide +kernel
theorem dJ1_indexOf_4cfef_7 : decode cJ1_indexOf_4cfef 7 = .ok (.iconst (-1), 1) := by decide +kernel
theorem dJ1_indexOf_4cfef_8 : decode cJ1_indexOf_4cfef 8 = .ok (.ireturn, 1) := by decide +kernel
theorem dJ1_indexOf_4cfef_9 : decode cJ1_indexOf_4cfef 9 = .ok (.iload_n 2, 1) := by decide +kernel
theorem dJ1_indexOf_4cfef_10 : decode cJ1_indexOf_4cfef 10 = .ok (.iconst 0, 1) := by decide +kernel
theorem dJ1_indexOf_4cfef_11 : decode cJ1_indexOf_4cfef 11 = .ok (.invokestatic 92, 3) := by decide +kernel
theorem dJ1_indexOf_4cfef_14 : decode cJ1_indexOf_4cfef 14 = .ok (.istore_n 2, 1) := by decide +kernel
theorem dJ1_indexOf_4cfef_15 : decode cJ1_indexOf_4cfef 15 = .ok (.iload_n 3, 1) := by decide +kernel
theorem dJ1_indexOf_4cfef_16 : decode cJ1_indexOf_4cfef 16 = .ok (.aload_n 0, 1) := by decide +kernel
theorem dJ1_indexOf_4cfef_17 : decode cJ1_indexOf_4cfef 17 = .ok (.arraylength, 1) := by decide +kernel
theorem dJ1_indexOf_4cfef_18 : decode cJ1_indexOf_4cfef 18 = .ok (.invokestatic 38, 3) := by decide +kernel
theorem dJ1_indexOf_4cfef_21 : decode cJ1_indexOf_4cfef 21 = .ok (.istore_n 3, 1) := by decide +kernel
theorem dJ1_indexOf_4cfef_22 : decode cJ1_indexOf_4cfef 22 = .ok (.iload_n 2, 1) := by decide +kernel
theorem dJ1_indexOf_4cfef_23 : decode cJ1_indexOf_4cfef 23 = .ok (.iload_n 3, 1) := by decide +kernel
theorem dJ1_indexOf_4cfef_24 : decode cJ1_indexOf_4cfef 24 = .ok (.if_icmp .lt 5, 3) := by decide +kernel
theorem dJ1_indexOf_4cfef_27 : decode cJ1_indexOf_4cfef 27 = .ok (.iconst (-1), 1) := by decide +kernel
theorem dJ1_indexOf_4cfef_28 : decode cJ1_indexOf_4cfef 28 = .ok (.ireturn, 1) := by decide +kernel
theorem dJ1_indexOf_4cfef_29 : decode cJ1_indexOf_4cfef 29 = .ok (.aload_n 0, 1) := by decide +kernel
theorem dJ1_indexOf_4cfef_30 : decode cJ1_indexOf_4cfef 30 = .ok (.iload_n 1, 1) := by decide +kernel
theorem dJ1_indexOf_4cfef_31 : decode cJ1_indexOf_4cfef 31 = .ok (.iload_n 2, 1) := by decide +kernel
theorem dJ1_indexOf_4cfef_32 : decode cJ1_indexOf_4cfef 32 = .ok (.iload_n 3, 1) := by decide +kernel
theorem dJ1_indexOf_4cfef_33 : decode cJ1_indexOf_4cfef 33 = .ok (.invokestatic 95, 3) := by decide +kernel
theorem dJ1_indexOf_4cfef_36 : decode cJ1_indexOf_4cfef 36 = .ok (.ireturn, 1) := by decide +kernel
theorem dJ1_indexOfChar_4cfef_0 : decode cJ1_indexOfChar_4cfef 0 = .ok (.iload_n 1, 1) := by decide +kernel
theorem dJ1_indexOfChar_4cfef_1 : decode cJ1_indexOfChar_4cfef 1 = .ok (.i2b, 1) := by decide +kernel
theorem dJ1_indexOfChar_4cfef_2 : decode cJ1_indexOfChar_4cfef 2 = .ok (.istore 4, 2) := by decide +kernel
theorem dJ1_indexOfChar_4cfef_4 : decode cJ1_indexOfChar_4cfef 4 = .ok (.iload_n 2, 1) := by decide +kernel
theorem dJ1_indexOfChar_4cfef_5 : decode cJ1_indexOfChar_4cfef 5 = .ok (.istore 5, 2) := by decide +kernel
theorem dJ1_indexOfChar_4cfef_7 : decode cJ1_indexOfChar_4cfef 7 = .ok (.iload 5, 2) := by decide +kernel
theorem dJ1_indexOfChar_4cfef_9 : decode cJ1_indexOfChar_4cfef 9 = .ok (.iload_n 3, 1) := by decide +kernel
theorem dJ1_indexOfChar_4cfef_10 : decode cJ1_indexOfChar_4cfef 10 = .ok (.if_icmp .ge 21, 3) := by decide +kernel
theorem dJ1_indexOfChar_4cfef_13 : decode cJ1_indexOfChar_4cfef 13 = .ok (.aload_n 0, 1) := by decide +kernel
theorem dJ1_indexOfChar_4cfef_14 : decode cJ1_indexOfChar_4cfef 14 = .ok (.iload 5, 2) := by decide +kernel
theorem dJ1_indexOfChar_4cfef_16 : decode cJ1_indexOfChar_4cfef 16 = .ok (.baload, 1) := by decide +kernel
theorem dJ1_indexOfChar_4cfef_17 : decode cJ1_indexOfChar_4cfef 17 = .ok (.iload 4, 2) := by decide +kernel
theorem dJ1_indexOfChar_4cfef_19 : decode cJ1_indexOfChar_4cfef 19 = .ok (.if_icmp .ne 6, 3) := by decide +kernel
theorem dJ1_indexOfChar_4cfef_22 : decode cJ1_indexOfChar_4cfef 22 = .ok (.iload 5, 2) := by decide +kernel
theorem dJ1_indexOfChar_4cfef_24 : decode cJ1_indexOfChar_4cfef 24 = .ok (.ireturn, 1) := by decide +kernel
theorem dJ1_indexOfChar_4cfef_25 : decode cJ1_indexOfChar_4cfef 25 = .ok (.iinc 5 1, 3) := by decide +kernel
theorem dJ1_indexOfChar_4cfef_28 : decode cJ1_indexOfChar_4cfef 28 = .ok (.goto (-21), 3) := by decide +kernel
theorem dJ1_indexOfChar_4cfef_31 : decode cJ1_indexOfChar_4cfef 31 = .ok (.iconst (-1), 1) := by decide +kernel
theorem dJ1_indexOfChar_4cfef_32 : decode cJ1_indexOfChar_4cfef 32 = .ok (.ireturn, 1) := by decide +kernel
set_option maxRecDepth 20000 in
theorem dJ2_getChar_3b067_0 : decode cJ2_getChar_3b067 0 = .ok (.getstatic 44, 3) := by decide +kernel
theorem dJ2_getChar_3b067_3 : decode cJ2_getChar_3b067 3 = .ok (.ifCond .ne 25, 3) := by decide +kernel
theorem dJ2_getChar_3b067_6 : decode cJ2_getChar_3b067 6 = .ok (.iload_n 1, 1) := by decide +kernel
theorem dJ2_getChar_3b067_7 : decode cJ2_getChar_3b067 7 = .ok (.ifCond .lt 11, 3) := by decide +kernel
theorem dJ2_getChar_3b067_10 : decode cJ2_getChar_3b067 10 = .ok (.iload_n 1, 1) := by decide +kernel
theorem dJ2_getChar_3b067_11 : decode cJ2_getChar_3b067 11 = .ok (.aload_n 0, 1) := by decide +kernel
theorem dJ2_getChar_3b067_12 : decode cJ2_getChar_3b067 12 = .ok (.invokestatic 48, 3) := by decide +kernel
theorem dJ2_getChar_3b067_15 : decode cJ2_getChar_3b067 15 = .ok (.if_icmp .lt 13, 3) := by decide +kernel
theorem dJ2_getChar_3b067_18 : decode cJ2_getChar_3b067 18 = .ok (.new 52, 3) := by decide +kernel
theorem dJ2_getChar_3b067_21 : decode cJ2_getChar_3b067 21 = .ok (.dup, 1) := by decide +kernel
theorem dJ2_getChar_3b067_22 : decode cJ2_getChar_3b067 22 = .ok (.ldc 54, 2) := by decide +kernel
theorem dJ2_getChar_3b067_24 : decode cJ2_getChar_3b067 24 = .ok (.invokespecial 56, 3) := by decide +kernel
theorem dJ2_getChar_3b067_27 : decode cJ2_getChar_3b067 27 = .ok (.athrow, 1) := by decide +kernel
theorem dJ2_getChar_3b067_28 : decode cJ2_getChar_3b067 28 = .ok (.iload_n 1, 1) := by decide +kernel
theorem dJ2_getChar_3b067_29 : decode cJ2_getChar_3b067 29 = .ok (.iconst 1, 1) := by decide +kernel
theorem dJ2_getChar_3b067_30 : decode cJ2_getChar_3b067 30 = .ok (.ishl, 1) := by decide +kernel
theorem dJ2_getChar_3b067_31 : decode cJ2_getChar_3b067 31 = .ok (.istore_n 1, 1) := by decide +kernel
theorem dJ2_getChar_3b067_32 : decode cJ2_getChar_3b067 32 = .ok (.aload_n 0, 1) := by decide +kernel
theorem dJ2_getChar_3b067_33 : decode cJ2_getChar_3b067 33 = .ok (.iload_n 1, 1) := by decide +kernel
theorem dJ2_getChar_3b067_34 : decode cJ2_getChar_3b067 34 = .ok (.iinc 1 1, 3) := by decide +kernel
theorem dJ2_getChar_3b067_37 : decode cJ2_getChar_3b067 37 = .ok (.baload, 1) := by decide +kernel
theorem dJ2_getChar_3b067_38 : decode cJ2_getChar_3b067 38 = .ok (.sipush 255, 3) := by decide +kernel
theorem dJ2_getChar_3b067_41 : decode cJ2_getChar_3b067 41 = .ok (.iand, 1) := by decide +kernel
theorem dJ2_getChar_3b067_42 : decode cJ2_getChar_3b067 42 = .ok (.getstatic 59, 3) := by decide +kernel
theorem dJ2_getChar_3b067_45 : decode cJ2_getChar_3b067 45 = .ok (.ishl, 1) := by decide +kernel
theorem dJ2_getChar_3b067_46 : decode cJ2_getChar_3b067 46 = .ok (.aload_n 0, 1) := by decide +kernel
theorem dJ2_getChar_3b067_47 : decode cJ2_getChar_3b067 47 = .ok (.iload_n 1, 1) := by decide +kernel
theorem dJ2_getChar_3b067_48 : decode cJ2_getChar_3b067 48 = .ok (.baload, 1) := by decide +kernel
theorem dJ2_getChar_3b067_49 : decode cJ2_getChar_3b067 49 = .ok (.sipush 255, 3) := by decide +kernel
theorem dJ2_getChar_3b067_52 : decode cJ2_getChar_3b067 52 = .ok (.iand, 1) := by decide +kernel
theorem dJ2_getChar_3b067_53 : decode cJ2_getChar_3b067 53 = .ok (.getstatic 63, 3) := by decide +kernel
theorem dJ2_getChar_3b067_56 : decode cJ2_getChar_3b067 56 = .ok (.ishl, 1) := by decide +kernel
theorem dJ2_getChar_3b067_57 : decode cJ2_getChar_3b067 57 = .ok (.ior, 1) := by decide +kernel
theorem dJ2_getChar_3b067_58 : decode cJ2_getChar_3b067 58 = .ok (.i2c, 1) := by decide +kernel
theorem dJ2_getChar_3b067_59 : decode cJ2_getChar_3b067 59 = .ok (.ireturn, 1) := by decide +kernel
theorem dJ2_length_9d52b_0 : decode cJ2_length_9d52b 0 = .ok (.aload_n 0, 1) := by decide +kernel
theorem dJ2_length_9d52b_1 : decode cJ2_length_9d52b 1 = .ok (.arraylength, 1) := by decide +kernel
theorem dJ2_length_9d52b_2 : decode cJ2_length_9d52b 2 = .ok (.iconst 1, 1) := by decide +kernel
theorem dJ2_length_9d52b_3 : decode cJ2_length_9d52b 3 = .ok (.ishr, 1) := by decide +kernel
theorem dJ2_length_9d52b_4 : decode cJ2_length_9d52b 4 = .ok (.ireturn, 1) := by decide +kernel
set_option maxRecDepth 20000 in
theorem dJ2_indexOf_4cfef_0 : decode cJ2_indexOf_4cfef 0 = .ok (.iload_n 2, 1) := by decide +kernel
theorem dJ2_indexOf_4cfef_1 : decode cJ2_indexOf_4cfef 1 = .ok (.iconst 0, 1) := by decide +kernel
theorem dJ2_indexOf_4cfef_2 : decode cJ2_indexOf_4cfef 2 = .ok (.invokestatic 224, 3) := by decide +kernel
theorem dJ2_indexOf_4cfef_5 : decode cJ2_indexOf_4cfef 5 = .ok (.istore_n 2, 1) := by decide +kernel
theorem dJ2_indexOf_4cfef_6 : decode cJ2_indexOf_4cfef 6 = .ok (.iload_n 3, 1) := by decide +kernel
theorem dJ2_indexOf_4cfef_7 : decode cJ2_indexOf_4cfef 7 = .ok (.aload_n 0, 1) := by decide +kernel
theorem dJ2_indexOf_4cfef_8 : decode cJ2_indexOf_4cfef 8 = .ok (.arraylength, 1) := by decide +kernel
theorem dJ2_indexOf_4cfef_9 : decode cJ2_indexOf_4cfef 9 = .ok (.iconst 1, 1) := by decide +kernel
theorem dJ2_indexOf_4cfef_10 : decode cJ2_indexOf_4cfef 10 = .ok (.ishr, 1) := by decide +kernel
theorem dJ2_indexOf_4cfef_11 : decode cJ2_indexOf_4cfef 11 = .ok (.invokestatic 183, 3) := by decide +kernel
theorem dJ2_indexOf_4cfef_14 : decode cJ2_indexOf_4cfef 14 = .ok (.istore_n 3, 1) := by decide +kernel
theorem dJ2_indexOf_4cfef_15 : decode cJ2_indexOf_4cfef 15 = .ok (.iload_n 2, 1) := by decide +kernel
theorem dJ2_indexOf_4cfef_16 : decode cJ2_indexOf_4cfef 16 = .ok (.iload_n 3, 1) := by decide +kernel
theorem dJ2_indexOf_4cfef_17 : decode cJ2_indexOf_4cfef 17 = .ok (.if_icmp .lt 5, 3) := by decide +kernel
theorem dJ2_indexOf_4cfef_20 : decode cJ2_indexOf_4cfef 20 = .ok (.iconst (-1), 1) := by decide +kernel
theorem dJ2_indexOf_4cfef_21 : decode cJ2_indexOf_4cfef 21 = .ok (.ireturn, 1) := by decide +kernel
theorem dJ2_indexOf_4cfef_22 : decode cJ2_indexOf_4cfef 22 = .ok (.iload_n 1, 1) := by decide +kernel
theorem dJ2_indexOf_4cfef_23 : decode cJ2_indexOf_4cfef 23 = .ok (.ldc 227, 2) := by decide +kernel
theorem dJ2_indexOf_4cfef_25 : decode cJ2_indexOf_4cfef 25 = .ok (.if_icmp .ge 11, 3) := by decide +kernel
theorem dJ2_indexOf_4cfef_28 : decode cJ2_indexOf_4cfef 28 = .ok (.aload_n 0, 1) := by decide +kernel
theorem dJ2_indexOf_4cfef_29 : decode cJ2_indexOf_4cfef 29 = .ok (.iload_n 1, 1) := by decide +kernel
theorem dJ2_indexOf_4cfef_30 : decode cJ2_indexOf_4cfef 30 = .ok (.iload_n 2, 1) := by decide +kernel
theorem dJ2_indexOf_4cfef_31 : decode cJ2_indexOf_4cfef 31 = .ok (.iload_n 3, 1) := by decide +kernel
theorem dJ2_indexOf_4cfef_32 : decode cJ2_indexOf_4cfef 32 = .ok (.invokestatic 228, 3) := by decide +kernel
theorem dJ2_indexOf_4cfef_35 : decode cJ2_indexOf_4cfef 35 = .ok (.ireturn, 1) := by decide +kernel
theorem dJ2_indexOf_4cfef_36 : decode cJ2_indexOf_4cfef 36 = .ok (.aload_n 0, 1) := by decide +kernel
theorem dJ2_indexOf_4cfef_37 : decode cJ2_indexOf_4cfef 37 = .ok (.iload_n 1, 1) := by decide +kernel
theorem dJ2_indexOf_4cfef_38 : decode cJ2_indexOf_4cfef 38 = .ok (.iload_n 2, 1) := by decide +kernel
theorem dJ2_indexOf_4cfef_39 : decode cJ2_indexOf_4cfef 39 = .ok (.iload_n 3, 1) := by decide +kernel
theorem dJ2_indexOf_4cfef_40 : decode cJ2_indexOf_4cfef 40 = .ok (.invokestatic 232, 3) := by decide +kernel
theorem dJ2_indexOf_4cfef_43 : decode cJ2_indexOf_4cfef 43 = .ok (.ireturn, 1) := by decide +kernel
set_option maxRecDepth 20000 in
theorem dJ2_indexOfChar_4cfef_0 : decode cJ2_indexOfChar_4cfef 0 = .ok (.iload_n 2, 1) := by decide +kernel
theorem dJ2_indexOfChar_4cfef_1 : decode cJ2_indexOfChar_4cfef 1 = .ok (.iload_n 3, 1) := by decide +kernel
theorem dJ2_indexOfChar_4cfef_2 : decode cJ2_indexOfChar_4cfef 2 = .ok (.aload_n 0, 1) := by decide +kernel
theorem dJ2_indexOfChar_4cfef_3 : decode cJ2_indexOfChar_4cfef 3 = .ok (.invokestatic 96, 3) := by decide +kernel
theorem dJ2_indexOfChar_4cfef_6 : decode cJ2_indexOfChar_4cfef 6 = .ok (.aload_n 0, 1) := by decide +kernel
theorem dJ2_indexOfChar_4cfef_7 : decode cJ2_indexOfChar_4cfef 7 = .ok (.iload_n 1, 1) := by decide +kernel
theorem dJ2_indexOfChar_4cfef_8 : decode cJ2_indexOfChar_4cfef 8 = .ok (.iload_n 2, 1) := by decide +kernel
theorem dJ2_indexOfChar_4cfef_9 : decode cJ2_indexOfChar_4cfef 9 = .ok (.iload_n 3, 1) := by decide +kernel
theorem dJ2_indexOfChar_4cfef_10 : decode cJ2_indexOfChar_4cfef 10 = .ok (.invokestatic 244, 3) := by decide +kernel
theorem dJ2_indexOfChar_4cfef_13 : decode cJ2_indexOfChar_4cfef 13 = .ok (.ireturn, 1) := by decide +kernel
set_option maxRecDepth 20000 in
theorem dJ2_indexOfCharUnsafe_4cfef_0 : decode cJ2_indexOfCharUnsafe_4cfef 0 = .ok (.iload_n 2, 1) := by decide +kernel
theorem dJ2_indexOfCharUnsafe_4cfef_1 : decode cJ2_indexOfCharUnsafe_4cfef 1 = .ok (.istore 4, 2) := by decide +kernel
theorem dJ2_indexOfCharUnsafe_4cfef_3 : decode cJ2_indexOfCharUnsafe_4cfef 3 = .ok (.iload 4, 2) := by decide +kernel
theorem dJ2_indexOfCharUnsafe_4cfef_5 : decode cJ2_indexOfCharUnsafe_4cfef 5 = .ok (.iload_n 3, 1) := by decide +kernel
theorem dJ2_indexOfCharUnsafe_4cfef_6 : decode cJ2_indexOfCharUnsafe_4cfef 6 = .ok (.if_icmp .ge 22, 3) := by decide +kernel
theorem dJ2_indexOfCharUnsafe_4cfef_9 : decode cJ2_indexOfCharUnsafe_4cfef 9 = .ok (.aload_n 0, 1) := by decide +kernel
theorem dJ2_indexOfCharUnsafe_4cfef_10 : decode cJ2_indexOfCharUnsafe_4cfef 10 = .ok (.iload 4, 2) := by decide +kernel
theorem dJ2_indexOfCharUnsafe_4cfef_12 : decode cJ2_indexOfCharUnsafe_4cfef 12 = .ok (.invokestatic 71, 3) := by decide +kernel
theorem dJ2_indexOfCharUnsafe_4cfef_15 : decode cJ2_indexOfCharUnsafe_4cfef 15 = .ok (.iload_n 1, 1) := by decide +kernel
theorem dJ2_indexOfCharUnsafe_4cfef_16 : decode cJ2_indexOfCharUnsafe_4cfef 16 = .ok (.if_icmp .ne 6, 3) := by decide +kernel
theorem dJ2_indexOfCharUnsafe_4cfef_19 : decode cJ2_indexOfCharUnsafe_4cfef 19 = .ok (.iload 4, 2) := by decide +kernel
theorem dJ2_indexOfCharUnsafe_4cfef_21 : decode cJ2_indexOfCharUnsafe_4cfef 21 = .ok (.ireturn, 1) := by decide +kernel
theorem dJ2_indexOfCharUnsafe_4cfef_22 : decode cJ2_indexOfCharUnsafe_4cfef 22 = .ok (.iinc 4 1, 3) := by decide +kernel
theorem dJ2_indexOfCharUnsafe_4cfef_25 : decode cJ2_indexOfCharUnsafe_4cfef 25 = .ok (.goto (-22), 3) := by decide +kernel
theorem dJ2_indexOfCharUnsafe_4cfef_28 : decode cJ2_indexOfCharUnsafe_4cfef 28 = .ok (.iconst (-1), 1) := by decide +kernel
theorem dJ2_indexOfCharUnsafe_4cfef_29 : decode cJ2_indexOfCharUnsafe_4cfef 29 = .ok (.ireturn, 1) := by decide +kernel
set_option maxRecDepth 20000 in
theorem dJ2_indexOfSupplementary_4cfef_0 : decode cJ2_indexOfSupplementary_4cfef 0 = .ok (.iload_n 1, 1) := by decide +kernel
theorem dJ2_indexOfSupplementary_4cfef_1 : decode cJ2_indexOfSupplementary_4cfef 1 = .ok (.invokestatic 164, 3) := by decide +kernel
theorem dJ2_indexOfSupplementary_4cfef_4 : decode cJ2_indexOfSupplementary_4cfef 4 = .ok (.ifCond .eq 65, 3) := by decide +kernel
theorem dJ2_indexOfSupplementary_4cfef_7 : decode cJ2_indexOfSupplementary_4cfef 7 = .ok (.iload_n 1, 1) := by decide +kernel
theorem dJ2_indexOfSupplementary_4cfef_8 : decode cJ2_indexOfSupplementary_4cfef 8 = .ok (.invokestatic 157, 3) := by decide +kernel
theorem dJ2_indexOfSupplementary_4cfef_11 : decode cJ2_indexOfSupplementary_4cfef 11 = .ok (.istore 4, 2) := by decide +kernel
theorem dJ2_indexOfSupplementary_4cfef_13 : decode cJ2_indexOfSupplementary_4cfef 13 = .ok (.iload_n 1, 1) := by decide +kernel
theorem dJ2_indexOfSupplementary_4cfef_14 : decode cJ2_indexOfSupplementary_4cfef 14 = .ok (.invokestatic 161, 3) := by decide +kernel
theorem dJ2_indexOfSupplementary_4cfef_17 : decode cJ2_indexOfSupplementary_4cfef 17 = .ok (.istore 5, 2) := by decide +kernel
theorem dJ2_indexOfSupplementary_4cfef_19 : decode cJ2_indexOfSupplementary_4cfef 19 = .ok (.iload_n 2, 1) := by decide +kernel
theorem dJ2_indexOfSupplementary_4cfef_20 : decode cJ2_indexOfSupplementary_4cfef 20 = .ok (.iload_n 3, 1) := by decide +kernel
theorem dJ2_indexOfSupplementary_4cfef_21 : decode cJ2_indexOfSupplementary_4cfef 21 = .ok (.aload_n 0, 1) := by decide +kernel
theorem dJ2_indexOfSupplementary_4cfef_22 : decode cJ2_indexOfSupplementary_4cfef 22 = .ok (.invokestatic 96, 3) := by decide +kernel
theorem dJ2_indexOfSupplementary_4cfef_25 : decode cJ2_indexOfSupplementary_4cfef 25 = .ok (.iload_n 2, 1) := by decide +kernel
theorem dJ2_indexOfSupplementary_4cfef_26 : decode cJ2_indexOfSupplementary_4cfef 26 = .ok (.istore 6, 2) := by decide +kernel
theorem dJ2_indexOfSupplementary_4cfef_28 : decode cJ2_indexOfSupplementary_4cfef 28 = .ok (.iload 6, 2) := by decide +kernel
theorem dJ2_indexOfSupplementary_4cfef_30 : decode cJ2_indexOfSupplementary_4cfef 30 = .ok (.iload_n 3, 1) := by decide +kernel
theorem dJ2_indexOfSupplementary_4cfef_31 : decode cJ2_indexOfSupplementary_4cfef 31 = .ok (.iconst 1, 1) := by decide +kernel
theorem dJ2_indexOfSupplementary_4cfef_32 : decode cJ2_indexOfSupplementary_4cfef 32 = .ok (.isub, 1) := by decide +kernel
theorem dJ2_indexOfSupplementary_4cfef_33 : decode cJ2_indexOfSupplementary_4cfef 33 = .ok (.if_icmp .ge 36, 3) := by decide +kernel
theorem dJ2_indexOfSupplementary_4cfef_36 : decode cJ2_indexOfSupplementary_4cfef 36 = .ok (.aload_n 0, 1) := by decide +kernel
theorem dJ2_indexOfSupplementary_4cfef_37 : decode cJ2_indexOfSupplementary_4cfef 37 = .ok (.iload 6, 2) := by decide +kernel
theorem dJ2_indexOfSupplementary_4cfef_39 : decode cJ2_indexOfSupplementary_4cfef 39 = .ok (.invokestatic 71, 3) := by decide +kernel
theorem dJ2_indexOfSupplementary_4cfef_42 : decode cJ2_indexOfSupplementary_4cfef 42 = .ok (.iload 4, 2) := by decide +kernel
theorem dJ2_indexOfSupplementary_4cfef_44 : decode cJ2_indexOfSupplementary_4cfef 44 = .ok (.if_icmp .ne 19, 3) := by decide +kernel
theorem dJ2_indexOfSupplementary_4cfef_47 : decode cJ2_indexOfSupplementary_4cfef 47 = .ok (.aload_n 0, 1) := by decide +kernel
theorem dJ2_indexOfSupplementary_4cfef_48 : decode cJ2_indexOfSupplementary_4cfef 48 = .ok (.iload 6, 2) := by decide +kernel
theorem dJ2_indexOfSupplementary_4cfef_50 : decode cJ2_indexOfSupplementary_4cfef 50 = .ok (.iconst 1, 1) := by decide +kernel
theorem dJ2_indexOfSupplementary_4cfef_51 : decode cJ2_indexOfSupplementary_4cfef 51 = .ok (.iadd, 1) := by decide +kernel
theorem dJ2_indexOfSupplementary_4cfef_52 : decode cJ2_indexOfSupplementary_4cfef 52 = .ok (.invokestatic 71, 3) := by decide +kernel
theorem dJ2_indexOfSupplementary_4cfef_55 : decode cJ2_indexOfSupplementary_4cfef 55 = .ok (.iload 5, 2) := by decide +kernel
theorem dJ2_indexOfSupplementary_4cfef_57 : decode cJ2_indexOfSupplementary_4cfef 57 = .ok (.if_icmp .ne 6, 3) := by decide +kernel
theorem dJ2_indexOfSupplementary_4cfef_60 : decode cJ2_indexOfSupplementary_4cfef 60 = .ok (.iload 6, 2) := by decide +kernel
theorem dJ2_indexOfSupplementary_4cfef_62 : decode cJ2_indexOfSupplementary_4cfef 62 = .ok (.ireturn, 1) := by decide +kernel
theorem dJ2_indexOfSupplementary_4cfef_63 : decode cJ2_indexOfSupplementary_4cfef 63 = .ok (.iinc 6 1, 3) := by decide +kernel
theorem dJ2_indexOfSupplementary_4cfef_66 : decode cJ2_indexOfSupplementary_4cfef 66 = .ok (.goto (-38), 3) := by decide +kernel
theorem dJ2_indexOfSupplementary_4cfef_69 : decode cJ2_indexOfSupplementary_4cfef 69 = .ok (.iconst (-1), 1) := by decide +kernel
theorem dJ2_indexOfSupplementary_4cfef_70 : decode cJ2_indexOfSupplementary_4cfef 70 = .ok (.ireturn, 1) := by decide +kernel
set_option maxRecDepth 20000 in
theorem dJ2_charAt_3b067_0 : decode cJ2_charAt_3b067 0 = .ok (.iload_n 1, 1) := by decide +kernel
theorem dJ2_charAt_3b067_1 : decode cJ2_charAt_3b067 1 = .ok (.aload_n 0, 1) := by decide +kernel
theorem dJ2_charAt_3b067_2 : decode cJ2_charAt_3b067 2 = .ok (.invokestatic 67, 3) := by decide +kernel
theorem dJ2_charAt_3b067_5 : decode cJ2_charAt_3b067 5 = .ok (.aload_n 0, 1) := by decide +kernel
theorem dJ2_charAt_3b067_6 : decode cJ2_charAt_3b067 6 = .ok (.iload_n 1, 1) := by decide +kernel
theorem dJ2_charAt_3b067_7 : decode cJ2_charAt_3b067 7 = .ok (.invokestatic 71, 3) := by decide +kernel
theorem dJ2_charAt_3b067_10 : decode cJ2_charAt_3b067 10 = .ok (.ireturn, 1) := by decide +kernel
set_option maxRecDepth 20000 in
theorem dJ2_checkIndex_2214a_0 : decode cJ2_checkIndex_2214a 0 = .ok (.iload_n 0, 1) := by decide +kernel
theorem dJ2_checkIndex_2214a_1 : decode cJ2_checkIndex_2214a 1 = .ok (.aload_n 1, 1) := by decide +kernel
theorem dJ2_checkIndex_2214a_2 : decode cJ2_checkIndex_2214a 2 = .ok (.invokestatic 48, 3) := by decide +kernel
theorem dJ2_checkIndex_2214a_5 : decode cJ2_checkIndex_2214a 5 = .ok (.invokestatic 414, 3) := by decide +kernel
theorem dJ2_checkIndex_2214a_8 : decode cJ2_checkIndex_2214a 8 = .ok (.return_, 1) := by decide +kernel
set_option maxRecDepth 20000 in
theorem dJ2_checkBoundsBeginEnd_d044e_0 : decode cJ2_checkBoundsBeginEnd_d044e 0 = .ok (.iload_n 0, 1) := by decide +kernel
theorem dJ2_checkBoundsBeginEnd_d044e_1 : decode cJ2_checkBoundsBeginEnd_d044e 1 = .ok (.iload_n 1, 1) := by decide +kernel
theorem dJ2_checkBoundsBeginEnd_d044e_2 : decode cJ2_checkBoundsBeginEnd_d044e 2 = .ok (.aload_n 2, 1) := by decide +kernel
theorem dJ2_checkBoundsBeginEnd_d044e_3 : decode cJ2_checkBoundsBeginEnd_d044e 3 = .ok (.invokestatic 48, 3) := by decide +kernel
theorem dJ2_checkBoundsBeginEnd_d044e_6 : decode cJ2_checkBoundsBeginEnd_d044e 6 = .ok (.invokestatic 241, 3) := by decide +kernel
theorem dJ2_checkBoundsBeginEnd_d044e_9 : decode cJ2_checkBoundsBeginEnd_d044e 9 = .ok (.return_, 1) := by decide +kernel
theorem dJ7_fill_53178_0 : decode cJ7_fill_53178 0 = .ok (.iconst 0, 1) := by decide +kernel
theorem dJ7_fill_53178_1 : decode cJ7_fill_53178 1 = .ok (.istore_n 2, 1) := by decide +kernel
theorem dJ7_fill_53178_2 : decode cJ7_fill_53178 2 = .ok (.aload_n 0, 1) := by decide +kernel
theorem dJ7_fill_53178_3 : decode cJ7_fill_53178 3 = .ok (.arraylength, 1) := by decide +kernel
theorem dJ7_fill_53178_4 : decode cJ7_fill_53178 4 = .ok (.istore_n 3, 1) := by decide +kernel
theorem dJ7_fill_53178_5 : decode cJ7_fill_53178 5 = .ok (.iload_n 2, 1) := by decide +kernel
theorem dJ7_fill_53178_6 : decode cJ7_fill_53178 6 = .ok (.iload_n 3, 1) := by decide +kernel
theorem dJ7_fill_53178_7 : decode cJ7_fill_53178 7 = .ok (.if_icmp .ge 13, 3) := by decide +kernel
theorem dJ7_fill_53178_10 : decode cJ7_fill_53178 10 = .ok (.aload_n 0, 1) := by decide +kernel
theorem dJ7_fill_53178_11 : decode cJ7_fill_53178 11 = .ok (.iload_n 2, 1) := by decide +kernel
theorem dJ7_fill_53178_12 : decode cJ7_fill_53178 12 = .ok (.iload_n 1, 1) := by decide +kernel
theorem dJ7_fill_53178_13 : decode cJ7_fill_53178 13 = .ok (.iastore, 1) := by decide +kernel
theorem dJ7_fill_53178_14 : decode cJ7_fill_53178 14 = .ok (.iinc 2 1, 3) := by decide +kernel
theorem dJ7_fill_53178_17 : decode cJ7_fill_53178 17 = .ok (.goto (-12), 3) := by decide +kernel
theorem dJ7_fill_53178_20 : decode cJ7_fill_53178 20 = .ok (.return_, 1) := by decide +kernel
theorem dJ3_checkIndex_8e157_0 : decode cJ3_checkIndex_8e157 0 = .ok (.iload_n 0, 1) := by decide +kernel
theorem dJ3_checkIndex_8e157_1 : decode cJ3_checkIndex_8e157 1 = .ok (.ifCond .lt 8, 3) := by decide +kernel
theorem dJ3_checkIndex_8e157_4 : decode cJ3_checkIndex_8e157 4 = .ok (.iload_n 0, 1) := by decide +kernel
theorem dJ3_checkIndex_8e157_5 : decode cJ3_checkIndex_8e157 5 = .ok (.iload_n 1, 1) := by decide +kernel
theorem dJ3_checkIndex_8e157_6 : decode cJ3_checkIndex_8e157 6 = .ok (.if_icmp .lt 10, 3) := by decide +kernel
theorem dJ3_checkIndex_8e157_9 : decode cJ3_checkIndex_8e157 9 = .ok (.aload_n 2, 1) := by decide +kernel
theorem dJ3_checkIndex_8e157_10 : decode cJ3_checkIndex_8e157 10 = .ok (.iload_n 0, 1) := by decide +kernel
theorem dJ3_checkIndex_8e157_11 : decode cJ3_checkIndex_8e157 11 = .ok (.iload_n 1, 1) := by decide +kernel
theorem dJ3_checkIndex_8e157_12 : decode cJ3_checkIndex_8e157 12 = .ok (.invokestatic 95, 3) := by decide +kernel
theorem dJ3_checkIndex_8e157_15 : decode cJ3_checkIndex_8e157 15 = .ok (.athrow, 1) := by decide +kernel
theorem dJ3_checkIndex_8e157_16 : decode cJ3_checkIndex_8e157 16 = .ok (.iload_n 0, 1) := by decide +kernel
theorem dJ3_checkIndex_8e157_17 : decode cJ3_checkIndex_8e157 17 = .ok (.ireturn, 1) := by decide +kernel
theorem dJ3_checkFromToIndex_8c36e_0 : decode cJ3_checkFromToIndex_8c36e 0 = .ok (.iload_n 0, 1) := by decide +kernel
theorem dJ3_checkFromToIndex_8c36e_1 : decode cJ3_checkFromToIndex_8c36e 1 = .ok (.ifCond .lt 13, 3) := by decide +kernel
theorem dJ3_checkFromToIndex_8c36e_4 : decode cJ3_checkFromToIndex_8c36e 4 = .ok (.iload_n 0, 1) := by decide +kernel
theorem dJ3_checkFromToIndex_8c36e_5 : decode cJ3_checkFromToIndex_8c36e 5 = .ok (.iload_n 1, 1) := by decide +kernel
theorem dJ3_checkFromToIndex_8c36e_6 : decode cJ3_checkFromToIndex_8c36e 6 = .ok (.if_icmp .gt 8, 3) := by decide +kernel
theorem dJ3_checkFromToIndex_8c36e_9 : decode cJ3_checkFromToIndex_8c36e 9 = .ok (.iload_n 1, 1) := by decide +kernel
theorem dJ3_checkFromToIndex_8c36e_10 : decode cJ3_checkFromToIndex_8c36e 10 = .ok (.iload_n 2, 1) := by decide +kernel
theorem dJ3_checkFromToIndex_8c36e_11 : decode cJ3_checkFromToIndex_8c36e 11 = .ok (.if_icmp .le 11, 3) := by decide +kernel
theorem dJ3_checkFromToIndex_8c36e_14 : decode cJ3_checkFromToIndex_8c36e 14 = .ok (.aload_n 3, 1) := by decide +kernel
theorem dJ3_checkFromToIndex_8c36e_15 : decode cJ3_checkFromToIndex_8c36e 15 = .ok (.iload_n 0, 1) := by decide +kernel
theorem dJ3_checkFromToIndex_8c36e_16 : decode cJ3_checkFromToIndex_8c36e 16 = .ok (.iload_n 1, 1) := by decide +kernel
theorem dJ3_checkFromToIndex_8c36e_17 : decode cJ3_checkFromToIndex_8c36e 17 = .ok (.iload_n 2, 1) := by decide +kernel
theorem dJ3_checkFromToIndex_8c36e_18 : decode cJ3_checkFromToIndex_8c36e 18 = .ok (.invokestatic 99, 3) := by decide +kernel
theorem dJ3_checkFromToIndex_8c36e_21 : decode cJ3_checkFromToIndex_8c36e 21 = .ok (.athrow, 1) := by decide +kernel
theorem dJ3_checkFromToIndex_8c36e_22 : decode cJ3_checkFromToIndex_8c36e 22 = .ok (.iload_n 0, 1) := by decide +kernel
theorem dJ3_checkFromToIndex_8c36e_23 : decode cJ3_checkFromToIndex_8c36e 23 = .ok (.ireturn, 1) := by decide +kernel
set_option maxRecDepth 20000 in
abbrev vwCl : List vw_C := [(RX0, TX0, 3), (RX2, TX2, 20), (RX3, TX3, 4), (RX4, TX4, 8), (RX5, TX5, 4), (RX6, TX6, 8), (RX7, TX7, 4), (RX8, TX8, 6), (RX9, TX9, 7), (RX10, TX10, 15), (RX11, TX11, 63)]
