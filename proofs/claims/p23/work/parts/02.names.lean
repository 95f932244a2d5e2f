/-! names of the program, out of the printed ones -/
def RX0 : String := "SkipRope$BouncerKind"
def TX0 : u_T := fun k => match k with
  | _ => ("", "", "", false)
def tyX0 : Nat → FieldType := fun k => match k with
  | _ => .int
abbrev wsX00 : List Cond := u_ws RX0 TX0 0
theorem nmX0 : ∀ a, a < 0 → ∀ b, b < 0 → a ≠ b → (TX0 a).2.1 ≠ (TX0 b).2.1 := by decide +kernel
theorem tyX0_ok : ∀ k, k < 0 → parseFieldDescriptor (TX0 k).2.2.1 = some (tyX0 k) := by decide +kernel
abbrev cX0_init : ByteArray := prog_2_method_1_code
def yX0_init : MethodName := ⟨RX0, "<init>", "()V"⟩
abbrev cX0_worth : ByteArray := prog_2_method_2_code
def yX0_worth : MethodName := ⟨RX0, "worth", "(LSkipRope;I)I"⟩
def RX1 : String := "SkipRope$Crew"
def TX1 : u_T := fun k => match k with
  | 0 => ("SkipRope$Crew", "every", "I", false)
  | 1 => ("SkipRope$Crew", "size", "I", false)
  | 2 => ("SkipRope$Crew", "period", "[I", true)
  | 3 => ("SkipRope$Crew", "hang", "[I", true)
  | 4 => ("SkipRope$Crew", "start", "[I", true)
  | _ => ("SkipRope$Crew", "wind", "[I", true)
def tyX1 : Nat → FieldType := fun k => match k with
  | 0 => .int
  | 1 => .int
  | 2 => .array .int
  | 3 => .array .int
  | 4 => .array .int
  | _ => .array .int
abbrev wsX10 : List Cond := u_ws RX1 TX1 6
theorem nmX1 : ∀ a, a < 6 → ∀ b, b < 6 → a ≠ b → (TX1 a).2.1 ≠ (TX1 b).2.1 := by decide +kernel
theorem tyX1_ok : ∀ k, k < 6 → parseFieldDescriptor (TX1 k).2.2.1 = some (tyX1 k) := by decide +kernel
abbrev cX1_init : ByteArray := prog_3_method_1_code
def yX1_init : MethodName := ⟨RX1, "<init>", "()V"⟩
abbrev cX1_reset : ByteArray := prog_3_method_2_code
def yX1_reset : MethodName := ⟨RX1, "reset", "()V"⟩
abbrev cX1_add : ByteArray := prog_3_method_3_code
def yX1_add : MethodName := ⟨RX1, "add", "(IIII)V"⟩
def RX2 : String := "SkipRope$CrossKind"
def TX2 : u_T := fun k => match k with
  | _ => ("", "", "", false)
def tyX2 : Nat → FieldType := fun k => match k with
  | _ => .int
abbrev wsX20 : List Cond := u_ws RX2 TX2 0
theorem nmX2 : ∀ a, a < 0 → ∀ b, b < 0 → a ≠ b → (TX2 a).2.1 ≠ (TX2 b).2.1 := by decide +kernel
theorem tyX2_ok : ∀ k, k < 0 → parseFieldDescriptor (TX2 k).2.2.1 = some (tyX2 k) := by decide +kernel
abbrev cX2_init : ByteArray := prog_4_method_1_code
def yX2_init : MethodName := ⟨RX2, "<init>", "()V"⟩
abbrev cX2_worth : ByteArray := prog_4_method_2_code
def yX2_worth : MethodName := ⟨RX2, "worth", "(LSkipRope;I)I"⟩
def RX3 : String := "SkipRope$DoubleKind"
def TX3 : u_T := fun k => match k with
  | _ => ("", "", "", false)
def tyX3 : Nat → FieldType := fun k => match k with
  | _ => .int
abbrev wsX30 : List Cond := u_ws RX3 TX3 0
theorem nmX3 : ∀ a, a < 0 → ∀ b, b < 0 → a ≠ b → (TX3 a).2.1 ≠ (TX3 b).2.1 := by decide +kernel
theorem tyX3_ok : ∀ k, k < 0 → parseFieldDescriptor (TX3 k).2.2.1 = some (tyX3 k) := by decide +kernel
abbrev cX3_init : ByteArray := prog_5_method_1_code
def yX3_init : MethodName := ⟨RX3, "<init>", "()V"⟩
abbrev cX3_worth : ByteArray := prog_5_method_2_code
def yX3_worth : MethodName := ⟨RX3, "worth", "(LSkipRope;I)I"⟩
def RX4 : String := "SkipRope$HopperKind"
def TX4 : u_T := fun k => match k with
  | _ => ("", "", "", false)
def tyX4 : Nat → FieldType := fun k => match k with
  | _ => .int
abbrev wsX40 : List Cond := u_ws RX4 TX4 0
theorem nmX4 : ∀ a, a < 0 → ∀ b, b < 0 → a ≠ b → (TX4 a).2.1 ≠ (TX4 b).2.1 := by decide +kernel
theorem tyX4_ok : ∀ k, k < 0 → parseFieldDescriptor (TX4 k).2.2.1 = some (tyX4 k) := by decide +kernel
abbrev cX4_init : ByteArray := prog_6_method_1_code
def yX4_init : MethodName := ⟨RX4, "<init>", "()V"⟩
abbrev cX4_worth : ByteArray := prog_6_method_2_code
def yX4_worth : MethodName := ⟨RX4, "worth", "(LSkipRope;I)I"⟩
def RX5 : String := "SkipRope$JumperKind"
def TX5 : u_T := fun k => match k with
  | _ => ("", "", "", false)
def tyX5 : Nat → FieldType := fun k => match k with
  | _ => .int
abbrev wsX50 : List Cond := u_ws RX5 TX5 0
theorem nmX5 : ∀ a, a < 0 → ∀ b, b < 0 → a ≠ b → (TX5 a).2.1 ≠ (TX5 b).2.1 := by decide +kernel
theorem tyX5_ok : ∀ k, k < 0 → parseFieldDescriptor (TX5 k).2.2.1 = some (tyX5 k) := by decide +kernel
abbrev cX5_init : ByteArray := prog_7_method_1_code
def yX5_init : MethodName := ⟨RX5, "<init>", "()V"⟩
abbrev cX5_worth : ByteArray := prog_7_method_2_code
def yX5_worth : MethodName := ⟨RX5, "worth", "(LSkipRope;I)I"⟩
def RX6 : String := "SkipRope$Past"
def TX6 : u_T := fun k => match k with
  | 0 => ("SkipRope$Past", "ring", "[LSkipRope$Scene;", true)
  | 1 => ("SkipRope$Past", "next", "I", false)
  | _ => ("SkipRope$Past", "size", "I", false)
def tyX6 : Nat → FieldType := fun k => match k with
  | 0 => .array (.object "SkipRope$Scene")
  | 1 => .int
  | _ => .int
abbrev wsX60 : List Cond := u_ws RX6 TX6 3
theorem nmX6 : ∀ a, a < 3 → ∀ b, b < 3 → a ≠ b → (TX6 a).2.1 ≠ (TX6 b).2.1 := by decide +kernel
theorem tyX6_ok : ∀ k, k < 3 → parseFieldDescriptor (TX6 k).2.2.1 = some (tyX6 k) := by decide +kernel
abbrev cX6_init : ByteArray := prog_8_method_1_code
def yX6_init : MethodName := ⟨RX6, "<init>", "()V"⟩
abbrev cX6_push : ByteArray := prog_8_method_2_code
def yX6_push : MethodName := ⟨RX6, "push", "(LSkipRope$Scene;)V"⟩
abbrev cX6_popInto : ByteArray := prog_8_method_3_code
def yX6_popInto : MethodName := ⟨RX6, "popInto", "(LSkipRope$Scene;)V"⟩
def RX7 : String := "SkipRope$PepperKind"
def TX7 : u_T := fun k => match k with
  | _ => ("", "", "", false)
def tyX7 : Nat → FieldType := fun k => match k with
  | _ => .int
abbrev wsX70 : List Cond := u_ws RX7 TX7 0
theorem nmX7 : ∀ a, a < 0 → ∀ b, b < 0 → a ≠ b → (TX7 a).2.1 ≠ (TX7 b).2.1 := by decide +kernel
theorem tyX7_ok : ∀ k, k < 0 → parseFieldDescriptor (TX7 k).2.2.1 = some (tyX7 k) := by decide +kernel
abbrev cX7_init : ByteArray := prog_9_method_1_code
def yX7_init : MethodName := ⟨RX7, "<init>", "()V"⟩
abbrev cX7_worth : ByteArray := prog_9_method_2_code
def yX7_worth : MethodName := ⟨RX7, "worth", "(LSkipRope;I)I"⟩
def RX8 : String := "SkipRope$Scene"
def TX8 : u_T := fun k => match k with
  | 0 => ("SkipRope$Scene", "tick", "I", false)
  | 1 => ("SkipRope$Scene", "every", "I", false)
  | 2 => ("SkipRope$Scene", "round", "I", false)
  | 3 => ("SkipRope$Scene", "inside", "I", false)
  | 4 => ("SkipRope$Scene", "up", "[I", true)
  | 5 => ("SkipRope$Scene", "due", "[I", true)
  | _ => ("SkipRope$Scene", "wind", "[I", true)
def tyX8 : Nat → FieldType := fun k => match k with
  | 0 => .int
  | 1 => .int
  | 2 => .int
  | 3 => .int
  | 4 => .array .int
  | 5 => .array .int
  | _ => .array .int
abbrev wsX80 : List Cond := u_ws RX8 TX8 7
theorem nmX8 : ∀ a, a < 7 → ∀ b, b < 7 → a ≠ b → (TX8 a).2.1 ≠ (TX8 b).2.1 := by decide +kernel
theorem tyX8_ok : ∀ k, k < 7 → parseFieldDescriptor (TX8 k).2.2.1 = some (tyX8 k) := by decide +kernel
abbrev cX8_init : ByteArray := prog_10_method_1_code
def yX8_init : MethodName := ⟨RX8, "<init>", "()V"⟩
abbrev cX8_open : ByteArray := prog_10_method_2_code
def yX8_open : MethodName := ⟨RX8, "open", "(LSkipRope$Crew;)V"⟩
abbrev cX8_become : ByteArray := prog_10_method_3_code
def yX8_become : MethodName := ⟨RX8, "become", "(LSkipRope$Scene;)V"⟩
abbrev cX8_holds : ByteArray := prog_10_method_4_code
def yX8_holds : MethodName := ⟨RX8, "holds", "(I)Z"⟩
abbrev cX8_step : ByteArray := prog_10_method_5_code
def yX8_step : MethodName := ⟨RX8, "step", "(LSkipRope$Crew;)I"⟩
abbrev cX8_jumpAll : ByteArray := prog_10_method_6_code
def yX8_jumpAll : MethodName := ⟨RX8, "jumpAll", "(LSkipRope$Crew;)V"⟩
abbrev cX8_airborne : ByteArray := prog_10_method_7_code
def yX8_airborne : MethodName := ⟨RX8, "airborne", "()I"⟩
abbrev cX8_pass : ByteArray := prog_10_method_8_code
def yX8_pass : MethodName := ⟨RX8, "pass", "()V"⟩
abbrev cX8_turn : ByteArray := prog_10_method_9_code
def yX8_turn : MethodName := ⟨RX8, "turn", "(I)V"⟩
abbrev cX8_leave : ByteArray := prog_10_method_10_code
def yX8_leave : MethodName := ⟨RX8, "leave", "(I)V"⟩
abbrev cX8_enter : ByteArray := prog_10_method_11_code
def yX8_enter : MethodName := ⟨RX8, "enter", "(II)V"⟩
def RX9 : String := "SkipRope$Sight"
def TX9 : u_T := fun k => match k with
  | 0 => ("SkipRope$Sight", "size", "I", false)
  | 1 => ("SkipRope$Sight", "hangs", "[I", true)
  | 2 => ("SkipRope$Sight", "ticksSeen", "[I", true)
  | 3 => ("SkipRope$Sight", "ups", "[Z", true)
  | 4 => ("SkipRope$Sight", "found", "I", false)
  | 5 => ("SkipRope$Sight", "periods", "[I", true)
  | _ => ("SkipRope$Sight", "starts", "[I", true)
def tyX9 : Nat → FieldType := fun k => match k with
  | 0 => .int
  | 1 => .array .int
  | 2 => .array .int
  | 3 => .array .boolean
  | 4 => .int
  | 5 => .array .int
  | _ => .array .int
abbrev wsX90 : List Cond := u_ws RX9 TX9 7
theorem nmX9 : ∀ a, a < 7 → ∀ b, b < 7 → a ≠ b → (TX9 a).2.1 ≠ (TX9 b).2.1 := by decide +kernel
theorem tyX9_ok : ∀ k, k < 7 → parseFieldDescriptor (TX9 k).2.2.1 = some (tyX9 k) := by decide +kernel
abbrev cX9_init : ByteArray := prog_11_method_1_code
def yX9_init : MethodName := ⟨RX9, "<init>", "()V"⟩
abbrev cX9_add : ByteArray := prog_11_method_2_code
def yX9_add : MethodName := ⟨RX9, "add", "(IIZ)V"⟩
abbrev cX9_gather : ByteArray := prog_11_method_3_code
def yX9_gather : MethodName := ⟨RX9, "gather", "()V"⟩
abbrev cX9_agrees : ByteArray := prog_11_method_4_code
def yX9_agrees : MethodName := ⟨RX9, "agrees", "(II)Z"⟩
abbrev cX9_isUp : ByteArray := prog_11_method_5_code
def yX9_isUp : MethodName := ⟨RX9, "isUp", "(IIII)Z"⟩
abbrev cX9_bestTick : ByteArray := prog_11_method_6_code
def yX9_bestTick : MethodName := ⟨RX9, "bestTick", "(I)I"⟩
def RX10 : String := "SkipRope$Text"
def TX10 : u_T := fun k => match k with
  | 0 => ("SkipRope$Text", "letters", "[I", true)
  | 1 => ("SkipRope$Text", "parts", "[I", true)
  | 2 => ("SkipRope$Text", "length", "I", false)
  | 3 => ("SkipRope$Text", "items", "I", false)
  | 4 => ("SkipRope$Text", "place", "I", false)
  | 5 => ("SkipRope$Text", "start", "I", false)
  | 6 => ("SkipRope$Text", "token", "I", false)
  | _ => ("SkipRope$Text", "value", "I", false)
def tyX10 : Nat → FieldType := fun k => match k with
  | 0 => .array .int
  | 1 => .array .int
  | 2 => .int
  | 3 => .int
  | 4 => .int
  | 5 => .int
  | 6 => .int
  | _ => .int
abbrev wsX100 : List Cond := u_ws RX10 TX10 8
theorem nmX10 : ∀ a, a < 8 → ∀ b, b < 8 → a ≠ b → (TX10 a).2.1 ≠ (TX10 b).2.1 := by decide +kernel
theorem tyX10_ok : ∀ k, k < 8 → parseFieldDescriptor (TX10 k).2.2.1 = some (tyX10 k) := by decide +kernel
abbrev cX10_init : ByteArray := prog_12_method_1_code
def yX10_init : MethodName := ⟨RX10, "<init>", "()V"⟩
abbrev cX10_readInto : ByteArray := prog_12_method_2_code
def yX10_readInto : MethodName := ⟨RX10, "readInto", "(LSkipRope$Crew;)I"⟩
abbrev cX10_readEvery : ByteArray := prog_12_method_3_code
def yX10_readEvery : MethodName := ⟨RX10, "readEvery", "(LSkipRope$Crew;)Z"⟩
abbrev cX10_readJumper : ByteArray := prog_12_method_4_code
def yX10_readJumper : MethodName := ⟨RX10, "readJumper", "(LSkipRope$Crew;)Z"⟩
abbrev cX10_readNumber : ByteArray := prog_12_method_5_code
def yX10_readNumber : MethodName := ⟨RX10, "readNumber", "(II)Z"⟩
abbrev cX10_readStop : ByteArray := prog_12_method_6_code
def yX10_readStop : MethodName := ⟨RX10, "readStop", "()Z"⟩
abbrev cX10_advance : ByteArray := prog_12_method_7_code
def yX10_advance : MethodName := ⟨RX10, "advance", "()V"⟩
abbrev cX10_advanceDigits : ByteArray := prog_12_method_8_code
def yX10_advanceDigits : MethodName := ⟨RX10, "advanceDigits", "()V"⟩
abbrev cX10_isDigit : ByteArray := prog_12_method_9_code
def yX10_isDigit : MethodName := ⟨RX10, "isDigit", "(I)Z"⟩
def RX11 : String := "SkipRope"
def TX11 : u_T := fun k => match k with
  | 0 => ("SkipRope", "text", "LSkipRope$Text;", true)
  | 1 => ("SkipRope", "crew", "LSkipRope$Crew;", false)
  | 2 => ("SkipRope", "draft", "LSkipRope$Crew;", false)
  | 3 => ("SkipRope", "scene", "LSkipRope$Scene;", true)
  | 4 => ("SkipRope", "trial", "LSkipRope$Scene;", true)
  | 5 => ("SkipRope", "past", "LSkipRope$Past;", true)
  | 6 => ("SkipRope", "images", "[LSkipRope$Scene;", true)
  | 7 => ("SkipRope", "kept", "[Z", true)
  | 8 => ("SkipRope", "sight", "LSkipRope$Sight;", true)
  | 9 => ("SkipRope", "kinds", "[LSkipRope$JumperKind;", true)
  | _ => ("SkipRope", "asked", "J", false)
def tyX11 : Nat → FieldType := fun k => match k with
  | 0 => .object "SkipRope$Text"
  | 1 => .object "SkipRope$Crew"
  | 2 => .object "SkipRope$Crew"
  | 3 => .object "SkipRope$Scene"
  | 4 => .object "SkipRope$Scene"
  | 5 => .object "SkipRope$Past"
  | 6 => .array (.object "SkipRope$Scene")
  | 7 => .array .boolean
  | 8 => .object "SkipRope$Sight"
  | 9 => .array (.object "SkipRope$JumperKind")
  | _ => .long
abbrev wsX110 : List Cond := u_ws RX11 TX11 11
theorem nmX11 : ∀ a, a < 11 → ∀ b, b < 11 → a ≠ b → (TX11 a).2.1 ≠ (TX11 b).2.1 := by decide +kernel
theorem tyX11_ok : ∀ k, k < 11 → parseFieldDescriptor (TX11 k).2.2.1 = some (tyX11 k) := by decide +kernel
abbrev cX11_init : ByteArray := prog_1_method_1_code
def yX11_init : MethodName := ⟨RX11, "<init>", "()V"⟩
abbrev cX11_type : ByteArray := prog_1_method_2_code
def yX11_type : MethodName := ⟨RX11, "type", "(I)I"⟩
abbrev cX11_clear : ByteArray := prog_1_method_3_code
def yX11_clear : MethodName := ⟨RX11, "clear", "()I"⟩
abbrev cX11_yard : ByteArray := prog_1_method_4_code
def yX11_yard : MethodName := ⟨RX11, "yard", "()I"⟩
abbrev cX11_jumper : ByteArray := prog_1_method_5_code
def yX11_jumper : MethodName := ⟨RX11, "jumper", "(II)I"⟩
abbrev cX11_now : ByteArray := prog_1_method_6_code
def yX11_now : MethodName := ⟨RX11, "now", "(I)I"⟩
abbrev cX11_ticks : ByteArray := prog_1_method_7_code
def yX11_ticks : MethodName := ⟨RX11, "ticks", "()I"⟩
abbrev cX11_speeds : ByteArray := prog_1_method_8_code
def yX11_speeds : MethodName := ⟨RX11, "speeds", "(I)I"⟩
abbrev cX11_goes : ByteArray := prog_1_method_9_code
def yX11_goes : MethodName := ⟨RX11, "goes", "(I)I"⟩
abbrev cX11_comes : ByteArray := prog_1_method_10_code
def yX11_comes : MethodName := ⟨RX11, "comes", "(II)I"⟩
abbrev cX11_undo : ByteArray := prog_1_method_11_code
def yX11_undo : MethodName := ⟨RX11, "undo", "()I"⟩
abbrev cX11_stay : ByteArray := prog_1_method_12_code
def yX11_stay : MethodName := ⟨RX11, "stay", "(I)I"⟩
abbrev cX11_pace : ByteArray := prog_1_method_13_code
def yX11_pace : MethodName := ⟨RX11, "pace", "(I)I"⟩
abbrev cX11_entry : ByteArray := prog_1_method_14_code
def yX11_entry : MethodName := ⟨RX11, "entry", "(I)I"⟩
abbrev cX11_odds : ByteArray := prog_1_method_15_code
def yX11_odds : MethodName := ⟨RX11, "odds", "(III)I"⟩
abbrev cX11_sees : ByteArray := prog_1_method_16_code
def yX11_sees : MethodName := ⟨RX11, "sees", "(III)I"⟩
abbrev cX11_forget : ByteArray := prog_1_method_17_code
def yX11_forget : MethodName := ⟨RX11, "forget", "()I"⟩
abbrev cX11_ways : ByteArray := prog_1_method_18_code
def yX11_ways : MethodName := ⟨RX11, "ways", "(I)I"⟩
abbrev cX11_look : ByteArray := prog_1_method_19_code
def yX11_look : MethodName := ⟨RX11, "look", "(I)I"⟩
abbrev cX11_rate : ByteArray := prog_1_method_20_code
def yX11_rate : MethodName := ⟨RX11, "rate", "(II)I"⟩
abbrev cX11_keep : ByteArray := prog_1_method_21_code
def yX11_keep : MethodName := ⟨RX11, "keep", "(I)I"⟩
abbrev cX11_back : ByteArray := prog_1_method_22_code
def yX11_back : MethodName := ⟨RX11, "back", "(I)I"⟩
abbrev cX11_count : ByteArray := prog_1_method_23_code
def yX11_count : MethodName := ⟨RX11, "count", "(I)I"⟩
abbrev cX11_trace : ByteArray := prog_1_method_24_code
def yX11_trace : MethodName := ⟨RX11, "trace", "()J"⟩
abbrev cX11_isNobody : ByteArray := prog_1_method_25_code
def yX11_isNobody : MethodName := ⟨RX11, "isNobody", "(I)Z"⟩
abbrev cX11_isNoHang : ByteArray := prog_1_method_26_code
def yX11_isNoHang : MethodName := ⟨RX11, "isNoHang", "(I)Z"⟩
abbrev cX11_isNoImage : ByteArray := prog_1_method_27_code
def yX11_isNoImage : MethodName := ⟨RX11, "isNoImage", "(I)Z"⟩
abbrev cX11_playOn : ByteArray := prog_1_method_28_code
def yX11_playOn : MethodName := ⟨RX11, "playOn", "(I)V"⟩
abbrev cX11_playTillOut : ByteArray := prog_1_method_29_code
def yX11_playTillOut : MethodName := ⟨RX11, "playTillOut", "(I)I"⟩
abbrev cX11_tripNow : ByteArray := prog_1_method_30_code
def yX11_tripNow : MethodName := ⟨RX11, "tripNow", "(I)I"⟩
abbrev cX11_playTillFirst : ByteArray := prog_1_method_31_code
def yX11_playTillFirst : MethodName := ⟨RX11, "playTillFirst", "()I"⟩
abbrev cX11_firstOnes : ByteArray := prog_1_method_32_code
def yX11_firstOnes : MethodName := ⟨RX11, "firstOnes", "()I"⟩
abbrev cX11_tenthsThatStay : ByteArray := prog_1_method_33_code
def yX11_tenthsThatStay : MethodName := ⟨RX11, "tenthsThatStay", "(III)I"⟩
abbrev cX11_staysAlone : ByteArray := prog_1_method_34_code
def yX11_staysAlone : MethodName := ⟨RX11, "staysAlone", "(III)Z"⟩
abbrev cX11_commonDivisor : ByteArray := prog_1_method_35_code
def yX11_commonDivisor : MethodName := ⟨RX11, "commonDivisor", "(II)I"⟩
def RX12 : String := "SkipRopeModel"
def TX12 : u_T := fun k => match k with
  | 0 => ("SkipRopeModel", "letters", "[I", true)
  | 1 => ("SkipRopeModel", "length", "I", false)
  | 2 => ("SkipRopeModel", "jumpers", "I", false)
  | 3 => ("SkipRopeModel", "period", "[I", true)
  | 4 => ("SkipRopeModel", "hang", "[I", true)
  | 5 => ("SkipRopeModel", "st", "[I", true)
  | 6 => ("SkipRopeModel", "now", "[I", true)
  | 7 => ("SkipRopeModel", "book", "[I", true)
  | 8 => ("SkipRopeModel", "undos", "I", false)
  | 9 => ("SkipRopeModel", "images", "[I", true)
  | 10 => ("SkipRopeModel", "isKept", "[Z", true)
  | 11 => ("SkipRopeModel", "seen", "I", false)
  | 12 => ("SkipRopeModel", "seenHang", "[I", true)
  | 13 => ("SkipRopeModel", "seenTick", "[I", true)
  | 14 => ("SkipRopeModel", "seenUp", "[I", true)
  | 15 => ("SkipRopeModel", "trail", "J", false)
  | 16 => ("SkipRopeModel", "place", "I", false)
  | 17 => ("SkipRopeModel", "wrong", "I", false)
  | 18 => ("SkipRopeModel", "items", "I", false)
  | 19 => ("SkipRopeModel", "saidEvery", "Z", false)
  | 20 => ("SkipRopeModel", "readEvery", "I", false)
  | 21 => ("SkipRopeModel", "readJumpers", "I", false)
  | _ => ("SkipRopeModel", "readOne", "[I", true)
def tyX12 : Nat → FieldType := fun k => match k with
  | 0 => .array .int
  | 1 => .int
  | 2 => .int
  | 3 => .array .int
  | 4 => .array .int
  | 5 => .array .int
  | 6 => .array .int
  | 7 => .array .int
  | 8 => .int
  | 9 => .array .int
  | 10 => .array .boolean
  | 11 => .int
  | 12 => .array .int
  | 13 => .array .int
  | 14 => .array .int
  | 15 => .long
  | 16 => .int
  | 17 => .int
  | 18 => .int
  | 19 => .boolean
  | 20 => .int
  | 21 => .int
  | _ => .array .int
abbrev wsX120 : List Cond := u_ws RX12 TX12 23
theorem nmX12 : ∀ a, a < 23 → ∀ b, b < 23 → a ≠ b → (TX12 a).2.1 ≠ (TX12 b).2.1 := by decide +kernel
theorem tyX12_ok : ∀ k, k < 23 → parseFieldDescriptor (TX12 k).2.2.1 = some (tyX12 k) := by decide +kernel
abbrev cX12_init : ByteArray := prog_14_method_1_code
def yX12_init : MethodName := ⟨RX12, "<init>", "()V"⟩
abbrev cX12_in : ByteArray := prog_14_method_3_code
def yX12_in : MethodName := ⟨RX12, "in", "(III)Z"⟩
abbrev cX12_has : ByteArray := prog_14_method_4_code
def yX12_has : MethodName := ⟨RX12, "has", "(II)Z"⟩
abbrev cX12_bits : ByteArray := prog_14_method_5_code
def yX12_bits : MethodName := ⟨RX12, "bits", "(I)I"⟩
abbrev cX12_bring : ByteArray := prog_14_method_6_code
def yX12_bring : MethodName := ⟨RX12, "bring", "([II[III)V"⟩
abbrev cX12_isJumper : ByteArray := prog_14_method_7_code
def yX12_isJumper : MethodName := ⟨RX12, "isJumper", "(I)Z"⟩
abbrev cX12_type : ByteArray := prog_14_method_8_code
def yX12_type : MethodName := ⟨RX12, "type", "(I)I"⟩
abbrev cX12_clear : ByteArray := prog_14_method_9_code
def yX12_clear : MethodName := ⟨RX12, "clear", "()I"⟩
abbrev cX12_here : ByteArray := prog_14_method_10_code
def yX12_here : MethodName := ⟨RX12, "here", "()I"⟩
abbrev cX12_skips : ByteArray := prog_14_method_11_code
def yX12_skips : MethodName := ⟨RX12, "skips", "()V"⟩
abbrev cX12_isFigure : ByteArray := prog_14_method_12_code
def yX12_isFigure : MethodName := ⟨RX12, "isFigure", "(I)Z"⟩
abbrev cX12_number : ByteArray := prog_14_method_13_code
def yX12_number : MethodName := ⟨RX12, "number", "(II)I"⟩
abbrev cX12_ends : ByteArray := prog_14_method_14_code
def yX12_ends : MethodName := ⟨RX12, "ends", "()V"⟩
abbrev cX12_readItem : ByteArray := prog_14_method_15_code
def yX12_readItem : MethodName := ⟨RX12, "readItem", "()V"⟩
abbrev cX12_readYard : ByteArray := prog_14_method_16_code
def yX12_readYard : MethodName := ⟨RX12, "readYard", "()V"⟩
abbrev cX12_yard : ByteArray := prog_14_method_17_code
def yX12_yard : MethodName := ⟨RX12, "yard", "()I"⟩
abbrev cX12_jumps : ByteArray := prog_14_method_18_code
def yX12_jumps : MethodName := ⟨RX12, "jumps", "([IIZ)V"⟩
abbrev cX12_outs : ByteArray := prog_14_method_19_code
def yX12_outs : MethodName := ⟨RX12, "outs", "([II)V"⟩
abbrev cX12_tickOn : ByteArray := prog_14_method_20_code
def yX12_tickOn : MethodName := ⟨RX12, "tickOn", "([II)I"⟩
abbrev cX12_asItIs : ByteArray := prog_14_method_21_code
def yX12_asItIs : MethodName := ⟨RX12, "asItIs", "()V"⟩
abbrev cX12_tripOf : ByteArray := prog_14_method_22_code
def yX12_tripOf : MethodName := ⟨RX12, "tripOf", "(I)I"⟩
abbrev cX12_jumper : ByteArray := prog_14_method_23_code
def yX12_jumper : MethodName := ⟨RX12, "jumper", "(II)I"⟩
abbrev cX12_firstOf : ByteArray := prog_14_method_24_code
def yX12_firstOf : MethodName := ⟨RX12, "firstOf", "(I)I"⟩
abbrev cX12_now : ByteArray := prog_14_method_25_code
def yX12_now : MethodName := ⟨RX12, "now", "(I)I"⟩
abbrev cX12_notes : ByteArray := prog_14_method_26_code
def yX12_notes : MethodName := ⟨RX12, "notes", "()V"⟩
abbrev cX12_ticks : ByteArray := prog_14_method_27_code
def yX12_ticks : MethodName := ⟨RX12, "ticks", "()I"⟩
abbrev cX12_turns : ByteArray := prog_14_method_28_code
def yX12_turns : MethodName := ⟨RX12, "turns", "([II)V"⟩
abbrev cX12_speeds : ByteArray := prog_14_method_29_code
def yX12_speeds : MethodName := ⟨RX12, "speeds", "(I)I"⟩
abbrev cX12_goes : ByteArray := prog_14_method_30_code
def yX12_goes : MethodName := ⟨RX12, "goes", "(I)I"⟩
abbrev cX12_enters : ByteArray := prog_14_method_31_code
def yX12_enters : MethodName := ⟨RX12, "enters", "([III)V"⟩
abbrev cX12_comes : ByteArray := prog_14_method_32_code
def yX12_comes : MethodName := ⟨RX12, "comes", "(II)I"⟩
abbrev cX12_undo : ByteArray := prog_14_method_33_code
def yX12_undo : MethodName := ⟨RX12, "undo", "()I"⟩
abbrev cX12_goesOn : ByteArray := prog_14_method_34_code
def yX12_goesOn : MethodName := ⟨RX12, "goesOn", "(I)V"⟩
abbrev cX12_stay : ByteArray := prog_14_method_35_code
def yX12_stay : MethodName := ⟨RX12, "stay", "(I)I"⟩
abbrev cX12_pace : ByteArray := prog_14_method_36_code
def yX12_pace : MethodName := ⟨RX12, "pace", "(I)I"⟩
abbrev cX12_entry : ByteArray := prog_14_method_37_code
def yX12_entry : MethodName := ⟨RX12, "entry", "(I)I"⟩
abbrev cX12_divisor : ByteArray := prog_14_method_38_code
def yX12_divisor : MethodName := ⟨RX12, "divisor", "(II)I"⟩
abbrev cX12_allStay : ByteArray := prog_14_method_39_code
def yX12_allStay : MethodName := ⟨RX12, "allStay", "(II)Z"⟩
abbrev cX12_odds : ByteArray := prog_14_method_40_code
def yX12_odds : MethodName := ⟨RX12, "odds", "(III)I"⟩
abbrev cX12_sees : ByteArray := prog_14_method_41_code
def yX12_sees : MethodName := ⟨RX12, "sees", "(III)I"⟩
abbrev cX12_forget : ByteArray := prog_14_method_42_code
def yX12_forget : MethodName := ⟨RX12, "forget", "()I"⟩
abbrev cX12_isUp : ByteArray := prog_14_method_43_code
def yX12_isUp : MethodName := ⟨RX12, "isUp", "(IIII)Z"⟩
abbrev cX12_fits : ByteArray := prog_14_method_44_code
def yX12_fits : MethodName := ⟨RX12, "fits", "(II)Z"⟩
abbrev cX12_ways : ByteArray := prog_14_method_45_code
def yX12_ways : MethodName := ⟨RX12, "ways", "(I)I"⟩
abbrev cX12_look : ByteArray := prog_14_method_46_code
def yX12_look : MethodName := ⟨RX12, "look", "(I)I"⟩
abbrev cX12_rate : ByteArray := prog_14_method_47_code
def yX12_rate : MethodName := ⟨RX12, "rate", "(II)I"⟩
abbrev cX12_keep : ByteArray := prog_14_method_48_code
def yX12_keep : MethodName := ⟨RX12, "keep", "(I)I"⟩
abbrev cX12_back : ByteArray := prog_14_method_49_code
def yX12_back : MethodName := ⟨RX12, "back", "(I)I"⟩
abbrev cX12_count : ByteArray := prog_14_method_50_code
def yX12_count : MethodName := ⟨RX12, "count", "(I)I"⟩
abbrev cX12_trace : ByteArray := prog_14_method_51_code
def yX12_trace : MethodName := ⟨RX12, "trace", "()J"⟩
def RJ6 : String := "java/lang/Integer"
def TJ6 : u_T := fun k => match k with
  | _ => ("", "", "", false)
def tyJ6 : Nat → FieldType := fun k => match k with
  | _ => .int
abbrev wsJ60 : List Cond := u_ws RJ6 TJ6 0
theorem nmJ6 : ∀ a, a < 0 → ∀ b, b < 0 → a ≠ b → (TJ6 a).2.1 ≠ (TJ6 b).2.1 := by decide +kernel
theorem tyJ6_ok : ∀ k, k < 0 → parseFieldDescriptor (TJ6 k).2.2.1 = some (tyJ6 k) := by decide +kernel
abbrev cJ6_bitCount_0f7a4 : ByteArray := prog_15_method_49_code
def yJ6_bitCount_0f7a4 : MethodName := ⟨RJ6, "bitCount", "(I)I"⟩
def RJ9 : String := "java/lang/Math"
def TJ9 : u_T := fun k => match k with
  | _ => ("", "", "", false)
def tyJ9 : Nat → FieldType := fun k => match k with
  | _ => .int
abbrev wsJ90 : List Cond := u_ws RJ9 TJ9 0
theorem nmJ9 : ∀ a, a < 0 → ∀ b, b < 0 → a ≠ b → (TJ9 a).2.1 ≠ (TJ9 b).2.1 := by decide +kernel
theorem tyJ9_ok : ∀ k, k < 0 → parseFieldDescriptor (TJ9 k).2.2.1 = some (tyJ9 k) := by decide +kernel
abbrev cJ9_max_7cf53 : ByteArray := prog_16_method_65_code
def yJ9_max_7cf53 : MethodName := ⟨RJ9, "max", "(II)I"⟩
abbrev cJ9_min_7cf53 : ByteArray := prog_16_method_69_code
def yJ9_min_7cf53 : MethodName := ⟨RJ9, "min", "(II)I"⟩
def RJ10 : String := "java/lang/System"
def TJ10 : u_T := fun k => match k with
  | _ => ("", "", "", false)
def tyJ10 : Nat → FieldType := fun k => match k with
  | _ => .int
abbrev wsJ100 : List Cond := u_ws RJ10 TJ10 0
theorem nmJ10 : ∀ a, a < 0 → ∀ b, b < 0 → a ≠ b → (TJ10 a).2.1 ≠ (TJ10 b).2.1 := by decide +kernel
theorem tyJ10_ok : ∀ k, k < 0 → parseFieldDescriptor (TJ10 k).2.2.1 = some (tyJ10 k) := by decide +kernel
def RL : String := "SkipRopeLaw"
abbrev cL_law : ByteArray := code
def yL_law : MethodName := ⟨RL, "law", "([I)Z"⟩
abbrev classes : List vw_C := [(RX0, TX0, 0), (RX1, TX1, 6), (RX2, TX2, 0), (RX3, TX3, 0), (RX4, TX4, 0), (RX5, TX5, 0), (RX6, TX6, 3), (RX7, TX7, 0), (RX8, TX8, 7), (RX9, TX9, 7), (RX10, TX10, 8), (RX11, TX11, 11), (RX12, TX12, 23)]
abbrev TYS (cI cZ cS cJ : ClassId) : List (ClassId × FieldType) := [(cI, .int), (cZ, .boolean), (cS, .object RX8), (cJ, .object RX5)]
/-- the words that stay good over calls -/
def zt : List Cond := lw_tbl.filter goodWord
theorem zt_in : ∀ w ∈ zt, w ∈ lw_tbl := fun w h => (List.mem_filter.mp h).1
theorem zt_of {w : Cond} (h : w ∈ lw_tbl) (g : goodWord w = true) : w ∈ zt := List.mem_filter.mpr ⟨h, g⟩
theorem zt_good : ∀ w ∈ zt, goodWord w = true := fun w h => (List.mem_filter.mp h).2
set_option maxRecDepth 20000 in
theorem izX0 : ∀ w ∈ u_ws RX0 TX0 0, w ∈ lw_tbl := by decide +kernel
theorem iyX0 : ∀ w ∈ u_ws RX0 TX0 0, w ∈ zt := fun w h => zt_of (izX0 w h) (List.all_eq_true.mp (by decide +kernel : (u_ws RX0 TX0 0).all goodWord = true) w h)
set_option maxRecDepth 20000 in
theorem izX1 : ∀ w ∈ u_ws RX1 TX1 6, w ∈ lw_tbl := by decide +kernel
theorem iyX1 : ∀ w ∈ u_ws RX1 TX1 6, w ∈ zt := fun w h => zt_of (izX1 w h) (List.all_eq_true.mp (by decide +kernel : (u_ws RX1 TX1 6).all goodWord = true) w h)
set_option maxRecDepth 20000 in
theorem izX2 : ∀ w ∈ u_ws RX2 TX2 0, w ∈ lw_tbl := by decide +kernel
theorem iyX2 : ∀ w ∈ u_ws RX2 TX2 0, w ∈ zt := fun w h => zt_of (izX2 w h) (List.all_eq_true.mp (by decide +kernel : (u_ws RX2 TX2 0).all goodWord = true) w h)
set_option maxRecDepth 20000 in
theorem izX3 : ∀ w ∈ u_ws RX3 TX3 0, w ∈ lw_tbl := by decide +kernel
theorem iyX3 : ∀ w ∈ u_ws RX3 TX3 0, w ∈ zt := fun w h => zt_of (izX3 w h) (List.all_eq_true.mp (by decide +kernel : (u_ws RX3 TX3 0).all goodWord = true) w h)
set_option maxRecDepth 20000 in
theorem izX4 : ∀ w ∈ u_ws RX4 TX4 0, w ∈ lw_tbl := by decide +kernel
theorem iyX4 : ∀ w ∈ u_ws RX4 TX4 0, w ∈ zt := fun w h => zt_of (izX4 w h) (List.all_eq_true.mp (by decide +kernel : (u_ws RX4 TX4 0).all goodWord = true) w h)
set_option maxRecDepth 20000 in
theorem izX5 : ∀ w ∈ u_ws RX5 TX5 0, w ∈ lw_tbl := by decide +kernel
theorem iyX5 : ∀ w ∈ u_ws RX5 TX5 0, w ∈ zt := fun w h => zt_of (izX5 w h) (List.all_eq_true.mp (by decide +kernel : (u_ws RX5 TX5 0).all goodWord = true) w h)
set_option maxRecDepth 20000 in
theorem izX6 : ∀ w ∈ u_ws RX6 TX6 3, w ∈ lw_tbl := by decide +kernel
theorem iyX6 : ∀ w ∈ u_ws RX6 TX6 3, w ∈ zt := fun w h => zt_of (izX6 w h) (List.all_eq_true.mp (by decide +kernel : (u_ws RX6 TX6 3).all goodWord = true) w h)
set_option maxRecDepth 20000 in
theorem izX7 : ∀ w ∈ u_ws RX7 TX7 0, w ∈ lw_tbl := by decide +kernel
theorem iyX7 : ∀ w ∈ u_ws RX7 TX7 0, w ∈ zt := fun w h => zt_of (izX7 w h) (List.all_eq_true.mp (by decide +kernel : (u_ws RX7 TX7 0).all goodWord = true) w h)
set_option maxRecDepth 20000 in
theorem izX8 : ∀ w ∈ u_ws RX8 TX8 7, w ∈ lw_tbl := by decide +kernel
theorem iyX8 : ∀ w ∈ u_ws RX8 TX8 7, w ∈ zt := fun w h => zt_of (izX8 w h) (List.all_eq_true.mp (by decide +kernel : (u_ws RX8 TX8 7).all goodWord = true) w h)
set_option maxRecDepth 20000 in
theorem izX9 : ∀ w ∈ u_ws RX9 TX9 7, w ∈ lw_tbl := by decide +kernel
theorem iyX9 : ∀ w ∈ u_ws RX9 TX9 7, w ∈ zt := fun w h => zt_of (izX9 w h) (List.all_eq_true.mp (by decide +kernel : (u_ws RX9 TX9 7).all goodWord = true) w h)
set_option maxRecDepth 20000 in
theorem izX10 : ∀ w ∈ u_ws RX10 TX10 8, w ∈ lw_tbl := by decide +kernel
theorem iyX10 : ∀ w ∈ u_ws RX10 TX10 8, w ∈ zt := fun w h => zt_of (izX10 w h) (List.all_eq_true.mp (by decide +kernel : (u_ws RX10 TX10 8).all goodWord = true) w h)
set_option maxRecDepth 20000 in
theorem izX11 : ∀ w ∈ u_ws RX11 TX11 11, w ∈ lw_tbl := by decide +kernel
theorem iyX11 : ∀ w ∈ u_ws RX11 TX11 11, w ∈ zt := fun w h => zt_of (izX11 w h) (List.all_eq_true.mp (by decide +kernel : (u_ws RX11 TX11 11).all goodWord = true) w h)
set_option maxRecDepth 20000 in
theorem izX12 : ∀ w ∈ u_ws RX12 TX12 23, w ∈ lw_tbl := by decide +kernel
theorem iyX12 : ∀ w ∈ u_ws RX12 TX12 23, w ∈ zt := fun w h => zt_of (izX12 w h) (List.all_eq_true.mp (by decide +kernel : (u_ws RX12 TX12 23).all goodWord = true) w h)
