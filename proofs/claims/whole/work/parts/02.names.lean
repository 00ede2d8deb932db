def RX0 : String := "WindowMill$Code"
def TX0 : u_T := fun k => match k with
  | _ => ("", "", "", false)
def tyX0 : Nat → FieldType := fun k => match k with
  | _ => .int
abbrev wsX00 : List Cond := u_ws RX0 TX0 0
theorem nmX0 : ∀ a, a < 0 → ∀ b, b < 0 → a ≠ b → (TX0 a).2.1 ≠ (TX0 b).2.1 := by decide +kernel
theorem tyX0_ok : ∀ k, k < 0 → parseFieldDescriptor (TX0 k).2.2.1 = some (tyX0 k) := by decide +kernel
abbrev cX0_slot : ByteArray := prog_2_method_2_code
def yX0_slot : MethodName := ⟨RX0, "slot", "(III)J"⟩
abbrev cX0_keyOf : ByteArray := prog_2_method_3_code
def yX0_keyOf : MethodName := ⟨RX0, "keyOf", "(J)I"⟩
abbrev cX0_beginOf : ByteArray := prog_2_method_4_code
def yX0_beginOf : MethodName := ⟨RX0, "beginOf", "(J)I"⟩
abbrev cX0_endOf : ByteArray := prog_2_method_5_code
def yX0_endOf : MethodName := ⟨RX0, "endOf", "(J)I"⟩
abbrev cX0_put : ByteArray := prog_2_method_6_code
def yX0_put : MethodName := ⟨RX0, "put", "(JI)J"⟩
abbrev cX0_back : ByteArray := prog_2_method_7_code
def yX0_back : MethodName := ⟨RX0, "back", "(J)J"⟩
abbrev cX0_isBack : ByteArray := prog_2_method_8_code
def yX0_isBack : MethodName := ⟨RX0, "isBack", "(J)Z"⟩
abbrev cX0_stageOf : ByteArray := prog_2_method_9_code
def yX0_stageOf : MethodName := ⟨RX0, "stageOf", "(J)I"⟩
abbrev cX0_slotOf : ByteArray := prog_2_method_10_code
def yX0_slotOf : MethodName := ⟨RX0, "slotOf", "(J)J"⟩
def RX1 : String := "WindowMill$Lane"
def TX1 : u_T := fun k => match k with
  | 0 => ("WindowMill$Lane", "windows", "Ljava/util/ArrayList;", true)
  | _ => ("WindowMill$Lane", "left", "I", false)
def tyX1 : Nat → FieldType := fun k => match k with
  | 0 => .object "java/util/ArrayList"
  | _ => .int
abbrev wsX10 : List Cond := u_ws RX1 TX1 2
theorem nmX1 : ∀ a, a < 2 → ∀ b, b < 2 → a ≠ b → (TX1 a).2.1 ≠ (TX1 b).2.1 := by decide +kernel
theorem tyX1_ok : ∀ k, k < 2 → parseFieldDescriptor (TX1 k).2.2.1 = some (tyX1 k) := by decide +kernel
abbrev cX1_init : ByteArray := prog_3_method_1_code
def yX1_init : MethodName := ⟨RX1, "<init>", "()V"⟩
abbrev cX1_at : ByteArray := prog_3_method_2_code
def yX1_at : MethodName := ⟨RX1, "at", "(I)LWindowMill$Window;"⟩
abbrev cX1_insert : ByteArray := prog_3_method_3_code
def yX1_insert : MethodName := ⟨RX1, "insert", "(ILWindowMill$Window;)V"⟩
abbrev cX1_removeAt : ByteArray := prog_3_method_4_code
def yX1_removeAt : MethodName := ⟨RX1, "removeAt", "(I)V"⟩
abbrev cX1_firstEnding : ByteArray := prog_3_method_5_code
def yX1_firstEnding : MethodName := ⟨RX1, "firstEnding", "(I)I"⟩
abbrev cX1_rowLeft : ByteArray := prog_3_method_6_code
def yX1_rowLeft : MethodName := ⟨RX1, "rowLeft", "(I)I"⟩
def RX2 : String := "WindowMill$LeastFirst"
def TX2 : u_T := fun k => match k with
  | 0 => ("WindowMill$LeastFirst", "items", "[J", false)
  | _ => ("WindowMill$LeastFirst", "size", "I", false)
def tyX2 : Nat → FieldType := fun k => match k with
  | 0 => .array .long
  | _ => .int
abbrev wsX20 : List Cond := u_ws RX2 TX2 2
theorem nmX2 : ∀ a, a < 2 → ∀ b, b < 2 → a ≠ b → (TX2 a).2.1 ≠ (TX2 b).2.1 := by decide +kernel
theorem tyX2_ok : ∀ k, k < 2 → parseFieldDescriptor (TX2 k).2.2.1 = some (tyX2 k) := by decide +kernel
abbrev cX2_init : ByteArray := prog_4_method_1_code
def yX2_init : MethodName := ⟨RX2, "<init>", "()V"⟩
abbrev cX2_add : ByteArray := prog_4_method_2_code
def yX2_add : MethodName := ⟨RX2, "add", "(J)V"⟩
abbrev cX2_least : ByteArray := prog_4_method_3_code
def yX2_least : MethodName := ⟨RX2, "least", "()J"⟩
abbrev cX2_takeLeast : ByteArray := prog_4_method_4_code
def yX2_takeLeast : MethodName := ⟨RX2, "takeLeast", "()J"⟩
def RX3 : String := "WindowMill$Log"
def TX3 : u_T := fun k => match k with
  | 0 => ("WindowMill$Log", "codes", "[[J", true)
  | 1 => ("WindowMill$Log", "sums", "[[J", true)
  | _ => ("WindowMill$Log", "size", "I", false)
def tyX3 : Nat → FieldType := fun k => match k with
  | 0 => .array (.array .long)
  | 1 => .array (.array .long)
  | _ => .int
abbrev wsX30 : List Cond := u_ws RX3 TX3 3
theorem nmX3 : ∀ a, a < 3 → ∀ b, b < 3 → a ≠ b → (TX3 a).2.1 ≠ (TX3 b).2.1 := by decide +kernel
theorem tyX3_ok : ∀ k, k < 3 → parseFieldDescriptor (TX3 k).2.2.1 = some (tyX3 k) := by decide +kernel
abbrev cX3_init : ByteArray := prog_5_method_1_code
def yX3_init : MethodName := ⟨RX3, "<init>", "()V"⟩
abbrev cX3_add : ByteArray := prog_5_method_2_code
def yX3_add : MethodName := ⟨RX3, "add", "(JJ)I"⟩
abbrev cX3_holds : ByteArray := prog_5_method_3_code
def yX3_holds : MethodName := ⟨RX3, "holds", "(I)Z"⟩
abbrev cX3_codeAt : ByteArray := prog_5_method_4_code
def yX3_codeAt : MethodName := ⟨RX3, "codeAt", "(I)J"⟩
abbrev cX3_sumAt : ByteArray := prog_5_method_5_code
def yX3_sumAt : MethodName := ⟨RX3, "sumAt", "(I)J"⟩
def RX4 : String := "WindowMill$Passing"
def TX4 : u_T := fun k => match k with
  | 0 => ("WindowMill$Stage", "kind", "I", true)
  | 1 => ("WindowMill$Stage", "came", "I", false)
  | 2 => ("WindowMill$Stage", "feeders", "I", false)
  | 3 => ("WindowMill$Source", "mark", "I", false)
  | 4 => ("WindowMill$Source", "idle", "Z", false)
  | 5 => ("WindowMill$Passing", "a", "I", true)
  | 6 => ("WindowMill$Passing", "b", "I", true)
  | 7 => ("WindowMill$Passing", "gaveAny", "Z", false)
  | 8 => ("WindowMill$Passing", "gaveKey", "I", false)
  | 9 => ("WindowMill$Passing", "gaveMinute", "I", false)
  | _ => ("WindowMill$Passing", "gaveValue", "J", false)
def tyX4 : Nat → FieldType := fun k => match k with
  | 0 => .int
  | 1 => .int
  | 2 => .int
  | 3 => .int
  | 4 => .boolean
  | 5 => .int
  | 6 => .int
  | 7 => .boolean
  | 8 => .int
  | 9 => .int
  | _ => .long
abbrev wsX40 : List Cond := u_ws RX4 TX4 11
theorem nmX4 : ∀ a, a < 11 → ∀ b, b < 11 → a ≠ b → (TX4 a).2.1 ≠ (TX4 b).2.1 := by decide +kernel
theorem tyX4_ok : ∀ k, k < 11 → parseFieldDescriptor (TX4 k).2.2.1 = some (tyX4 k) := by decide +kernel
abbrev cX4_init : ByteArray := prog_6_method_1_code
def yX4_init : MethodName := ⟨RX4, "<init>", "(III)V"⟩
abbrev cX4_rise : ByteArray := prog_6_method_2_code
def yX4_rise : MethodName := ⟨RX4, "rise", "(I)V"⟩
abbrev cX4_gives : ByteArray := prog_6_method_3_code
def yX4_gives : MethodName := ⟨RX4, "gives", "(IIJ)Z"⟩
abbrev cX4_keeps : ByteArray := prog_6_method_4_code
def yX4_keeps : MethodName := ⟨RX4, "keeps", "(J)Z"⟩
def RX5 : String := "WindowMill$Source"
def TX5 : u_T := fun k => match k with
  | 0 => ("WindowMill$Source", "mark", "I", false)
  | _ => ("WindowMill$Source", "idle", "Z", false)
def tyX5 : Nat → FieldType := fun k => match k with
  | 0 => .int
  | _ => .boolean
abbrev wsX50 : List Cond := u_ws RX5 TX5 2
theorem nmX5 : ∀ a, a < 2 → ∀ b, b < 2 → a ≠ b → (TX5 a).2.1 ≠ (TX5 b).2.1 := by decide +kernel
theorem tyX5_ok : ∀ k, k < 2 → parseFieldDescriptor (TX5 k).2.2.1 = some (tyX5 k) := by decide +kernel
abbrev cX5_init : ByteArray := prog_7_method_1_code
def yX5_init : MethodName := ⟨RX5, "<init>", "()V"⟩
def RX6 : String := "WindowMill$Stage"
def TX6 : u_T := fun k => match k with
  | _ => ("", "", "", false)
def tyX6 : Nat → FieldType := fun k => match k with
  | _ => .int
abbrev wsX60 : List Cond := u_ws RX6 TX6 0
theorem nmX6 : ∀ a, a < 0 → ∀ b, b < 0 → a ≠ b → (TX6 a).2.1 ≠ (TX6 b).2.1 := by decide +kernel
theorem tyX6_ok : ∀ k, k < 0 → parseFieldDescriptor (TX6 k).2.2.1 = some (tyX6 k) := by decide +kernel
abbrev cX6_init : ByteArray := prog_8_method_1_code
def yX6_init : MethodName := ⟨RX6, "<init>", "(I)V"⟩
abbrev cX6_isFedBy : ByteArray := prog_8_method_2_code
def yX6_isFedBy : MethodName := ⟨RX6, "isFedBy", "(I)Z"⟩
def RX7 : String := "WindowMill$Window"
def TX7 : u_T := fun k => match k with
  | 0 => ("WindowMill$Window", "key", "I", true)
  | 1 => ("WindowMill$Window", "begin", "I", false)
  | 2 => ("WindowMill$Window", "end", "I", false)
  | 3 => ("WindowMill$Window", "events", "I", false)
  | 4 => ("WindowMill$Window", "row", "I", false)
  | 5 => ("WindowMill$Window", "tally", "J", false)
  | 6 => ("WindowMill$Window", "values", "[J", false)
  | _ => ("WindowMill$Window", "size", "I", false)
def tyX7 : Nat → FieldType := fun k => match k with
  | 0 => .int
  | 1 => .int
  | 2 => .int
  | 3 => .int
  | 4 => .int
  | 5 => .long
  | 6 => .array .long
  | _ => .int
abbrev wsX70 : List Cond := u_ws RX7 TX7 8
theorem nmX7 : ∀ a, a < 8 → ∀ b, b < 8 → a ≠ b → (TX7 a).2.1 ≠ (TX7 b).2.1 := by decide +kernel
theorem tyX7_ok : ∀ k, k < 8 → parseFieldDescriptor (TX7 k).2.2.1 = some (tyX7 k) := by decide +kernel
abbrev cX7_init : ByteArray := prog_9_method_1_code
def yX7_init : MethodName := ⟨RX7, "<init>", "(III)V"⟩
abbrev cX7_widen : ByteArray := prog_9_method_2_code
def yX7_widen : MethodName := ⟨RX7, "widen", "(II)V"⟩
abbrev cX7_add : ByteArray := prog_9_method_3_code
def yX7_add : MethodName := ⟨RX7, "add", "(JI)V"⟩
abbrev cX7_absorb : ByteArray := prog_9_method_4_code
def yX7_absorb : MethodName := ⟨RX7, "absorb", "(LWindowMill$Window;I)V"⟩
abbrev cX7_answer : ByteArray := prog_9_method_5_code
def yX7_answer : MethodName := ⟨RX7, "answer", "(I)J"⟩
abbrev cX7_combined : ByteArray := prog_9_method_6_code
def yX7_combined : MethodName := ⟨RX7, "combined", "(JI)J"⟩
abbrev cX7_insert : ByteArray := prog_9_method_7_code
def yX7_insert : MethodName := ⟨RX7, "insert", "(JZ)V"⟩
def RX8 : String := "WindowMill$Windowed"
def TX8 : u_T := fun k => match k with
  | 0 => ("WindowMill$Stage", "kind", "I", true)
  | 1 => ("WindowMill$Stage", "came", "I", false)
  | 2 => ("WindowMill$Stage", "feeders", "I", false)
  | 3 => ("WindowMill$Source", "mark", "I", false)
  | 4 => ("WindowMill$Source", "idle", "Z", false)
  | 5 => ("WindowMill$Windowed", "number", "I", true)
  | 6 => ("WindowMill$Windowed", "span", "I", true)
  | 7 => ("WindowMill$Windowed", "step", "I", true)
  | 8 => ("WindowMill$Windowed", "isSession", "Z", true)
  | 9 => ("WindowMill$Windowed", "log", "LWindowMill$Log;", true)
  | 10 => ("WindowMill$Windowed", "lanes", "[LWindowMill$Lane;", true)
  | 11 => ("WindowMill$Windowed", "due", "LWindowMill$LeastFirst;", true)
  | 12 => ("WindowMill$Windowed", "passed", "LWindowMill$LeastFirst;", true)
  | 13 => ("WindowMill$Windowed", "how", "I", false)
  | 14 => ("WindowMill$Windowed", "lateness", "I", false)
  | 15 => ("WindowMill$Windowed", "early", "I", false)
  | 16 => ("WindowMill$Windowed", "dropped", "I", false)
  | 17 => ("WindowMill$Windowed", "open", "I", false)
  | 18 => ("WindowMill$Windowed", "held", "I", false)
  | _ => ("WindowMill$Windowed", "left", "I", false)
def tyX8 : Nat → FieldType := fun k => match k with
  | 0 => .int
  | 1 => .int
  | 2 => .int
  | 3 => .int
  | 4 => .boolean
  | 5 => .int
  | 6 => .int
  | 7 => .int
  | 8 => .boolean
  | 9 => .object "WindowMill$Log"
  | 10 => .array (.object "WindowMill$Lane")
  | 11 => .object "WindowMill$LeastFirst"
  | 12 => .object "WindowMill$LeastFirst"
  | 13 => .int
  | 14 => .int
  | 15 => .int
  | 16 => .int
  | 17 => .int
  | 18 => .int
  | _ => .int
abbrev wsX80 : List Cond := u_ws RX8 TX8 20
theorem nmX8 : ∀ a, a < 20 → ∀ b, b < 20 → a ≠ b → (TX8 a).2.1 ≠ (TX8 b).2.1 := by decide +kernel
theorem tyX8_ok : ∀ k, k < 20 → parseFieldDescriptor (TX8 k).2.2.1 = some (tyX8 k) := by decide +kernel
abbrev cX8_init : ByteArray := prog_10_method_1_code
def yX8_init : MethodName := ⟨RX8, "<init>", "(IIIILWindowMill$Log;)V"⟩
abbrev cX8_take : ByteArray := prog_10_method_2_code
def yX8_take : MethodName := ⟨RX8, "take", "(IIJ)V"⟩
abbrev cX8_rise : ByteArray := prog_10_method_3_code
def yX8_rise : MethodName := ⟨RX8, "rise", "(I)V"⟩
abbrev cX8_rowLeft : ByteArray := prog_10_method_4_code
def yX8_rowLeft : MethodName := ⟨RX8, "rowLeft", "(I)I"⟩
abbrev cX8_wrongRows : ByteArray := prog_10_method_5_code
def yX8_wrongRows : MethodName := ⟨RX8, "wrongRows", "()I"⟩
abbrev cX8_enter : ByteArray := prog_10_method_6_code
def yX8_enter : MethodName := ⟨RX8, "enter", "(IIJ)V"⟩
abbrev cX8_join : ByteArray := prog_10_method_7_code
def yX8_join : MethodName := ⟨RX8, "join", "(LWindowMill$Lane;III)Z"⟩
abbrev cX8_await : ByteArray := prog_10_method_8_code
def yX8_await : MethodName := ⟨RX8, "await", "(LWindowMill$Window;)V"⟩
abbrev cX8_give : ByteArray := prog_10_method_9_code
def yX8_give : MethodName := ⟨RX8, "give", "(LWindowMill$Window;)V"⟩
abbrev cX8_takeBack : ByteArray := prog_10_method_10_code
def yX8_takeBack : MethodName := ⟨RX8, "takeBack", "(LWindowMill$Window;)Z"⟩
abbrev cX8_laneOf : ByteArray := prog_10_method_11_code
def yX8_laneOf : MethodName := ⟨RX8, "laneOf", "(I)LWindowMill$Lane;"⟩
abbrev cX8_windowAt : ByteArray := prog_10_method_12_code
def yX8_windowAt : MethodName := ⟨RX8, "windowAt", "(J)LWindowMill$Window;"⟩
def RX9 : String := "WindowMill"
def TX9 : u_T := fun k => match k with
  | 0 => ("WindowMill", "sources", "[LWindowMill$Source;", true)
  | 1 => ("WindowMill", "stages", "[LWindowMill$Stage;", true)
  | 2 => ("WindowMill", "ways", "[I", true)
  | 3 => ("WindowMill", "log", "LWindowMill$Log;", true)
  | 4 => ("WindowMill", "made", "I", false)
  | _ => ("WindowMill", "told", "I", false)
def tyX9 : Nat → FieldType := fun k => match k with
  | 0 => .array (.object "WindowMill$Source")
  | 1 => .array (.object "WindowMill$Stage")
  | 2 => .array .int
  | 3 => .object "WindowMill$Log"
  | 4 => .int
  | _ => .int
abbrev wsX90 : List Cond := u_ws RX9 TX9 6
theorem nmX9 : ∀ a, a < 6 → ∀ b, b < 6 → a ≠ b → (TX9 a).2.1 ≠ (TX9 b).2.1 := by decide +kernel
theorem tyX9_ok : ∀ k, k < 6 → parseFieldDescriptor (TX9 k).2.2.1 = some (tyX9 k) := by decide +kernel
abbrev cX9_init : ByteArray := prog_1_method_1_code
def yX9_init : MethodName := ⟨RX9, "<init>", "()V"⟩
abbrev cX9_stage : ByteArray := prog_1_method_2_code
def yX9_stage : MethodName := ⟨RX9, "stage", "(III)I"⟩
abbrev cX9_feed : ByteArray := prog_1_method_3_code
def yX9_feed : MethodName := ⟨RX9, "feed", "(II)I"⟩
abbrev cX9_window : ByteArray := prog_1_method_4_code
def yX9_window : MethodName := ⟨RX9, "window", "(IIII)I"⟩
abbrev cX9_event : ByteArray := prog_1_method_5_code
def yX9_event : MethodName := ⟨RX9, "event", "(IIII)I"⟩
abbrev cX9_burst : ByteArray := prog_1_method_6_code
def yX9_burst : MethodName := ⟨RX9, "burst", "(IIIII)I"⟩
abbrev cX9_mark : ByteArray := prog_1_method_7_code
def yX9_mark : MethodName := ⟨RX9, "mark", "(II)I"⟩
abbrev cX9_idle : ByteArray := prog_1_method_8_code
def yX9_idle : MethodName := ⟨RX9, "idle", "(II)I"⟩
abbrev cX9_rows : ByteArray := prog_1_method_9_code
def yX9_rows : MethodName := ⟨RX9, "rows", "()I"⟩
abbrev cX9_row : ByteArray := prog_1_method_10_code
def yX9_row : MethodName := ⟨RX9, "row", "(II)I"⟩
abbrev cX9_sum : ByteArray := prog_1_method_11_code
def yX9_sum : MethodName := ⟨RX9, "sum", "(I)J"⟩
abbrev cX9_left : ByteArray := prog_1_method_12_code
def yX9_left : MethodName := ⟨RX9, "left", "(I)I"⟩
abbrev cX9_leftRow : ByteArray := prog_1_method_13_code
def yX9_leftRow : MethodName := ⟨RX9, "leftRow", "(II)I"⟩
abbrev cX9_about : ByteArray := prog_1_method_14_code
def yX9_about : MethodName := ⟨RX9, "about", "(II)I"⟩
abbrev cX9_gave : ByteArray := prog_1_method_15_code
def yX9_gave : MethodName := ⟨RX9, "gave", "(II)I"⟩
abbrev cX9_gaveValue : ByteArray := prog_1_method_16_code
def yX9_gaveValue : MethodName := ⟨RX9, "gaveValue", "(I)J"⟩
abbrev cX9_apart : ByteArray := prog_1_method_17_code
def yX9_apart : MethodName := ⟨RX9, "apart", "(I)I"⟩
abbrev cX9_count : ByteArray := prog_1_method_18_code
def yX9_count : MethodName := ⟨RX9, "count", "(I)I"⟩
abbrev cX9_markOf : ByteArray := prog_1_method_19_code
def yX9_markOf : MethodName := ⟨RX9, "markOf", "(I)I"⟩
abbrev cX9_isWithin : ByteArray := prog_1_method_20_code
def yX9_isWithin : MethodName := ⟨RX9, "isWithin", "(III)Z"⟩
abbrev cX9_isAsSaid : ByteArray := prog_1_method_21_code
def yX9_isAsSaid : MethodName := ⟨RX9, "isAsSaid", "(III)Z"⟩
abbrev cX9_isPort : ByteArray := prog_1_method_22_code
def yX9_isPort : MethodName := ⟨RX9, "isPort", "(I)Z"⟩
abbrev cX9_portAt : ByteArray := prog_1_method_23_code
def yX9_portAt : MethodName := ⟨RX9, "portAt", "(I)LWindowMill$Source;"⟩
abbrev cX9_sourceAt : ByteArray := prog_1_method_24_code
def yX9_sourceAt : MethodName := ⟨RX9, "sourceAt", "(I)LWindowMill$Source;"⟩
abbrev cX9_stageAt : ByteArray := prog_1_method_25_code
def yX9_stageAt : MethodName := ⟨RX9, "stageAt", "(I)LWindowMill$Stage;"⟩
abbrev cX9_openWindows : ByteArray := prog_1_method_26_code
def yX9_openWindows : MethodName := ⟨RX9, "openWindows", "()I"⟩
abbrev cX9_hasTooManyWays : ByteArray := prog_1_method_27_code
def yX9_hasTooManyWays : MethodName := ⟨RX9, "hasTooManyWays", "(II)Z"⟩
abbrev cX9_waysToStage : ByteArray := prog_1_method_28_code
def yX9_waysToStage : MethodName := ⟨RX9, "waysToStage", "(II)I"⟩
abbrev cX9_waysToSource : ByteArray := prog_1_method_29_code
def yX9_waysToSource : MethodName := ⟨RX9, "waysToSource", "(II)I"⟩
abbrev cX9_carry : ByteArray := prog_1_method_30_code
def yX9_carry : MethodName := ⟨RX9, "carry", "(IIIJ)V"⟩
abbrev cX9_settleMarks : ByteArray := prog_1_method_31_code
def yX9_settleMarks : MethodName := ⟨RX9, "settleMarks", "()V"⟩
def RX10 : String := "WindowMillModel"
def TX10 : u_T := fun k => match k with
  | 0 => ("WindowMillModel", "portMark", "[I", true)
  | 1 => ("WindowMillModel", "portIdle", "[Z", true)
  | 2 => ("WindowMillModel", "kind", "[I", true)
  | 3 => ("WindowMillModel", "a", "[I", true)
  | 4 => ("WindowMillModel", "b", "[I", true)
  | 5 => ("WindowMillModel", "mark", "[I", true)
  | 6 => ("WindowMillModel", "idle", "[Z", true)
  | 7 => ("WindowMillModel", "feeds", "[Z", true)
  | 8 => ("WindowMillModel", "fed", "[I", true)
  | 9 => ("WindowMillModel", "came", "[I", true)
  | 10 => ("WindowMillModel", "dropped", "[I", true)
  | 11 => ("WindowMillModel", "sumKind", "[I", true)
  | 12 => ("WindowMillModel", "lateness", "[I", true)
  | 13 => ("WindowMillModel", "early", "[I", true)
  | 14 => ("WindowMillModel", "hasGiven", "[Z", true)
  | 15 => ("WindowMillModel", "gaveKey", "[I", true)
  | 16 => ("WindowMillModel", "gaveMinute", "[I", true)
  | 17 => ("WindowMillModel", "gaveValue", "[J", true)
  | 18 => ("WindowMillModel", "stages", "I", false)
  | 19 => ("WindowMillModel", "told", "I", false)
  | 20 => ("WindowMillModel", "wStage", "[I", true)
  | 21 => ("WindowMillModel", "wKey", "[I", true)
  | 22 => ("WindowMillModel", "wBegin", "[I", true)
  | 23 => ("WindowMillModel", "wEnd", "[I", true)
  | 24 => ("WindowMillModel", "wThere", "[Z", true)
  | 25 => ("WindowMillModel", "wRow", "[I", true)
  | 26 => ("WindowMillModel", "wFirst", "[I", true)
  | 27 => ("WindowMillModel", "wMany", "[I", true)
  | 28 => ("WindowMillModel", "windows", "I", false)
  | 29 => ("WindowMillModel", "eValue", "[J", true)
  | 30 => ("WindowMillModel", "eNext", "[I", true)
  | 31 => ("WindowMillModel", "entries", "I", false)
  | 32 => ("WindowMillModel", "rBack", "[I", true)
  | 33 => ("WindowMillModel", "rStage", "[I", true)
  | 34 => ("WindowMillModel", "rKey", "[I", true)
  | 35 => ("WindowMillModel", "rBegin", "[I", true)
  | 36 => ("WindowMillModel", "rEnd", "[I", true)
  | 37 => ("WindowMillModel", "rSum", "[J", true)
  | 38 => ("WindowMillModel", "rows", "I", false)
  | 39 => ("WindowMillModel", "sorted", "[J", true)
  | _ => ("WindowMillModel", "found", "[I", true)
def tyX10 : Nat → FieldType := fun k => match k with
  | 0 => .array .int
  | 1 => .array .boolean
  | 2 => .array .int
  | 3 => .array .int
  | 4 => .array .int
  | 5 => .array .int
  | 6 => .array .boolean
  | 7 => .array .boolean
  | 8 => .array .int
  | 9 => .array .int
  | 10 => .array .int
  | 11 => .array .int
  | 12 => .array .int
  | 13 => .array .int
  | 14 => .array .boolean
  | 15 => .array .int
  | 16 => .array .int
  | 17 => .array .long
  | 18 => .int
  | 19 => .int
  | 20 => .array .int
  | 21 => .array .int
  | 22 => .array .int
  | 23 => .array .int
  | 24 => .array .boolean
  | 25 => .array .int
  | 26 => .array .int
  | 27 => .array .int
  | 28 => .int
  | 29 => .array .long
  | 30 => .array .int
  | 31 => .int
  | 32 => .array .int
  | 33 => .array .int
  | 34 => .array .int
  | 35 => .array .int
  | 36 => .array .int
  | 37 => .array .long
  | 38 => .int
  | 39 => .array .long
  | _ => .array .int
abbrev wsX100 : List Cond := u_ws RX10 TX10 41
theorem nmX10 : ∀ a, a < 41 → ∀ b, b < 41 → a ≠ b → (TX10 a).2.1 ≠ (TX10 b).2.1 := by decide +kernel
theorem tyX10_ok : ∀ k, k < 41 → parseFieldDescriptor (TX10 k).2.2.1 = some (tyX10 k) := by decide +kernel
abbrev cX10_init : ByteArray := prog_12_method_1_code
def yX10_init : MethodName := ⟨RX10, "<init>", "()V"⟩
abbrev cX10_is : ByteArray := prog_12_method_2_code
def yX10_is : MethodName := ⟨RX10, "is", "(I)Z"⟩
abbrev cX10_isPort : ByteArray := prog_12_method_3_code
def yX10_isPort : MethodName := ⟨RX10, "isPort", "(I)Z"⟩
abbrev cX10_isWindowed : ByteArray := prog_12_method_4_code
def yX10_isWindowed : MethodName := ⟨RX10, "isWindowed", "(I)Z"⟩
abbrev cX10_isRight : ByteArray := prog_12_method_5_code
def yX10_isRight : MethodName := ⟨RX10, "isRight", "(III)Z"⟩
abbrev cX10_stage : ByteArray := prog_12_method_6_code
def yX10_stage : MethodName := ⟨RX10, "stage", "(III)I"⟩
abbrev cX10_hasTooManyWays : ByteArray := prog_12_method_7_code
def yX10_hasTooManyWays : MethodName := ⟨RX10, "hasTooManyWays", "()Z"⟩
abbrev cX10_feed : ByteArray := prog_12_method_8_code
def yX10_feed : MethodName := ⟨RX10, "feed", "(II)I"⟩
abbrev cX10_window : ByteArray := prog_12_method_9_code
def yX10_window : MethodName := ⟨RX10, "window", "(IIII)I"⟩
abbrev cX10_sumOf : ByteArray := prog_12_method_10_code
def yX10_sumOf : MethodName := ⟨RX10, "sumOf", "(I)J"⟩
abbrev cX10_inOrder : ByteArray := prog_12_method_11_code
def yX10_inOrder : MethodName := ⟨RX10, "inOrder", "(I)I"⟩
abbrev cX10_addRow : ByteArray := prog_12_method_12_code
def yX10_addRow : MethodName := ⟨RX10, "addRow", "(IIJ)V"⟩
abbrev cX10_takeBack : ByteArray := prog_12_method_13_code
def yX10_takeBack : MethodName := ⟨RX10, "takeBack", "(I)V"⟩
abbrev cX10_give : ByteArray := prog_12_method_14_code
def yX10_give : MethodName := ⟨RX10, "give", "(I)V"⟩
abbrev cX10_newWindow : ByteArray := prog_12_method_15_code
def yX10_newWindow : MethodName := ⟨RX10, "newWindow", "(IIII)I"⟩
abbrev cX10_addEvent : ByteArray := prog_12_method_16_code
def yX10_addEvent : MethodName := ⟨RX10, "addEvent", "(IJ)V"⟩
abbrev cX10_isEarly : ByteArray := prog_12_method_17_code
def yX10_isEarly : MethodName := ⟨RX10, "isEarly", "(I)Z"⟩
abbrev cX10_comeFixed : ByteArray := prog_12_method_18_code
def yX10_comeFixed : MethodName := ⟨RX10, "comeFixed", "(IIIJ)V"⟩
abbrev cX10_comeSession : ByteArray := prog_12_method_19_code
def yX10_comeSession : MethodName := ⟨RX10, "comeSession", "(IIIJ)V"⟩
abbrev cX10_move : ByteArray := prog_12_method_20_code
def yX10_move : MethodName := ⟨RX10, "move", "(II)V"⟩
abbrev cX10_isAheadByEnd : ByteArray := prog_12_method_21_code
def yX10_isAheadByEnd : MethodName := ⟨RX10, "isAheadByEnd", "(II)Z"⟩
abbrev cX10_isAheadByKey : ByteArray := prog_12_method_22_code
def yX10_isAheadByKey : MethodName := ⟨RX10, "isAheadByKey", "(II)Z"⟩
abbrev cX10_order : ByteArray := prog_12_method_23_code
def yX10_order : MethodName := ⟨RX10, "order", "(IZ)V"⟩
abbrev cX10_goesUp : ByteArray := prog_12_method_24_code
def yX10_goesUp : MethodName := ⟨RX10, "goesUp", "(II)V"⟩
abbrev cX10_marks : ByteArray := prog_12_method_25_code
def yX10_marks : MethodName := ⟨RX10, "marks", "()V"⟩
abbrev cX10_goOn : ByteArray := prog_12_method_26_code
def yX10_goOn : MethodName := ⟨RX10, "goOn", "(IIIJ)V"⟩
abbrev cX10_come : ByteArray := prog_12_method_27_code
def yX10_come : MethodName := ⟨RX10, "come", "(IIIJ)V"⟩
abbrev cX10_giveOn : ByteArray := prog_12_method_28_code
def yX10_giveOn : MethodName := ⟨RX10, "giveOn", "(IIIJ)V"⟩
abbrev cX10_isEvent : ByteArray := prog_12_method_29_code
def yX10_isEvent : MethodName := ⟨RX10, "isEvent", "(II)Z"⟩
abbrev cX10_event : ByteArray := prog_12_method_30_code
def yX10_event : MethodName := ⟨RX10, "event", "(IIII)I"⟩
abbrev cX10_burst : ByteArray := prog_12_method_31_code
def yX10_burst : MethodName := ⟨RX10, "burst", "(IIIII)I"⟩
abbrev cX10_mark : ByteArray := prog_12_method_32_code
def yX10_mark : MethodName := ⟨RX10, "mark", "(II)I"⟩
abbrev cX10_idle : ByteArray := prog_12_method_33_code
def yX10_idle : MethodName := ⟨RX10, "idle", "(II)I"⟩
abbrev cX10_rows : ByteArray := prog_12_method_34_code
def yX10_rows : MethodName := ⟨RX10, "rows", "()I"⟩
abbrev cX10_row : ByteArray := prog_12_method_35_code
def yX10_row : MethodName := ⟨RX10, "row", "(II)I"⟩
abbrev cX10_sum : ByteArray := prog_12_method_36_code
def yX10_sum : MethodName := ⟨RX10, "sum", "(I)J"⟩
abbrev cX10_findLeft : ByteArray := prog_12_method_37_code
def yX10_findLeft : MethodName := ⟨RX10, "findLeft", "(I)I"⟩
abbrev cX10_left : ByteArray := prog_12_method_38_code
def yX10_left : MethodName := ⟨RX10, "left", "(I)I"⟩
abbrev cX10_leftRow : ByteArray := prog_12_method_39_code
def yX10_leftRow : MethodName := ⟨RX10, "leftRow", "(II)I"⟩
abbrev cX10_there : ByteArray := prog_12_method_40_code
def yX10_there : MethodName := ⟨RX10, "there", "(IZ)I"⟩
abbrev cX10_about : ByteArray := prog_12_method_41_code
def yX10_about : MethodName := ⟨RX10, "about", "(II)I"⟩
abbrev cX10_gave : ByteArray := prog_12_method_42_code
def yX10_gave : MethodName := ⟨RX10, "gave", "(II)I"⟩
abbrev cX10_gaveValue : ByteArray := prog_12_method_43_code
def yX10_gaveValue : MethodName := ⟨RX10, "gaveValue", "(I)J"⟩
abbrev cX10_apart : ByteArray := prog_12_method_44_code
def yX10_apart : MethodName := ⟨RX10, "apart", "(I)I"⟩
abbrev cX10_count : ByteArray := prog_12_method_45_code
def yX10_count : MethodName := ⟨RX10, "count", "(I)I"⟩
abbrev cX10_markOf : ByteArray := prog_12_method_46_code
def yX10_markOf : MethodName := ⟨RX10, "markOf", "(I)I"⟩
def RJx145de : String := "java/io/Serializable"
def TJx145de : u_T := fun k => match k with
  | _ => ("", "", "", false)
def tyJx145de : Nat → FieldType := fun k => match k with
  | _ => .int
abbrev wsJx145de0 : List Cond := u_ws RJx145de TJx145de 0
theorem nmJx145de : ∀ a, a < 0 → ∀ b, b < 0 → a ≠ b → (TJx145de a).2.1 ≠ (TJx145de b).2.1 := by decide +kernel
theorem tyJx145de_ok : ∀ k, k < 0 → parseFieldDescriptor (TJx145de k).2.2.1 = some (tyJx145de k) := by decide +kernel
def RJx8e188 : String := "java/lang/Cloneable"
def TJx8e188 : u_T := fun k => match k with
  | _ => ("", "", "", false)
def tyJx8e188 : Nat → FieldType := fun k => match k with
  | _ => .int
abbrev wsJx8e1880 : List Cond := u_ws RJx8e188 TJx8e188 0
theorem nmJx8e188 : ∀ a, a < 0 → ∀ b, b < 0 → a ≠ b → (TJx8e188 a).2.1 ≠ (TJx8e188 b).2.1 := by decide +kernel
theorem tyJx8e188_ok : ∀ k, k < 0 → parseFieldDescriptor (TJx8e188 k).2.2.1 = some (tyJx8e188 k) := by decide +kernel
def RJ6 : String := "java/lang/Integer"
def TJ6 : u_T := fun k => match k with
  | _ => ("", "", "", false)
def tyJ6 : Nat → FieldType := fun k => match k with
  | _ => .int
abbrev wsJ60 : List Cond := u_ws RJ6 TJ6 0
theorem nmJ6 : ∀ a, a < 0 → ∀ b, b < 0 → a ≠ b → (TJ6 a).2.1 ≠ (TJ6 b).2.1 := by decide +kernel
theorem tyJ6_ok : ∀ k, k < 0 → parseFieldDescriptor (TJ6 k).2.2.1 = some (tyJ6 k) := by decide +kernel
abbrev cJ6_bitCount_0f7a4 : ByteArray := prog_15_method_49_code
def yJ6_bitCount_0f7a4 : MethodName := ⟨RJ6, "bitCount", "(I)I"⟩
def RJxab1ab : String := "java/lang/Iterable"
def TJxab1ab : u_T := fun k => match k with
  | _ => ("", "", "", false)
def tyJxab1ab : Nat → FieldType := fun k => match k with
  | _ => .int
abbrev wsJxab1ab0 : List Cond := u_ws RJxab1ab TJxab1ab 0
theorem nmJxab1ab : ∀ a, a < 0 → ∀ b, b < 0 → a ≠ b → (TJxab1ab a).2.1 ≠ (TJxab1ab b).2.1 := by decide +kernel
theorem tyJxab1ab_ok : ∀ k, k < 0 → parseFieldDescriptor (TJxab1ab k).2.2.1 = some (tyJxab1ab k) := by decide +kernel
def RJ9 : String := "java/lang/Math"
def TJ9 : u_T := fun k => match k with
  | _ => ("", "", "", false)
def tyJ9 : Nat → FieldType := fun k => match k with
  | _ => .int
abbrev wsJ90 : List Cond := u_ws RJ9 TJ9 0
theorem nmJ9 : ∀ a, a < 0 → ∀ b, b < 0 → a ≠ b → (TJ9 a).2.1 ≠ (TJ9 b).2.1 := by decide +kernel
theorem tyJ9_ok : ∀ k, k < 0 → parseFieldDescriptor (TJ9 k).2.2.1 = some (tyJ9 k) := by decide +kernel
abbrev cJ9_floorDiv_7cf53 : ByteArray := prog_17_method_47_code
def yJ9_floorDiv_7cf53 : MethodName := ⟨RJ9, "floorDiv", "(II)I"⟩
abbrev cJ9_floorMod_7cf53 : ByteArray := prog_17_method_50_code
def yJ9_floorMod_7cf53 : MethodName := ⟨RJ9, "floorMod", "(II)I"⟩
abbrev cJ9_floorMod_f86c9 : ByteArray := prog_17_method_52_code
def yJ9_floorMod_f86c9 : MethodName := ⟨RJ9, "floorMod", "(JJ)J"⟩
abbrev cJ9_max_7cf53 : ByteArray := prog_17_method_65_code
def yJ9_max_7cf53 : MethodName := ⟨RJ9, "max", "(II)I"⟩
abbrev cJ9_max_f86c9 : ByteArray := prog_17_method_66_code
def yJ9_max_f86c9 : MethodName := ⟨RJ9, "max", "(JJ)J"⟩
abbrev cJ9_min_7cf53 : ByteArray := prog_17_method_69_code
def yJ9_min_7cf53 : MethodName := ⟨RJ9, "min", "(II)I"⟩
abbrev cJ9_min_f86c9 : ByteArray := prog_17_method_70_code
def yJ9_min_f86c9 : MethodName := ⟨RJ9, "min", "(JJ)J"⟩
def RJ10 : String := "java/lang/System"
def TJ10 : u_T := fun k => match k with
  | _ => ("", "", "", false)
def tyJ10 : Nat → FieldType := fun k => match k with
  | _ => .int
abbrev wsJ100 : List Cond := u_ws RJ10 TJ10 0
theorem nmJ10 : ∀ a, a < 0 → ∀ b, b < 0 → a ≠ b → (TJ10 a).2.1 ≠ (TJ10 b).2.1 := by decide +kernel
theorem tyJ10_ok : ∀ k, k < 0 → parseFieldDescriptor (TJ10 k).2.2.1 = some (tyJ10 k) := by decide +kernel
def RJxa1e45 : String := "java/util/AbstractCollection"
def TJxa1e45 : u_T := fun k => match k with
  | _ => ("", "", "", false)
def tyJxa1e45 : Nat → FieldType := fun k => match k with
  | _ => .int
abbrev wsJxa1e450 : List Cond := u_ws RJxa1e45 TJxa1e45 0
theorem nmJxa1e45 : ∀ a, a < 0 → ∀ b, b < 0 → a ≠ b → (TJxa1e45 a).2.1 ≠ (TJxa1e45 b).2.1 := by decide +kernel
theorem tyJxa1e45_ok : ∀ k, k < 0 → parseFieldDescriptor (TJxa1e45 k).2.2.1 = some (tyJxa1e45 k) := by decide +kernel
abbrev cJxa1e45_init_da8c8 : ByteArray := prog_19_method_1_code
def yJxa1e45_init_da8c8 : MethodName := ⟨RJxa1e45, "<init>", "()V"⟩
def RJxc12de : String := "java/util/AbstractList"
def TJxc12de : u_T := fun k => match k with
  | _ => ("", "", "", false)
def tyJxc12de : Nat → FieldType := fun k => match k with
  | _ => .int
abbrev wsJxc12de0 : List Cond := u_ws RJxc12de TJxc12de 0
theorem nmJxc12de : ∀ a, a < 0 → ∀ b, b < 0 → a ≠ b → (TJxc12de a).2.1 ≠ (TJxc12de b).2.1 := by decide +kernel
theorem tyJxc12de_ok : ∀ k, k < 0 → parseFieldDescriptor (TJxc12de k).2.2.1 = some (tyJxc12de k) := by decide +kernel
abbrev cJxc12de_init_da8c8 : ByteArray := prog_20_method_1_code
def yJxc12de_init_da8c8 : MethodName := ⟨RJxc12de, "<init>", "()V"⟩
def RJx4a65c : String := "java/util/ArrayList"
def TJx4a65c : u_T := fun k => match k with
  | 0 => ("java/util/AbstractList", "modCount", "I", false)
  | 1 => ("java/util/ArrayList", "elementData", "[Ljava/lang/Object;", false)
  | _ => ("java/util/ArrayList", "size", "I", false)
def tyJx4a65c : Nat → FieldType := fun k => match k with
  | 0 => .int
  | 1 => .array (.object "java/lang/Object")
  | _ => .int
abbrev wsJx4a65c0 : List Cond := u_ws RJx4a65c TJx4a65c 3
theorem nmJx4a65c : ∀ a, a < 3 → ∀ b, b < 3 → a ≠ b → (TJx4a65c a).2.1 ≠ (TJx4a65c b).2.1 := by decide +kernel
theorem tyJx4a65c_ok : ∀ k, k < 3 → parseFieldDescriptor (TJx4a65c k).2.2.1 = some (tyJx4a65c k) := by decide +kernel
abbrev cJx4a65c_init_da8c8 : ByteArray := prog_21_method_2_code
def yJx4a65c_init_da8c8 : MethodName := ⟨RJx4a65c, "<init>", "()V"⟩
abbrev cJx4a65c_grow_92f84 : ByteArray := prog_21_method_6_code
def yJx4a65c_grow_92f84 : MethodName := ⟨RJx4a65c, "grow", "(I)[Ljava/lang/Object;"⟩
abbrev cJx4a65c_grow_d5877 : ByteArray := prog_21_method_7_code
def yJx4a65c_grow_d5877 : MethodName := ⟨RJx4a65c, "grow", "()[Ljava/lang/Object;"⟩
abbrev cJx4a65c_size_8abf5 : ByteArray := prog_21_method_8_code
def yJx4a65c_size_8abf5 : MethodName := ⟨RJx4a65c, "size", "()I"⟩
abbrev cJx4a65c_elementData_915e3 : ByteArray := prog_21_method_18_code
def yJx4a65c_elementData_915e3 : MethodName := ⟨RJx4a65c, "elementData", "(I)Ljava/lang/Object;"⟩
abbrev cJx4a65c_get_915e3 : ByteArray := prog_21_method_20_code
def yJx4a65c_get_915e3 : MethodName := ⟨RJx4a65c, "get", "(I)Ljava/lang/Object;"⟩
abbrev cJx4a65c_add_7a177 : ByteArray := prog_21_method_26_code
def yJx4a65c_add_7a177 : MethodName := ⟨RJx4a65c, "add", "(ILjava/lang/Object;)V"⟩
abbrev cJx4a65c_remove_915e3 : ByteArray := prog_21_method_29_code
def yJx4a65c_remove_915e3 : MethodName := ⟨RJx4a65c, "remove", "(I)Ljava/lang/Object;"⟩
abbrev cJx4a65c_fastRemove_b59b0 : ByteArray := prog_21_method_39_code
def yJx4a65c_fastRemove_b59b0 : MethodName := ⟨RJx4a65c, "fastRemove", "([Ljava/lang/Object;I)V"⟩
abbrev cJx4a65c_rangeCheckForAdd_d00df : ByteArray := prog_21_method_45_code
def yJx4a65c_rangeCheckForAdd_d00df : MethodName := ⟨RJx4a65c, "rangeCheckForAdd", "(I)V"⟩
def RJ7 : String := "java/util/Arrays"
def TJ7 : u_T := fun k => match k with
  | _ => ("", "", "", false)
def tyJ7 : Nat → FieldType := fun k => match k with
  | _ => .int
abbrev wsJ70 : List Cond := u_ws RJ7 TJ7 0
theorem nmJ7 : ∀ a, a < 0 → ∀ b, b < 0 → a ≠ b → (TJ7 a).2.1 ≠ (TJ7 b).2.1 := by decide +kernel
theorem tyJ7_ok : ∀ k, k < 0 → parseFieldDescriptor (TJ7 k).2.2.1 = some (tyJ7 k) := by decide +kernel
abbrev cJ7_copyOf_1904c : ByteArray := prog_22_method_119_code
def yJ7_copyOf_1904c : MethodName := ⟨RJ7, "copyOf", "([Ljava/lang/Object;I)[Ljava/lang/Object;"⟩
abbrev cJ7_copyOf_6403c : ByteArray := prog_22_method_120_code
def yJ7_copyOf_6403c : MethodName := ⟨RJ7, "copyOf", "([Ljava/lang/Object;ILjava/lang/Class;)[Ljava/lang/Object;"⟩
abbrev cJ7_copyOf_c38d5 : ByteArray := prog_22_method_124_code
def yJ7_copyOf_c38d5 : MethodName := ⟨RJ7, "copyOf", "([JI)[J"⟩
def RJx5ef63 : String := "java/util/Collection"
def TJx5ef63 : u_T := fun k => match k with
  | _ => ("", "", "", false)
def tyJx5ef63 : Nat → FieldType := fun k => match k with
  | _ => .int
abbrev wsJx5ef630 : List Cond := u_ws RJx5ef63 TJx5ef63 0
theorem nmJx5ef63 : ∀ a, a < 0 → ∀ b, b < 0 → a ≠ b → (TJx5ef63 a).2.1 ≠ (TJx5ef63 b).2.1 := by decide +kernel
theorem tyJx5ef63_ok : ∀ k, k < 0 → parseFieldDescriptor (TJx5ef63 k).2.2.1 = some (tyJx5ef63 k) := by decide +kernel
def RJxbd725 : String := "java/util/List"
def TJxbd725 : u_T := fun k => match k with
  | _ => ("", "", "", false)
def tyJxbd725 : Nat → FieldType := fun k => match k with
  | _ => .int
abbrev wsJxbd7250 : List Cond := u_ws RJxbd725 TJxbd725 0
theorem nmJxbd725 : ∀ a, a < 0 → ∀ b, b < 0 → a ≠ b → (TJxbd725 a).2.1 ≠ (TJxbd725 b).2.1 := by decide +kernel
theorem tyJxbd725_ok : ∀ k, k < 0 → parseFieldDescriptor (TJxbd725 k).2.2.1 = some (tyJxbd725 k) := by decide +kernel
def RJ15 : String := "java/util/Objects"
def TJ15 : u_T := fun k => match k with
  | _ => ("", "", "", false)
def tyJ15 : Nat → FieldType := fun k => match k with
  | _ => .int
abbrev wsJ150 : List Cond := u_ws RJ15 TJ15 0
theorem nmJ15 : ∀ a, a < 0 → ∀ b, b < 0 → a ≠ b → (TJ15 a).2.1 ≠ (TJ15 b).2.1 := by decide +kernel
theorem tyJ15_ok : ∀ k, k < 0 → parseFieldDescriptor (TJ15 k).2.2.1 = some (tyJ15 k) := by decide +kernel
abbrev cJ15_checkIndex_7cf53 : ByteArray := prog_25_method_17_code
def yJ15_checkIndex_7cf53 : MethodName := ⟨RJ15, "checkIndex", "(II)I"⟩
def RJxf0a74 : String := "java/util/RandomAccess"
def TJxf0a74 : u_T := fun k => match k with
  | _ => ("", "", "", false)
def tyJxf0a74 : Nat → FieldType := fun k => match k with
  | _ => .int
abbrev wsJxf0a740 : List Cond := u_ws RJxf0a74 TJxf0a74 0
theorem nmJxf0a74 : ∀ a, a < 0 → ∀ b, b < 0 → a ≠ b → (TJxf0a74 a).2.1 ≠ (TJxf0a74 b).2.1 := by decide +kernel
theorem tyJxf0a74_ok : ∀ k, k < 0 → parseFieldDescriptor (TJxf0a74 k).2.2.1 = some (tyJxf0a74 k) := by decide +kernel
def RJxa66e6 : String := "java/util/SequencedCollection"
def TJxa66e6 : u_T := fun k => match k with
  | _ => ("", "", "", false)
def tyJxa66e6 : Nat → FieldType := fun k => match k with
  | _ => .int
abbrev wsJxa66e60 : List Cond := u_ws RJxa66e6 TJxa66e6 0
theorem nmJxa66e6 : ∀ a, a < 0 → ∀ b, b < 0 → a ≠ b → (TJxa66e6 a).2.1 ≠ (TJxa66e6 b).2.1 := by decide +kernel
theorem tyJxa66e6_ok : ∀ k, k < 0 → parseFieldDescriptor (TJxa66e6 k).2.2.1 = some (tyJxa66e6 k) := by decide +kernel
def RJ8 : String := "jdk/internal/util/ArraysSupport"
def TJ8 : u_T := fun k => match k with
  | _ => ("", "", "", false)
def tyJ8 : Nat → FieldType := fun k => match k with
  | _ => .int
abbrev wsJ80 : List Cond := u_ws RJ8 TJ8 0
theorem nmJ8 : ∀ a, a < 0 → ∀ b, b < 0 → a ≠ b → (TJ8 a).2.1 ≠ (TJ8 b).2.1 := by decide +kernel
theorem tyJ8_ok : ∀ k, k < 0 → parseFieldDescriptor (TJ8 k).2.2.1 = some (tyJ8 k) := by decide +kernel
abbrev cJ8_newLength_cabcc : ByteArray := prog_28_method_27_code
def yJ8_newLength_cabcc : MethodName := ⟨RJ8, "newLength", "(III)I"⟩
abbrev cJ8_hugeLength_7cf53 : ByteArray := prog_28_method_28_code
def yJ8_hugeLength_7cf53 : MethodName := ⟨RJ8, "hugeLength", "(II)I"⟩
def RJ3 : String := "jdk/internal/util/Preconditions"
def TJ3 : u_T := fun k => match k with
  | _ => ("", "", "", false)
def tyJ3 : Nat → FieldType := fun k => match k with
  | _ => .int
abbrev wsJ30 : List Cond := u_ws RJ3 TJ3 0
theorem nmJ3 : ∀ a, a < 0 → ∀ b, b < 0 → a ≠ b → (TJ3 a).2.1 ≠ (TJ3 b).2.1 := by decide +kernel
theorem tyJ3_ok : ∀ k, k < 0 → parseFieldDescriptor (TJ3 k).2.2.1 = some (tyJ3 k) := by decide +kernel
abbrev cJ3_checkIndex_8e157 : ByteArray := prog_29_method_11_code
def yJ3_checkIndex_8e157 : MethodName := ⟨RJ3, "checkIndex", "(IILjava/util/function/BiFunction;)I"⟩
def RL : String := "WindowMillLaw"
abbrev cL_law : ByteArray := code
def yL_law : MethodName := ⟨RL, "law", "([I)Z"⟩
abbrev vwCl : List vw_C := [(RJx4a65c, TJx4a65c, 3), (RX1, TX1, 2), (RX2, TX2, 2), (RX3, TX3, 3), (RX4, TX4, 11), (RX5, TX5, 2), (RX7, TX7, 8), (RX8, TX8, 20), (RX9, TX9, 6), (RX10, TX10, 41)]
