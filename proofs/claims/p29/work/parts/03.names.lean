def RX0 : String := "SlateRoof$DayText"
def TX0 : u_T := fun k => match k with
  | 0 => ("SlateRoof$DayText", "signs", "[C", true)
  | 1 => ("SlateRoof$DayText", "length", "I", false)
  | 2 => ("SlateRoof$DayText", "weathers", "[I", true)
  | 3 => ("SlateRoof$DayText", "repeats", "[I", true)
  | _ => ("SlateRoof$DayText", "parts", "I", false)
def tyX0 : Nat → FieldType := fun k => match k with
  | 0 => .array .char
  | 1 => .int
  | 2 => .array .int
  | 3 => .array .int
  | _ => .int
theorem nmX0 : ∀ a, a < 5 → ∀ b, b < 5 → a ≠ b → (TX0 a).2.1 ≠ (TX0 b).2.1 := by decide +kernel
theorem tyX0_ok : ∀ k, k < 5 → parseFieldDescriptor (TX0 k).2.2.1 = some (tyX0 k) := by decide +kernel
abbrev cX0_init : ByteArray := prog_2_method_1_code
def yX0_init : MethodName := ⟨RX0, "<init>", "()V"⟩
abbrev cX0_addSign : ByteArray := prog_2_method_2_code
def yX0_addSign : MethodName := ⟨RX0, "addSign", "(C)V"⟩
abbrev cX0_signAt : ByteArray := prog_2_method_3_code
def yX0_signAt : MethodName := ⟨RX0, "signAt", "(I)C"⟩
abbrev cX0_isComplete : ByteArray := prog_2_method_5_code
def yX0_isComplete : MethodName := ⟨RX0, "isComplete", "()Z"⟩
abbrev cX0_readParts : ByteArray := prog_2_method_6_code
def yX0_readParts : MethodName := ⟨RX0, "readParts", "()I"⟩
abbrev cX0_after : ByteArray := prog_2_method_7_code
def yX0_after : MethodName := ⟨RX0, "after", "(IC)I"⟩
abbrev cX0_isDigit : ByteArray := prog_2_method_8_code
def yX0_isDigit : MethodName := ⟨RX0, "isDigit", "(C)Z"⟩
abbrev cX0_weatherOf : ByteArray := prog_2_method_9_code
def yX0_weatherOf : MethodName := ⟨RX0, "weatherOf", "(C)I"⟩
def RX1 : String := "SlateRoof$Roof"
def TX1 : u_T := fun k => match k with
  | 0 => ("SlateRoof$Roof", "height", "I", false)
  | 1 => ("SlateRoof$Roof", "width", "I", false)
  | 2 => ("SlateRoof$Roof", "courses", "I", false)
  | 3 => ("SlateRoof$Roof", "lengths", "[I", true)
  | 4 => ("SlateRoof$Roof", "laid", "[I", true)
  | 5 => ("SlateRoof$Roof", "stock", "[I", true)
  | 6 => ("SlateRoof$Roof", "heap", "[I", true)
  | 7 => ("SlateRoof$Roof", "bought", "[I", true)
  | 8 => ("SlateRoof$Roof", "lap", "I", false)
  | 9 => ("SlateRoof$Roof", "pace", "I", false)
  | 10 => ("SlateRoof$Roof", "drying", "I", false)
  | 11 => ("SlateRoof$Roof", "day", "I", false)
  | 12 => ("SlateRoof$Roof", "effort", "I", false)
  | 13 => ("SlateRoof$Roof", "damp", "I", false)
  | 14 => ("SlateRoof$Roof", "covered", "Z", false)
  | 15 => ("SlateRoof$Roof", "cut", "I", false)
  | 16 => ("SlateRoof$Roof", "thrown", "I", false)
  | 17 => ("SlateRoof$Roof", "elder", "I", false)
  | _ => ("SlateRoof$Roof", "cost", "I", false)
def tyX1 : Nat → FieldType := fun k => match k with
  | 0 => .int
  | 1 => .int
  | 2 => .int
  | 3 => .array .int
  | 4 => .array .int
  | 5 => .array .int
  | 6 => .array .int
  | 7 => .array .int
  | 8 => .int
  | 9 => .int
  | 10 => .int
  | 11 => .int
  | 12 => .int
  | 13 => .int
  | 14 => .boolean
  | 15 => .int
  | 16 => .int
  | 17 => .int
  | _ => .int
theorem nmX1 : ∀ a, a < 19 → ∀ b, b < 19 → a ≠ b → (TX1 a).2.1 ≠ (TX1 b).2.1 := by decide +kernel
theorem tyX1_ok : ∀ k, k < 19 → parseFieldDescriptor (TX1 k).2.2.1 = some (tyX1 k) := by decide +kernel
abbrev cX1_init : ByteArray := prog_3_method_1_code
def yX1_init : MethodName := ⟨RX1, "<init>", "()V"⟩
abbrev cX1_copyFrom : ByteArray := prog_3_method_2_code
def yX1_copyFrom : MethodName := ⟨RX1, "copyFrom", "(LSlateRoof$Roof;)V"⟩
abbrev cX1_settingOf : ByteArray := prog_3_method_3_code
def yX1_settingOf : MethodName := ⟨RX1, "settingOf", "(I)I"⟩
abbrev cX1_changeSetting : ByteArray := prog_3_method_4_code
def yX1_changeSetting : MethodName := ⟨RX1, "changeSetting", "(II)V"⟩
abbrev cX1_hasCourse : ByteArray := prog_3_method_5_code
def yX1_hasCourse : MethodName := ⟨RX1, "hasCourse", "(I)Z"⟩
abbrev cX1_hasPlace : ByteArray := prog_3_method_6_code
def yX1_hasPlace : MethodName := ⟨RX1, "hasPlace", "(II)Z"⟩
abbrev cX1_placesOf : ByteArray := prog_3_method_7_code
def yX1_placesOf : MethodName := ⟨RX1, "placesOf", "(I)I"⟩
abbrev cX1_hasSlate : ByteArray := prog_3_method_8_code
def yX1_hasSlate : MethodName := ⟨RX1, "hasSlate", "(II)Z"⟩
abbrev cX1_slatesIn : ByteArray := prog_3_method_9_code
def yX1_slatesIn : MethodName := ⟨RX1, "slatesIn", "(I)I"⟩
abbrev cX1_isFull : ByteArray := prog_3_method_10_code
def yX1_isFull : MethodName := ⟨RX1, "isFull", "(I)Z"⟩
abbrev cX1_firstGap : ByteArray := prog_3_method_11_code
def yX1_firstGap : MethodName := ⟨RX1, "firstGap", "(I)I"⟩
abbrev cX1_lastGap : ByteArray := prog_3_method_12_code
def yX1_lastGap : MethodName := ⟨RX1, "lastGap", "(I)I"⟩
abbrev cX1_gaugeOf : ByteArray := prog_3_method_13_code
def yX1_gaugeOf : MethodName := ⟨RX1, "gaugeOf", "(I)I"⟩
abbrev cX1_topOf : ByteArray := prog_3_method_14_code
def yX1_topOf : MethodName := ⟨RX1, "topOf", "(I)I"⟩
abbrev cX1_isHighEnough : ByteArray := prog_3_method_15_code
def yX1_isHighEnough : MethodName := ⟨RX1, "isHighEnough", "()Z"⟩
abbrev cX1_slatesOnRoof : ByteArray := prog_3_method_16_code
def yX1_slatesOnRoof : MethodName := ⟨RX1, "slatesOnRoof", "()I"⟩
abbrev cX1_slatesOnRoofOf : ByteArray := prog_3_method_17_code
def yX1_slatesOnRoofOf : MethodName := ⟨RX1, "slatesOnRoofOf", "(I)I"⟩
abbrev cX1_gapsOnRoof : ByteArray := prog_3_method_18_code
def yX1_gapsOnRoof : MethodName := ⟨RX1, "gapsOnRoof", "()I"⟩
abbrev cX1_isDone : ByteArray := prog_3_method_19_code
def yX1_isDone : MethodName := ⟨RX1, "isDone", "()Z"⟩
abbrev cX1_longestNext : ByteArray := prog_3_method_20_code
def yX1_longestNext : MethodName := ⟨RX1, "longestNext", "()I"⟩
abbrev cX1_canBeSlated : ByteArray := prog_3_method_21_code
def yX1_canBeSlated : MethodName := ⟨RX1, "canBeSlated", "()Z"⟩
abbrev cX1_canGoUp : ByteArray := prog_3_method_22_code
def yX1_canGoUp : MethodName := ⟨RX1, "canGoUp", "()Z"⟩
abbrev cX1_canLay : ByteArray := prog_3_method_23_code
def yX1_canLay : MethodName := ⟨RX1, "canLay", "(I)Z"⟩
abbrev cX1_canMend : ByteArray := prog_3_method_24_code
def yX1_canMend : MethodName := ⟨RX1, "canMend", "(II)Z"⟩
abbrev cX1_addCourse : ByteArray := prog_3_method_25_code
def yX1_addCourse : MethodName := ⟨RX1, "addCourse", "(I)V"⟩
abbrev cX1_putSlate : ByteArray := prog_3_method_26_code
def yX1_putSlate : MethodName := ⟨RX1, "putSlate", "(III)V"⟩
abbrev cX1_passDay : ByteArray := prog_3_method_27_code
def yX1_passDay : MethodName := ⟨RX1, "passDay", "(I)I"⟩
abbrev cX1_dropSlates : ByteArray := prog_3_method_28_code
def yX1_dropSlates : MethodName := ⟨RX1, "dropSlates", "(II)I"⟩
abbrev cX1_slateForTheDay : ByteArray := prog_3_method_29_code
def yX1_slateForTheDay : MethodName := ⟨RX1, "slateForTheDay", "()I"⟩
abbrev cX1_mendFirstGap : ByteArray := prog_3_method_30_code
def yX1_mendFirstGap : MethodName := ⟨RX1, "mendFirstGap", "()Z"⟩
abbrev cX1_layNext : ByteArray := prog_3_method_31_code
def yX1_layNext : MethodName := ⟨RX1, "layNext", "()Z"⟩
abbrev cX1_nextLength : ByteArray := prog_3_method_32_code
def yX1_nextLength : MethodName := ⟨RX1, "nextLength", "()I"⟩
abbrev cX1_buildFromStock : ByteArray := prog_3_method_33_code
def yX1_buildFromStock : MethodName := ⟨RX1, "buildFromStock", "()V"⟩
abbrev cX1_coursesToTop : ByteArray := prog_3_method_34_code
def yX1_coursesToTop : MethodName := ⟨RX1, "coursesToTop", "(I)I"⟩
abbrev cX1_placesOfNext : ByteArray := prog_3_method_35_code
def yX1_placesOfNext : MethodName := ⟨RX1, "placesOfNext", "(I)I"⟩
def RX2 : String := "SlateRoof$Saves"
def TX2 : u_T := fun k => match k with
  | 0 => ("SlateRoof$Saves", "ring", "[LSlateRoof$Roof;", true)
  | 1 => ("SlateRoof$Saves", "oldest", "I", false)
  | _ => ("SlateRoof$Saves", "many", "I", false)
def tyX2 : Nat → FieldType := fun k => match k with
  | 0 => .array (.object "SlateRoof$Roof")
  | 1 => .int
  | _ => .int
theorem nmX2 : ∀ a, a < 3 → ∀ b, b < 3 → a ≠ b → (TX2 a).2.1 ≠ (TX2 b).2.1 := by decide +kernel
theorem tyX2_ok : ∀ k, k < 3 → parseFieldDescriptor (TX2 k).2.2.1 = some (tyX2 k) := by decide +kernel
abbrev cX2_init : ByteArray := prog_4_method_1_code
def yX2_init : MethodName := ⟨RX2, "<init>", "()V"⟩
abbrev cX2_keep : ByteArray := prog_4_method_2_code
def yX2_keep : MethodName := ⟨RX2, "keep", "(LSlateRoof$Roof;)V"⟩
abbrev cX2_slotAt : ByteArray := prog_4_method_4_code
def yX2_slotAt : MethodName := ⟨RX2, "slotAt", "(I)LSlateRoof$Roof;"⟩
def RX3 : String := "SlateRoof"
def TX3 : u_T := fun k => match k with
  | 0 => ("SlateRoof", "now", "LSlateRoof$Roof;", true)
  | 1 => ("SlateRoof", "trial", "LSlateRoof$Roof;", true)
  | 2 => ("SlateRoof", "saves", "LSlateRoof$Saves;", true)
  | _ => ("SlateRoof", "text", "LSlateRoof$DayText;", true)
def tyX3 : Nat → FieldType := fun k => match k with
  | 0 => .object "SlateRoof$Roof"
  | 1 => .object "SlateRoof$Roof"
  | 2 => .object "SlateRoof$Saves"
  | _ => .object "SlateRoof$DayText"
theorem nmX3 : ∀ a, a < 4 → ∀ b, b < 4 → a ≠ b → (TX3 a).2.1 ≠ (TX3 b).2.1 := by decide +kernel
theorem tyX3_ok : ∀ k, k < 4 → parseFieldDescriptor (TX3 k).2.2.1 = some (tyX3 k) := by decide +kernel
abbrev cX3_init : ByteArray := prog_1_method_1_code
def yX3_init : MethodName := ⟨RX3, "<init>", "()V"⟩
abbrev cX3_begin : ByteArray := prog_1_method_2_code
def yX3_begin : MethodName := ⟨RX3, "begin", "(II)I"⟩
abbrev cX3_set : ByteArray := prog_1_method_3_code
def yX3_set : MethodName := ⟨RX3, "set", "(II)I"⟩
abbrev cX3_buy : ByteArray := prog_1_method_4_code
def yX3_buy : MethodName := ⟨RX3, "buy", "(III)I"⟩
abbrev cX3_recut : ByteArray := prog_1_method_5_code
def yX3_recut : MethodName := ⟨RX3, "recut", "(III)I"⟩
abbrev cX3_clearHeap : ByteArray := prog_1_method_6_code
def yX3_clearHeap : MethodName := ⟨RX3, "clearHeap", "(I)I"⟩
abbrev cX3_course : ByteArray := prog_1_method_7_code
def yX3_course : MethodName := ⟨RX3, "course", "(I)I"⟩
abbrev cX3_lay : ByteArray := prog_1_method_8_code
def yX3_lay : MethodName := ⟨RX3, "lay", "(I)I"⟩
abbrev cX3_mend : ByteArray := prog_1_method_9_code
def yX3_mend : MethodName := ⟨RX3, "mend", "(II)I"⟩
abbrev cX3_cover : ByteArray := prog_1_method_10_code
def yX3_cover : MethodName := ⟨RX3, "cover", "(Z)I"⟩
abbrev cX3_pass : ByteArray := prog_1_method_11_code
def yX3_pass : MethodName := ⟨RX3, "pass", "(I)I"⟩
abbrev cX3_append : ByteArray := prog_1_method_12_code
def yX3_append : MethodName := ⟨RX3, "append", "(I)I"⟩
abbrev cX3_work : ByteArray := prog_1_method_15_code
def yX3_work : MethodName := ⟨RX3, "work", "()I"⟩
abbrev cX3_courseOf : ByteArray := prog_1_method_17_code
def yX3_courseOf : MethodName := ⟨RX3, "courseOf", "(II)I"⟩
abbrev cX3_lies : ByteArray := prog_1_method_18_code
def yX3_lies : MethodName := ⟨RX3, "lies", "(II)Z"⟩
abbrev cX3_slates : ByteArray := prog_1_method_19_code
def yX3_slates : MethodName := ⟨RX3, "slates", "(II)I"⟩
abbrev cX3_count : ByteArray := prog_1_method_20_code
def yX3_count : MethodName := ⟨RX3, "count", "(I)I"⟩
abbrev cX3_setting : ByteArray := prog_1_method_21_code
def yX3_setting : MethodName := ⟨RX3, "setting", "(I)I"⟩
abbrev cX3_toTop : ByteArray := prog_1_method_22_code
def yX3_toTop : MethodName := ⟨RX3, "toTop", "(II)I"⟩
abbrev cX3_reach : ByteArray := prog_1_method_23_code
def yX3_reach : MethodName := ⟨RX3, "reach", "(I)I"⟩
abbrev cX3_dryDays : ByteArray := prog_1_method_24_code
def yX3_dryDays : MethodName := ⟨RX3, "dryDays", "()I"⟩
abbrev cX3_bestLength : ByteArray := prog_1_method_25_code
def yX3_bestLength : MethodName := ⟨RX3, "bestLength", "()I"⟩
abbrev cX3_meanPrice : ByteArray := prog_1_method_26_code
def yX3_meanPrice : MethodName := ⟨RX3, "meanPrice", "()D"⟩
abbrev cX3_isWithin : ByteArray := prog_1_method_32_code
def yX3_isWithin : MethodName := ⟨RX3, "isWithin", "(III)Z"⟩
abbrev cX3_isLength : ByteArray := prog_1_method_33_code
def yX3_isLength : MethodName := ⟨RX3, "isLength", "(I)Z"⟩
abbrev cX3_priceOf : ByteArray := prog_1_method_34_code
def yX3_priceOf : MethodName := ⟨RX3, "priceOf", "(I)I"⟩
abbrev cX3_brokenAmong : ByteArray := prog_1_method_35_code
def yX3_brokenAmong : MethodName := ⟨RX3, "brokenAmong", "(II)I"⟩
abbrev cX3_valueAt : ByteArray := prog_1_method_36_code
def yX3_valueAt : MethodName := ⟨RX3, "valueAt", "([II)I"⟩
abbrev cX3_addAt : ByteArray := prog_1_method_37_code
def yX3_addAt : MethodName := ⟨RX3, "addAt", "([III)V"⟩
abbrev cX3_sumOf : ByteArray := prog_1_method_38_code
def yX3_sumOf : MethodName := ⟨RX3, "sumOf", "([I)I"⟩
abbrev cX3_copyRow : ByteArray := prog_1_method_39_code
def yX3_copyRow : MethodName := ⟨RX3, "copyRow", "([I[I)V"⟩
def RX4 : String := "SlateRoofModel"
def TX4 : u_T := fun k => match k with
  | _ => ("", "", "", false)
def tyX4 : Nat → FieldType := fun k => match k with
  | _ => .int
theorem nmX4 : ∀ a, a < 0 → ∀ b, b < 0 → a ≠ b → (TX4 a).2.1 ≠ (TX4 b).2.1 := by decide +kernel
theorem tyX4_ok : ∀ k, k < 0 → parseFieldDescriptor (TX4 k).2.2.1 = some (tyX4 k) := by decide +kernel
def RJ6 : String := "java/lang/Integer"
def TJ6 : u_T := fun k => match k with
  | _ => ("", "", "", false)
def tyJ6 : Nat → FieldType := fun k => match k with
  | _ => .int
theorem nmJ6 : ∀ a, a < 0 → ∀ b, b < 0 → a ≠ b → (TJ6 a).2.1 ≠ (TJ6 b).2.1 := by decide +kernel
theorem tyJ6_ok : ∀ k, k < 0 → parseFieldDescriptor (TJ6 k).2.2.1 = some (tyJ6 k) := by decide +kernel
abbrev cJ6_bitCount_0f7a4 : ByteArray := prog_11_method_49_code
def yJ6_bitCount_0f7a4 : MethodName := ⟨RJ6, "bitCount", "(I)I"⟩
def RJ9 : String := "java/lang/Math"
def TJ9 : u_T := fun k => match k with
  | _ => ("", "", "", false)
def tyJ9 : Nat → FieldType := fun k => match k with
  | _ => .int
theorem nmJ9 : ∀ a, a < 0 → ∀ b, b < 0 → a ≠ b → (TJ9 a).2.1 ≠ (TJ9 b).2.1 := by decide +kernel
theorem tyJ9_ok : ∀ k, k < 0 → parseFieldDescriptor (TJ9 k).2.2.1 = some (tyJ9 k) := by decide +kernel
abbrev cJ9_max_7cf53 : ByteArray := prog_12_method_65_code
def yJ9_max_7cf53 : MethodName := ⟨RJ9, "max", "(II)I"⟩
abbrev cJ9_min_7cf53 : ByteArray := prog_12_method_69_code
def yJ9_min_7cf53 : MethodName := ⟨RJ9, "min", "(II)I"⟩
def RJ0 : String := "java/lang/String"
def TJ0 : u_T := fun k => match k with
  | _ => ("", "", "", false)
def tyJ0 : Nat → FieldType := fun k => match k with
  | _ => .int
theorem nmJ0 : ∀ a, a < 0 → ∀ b, b < 0 → a ≠ b → (TJ0 a).2.1 ≠ (TJ0 b).2.1 := by decide +kernel
theorem tyJ0_ok : ∀ k, k < 0 → parseFieldDescriptor (TJ0 k).2.2.1 = some (tyJ0 k) := by decide +kernel
def RJ10 : String := "java/lang/System"
def TJ10 : u_T := fun k => match k with
  | _ => ("", "", "", false)
def tyJ10 : Nat → FieldType := fun k => match k with
  | _ => .int
theorem nmJ10 : ∀ a, a < 0 → ∀ b, b < 0 → a ≠ b → (TJ10 a).2.1 ≠ (TJ10 b).2.1 := by decide +kernel
theorem tyJ10_ok : ∀ k, k < 0 → parseFieldDescriptor (TJ10 k).2.2.1 = some (tyJ10 k) := by decide +kernel
def RL : String := "SlateRoofLaw"
abbrev cL_cell : ByteArray := method_2_code
def yL_cell : MethodName := ⟨RL, "cell", "([II)I"⟩
abbrev cL_at : ByteArray := method_3_code
def yL_at : MethodName := ⟨RL, "at", "(II)I"⟩
abbrev cL_places : ByteArray := method_4_code
def yL_places : MethodName := ⟨RL, "places", "(I[I)I"⟩
abbrev cL_full : ByteArray := method_5_code
def yL_full : MethodName := ⟨RL, "full", "(I[I)I"⟩
abbrev cL_ones : ByteArray := method_6_code
def yL_ones : MethodName := ⟨RL, "ones", "(I)I"⟩
abbrev cL_top : ByteArray := method_7_code
def yL_top : MethodName := ⟨RL, "top", "(I[I[I)I"⟩
abbrev cL_lying : ByteArray := method_8_code
def yL_lying : MethodName := ⟨RL, "lying", "([I[I)I"⟩
abbrev cL_done : ByteArray := method_9_code
def yL_done : MethodName := ⟨RL, "done", "([I[I[I)Z"⟩
abbrev cL_all : ByteArray := method_10_code
def yL_all : MethodName := ⟨RL, "all", "([I)I"⟩
abbrev cL_longest : ByteArray := method_11_code
def yL_longest : MethodName := ⟨RL, "longest", "([I[I)I"⟩
abbrev cL_gap : ByteArray := method_12_code
def yL_gap : MethodName := ⟨RL, "gap", "(I[I[I)I"⟩
abbrev cL_fallen : ByteArray := method_13_code
def yL_fallen : MethodName := ⟨RL, "fallen", "(II[I[I[I[I)I"⟩
abbrev cL_day : ByteArray := method_14_code
def yL_day : MethodName := ⟨RL, "day", "(I[I[I[I[I)I"⟩
abbrev cL_next : ByteArray := method_15_code
def yL_next : MethodName := ⟨RL, "next", "([I[I[I)I"⟩
abbrev cL_slaters : ByteArray := method_16_code
def yL_slaters : MethodName := ⟨RL, "slaters", "([I[I[I[I)I"⟩
abbrev cL_courses : ByteArray := method_17_code
def yL_courses : MethodName := ⟨RL, "courses", "(LSlateRoof;II[I[I[I)Z"⟩
abbrev cL_told : ByteArray := method_18_code
def yL_told : MethodName := ⟨RL, "told", "(LSlateRoof;I[I[I[I[I[I[I)Z"⟩
abbrev cL_same : ByteArray := method_19_code
def yL_same : MethodName := ⟨RL, "same", "([I[I)V"⟩
abbrev cL_toTop : ByteArray := method_20_code
def yL_toTop : MethodName := ⟨RL, "toTop", "(II[I[I)I"⟩
abbrev cL_ahead : ByteArray := method_21_code
def yL_ahead : MethodName := ⟨RL, "ahead", "(LSlateRoof;I[I[I[I[I[I)Z"⟩
abbrev cL_bought : ByteArray := method_22_code
def yL_bought : MethodName := ⟨RL, "bought", "(III[I[I[I[I)I"⟩
abbrev cL_works : ByteArray := method_23_code
def yL_works : MethodName := ⟨RL, "works", "(LSlateRoof;II[I[I[I[I[I)Z"⟩
abbrev cL_act : ByteArray := method_24_code
def yL_act : MethodName := ⟨RL, "act", "(LSlateRoof;III[I[I[I[I[I[I)Z"⟩
abbrev cL_law : ByteArray := code
def yL_law : MethodName := ⟨RL, "law", "([I)Z"⟩
/-- the words that the tables alone decide: every method may use all of them -/
def a_WS : List Cond := lw_tbl.filter goodWord
theorem a_WS_tbl {w : Cond} (h : w ∈ a_WS) : w ∈ lw_tbl := (List.mem_filter.mp h).1
theorem a_WS_good {w : Cond} (h : w ∈ a_WS) : goodWord w = true := (List.mem_filter.mp h).2
theorem a_in0 (i : Nat) {w : Cond} (h : (k2_sels lw_privs)[i]? = some w) (hg : goodWord w = true) : w ∈ a_WS := List.mem_filter.mpr ⟨List.mem_append_left _ (List.mem_of_getElem? h), hg⟩
theorem a_in1 (i : Nat) {w : Cond} (h : tables_1_1[i]? = some w) (hg : goodWord w = true) : w ∈ a_WS := List.mem_filter.mpr ⟨List.mem_append_right _ (List.mem_append_left _ (List.mem_of_getElem? h)), hg⟩
theorem a_in2 (i : Nat) {w : Cond} (h : tables_1_2[i]? = some w) (hg : goodWord w = true) : w ∈ a_WS := List.mem_filter.mpr ⟨List.mem_append_right _ (List.mem_append_right _ (List.mem_append_left _ (List.mem_of_getElem? h))), hg⟩
theorem a_in3 (i : Nat) {w : Cond} (h : tables_1_3[i]? = some w) (hg : goodWord w = true) : w ∈ a_WS := List.mem_filter.mpr ⟨List.mem_append_right _ (List.mem_append_right _ (List.mem_append_right _ (List.mem_of_getElem? h))), hg⟩
