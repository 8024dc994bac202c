/-! ===== BEGIN printed: names, fields, word lists, decode rows ===== -/
def RX0 : String := "ShorthandRules$Gift"
def TX0 : u_T := fun k => match k with
  | 0 => ("ShorthandRules$Gift", "characters", "LShorthandRules$Row;", true)
  | _ => ("ShorthandRules$Gift", "stops", "LShorthandRules$Row;", true)
def tyX0 : Nat → FieldType := fun k => match k with
  | 0 => .object "ShorthandRules$Row"
  | _ => .object "ShorthandRules$Row"
abbrev wsX00 : List Cond := u_ws RX0 TX0 2
theorem nmX0 : ∀ a, a < 2 → ∀ b, b < 2 → a ≠ b → (TX0 a).2.1 ≠ (TX0 b).2.1 := by decide +kernel
theorem tyX0_ok : ∀ k, k < 2 → parseFieldDescriptor (TX0 k).2.2.1 = some (tyX0 k) := by decide +kernel
abbrev cX0_init : ByteArray := prog_2_method_1_code
def yX0_init : MethodName := ⟨RX0, "<init>", "()V"⟩
abbrev cX0_empty : ByteArray := prog_2_method_2_code
def yX0_empty : MethodName := ⟨RX0, "empty", "()V"⟩
abbrev cX0_addDate : ByteArray := prog_2_method_3_code
def yX0_addDate : MethodName := ⟨RX0, "addDate", "(II)V"⟩
abbrev cX0_addWeekday : ByteArray := prog_2_method_4_code
def yX0_addWeekday : MethodName := ⟨RX0, "addWeekday", "(I)V"⟩
abbrev cX0_addNumber : ByteArray := prog_2_method_5_code
def yX0_addNumber : MethodName := ⟨RX0, "addNumber", "(I)V"⟩
def RX1 : String := "ShorthandRules$Kind"
def TX1 : u_T := fun k => match k with
  | _ => ("", "", "", false)
def tyX1 : Nat → FieldType := fun k => match k with
  | _ => .int
abbrev wsX10 : List Cond := u_ws RX1 TX1 0
theorem nmX1 : ∀ a, a < 0 → ∀ b, b < 0 → a ≠ b → (TX1 a).2.1 ≠ (TX1 b).2.1 := by decide +kernel
theorem tyX1_ok : ∀ k, k < 0 → parseFieldDescriptor (TX1 k).2.2.1 = some (tyX1 k) := by decide +kernel
def RX2 : String := "ShorthandRules$Part"
def TX2 : u_T := fun k => match k with
  | 0 => ("ShorthandRules$Part", "kind", "LShorthandRules$Kind;", true)
  | 1 => ("ShorthandRules$Part", "first", "I", true)
  | _ => ("ShorthandRules$Part", "second", "I", true)
def tyX2 : Nat → FieldType := fun k => match k with
  | 0 => .object "ShorthandRules$Kind"
  | 1 => .int
  | _ => .int
abbrev wsX20 : List Cond := u_ws RX2 TX2 3
theorem nmX2 : ∀ a, a < 3 → ∀ b, b < 3 → a ≠ b → (TX2 a).2.1 ≠ (TX2 b).2.1 := by decide +kernel
theorem tyX2_ok : ∀ k, k < 3 → parseFieldDescriptor (TX2 k).2.2.1 = some (tyX2 k) := by decide +kernel
abbrev cX2_init : ByteArray := prog_4_method_1_code
def yX2_init : MethodName := ⟨RX2, "<init>", "(LShorthandRules$Kind;II)V"⟩
def RX3 : String := "ShorthandRules$Row"
def TX3 : u_T := fun k => match k with
  | 0 => ("ShorthandRules$Row", "cells", "[I", true)
  | _ => ("ShorthandRules$Row", "count", "I", false)
def tyX3 : Nat → FieldType := fun k => match k with
  | 0 => .array .int
  | _ => .int
abbrev wsX30 : List Cond := u_ws RX3 TX3 2
theorem nmX3 : ∀ a, a < 2 → ∀ b, b < 2 → a ≠ b → (TX3 a).2.1 ≠ (TX3 b).2.1 := by decide +kernel
theorem tyX3_ok : ∀ k, k < 2 → parseFieldDescriptor (TX3 k).2.2.1 = some (tyX3 k) := by decide +kernel
abbrev cX3_init : ByteArray := prog_5_method_1_code
def yX3_init : MethodName := ⟨RX3, "<init>", "(I)V"⟩
abbrev cX3_count : ByteArray := prog_5_method_2_code
def yX3_count : MethodName := ⟨RX3, "count", "()I"⟩
abbrev cX3_isEmpty : ByteArray := prog_5_method_3_code
def yX3_isEmpty : MethodName := ⟨RX3, "isEmpty", "()Z"⟩
abbrev cX3_isFull : ByteArray := prog_5_method_4_code
def yX3_isFull : MethodName := ⟨RX3, "isFull", "()Z"⟩
abbrev cX3_has : ByteArray := prog_5_method_5_code
def yX3_has : MethodName := ⟨RX3, "has", "(I)Z"⟩
abbrev cX3_at : ByteArray := prog_5_method_6_code
def yX3_at : MethodName := ⟨RX3, "at", "(I)I"⟩
abbrev cX3_set : ByteArray := prog_5_method_7_code
def yX3_set : MethodName := ⟨RX3, "set", "(II)V"⟩
abbrev cX3_add : ByteArray := prog_5_method_8_code
def yX3_add : MethodName := ⟨RX3, "add", "(I)V"⟩
abbrev cX3_insert : ByteArray := prog_5_method_9_code
def yX3_insert : MethodName := ⟨RX3, "insert", "(II)V"⟩
abbrev cX3_removeAt : ByteArray := prog_5_method_10_code
def yX3_removeAt : MethodName := ⟨RX3, "removeAt", "(I)I"⟩
abbrev cX3_empty : ByteArray := prog_5_method_11_code
def yX3_empty : MethodName := ⟨RX3, "empty", "()V"⟩
abbrev cX3_copyFrom : ByteArray := prog_5_method_12_code
def yX3_copyFrom : MethodName := ⟨RX3, "copyFrom", "(LShorthandRules$Row;)V"⟩
abbrev cX3_isSameAs : ByteArray := prog_5_method_13_code
def yX3_isSameAs : MethodName := ⟨RX3, "isSameAs", "(LShorthandRules$Row;)Z"⟩
abbrev cX3_endsWith : ByteArray := prog_5_method_14_code
def yX3_endsWith : MethodName := ⟨RX3, "endsWith", "(LShorthandRules$Row;I)Z"⟩
def RX4 : String := "ShorthandRules$Snippet"
def TX4 : u_T := fun k => match k with
  | 0 => ("ShorthandRules$Snippet", "isForWords", "Z", true)
  | 1 => ("ShorthandRules$Snippet", "trigger", "LShorthandRules$Row;", true)
  | 2 => ("ShorthandRules$Snippet", "parts", "Ljava/util/ArrayList;", true)
  | 3 => ("ShorthandRules$Snippet", "isOn", "Z", false)
  | 4 => ("ShorthandRules$Snippet", "isSecondChosen", "Z", false)
  | 5 => ("ShorthandRules$Snippet", "size", "I", false)
  | 6 => ("ShorthandRules$Snippet", "height", "I", false)
  | _ => ("ShorthandRules$Snippet", "reached", "I", false)
def tyX4 : Nat → FieldType := fun k => match k with
  | 0 => .boolean
  | 1 => .object "ShorthandRules$Row"
  | 2 => .object "java/util/ArrayList"
  | 3 => .boolean
  | 4 => .boolean
  | 5 => .int
  | 6 => .int
  | _ => .int
abbrev wsX40 : List Cond := u_ws RX4 TX4 8
theorem nmX4 : ∀ a, a < 8 → ∀ b, b < 8 → a ≠ b → (TX4 a).2.1 ≠ (TX4 b).2.1 := by decide +kernel
theorem tyX4_ok : ∀ k, k < 8 → parseFieldDescriptor (TX4 k).2.2.1 = some (tyX4 k) := by decide +kernel
abbrev cX4_init : ByteArray := prog_6_method_1_code
def yX4_init : MethodName := ⟨RX4, "<init>", "(Z)V"⟩
abbrev cX4_reaches : ByteArray := prog_6_method_2_code
def yX4_reaches : MethodName := ⟨RX4, "reaches", "(I)Z"⟩
abbrev cX4_dropLastPart : ByteArray := prog_6_method_3_code
def yX4_dropLastPart : MethodName := ⟨RX4, "dropLastPart", "()V"⟩
abbrev cX4_grow : ByteArray := prog_6_method_4_code
def yX4_grow : MethodName := ⟨RX4, "grow", "(I)V"⟩
def RX5 : String := "ShorthandRules$Text"
def TX5 : u_T := fun k => match k with
  | 0 => ("ShorthandRules$Text", "characters", "LShorthandRules$Row;", true)
  | 1 => ("ShorthandRules$Text", "stops", "LShorthandRules$Row;", true)
  | _ => ("ShorthandRules$Text", "caret", "I", false)
def tyX5 : Nat → FieldType := fun k => match k with
  | 0 => .object "ShorthandRules$Row"
  | 1 => .object "ShorthandRules$Row"
  | _ => .int
abbrev wsX50 : List Cond := u_ws RX5 TX5 3
theorem nmX5 : ∀ a, a < 3 → ∀ b, b < 3 → a ≠ b → (TX5 a).2.1 ≠ (TX5 b).2.1 := by decide +kernel
theorem tyX5_ok : ∀ k, k < 3 → parseFieldDescriptor (TX5 k).2.2.1 = some (tyX5 k) := by decide +kernel
abbrev cX5_init : ByteArray := prog_7_method_1_code
def yX5_init : MethodName := ⟨RX5, "<init>", "()V"⟩
abbrev cX5_type : ByteArray := prog_7_method_2_code
def yX5_type : MethodName := ⟨RX5, "type", "(I)V"⟩
abbrev cX5_takeOut : ByteArray := prog_7_method_3_code
def yX5_takeOut : MethodName := ⟨RX5, "takeOut", "()I"⟩
abbrev cX5_shiftStops : ByteArray := prog_7_method_4_code
def yX5_shiftStops : MethodName := ⟨RX5, "shiftStops", "(I)V"⟩
abbrev cX5_replace : ByteArray := prog_7_method_5_code
def yX5_replace : MethodName := ⟨RX5, "replace", "(ILShorthandRules$Gift;)V"⟩
abbrev cX5_copyFrom : ByteArray := prog_7_method_6_code
def yX5_copyFrom : MethodName := ⟨RX5, "copyFrom", "(LShorthandRules$Text;)V"⟩
def RX6 : String := "ShorthandRules$TriggerTree"
def TX6 : u_T := fun k => match k with
  | 0 => ("ShorthandRules$TriggerTree", "parents", "LShorthandRules$Row;", true)
  | 1 => ("ShorthandRules$TriggerTree", "characters", "LShorthandRules$Row;", true)
  | _ => ("ShorthandRules$TriggerTree", "endings", "LShorthandRules$Row;", true)
def tyX6 : Nat → FieldType := fun k => match k with
  | 0 => .object "ShorthandRules$Row"
  | 1 => .object "ShorthandRules$Row"
  | _ => .object "ShorthandRules$Row"
abbrev wsX60 : List Cond := u_ws RX6 TX6 3
theorem nmX6 : ∀ a, a < 3 → ∀ b, b < 3 → a ≠ b → (TX6 a).2.1 ≠ (TX6 b).2.1 := by decide +kernel
theorem tyX6_ok : ∀ k, k < 3 → parseFieldDescriptor (TX6 k).2.2.1 = some (tyX6 k) := by decide +kernel
abbrev cX6_init : ByteArray := prog_8_method_1_code
def yX6_init : MethodName := ⟨RX6, "<init>", "()V"⟩
abbrev cX6_empty : ByteArray := prog_8_method_2_code
def yX6_empty : MethodName := ⟨RX6, "empty", "()V"⟩
abbrev cX6_add : ByteArray := prog_8_method_3_code
def yX6_add : MethodName := ⟨RX6, "add", "(LShorthandRules$Row;I)V"⟩
abbrev cX6_childOf : ByteArray := prog_8_method_4_code
def yX6_childOf : MethodName := ⟨RX6, "childOf", "(II)I"⟩
abbrev cX6_endingsAt : ByteArray := prog_8_method_5_code
def yX6_endingsAt : MethodName := ⟨RX6, "endingsAt", "(I)I"⟩
abbrev cX6_addNode : ByteArray := prog_8_method_6_code
def yX6_addNode : MethodName := ⟨RX6, "addNode", "(II)I"⟩
def RX7 : String := "ShorthandRules"
def TX7 : u_T := fun k => match k with
  | 0 => ("ShorthandRules", "snippets", "Ljava/util/ArrayList;", true)
  | 1 => ("ShorthandRules", "tree", "LShorthandRules$TriggerTree;", true)
  | 2 => ("ShorthandRules", "gift", "LShorthandRules$Gift;", true)
  | 3 => ("ShorthandRules", "text", "LShorthandRules$Text;", true)
  | 4 => ("ShorthandRules", "textAheadOfExpansion", "LShorthandRules$Text;", true)
  | 5 => ("ShorthandRules", "today", "I", false)
  | 6 => ("ShorthandRules", "canUndo", "Z", false)
  | 7 => ("ShorthandRules", "lastGain", "I", false)
  | 8 => ("ShorthandRules", "gain", "J", false)
  | 9 => ("ShorthandRules", "expansions", "I", false)
  | _ => ("ShorthandRules", "undone", "I", false)
def tyX7 : Nat → FieldType := fun k => match k with
  | 0 => .object "java/util/ArrayList"
  | 1 => .object "ShorthandRules$TriggerTree"
  | 2 => .object "ShorthandRules$Gift"
  | 3 => .object "ShorthandRules$Text"
  | 4 => .object "ShorthandRules$Text"
  | 5 => .int
  | 6 => .boolean
  | 7 => .int
  | 8 => .long
  | 9 => .int
  | _ => .int
abbrev wsX70 : List Cond := u_ws RX7 TX7 11
theorem nmX7 : ∀ a, a < 11 → ∀ b, b < 11 → a ≠ b → (TX7 a).2.1 ≠ (TX7 b).2.1 := by decide +kernel
theorem tyX7_ok : ∀ k, k < 11 → parseFieldDescriptor (TX7 k).2.2.1 = some (tyX7 k) := by decide +kernel
abbrev cX7_init : ByteArray := prog_1_method_1_code
def yX7_init : MethodName := ⟨RX7, "<init>", "()V"⟩
abbrev cX7_addSnippet : ByteArray := prog_1_method_2_code
def yX7_addSnippet : MethodName := ⟨RX7, "addSnippet", "(Z)I"⟩
abbrev cX7_addToTrigger : ByteArray := prog_1_method_3_code
def yX7_addToTrigger : MethodName := ⟨RX7, "addToTrigger", "(IC)I"⟩
abbrev cX7_clearTrigger : ByteArray := prog_1_method_4_code
def yX7_clearTrigger : MethodName := ⟨RX7, "clearTrigger", "(I)I"⟩
abbrev cX7_setOn : ByteArray := prog_1_method_5_code
def yX7_setOn : MethodName := ⟨RX7, "setOn", "(IZ)Z"⟩
abbrev cX7_putCharacter : ByteArray := prog_1_method_6_code
def yX7_putCharacter : MethodName := ⟨RX7, "putCharacter", "(IC)I"⟩
abbrev cX7_putSnippet : ByteArray := prog_1_method_7_code
def yX7_putSnippet : MethodName := ⟨RX7, "putSnippet", "(II)I"⟩
abbrev cX7_putChoice : ByteArray := prog_1_method_8_code
def yX7_putChoice : MethodName := ⟨RX7, "putChoice", "(III)I"⟩
abbrev cX7_putDate : ByteArray := prog_1_method_9_code
def yX7_putDate : MethodName := ⟨RX7, "putDate", "(IIC)I"⟩
abbrev cX7_putStop : ByteArray := prog_1_method_10_code
def yX7_putStop : MethodName := ⟨RX7, "putStop", "(I)I"⟩
abbrev cX7_clearBody : ByteArray := prog_1_method_11_code
def yX7_clearBody : MethodName := ⟨RX7, "clearBody", "(I)I"⟩
abbrev cX7_choose : ByteArray := prog_1_method_12_code
def yX7_choose : MethodName := ⟨RX7, "choose", "(IZ)Z"⟩
abbrev cX7_setToday : ByteArray := prog_1_method_13_code
def yX7_setToday : MethodName := ⟨RX7, "setToday", "(I)I"⟩
abbrev cX7_lengthOf : ByteArray := prog_1_method_14_code
def yX7_lengthOf : MethodName := ⟨RX7, "lengthOf", "(I)I"⟩
abbrev cX7_characterOf : ByteArray := prog_1_method_15_code
def yX7_characterOf : MethodName := ⟨RX7, "characterOf", "(II)C"⟩
abbrev cX7_stopsOf : ByteArray := prog_1_method_16_code
def yX7_stopsOf : MethodName := ⟨RX7, "stopsOf", "(I)I"⟩
abbrev cX7_stopOf : ByteArray := prog_1_method_17_code
def yX7_stopOf : MethodName := ⟨RX7, "stopOf", "(II)I"⟩
abbrev cX7_comesTo : ByteArray := prog_1_method_18_code
def yX7_comesTo : MethodName := ⟨RX7, "comesTo", "(II)Z"⟩
abbrev cX7_depth : ByteArray := prog_1_method_19_code
def yX7_depth : MethodName := ⟨RX7, "depth", "(I)I"⟩
abbrev cX7_isShadowedBy : ByteArray := prog_1_method_20_code
def yX7_isShadowedBy : MethodName := ⟨RX7, "isShadowedBy", "(II)Z"⟩
abbrev cX7_shadower : ByteArray := prog_1_method_21_code
def yX7_shadower : MethodName := ⟨RX7, "shadower", "(I)I"⟩
abbrev cX7_clashes : ByteArray := prog_1_method_22_code
def yX7_clashes : MethodName := ⟨RX7, "clashes", "()I"⟩
abbrev cX7_key : ByteArray := prog_1_method_23_code
def yX7_key : MethodName := ⟨RX7, "key", "(C)I"⟩
abbrev cX7_erase : ByteArray := prog_1_method_24_code
def yX7_erase : MethodName := ⟨RX7, "erase", "()C"⟩
abbrev cX7_moveCaret : ByteArray := prog_1_method_25_code
def yX7_moveCaret : MethodName := ⟨RX7, "moveCaret", "(I)I"⟩
abbrev cX7_nextStop : ByteArray := prog_1_method_26_code
def yX7_nextStop : MethodName := ⟨RX7, "nextStop", "()I"⟩
abbrev cX7_undo : ByteArray := prog_1_method_27_code
def yX7_undo : MethodName := ⟨RX7, "undo", "()I"⟩
abbrev cX7_length : ByteArray := prog_1_method_28_code
def yX7_length : MethodName := ⟨RX7, "length", "()I"⟩
abbrev cX7_characterAt : ByteArray := prog_1_method_29_code
def yX7_characterAt : MethodName := ⟨RX7, "characterAt", "(I)C"⟩
abbrev cX7_caret : ByteArray := prog_1_method_30_code
def yX7_caret : MethodName := ⟨RX7, "caret", "()I"⟩
abbrev cX7_stops : ByteArray := prog_1_method_31_code
def yX7_stops : MethodName := ⟨RX7, "stops", "()I"⟩
abbrev cX7_stopAt : ByteArray := prog_1_method_32_code
def yX7_stopAt : MethodName := ⟨RX7, "stopAt", "(I)I"⟩
abbrev cX7_matching : ByteArray := prog_1_method_33_code
def yX7_matching : MethodName := ⟨RX7, "matching", "()I"⟩
abbrev cX7_matchingByLooking : ByteArray := prog_1_method_34_code
def yX7_matchingByLooking : MethodName := ⟨RX7, "matchingByLooking", "()I"⟩
abbrev cX7_saved : ByteArray := prog_1_method_35_code
def yX7_saved : MethodName := ⟨RX7, "saved", "()J"⟩
abbrev cX7_keptShare : ByteArray := prog_1_method_36_code
def yX7_keptShare : MethodName := ⟨RX7, "keptShare", "()F"⟩
abbrev cX7_requireSnippet : ByteArray := prog_1_method_37_code
def yX7_requireSnippet : MethodName := ⟨RX7, "requireSnippet", "(I)V"⟩
abbrev cX7_snippetAt : ByteArray := prog_1_method_38_code
def yX7_snippetAt : MethodName := ⟨RX7, "snippetAt", "(I)LShorthandRules$Snippet;"⟩
abbrev cX7_requireTypeable : ByteArray := prog_1_method_39_code
def yX7_requireTypeable : MethodName := ⟨RX7, "requireTypeable", "(C)V"⟩
abbrev cX7_isLetterOrDigit : ByteArray := prog_1_method_40_code
def yX7_isLetterOrDigit : MethodName := ⟨RX7, "isLetterOrDigit", "(I)Z"⟩
abbrev cX7_innerPart : ByteArray := prog_1_method_41_code
def yX7_innerPart : MethodName := ⟨RX7, "innerPart", "(III)LShorthandRules$Part;"⟩
abbrev cX7_addPart : ByteArray := prog_1_method_42_code
def yX7_addPart : MethodName := ⟨RX7, "addPart", "(LShorthandRules$Snippet;LShorthandRules$Part;)I"⟩
abbrev cX7_isSomeTooLarge : ByteArray := prog_1_method_43_code
def yX7_isSomeTooLarge : MethodName := ⟨RX7, "isSomeTooLarge", "()Z"⟩
abbrev cX7_measureAll : ByteArray := prog_1_method_44_code
def yX7_measureAll : MethodName := ⟨RX7, "measureAll", "()V"⟩
abbrev cX7_measure : ByteArray := prog_1_method_45_code
def yX7_measure : MethodName := ⟨RX7, "measure", "(LShorthandRules$Snippet;)V"⟩
abbrev cX7_measureInner : ByteArray := prog_1_method_46_code
def yX7_measureInner : MethodName := ⟨RX7, "measureInner", "(LShorthandRules$Snippet;II)V"⟩
abbrev cX7_gather : ByteArray := prog_1_method_47_code
def yX7_gather : MethodName := ⟨RX7, "gather", "(LShorthandRules$Snippet;)V"⟩
abbrev cX7_give : ByteArray := prog_1_method_48_code
def yX7_give : MethodName := ⟨RX7, "give", "(LShorthandRules$Snippet;I)V"⟩
abbrev cX7_givePart : ByteArray := prog_1_method_49_code
def yX7_givePart : MethodName := ⟨RX7, "givePart", "(LShorthandRules$Snippet;LShorthandRules$Part;I)V"⟩
abbrev cX7_isInShadow : ByteArray := prog_1_method_50_code
def yX7_isInShadow : MethodName := ⟨RX7, "isInShadow", "(II)Z"⟩
abbrev cX7_isTypedEarlier : ByteArray := prog_1_method_51_code
def yX7_isTypedEarlier : MethodName := ⟨RX7, "isTypedEarlier", "(LShorthandRules$Row;LShorthandRules$Row;)Z"⟩
abbrev cX7_lowestShadower : ByteArray := prog_1_method_52_code
def yX7_lowestShadower : MethodName := ⟨RX7, "lowestShadower", "(I)I"⟩
abbrev cX7_growTree : ByteArray := prog_1_method_53_code
def yX7_growTree : MethodName := ⟨RX7, "growTree", "()V"⟩
abbrev cX7_findInTree : ByteArray := prog_1_method_54_code
def yX7_findInTree : MethodName := ⟨RX7, "findInTree", "()I"⟩
abbrev cX7_lowestReady : ByteArray := prog_1_method_55_code
def yX7_lowestReady : MethodName := ⟨RX7, "lowestReady", "(II)I"⟩
abbrev cX7_findByLooking : ByteArray := prog_1_method_56_code
def yX7_findByLooking : MethodName := ⟨RX7, "findByLooking", "()I"⟩
abbrev cX7_isReady : ByteArray := prog_1_method_57_code
def yX7_isReady : MethodName := ⟨RX7, "isReady", "(LShorthandRules$Snippet;I)Z"⟩
abbrev cX7_isWordStart : ByteArray := prog_1_method_58_code
def yX7_isWordStart : MethodName := ⟨RX7, "isWordStart", "(I)Z"⟩
abbrev cX7_expand : ByteArray := prog_1_method_59_code
def yX7_expand : MethodName := ⟨RX7, "expand", "(LShorthandRules$Snippet;)Z"⟩
def RX8 : String := "ShorthandRulesModel"
def TX8 : u_T := fun k => match k with
  | 0 => ("ShorthandRulesModel", "thrown", "I", false)
  | 1 => ("ShorthandRulesModel", "snippets", "I", false)
  | 2 => ("ShorthandRulesModel", "today", "I", false)
  | 3 => ("ShorthandRulesModel", "length", "I", false)
  | 4 => ("ShorthandRulesModel", "caret", "I", false)
  | 5 => ("ShorthandRulesModel", "stops", "I", false)
  | 6 => ("ShorthandRulesModel", "laid", "I", false)
  | 7 => ("ShorthandRulesModel", "laidStops", "I", false)
  | 8 => ("ShorthandRulesModel", "wasLength", "I", false)
  | 9 => ("ShorthandRulesModel", "wasCaret", "I", false)
  | 10 => ("ShorthandRulesModel", "wasStops", "I", false)
  | 11 => ("ShorthandRulesModel", "expansions", "I", false)
  | 12 => ("ShorthandRulesModel", "kept", "I", false)
  | 13 => ("ShorthandRulesModel", "last", "I", false)
  | 14 => ("ShorthandRulesModel", "saved", "J", false)
  | 15 => ("ShorthandRulesModel", "canUndo", "Z", false)
  | 16 => ("ShorthandRulesModel", "trigger", "[C", true)
  | 17 => ("ShorthandRulesModel", "kind", "[C", true)
  | 18 => ("ShorthandRulesModel", "text", "[C", true)
  | 19 => ("ShorthandRulesModel", "was", "[C", true)
  | 20 => ("ShorthandRulesModel", "out", "[C", true)
  | 21 => ("ShorthandRulesModel", "lengths", "[I", true)
  | 22 => ("ShorthandRulesModel", "parts", "[I", true)
  | 23 => ("ShorthandRulesModel", "one", "[I", true)
  | 24 => ("ShorthandRulesModel", "other", "[I", true)
  | 25 => ("ShorthandRulesModel", "stop", "[I", true)
  | 26 => ("ShorthandRulesModel", "wasStop", "[I", true)
  | 27 => ("ShorthandRulesModel", "outStop", "[I", true)
  | 28 => ("ShorthandRulesModel", "isForWords", "[Z", true)
  | 29 => ("ShorthandRulesModel", "isOff", "[Z", true)
  | _ => ("ShorthandRulesModel", "isSecond", "[Z", true)
def tyX8 : Nat → FieldType := fun k => match k with
  | 0 => .int
  | 1 => .int
  | 2 => .int
  | 3 => .int
  | 4 => .int
  | 5 => .int
  | 6 => .int
  | 7 => .int
  | 8 => .int
  | 9 => .int
  | 10 => .int
  | 11 => .int
  | 12 => .int
  | 13 => .int
  | 14 => .long
  | 15 => .boolean
  | 16 => .array .char
  | 17 => .array .char
  | 18 => .array .char
  | 19 => .array .char
  | 20 => .array .char
  | 21 => .array .int
  | 22 => .array .int
  | 23 => .array .int
  | 24 => .array .int
  | 25 => .array .int
  | 26 => .array .int
  | 27 => .array .int
  | 28 => .array .boolean
  | 29 => .array .boolean
  | _ => .array .boolean
abbrev wsX80 : List Cond := u_ws RX8 TX8 31
theorem nmX8 : ∀ a, a < 31 → ∀ b, b < 31 → a ≠ b → (TX8 a).2.1 ≠ (TX8 b).2.1 := by decide +kernel
theorem tyX8_ok : ∀ k, k < 31 → parseFieldDescriptor (TX8 k).2.2.1 = some (tyX8 k) := by decide +kernel
abbrev cX8_init : ByteArray := prog_10_method_1_code
def yX8_init : MethodName := ⟨RX8, "<init>", "()V"⟩
abbrev cX8_thrown : ByteArray := prog_10_method_2_code
def yX8_thrown : MethodName := ⟨RX8, "thrown", "()I"⟩
abbrev cX8_fail : ByteArray := prog_10_method_3_code
def yX8_fail : MethodName := ⟨RX8, "fail", "(I)I"⟩
abbrev cX8_isIn : ByteArray := prog_10_method_4_code
def yX8_isIn : MethodName := ⟨RX8, "isIn", "(III)Z"⟩
abbrev cX8_noSnippet : ByteArray := prog_10_method_5_code
def yX8_noSnippet : MethodName := ⟨RX8, "noSnippet", "(I)Z"⟩
abbrev cX8_isWord : ByteArray := prog_10_method_6_code
def yX8_isWord : MethodName := ⟨RX8, "isWord", "(C)Z"⟩
abbrev cX8_canType : ByteArray := prog_10_method_7_code
def yX8_canType : MethodName := ⟨RX8, "canType", "(C)Z"⟩
abbrev cX8_addSnippet : ByteArray := prog_10_method_8_code
def yX8_addSnippet : MethodName := ⟨RX8, "addSnippet", "(Z)I"⟩
abbrev cX8_addToTrigger : ByteArray := prog_10_method_9_code
def yX8_addToTrigger : MethodName := ⟨RX8, "addToTrigger", "(IC)I"⟩
abbrev cX8_clearTrigger : ByteArray := prog_10_method_10_code
def yX8_clearTrigger : MethodName := ⟨RX8, "clearTrigger", "(I)I"⟩
abbrev cX8_setOn : ByteArray := prog_10_method_11_code
def yX8_setOn : MethodName := ⟨RX8, "setOn", "(IZ)Z"⟩
abbrev cX8_size : ByteArray := prog_10_method_12_code
def yX8_size : MethodName := ⟨RX8, "size", "(I)I"⟩
abbrev cX8_puts : ByteArray := prog_10_method_13_code
def yX8_puts : MethodName := ⟨RX8, "puts", "(ICIII)I"⟩
abbrev cX8_putCharacter : ByteArray := prog_10_method_14_code
def yX8_putCharacter : MethodName := ⟨RX8, "putCharacter", "(IC)I"⟩
abbrev cX8_goesTo : ByteArray := prog_10_method_15_code
def yX8_goesTo : MethodName := ⟨RX8, "goesTo", "(II)Z"⟩
abbrev cX8_putSnippet : ByteArray := prog_10_method_16_code
def yX8_putSnippet : MethodName := ⟨RX8, "putSnippet", "(II)I"⟩
abbrev cX8_putChoice : ByteArray := prog_10_method_17_code
def yX8_putChoice : MethodName := ⟨RX8, "putChoice", "(III)I"⟩
abbrev cX8_putDate : ByteArray := prog_10_method_18_code
def yX8_putDate : MethodName := ⟨RX8, "putDate", "(IIC)I"⟩
abbrev cX8_putStop : ByteArray := prog_10_method_19_code
def yX8_putStop : MethodName := ⟨RX8, "putStop", "(I)I"⟩
abbrev cX8_clearBody : ByteArray := prog_10_method_20_code
def yX8_clearBody : MethodName := ⟨RX8, "clearBody", "(I)I"⟩
abbrev cX8_choose : ByteArray := prog_10_method_21_code
def yX8_choose : MethodName := ⟨RX8, "choose", "(IZ)Z"⟩
abbrev cX8_setToday : ByteArray := prog_10_method_22_code
def yX8_setToday : MethodName := ⟨RX8, "setToday", "(I)I"⟩
abbrev cX8_lay : ByteArray := prog_10_method_23_code
def yX8_lay : MethodName := ⟨RX8, "lay", "(C)V"⟩
abbrev cX8_layNumber : ByteArray := prog_10_method_24_code
def yX8_layNumber : MethodName := ⟨RX8, "layNumber", "(I)V"⟩
abbrev cX8_layDay : ByteArray := prog_10_method_25_code
def yX8_layDay : MethodName := ⟨RX8, "layDay", "(IC)V"⟩
abbrev cX8_layAll : ByteArray := prog_10_method_26_code
def yX8_layAll : MethodName := ⟨RX8, "layAll", "(I)V"⟩
abbrev cX8_gives : ByteArray := prog_10_method_27_code
def yX8_gives : MethodName := ⟨RX8, "gives", "(I)V"⟩
abbrev cX8_lengthOf : ByteArray := prog_10_method_28_code
def yX8_lengthOf : MethodName := ⟨RX8, "lengthOf", "(I)I"⟩
abbrev cX8_characterOf : ByteArray := prog_10_method_29_code
def yX8_characterOf : MethodName := ⟨RX8, "characterOf", "(II)C"⟩
abbrev cX8_stopsOf : ByteArray := prog_10_method_30_code
def yX8_stopsOf : MethodName := ⟨RX8, "stopsOf", "(I)I"⟩
abbrev cX8_stopOf : ByteArray := prog_10_method_31_code
def yX8_stopOf : MethodName := ⟨RX8, "stopOf", "(II)I"⟩
abbrev cX8_comesTo : ByteArray := prog_10_method_32_code
def yX8_comesTo : MethodName := ⟨RX8, "comesTo", "(II)Z"⟩
abbrev cX8_deep : ByteArray := prog_10_method_33_code
def yX8_deep : MethodName := ⟨RX8, "deep", "(I)I"⟩
abbrev cX8_depth : ByteArray := prog_10_method_34_code
def yX8_depth : MethodName := ⟨RX8, "depth", "(I)I"⟩
abbrev cX8_endsAt : ByteArray := prog_10_method_35_code
def yX8_endsAt : MethodName := ⟨RX8, "endsAt", "(III)Z"⟩
abbrev cX8_isUsed : ByteArray := prog_10_method_36_code
def yX8_isUsed : MethodName := ⟨RX8, "isUsed", "(I)Z"⟩
abbrev cX8_shadows : ByteArray := prog_10_method_37_code
def yX8_shadows : MethodName := ⟨RX8, "shadows", "(II)Z"⟩
abbrev cX8_isShadowedBy : ByteArray := prog_10_method_38_code
def yX8_isShadowedBy : MethodName := ⟨RX8, "isShadowedBy", "(II)Z"⟩
abbrev cX8_firstShadow : ByteArray := prog_10_method_39_code
def yX8_firstShadow : MethodName := ⟨RX8, "firstShadow", "(I)I"⟩
abbrev cX8_shadower : ByteArray := prog_10_method_40_code
def yX8_shadower : MethodName := ⟨RX8, "shadower", "(I)I"⟩
abbrev cX8_clashes : ByteArray := prog_10_method_41_code
def yX8_clashes : MethodName := ⟨RX8, "clashes", "()I"⟩
abbrev cX8_matches : ByteArray := prog_10_method_42_code
def yX8_matches : MethodName := ⟨RX8, "matches", "(I)Z"⟩
abbrev cX8_matching : ByteArray := prog_10_method_43_code
def yX8_matching : MethodName := ⟨RX8, "matching", "()I"⟩
abbrev cX8_matchingByLooking : ByteArray := prog_10_method_44_code
def yX8_matchingByLooking : MethodName := ⟨RX8, "matchingByLooking", "()I"⟩
abbrev cX8_insert : ByteArray := prog_10_method_45_code
def yX8_insert : MethodName := ⟨RX8, "insert", "(C)V"⟩
abbrev cX8_takeOut : ByteArray := prog_10_method_46_code
def yX8_takeOut : MethodName := ⟨RX8, "takeOut", "()V"⟩
abbrev cX8_keeps : ByteArray := prog_10_method_47_code
def yX8_keeps : MethodName := ⟨RX8, "keeps", "()V"⟩
abbrev cX8_expands : ByteArray := prog_10_method_48_code
def yX8_expands : MethodName := ⟨RX8, "expands", "(I)V"⟩
abbrev cX8_key : ByteArray := prog_10_method_49_code
def yX8_key : MethodName := ⟨RX8, "key", "(C)I"⟩
abbrev cX8_erase : ByteArray := prog_10_method_50_code
def yX8_erase : MethodName := ⟨RX8, "erase", "()C"⟩
abbrev cX8_moveCaret : ByteArray := prog_10_method_51_code
def yX8_moveCaret : MethodName := ⟨RX8, "moveCaret", "(I)I"⟩
abbrev cX8_nextStop : ByteArray := prog_10_method_52_code
def yX8_nextStop : MethodName := ⟨RX8, "nextStop", "()I"⟩
abbrev cX8_undo : ByteArray := prog_10_method_53_code
def yX8_undo : MethodName := ⟨RX8, "undo", "()I"⟩
abbrev cX8_length : ByteArray := prog_10_method_54_code
def yX8_length : MethodName := ⟨RX8, "length", "()I"⟩
abbrev cX8_characterAt : ByteArray := prog_10_method_55_code
def yX8_characterAt : MethodName := ⟨RX8, "characterAt", "(I)C"⟩
abbrev cX8_caret : ByteArray := prog_10_method_56_code
def yX8_caret : MethodName := ⟨RX8, "caret", "()I"⟩
abbrev cX8_stops : ByteArray := prog_10_method_57_code
def yX8_stops : MethodName := ⟨RX8, "stops", "()I"⟩
abbrev cX8_stopAt : ByteArray := prog_10_method_58_code
def yX8_stopAt : MethodName := ⟨RX8, "stopAt", "(I)I"⟩
abbrev cX8_saved : ByteArray := prog_10_method_59_code
def yX8_saved : MethodName := ⟨RX8, "saved", "()J"⟩
abbrev cX8_keptShare : ByteArray := prog_10_method_60_code
def yX8_keptShare : MethodName := ⟨RX8, "keptShare", "()F"⟩
def RJx145de : String := "java/io/Serializable"
def TJx145de : u_T := fun k => match k with
  | _ => ("", "", "", false)
def tyJx145de : Nat → FieldType := fun k => match k with
  | _ => .int
abbrev wsJx145de0 : List Cond := u_ws RJx145de TJx145de 0
theorem nmJx145de : ∀ a, a < 0 → ∀ b, b < 0 → a ≠ b → (TJx145de a).2.1 ≠ (TJx145de b).2.1 := by decide +kernel
theorem tyJx145de_ok : ∀ k, k < 0 → parseFieldDescriptor (TJx145de k).2.2.1 = some (tyJx145de k) := by decide +kernel
def RJx9f9b0 : String := "java/lang/CharSequence"
def TJx9f9b0 : u_T := fun k => match k with
  | _ => ("", "", "", false)
def tyJx9f9b0 : Nat → FieldType := fun k => match k with
  | _ => .int
abbrev wsJx9f9b00 : List Cond := u_ws RJx9f9b0 TJx9f9b0 0
theorem nmJx9f9b0 : ∀ a, a < 0 → ∀ b, b < 0 → a ≠ b → (TJx9f9b0 a).2.1 ≠ (TJx9f9b0 b).2.1 := by decide +kernel
theorem tyJx9f9b0_ok : ∀ k, k < 0 → parseFieldDescriptor (TJx9f9b0 k).2.2.1 = some (tyJx9f9b0 k) := by decide +kernel
def RJx8e188 : String := "java/lang/Cloneable"
def TJx8e188 : u_T := fun k => match k with
  | _ => ("", "", "", false)
def tyJx8e188 : Nat → FieldType := fun k => match k with
  | _ => .int
abbrev wsJx8e1880 : List Cond := u_ws RJx8e188 TJx8e188 0
theorem nmJx8e188 : ∀ a, a < 0 → ∀ b, b < 0 → a ≠ b → (TJx8e188 a).2.1 ≠ (TJx8e188 b).2.1 := by decide +kernel
theorem tyJx8e188_ok : ∀ k, k < 0 → parseFieldDescriptor (TJx8e188 k).2.2.1 = some (tyJx8e188 k) := by decide +kernel
def RJxb160c : String := "java/lang/Comparable"
def TJxb160c : u_T := fun k => match k with
  | _ => ("", "", "", false)
def tyJxb160c : Nat → FieldType := fun k => match k with
  | _ => .int
abbrev wsJxb160c0 : List Cond := u_ws RJxb160c TJxb160c 0
theorem nmJxb160c : ∀ a, a < 0 → ∀ b, b < 0 → a ≠ b → (TJxb160c a).2.1 ≠ (TJxb160c b).2.1 := by decide +kernel
theorem tyJxb160c_ok : ∀ k, k < 0 → parseFieldDescriptor (TJxb160c k).2.2.1 = some (tyJxb160c k) := by decide +kernel
def RJx29ce0 : String := "java/lang/Enum"
def TJx29ce0 : u_T := fun k => match k with
  | _ => ("", "", "", false)
def tyJx29ce0 : Nat → FieldType := fun k => match k with
  | _ => .int
abbrev wsJx29ce00 : List Cond := u_ws RJx29ce0 TJx29ce0 0
theorem nmJx29ce0 : ∀ a, a < 0 → ∀ b, b < 0 → a ≠ b → (TJx29ce0 a).2.1 ≠ (TJx29ce0 b).2.1 := by decide +kernel
theorem tyJx29ce0_ok : ∀ k, k < 0 → parseFieldDescriptor (TJx29ce0 k).2.2.1 = some (tyJx29ce0 k) := by decide +kernel
def RJxab1ab : String := "java/lang/Iterable"
def TJxab1ab : u_T := fun k => match k with
  | _ => ("", "", "", false)
def tyJxab1ab : Nat → FieldType := fun k => match k with
  | _ => .int
abbrev wsJxab1ab0 : List Cond := u_ws RJxab1ab TJxab1ab 0
theorem nmJxab1ab : ∀ a, a < 0 → ∀ b, b < 0 → a ≠ b → (TJxab1ab a).2.1 ≠ (TJxab1ab b).2.1 := by decide +kernel
theorem tyJxab1ab_ok : ∀ k, k < 0 → parseFieldDescriptor (TJxab1ab k).2.2.1 = some (tyJxab1ab k) := by decide +kernel
def RJ9 : String := "java/lang/Math"
def TJ9 : u_T := fun k => match k with
  | _ => ("", "", "", false)
def tyJ9 : Nat → FieldType := fun k => match k with
  | _ => .int
abbrev wsJ90 : List Cond := u_ws RJ9 TJ9 0
theorem nmJ9 : ∀ a, a < 0 → ∀ b, b < 0 → a ≠ b → (TJ9 a).2.1 ≠ (TJ9 b).2.1 := by decide +kernel
theorem tyJ9_ok : ∀ k, k < 0 → parseFieldDescriptor (TJ9 k).2.2.1 = some (tyJ9 k) := by decide +kernel
abbrev cJ9_floorMod_7cf53 : ByteArray := prog_21_method_50_code
def yJ9_floorMod_7cf53 : MethodName := ⟨RJ9, "floorMod", "(II)I"⟩
abbrev cJ9_max_7cf53 : ByteArray := prog_21_method_65_code
def yJ9_max_7cf53 : MethodName := ⟨RJ9, "max", "(II)I"⟩
abbrev cJ9_min_7cf53 : ByteArray := prog_21_method_69_code
def yJ9_min_7cf53 : MethodName := ⟨RJ9, "min", "(II)I"⟩
def RJ0 : String := "java/lang/String"
def TJ0 : u_T := fun k => match k with
  | _ => ("", "", "", false)
def tyJ0 : Nat → FieldType := fun k => match k with
  | _ => .int
abbrev wsJ00 : List Cond := u_ws RJ0 TJ0 0
theorem nmJ0 : ∀ a, a < 0 → ∀ b, b < 0 → a ≠ b → (TJ0 a).2.1 ≠ (TJ0 b).2.1 := by decide +kernel
theorem tyJ0_ok : ∀ k, k < 0 → parseFieldDescriptor (TJ0 k).2.2.1 = some (tyJ0 k) := by decide +kernel
abbrev cJ0_length_8abf5 : ByteArray := prog_23_method_54_code
def yJ0_length_8abf5 : MethodName := ⟨RJ0, "length", "()I"⟩
abbrev cJ0_charAt_5068e : ByteArray := prog_23_method_56_code
def yJ0_charAt_5068e : MethodName := ⟨RJ0, "charAt", "(I)C"⟩
abbrev cJ0_coder_7d493 : ByteArray := prog_23_method_152_code
def yJ0_coder_7d493 : MethodName := ⟨RJ0, "coder", "()B"⟩
abbrev cJ0_isLatin1_aae02 : ByteArray := prog_23_method_154_code
def yJ0_isLatin1_aae02 : MethodName := ⟨RJ0, "isLatin1", "()Z"⟩
abbrev cJ0_checkIndex_df160 : ByteArray := prog_23_method_155_code
def yJ0_checkIndex_df160 : MethodName := ⟨RJ0, "checkIndex", "(II)V"⟩
def RJ1 : String := "java/lang/StringLatin1"
def TJ1 : u_T := fun k => match k with
  | _ => ("", "", "", false)
def tyJ1 : Nat → FieldType := fun k => match k with
  | _ => .int
abbrev wsJ10 : List Cond := u_ws RJ1 TJ1 0
theorem nmJ1 : ∀ a, a < 0 → ∀ b, b < 0 → a ≠ b → (TJ1 a).2.1 ≠ (TJ1 b).2.1 := by decide +kernel
theorem tyJ1_ok : ∀ k, k < 0 → parseFieldDescriptor (TJ1 k).2.2.1 = some (tyJ1 k) := by decide +kernel
abbrev cJ1_charAt_3b067 : ByteArray := prog_24_method_2_code
def yJ1_charAt_3b067 : MethodName := ⟨RJ1, "charAt", "([BI)C"⟩
def RJ2 : String := "java/lang/StringUTF16"
def TJ2 : u_T := fun k => match k with
  | _ => ("", "", "", false)
def tyJ2 : Nat → FieldType := fun k => match k with
  | _ => .int
abbrev wsJ20 : List Cond := u_ws RJ2 TJ2 0
theorem nmJ2 : ∀ a, a < 0 → ∀ b, b < 0 → a ≠ b → (TJ2 a).2.1 ≠ (TJ2 b).2.1 := by decide +kernel
theorem tyJ2_ok : ∀ k, k < 0 → parseFieldDescriptor (TJ2 k).2.2.1 = some (tyJ2 k) := by decide +kernel
abbrev cJ2_getChar_3b067 : ByteArray := prog_25_method_5_code
def yJ2_getChar_3b067 : MethodName := ⟨RJ2, "getChar", "([BI)C"⟩
abbrev cJ2_length_9d52b : ByteArray := prog_25_method_6_code
def yJ2_length_9d52b : MethodName := ⟨RJ2, "length", "([B)I"⟩
abbrev cJ2_charAt_3b067 : ByteArray := prog_25_method_83_code
def yJ2_charAt_3b067 : MethodName := ⟨RJ2, "charAt", "([BI)C"⟩
abbrev cJ2_checkIndex_2214a : ByteArray := prog_25_method_91_code
def yJ2_checkIndex_2214a : MethodName := ⟨RJ2, "checkIndex", "(I[B)V"⟩
def RJ10 : String := "java/lang/System"
def TJ10 : u_T := fun k => match k with
  | _ => ("", "", "", false)
def tyJ10 : Nat → FieldType := fun k => match k with
  | _ => .int
abbrev wsJ100 : List Cond := u_ws RJ10 TJ10 0
theorem nmJ10 : ∀ a, a < 0 → ∀ b, b < 0 → a ≠ b → (TJ10 a).2.1 ≠ (TJ10 b).2.1 := by decide +kernel
theorem tyJ10_ok : ∀ k, k < 0 → parseFieldDescriptor (TJ10 k).2.2.1 = some (tyJ10 k) := by decide +kernel
def RJxfd54e : String := "java/lang/constant/Constable"
def TJxfd54e : u_T := fun k => match k with
  | _ => ("", "", "", false)
def tyJxfd54e : Nat → FieldType := fun k => match k with
  | _ => .int
abbrev wsJxfd54e0 : List Cond := u_ws RJxfd54e TJxfd54e 0
theorem nmJxfd54e : ∀ a, a < 0 → ∀ b, b < 0 → a ≠ b → (TJxfd54e a).2.1 ≠ (TJxfd54e b).2.1 := by decide +kernel
theorem tyJxfd54e_ok : ∀ k, k < 0 → parseFieldDescriptor (TJxfd54e k).2.2.1 = some (tyJxfd54e k) := by decide +kernel
def RJx3cf43 : String := "java/lang/constant/ConstantDesc"
def TJx3cf43 : u_T := fun k => match k with
  | _ => ("", "", "", false)
def tyJx3cf43 : Nat → FieldType := fun k => match k with
  | _ => .int
abbrev wsJx3cf430 : List Cond := u_ws RJx3cf43 TJx3cf43 0
theorem nmJx3cf43 : ∀ a, a < 0 → ∀ b, b < 0 → a ≠ b → (TJx3cf43 a).2.1 ≠ (TJx3cf43 b).2.1 := by decide +kernel
theorem tyJx3cf43_ok : ∀ k, k < 0 → parseFieldDescriptor (TJx3cf43 k).2.2.1 = some (tyJx3cf43 k) := by decide +kernel
def RJxa1e45 : String := "java/util/AbstractCollection"
def TJxa1e45 : u_T := fun k => match k with
  | _ => ("", "", "", false)
def tyJxa1e45 : Nat → FieldType := fun k => match k with
  | _ => .int
abbrev wsJxa1e450 : List Cond := u_ws RJxa1e45 TJxa1e45 0
theorem nmJxa1e45 : ∀ a, a < 0 → ∀ b, b < 0 → a ≠ b → (TJxa1e45 a).2.1 ≠ (TJxa1e45 b).2.1 := by decide +kernel
theorem tyJxa1e45_ok : ∀ k, k < 0 → parseFieldDescriptor (TJxa1e45 k).2.2.1 = some (tyJxa1e45 k) := by decide +kernel
abbrev cJxa1e45_init_da8c8 : ByteArray := prog_31_method_1_code
def yJxa1e45_init_da8c8 : MethodName := ⟨RJxa1e45, "<init>", "()V"⟩
def RJxc12de : String := "java/util/AbstractList"
def TJxc12de : u_T := fun k => match k with
  | _ => ("", "", "", false)
def tyJxc12de : Nat → FieldType := fun k => match k with
  | _ => .int
abbrev wsJxc12de0 : List Cond := u_ws RJxc12de TJxc12de 0
theorem nmJxc12de : ∀ a, a < 0 → ∀ b, b < 0 → a ≠ b → (TJxc12de a).2.1 ≠ (TJxc12de b).2.1 := by decide +kernel
theorem tyJxc12de_ok : ∀ k, k < 0 → parseFieldDescriptor (TJxc12de k).2.2.1 = some (tyJxc12de k) := by decide +kernel
abbrev cJxc12de_init_da8c8 : ByteArray := prog_32_method_1_code
def yJxc12de_init_da8c8 : MethodName := ⟨RJxc12de, "<init>", "()V"⟩
def RJx4a65c : String := "java/util/ArrayList"
def TJx4a65c : u_T := fun k => match k with
  | 0 => ("java/util/AbstractList", "modCount", "I", false)
  | 1 => ("java/util/ArrayList", "elementData", "[Ljava/lang/Object;", false)
  | _ => ("java/util/ArrayList", "size", "I", false)
def tyJx4a65c : Nat → FieldType := fun k => match k with
  | 0 => .int
  | 1 => .array (.object "java/lang/Object")
  | _ => .int
abbrev wsJx4a65c0 : List Cond := u_ws RJx4a65c TJx4a65c 3
theorem nmJx4a65c : ∀ a, a < 3 → ∀ b, b < 3 → a ≠ b → (TJx4a65c a).2.1 ≠ (TJx4a65c b).2.1 := by decide +kernel
theorem tyJx4a65c_ok : ∀ k, k < 3 → parseFieldDescriptor (TJx4a65c k).2.2.1 = some (tyJx4a65c k) := by decide +kernel
abbrev cJx4a65c_init_da8c8 : ByteArray := prog_33_method_2_code
def yJx4a65c_init_da8c8 : MethodName := ⟨RJx4a65c, "<init>", "()V"⟩
abbrev cJx4a65c_grow_92f84 : ByteArray := prog_33_method_6_code
def yJx4a65c_grow_92f84 : MethodName := ⟨RJx4a65c, "grow", "(I)[Ljava/lang/Object;"⟩
abbrev cJx4a65c_grow_d5877 : ByteArray := prog_33_method_7_code
def yJx4a65c_grow_d5877 : MethodName := ⟨RJx4a65c, "grow", "()[Ljava/lang/Object;"⟩
abbrev cJx4a65c_size_8abf5 : ByteArray := prog_33_method_8_code
def yJx4a65c_size_8abf5 : MethodName := ⟨RJx4a65c, "size", "()I"⟩
abbrev cJx4a65c_isEmpty_aae02 : ByteArray := prog_33_method_9_code
def yJx4a65c_isEmpty_aae02 : MethodName := ⟨RJx4a65c, "isEmpty", "()Z"⟩
abbrev cJx4a65c_elementData_915e3 : ByteArray := prog_33_method_18_code
def yJx4a65c_elementData_915e3 : MethodName := ⟨RJx4a65c, "elementData", "(I)Ljava/lang/Object;"⟩
abbrev cJx4a65c_get_915e3 : ByteArray := prog_33_method_20_code
def yJx4a65c_get_915e3 : MethodName := ⟨RJx4a65c, "get", "(I)Ljava/lang/Object;"⟩
abbrev cJx4a65c_add_72be8 : ByteArray := prog_33_method_24_code
def yJx4a65c_add_72be8 : MethodName := ⟨RJx4a65c, "add", "(Ljava/lang/Object;[Ljava/lang/Object;I)V"⟩
abbrev cJx4a65c_add_9ea2d : ByteArray := prog_33_method_25_code
def yJx4a65c_add_9ea2d : MethodName := ⟨RJx4a65c, "add", "(Ljava/lang/Object;)Z"⟩
abbrev cJx4a65c_remove_915e3 : ByteArray := prog_33_method_29_code
def yJx4a65c_remove_915e3 : MethodName := ⟨RJx4a65c, "remove", "(I)Ljava/lang/Object;"⟩
abbrev cJx4a65c_fastRemove_b59b0 : ByteArray := prog_33_method_39_code
def yJx4a65c_fastRemove_b59b0 : MethodName := ⟨RJx4a65c, "fastRemove", "([Ljava/lang/Object;I)V"⟩
abbrev cJx4a65c_clear_da8c8 : ByteArray := prog_33_method_40_code
def yJx4a65c_clear_da8c8 : MethodName := ⟨RJx4a65c, "clear", "()V"⟩
def RJ7 : String := "java/util/Arrays"
def TJ7 : u_T := fun k => match k with
  | _ => ("", "", "", false)
def tyJ7 : Nat → FieldType := fun k => match k with
  | _ => .int
abbrev wsJ70 : List Cond := u_ws RJ7 TJ7 0
theorem nmJ7 : ∀ a, a < 0 → ∀ b, b < 0 → a ≠ b → (TJ7 a).2.1 ≠ (TJ7 b).2.1 := by decide +kernel
theorem tyJ7_ok : ∀ k, k < 0 → parseFieldDescriptor (TJ7 k).2.2.1 = some (tyJ7 k) := by decide +kernel
abbrev cJ7_copyOf_1904c : ByteArray := prog_34_method_119_code
def yJ7_copyOf_1904c : MethodName := ⟨RJ7, "copyOf", "([Ljava/lang/Object;I)[Ljava/lang/Object;"⟩
abbrev cJ7_copyOf_6403c : ByteArray := prog_34_method_120_code
def yJ7_copyOf_6403c : MethodName := ⟨RJ7, "copyOf", "([Ljava/lang/Object;ILjava/lang/Class;)[Ljava/lang/Object;"⟩
def RJx5ef63 : String := "java/util/Collection"
def TJx5ef63 : u_T := fun k => match k with
  | _ => ("", "", "", false)
def tyJx5ef63 : Nat → FieldType := fun k => match k with
  | _ => .int
abbrev wsJx5ef630 : List Cond := u_ws RJx5ef63 TJx5ef63 0
theorem nmJx5ef63 : ∀ a, a < 0 → ∀ b, b < 0 → a ≠ b → (TJx5ef63 a).2.1 ≠ (TJx5ef63 b).2.1 := by decide +kernel
theorem tyJx5ef63_ok : ∀ k, k < 0 → parseFieldDescriptor (TJx5ef63 k).2.2.1 = some (tyJx5ef63 k) := by decide +kernel
def RJxbd725 : String := "java/util/List"
def TJxbd725 : u_T := fun k => match k with
  | _ => ("", "", "", false)
def tyJxbd725 : Nat → FieldType := fun k => match k with
  | _ => .int
abbrev wsJxbd7250 : List Cond := u_ws RJxbd725 TJxbd725 0
theorem nmJxbd725 : ∀ a, a < 0 → ∀ b, b < 0 → a ≠ b → (TJxbd725 a).2.1 ≠ (TJxbd725 b).2.1 := by decide +kernel
theorem tyJxbd725_ok : ∀ k, k < 0 → parseFieldDescriptor (TJxbd725 k).2.2.1 = some (tyJxbd725 k) := by decide +kernel
def RJ15 : String := "java/util/Objects"
def TJ15 : u_T := fun k => match k with
  | _ => ("", "", "", false)
def tyJ15 : Nat → FieldType := fun k => match k with
  | _ => .int
abbrev wsJ150 : List Cond := u_ws RJ15 TJ15 0
theorem nmJ15 : ∀ a, a < 0 → ∀ b, b < 0 → a ≠ b → (TJ15 a).2.1 ≠ (TJ15 b).2.1 := by decide +kernel
theorem tyJ15_ok : ∀ k, k < 0 → parseFieldDescriptor (TJ15 k).2.2.1 = some (tyJ15 k) := by decide +kernel
abbrev cJ15_checkIndex_7cf53 : ByteArray := prog_38_method_17_code
def yJ15_checkIndex_7cf53 : MethodName := ⟨RJ15, "checkIndex", "(II)I"⟩
def RJxf0a74 : String := "java/util/RandomAccess"
def TJxf0a74 : u_T := fun k => match k with
  | _ => ("", "", "", false)
def tyJxf0a74 : Nat → FieldType := fun k => match k with
  | _ => .int
abbrev wsJxf0a740 : List Cond := u_ws RJxf0a74 TJxf0a74 0
theorem nmJxf0a74 : ∀ a, a < 0 → ∀ b, b < 0 → a ≠ b → (TJxf0a74 a).2.1 ≠ (TJxf0a74 b).2.1 := by decide +kernel
theorem tyJxf0a74_ok : ∀ k, k < 0 → parseFieldDescriptor (TJxf0a74 k).2.2.1 = some (tyJxf0a74 k) := by decide +kernel
def RJxa66e6 : String := "java/util/SequencedCollection"
def TJxa66e6 : u_T := fun k => match k with
  | _ => ("", "", "", false)
def tyJxa66e6 : Nat → FieldType := fun k => match k with
  | _ => .int
abbrev wsJxa66e60 : List Cond := u_ws RJxa66e6 TJxa66e6 0
theorem nmJxa66e6 : ∀ a, a < 0 → ∀ b, b < 0 → a ≠ b → (TJxa66e6 a).2.1 ≠ (TJxa66e6 b).2.1 := by decide +kernel
theorem tyJxa66e6_ok : ∀ k, k < 0 → parseFieldDescriptor (TJxa66e6 k).2.2.1 = some (tyJxa66e6 k) := by decide +kernel
def RJ8 : String := "jdk/internal/util/ArraysSupport"
def TJ8 : u_T := fun k => match k with
  | _ => ("", "", "", false)
def tyJ8 : Nat → FieldType := fun k => match k with
  | _ => .int
abbrev wsJ80 : List Cond := u_ws RJ8 TJ8 0
theorem nmJ8 : ∀ a, a < 0 → ∀ b, b < 0 → a ≠ b → (TJ8 a).2.1 ≠ (TJ8 b).2.1 := by decide +kernel
theorem tyJ8_ok : ∀ k, k < 0 → parseFieldDescriptor (TJ8 k).2.2.1 = some (tyJ8 k) := by decide +kernel
abbrev cJ8_newLength_cabcc : ByteArray := prog_41_method_27_code
def yJ8_newLength_cabcc : MethodName := ⟨RJ8, "newLength", "(III)I"⟩
abbrev cJ8_hugeLength_7cf53 : ByteArray := prog_41_method_28_code
def yJ8_hugeLength_7cf53 : MethodName := ⟨RJ8, "hugeLength", "(II)I"⟩
def RJ3 : String := "jdk/internal/util/Preconditions"
def TJ3 : u_T := fun k => match k with
  | _ => ("", "", "", false)
def tyJ3 : Nat → FieldType := fun k => match k with
  | _ => .int
abbrev wsJ30 : List Cond := u_ws RJ3 TJ3 0
theorem nmJ3 : ∀ a, a < 0 → ∀ b, b < 0 → a ≠ b → (TJ3 a).2.1 ≠ (TJ3 b).2.1 := by decide +kernel
theorem tyJ3_ok : ∀ k, k < 0 → parseFieldDescriptor (TJ3 k).2.2.1 = some (tyJ3 k) := by decide +kernel
abbrev cJ3_checkIndex_8e157 : ByteArray := prog_42_method_11_code
def yJ3_checkIndex_8e157 : MethodName := ⟨RJ3, "checkIndex", "(IILjava/util/function/BiFunction;)I"⟩
def RL : String := "ShorthandRulesLaw"
abbrev cL_addSnippet : ByteArray := method_3_code
def yL_addSnippet : MethodName := ⟨RL, "addSnippet", "(LShorthandRules;Z[J)I"⟩
abbrev cL_addToTrigger : ByteArray := method_4_code
def yL_addToTrigger : MethodName := ⟨RL, "addToTrigger", "(LShorthandRules;IC[J)I"⟩
abbrev cL_clearTrigger : ByteArray := method_5_code
def yL_clearTrigger : MethodName := ⟨RL, "clearTrigger", "(LShorthandRules;I[J)I"⟩
abbrev cL_setOn : ByteArray := method_6_code
def yL_setOn : MethodName := ⟨RL, "setOn", "(LShorthandRules;IZ[J)I"⟩
abbrev cL_putCharacter : ByteArray := method_7_code
def yL_putCharacter : MethodName := ⟨RL, "putCharacter", "(LShorthandRules;IC[J)I"⟩
abbrev cL_putSnippet : ByteArray := method_8_code
def yL_putSnippet : MethodName := ⟨RL, "putSnippet", "(LShorthandRules;II[J)I"⟩
abbrev cL_putChoice : ByteArray := method_9_code
def yL_putChoice : MethodName := ⟨RL, "putChoice", "(LShorthandRules;III[J)I"⟩
abbrev cL_putDate : ByteArray := method_10_code
def yL_putDate : MethodName := ⟨RL, "putDate", "(LShorthandRules;IIC[J)I"⟩
abbrev cL_putStop : ByteArray := method_11_code
def yL_putStop : MethodName := ⟨RL, "putStop", "(LShorthandRules;I[J)I"⟩
abbrev cL_clearBody : ByteArray := method_12_code
def yL_clearBody : MethodName := ⟨RL, "clearBody", "(LShorthandRules;I[J)I"⟩
abbrev cL_choose : ByteArray := method_13_code
def yL_choose : MethodName := ⟨RL, "choose", "(LShorthandRules;IZ[J)I"⟩
abbrev cL_setToday : ByteArray := method_14_code
def yL_setToday : MethodName := ⟨RL, "setToday", "(LShorthandRules;I[J)I"⟩
abbrev cL_lengthOf : ByteArray := method_15_code
def yL_lengthOf : MethodName := ⟨RL, "lengthOf", "(LShorthandRules;I[J)I"⟩
abbrev cL_characterOf : ByteArray := method_16_code
def yL_characterOf : MethodName := ⟨RL, "characterOf", "(LShorthandRules;II[J)I"⟩
abbrev cL_stopsOf : ByteArray := method_17_code
def yL_stopsOf : MethodName := ⟨RL, "stopsOf", "(LShorthandRules;I[J)I"⟩
abbrev cL_stopOf : ByteArray := method_18_code
def yL_stopOf : MethodName := ⟨RL, "stopOf", "(LShorthandRules;II[J)I"⟩
abbrev cL_comesTo : ByteArray := method_19_code
def yL_comesTo : MethodName := ⟨RL, "comesTo", "(LShorthandRules;II[J)I"⟩
abbrev cL_depth : ByteArray := method_20_code
def yL_depth : MethodName := ⟨RL, "depth", "(LShorthandRules;I[J)I"⟩
abbrev cL_isShadowedBy : ByteArray := method_21_code
def yL_isShadowedBy : MethodName := ⟨RL, "isShadowedBy", "(LShorthandRules;II[J)I"⟩
abbrev cL_shadower : ByteArray := method_22_code
def yL_shadower : MethodName := ⟨RL, "shadower", "(LShorthandRules;I[J)I"⟩
abbrev cL_key : ByteArray := method_23_code
def yL_key : MethodName := ⟨RL, "key", "(LShorthandRules;C[J)I"⟩
abbrev cL_erase : ByteArray := method_24_code
def yL_erase : MethodName := ⟨RL, "erase", "(LShorthandRules;[J)I"⟩
abbrev cL_moveCaret : ByteArray := method_25_code
def yL_moveCaret : MethodName := ⟨RL, "moveCaret", "(LShorthandRules;I[J)I"⟩
abbrev cL_nextStop : ByteArray := method_26_code
def yL_nextStop : MethodName := ⟨RL, "nextStop", "(LShorthandRules;[J)I"⟩
abbrev cL_undo : ByteArray := method_27_code
def yL_undo : MethodName := ⟨RL, "undo", "(LShorthandRules;[J)I"⟩
abbrev cL_characterAt : ByteArray := method_28_code
def yL_characterAt : MethodName := ⟨RL, "characterAt", "(LShorthandRules;I[J)I"⟩
abbrev cL_stopAt : ByteArray := method_29_code
def yL_stopAt : MethodName := ⟨RL, "stopAt", "(LShorthandRules;I[J)I"⟩
abbrev cL_keptShare : ByteArray := method_30_code
def yL_keptShare : MethodName := ⟨RL, "keptShare", "(LShorthandRules;[D)I"⟩
abbrev cL_law : ByteArray := code
def yL_law : MethodName := ⟨RL, "law", "([I)Z"⟩
