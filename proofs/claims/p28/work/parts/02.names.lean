/-! ===== BEGIN printed: names, fields, word lists, decode rows ===== -/
def RX0 : String := "Wallcode$Hand"
def TX0 : u_T := fun k => match k with
  | 0 => ("Wallcode$Hand", "number", "I", true)
  | 1 => ("Wallcode$Hand", "crew", "I", true)
  | 2 => ("Wallcode$Hand", "speed", "I", true)
  | 3 => ("Wallcode$Hand", "slant", "I", true)
  | 4 => ("Wallcode$Hand", "round", "I", true)
  | 5 => ("Wallcode$Hand", "wrongsTo", "[I", true)
  | 6 => ("Wallcode$Hand", "minutesUsed", "I", false)
  | 7 => ("Wallcode$Hand", "fines", "I", false)
  | 8 => ("Wallcode$Hand", "known", "Z", false)
  | 9 => ("Wallcode$Hand", "timesCaught", "I", false)
  | _ => ("Wallcode$Hand", "owed", "I", false)
def tyX0 : Nat → FieldType := fun k => match k with
  | 0 => .int
  | 1 => .int
  | 2 => .int
  | 3 => .int
  | 4 => .int
  | 5 => .array .int
  | 6 => .int
  | 7 => .int
  | 8 => .boolean
  | 9 => .int
  | _ => .int
abbrev wsX00 : List Cond := u_ws RX0 TX0 11
theorem nmX0 : ∀ a, a < 11 → ∀ b, b < 11 → a ≠ b → (TX0 a).2.1 ≠ (TX0 b).2.1 := by decide +kernel
theorem tyX0_ok : ∀ k, k < 11 → parseFieldDescriptor (TX0 k).2.2.1 = some (tyX0 k) := by decide +kernel
abbrev cX0_init : ByteArray := prog_2_method_1_code
def yX0_init : MethodName := ⟨RX0, "<init>", "(IIIII)V"⟩
abbrev cX0_minutesOfCell : ByteArray := prog_2_method_2_code
def yX0_minutesOfCell : MethodName := ⟨RX0, "minutesOfCell", "(I)I"⟩
abbrev cX0_minutesLeft : ByteArray := prog_2_method_3_code
def yX0_minutesLeft : MethodName := ⟨RX0, "minutesLeft", "()I"⟩
abbrev cX0_beCaught : ByteArray := prog_2_method_4_code
def yX0_beCaught : MethodName := ⟨RX0, "beCaught", "(I)V"⟩
abbrev cX0_wrongsDone : ByteArray := prog_2_method_5_code
def yX0_wrongsDone : MethodName := ⟨RX0, "wrongsDone", "()I"⟩
def RX1 : String := "Wallcode$Layer"
def TX1 : u_T := fun k => match k with
  | 0 => ("Wallcode$Layer", "number", "I", true)
  | 1 => ("Wallcode$Layer", "hand", "LWallcode$Hand;", true)
  | 2 => ("Wallcode$Layer", "wall", "LWallcode$Wall;", true)
  | 3 => ("Wallcode$Layer", "from", "I", true)
  | 4 => ("Wallcode$Layer", "wide", "I", true)
  | 5 => ("Wallcode$Layer", "kind", "I", true)
  | 6 => ("Wallcode$Layer", "wobble", "I", true)
  | 7 => ("Wallcode$Layer", "night", "I", false)
  | 8 => ("Wallcode$Layer", "legal", "Z", false)
  | 9 => ("Wallcode$Layer", "waived", "Z", false)
  | _ => ("Wallcode$Layer", "memorial", "Z", false)
def tyX1 : Nat → FieldType := fun k => match k with
  | 0 => .int
  | 1 => .object "Wallcode$Hand"
  | 2 => .object "Wallcode$Wall"
  | 3 => .int
  | 4 => .int
  | 5 => .int
  | 6 => .int
  | 7 => .int
  | 8 => .boolean
  | 9 => .boolean
  | _ => .boolean
abbrev wsX10 : List Cond := u_ws RX1 TX1 11
theorem nmX1 : ∀ a, a < 11 → ∀ b, b < 11 → a ≠ b → (TX1 a).2.1 ≠ (TX1 b).2.1 := by decide +kernel
theorem tyX1_ok : ∀ k, k < 11 → parseFieldDescriptor (TX1 k).2.2.1 = some (tyX1 k) := by decide +kernel
abbrev cX1_init : ByteArray := prog_3_method_1_code
def yX1_init : MethodName := ⟨RX1, "<init>", "(ILWallcode$Hand;LWallcode$Wall;IIII)V"⟩
abbrev cX1_weight : ByteArray := prog_3_method_2_code
def yX1_weight : MethodName := ⟨RX1, "weight", "()I"⟩
abbrev cX1_cellsSeen : ByteArray := prog_3_method_3_code
def yX1_cellsSeen : MethodName := ⟨RX1, "cellsSeen", "()I"⟩
abbrev cX1_isSeen : ByteArray := prog_3_method_4_code
def yX1_isSeen : MethodName := ⟨RX1, "isSeen", "()Z"⟩
abbrev cX1_hasRights : ByteArray := prog_3_method_5_code
def yX1_hasRights : MethodName := ⟨RX1, "hasRights", "()Z"⟩
abbrev cX1_slantShown : ByteArray := prog_3_method_6_code
def yX1_slantShown : MethodName := ⟨RX1, "slantShown", "()I"⟩
abbrev cX1_roundShown : ByteArray := prog_3_method_7_code
def yX1_roundShown : MethodName := ⟨RX1, "roundShown", "()I"⟩
def RX2 : String := "Wallcode$Wall"
def TX2 : u_T := fun k => match k with
  | 0 => ("Wallcode$Wall", "number", "I", true)
  | 1 => ("Wallcode$Wall", "width", "I", true)
  | 2 => ("Wallcode$Wall", "sight", "I", true)
  | 3 => ("Wallcode$Wall", "owner", "I", true)
  | 4 => ("Wallcode$Wall", "cleaning", "I", true)
  | 5 => ("Wallcode$Wall", "shown", "[LWallcode$Layer;", true)
  | 6 => ("Wallcode$Wall", "permitCrew", "I", false)
  | 7 => ("Wallcode$Wall", "permitUpTo", "I", false)
  | 8 => ("Wallcode$Wall", "watchFrom", "I", false)
  | _ => ("Wallcode$Wall", "watchTo", "I", false)
def tyX2 : Nat → FieldType := fun k => match k with
  | 0 => .int
  | 1 => .int
  | 2 => .int
  | 3 => .int
  | 4 => .int
  | 5 => .array (.object "Wallcode$Layer")
  | 6 => .int
  | 7 => .int
  | 8 => .int
  | _ => .int
abbrev wsX20 : List Cond := u_ws RX2 TX2 10
theorem nmX2 : ∀ a, a < 10 → ∀ b, b < 10 → a ≠ b → (TX2 a).2.1 ≠ (TX2 b).2.1 := by decide +kernel
theorem tyX2_ok : ∀ k, k < 10 → parseFieldDescriptor (TX2 k).2.2.1 = some (tyX2 k) := by decide +kernel
abbrev cX2_init : ByteArray := prog_4_method_1_code
def yX2_init : MethodName := ⟨RX2, "<init>", "(IIIII)V"⟩
abbrev cX2_hasCells : ByteArray := prog_4_method_2_code
def yX2_hasCells : MethodName := ⟨RX2, "hasCells", "(II)Z"⟩
abbrev cX2_permittedCrew : ByteArray := prog_4_method_3_code
def yX2_permittedCrew : MethodName := ⟨RX2, "permittedCrew", "(I)I"⟩
abbrev cX2_isWatchedWithin : ByteArray := prog_4_method_4_code
def yX2_isWatchedWithin : MethodName := ⟨RX2, "isWatchedWithin", "(II)Z"⟩
abbrev cX2_isCleanedIn : ByteArray := prog_4_method_5_code
def yX2_isCleanedIn : MethodName := ⟨RX2, "isCleanedIn", "(I)Z"⟩
abbrev cX2_showsWithin : ByteArray := prog_4_method_6_code
def yX2_showsWithin : MethodName := ⟨RX2, "showsWithin", "(LWallcode$Layer;II)Z"⟩
abbrev cX2_cellsShowing : ByteArray := prog_4_method_7_code
def yX2_cellsShowing : MethodName := ⟨RX2, "cellsShowing", "(LWallcode$Layer;)I"⟩
abbrev cX2_paintedCells : ByteArray := prog_4_method_8_code
def yX2_paintedCells : MethodName := ⟨RX2, "paintedCells", "()I"⟩
abbrev cX2_fameOf : ByteArray := prog_4_method_9_code
def yX2_fameOf : MethodName := ⟨RX2, "fameOf", "(LWallcode$Hand;)I"⟩
abbrev cX2_fameAt : ByteArray := prog_4_method_10_code
def yX2_fameAt : MethodName := ⟨RX2, "fameAt", "(ILWallcode$Hand;)I"⟩
abbrev cX2_cover : ByteArray := prog_4_method_11_code
def yX2_cover : MethodName := ⟨RX2, "cover", "(LWallcode$Layer;)V"⟩
abbrev cX2_cutOut : ByteArray := prog_4_method_12_code
def yX2_cutOut : MethodName := ⟨RX2, "cutOut", "(LWallcode$Layer;)V"⟩
abbrev cX2_bareAll : ByteArray := prog_4_method_13_code
def yX2_bareAll : MethodName := ⟨RX2, "bareAll", "()V"⟩
def RX3 : String := "Wallcode"
def TX3 : u_T := fun k => match k with
  | 0 => ("Wallcode", "walls", "Ljava/util/ArrayList;", true)
  | 1 => ("Wallcode", "hands", "Ljava/util/ArrayList;", true)
  | 2 => ("Wallcode", "layers", "Ljava/util/ArrayList;", true)
  | 3 => ("Wallcode", "tonight", "I", false)
  | 4 => ("Wallcode", "coins", "I", false)
  | _ => ("Wallcode", "soldFor", "I", false)
def tyX3 : Nat → FieldType := fun k => match k with
  | 0 => .object "java/util/ArrayList"
  | 1 => .object "java/util/ArrayList"
  | 2 => .object "java/util/ArrayList"
  | 3 => .int
  | 4 => .int
  | _ => .int
abbrev wsX30 : List Cond := u_ws RX3 TX3 6
theorem nmX3 : ∀ a, a < 6 → ∀ b, b < 6 → a ≠ b → (TX3 a).2.1 ≠ (TX3 b).2.1 := by decide +kernel
theorem tyX3_ok : ∀ k, k < 6 → parseFieldDescriptor (TX3 k).2.2.1 = some (tyX3 k) := by decide +kernel
abbrev cX3_init : ByteArray := prog_1_method_1_code
def yX3_init : MethodName := ⟨RX3, "<init>", "()V"⟩
abbrev cX3_wall : ByteArray := prog_1_method_2_code
def yX3_wall : MethodName := ⟨RX3, "wall", "(IIII)I"⟩
abbrev cX3_hand : ByteArray := prog_1_method_3_code
def yX3_hand : MethodName := ⟨RX3, "hand", "(IIII)I"⟩
abbrev cX3_permit : ByteArray := prog_1_method_4_code
def yX3_permit : MethodName := ⟨RX3, "permit", "(III)I"⟩
abbrev cX3_watch : ByteArray := prog_1_method_5_code
def yX3_watch : MethodName := ⟨RX3, "watch", "(III)I"⟩
abbrev cX3_paint : ByteArray := prog_1_method_6_code
def yX3_paint : MethodName := ⟨RX3, "paint", "(IIIIII)I"⟩
abbrev cX3_buff : ByteArray := prog_1_method_7_code
def yX3_buff : MethodName := ⟨RX3, "buff", "(I)I"⟩
abbrev cX3_clear : ByteArray := prog_1_method_8_code
def yX3_clear : MethodName := ⟨RX3, "clear", "(I)I"⟩
abbrev cX3_sell : ByteArray := prog_1_method_9_code
def yX3_sell : MethodName := ⟨RX3, "sell", "(I)I"⟩
abbrev cX3_remember : ByteArray := prog_1_method_11_code
def yX3_remember : MethodName := ⟨RX3, "remember", "(I)Z"⟩
abbrev cX3_pay : ByteArray := prog_1_method_12_code
def yX3_pay : MethodName := ⟨RX3, "pay", "(I)I"⟩
abbrev cX3_pass : ByteArray := prog_1_method_13_code
def yX3_pass : MethodName := ⟨RX3, "pass", "(I)I"⟩
abbrev cX3_ofWall : ByteArray := prog_1_method_14_code
def yX3_ofWall : MethodName := ⟨RX3, "ofWall", "(II)I"⟩
abbrev cX3_shows : ByteArray := prog_1_method_15_code
def yX3_shows : MethodName := ⟨RX3, "shows", "(II)I"⟩
abbrev cX3_ofHand : ByteArray := prog_1_method_16_code
def yX3_ofHand : MethodName := ⟨RX3, "ofHand", "(II)I"⟩
abbrev cX3_ofLayer : ByteArray := prog_1_method_17_code
def yX3_ofLayer : MethodName := ⟨RX3, "ofLayer", "(II)I"⟩
abbrev cX3_wrongs : ByteArray := prog_1_method_18_code
def yX3_wrongs : MethodName := ⟨RX3, "wrongs", "(II)I"⟩
abbrev cX3_many : ByteArray := prog_1_method_20_code
def yX3_many : MethodName := ⟨RX3, "many", "(I)I"⟩
abbrev cX3_meanFame : ByteArray := prog_1_method_21_code
def yX3_meanFame : MethodName := ⟨RX3, "meanFame", "()D"⟩
abbrev cX3_bestFrom : ByteArray := prog_1_method_22_code
def yX3_bestFrom : MethodName := ⟨RX3, "bestFrom", "(IIII)I"⟩
abbrev cX3_wouldWrong : ByteArray := prog_1_method_23_code
def yX3_wouldWrong : MethodName := ⟨RX3, "wouldWrong", "(IIIII)I"⟩
abbrev cX3_nextBuff : ByteArray := prog_1_method_24_code
def yX3_nextBuff : MethodName := ⟨RX3, "nextBuff", "()I"⟩
abbrev cX3_wouldFame : ByteArray := prog_1_method_25_code
def yX3_wouldFame : MethodName := ⟨RX3, "wouldFame", "(II)I"⟩
abbrev cX3_digest : ByteArray := prog_1_method_26_code
def yX3_digest : MethodName := ⟨RX3, "digest", "()J"⟩
abbrev cX3_mixedWithWall : ByteArray := prog_1_method_27_code
def yX3_mixedWithWall : MethodName := ⟨RX3, "mixedWithWall", "(JI)J"⟩
abbrev cX3_mixedWithHand : ByteArray := prog_1_method_28_code
def yX3_mixedWithHand : MethodName := ⟨RX3, "mixedWithHand", "(JI)J"⟩
abbrev cX3_mixed : ByteArray := prog_1_method_29_code
def yX3_mixed : MethodName := ⟨RX3, "mixed", "(JI)J"⟩
abbrev cX3_isWithin : ByteArray := prog_1_method_30_code
def yX3_isWithin : MethodName := ⟨RX3, "isWithin", "(III)Z"⟩
abbrev cX3_isKind : ByteArray := prog_1_method_31_code
def yX3_isKind : MethodName := ⟨RX3, "isKind", "(I)Z"⟩
abbrev cX3_wallAt : ByteArray := prog_1_method_32_code
def yX3_wallAt : MethodName := ⟨RX3, "wallAt", "(I)LWallcode$Wall;"⟩
abbrev cX3_handAt : ByteArray := prog_1_method_33_code
def yX3_handAt : MethodName := ⟨RX3, "handAt", "(I)LWallcode$Hand;"⟩
abbrev cX3_layerAt : ByteArray := prog_1_method_34_code
def yX3_layerAt : MethodName := ⟨RX3, "layerAt", "(I)LWallcode$Layer;"⟩
abbrev cX3_isPermitted : ByteArray := prog_1_method_35_code
def yX3_isPermitted : MethodName := ⟨RX3, "isPermitted", "(LWallcode$Hand;LWallcode$Wall;)Z"⟩
abbrev cX3_countWrongs : ByteArray := prog_1_method_36_code
def yX3_countWrongs : MethodName := ⟨RX3, "countWrongs", "(LWallcode$Hand;LWallcode$Wall;III)I"⟩
abbrev cX3_doWrongs : ByteArray := prog_1_method_37_code
def yX3_doWrongs : MethodName := ⟨RX3, "doWrongs", "(LWallcode$Hand;LWallcode$Wall;III)I"⟩
abbrev cX3_wrongedAt : ByteArray := prog_1_method_38_code
def yX3_wrongedAt : MethodName := ⟨RX3, "wrongedAt", "(LWallcode$Hand;LWallcode$Wall;III)LWallcode$Hand;"⟩
abbrev cX3_isWronged : ByteArray := prog_1_method_39_code
def yX3_isWronged : MethodName := ⟨RX3, "isWronged", "(LWallcode$Hand;LWallcode$Wall;LWallcode$Layer;I)Z"⟩
abbrev cX3_fameOf : ByteArray := prog_1_method_40_code
def yX3_fameOf : MethodName := ⟨RX3, "fameOf", "(LWallcode$Hand;)I"⟩
abbrev cX3_fameGain : ByteArray := prog_1_method_41_code
def yX3_fameGain : MethodName := ⟨RX3, "fameGain", "(LWallcode$Hand;LWallcode$Wall;III)I"⟩
abbrev cX3_priceOf : ByteArray := prog_1_method_42_code
def yX3_priceOf : MethodName := ⟨RX3, "priceOf", "(LWallcode$Layer;)I"⟩
abbrev cX3_suspectOf : ByteArray := prog_1_method_43_code
def yX3_suspectOf : MethodName := ⟨RX3, "suspectOf", "(LWallcode$Layer;)I"⟩
abbrev cX3_isToBuff : ByteArray := prog_1_method_44_code
def yX3_isToBuff : MethodName := ⟨RX3, "isToBuff", "(LWallcode$Wall;I)Z"⟩
abbrev cX3_cellsToBuff : ByteArray := prog_1_method_45_code
def yX3_cellsToBuff : MethodName := ⟨RX3, "cellsToBuff", "(LWallcode$Wall;)I"⟩
abbrev cX3_eyesoreOf : ByteArray := prog_1_method_46_code
def yX3_eyesoreOf : MethodName := ⟨RX3, "eyesoreOf", "(LWallcode$Wall;)I"⟩
abbrev cX3_goOneNightOn : ByteArray := prog_1_method_47_code
def yX3_goOneNightOn : MethodName := ⟨RX3, "goOneNightOn", "()I"⟩
abbrev cX3_willBeCleaned : ByteArray := prog_1_method_48_code
def yX3_willBeCleaned : MethodName := ⟨RX3, "willBeCleaned", "(LWallcode$Wall;I)Z"⟩
abbrev cX3_layersSeenOn : ByteArray := prog_1_method_49_code
def yX3_layersSeenOn : MethodName := ⟨RX3, "layersSeenOn", "(LWallcode$Wall;)I"⟩
abbrev cX3_layersOf : ByteArray := prog_1_method_50_code
def yX3_layersOf : MethodName := ⟨RX3, "layersOf", "(LWallcode$Hand;)I"⟩
abbrev cX3_layersSeenOf : ByteArray := prog_1_method_51_code
def yX3_layersSeenOf : MethodName := ⟨RX3, "layersSeenOf", "(LWallcode$Hand;)I"⟩
abbrev cX3_layersSeen : ByteArray := prog_1_method_52_code
def yX3_layersSeen : MethodName := ⟨RX3, "layersSeen", "()I"⟩
abbrev cX3_layersWithWrongSuspect : ByteArray := prog_1_method_53_code
def yX3_layersWithWrongSuspect : MethodName := ⟨RX3, "layersWithWrongSuspect", "()I"⟩
abbrev cX3_wrongsSufferedBy : ByteArray := prog_1_method_54_code
def yX3_wrongsSufferedBy : MethodName := ⟨RX3, "wrongsSufferedBy", "(LWallcode$Hand;)I"⟩
abbrev cX3_allWrongs : ByteArray := prog_1_method_55_code
def yX3_allWrongs : MethodName := ⟨RX3, "allWrongs", "()I"⟩
abbrev cX3_knownHands : ByteArray := prog_1_method_56_code
def yX3_knownHands : MethodName := ⟨RX3, "knownHands", "()I"⟩
abbrev cX3_allFines : ByteArray := prog_1_method_57_code
def yX3_allFines : MethodName := ⟨RX3, "allFines", "()I"⟩
abbrev cX3_allOwed : ByteArray := prog_1_method_58_code
def yX3_allOwed : MethodName := ⟨RX3, "allOwed", "()I"⟩
def RX4 : String := "WallcodeModel$Hand"
def TX4 : u_T := fun k => match k with
  | _ => ("", "", "", false)
def tyX4 : Nat → FieldType := fun k => match k with
  | _ => .int
abbrev wsX40 : List Cond := u_ws RX4 TX4 0
theorem nmX4 : ∀ a, a < 0 → ∀ b, b < 0 → a ≠ b → (TX4 a).2.1 ≠ (TX4 b).2.1 := by decide +kernel
theorem tyX4_ok : ∀ k, k < 0 → parseFieldDescriptor (TX4 k).2.2.1 = some (tyX4 k) := by decide +kernel
def RX5 : String := "WallcodeModel$Layer"
def TX5 : u_T := fun k => match k with
  | _ => ("", "", "", false)
def tyX5 : Nat → FieldType := fun k => match k with
  | _ => .int
abbrev wsX50 : List Cond := u_ws RX5 TX5 0
theorem nmX5 : ∀ a, a < 0 → ∀ b, b < 0 → a ≠ b → (TX5 a).2.1 ≠ (TX5 b).2.1 := by decide +kernel
theorem tyX5_ok : ∀ k, k < 0 → parseFieldDescriptor (TX5 k).2.2.1 = some (tyX5 k) := by decide +kernel
def RX6 : String := "WallcodeModel$Wall"
def TX6 : u_T := fun k => match k with
  | _ => ("", "", "", false)
def tyX6 : Nat → FieldType := fun k => match k with
  | _ => .int
abbrev wsX60 : List Cond := u_ws RX6 TX6 0
theorem nmX6 : ∀ a, a < 0 → ∀ b, b < 0 → a ≠ b → (TX6 a).2.1 ≠ (TX6 b).2.1 := by decide +kernel
theorem tyX6_ok : ∀ k, k < 0 → parseFieldDescriptor (TX6 k).2.2.1 = some (tyX6 k) := by decide +kernel
def RX7 : String := "WallcodeModel"
def TX7 : u_T := fun k => match k with
  | _ => ("", "", "", false)
def tyX7 : Nat → FieldType := fun k => match k with
  | _ => .int
abbrev wsX70 : List Cond := u_ws RX7 TX7 0
theorem nmX7 : ∀ a, a < 0 → ∀ b, b < 0 → a ≠ b → (TX7 a).2.1 ≠ (TX7 b).2.1 := by decide +kernel
theorem tyX7_ok : ∀ k, k < 0 → parseFieldDescriptor (TX7 k).2.2.1 = some (tyX7 k) := by decide +kernel
def RJx145de : String := "java/io/Serializable"
def TJx145de : u_T := fun k => match k with
  | _ => ("", "", "", false)
def tyJx145de : Nat → FieldType := fun k => match k with
  | _ => .int
abbrev wsJx145de0 : List Cond := u_ws RJx145de TJx145de 0
theorem nmJx145de : ∀ a, a < 0 → ∀ b, b < 0 → a ≠ b → (TJx145de a).2.1 ≠ (TJx145de b).2.1 := by decide +kernel
theorem tyJx145de_ok : ∀ k, k < 0 → parseFieldDescriptor (TJx145de k).2.2.1 = some (tyJx145de k) := by decide +kernel
def RJx8e188 : String := "java/lang/Cloneable"
def TJx8e188 : u_T := fun k => match k with
  | _ => ("", "", "", false)
def tyJx8e188 : Nat → FieldType := fun k => match k with
  | _ => .int
abbrev wsJx8e1880 : List Cond := u_ws RJx8e188 TJx8e188 0
theorem nmJx8e188 : ∀ a, a < 0 → ∀ b, b < 0 → a ≠ b → (TJx8e188 a).2.1 ≠ (TJx8e188 b).2.1 := by decide +kernel
theorem tyJx8e188_ok : ∀ k, k < 0 → parseFieldDescriptor (TJx8e188 k).2.2.1 = some (tyJx8e188 k) := by decide +kernel
def RJxab1ab : String := "java/lang/Iterable"
def TJxab1ab : u_T := fun k => match k with
  | _ => ("", "", "", false)
def tyJxab1ab : Nat → FieldType := fun k => match k with
  | _ => .int
abbrev wsJxab1ab0 : List Cond := u_ws RJxab1ab TJxab1ab 0
theorem nmJxab1ab : ∀ a, a < 0 → ∀ b, b < 0 → a ≠ b → (TJxab1ab a).2.1 ≠ (TJxab1ab b).2.1 := by decide +kernel
theorem tyJxab1ab_ok : ∀ k, k < 0 → parseFieldDescriptor (TJxab1ab k).2.2.1 = some (tyJxab1ab k) := by decide +kernel
def RJ9 : String := "java/lang/Math"
def TJ9 : u_T := fun k => match k with
  | _ => ("", "", "", false)
def tyJ9 : Nat → FieldType := fun k => match k with
  | _ => .int
abbrev wsJ90 : List Cond := u_ws RJ9 TJ9 0
theorem nmJ9 : ∀ a, a < 0 → ∀ b, b < 0 → a ≠ b → (TJ9 a).2.1 ≠ (TJ9 b).2.1 := by decide +kernel
theorem tyJ9_ok : ∀ k, k < 0 → parseFieldDescriptor (TJ9 k).2.2.1 = some (tyJ9 k) := by decide +kernel
abbrev cJ9_abs_0f7a4 : ByteArray := prog_17_method_59_code
def yJ9_abs_0f7a4 : MethodName := ⟨RJ9, "abs", "(I)I"⟩
abbrev cJ9_max_7cf53 : ByteArray := prog_17_method_65_code
def yJ9_max_7cf53 : MethodName := ⟨RJ9, "max", "(II)I"⟩
abbrev cJ9_min_7cf53 : ByteArray := prog_17_method_69_code
def yJ9_min_7cf53 : MethodName := ⟨RJ9, "min", "(II)I"⟩
def RJ0 : String := "java/lang/String"
def TJ0 : u_T := fun k => match k with
  | _ => ("", "", "", false)
def tyJ0 : Nat → FieldType := fun k => match k with
  | _ => .int
abbrev wsJ00 : List Cond := u_ws RJ0 TJ0 0
theorem nmJ0 : ∀ a, a < 0 → ∀ b, b < 0 → a ≠ b → (TJ0 a).2.1 ≠ (TJ0 b).2.1 := by decide +kernel
theorem tyJ0_ok : ∀ k, k < 0 → parseFieldDescriptor (TJ0 k).2.2.1 = some (tyJ0 k) := by decide +kernel
def RJ10 : String := "java/lang/System"
def TJ10 : u_T := fun k => match k with
  | _ => ("", "", "", false)
def tyJ10 : Nat → FieldType := fun k => match k with
  | _ => .int
abbrev wsJ100 : List Cond := u_ws RJ10 TJ10 0
theorem nmJ10 : ∀ a, a < 0 → ∀ b, b < 0 → a ≠ b → (TJ10 a).2.1 ≠ (TJ10 b).2.1 := by decide +kernel
theorem tyJ10_ok : ∀ k, k < 0 → parseFieldDescriptor (TJ10 k).2.2.1 = some (tyJ10 k) := by decide +kernel
def RJxa1e45 : String := "java/util/AbstractCollection"
def TJxa1e45 : u_T := fun k => match k with
  | _ => ("", "", "", false)
def tyJxa1e45 : Nat → FieldType := fun k => match k with
  | _ => .int
abbrev wsJxa1e450 : List Cond := u_ws RJxa1e45 TJxa1e45 0
theorem nmJxa1e45 : ∀ a, a < 0 → ∀ b, b < 0 → a ≠ b → (TJxa1e45 a).2.1 ≠ (TJxa1e45 b).2.1 := by decide +kernel
theorem tyJxa1e45_ok : ∀ k, k < 0 → parseFieldDescriptor (TJxa1e45 k).2.2.1 = some (tyJxa1e45 k) := by decide +kernel
abbrev cJxa1e45_init_da8c8 : ByteArray := prog_22_method_1_code
def yJxa1e45_init_da8c8 : MethodName := ⟨RJxa1e45, "<init>", "()V"⟩
def RJxc12de : String := "java/util/AbstractList"
def TJxc12de : u_T := fun k => match k with
  | _ => ("", "", "", false)
def tyJxc12de : Nat → FieldType := fun k => match k with
  | _ => .int
abbrev wsJxc12de0 : List Cond := u_ws RJxc12de TJxc12de 0
theorem nmJxc12de : ∀ a, a < 0 → ∀ b, b < 0 → a ≠ b → (TJxc12de a).2.1 ≠ (TJxc12de b).2.1 := by decide +kernel
theorem tyJxc12de_ok : ∀ k, k < 0 → parseFieldDescriptor (TJxc12de k).2.2.1 = some (tyJxc12de k) := by decide +kernel
abbrev cJxc12de_init_da8c8 : ByteArray := prog_23_method_1_code
def yJxc12de_init_da8c8 : MethodName := ⟨RJxc12de, "<init>", "()V"⟩
def RJx4a65c : String := "java/util/ArrayList"
def TJx4a65c : u_T := fun k => match k with
  | 0 => ("java/util/AbstractList", "modCount", "I", false)
  | 1 => ("java/util/ArrayList", "elementData", "[Ljava/lang/Object;", false)
  | _ => ("java/util/ArrayList", "size", "I", false)
def tyJx4a65c : Nat → FieldType := fun k => match k with
  | 0 => .int
  | 1 => .array (.object "java/lang/Object")
  | _ => .int
abbrev wsJx4a65c0 : List Cond := u_ws RJx4a65c TJx4a65c 3
theorem nmJx4a65c : ∀ a, a < 3 → ∀ b, b < 3 → a ≠ b → (TJx4a65c a).2.1 ≠ (TJx4a65c b).2.1 := by decide +kernel
theorem tyJx4a65c_ok : ∀ k, k < 3 → parseFieldDescriptor (TJx4a65c k).2.2.1 = some (tyJx4a65c k) := by decide +kernel
abbrev cJx4a65c_init_da8c8 : ByteArray := prog_24_method_2_code
def yJx4a65c_init_da8c8 : MethodName := ⟨RJx4a65c, "<init>", "()V"⟩
abbrev cJx4a65c_grow_92f84 : ByteArray := prog_24_method_6_code
def yJx4a65c_grow_92f84 : MethodName := ⟨RJx4a65c, "grow", "(I)[Ljava/lang/Object;"⟩
abbrev cJx4a65c_grow_d5877 : ByteArray := prog_24_method_7_code
def yJx4a65c_grow_d5877 : MethodName := ⟨RJx4a65c, "grow", "()[Ljava/lang/Object;"⟩
abbrev cJx4a65c_size_8abf5 : ByteArray := prog_24_method_8_code
def yJx4a65c_size_8abf5 : MethodName := ⟨RJx4a65c, "size", "()I"⟩
abbrev cJx4a65c_isEmpty_aae02 : ByteArray := prog_24_method_9_code
def yJx4a65c_isEmpty_aae02 : MethodName := ⟨RJx4a65c, "isEmpty", "()Z"⟩
abbrev cJx4a65c_elementData_915e3 : ByteArray := prog_24_method_18_code
def yJx4a65c_elementData_915e3 : MethodName := ⟨RJx4a65c, "elementData", "(I)Ljava/lang/Object;"⟩
abbrev cJx4a65c_get_915e3 : ByteArray := prog_24_method_20_code
def yJx4a65c_get_915e3 : MethodName := ⟨RJx4a65c, "get", "(I)Ljava/lang/Object;"⟩
abbrev cJx4a65c_add_72be8 : ByteArray := prog_24_method_24_code
def yJx4a65c_add_72be8 : MethodName := ⟨RJx4a65c, "add", "(Ljava/lang/Object;[Ljava/lang/Object;I)V"⟩
abbrev cJx4a65c_add_9ea2d : ByteArray := prog_24_method_25_code
def yJx4a65c_add_9ea2d : MethodName := ⟨RJx4a65c, "add", "(Ljava/lang/Object;)Z"⟩
def RJ7 : String := "java/util/Arrays"
def TJ7 : u_T := fun k => match k with
  | _ => ("", "", "", false)
def tyJ7 : Nat → FieldType := fun k => match k with
  | _ => .int
abbrev wsJ70 : List Cond := u_ws RJ7 TJ7 0
theorem nmJ7 : ∀ a, a < 0 → ∀ b, b < 0 → a ≠ b → (TJ7 a).2.1 ≠ (TJ7 b).2.1 := by decide +kernel
theorem tyJ7_ok : ∀ k, k < 0 → parseFieldDescriptor (TJ7 k).2.2.1 = some (tyJ7 k) := by decide +kernel
abbrev cJ7_copyOf_1904c : ByteArray := prog_25_method_119_code
def yJ7_copyOf_1904c : MethodName := ⟨RJ7, "copyOf", "([Ljava/lang/Object;I)[Ljava/lang/Object;"⟩
abbrev cJ7_copyOf_6403c : ByteArray := prog_25_method_120_code
def yJ7_copyOf_6403c : MethodName := ⟨RJ7, "copyOf", "([Ljava/lang/Object;ILjava/lang/Class;)[Ljava/lang/Object;"⟩
def RJx5ef63 : String := "java/util/Collection"
def TJx5ef63 : u_T := fun k => match k with
  | _ => ("", "", "", false)
def tyJx5ef63 : Nat → FieldType := fun k => match k with
  | _ => .int
abbrev wsJx5ef630 : List Cond := u_ws RJx5ef63 TJx5ef63 0
theorem nmJx5ef63 : ∀ a, a < 0 → ∀ b, b < 0 → a ≠ b → (TJx5ef63 a).2.1 ≠ (TJx5ef63 b).2.1 := by decide +kernel
theorem tyJx5ef63_ok : ∀ k, k < 0 → parseFieldDescriptor (TJx5ef63 k).2.2.1 = some (tyJx5ef63 k) := by decide +kernel
def RJxbd725 : String := "java/util/List"
def TJxbd725 : u_T := fun k => match k with
  | _ => ("", "", "", false)
def tyJxbd725 : Nat → FieldType := fun k => match k with
  | _ => .int
abbrev wsJxbd7250 : List Cond := u_ws RJxbd725 TJxbd725 0
theorem nmJxbd725 : ∀ a, a < 0 → ∀ b, b < 0 → a ≠ b → (TJxbd725 a).2.1 ≠ (TJxbd725 b).2.1 := by decide +kernel
theorem tyJxbd725_ok : ∀ k, k < 0 → parseFieldDescriptor (TJxbd725 k).2.2.1 = some (tyJxbd725 k) := by decide +kernel
def RJ15 : String := "java/util/Objects"
def TJ15 : u_T := fun k => match k with
  | _ => ("", "", "", false)
def tyJ15 : Nat → FieldType := fun k => match k with
  | _ => .int
abbrev wsJ150 : List Cond := u_ws RJ15 TJ15 0
theorem nmJ15 : ∀ a, a < 0 → ∀ b, b < 0 → a ≠ b → (TJ15 a).2.1 ≠ (TJ15 b).2.1 := by decide +kernel
theorem tyJ15_ok : ∀ k, k < 0 → parseFieldDescriptor (TJ15 k).2.2.1 = some (tyJ15 k) := by decide +kernel
abbrev cJ15_checkIndex_7cf53 : ByteArray := prog_28_method_17_code
def yJ15_checkIndex_7cf53 : MethodName := ⟨RJ15, "checkIndex", "(II)I"⟩
def RJxf0a74 : String := "java/util/RandomAccess"
def TJxf0a74 : u_T := fun k => match k with
  | _ => ("", "", "", false)
def tyJxf0a74 : Nat → FieldType := fun k => match k with
  | _ => .int
abbrev wsJxf0a740 : List Cond := u_ws RJxf0a74 TJxf0a74 0
theorem nmJxf0a74 : ∀ a, a < 0 → ∀ b, b < 0 → a ≠ b → (TJxf0a74 a).2.1 ≠ (TJxf0a74 b).2.1 := by decide +kernel
theorem tyJxf0a74_ok : ∀ k, k < 0 → parseFieldDescriptor (TJxf0a74 k).2.2.1 = some (tyJxf0a74 k) := by decide +kernel
def RJxa66e6 : String := "java/util/SequencedCollection"
def TJxa66e6 : u_T := fun k => match k with
  | _ => ("", "", "", false)
def tyJxa66e6 : Nat → FieldType := fun k => match k with
  | _ => .int
abbrev wsJxa66e60 : List Cond := u_ws RJxa66e6 TJxa66e6 0
theorem nmJxa66e6 : ∀ a, a < 0 → ∀ b, b < 0 → a ≠ b → (TJxa66e6 a).2.1 ≠ (TJxa66e6 b).2.1 := by decide +kernel
theorem tyJxa66e6_ok : ∀ k, k < 0 → parseFieldDescriptor (TJxa66e6 k).2.2.1 = some (tyJxa66e6 k) := by decide +kernel
def RJ8 : String := "jdk/internal/util/ArraysSupport"
def TJ8 : u_T := fun k => match k with
  | _ => ("", "", "", false)
def tyJ8 : Nat → FieldType := fun k => match k with
  | _ => .int
abbrev wsJ80 : List Cond := u_ws RJ8 TJ8 0
theorem nmJ8 : ∀ a, a < 0 → ∀ b, b < 0 → a ≠ b → (TJ8 a).2.1 ≠ (TJ8 b).2.1 := by decide +kernel
theorem tyJ8_ok : ∀ k, k < 0 → parseFieldDescriptor (TJ8 k).2.2.1 = some (tyJ8 k) := by decide +kernel
abbrev cJ8_newLength_cabcc : ByteArray := prog_31_method_27_code
def yJ8_newLength_cabcc : MethodName := ⟨RJ8, "newLength", "(III)I"⟩
abbrev cJ8_hugeLength_7cf53 : ByteArray := prog_31_method_28_code
def yJ8_hugeLength_7cf53 : MethodName := ⟨RJ8, "hugeLength", "(II)I"⟩
def RJ3 : String := "jdk/internal/util/Preconditions"
def TJ3 : u_T := fun k => match k with
  | _ => ("", "", "", false)
def tyJ3 : Nat → FieldType := fun k => match k with
  | _ => .int
abbrev wsJ30 : List Cond := u_ws RJ3 TJ3 0
theorem nmJ3 : ∀ a, a < 0 → ∀ b, b < 0 → a ≠ b → (TJ3 a).2.1 ≠ (TJ3 b).2.1 := by decide +kernel
theorem tyJ3_ok : ∀ k, k < 0 → parseFieldDescriptor (TJ3 k).2.2.1 = some (tyJ3 k) := by decide +kernel
abbrev cJ3_checkIndex_8e157 : ByteArray := prog_32_method_11_code
def yJ3_checkIndex_8e157 : MethodName := ⟨RJ3, "checkIndex", "(IILjava/util/function/BiFunction;)I"⟩
def RL : String := "WallcodeLaw"
abbrev cL_below : ByteArray := method_2_code
def yL_below : MethodName := ⟨RL, "below", "(II)I"⟩
abbrev cL_cell : ByteArray := method_3_code
def yL_cell : MethodName := ⟨RL, "cell", "([II)I"⟩
abbrev cL_law : ByteArray := code
def yL_law : MethodName := ⟨RL, "law", "([I)Z"⟩
abbrev cL_isBuffed : ByteArray := method_5_code
def yL_isBuffed : MethodName := ⟨RL, "isBuffed", "(LWallcode;II)Z"⟩
abbrev cL_isPainted : ByteArray := method_6_code
def yL_isPainted : MethodName := ⟨RL, "isPainted", "(LWallcode;IIIII[II)Z"⟩
abbrev cL_areSeen : ByteArray := method_7_code
def yL_areSeen : MethodName := ⟨RL, "areSeen", "(LWallcode;[II[I)Z"⟩
abbrev vwCl : List vw_C := [(RJx4a65c, TJx4a65c, 3), (RJx4a65c, TJx4a65c, 3), (RX0, TX0, 11), (RX1, TX1, 11), (RX2, TX2, 10), (RX3, TX3, 6)]
