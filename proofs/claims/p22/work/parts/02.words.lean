section
/-- the tables' words that keep -/
def lw_gd : List Cond := lw_tbl.filter goodWord
/-! ===== BEGIN words of one list among another's, by their places ===== -/
theorem goodIn_r {big : List Cond} (ws : List Cond) (ps : List Nat) (hp : ws = ps.filterMap (fun i => big[i]?)) (h : ws.all goodWord = true) : GoodIn big ws := by
  intro w hw
  have h1 := List.all_eq_true.mp h w hw
  rw [hp] at hw
  obtain ⟨i, -, hi⟩ := List.mem_filterMap.mp hw
  have hm : w ∈ big := by first | exact List.mem_of_getElem? hi | exact List.getElem?_mem hi
  exact ⟨hm, good_of_word h1⟩
theorem goodIn_app {big a b : List Cond} (ha : GoodIn big a) (hb : GoodIn big b) : GoodIn big (a ++ b) := fun w h => (List.mem_append.mp h).elim (ha w) (hb w)
theorem goodIn_ca {big a b : List Cond} {c : Cond} (ha : GoodIn big (c :: a)) (hb : GoodIn big b) : GoodIn big (c :: (a ++ b)) := fun w h => (List.mem_cons.mp h).elim (fun e => ha w (List.mem_cons.mpr (Or.inl e))) (fun h => (List.mem_append.mp h).elim (fun h => ha w (List.mem_cons.mpr (Or.inr h))) (hb w))
theorem goodIn_sub {big ws : List Cond} (hm : ∀ w ∈ ws, w ∈ big) (h : ws.all goodWord = true) : GoodIn big ws := fun w hw => ⟨hm w hw, good_of_word (List.all_eq_true.mp h w hw)⟩
/-! ===== END ===== -/

/-! ===== BEGIN printed: names, fields, word lists, decode rows ===== -/
def RX0 : String := "SheetNames$Atlas"
def TX0 : u_T := fun k => match k with
  | 0 => ("SheetNames$Atlas", "grid", "LSheetNames$Grid;", true)
  | 1 => ("SheetNames$Atlas", "store", "LSheetNames$Store;", true)
  | 2 => ("SheetNames$Atlas", "right", "I", false)
  | 3 => ("SheetNames$Atlas", "faulty", "I", false)
  | 4 => ("SheetNames$Atlas", "endedSoon", "I", false)
  | _ => ("SheetNames$Atlas", "noSuchNumber", "I", false)
def tyX0 : Nat → FieldType := fun k => match k with
  | 0 => .object "SheetNames$Grid"
  | 1 => .object "SheetNames$Store"
  | 2 => .int
  | 3 => .int
  | 4 => .int
  | _ => .int
abbrev wsX00 : List Cond := u_ws RX0 TX0 6
theorem nmX0 : ∀ a, a < 6 → ∀ b, b < 6 → a ≠ b → (TX0 a).2.1 ≠ (TX0 b).2.1 := by decide +kernel
theorem tyX0_ok : ∀ k, k < 6 → parseFieldDescriptor (TX0 k).2.2.1 = some (tyX0 k) := by decide +kernel
abbrev cX0_init : ByteArray := prog_2_method_1_code
def yX0_init : MethodName := ⟨RX0, "<init>", "()V"⟩
abbrev cX0_countText : ByteArray := prog_2_method_2_code
def yX0_countText : MethodName := ⟨RX0, "countText", "(LSheetNames$NameReader;Z)V"⟩
abbrev cX0_copyFrom : ByteArray := prog_2_method_3_code
def yX0_copyFrom : MethodName := ⟨RX0, "copyFrom", "(LSheetNames$Atlas;)V"⟩
def RX1 : String := "SheetNames$Box"
def TX1 : u_T := fun k => match k with
  | 0 => ("SheetNames$Box", "grid", "LSheetNames$Grid;", true)
  | 1 => ("SheetNames$Box", "south", "I", false)
  | 2 => ("SheetNames$Box", "north", "I", false)
  | 3 => ("SheetNames$Box", "west", "I", false)
  | _ => ("SheetNames$Box", "east", "I", false)
def tyX1 : Nat → FieldType := fun k => match k with
  | 0 => .object "SheetNames$Grid"
  | 1 => .int
  | 2 => .int
  | 3 => .int
  | _ => .int
abbrev wsX10 : List Cond := u_ws RX1 TX1 5
theorem nmX1 : ∀ a, a < 5 → ∀ b, b < 5 → a ≠ b → (TX1 a).2.1 ≠ (TX1 b).2.1 := by decide +kernel
theorem tyX1_ok : ∀ k, k < 5 → parseFieldDescriptor (TX1 k).2.2.1 = some (tyX1 k) := by decide +kernel
abbrev cX1_init : ByteArray := prog_3_method_1_code
def yX1_init : MethodName := ⟨RX1, "<init>", "(LSheetNames$Grid;)V"⟩
abbrev cX1_set : ByteArray := prog_3_method_2_code
def yX1_set : MethodName := ⟨RX1, "set", "(IIII)V"⟩
abbrev cX1_topRow : ByteArray := prog_3_method_3_code
def yX1_topRow : MethodName := ⟨RX1, "topRow", "(I)I"⟩
abbrev cX1_bottomRow : ByteArray := prog_3_method_4_code
def yX1_bottomRow : MethodName := ⟨RX1, "bottomRow", "(I)I"⟩
abbrev cX1_inRow : ByteArray := prog_3_method_5_code
def yX1_inRow : MethodName := ⟨RX1, "inRow", "(II)I"⟩
abbrev cX1_keyFromWest : ByteArray := prog_3_method_6_code
def yX1_keyFromWest : MethodName := ⟨RX1, "keyFromWest", "(III)I"⟩
abbrev cX1_beltTop : ByteArray := prog_3_method_7_code
def yX1_beltTop : MethodName := ⟨RX1, "beltTop", "(II)I"⟩
abbrev cX1_beltBottom : ByteArray := prog_3_method_8_code
def yX1_beltBottom : MethodName := ⟨RX1, "beltBottom", "(II)I"⟩
abbrev cX1_sheetsAt : ByteArray := prog_3_method_9_code
def yX1_sheetsAt : MethodName := ⟨RX1, "sheetsAt", "(I)I"⟩
abbrev cX1_sheetAt : ByteArray := prog_3_method_10_code
def yX1_sheetAt : MethodName := ⟨RX1, "sheetAt", "(II)I"⟩
abbrev cX1_coverAt : ByteArray := prog_3_method_11_code
def yX1_coverAt : MethodName := ⟨RX1, "coverAt", "(II)I"⟩
abbrev cX1_coverSheet : ByteArray := prog_3_method_12_code
def yX1_coverSheet : MethodName := ⟨RX1, "coverSheet", "(III)I"⟩
abbrev cX1_placeByKeys : ByteArray := prog_3_method_13_code
def yX1_placeByKeys : MethodName := ⟨RX1, "placeByKeys", "(III)I"⟩
abbrev cX1_isCover : ByteArray := prog_3_method_14_code
def yX1_isCover : MethodName := ⟨RX1, "isCover", "(IIII)Z"⟩
abbrev cX1_isWhole : ByteArray := prog_3_method_15_code
def yX1_isWhole : MethodName := ⟨RX1, "isWhole", "(IIII)Z"⟩
def RX2 : String := "SheetNames$Grid"
def TX2 : u_T := fun k => match k with
  | 0 => ("SheetNames$Grid", "rowCuts", "[I", true)
  | 1 => ("SheetNames$Grid", "columnCuts", "[I", true)
  | 2 => ("SheetNames$Grid", "bandRows", "[I", true)
  | 3 => ("SheetNames$Grid", "zoneColumns", "[I", true)
  | 4 => ("SheetNames$Grid", "rows", "[I", true)
  | _ => ("SheetNames$Grid", "sheets", "[I", true)
def tyX2 : Nat → FieldType := fun k => match k with
  | 0 => .array .int
  | 1 => .array .int
  | 2 => .array .int
  | 3 => .array .int
  | 4 => .array .int
  | _ => .array .int
abbrev wsX20 : List Cond := u_ws RX2 TX2 6
theorem nmX2 : ∀ a, a < 6 → ∀ b, b < 6 → a ≠ b → (TX2 a).2.1 ≠ (TX2 b).2.1 := by decide +kernel
theorem tyX2_ok : ∀ k, k < 6 → parseFieldDescriptor (TX2 k).2.2.1 = some (tyX2 k) := by decide +kernel
abbrev cX2_init : ByteArray := prog_4_method_1_code
def yX2_init : MethodName := ⟨RX2, "<init>", "()V"⟩
abbrev cX2_multiply : ByteArray := prog_4_method_2_code
def yX2_multiply : MethodName := ⟨RX2, "multiply", "()V"⟩
abbrev cX2_deepestSheetsIf : ByteArray := prog_4_method_3_code
def yX2_deepestSheetsIf : MethodName := ⟨RX2, "deepestSheetsIf", "(III)J"⟩
abbrev cX2_setCuts : ByteArray := prog_4_method_4_code
def yX2_setCuts : MethodName := ⟨RX2, "setCuts", "(III)V"⟩
abbrev cX2_copyFrom : ByteArray := prog_4_method_5_code
def yX2_copyFrom : MethodName := ⟨RX2, "copyFrom", "(LSheetNames$Grid;)V"⟩
abbrev cX2_hasSheet : ByteArray := prog_4_method_6_code
def yX2_hasSheet : MethodName := ⟨RX2, "hasSheet", "(II)Z"⟩
abbrev cX2_isCapRow : ByteArray := prog_4_method_7_code
def yX2_isCapRow : MethodName := ⟨RX2, "isCapRow", "(II)Z"⟩
abbrev cX2_storedLevel : ByteArray := prog_4_method_8_code
def yX2_storedLevel : MethodName := ⟨RX2, "storedLevel", "(II)I"⟩
abbrev cX2_rowLength : ByteArray := prog_4_method_9_code
def yX2_rowLength : MethodName := ⟨RX2, "rowLength", "(II)I"⟩
abbrev cX2_rowStart : ByteArray := prog_4_method_10_code
def yX2_rowStart : MethodName := ⟨RX2, "rowStart", "(II)I"⟩
abbrev cX2_rowOfKey : ByteArray := prog_4_method_11_code
def yX2_rowOfKey : MethodName := ⟨RX2, "rowOfKey", "(II)I"⟩
abbrev cX2_rowOfLat : ByteArray := prog_4_method_12_code
def yX2_rowOfLat : MethodName := ⟨RX2, "rowOfLat", "(II)I"⟩
abbrev cX2_placeOfLon : ByteArray := prog_4_method_13_code
def yX2_placeOfLon : MethodName := ⟨RX2, "placeOfLon", "(III)I"⟩
abbrev cX2_keyOf : ByteArray := prog_4_method_14_code
def yX2_keyOf : MethodName := ⟨RX2, "keyOf", "(III)I"⟩
abbrev cX2_rowsIn : ByteArray := prog_4_method_15_code
def yX2_rowsIn : MethodName := ⟨RX2, "rowsIn", "(II)I"⟩
abbrev cX2_columnsIn : ByteArray := prog_4_method_16_code
def yX2_columnsIn : MethodName := ⟨RX2, "columnsIn", "(II)I"⟩
abbrev cX2_keyAbove : ByteArray := prog_4_method_17_code
def yX2_keyAbove : MethodName := ⟨RX2, "keyAbove", "(III)I"⟩
abbrev cX2_bandOfZone : ByteArray := prog_4_method_18_code
def yX2_bandOfZone : MethodName := ⟨RX2, "bandOfZone", "(I)I"⟩
def RX3 : String := "SheetNames$NameReader"
def TX3 : u_T := fun k => match k with
  | 0 => ("SheetNames$NameReader", "grid", "LSheetNames$Grid;", true)
  | 1 => ("SheetNames$NameReader", "tape", "LSheetNames$Tape;", true)
  | 2 => ("SheetNames$NameReader", "next", "I", false)
  | 3 => ("SheetNames$NameReader", "end", "I", false)
  | 4 => ("SheetNames$NameReader", "level", "I", false)
  | 5 => ("SheetNames$NameReader", "key", "I", false)
  | 6 => ("SheetNames$NameReader", "fault", "I", false)
  | 7 => ("SheetNames$NameReader", "faultPlace", "I", false)
  | _ => ("SheetNames$NameReader", "endedSoon", "Z", false)
def tyX3 : Nat → FieldType := fun k => match k with
  | 0 => .object "SheetNames$Grid"
  | 1 => .object "SheetNames$Tape"
  | 2 => .int
  | 3 => .int
  | 4 => .int
  | 5 => .int
  | 6 => .int
  | 7 => .int
  | _ => .boolean
abbrev wsX30 : List Cond := u_ws RX3 TX3 9
theorem nmX3 : ∀ a, a < 9 → ∀ b, b < 9 → a ≠ b → (TX3 a).2.1 ≠ (TX3 b).2.1 := by decide +kernel
theorem tyX3_ok : ∀ k, k < 9 → parseFieldDescriptor (TX3 k).2.2.1 = some (tyX3 k) := by decide +kernel
abbrev cX3_init : ByteArray := prog_5_method_1_code
def yX3_init : MethodName := ⟨RX3, "<init>", "(LSheetNames$Grid;LSheetNames$Tape;)V"⟩
abbrev cX3_read : ByteArray := prog_5_method_2_code
def yX3_read : MethodName := ⟨RX3, "read", "(II)Z"⟩
abbrev cX3_readCap : ByteArray := prog_5_method_3_code
def yX3_readCap : MethodName := ⟨RX3, "readCap", "(Z)Z"⟩
abbrev cX3_readNumbers : ByteArray := prog_5_method_4_code
def yX3_readNumbers : MethodName := ⟨RX3, "readNumbers", "(I)Z"⟩
abbrev cX3_readNumber : ByteArray := prog_5_method_5_code
def yX3_readNumber : MethodName := ⟨RX3, "readNumber", "(I)I"⟩
abbrev cX3_isDigit : ByteArray := prog_5_method_6_code
def yX3_isDigit : MethodName := ⟨RX3, "isDigit", "(I)Z"⟩
abbrev cX3_here : ByteArray := prog_5_method_7_code
def yX3_here : MethodName := ⟨RX3, "here", "()I"⟩
abbrev cX3_failHere : ByteArray := prog_5_method_8_code
def yX3_failHere : MethodName := ⟨RX3, "failHere", "()Z"⟩
abbrev cX3_fail : ByteArray := prog_5_method_9_code
def yX3_fail : MethodName := ⟨RX3, "fail", "(II)Z"⟩
abbrev cX3_failWithoutBlank : ByteArray := prog_5_method_10_code
def yX3_failWithoutBlank : MethodName := ⟨RX3, "failWithoutBlank", "(I)Z"⟩
abbrev cX3_told : ByteArray := prog_5_method_11_code
def yX3_told : MethodName := ⟨RX3, "told", "()I"⟩
def RX4 : String := "SheetNames$NameText"
def TX4 : u_T := fun k => match k with
  | 0 => ("SheetNames$NameText", "bytes", "[I", true)
  | _ => ("SheetNames$NameText", "length", "I", false)
def tyX4 : Nat → FieldType := fun k => match k with
  | 0 => .array .int
  | _ => .int
abbrev wsX40 : List Cond := u_ws RX4 TX4 2
theorem nmX4 : ∀ a, a < 2 → ∀ b, b < 2 → a ≠ b → (TX4 a).2.1 ≠ (TX4 b).2.1 := by decide +kernel
theorem tyX4_ok : ∀ k, k < 2 → parseFieldDescriptor (TX4 k).2.2.1 = some (tyX4 k) := by decide +kernel
abbrev cX4_init : ByteArray := prog_6_method_1_code
def yX4_init : MethodName := ⟨RX4, "<init>", "()V"⟩
abbrev cX4_write : ByteArray := prog_6_method_2_code
def yX4_write : MethodName := ⟨RX4, "write", "(LSheetNames$Spot;)V"⟩
abbrev cX4_addNumber : ByteArray := prog_6_method_3_code
def yX4_addNumber : MethodName := ⟨RX4, "addNumber", "(I)V"⟩
abbrev cX4_add : ByteArray := prog_6_method_4_code
def yX4_add : MethodName := ⟨RX4, "add", "(I)V"⟩
abbrev cX4_against : ByteArray := prog_6_method_5_code
def yX4_against : MethodName := ⟨RX4, "against", "(LSheetNames$NameText;)I"⟩
def RX5 : String := "SheetNames$Question"
def TX5 : u_T := fun k => match k with
  | 0 => ("SheetNames$Question", "reader", "LSheetNames$NameReader;", true)
  | 1 => ("SheetNames$Question", "tape", "LSheetNames$Tape;", true)
  | 2 => ("SheetNames$Question", "word", "I", false)
  | 3 => ("SheetNames$Question", "level", "I", false)
  | 4 => ("SheetNames$Question", "key", "I", false)
  | 5 => ("SheetNames$Question", "otherLevel", "I", false)
  | _ => ("SheetNames$Question", "otherKey", "I", false)
def tyX5 : Nat → FieldType := fun k => match k with
  | 0 => .object "SheetNames$NameReader"
  | 1 => .object "SheetNames$Tape"
  | 2 => .int
  | 3 => .int
  | 4 => .int
  | 5 => .int
  | _ => .int
abbrev wsX50 : List Cond := u_ws RX5 TX5 7
theorem nmX5 : ∀ a, a < 7 → ∀ b, b < 7 → a ≠ b → (TX5 a).2.1 ≠ (TX5 b).2.1 := by decide +kernel
theorem tyX5_ok : ∀ k, k < 7 → parseFieldDescriptor (TX5 k).2.2.1 = some (tyX5 k) := by decide +kernel
abbrev cX5_init : ByteArray := prog_7_method_1_code
def yX5_init : MethodName := ⟨RX5, "<init>", "(LSheetNames$NameReader;LSheetNames$Tape;)V"⟩
abbrev cX5_read : ByteArray := prog_7_method_2_code
def yX5_read : MethodName := ⟨RX5, "read", "(I)Z"⟩
abbrev cX5_readOther : ByteArray := prog_7_method_3_code
def yX5_readOther : MethodName := ⟨RX5, "readOther", "(II)Z"⟩
abbrev cX5_wordTo : ByteArray := prog_7_method_4_code
def yX5_wordTo : MethodName := ⟨RX5, "wordTo", "(I)I"⟩
def RX6 : String := "SheetNames$Spot"
def TX6 : u_T := fun k => match k with
  | 0 => ("SheetNames$Spot", "grid", "LSheetNames$Grid;", true)
  | 1 => ("SheetNames$Spot", "first", "[I", true)
  | 2 => ("SheetNames$Spot", "many", "[I", true)
  | 3 => ("SheetNames$Spot", "corner", "[I", true)
  | 4 => ("SheetNames$Spot", "cornerCount", "I", false)
  | 5 => ("SheetNames$Spot", "level", "I", false)
  | 6 => ("SheetNames$Spot", "row", "I", false)
  | 7 => ("SheetNames$Spot", "start", "I", false)
  | 8 => ("SheetNames$Spot", "place", "I", false)
  | 9 => ("SheetNames$Spot", "length", "I", false)
  | _ => ("SheetNames$Spot", "cap", "Z", false)
def tyX6 : Nat → FieldType := fun k => match k with
  | 0 => .object "SheetNames$Grid"
  | 1 => .array .int
  | 2 => .array .int
  | 3 => .array .int
  | 4 => .int
  | 5 => .int
  | 6 => .int
  | 7 => .int
  | 8 => .int
  | 9 => .int
  | _ => .boolean
abbrev wsX60 : List Cond := u_ws RX6 TX6 11
theorem nmX6 : ∀ a, a < 11 → ∀ b, b < 11 → a ≠ b → (TX6 a).2.1 ≠ (TX6 b).2.1 := by decide +kernel
theorem tyX6_ok : ∀ k, k < 11 → parseFieldDescriptor (TX6 k).2.2.1 = some (tyX6 k) := by decide +kernel
abbrev cX6_init : ByteArray := prog_8_method_1_code
def yX6_init : MethodName := ⟨RX6, "<init>", "(LSheetNames$Grid;)V"⟩
abbrev cX6_put : ByteArray := prog_8_method_2_code
def yX6_put : MethodName := ⟨RX6, "put", "(II)V"⟩
abbrev cX6_band : ByteArray := prog_8_method_3_code
def yX6_band : MethodName := ⟨RX6, "band", "()I"⟩
abbrev cX6_zone : ByteArray := prog_8_method_4_code
def yX6_zone : MethodName := ⟨RX6, "zone", "()I"⟩
abbrev cX6_numberOf : ByteArray := prog_8_method_5_code
def yX6_numberOf : MethodName := ⟨RX6, "numberOf", "(I)I"⟩
abbrev cX6_edgeTop : ByteArray := prog_8_method_6_code
def yX6_edgeTop : MethodName := ⟨RX6, "edgeTop", "(I)J"⟩
abbrev cX6_edgeBottom : ByteArray := prog_8_method_7_code
def yX6_edgeBottom : MethodName := ⟨RX6, "edgeBottom", "(I)J"⟩
abbrev cX6_middleLat : ByteArray := prog_8_method_8_code
def yX6_middleLat : MethodName := ⟨RX6, "middleLat", "()I"⟩
abbrev cX6_middleLon : ByteArray := prog_8_method_9_code
def yX6_middleLon : MethodName := ⟨RX6, "middleLon", "()I"⟩
abbrev cX6_piecesAt : ByteArray := prog_8_method_10_code
def yX6_piecesAt : MethodName := ⟨RX6, "piecesAt", "(I)I"⟩
abbrev cX6_pieceAt : ByteArray := prog_8_method_11_code
def yX6_pieceAt : MethodName := ⟨RX6, "pieceAt", "(II)I"⟩
abbrev cX6_lookAround : ByteArray := prog_8_method_12_code
def yX6_lookAround : MethodName := ⟨RX6, "lookAround", "()V"⟩
abbrev cX6_lookAcross : ByteArray := prog_8_method_13_code
def yX6_lookAcross : MethodName := ⟨RX6, "lookAcross", "(II)V"⟩
abbrev cX6_lookAlong : ByteArray := prog_8_method_14_code
def yX6_lookAlong : MethodName := ⟨RX6, "lookAlong", "(II)V"⟩
abbrev cX6_allBeside : ByteArray := prog_8_method_15_code
def yX6_allBeside : MethodName := ⟨RX6, "allBeside", "()I"⟩
abbrev cX6_besideKey : ByteArray := prog_8_method_16_code
def yX6_besideKey : MethodName := ⟨RX6, "besideKey", "(I)I"⟩
abbrev cX6_lookAtCorners : ByteArray := prog_8_method_17_code
def yX6_lookAtCorners : MethodName := ⟨RX6, "lookAtCorners", "()V"⟩
abbrev cX6_addCorners : ByteArray := prog_8_method_18_code
def yX6_addCorners : MethodName := ⟨RX6, "addCorners", "(I)V"⟩
abbrev cX6_addCorner : ByteArray := prog_8_method_19_code
def yX6_addCorner : MethodName := ⟨RX6, "addCorner", "(I)V"⟩
def RX7 : String := "SheetNames$Store"
def TX7 : u_T := fun k => match k with
  | 0 => ("SheetNames$Store", "grid", "LSheetNames$Grid;", true)
  | 1 => ("SheetNames$Store", "levels", "[I", true)
  | 2 => ("SheetNames$Store", "keys", "[I", true)
  | 3 => ("SheetNames$Store", "years", "[I", true)
  | 4 => ("SheetNames$Store", "keysThere", "[I", true)
  | 5 => ("SheetNames$Store", "size", "I", false)
  | 6 => ("SheetNames$Store", "shownBy", "I", false)
  | 7 => ("SheetNames$Store", "deepestShown", "I", false)
  | _ => ("SheetNames$Store", "latestShown", "I", false)
def tyX7 : Nat → FieldType := fun k => match k with
  | 0 => .object "SheetNames$Grid"
  | 1 => .array .int
  | 2 => .array .int
  | 3 => .array .int
  | 4 => .array .int
  | 5 => .int
  | 6 => .int
  | 7 => .int
  | _ => .int
abbrev wsX70 : List Cond := u_ws RX7 TX7 9
theorem nmX7 : ∀ a, a < 9 → ∀ b, b < 9 → a ≠ b → (TX7 a).2.1 ≠ (TX7 b).2.1 := by decide +kernel
theorem tyX7_ok : ∀ k, k < 9 → parseFieldDescriptor (TX7 k).2.2.1 = some (tyX7 k) := by decide +kernel
abbrev cX7_init : ByteArray := prog_9_method_1_code
def yX7_init : MethodName := ⟨RX7, "<init>", "(LSheetNames$Grid;)V"⟩
abbrev cX7_find : ByteArray := prog_9_method_2_code
def yX7_find : MethodName := ⟨RX7, "find", "(II)I"⟩
abbrev cX7_put : ByteArray := prog_9_method_3_code
def yX7_put : MethodName := ⟨RX7, "put", "(III)Z"⟩
abbrev cX7_isBehind : ByteArray := prog_9_method_4_code
def yX7_isBehind : MethodName := ⟨RX7, "isBehind", "(III)Z"⟩
abbrev cX7_move : ByteArray := prog_9_method_5_code
def yX7_move : MethodName := ⟨RX7, "move", "(II)V"⟩
abbrev cX7_remove : ByteArray := prog_9_method_6_code
def yX7_remove : MethodName := ⟨RX7, "remove", "(I)V"⟩
abbrev cX7_lookAt : ByteArray := prog_9_method_7_code
def yX7_lookAt : MethodName := ⟨RX7, "lookAt", "(II)V"⟩
abbrev cX7_isNeedless : ByteArray := prog_9_method_8_code
def yX7_isNeedless : MethodName := ⟨RX7, "isNeedless", "(I)Z"⟩
abbrev cX7_copyFrom : ByteArray := prog_9_method_9_code
def yX7_copyFrom : MethodName := ⟨RX7, "copyFrom", "(LSheetNames$Store;)V"⟩
def RX8 : String := "SheetNames$Tape"
def TX8 : u_T := fun k => match k with
  | 0 => ("SheetNames$Tape", "bytes", "[I", true)
  | _ => ("SheetNames$Tape", "length", "I", false)
def tyX8 : Nat → FieldType := fun k => match k with
  | 0 => .array .int
  | _ => .int
abbrev wsX80 : List Cond := u_ws RX8 TX8 2
theorem nmX8 : ∀ a, a < 2 → ∀ b, b < 2 → a ≠ b → (TX8 a).2.1 ≠ (TX8 b).2.1 := by decide +kernel
theorem tyX8_ok : ∀ k, k < 2 → parseFieldDescriptor (TX8 k).2.2.1 = some (tyX8 k) := by decide +kernel
abbrev cX8_init : ByteArray := prog_10_method_1_code
def yX8_init : MethodName := ⟨RX8, "<init>", "()V"⟩
abbrev cX8_add : ByteArray := prog_10_method_2_code
def yX8_add : MethodName := ⟨RX8, "add", "(I)V"⟩
abbrev cX8_isWord : ByteArray := prog_10_method_3_code
def yX8_isWord : MethodName := ⟨RX8, "isWord", "(Ljava/lang/String;I)Z"⟩
abbrev cX8_blankFrom : ByteArray := prog_10_method_4_code
def yX8_blankFrom : MethodName := ⟨RX8, "blankFrom", "(II)I"⟩
def RX9 : String := "SheetNames$Walk"
def TX9 : u_T := fun k => match k with
  | 0 => ("SheetNames$Walk", "spot", "LSheetNames$Spot;", true)
  | 1 => ("SheetNames$Walk", "steps", "[I", false)
  | 2 => ("SheetNames$Walk", "reached", "[I", false)
  | _ => ("SheetNames$Walk", "many", "I", false)
def tyX9 : Nat → FieldType := fun k => match k with
  | 0 => .object "SheetNames$Spot"
  | 1 => .array .int
  | 2 => .array .int
  | _ => .int
abbrev wsX90 : List Cond := u_ws RX9 TX9 4
theorem nmX9 : ∀ a, a < 4 → ∀ b, b < 4 → a ≠ b → (TX9 a).2.1 ≠ (TX9 b).2.1 := by decide +kernel
theorem tyX9_ok : ∀ k, k < 4 → parseFieldDescriptor (TX9 k).2.2.1 = some (tyX9 k) := by decide +kernel
abbrev cX9_init : ByteArray := prog_11_method_1_code
def yX9_init : MethodName := ⟨RX9, "<init>", "(LSheetNames$Grid;)V"⟩
abbrev cX9_spread : ByteArray := prog_11_method_2_code
def yX9_spread : MethodName := ⟨RX9, "spread", "(II)V"⟩
abbrev cX9_makeRoom : ByteArray := prog_11_method_3_code
def yX9_makeRoom : MethodName := ⟨RX9, "makeRoom", "(I)V"⟩
abbrev cX9_spreadOn : ByteArray := prog_11_method_4_code
def yX9_spreadOn : MethodName := ⟨RX9, "spreadOn", "(II)I"⟩
abbrev cX9_stepsTo : ByteArray := prog_11_method_5_code
def yX9_stepsTo : MethodName := ⟨RX9, "stepsTo", "(I)I"⟩
abbrev cX9_within : ByteArray := prog_11_method_6_code
def yX9_within : MethodName := ⟨RX9, "within", "(I)I"⟩
abbrev cX9_farthestKey : ByteArray := prog_11_method_7_code
def yX9_farthestKey : MethodName := ⟨RX9, "farthestKey", "()I"⟩
abbrev cX9_onTheWay : ByteArray := prog_11_method_8_code
def yX9_onTheWay : MethodName := ⟨RX9, "onTheWay", "(III)I"⟩
abbrev cX9_nearer : ByteArray := prog_11_method_9_code
def yX9_nearer : MethodName := ⟨RX9, "nearer", "(I)I"⟩
def RX10 : String := "SheetNames"
def TX10 : u_T := fun k => match k with
  | 0 => ("SheetNames", "now", "LSheetNames$Atlas;", true)
  | 1 => ("SheetNames", "grid", "LSheetNames$Grid;", true)
  | 2 => ("SheetNames", "pieces", "LSheetNames$Store;", true)
  | 3 => ("SheetNames", "kept", "[LSheetNames$Atlas;", true)
  | 4 => ("SheetNames", "keptStates", "I", false)
  | 5 => ("SheetNames", "tape", "LSheetNames$Tape;", true)
  | 6 => ("SheetNames", "reader", "LSheetNames$NameReader;", true)
  | 7 => ("SheetNames", "question", "LSheetNames$Question;", true)
  | 8 => ("SheetNames", "spot", "LSheetNames$Spot;", true)
  | 9 => ("SheetNames", "walk", "LSheetNames$Walk;", true)
  | 10 => ("SheetNames", "area", "LSheetNames$Box;", true)
  | 11 => ("SheetNames", "text", "LSheetNames$NameText;", true)
  | 12 => ("SheetNames", "otherText", "LSheetNames$NameText;", true)
  | _ => ("SheetNames", "seen", "[I", true)
def tyX10 : Nat → FieldType := fun k => match k with
  | 0 => .object "SheetNames$Atlas"
  | 1 => .object "SheetNames$Grid"
  | 2 => .object "SheetNames$Store"
  | 3 => .array (.object "SheetNames$Atlas")
  | 4 => .int
  | 5 => .object "SheetNames$Tape"
  | 6 => .object "SheetNames$NameReader"
  | 7 => .object "SheetNames$Question"
  | 8 => .object "SheetNames$Spot"
  | 9 => .object "SheetNames$Walk"
  | 10 => .object "SheetNames$Box"
  | 11 => .object "SheetNames$NameText"
  | 12 => .object "SheetNames$NameText"
  | _ => .array .int
abbrev wsX100 : List Cond := u_ws RX10 TX10 14
theorem nmX10 : ∀ a, a < 14 → ∀ b, b < 14 → a ≠ b → (TX10 a).2.1 ≠ (TX10 b).2.1 := by decide +kernel
theorem tyX10_ok : ∀ k, k < 14 → parseFieldDescriptor (TX10 k).2.2.1 = some (tyX10 k) := by decide +kernel
abbrev cX10_init : ByteArray := prog_1_method_1_code
def yX10_init : MethodName := ⟨RX10, "<init>", "()V"⟩
abbrev cX10_feed : ByteArray := prog_1_method_2_code
def yX10_feed : MethodName := ⟨RX10, "feed", "(IIIII)I"⟩
abbrev cX10_cut : ByteArray := prog_1_method_3_code
def yX10_cut : MethodName := ⟨RX10, "cut", "(III)I"⟩
abbrev cX10_level : ByteArray := prog_1_method_4_code
def yX10_level : MethodName := ⟨RX10, "level", "(II)I"⟩
abbrev cX10_key : ByteArray := prog_1_method_5_code
def yX10_key : MethodName := ⟨RX10, "key", "(III)I"⟩
abbrev cX10_name : ByteArray := prog_1_method_6_code
def yX10_name : MethodName := ⟨RX10, "name", "(III)I"⟩
abbrev cX10_named : ByteArray := prog_1_method_7_code
def yX10_named : MethodName := ⟨RX10, "named", "(II)I"⟩
abbrev cX10_edge : ByteArray := prog_1_method_8_code
def yX10_edge : MethodName := ⟨RX10, "edge", "(III)J"⟩
abbrev cX10_middle : ByteArray := prog_1_method_9_code
def yX10_middle : MethodName := ⟨RX10, "middle", "(III)I"⟩
abbrev cX10_at : ByteArray := prog_1_method_10_code
def yX10_at : MethodName := ⟨RX10, "at", "(III)I"⟩
abbrev cX10_keyAt : ByteArray := prog_1_method_11_code
def yX10_keyAt : MethodName := ⟨RX10, "keyAt", "(III)I"⟩
abbrev cX10_parent : ByteArray := prog_1_method_12_code
def yX10_parent : MethodName := ⟨RX10, "parent", "(III)I"⟩
abbrev cX10_child : ByteArray := prog_1_method_13_code
def yX10_child : MethodName := ⟨RX10, "child", "(IIII)I"⟩
abbrev cX10_common : ByteArray := prog_1_method_14_code
def yX10_common : MethodName := ⟨RX10, "common", "(IIII)I"⟩
abbrev cX10_neighbour : ByteArray := prog_1_method_15_code
def yX10_neighbour : MethodName := ⟨RX10, "neighbour", "(IIII)I"⟩
abbrev cX10_around : ByteArray := prog_1_method_16_code
def yX10_around : MethodName := ⟨RX10, "around", "(III)I"⟩
abbrev cX10_side : ByteArray := prog_1_method_17_code
def yX10_side : MethodName := ⟨RX10, "side", "(III)I"⟩
abbrev cX10_steps : ByteArray := prog_1_method_18_code
def yX10_steps : MethodName := ⟨RX10, "steps", "(III)I"⟩
abbrev cX10_way : ByteArray := prog_1_method_19_code
def yX10_way : MethodName := ⟨RX10, "way", "(IIII)I"⟩
abbrev cX10_reach : ByteArray := prog_1_method_20_code
def yX10_reach : MethodName := ⟨RX10, "reach", "(III)I"⟩
abbrev cX10_farthest : ByteArray := prog_1_method_21_code
def yX10_farthest : MethodName := ⟨RX10, "farthest", "(III)I"⟩
abbrev cX10_corners : ByteArray := prog_1_method_22_code
def yX10_corners : MethodName := ⟨RX10, "corners", "(III)I"⟩
abbrev cX10_jog : ByteArray := prog_1_method_23_code
def yX10_jog : MethodName := ⟨RX10, "jog", "(III)I"⟩
abbrev cX10_box : ByteArray := prog_1_method_24_code
def yX10_box : MethodName := ⟨RX10, "box", "(IIIIII)I"⟩
abbrev cX10_cover : ByteArray := prog_1_method_25_code
def yX10_cover : MethodName := ⟨RX10, "cover", "(IIIIII)I"⟩
abbrev cX10_between : ByteArray := prog_1_method_26_code
def yX10_between : MethodName := ⟨RX10, "between", "(III)I"⟩
abbrev cX10_wider : ByteArray := prog_1_method_27_code
def yX10_wider : MethodName := ⟨RX10, "wider", "(III)I"⟩
abbrev cX10_before : ByteArray := prog_1_method_28_code
def yX10_before : MethodName := ⟨RX10, "before", "(III)I"⟩
abbrev cX10_moved : ByteArray := prog_1_method_29_code
def yX10_moved : MethodName := ⟨RX10, "moved", "(IIIII)I"⟩
abbrev cX10_ask : ByteArray := prog_1_method_30_code
def yX10_ask : MethodName := ⟨RX10, "ask", "(I)I"⟩
abbrev cX10_answerTo : ByteArray := prog_1_method_31_code
def yX10_answerTo : MethodName := ⟨RX10, "answerTo", "(LSheetNames$Question;)I"⟩
abbrev cX10_store : ByteArray := prog_1_method_32_code
def yX10_store : MethodName := ⟨RX10, "store", "(III)I"⟩
abbrev cX10_drop : ByteArray := prog_1_method_33_code
def yX10_drop : MethodName := ⟨RX10, "drop", "(II)I"⟩
abbrev cX10_piece : ByteArray := prog_1_method_34_code
def yX10_piece : MethodName := ⟨RX10, "piece", "(II)I"⟩
abbrev cX10_shown : ByteArray := prog_1_method_35_code
def yX10_shown : MethodName := ⟨RX10, "shown", "(III)I"⟩
abbrev cX10_lacks : ByteArray := prog_1_method_36_code
def yX10_lacks : MethodName := ⟨RX10, "lacks", "(IIIIIII)I"⟩
abbrev cX10_isLacking : ByteArray := prog_1_method_37_code
def yX10_isLacking : MethodName := ⟨RX10, "isLacking", "(III)Z"⟩
abbrev cX10_years : ByteArray := prog_1_method_38_code
def yX10_years : MethodName := ⟨RX10, "years", "(III)I"⟩
abbrev cX10_renew : ByteArray := prog_1_method_39_code
def yX10_renew : MethodName := ⟨RX10, "renew", "(II)I"⟩
abbrev cX10_oldest : ByteArray := prog_1_method_40_code
def yX10_oldest : MethodName := ⟨RX10, "oldest", "(II)I"⟩
abbrev cX10_tidy : ByteArray := prog_1_method_41_code
def yX10_tidy : MethodName := ⟨RX10, "tidy", "()I"⟩
abbrev cX10_changes : ByteArray := prog_1_method_42_code
def yX10_changes : MethodName := ⟨RX10, "changes", "(IIIIII)I"⟩
abbrev cX10_drawn : ByteArray := prog_1_method_43_code
def yX10_drawn : MethodName := ⟨RX10, "drawn", "(III)I"⟩
abbrev cX10_nextDraw : ByteArray := prog_1_method_44_code
def yX10_nextDraw : MethodName := ⟨RX10, "nextDraw", "(I)I"⟩
abbrev cX10_isSeen : ByteArray := prog_1_method_45_code
def yX10_isSeen : MethodName := ⟨RX10, "isSeen", "(II)Z"⟩
abbrev cX10_bands : ByteArray := prog_1_method_46_code
def yX10_bands : MethodName := ⟨RX10, "bands", "(III)I"⟩
abbrev cX10_count : ByteArray := prog_1_method_47_code
def yX10_count : MethodName := ⟨RX10, "count", "(I)I"⟩
abbrev cX10_keep : ByteArray := prog_1_method_48_code
def yX10_keep : MethodName := ⟨RX10, "keep", "()I"⟩
abbrev cX10_undo : ByteArray := prog_1_method_49_code
def yX10_undo : MethodName := ⟨RX10, "undo", "()I"⟩
abbrev cX10_isFrom : ByteArray := prog_1_method_50_code
def yX10_isFrom : MethodName := ⟨RX10, "isFrom", "(III)Z"⟩
abbrev cX10_isLevel : ByteArray := prog_1_method_51_code
def yX10_isLevel : MethodName := ⟨RX10, "isLevel", "(I)Z"⟩
abbrev cX10_isPlace : ByteArray := prog_1_method_52_code
def yX10_isPlace : MethodName := ⟨RX10, "isPlace", "(II)Z"⟩
abbrev cX10_isBox : ByteArray := prog_1_method_53_code
def yX10_isBox : MethodName := ⟨RX10, "isBox", "(IIII)Z"⟩
abbrev cX10_isInt : ByteArray := prog_1_method_54_code
def yX10_isInt : MethodName := ⟨RX10, "isInt", "(J)Z"⟩
abbrev cX10_areSheets : ByteArray := prog_1_method_55_code
def yX10_areSheets : MethodName := ⟨RX10, "areSheets", "(III)Z"⟩
abbrev cX10_commonDivisor : ByteArray := prog_1_method_56_code
def yX10_commonDivisor : MethodName := ⟨RX10, "commonDivisor", "(JJ)J"⟩
def RX11 : String := "SheetNamesModel"
def TX11 : u_T := fun k => match k with
  | 0 => ("SheetNamesModel", "cutRows", "[I", true)
  | 1 => ("SheetNamesModel", "cutColumns", "[I", true)
  | 2 => ("SheetNamesModel", "deep", "[I", true)
  | 3 => ("SheetNamesModel", "wide", "[I", true)
  | 4 => ("SheetNamesModel", "zonesAhead", "[I", true)
  | 5 => ("SheetNamesModel", "nameOne", "[I", true)
  | 6 => ("SheetNamesModel", "nameOther", "[I", true)
  | 7 => ("SheetNamesModel", "tape", "[B", true)
  | 8 => ("SheetNamesModel", "taped", "I", false)
  | 9 => ("SheetNamesModel", "place", "I", false)
  | 10 => ("SheetNamesModel", "fault", "I", false)
  | 11 => ("SheetNamesModel", "number", "I", false)
  | 12 => ("SheetNamesModel", "levelRead", "I", false)
  | 13 => ("SheetNamesModel", "keyRead", "I", false)
  | 14 => ("SheetNamesModel", "reads", "I", false)
  | 15 => ("SheetNamesModel", "faults", "I", false)
  | 16 => ("SheetNamesModel", "cutShort", "I", false)
  | 17 => ("SheetNamesModel", "noNumber", "I", false)
  | 18 => ("SheetNamesModel", "bottomLat", "J", false)
  | 19 => ("SheetNamesModel", "bottomLon", "J", false)
  | 20 => ("SheetNamesModel", "edges", "[J", true)
  | 21 => ("SheetNamesModel", "firstBeside", "I", false)
  | 22 => ("SheetNamesModel", "manyBeside", "I", false)
  | 23 => ("SheetNamesModel", "dist", "[I", true)
  | 24 => ("SheetNamesModel", "queue", "[I", true)
  | 25 => ("SheetNamesModel", "queued", "I", false)
  | 26 => ("SheetNamesModel", "boxLevel", "I", false)
  | 27 => ("SheetNamesModel", "boxTop", "I", false)
  | 28 => ("SheetNamesModel", "boxBottom", "I", false)
  | 29 => ("SheetNamesModel", "boxWest", "I", false)
  | 30 => ("SheetNamesModel", "boxEast", "I", false)
  | 31 => ("SheetNamesModel", "isEarly", "Z", false)
  | 32 => ("SheetNamesModel", "pieces", "I", false)
  | 33 => ("SheetNamesModel", "states", "I", false)
  | 34 => ("SheetNamesModel", "pieceLevel", "[I", true)
  | 35 => ("SheetNamesModel", "pieceKey", "[I", true)
  | 36 => ("SheetNamesModel", "pieceYear", "[I", true)
  | 37 => ("SheetNamesModel", "drawnNow", "I", false)
  | 38 => ("SheetNamesModel", "drawnKeys", "[I", true)
  | 39 => ("SheetNamesModel", "kept", "[I", true)
  | 40 => ("SheetNamesModel", "keptAt", "I", false)
  | _ => ("SheetNamesModel", "noNumbers", "[I", true)
def tyX11 : Nat → FieldType := fun k => match k with
  | 0 => .array .int
  | 1 => .array .int
  | 2 => .array .int
  | 3 => .array .int
  | 4 => .array .int
  | 5 => .array .int
  | 6 => .array .int
  | 7 => .array .byte
  | 8 => .int
  | 9 => .int
  | 10 => .int
  | 11 => .int
  | 12 => .int
  | 13 => .int
  | 14 => .int
  | 15 => .int
  | 16 => .int
  | 17 => .int
  | 18 => .long
  | 19 => .long
  | 20 => .array .long
  | 21 => .int
  | 22 => .int
  | 23 => .array .int
  | 24 => .array .int
  | 25 => .int
  | 26 => .int
  | 27 => .int
  | 28 => .int
  | 29 => .int
  | 30 => .int
  | 31 => .boolean
  | 32 => .int
  | 33 => .int
  | 34 => .array .int
  | 35 => .array .int
  | 36 => .array .int
  | 37 => .int
  | 38 => .array .int
  | 39 => .array .int
  | 40 => .int
  | _ => .array .int
abbrev wsX110 : List Cond := u_ws RX11 TX11 42
theorem nmX11 : ∀ a, a < 42 → ∀ b, b < 42 → a ≠ b → (TX11 a).2.1 ≠ (TX11 b).2.1 := by decide +kernel
theorem tyX11_ok : ∀ k, k < 42 → parseFieldDescriptor (TX11 k).2.2.1 = some (tyX11 k) := by decide +kernel
abbrev cX11_init : ByteArray := prog_13_method_1_code
def yX11_init : MethodName := ⟨RX11, "<init>", "()V"⟩
abbrev cX11_in : ByteArray := prog_13_method_2_code
def yX11_in : MethodName := ⟨RX11, "in", "(JJJ)Z"⟩
abbrev cX11_isLevel : ByteArray := prog_13_method_3_code
def yX11_isLevel : MethodName := ⟨RX11, "isLevel", "(I)Z"⟩
abbrev cX11_isPlace : ByteArray := prog_13_method_4_code
def yX11_isPlace : MethodName := ⟨RX11, "isPlace", "(II)Z"⟩
abbrev cX11_isSide : ByteArray := prog_13_method_5_code
def yX11_isSide : MethodName := ⟨RX11, "isSide", "(I)Z"⟩
abbrev cX11_down : ByteArray := prog_13_method_6_code
def yX11_down : MethodName := ⟨RX11, "down", "(JJ)J"⟩
abbrev cX11_zonesOf : ByteArray := prog_13_method_7_code
def yX11_zonesOf : MethodName := ⟨RX11, "zonesOf", "(I)I"⟩
abbrev cX11_laysGrids : ByteArray := prog_13_method_8_code
def yX11_laysGrids : MethodName := ⟨RX11, "laysGrids", "()V"⟩
abbrev cX11_sheets : ByteArray := prog_13_method_9_code
def yX11_sheets : MethodName := ⟨RX11, "sheets", "(I)I"⟩
abbrev cX11_rows : ByteArray := prog_13_method_10_code
def yX11_rows : MethodName := ⟨RX11, "rows", "(I)I"⟩
abbrev cX11_isKey : ByteArray := prog_13_method_11_code
def yX11_isKey : MethodName := ⟨RX11, "isKey", "(II)Z"⟩
abbrev cX11_isCap : ByteArray := prog_13_method_12_code
def yX11_isCap : MethodName := ⟨RX11, "isCap", "(II)Z"⟩
abbrev cX11_lastRow : ByteArray := prog_13_method_13_code
def yX11_lastRow : MethodName := ⟨RX11, "lastRow", "(I)I"⟩
abbrev cX11_bandOf : ByteArray := prog_13_method_14_code
def yX11_bandOf : MethodName := ⟨RX11, "bandOf", "(II)I"⟩
abbrev cX11_many : ByteArray := prog_13_method_15_code
def yX11_many : MethodName := ⟨RX11, "many", "(II)I"⟩
abbrev cX11_keyOf : ByteArray := prog_13_method_16_code
def yX11_keyOf : MethodName := ⟨RX11, "keyOf", "(III)I"⟩
abbrev cX11_rowOf : ByteArray := prog_13_method_17_code
def yX11_rowOf : MethodName := ⟨RX11, "rowOf", "(II)I"⟩
abbrev cX11_placeOf : ByteArray := prog_13_method_18_code
def yX11_placeOf : MethodName := ⟨RX11, "placeOf", "(II)I"⟩
abbrev cX11_rowAt : ByteArray := prog_13_method_19_code
def yX11_rowAt : MethodName := ⟨RX11, "rowAt", "(II)I"⟩
abbrev cX11_placeAt : ByteArray := prog_13_method_20_code
def yX11_placeAt : MethodName := ⟨RX11, "placeAt", "(II)I"⟩
abbrev cX11_keyAtPlace : ByteArray := prog_13_method_21_code
def yX11_keyAtPlace : MethodName := ⟨RX11, "keyAtPlace", "(III)I"⟩
abbrev cX11_cut : ByteArray := prog_13_method_22_code
def yX11_cut : MethodName := ⟨RX11, "cut", "(III)I"⟩
abbrev cX11_level : ByteArray := prog_13_method_23_code
def yX11_level : MethodName := ⟨RX11, "level", "(II)I"⟩
abbrev cX11_key : ByteArray := prog_13_method_24_code
def yX11_key : MethodName := ⟨RX11, "key", "(III)I"⟩
abbrev cX11_digitsInto : ByteArray := prog_13_method_25_code
def yX11_digitsInto : MethodName := ⟨RX11, "digitsInto", "([III)I"⟩
abbrev cX11_pieceNumber : ByteArray := prog_13_method_26_code
def yX11_pieceNumber : MethodName := ⟨RX11, "pieceNumber", "(III)I"⟩
abbrev cX11_spells : ByteArray := prog_13_method_27_code
def yX11_spells : MethodName := ⟨RX11, "spells", "(II[I)I"⟩
abbrev cX11_name : ByteArray := prog_13_method_28_code
def yX11_name : MethodName := ⟨RX11, "name", "(III)I"⟩
abbrev cX11_typed4 : ByteArray := prog_13_method_29_code
def yX11_typed4 : MethodName := ⟨RX11, "typed4", "(I)V"⟩
abbrev cX11_feed : ByteArray := prog_13_method_30_code
def yX11_feed : MethodName := ⟨RX11, "feed", "(IIIII)I"⟩
abbrev cX11_wrong : ByteArray := prog_13_method_31_code
def yX11_wrong : MethodName := ⟨RX11, "wrong", "(II)Z"⟩
abbrev cX11_see : ByteArray := prog_13_method_32_code
def yX11_see : MethodName := ⟨RX11, "see", "(I)I"⟩
abbrev cX11_counts : ByteArray := prog_13_method_33_code
def yX11_counts : MethodName := ⟨RX11, "counts", "(II)Z"⟩
abbrev cX11_readsName : ByteArray := prog_13_method_34_code
def yX11_readsName : MethodName := ⟨RX11, "readsName", "(I)Z"⟩
abbrev cX11_counted : ByteArray := prog_13_method_35_code
def yX11_counted : MethodName := ⟨RX11, "counted", "(ZZ)Z"⟩
abbrev cX11_named : ByteArray := prog_13_method_36_code
def yX11_named : MethodName := ⟨RX11, "named", "(II)I"⟩
abbrev cX11_common : ByteArray := prog_13_method_37_code
def yX11_common : MethodName := ⟨RX11, "common", "(JJ)J"⟩
abbrev cX11_laysEdges : ByteArray := prog_13_method_38_code
def yX11_laysEdges : MethodName := ⟨RX11, "laysEdges", "(II)V"⟩
abbrev cX11_edge : ByteArray := prog_13_method_39_code
def yX11_edge : MethodName := ⟨RX11, "edge", "(III)J"⟩
abbrev cX11_middleOf : ByteArray := prog_13_method_40_code
def yX11_middleOf : MethodName := ⟨RX11, "middleOf", "(III)I"⟩
abbrev cX11_middle : ByteArray := prog_13_method_41_code
def yX11_middle : MethodName := ⟨RX11, "middle", "(III)I"⟩
abbrev cX11_at : ByteArray := prog_13_method_42_code
def yX11_at : MethodName := ⟨RX11, "at", "(III)I"⟩
abbrev cX11_keyAt : ByteArray := prog_13_method_43_code
def yX11_keyAt : MethodName := ⟨RX11, "keyAt", "(III)I"⟩
abbrev cX11_parentOf : ByteArray := prog_13_method_44_code
def yX11_parentOf : MethodName := ⟨RX11, "parentOf", "(III)I"⟩
abbrev cX11_parent : ByteArray := prog_13_method_45_code
def yX11_parent : MethodName := ⟨RX11, "parent", "(III)I"⟩
abbrev cX11_child : ByteArray := prog_13_method_46_code
def yX11_child : MethodName := ⟨RX11, "child", "(IIII)I"⟩
abbrev cX11_common_ : ByteArray := prog_13_method_47_code
def yX11_common_ : MethodName := ⟨RX11, "common", "(IIII)I"⟩
abbrev cX11_laysBeside : ByteArray := prog_13_method_48_code
def yX11_laysBeside : MethodName := ⟨RX11, "laysBeside", "(III)V"⟩
abbrev cX11_neighbour : ByteArray := prog_13_method_49_code
def yX11_neighbour : MethodName := ⟨RX11, "neighbour", "(IIII)I"⟩
abbrev cX11_besideAll : ByteArray := prog_13_method_50_code
def yX11_besideAll : MethodName := ⟨RX11, "besideAll", "(III)I"⟩
abbrev cX11_allBeside : ByteArray := prog_13_method_51_code
def yX11_allBeside : MethodName := ⟨RX11, "allBeside", "(II)I"⟩
abbrev cX11_around : ByteArray := prog_13_method_52_code
def yX11_around : MethodName := ⟨RX11, "around", "(III)I"⟩
abbrev cX11_side : ByteArray := prog_13_method_53_code
def yX11_side : MethodName := ⟨RX11, "side", "(III)I"⟩
abbrev cX11_meets : ByteArray := prog_13_method_54_code
def yX11_meets : MethodName := ⟨RX11, "meets", "(II)V"⟩
abbrev cX11_laysSteps : ByteArray := prog_13_method_55_code
def yX11_laysSteps : MethodName := ⟨RX11, "laysSteps", "(II)V"⟩
abbrev cX11_isGreat : ByteArray := prog_13_method_56_code
def yX11_isGreat : MethodName := ⟨RX11, "isGreat", "(I)Z"⟩
abbrev cX11_stepsOf : ByteArray := prog_13_method_57_code
def yX11_stepsOf : MethodName := ⟨RX11, "stepsOf", "(III)I"⟩
abbrev cX11_steps : ByteArray := prog_13_method_58_code
def yX11_steps : MethodName := ⟨RX11, "steps", "(III)I"⟩
abbrev cX11_nearer : ByteArray := prog_13_method_59_code
def yX11_nearer : MethodName := ⟨RX11, "nearer", "(II)I"⟩
abbrev cX11_way : ByteArray := prog_13_method_60_code
def yX11_way : MethodName := ⟨RX11, "way", "(IIII)I"⟩
abbrev cX11_reach : ByteArray := prog_13_method_61_code
def yX11_reach : MethodName := ⟨RX11, "reach", "(III)I"⟩
abbrev cX11_farthest : ByteArray := prog_13_method_62_code
def yX11_farthest : MethodName := ⟨RX11, "farthest", "(III)I"⟩
abbrev cX11_cornerOf : ByteArray := prog_13_method_63_code
def yX11_cornerOf : MethodName := ⟨RX11, "cornerOf", "(IIII)I"⟩
abbrev cX11_corners : ByteArray := prog_13_method_64_code
def yX11_corners : MethodName := ⟨RX11, "corners", "(III)I"⟩
abbrev cX11_jog : ByteArray := prog_13_method_65_code
def yX11_jog : MethodName := ⟨RX11, "jog", "(III)I"⟩
abbrev cX11_isBox : ByteArray := prog_13_method_66_code
def yX11_isBox : MethodName := ⟨RX11, "isBox", "(IIII)Z"⟩
abbrev cX11_laysBox : ByteArray := prog_13_method_67_code
def yX11_laysBox : MethodName := ⟨RX11, "laysBox", "(IIIII)V"⟩
abbrev cX11_westOf : ByteArray := prog_13_method_68_code
def yX11_westOf : MethodName := ⟨RX11, "westOf", "(I)I"⟩
abbrev cX11_boxMany : ByteArray := prog_13_method_69_code
def yX11_boxMany : MethodName := ⟨RX11, "boxMany", "(I)I"⟩
abbrev cX11_boxAll : ByteArray := prog_13_method_70_code
def yX11_boxAll : MethodName := ⟨RX11, "boxAll", "()I"⟩
abbrev cX11_boxKey : ByteArray := prog_13_method_71_code
def yX11_boxKey : MethodName := ⟨RX11, "boxKey", "(I)I"⟩
abbrev cX11_box : ByteArray := prog_13_method_72_code
def yX11_box : MethodName := ⟨RX11, "box", "(IIIIII)I"⟩
abbrev cX11_isWhole : ByteArray := prog_13_method_73_code
def yX11_isWhole : MethodName := ⟨RX11, "isWhole", "(III)Z"⟩
abbrev cX11_covers : ByteArray := prog_13_method_74_code
def yX11_covers : MethodName := ⟨RX11, "covers", "(I)I"⟩
abbrev cX11_isWholeAbove : ByteArray := prog_13_method_75_code
def yX11_isWholeAbove : MethodName := ⟨RX11, "isWholeAbove", "(III)Z"⟩
abbrev cX11_cover : ByteArray := prog_13_method_76_code
def yX11_cover : MethodName := ⟨RX11, "cover", "(IIIIII)I"⟩
abbrev cX11_betweenOf : ByteArray := prog_13_method_77_code
def yX11_betweenOf : MethodName := ⟨RX11, "betweenOf", "(III)I"⟩
abbrev cX11_between : ByteArray := prog_13_method_78_code
def yX11_between : MethodName := ⟨RX11, "between", "(III)I"⟩
abbrev cX11_wider : ByteArray := prog_13_method_79_code
def yX11_wider : MethodName := ⟨RX11, "wider", "(III)I"⟩
abbrev cX11_before : ByteArray := prog_13_method_80_code
def yX11_before : MethodName := ⟨RX11, "before", "(III)I"⟩
abbrev cX11_moved : ByteArray := prog_13_method_81_code
def yX11_moved : MethodName := ⟨RX11, "moved", "(IIIII)I"⟩
abbrev cX11_blankFrom : ByteArray := prog_13_method_82_code
def yX11_blankFrom : MethodName := ⟨RX11, "blankFrom", "(II)I"⟩
abbrev cX11_wordTo : ByteArray := prog_13_method_83_code
def yX11_wordTo : MethodName := ⟨RX11, "wordTo", "(I)J"⟩
abbrev cX11_readsUpTo : ByteArray := prog_13_method_84_code
def yX11_readsUpTo : MethodName := ⟨RX11, "readsUpTo", "(I)Z"⟩
abbrev cX11_besideFirst : ByteArray := prog_13_method_85_code
def yX11_besideFirst : MethodName := ⟨RX11, "besideFirst", "(I)I"⟩
abbrev cX11_answersTwo : ByteArray := prog_13_method_86_code
def yX11_answersTwo : MethodName := ⟨RX11, "answersTwo", "(ZI)I"⟩
abbrev cX11_answersOne : ByteArray := prog_13_method_87_code
def yX11_answersOne : MethodName := ⟨RX11, "answersOne", "(JI)I"⟩
abbrev cX11_ask : ByteArray := prog_13_method_88_code
def yX11_ask : MethodName := ⟨RX11, "ask", "(I)I"⟩
abbrev cX11_slotOf : ByteArray := prog_13_method_89_code
def yX11_slotOf : MethodName := ⟨RX11, "slotOf", "(II)I"⟩
abbrev cX11_isPiece : ByteArray := prog_13_method_90_code
def yX11_isPiece : MethodName := ⟨RX11, "isPiece", "(III)Z"⟩
abbrev cX11_puts : ByteArray := prog_13_method_91_code
def yX11_puts : MethodName := ⟨RX11, "puts", "(IIII)V"⟩
abbrev cX11_removes : ByteArray := prog_13_method_92_code
def yX11_removes : MethodName := ⟨RX11, "removes", "(I)V"⟩
abbrev cX11_isYear : ByteArray := prog_13_method_93_code
def yX11_isYear : MethodName := ⟨RX11, "isYear", "(I)Z"⟩
abbrev cX11_store : ByteArray := prog_13_method_94_code
def yX11_store : MethodName := ⟨RX11, "store", "(III)I"⟩
abbrev cX11_drop : ByteArray := prog_13_method_95_code
def yX11_drop : MethodName := ⟨RX11, "drop", "(II)I"⟩
abbrev cX11_piece : ByteArray := prog_13_method_96_code
def yX11_piece : MethodName := ⟨RX11, "piece", "(II)I"⟩
abbrev cX11_shownOf : ByteArray := prog_13_method_97_code
def yX11_shownOf : MethodName := ⟨RX11, "shownOf", "(III)I"⟩
abbrev cX11_shown : ByteArray := prog_13_method_98_code
def yX11_shown : MethodName := ⟨RX11, "shown", "(III)I"⟩
abbrev cX11_isAnyYear : ByteArray := prog_13_method_99_code
def yX11_isAnyYear : MethodName := ⟨RX11, "isAnyYear", "(I)Z"⟩
abbrev cX11_isLacking : ByteArray := prog_13_method_100_code
def yX11_isLacking : MethodName := ⟨RX11, "isLacking", "(III)Z"⟩
abbrev cX11_lacks : ByteArray := prog_13_method_101_code
def yX11_lacks : MethodName := ⟨RX11, "lacks", "(IIIIIII)I"⟩
abbrev cX11_years : ByteArray := prog_13_method_102_code
def yX11_years : MethodName := ⟨RX11, "years", "(III)I"⟩
abbrev cX11_renew : ByteArray := prog_13_method_103_code
def yX11_renew : MethodName := ⟨RX11, "renew", "(II)I"⟩
abbrev cX11_oldest : ByteArray := prog_13_method_104_code
def yX11_oldest : MethodName := ⟨RX11, "oldest", "(II)I"⟩
abbrev cX11_isNeedless : ByteArray := prog_13_method_105_code
def yX11_isNeedless : MethodName := ⟨RX11, "isNeedless", "(I)Z"⟩
abbrev cX11_tidy : ByteArray := prog_13_method_106_code
def yX11_tidy : MethodName := ⟨RX11, "tidy", "()I"⟩
abbrev cX11_changes : ByteArray := prog_13_method_107_code
def yX11_changes : MethodName := ⟨RX11, "changes", "(IIIIII)I"⟩
abbrev cX11_draw : ByteArray := prog_13_method_108_code
def yX11_draw : MethodName := ⟨RX11, "draw", "(I)I"⟩
abbrev cX11_drawn : ByteArray := prog_13_method_109_code
def yX11_drawn : MethodName := ⟨RX11, "drawn", "(III)I"⟩
abbrev cX11_bands : ByteArray := prog_13_method_110_code
def yX11_bands : MethodName := ⟨RX11, "bands", "(III)I"⟩
abbrev cX11_count : ByteArray := prog_13_method_111_code
def yX11_count : MethodName := ⟨RX11, "count", "(I)I"⟩
abbrev cX11_keeps : ByteArray := prog_13_method_112_code
def yX11_keeps : MethodName := ⟨RX11, "keeps", "(I)V"⟩
abbrev cX11_tells : ByteArray := prog_13_method_113_code
def yX11_tells : MethodName := ⟨RX11, "tells", "()I"⟩
abbrev cX11_keep : ByteArray := prog_13_method_114_code
def yX11_keep : MethodName := ⟨RX11, "keep", "()I"⟩
abbrev cX11_undo : ByteArray := prog_13_method_115_code
def yX11_undo : MethodName := ⟨RX11, "undo", "()I"⟩
def RJ6 : String := "java/lang/Integer"
def TJ6 : u_T := fun k => match k with
  | _ => ("", "", "", false)
def tyJ6 : Nat → FieldType := fun k => match k with
  | _ => .int
abbrev wsJ60 : List Cond := u_ws RJ6 TJ6 0
theorem nmJ6 : ∀ a, a < 0 → ∀ b, b < 0 → a ≠ b → (TJ6 a).2.1 ≠ (TJ6 b).2.1 := by decide +kernel
theorem tyJ6_ok : ∀ k, k < 0 → parseFieldDescriptor (TJ6 k).2.2.1 = some (tyJ6 k) := by decide +kernel
abbrev cJ6_compare_7cf53 : ByteArray := prog_14_method_40_code
def yJ6_compare_7cf53 : MethodName := ⟨RJ6, "compare", "(II)I"⟩
def RJ9 : String := "java/lang/Math"
def TJ9 : u_T := fun k => match k with
  | _ => ("", "", "", false)
def tyJ9 : Nat → FieldType := fun k => match k with
  | _ => .int
abbrev wsJ90 : List Cond := u_ws RJ9 TJ9 0
theorem nmJ9 : ∀ a, a < 0 → ∀ b, b < 0 → a ≠ b → (TJ9 a).2.1 ≠ (TJ9 b).2.1 := by decide +kernel
theorem tyJ9_ok : ∀ k, k < 0 → parseFieldDescriptor (TJ9 k).2.2.1 = some (tyJ9 k) := by decide +kernel
abbrev cJ9_floorDiv_7cf53 : ByteArray := prog_15_method_47_code
def yJ9_floorDiv_7cf53 : MethodName := ⟨RJ9, "floorDiv", "(II)I"⟩
abbrev cJ9_floorDiv_f86c9 : ByteArray := prog_15_method_49_code
def yJ9_floorDiv_f86c9 : MethodName := ⟨RJ9, "floorDiv", "(JJ)J"⟩
abbrev cJ9_floorMod_7cf53 : ByteArray := prog_15_method_50_code
def yJ9_floorMod_7cf53 : MethodName := ⟨RJ9, "floorMod", "(II)I"⟩
abbrev cJ9_floorMod_f86c9 : ByteArray := prog_15_method_52_code
def yJ9_floorMod_f86c9 : MethodName := ⟨RJ9, "floorMod", "(JJ)J"⟩
abbrev cJ9_abs_067f4 : ByteArray := prog_15_method_61_code
def yJ9_abs_067f4 : MethodName := ⟨RJ9, "abs", "(J)J"⟩
abbrev cJ9_max_7cf53 : ByteArray := prog_15_method_65_code
def yJ9_max_7cf53 : MethodName := ⟨RJ9, "max", "(II)I"⟩
abbrev cJ9_min_7cf53 : ByteArray := prog_15_method_69_code
def yJ9_min_7cf53 : MethodName := ⟨RJ9, "min", "(II)I"⟩
def RJ0 : String := "java/lang/String"
def TJ0 : u_T := fun k => match k with
  | _ => ("", "", "", false)
def tyJ0 : Nat → FieldType := fun k => match k with
  | _ => .int
abbrev wsJ00 : List Cond := u_ws RJ0 TJ0 0
theorem nmJ0 : ∀ a, a < 0 → ∀ b, b < 0 → a ≠ b → (TJ0 a).2.1 ≠ (TJ0 b).2.1 := by decide +kernel
theorem tyJ0_ok : ∀ k, k < 0 → parseFieldDescriptor (TJ0 k).2.2.1 = some (tyJ0 k) := by decide +kernel
abbrev cJ0_length_8abf5 : ByteArray := prog_16_method_54_code
def yJ0_length_8abf5 : MethodName := ⟨RJ0, "length", "()I"⟩
abbrev cJ0_charAt_5068e : ByteArray := prog_16_method_56_code
def yJ0_charAt_5068e : MethodName := ⟨RJ0, "charAt", "(I)C"⟩
abbrev cJ0_coder_7d493 : ByteArray := prog_16_method_152_code
def yJ0_coder_7d493 : MethodName := ⟨RJ0, "coder", "()B"⟩
abbrev cJ0_isLatin1_aae02 : ByteArray := prog_16_method_154_code
def yJ0_isLatin1_aae02 : MethodName := ⟨RJ0, "isLatin1", "()Z"⟩
abbrev cJ0_checkIndex_df160 : ByteArray := prog_16_method_155_code
def yJ0_checkIndex_df160 : MethodName := ⟨RJ0, "checkIndex", "(II)V"⟩
def RJ1 : String := "java/lang/StringLatin1"
def TJ1 : u_T := fun k => match k with
  | _ => ("", "", "", false)
def tyJ1 : Nat → FieldType := fun k => match k with
  | _ => .int
abbrev wsJ10 : List Cond := u_ws RJ1 TJ1 0
theorem nmJ1 : ∀ a, a < 0 → ∀ b, b < 0 → a ≠ b → (TJ1 a).2.1 ≠ (TJ1 b).2.1 := by decide +kernel
theorem tyJ1_ok : ∀ k, k < 0 → parseFieldDescriptor (TJ1 k).2.2.1 = some (tyJ1 k) := by decide +kernel
abbrev cJ1_charAt_3b067 : ByteArray := prog_17_method_2_code
def yJ1_charAt_3b067 : MethodName := ⟨RJ1, "charAt", "([BI)C"⟩
def RJ2 : String := "java/lang/StringUTF16"
def TJ2 : u_T := fun k => match k with
  | _ => ("", "", "", false)
def tyJ2 : Nat → FieldType := fun k => match k with
  | _ => .int
abbrev wsJ20 : List Cond := u_ws RJ2 TJ2 0
theorem nmJ2 : ∀ a, a < 0 → ∀ b, b < 0 → a ≠ b → (TJ2 a).2.1 ≠ (TJ2 b).2.1 := by decide +kernel
theorem tyJ2_ok : ∀ k, k < 0 → parseFieldDescriptor (TJ2 k).2.2.1 = some (tyJ2 k) := by decide +kernel
abbrev cJ2_getChar_3b067 : ByteArray := prog_18_method_5_code
def yJ2_getChar_3b067 : MethodName := ⟨RJ2, "getChar", "([BI)C"⟩
abbrev cJ2_length_9d52b : ByteArray := prog_18_method_6_code
def yJ2_length_9d52b : MethodName := ⟨RJ2, "length", "([B)I"⟩
abbrev cJ2_charAt_3b067 : ByteArray := prog_18_method_83_code
def yJ2_charAt_3b067 : MethodName := ⟨RJ2, "charAt", "([BI)C"⟩
abbrev cJ2_checkIndex_2214a : ByteArray := prog_18_method_91_code
def yJ2_checkIndex_2214a : MethodName := ⟨RJ2, "checkIndex", "(I[B)V"⟩
def RJ10 : String := "java/lang/System"
def TJ10 : u_T := fun k => match k with
  | _ => ("", "", "", false)
def tyJ10 : Nat → FieldType := fun k => match k with
  | _ => .int
abbrev wsJ100 : List Cond := u_ws RJ10 TJ10 0
theorem nmJ10 : ∀ a, a < 0 → ∀ b, b < 0 → a ≠ b → (TJ10 a).2.1 ≠ (TJ10 b).2.1 := by decide +kernel
theorem tyJ10_ok : ∀ k, k < 0 → parseFieldDescriptor (TJ10 k).2.2.1 = some (tyJ10 k) := by decide +kernel
def RJ3 : String := "jdk/internal/util/Preconditions"
def TJ3 : u_T := fun k => match k with
  | _ => ("", "", "", false)
def tyJ3 : Nat → FieldType := fun k => match k with
  | _ => .int
abbrev wsJ30 : List Cond := u_ws RJ3 TJ3 0
theorem nmJ3 : ∀ a, a < 0 → ∀ b, b < 0 → a ≠ b → (TJ3 a).2.1 ≠ (TJ3 b).2.1 := by decide +kernel
theorem tyJ3_ok : ∀ k, k < 0 → parseFieldDescriptor (TJ3 k).2.2.1 = some (tyJ3 k) := by decide +kernel
abbrev cJ3_checkIndex_8e157 : ByteArray := prog_20_method_11_code
def yJ3_checkIndex_8e157 : MethodName := ⟨RJ3, "checkIndex", "(IILjava/util/function/BiFunction;)I"⟩
def RL : String := "SheetNamesLaw"
abbrev cL_law : ByteArray := code
def yL_law : MethodName := ⟨RL, "law", "([I)Z"⟩
def wsX2_multiply : List Cond := .code yX2_multiply cX2_multiply 4 none :: lw_gd
def wsX2_init : List Cond := .code yX2_init cX2_init 1 none :: lw_gd
def wsX7_init : List Cond := .code yX7_init cX7_init 2 none :: lw_gd
def wsX0_init : List Cond := .code yX0_init cX0_init 1 none :: lw_gd
def wsX0_countText : List Cond := .code yX0_countText cX0_countText 3 none :: lw_gd
def wsX2_copyFrom : List Cond := .code yX2_copyFrom cX2_copyFrom 2 none :: lw_gd
def wsX7_copyFrom : List Cond := .code yX7_copyFrom cX7_copyFrom 2 none :: lw_gd
def wsX0_copyFrom : List Cond := .code yX0_copyFrom cX0_copyFrom 2 none :: lw_gd
def wsX1_init : List Cond := .code yX1_init cX1_init 2 none :: lw_gd
def wsX1_set : List Cond := .code yX1_set cX1_set 5 none :: lw_gd
def wsJ9_floorDiv_f86c9 : List Cond := .code yJ9_floorDiv_f86c9 cJ9_floorDiv_f86c9 6 (some .long) :: lw_gd
def wsX2_rowOfLat : List Cond := .code yX2_rowOfLat cX2_rowOfLat 5 (some .int) :: lw_gd
def wsX1_topRow : List Cond := .code yX1_topRow cX1_topRow 2 (some .int) :: lw_gd
def wsX1_bottomRow : List Cond := .code yX1_bottomRow cX1_bottomRow 2 (some .int) :: lw_gd
def wsX2_rowLength : List Cond := .code yX2_rowLength cX2_rowLength 3 (some .int) :: lw_gd
def wsX2_placeOfLon : List Cond := .code yX2_placeOfLon cX2_placeOfLon 4 (some .int) :: lw_gd
def wsX1_inRow : List Cond := .code yX1_inRow cX1_inRow 6 (some .int) :: lw_gd
def wsX2_rowStart : List Cond := .code yX2_rowStart cX2_rowStart 6 (some .int) :: lw_gd
def wsX1_keyFromWest : List Cond := .code yX1_keyFromWest cX1_keyFromWest 5 (some .int) :: lw_gd
def wsX1_beltTop : List Cond := .code yX1_beltTop cX1_beltTop 4 (some .int) :: lw_gd
def wsX1_beltBottom : List Cond := .code yX1_beltBottom cX1_beltBottom 4 (some .int) :: lw_gd
def wsX1_sheetsAt : List Cond := .code yX1_sheetsAt cX1_sheetsAt 6 (some .int) :: lw_gd
def wsX1_sheetAt : List Cond := .code yX1_sheetAt cX1_sheetAt 9 (some .int) :: lw_gd
def wsX1_placeByKeys : List Cond := .code yX1_placeByKeys cX1_placeByKeys 8 (some .int) :: lw_gd
def wsX2_isCapRow : List Cond := .code yX2_isCapRow cX2_isCapRow 3 (some .boolean) :: lw_gd
def wsX2_rowsIn : List Cond := .code yX2_rowsIn cX2_rowsIn 3 (some .int) :: lw_gd
def wsX2_columnsIn : List Cond := .code yX2_columnsIn cX2_columnsIn 3 (some .int) :: lw_gd
def wsJ9_floorMod_7cf53 : List Cond := .code yJ9_floorMod_7cf53 cJ9_floorMod_7cf53 3 (some .int) :: lw_gd
def wsX1_isWhole : List Cond := .code yX1_isWhole cX1_isWhole 11 (some .boolean) :: lw_gd
def wsX1_isCover : List Cond := .code yX1_isCover cX1_isCover 6 (some .boolean) :: lw_gd
def wsX1_coverAt : List Cond := .code yX1_coverAt cX1_coverAt 8 (some .int) :: lw_gd
def wsX1_coverSheet : List Cond := .code yX1_coverSheet cX1_coverSheet 10 (some .int) :: lw_gd
def wsX2_deepestSheetsIf : List Cond := .code yX2_deepestSheetsIf cX2_deepestSheetsIf 7 (some .long) :: lw_gd
def wsX2_setCuts : List Cond := .code yX2_setCuts cX2_setCuts 4 none :: lw_gd
def wsX10_isLevel : List Cond := .code yX10_isLevel cX10_isLevel 1 (some .boolean) :: lw_gd
def wsX2_hasSheet : List Cond := .code yX2_hasSheet cX2_hasSheet 3 (some .boolean) :: lw_gd
def wsX2_storedLevel : List Cond := .code yX2_storedLevel cX2_storedLevel 3 (some .int) :: lw_gd
def wsX2_bandOfZone : List Cond := .code yX2_bandOfZone cX2_bandOfZone 5 (some .int) :: lw_gd
def wsX2_rowOfKey : List Cond := .code yX2_rowOfKey cX2_rowOfKey 6 (some .int) :: lw_gd
def wsX2_keyOf : List Cond := .code yX2_keyOf cX2_keyOf 5 (some .int) :: lw_gd
def wsX2_keyAbove : List Cond := .code yX2_keyAbove cX2_keyAbove 7 (some .int) :: lw_gd
def wsX3_init : List Cond := .code yX3_init cX3_init 3 none :: lw_gd
def wsX3_here : List Cond := .code yX3_here cX3_here 1 (some .int) :: lw_gd
def wsX3_failHere : List Cond := .code yX3_failHere cX3_failHere 1 (some .boolean) :: lw_gd
def wsX3_readCap : List Cond := .code yX3_readCap cX3_readCap 2 (some .boolean) :: lw_gd
def wsX3_isDigit : List Cond := .code yX3_isDigit cX3_isDigit 1 (some .boolean) :: lw_gd
def wsX3_fail : List Cond := .code yX3_fail cX3_fail 3 (some .boolean) :: lw_gd
def wsX3_readNumber : List Cond := .code yX3_readNumber cX3_readNumber 4 (some .int) :: lw_gd
def wsX3_readNumbers : List Cond := .code yX3_readNumbers cX3_readNumbers 6 (some .boolean) :: lw_gd
def wsX3_read : List Cond := .code yX3_read cX3_read 6 (some .boolean) :: lw_gd
def wsX3_failWithoutBlank : List Cond := .code yX3_failWithoutBlank cX3_failWithoutBlank 2 (some .boolean) :: lw_gd
def wsX3_told : List Cond := .code yX3_told cX3_told 1 (some .int) :: lw_gd
def wsX4_init : List Cond := .code yX4_init cX4_init 1 none :: lw_gd
def wsX4_add : List Cond := .code yX4_add cX4_add 2 none :: lw_gd
def wsX6_band : List Cond := .code yX6_band cX6_band 1 (some .int) :: lw_gd
def wsX6_zone : List Cond := .code yX6_zone cX6_zone 1 (some .int) :: lw_gd
def wsX6_numberOf : List Cond := .code yX6_numberOf cX6_numberOf 4 (some .int) :: lw_gd
def wsX4_addNumber : List Cond := .code yX4_addNumber cX4_addNumber 2 none :: lw_gd
def wsX4_write : List Cond := .code yX4_write cX4_write 4 none :: lw_gd
def wsJ6_compare_7cf53 : List Cond := .code yJ6_compare_7cf53 cJ6_compare_7cf53 2 (some .int) :: lw_gd
def wsX4_against : List Cond := .code yX4_against cX4_against 4 (some .int) :: lw_gd
def wsX5_init : List Cond := .code yX5_init cX5_init 3 none :: lw_gd
def wsX8_blankFrom : List Cond := .code yX8_blankFrom cX8_blankFrom 4 (some .int) :: lw_gd
def wsJ0_coder_7d493 : List Cond := .code yJ0_coder_7d493 cJ0_coder_7d493 1 (some .byte) :: lw_gd
def wsJ0_length_8abf5 : List Cond := .code yJ0_length_8abf5 cJ0_length_8abf5 1 (some .int) :: lw_gd
def wsJ0_isLatin1_aae02 : List Cond := .code yJ0_isLatin1_aae02 cJ0_isLatin1_aae02 1 (some .boolean) :: lw_gd
def wsJ3_checkIndex_8e157 : List Cond := .code yJ3_checkIndex_8e157 cJ3_checkIndex_8e157 3 (some .int) :: lw_gd
def wsJ0_checkIndex_df160 : List Cond := .code yJ0_checkIndex_df160 cJ0_checkIndex_df160 2 none :: lw_gd
def wsJ1_charAt_3b067 : List Cond := .code yJ1_charAt_3b067 cJ1_charAt_3b067 2 (some .char) :: lw_gd
def wsJ2_length_9d52b : List Cond := .code yJ2_length_9d52b cJ2_length_9d52b 1 (some .int) :: lw_gd
def wsJ2_checkIndex_2214a : List Cond := .code yJ2_checkIndex_2214a cJ2_checkIndex_2214a 2 none :: lw_gd
def wsJ2_getChar_3b067 : List Cond := .code yJ2_getChar_3b067 cJ2_getChar_3b067 2 (some .char) :: lw_gd
def wsJ2_charAt_3b067 : List Cond := .code yJ2_charAt_3b067 cJ2_charAt_3b067 2 (some .char) :: lw_gd
def wsJ0_charAt_5068e : List Cond := .code yJ0_charAt_5068e cJ0_charAt_5068e 2 (some .char) :: lw_gd
def wsX8_isWord : List Cond := .code yX8_isWord cX8_isWord 4 (some .boolean) :: lw_gd
def wsX5_wordTo : List Cond := .code yX5_wordTo cX5_wordTo 2 (some .int) :: lw_gd
def wsX5_readOther : List Cond := .code yX5_readOther cX5_readOther 3 (some .boolean) :: lw_gd
def wsX5_read : List Cond := .code yX5_read cX5_read 5 (some .boolean) :: lw_gd
def wsX6_init : List Cond := .code yX6_init cX6_init 2 none :: lw_gd
def wsX6_put : List Cond := .code yX6_put cX6_put 3 none :: lw_gd
def wsX6_edgeTop : List Cond := .code yX6_edgeTop cX6_edgeTop 4 (some .long) :: lw_gd
def wsX6_edgeBottom : List Cond := .code yX6_edgeBottom cX6_edgeBottom 2 (some .long) :: lw_gd
def wsX6_middleLat : List Cond := .code yX6_middleLat cX6_middleLat 1 (some .int) :: lw_gd
def wsX6_middleLon : List Cond := .code yX6_middleLon cX6_middleLon 1 (some .int) :: lw_gd
def wsX6_piecesAt : List Cond := .code yX6_piecesAt cX6_piecesAt 2 (some .int) :: lw_gd
def wsX6_pieceAt : List Cond := .code yX6_pieceAt cX6_pieceAt 5 (some .int) :: lw_gd
def wsX6_lookAcross : List Cond := .code yX6_lookAcross cX6_lookAcross 7 none :: lw_gd
def wsX6_lookAlong : List Cond := .code yX6_lookAlong cX6_lookAlong 3 none :: lw_gd
def wsX6_lookAround : List Cond := .code yX6_lookAround cX6_lookAround 1 none :: lw_gd
def wsX6_allBeside : List Cond := .code yX6_allBeside cX6_allBeside 1 (some .int) :: lw_gd
def wsX6_besideKey : List Cond := .code yX6_besideKey cX6_besideKey 3 (some .int) :: lw_gd
def wsX6_addCorner : List Cond := .code yX6_addCorner cX6_addCorner 3 none :: lw_gd
def wsX6_addCorners : List Cond := .code yX6_addCorners cX6_addCorners 8 none :: lw_gd
def wsX6_lookAtCorners : List Cond := .code yX6_lookAtCorners cX6_lookAtCorners 1 none :: lw_gd
def wsX7_find : List Cond := .code yX7_find cX7_find 4 (some .int) :: lw_gd
def wsX7_isBehind : List Cond := .code yX7_isBehind cX7_isBehind 4 (some .boolean) :: lw_gd
def wsX7_move : List Cond := .code yX7_move cX7_move 3 none :: lw_gd
def wsX7_put : List Cond := .code yX7_put cX7_put 6 (some .boolean) :: lw_gd
def wsX7_remove : List Cond := .code yX7_remove cX7_remove 3 none :: lw_gd
def wsX7_lookAt : List Cond := .code yX7_lookAt cX7_lookAt 4 none :: lw_gd
def wsX7_isNeedless : List Cond := .code yX7_isNeedless cX7_isNeedless 3 (some .boolean) :: lw_gd
def wsX8_init : List Cond := .code yX8_init cX8_init 1 none :: lw_gd
def wsX8_add : List Cond := .code yX8_add cX8_add 3 none :: lw_gd
def wsX9_init : List Cond := .code yX9_init cX9_init 2 none :: lw_gd
def wsX9_makeRoom : List Cond := .code yX9_makeRoom cX9_makeRoom 3 none :: lw_gd
def wsX9_spreadOn : List Cond := .code yX9_spreadOn cX9_spreadOn 7 (some .int) :: lw_gd
def wsX9_spread : List Cond := .code yX9_spread cX9_spread 5 none :: lw_gd
def wsX9_stepsTo : List Cond := .code yX9_stepsTo cX9_stepsTo 2 (some .int) :: lw_gd
def wsX9_within : List Cond := .code yX9_within cX9_within 4 (some .int) :: lw_gd
def wsX9_farthestKey : List Cond := .code yX9_farthestKey cX9_farthestKey 3 (some .int) :: lw_gd
def wsX9_nearer : List Cond := .code yX9_nearer cX9_nearer 5 (some .int) :: lw_gd
def wsX9_onTheWay : List Cond := .code yX9_onTheWay cX9_onTheWay 6 (some .int) :: lw_gd
def wsX10_init : List Cond := .code yX10_init cX10_init 2 none :: lw_gd
def wsX10_feed : List Cond := .code yX10_feed cX10_feed 6 (some .int) :: lw_gd
def wsX10_isFrom : List Cond := .code yX10_isFrom cX10_isFrom 3 (some .boolean) :: lw_gd
def wsX10_cut : List Cond := .code yX10_cut cX10_cut 4 (some .int) :: lw_gd
def wsX10_level : List Cond := .code yX10_level cX10_level 3 (some .int) :: lw_gd
def wsX10_isPlace : List Cond := .code yX10_isPlace cX10_isPlace 2 (some .boolean) :: lw_gd
def wsX10_key : List Cond := .code yX10_key cX10_key 4 (some .int) :: lw_gd
def wsX10_name : List Cond := .code yX10_name cX10_name 4 (some .int) :: lw_gd
def wsX10_named : List Cond := .code yX10_named cX10_named 4 (some .int) :: lw_gd
def wsX10_commonDivisor : List Cond := .code yX10_commonDivisor cX10_commonDivisor 11 (some .long) :: lw_gd
def wsX10_edge : List Cond := .code yX10_edge cX10_edge 10 (some .long) :: lw_gd
def wsX10_middle : List Cond := .code yX10_middle cX10_middle 4 (some .int) :: lw_gd
def wsX10_at : List Cond := .code yX10_at cX10_at 4 (some .int) :: lw_gd
def wsX10_keyAt : List Cond := .code yX10_keyAt cX10_keyAt 4 (some .int) :: lw_gd
def wsX10_parent : List Cond := .code yX10_parent cX10_parent 4 (some .int) :: lw_gd
def wsX10_child : List Cond := .code yX10_child cX10_child 6 (some .int) :: lw_gd
def wsX10_common : List Cond := .code yX10_common cX10_common 6 (some .int) :: lw_gd
def wsX10_neighbour : List Cond := .code yX10_neighbour cX10_neighbour 5 (some .int) :: lw_gd
def wsX10_around : List Cond := .code yX10_around cX10_around 4 (some .int) :: lw_gd
def wsX10_areSheets : List Cond := .code yX10_areSheets cX10_areSheets 4 (some .boolean) :: lw_gd
def wsX10_side : List Cond := .code yX10_side cX10_side 5 (some .int) :: lw_gd
def wsX10_steps : List Cond := .code yX10_steps cX10_steps 4 (some .int) :: lw_gd
def wsX10_way : List Cond := .code yX10_way cX10_way 5 (some .int) :: lw_gd
def wsX10_reach : List Cond := .code yX10_reach cX10_reach 4 (some .int) :: lw_gd
def wsX10_farthest : List Cond := .code yX10_farthest cX10_farthest 5 (some .int) :: lw_gd
def wsX10_corners : List Cond := .code yX10_corners cX10_corners 4 (some .int) :: lw_gd
def wsX10_jog : List Cond := .code yX10_jog cX10_jog 5 (some .int) :: lw_gd
def wsX10_isBox : List Cond := .code yX10_isBox cX10_isBox 4 (some .boolean) :: lw_gd
def wsX10_box : List Cond := .code yX10_box cX10_box 8 (some .int) :: lw_gd
def wsX10_cover : List Cond := .code yX10_cover cX10_cover 10 (some .int) :: lw_gd
def wsX10_between : List Cond := .code yX10_between cX10_between 7 (some .int) :: lw_gd
def wsX10_wider : List Cond := .code yX10_wider cX10_wider 6 (some .int) :: lw_gd
def wsX10_before : List Cond := .code yX10_before cX10_before 4 (some .int) :: lw_gd
def wsX10_isInt : List Cond := .code yX10_isInt cX10_isInt 2 (some .boolean) :: lw_gd
def wsJ9_floorMod_f86c9 : List Cond := .code yJ9_floorMod_f86c9 cJ9_floorMod_f86c9 6 (some .long) :: lw_gd
def wsX10_moved : List Cond := .code yX10_moved cX10_moved 10 (some .int) :: lw_gd
def wsX10_answerTo : List Cond := .code yX10_answerTo cX10_answerTo 2 (some .int) :: lw_gd
def wsX10_ask : List Cond := .code yX10_ask cX10_ask 3 (some .int) :: lw_gd
def wsX10_store : List Cond := .code yX10_store cX10_store 6 (some .int) :: lw_gd
def wsX10_drop : List Cond := .code yX10_drop cX10_drop 6 (some .int) :: lw_gd
def wsX10_piece : List Cond := .code yX10_piece cX10_piece 3 (some .int) :: lw_gd
def wsX10_shown : List Cond := .code yX10_shown cX10_shown 4 (some .int) :: lw_gd
def wsX10_isLacking : List Cond := .code yX10_isLacking cX10_isLacking 4 (some .boolean) :: lw_gd
def wsX10_lacks : List Cond := .code yX10_lacks cX10_lacks 14 (some .int) :: lw_gd
def wsX10_years : List Cond := .code yX10_years cX10_years 9 (some .int) :: lw_gd
def wsX10_renew : List Cond := .code yX10_renew cX10_renew 5 (some .int) :: lw_gd
def wsX10_oldest : List Cond := .code yX10_oldest cX10_oldest 6 (some .int) :: lw_gd
def wsX10_tidy : List Cond := .code yX10_tidy cX10_tidy 3 (some .int) :: lw_gd
def wsJ9_floorDiv_7cf53 : List Cond := .code yJ9_floorDiv_7cf53 cJ9_floorDiv_7cf53 3 (some .int) :: lw_gd
def wsX10_changes : List Cond := .code yX10_changes cX10_changes 13 (some .int) :: lw_gd
def wsX10_nextDraw : List Cond := .code yX10_nextDraw cX10_nextDraw 1 (some .int) :: lw_gd
def wsX10_isSeen : List Cond := .code yX10_isSeen cX10_isSeen 4 (some .boolean) :: lw_gd
def wsX10_drawn : List Cond := .code yX10_drawn cX10_drawn 10 (some .int) :: lw_gd
def wsX10_bands : List Cond := .code yX10_bands cX10_bands 8 (some .int) :: lw_gd
def wsX10_count : List Cond := .code yX10_count cX10_count 2 (some .int) :: lw_gd
def wsX10_keep : List Cond := .code yX10_keep cX10_keep 1 (some .int) :: lw_gd
def wsX10_undo : List Cond := .code yX10_undo cX10_undo 1 (some .int) :: lw_gd
def wsX11_zonesOf : List Cond := .code yX11_zonesOf cX11_zonesOf 2 (some .int) :: lw_gd
def wsX11_laysGrids : List Cond := .code yX11_laysGrids cX11_laysGrids 2 none :: lw_gd
def wsX11_init : List Cond := .code yX11_init cX11_init 2 none :: lw_gd
def wsX11_in : List Cond := .code yX11_in cX11_in 6 (some .boolean) :: lw_gd
def wsX11_isLevel : List Cond := .code yX11_isLevel cX11_isLevel 1 (some .boolean) :: lw_gd
def wsX11_isPlace : List Cond := .code yX11_isPlace cX11_isPlace 2 (some .boolean) :: lw_gd
def wsX11_isSide : List Cond := .code yX11_isSide cX11_isSide 1 (some .boolean) :: lw_gd
def wsX11_down : List Cond := .code yX11_down cX11_down 4 (some .long) :: lw_gd
def wsX11_sheets : List Cond := .code yX11_sheets cX11_sheets 2 (some .int) :: lw_gd
def wsX11_rows : List Cond := .code yX11_rows cX11_rows 2 (some .int) :: lw_gd
def wsX11_isKey : List Cond := .code yX11_isKey cX11_isKey 3 (some .boolean) :: lw_gd
def wsX11_isCap : List Cond := .code yX11_isCap cX11_isCap 3 (some .boolean) :: lw_gd
def wsX11_lastRow : List Cond := .code yX11_lastRow cX11_lastRow 2 (some .int) :: lw_gd
def wsX11_bandOf : List Cond := .code yX11_bandOf cX11_bandOf 3 (some .int) :: lw_gd
def wsX11_many : List Cond := .code yX11_many cX11_many 3 (some .int) :: lw_gd
def wsX11_keyOf : List Cond := .code yX11_keyOf cX11_keyOf 5 (some .int) :: lw_gd
def wsX11_rowOf : List Cond := .code yX11_rowOf cX11_rowOf 5 (some .int) :: lw_gd
def wsX11_placeOf : List Cond := .code yX11_placeOf cX11_placeOf 3 (some .int) :: lw_gd
def wsX11_rowAt : List Cond := .code yX11_rowAt cX11_rowAt 5 (some .int) :: lw_gd
def wsX11_placeAt : List Cond := .code yX11_placeAt cX11_placeAt 3 (some .int) :: lw_gd
def wsX11_keyAtPlace : List Cond := .code yX11_keyAtPlace cX11_keyAtPlace 5 (some .int) :: lw_gd
def wsX11_cut : List Cond := .code yX11_cut cX11_cut 7 (some .int) :: lw_gd
def wsX11_level : List Cond := .code yX11_level cX11_level 3 (some .int) :: lw_gd
def wsX11_key : List Cond := .code yX11_key cX11_key 4 (some .int) :: lw_gd
def wsX11_digitsInto : List Cond := .code yX11_digitsInto cX11_digitsInto 5 (some .int) :: lw_gd
def wsX11_pieceNumber : List Cond := .code yX11_pieceNumber cX11_pieceNumber 4 (some .int) :: lw_gd
def wsX11_spells : List Cond := .code yX11_spells cX11_spells 10 (some .int) :: lw_gd
def wsX11_name : List Cond := .code yX11_name cX11_name 5 (some .int) :: lw_gd
def wsX11_typed4 : List Cond := .code yX11_typed4 cX11_typed4 3 none :: lw_gd
def wsX11_feed : List Cond := .code yX11_feed cX11_feed 6 (some .int) :: lw_gd
def wsX11_wrong : List Cond := .code yX11_wrong cX11_wrong 3 (some .boolean) :: lw_gd
def wsX11_see : List Cond := .code yX11_see cX11_see 2 (some .int) :: lw_gd
def wsX11_counts : List Cond := .code yX11_counts cX11_counts 4 (some .boolean) :: lw_gd
def wsX11_readsName : List Cond := .code yX11_readsName cX11_readsName 8 (some .boolean) :: lw_gd
def wsX11_counted : List Cond := .code yX11_counted cX11_counted 3 (some .boolean) :: lw_gd
def wsX11_named : List Cond := .code yX11_named cX11_named 4 (some .int) :: lw_gd
def wsX11_common : List Cond := .code yX11_common cX11_common 10 (some .long) :: lw_gd
def wsX11_laysEdges : List Cond := .code yX11_laysEdges cX11_laysEdges 4 none :: lw_gd
def wsX11_edge : List Cond := .code yX11_edge cX11_edge 10 (some .long) :: lw_gd
def wsX11_middleOf : List Cond := .code yX11_middleOf cX11_middleOf 4 (some .int) :: lw_gd
def wsX11_middle : List Cond := .code yX11_middle cX11_middle 4 (some .int) :: lw_gd
def wsX11_at : List Cond := .code yX11_at cX11_at 7 (some .int) :: lw_gd
def wsX11_keyAt : List Cond := .code yX11_keyAt cX11_keyAt 4 (some .int) :: lw_gd
def wsX11_parentOf : List Cond := .code yX11_parentOf cX11_parentOf 4 (some .int) :: lw_gd
def wsX11_parent : List Cond := .code yX11_parent cX11_parent 4 (some .int) :: lw_gd
def wsX11_child : List Cond := .code yX11_child cX11_child 8 (some .int) :: lw_gd
def wsX11_common_ : List Cond := .code yX11_common_ cX11_common_ 6 (some .int) :: lw_gd
def wsX11_laysBeside : List Cond := .code yX11_laysBeside cX11_laysBeside 14 none :: lw_gd
def wsX11_neighbour : List Cond := .code yX11_neighbour cX11_neighbour 5 (some .int) :: lw_gd
def wsX11_besideAll : List Cond := .code yX11_besideAll cX11_besideAll 8 (some .int) :: lw_gd
def wsX11_allBeside : List Cond := .code yX11_allBeside cX11_allBeside 5 (some .int) :: lw_gd
def wsX11_around : List Cond := .code yX11_around cX11_around 5 (some .int) :: lw_gd
def wsX11_side : List Cond := .code yX11_side cX11_side 5 (some .int) :: lw_gd
def wsX11_meets : List Cond := .code yX11_meets cX11_meets 3 none :: lw_gd
def wsX11_laysSteps : List Cond := .code yX11_laysSteps cX11_laysSteps 7 none :: lw_gd
def wsX11_isGreat : List Cond := .code yX11_isGreat cX11_isGreat 2 (some .boolean) :: lw_gd
def wsX11_stepsOf : List Cond := .code yX11_stepsOf cX11_stepsOf 4 (some .int) :: lw_gd
def wsX11_steps : List Cond := .code yX11_steps cX11_steps 4 (some .int) :: lw_gd
def wsX11_nearer : List Cond := .code yX11_nearer cX11_nearer 7 (some .int) :: lw_gd
def wsX11_way : List Cond := .code yX11_way cX11_way 7 (some .int) :: lw_gd
def wsX11_reach : List Cond := .code yX11_reach cX11_reach 6 (some .int) :: lw_gd
def wsX11_farthest : List Cond := .code yX11_farthest cX11_farthest 6 (some .int) :: lw_gd
def wsX11_cornerOf : List Cond := .code yX11_cornerOf cX11_cornerOf 15 (some .int) :: lw_gd
def wsX11_corners : List Cond := .code yX11_corners cX11_corners 11 (some .int) :: lw_gd
def wsX11_jog : List Cond := .code yX11_jog cX11_jog 6 (some .int) :: lw_gd
def wsX11_isBox : List Cond := .code yX11_isBox cX11_isBox 5 (some .boolean) :: lw_gd
def wsX11_laysBox : List Cond := .code yX11_laysBox cX11_laysBox 6 none :: lw_gd
def wsX11_westOf : List Cond := .code yX11_westOf cX11_westOf 2 (some .int) :: lw_gd
def wsX11_boxMany : List Cond := .code yX11_boxMany cX11_boxMany 5 (some .int) :: lw_gd
def wsX11_boxAll : List Cond := .code yX11_boxAll cX11_boxAll 4 (some .int) :: lw_gd
def wsX11_boxKey : List Cond := .code yX11_boxKey cX11_boxKey 5 (some .int) :: lw_gd
def wsX11_box : List Cond := .code yX11_box cX11_box 8 (some .int) :: lw_gd
def wsX11_isWhole : List Cond := .code yX11_isWhole cX11_isWhole 11 (some .boolean) :: lw_gd
def wsX11_isWholeAbove : List Cond := .code yX11_isWholeAbove cX11_isWholeAbove 4 (some .boolean) :: lw_gd
def wsX11_covers : List Cond := .code yX11_covers cX11_covers 13 (some .int) :: lw_gd
def wsX11_cover : List Cond := .code yX11_cover cX11_cover 7 (some .int) :: lw_gd
def wsX11_betweenOf : List Cond := .code yX11_betweenOf cX11_betweenOf 6 (some .int) :: lw_gd
def wsX11_between : List Cond := .code yX11_between cX11_between 4 (some .int) :: lw_gd
def wsX11_wider : List Cond := .code yX11_wider cX11_wider 6 (some .int) :: lw_gd
def wsX11_before : List Cond := .code yX11_before cX11_before 7 (some .int) :: lw_gd
def wsX11_moved : List Cond := .code yX11_moved cX11_moved 10 (some .int) :: lw_gd
def wsX11_blankFrom : List Cond := .code yX11_blankFrom cX11_blankFrom 4 (some .int) :: lw_gd
def wsX11_wordTo : List Cond := .code yX11_wordTo cX11_wordTo 5 (some .long) :: lw_gd
def wsX11_readsUpTo : List Cond := .code yX11_readsUpTo cX11_readsUpTo 3 (some .boolean) :: lw_gd
def wsX11_besideFirst : List Cond := .code yX11_besideFirst cX11_besideFirst 2 (some .int) :: lw_gd
def wsX11_answersTwo : List Cond := .code yX11_answersTwo cX11_answersTwo 7 (some .int) :: lw_gd
def wsX11_answersOne : List Cond := .code yX11_answersOne cX11_answersOne 5 (some .int) :: lw_gd
def wsX11_ask : List Cond := .code yX11_ask cX11_ask 8 (some .int) :: lw_gd
def wsX11_slotOf : List Cond := .code yX11_slotOf cX11_slotOf 4 (some .int) :: lw_gd
def wsX11_isPiece : List Cond := .code yX11_isPiece cX11_isPiece 4 (some .boolean) :: lw_gd
def wsX11_puts : List Cond := .code yX11_puts cX11_puts 5 none :: lw_gd
def wsX11_removes : List Cond := .code yX11_removes cX11_removes 3 none :: lw_gd
def wsX11_isYear : List Cond := .code yX11_isYear cX11_isYear 1 (some .boolean) :: lw_gd
def wsX11_store : List Cond := .code yX11_store cX11_store 8 (some .int) :: lw_gd
def wsX11_drop : List Cond := .code yX11_drop cX11_drop 7 (some .int) :: lw_gd
def wsX11_piece : List Cond := .code yX11_piece cX11_piece 3 (some .int) :: lw_gd
def wsX11_shownOf : List Cond := .code yX11_shownOf cX11_shownOf 8 (some .int) :: lw_gd
def wsX11_shown : List Cond := .code yX11_shown cX11_shown 4 (some .int) :: lw_gd
def wsX11_isAnyYear : List Cond := .code yX11_isAnyYear cX11_isAnyYear 1 (some .boolean) :: lw_gd
def wsX11_isLacking : List Cond := .code yX11_isLacking cX11_isLacking 5 (some .boolean) :: lw_gd
def wsX11_lacks : List Cond := .code yX11_lacks cX11_lacks 12 (some .int) :: lw_gd
def wsX11_years : List Cond := .code yX11_years cX11_years 8 (some .int) :: lw_gd
def wsX11_renew : List Cond := .code yX11_renew cX11_renew 5 (some .int) :: lw_gd
def wsX11_oldest : List Cond := .code yX11_oldest cX11_oldest 6 (some .int) :: lw_gd
def wsX11_isNeedless : List Cond := .code yX11_isNeedless cX11_isNeedless 3 (some .boolean) :: lw_gd
def wsX11_tidy : List Cond := .code yX11_tidy cX11_tidy 3 (some .int) :: lw_gd
def wsX11_changes : List Cond := .code yX11_changes cX11_changes 13 (some .int) :: lw_gd
def wsX11_draw : List Cond := .code yX11_draw cX11_draw 2 (some .int) :: lw_gd
def wsX11_drawn : List Cond := .code yX11_drawn cX11_drawn 10 (some .int) :: lw_gd
def wsX11_bands : List Cond := .code yX11_bands cX11_bands 6 (some .int) :: lw_gd
def wsX11_count : List Cond := .code yX11_count cX11_count 2 (some .int) :: lw_gd
def wsX11_keeps : List Cond := .code yX11_keeps cX11_keeps 2 none :: lw_gd
def wsX11_tells : List Cond := .code yX11_tells cX11_tells 1 (some .int) :: lw_gd
def wsX11_keep : List Cond := .code yX11_keep cX11_keep 2 (some .int) :: lw_gd
def wsX11_undo : List Cond := .code yX11_undo cX11_undo 2 (some .int) :: lw_gd
def wsJ9_abs_067f4 : List Cond := .code yJ9_abs_067f4 cJ9_abs_067f4 2 (some .long) :: lw_gd
def wsJ9_max_7cf53 : List Cond := .code yJ9_max_7cf53 cJ9_max_7cf53 2 (some .int) :: lw_gd
def wsJ9_min_7cf53 : List Cond := .code yJ9_min_7cf53 cJ9_min_7cf53 2 (some .int) :: lw_gd
abbrev wsL_law : List Cond := lw_gd
abbrev vwCl : List vw_C := [(RX0, TX0, 6), (RX1, TX1, 5), (RX2, TX2, 6), (RX3, TX3, 9), (RX4, TX4, 2), (RX5, TX5, 7), (RX6, TX6, 11), (RX7, TX7, 9), (RX8, TX8, 2), (RX9, TX9, 4), (RX10, TX10, 14), (RX11, TX11, 42)]
end
section
/-! the tables' words: one list for every method -/
theorem tm_1 : ∀ w ∈ tables_1_1, goodWord w = true → w ∈ lw_gd := fun _ h g => List.mem_filter.mpr ⟨List.mem_append_right _ (List.mem_append_left _ h), g⟩
theorem tm_2 : ∀ w ∈ tables_1_2, goodWord w = true → w ∈ lw_gd := fun _ h g => List.mem_filter.mpr ⟨List.mem_append_right _ (List.mem_append_right _ (List.mem_append_left _ h)), g⟩
theorem tm_3 : ∀ w ∈ tables_1_3, goodWord w = true → w ∈ lw_gd := fun _ h g => List.mem_filter.mpr ⟨List.mem_append_right _ (List.mem_append_right _ (List.mem_append_right _ (List.mem_append_left _ h))), g⟩
theorem tm_4 : ∀ w ∈ tables_1_4, goodWord w = true → w ∈ lw_gd := fun _ h g => List.mem_filter.mpr ⟨List.mem_append_right _ (List.mem_append_right _ (List.mem_append_right _ (List.mem_append_right _ (List.mem_append_left _ h)))), g⟩
theorem tm_5 : ∀ w ∈ tables_1_5, goodWord w = true → w ∈ lw_gd := fun _ h g => List.mem_filter.mpr ⟨List.mem_append_right _ (List.mem_append_right _ (List.mem_append_right _ (List.mem_append_right _ (List.mem_append_right _ (List.mem_append_left _ h))))), g⟩
theorem tm_6 : ∀ w ∈ tables_1_6, goodWord w = true → w ∈ lw_gd := fun _ h g => List.mem_filter.mpr ⟨List.mem_append_right _ (List.mem_append_right _ (List.mem_append_right _ (List.mem_append_right _ (List.mem_append_right _ (List.mem_append_right _ (List.mem_append_left _ h)))))), g⟩
theorem tm_7 : ∀ w ∈ tables_1_7, goodWord w = true → w ∈ lw_gd := fun _ h g => List.mem_filter.mpr ⟨List.mem_append_right _ (List.mem_append_right _ (List.mem_append_right _ (List.mem_append_right _ (List.mem_append_right _ (List.mem_append_right _ (List.mem_append_right _ (List.mem_append_left _ h))))))), g⟩
theorem tm_8 : ∀ w ∈ tables_1_8, goodWord w = true → w ∈ lw_gd := fun _ h g => List.mem_filter.mpr ⟨List.mem_append_right _ (List.mem_append_right _ (List.mem_append_right _ (List.mem_append_right _ (List.mem_append_right _ (List.mem_append_right _ (List.mem_append_right _ (List.mem_append_right _ (h)))))))), g⟩
theorem tb_1 : ∀ w ∈ tables_1_1, w ∈ lw_tbl := fun w h => List.mem_append_right _ (tq_1 w h)
theorem tb_2 : ∀ w ∈ tables_1_2, w ∈ lw_tbl := fun w h => List.mem_append_right _ (tq_2 w h)
theorem tb_3 : ∀ w ∈ tables_1_3, w ∈ lw_tbl := fun w h => List.mem_append_right _ (tq_3 w h)
theorem tb_4 : ∀ w ∈ tables_1_4, w ∈ lw_tbl := fun w h => List.mem_append_right _ (tq_4 w h)
theorem tb_5 : ∀ w ∈ tables_1_5, w ∈ lw_tbl := fun w h => List.mem_append_right _ (tq_5 w h)
theorem tb_6 : ∀ w ∈ tables_1_6, w ∈ lw_tbl := fun w h => List.mem_append_right _ (tq_6 w h)
theorem tb_7 : ∀ w ∈ tables_1_7, w ∈ lw_tbl := fun w h => List.mem_append_right _ (tq_7 w h)
theorem tb_8 : ∀ w ∈ tables_1_8, w ∈ lw_tbl := fun w h => List.mem_append_right _ (tq_8 w h)
theorem tp_1 {q : MethodName × Nat} (h : q ∈ lw_privs_1) : Cond.selects q.1.cls q.1 q.1 ∈ lw_gd := List.mem_filter.mpr ⟨List.mem_append_left _ (List.mem_map.mpr ⟨q, List.mem_append_left _ h, rfl⟩), rfl⟩
theorem tp_2 {q : MethodName × Nat} (h : q ∈ lw_privs_2) : Cond.selects q.1.cls q.1 q.1 ∈ lw_gd := List.mem_filter.mpr ⟨List.mem_append_left _ (List.mem_map.mpr ⟨q, List.mem_append_right _ (List.mem_append_left _ h), rfl⟩), rfl⟩
theorem tp_3 {q : MethodName × Nat} (h : q ∈ lw_privs_3) : Cond.selects q.1.cls q.1 q.1 ∈ lw_gd := List.mem_filter.mpr ⟨List.mem_append_left _ (List.mem_map.mpr ⟨q, List.mem_append_right _ (List.mem_append_right _ (List.mem_append_left _ h)), rfl⟩), rfl⟩
theorem tp_4 {q : MethodName × Nat} (h : q ∈ lw_privs_4) : Cond.selects q.1.cls q.1 q.1 ∈ lw_gd := List.mem_filter.mpr ⟨List.mem_append_left _ (List.mem_map.mpr ⟨q, List.mem_append_right _ (List.mem_append_right _ (List.mem_append_right _ (List.mem_append_left _ h))), rfl⟩), rfl⟩
theorem tp_5 {q : MethodName × Nat} (h : q ∈ lw_privs_5) : Cond.selects q.1.cls q.1 q.1 ∈ lw_gd := List.mem_filter.mpr ⟨List.mem_append_left _ (List.mem_map.mpr ⟨q, List.mem_append_right _ (List.mem_append_right _ (List.mem_append_right _ (List.mem_append_right _ (List.mem_append_left _ h)))), rfl⟩), rfl⟩
theorem tp_6 {q : MethodName × Nat} (h : q ∈ lw_privs_6) : Cond.selects q.1.cls q.1 q.1 ∈ lw_gd := List.mem_filter.mpr ⟨List.mem_append_left _ (List.mem_map.mpr ⟨q, List.mem_append_right _ (List.mem_append_right _ (List.mem_append_right _ (List.mem_append_right _ (List.mem_append_right _ (h))))), rfl⟩), rfl⟩
theorem lw_good {w : Cond} (h : w ∈ lw_gd) : (w.onTables && w.keeps) = true ∨ ∃ ty, w = .arrayClass ty := good_of_word (List.mem_filter.mp h).2
theorem gw_n {a : Cond} : GoodIn (a :: lw_gd) [] := fun _ h => absurd h List.not_mem_nil
theorem gw_c {a w : Cond} {ws : List Cond} (h : w ∈ lw_gd) (h2 : GoodIn (a :: lw_gd) ws) : GoodIn (a :: lw_gd) (w :: ws) := fun x hx => (List.mem_cons.mp hx).elim (fun e => by rw [e]; exact ⟨List.mem_cons_of_mem _ h, lw_good h⟩) (h2 x)
theorem gw_t {a : Cond} : GoodIn (a :: lw_gd) lw_gd := fun _ h => ⟨List.mem_cons_of_mem _ h, lw_good h⟩
theorem gl_n : GoodIn lw_gd [] := fun _ h => absurd h List.not_mem_nil
theorem gl_c {w : Cond} {ws : List Cond} (h : w ∈ lw_gd) (h2 : GoodIn lw_gd ws) : GoodIn lw_gd (w :: ws) := fun x hx => (List.mem_cons.mp hx).elim (fun e => by rw [e]; exact ⟨h, lw_good h⟩) (h2 x)
theorem gl_t : GoodIn lw_gd lw_gd := fun _ h => ⟨h, lw_good h⟩
theorem t_w0 : Cond.code yX2_copyFrom cX2_copyFrom 2 none ∈ lw_gd := tm_5 _ (List.mem_of_getElem? (i := 134) rfl) rfl
theorem t_w1 : Cond.initialized RX2 ∈ lw_gd := tm_1 _ (List.mem_of_getElem? (i := 3) rfl) rfl
theorem t_w2 : Cond.selects RX2 yX2_copyFrom yX2_copyFrom ∈ lw_gd := tm_5 _ (List.mem_of_getElem? (i := 133) rfl) rfl
theorem t_w3 : Cond.instanceMethod yX2_copyFrom ∈ lw_gd := tm_5 _ (List.mem_of_getElem? (i := 132) rfl) rfl
theorem t_w4 : Cond.methodLink RX0 48 yX2_copyFrom ∈ lw_gd := tm_5 _ (List.mem_of_getElem? (i := 131) rfl) rfl
theorem t_w5 : Cond.code yX7_copyFrom cX7_copyFrom 2 none ∈ lw_gd := tm_5 _ (List.mem_of_getElem? (i := 141) rfl) rfl
theorem t_w6 : Cond.initialized RX7 ∈ lw_gd := tm_1 _ (List.mem_of_getElem? (i := 4) rfl) rfl
theorem t_w7 : Cond.selects RX7 yX7_copyFrom yX7_copyFrom ∈ lw_gd := tm_5 _ (List.mem_of_getElem? (i := 140) rfl) rfl
theorem t_w8 : Cond.instanceMethod yX7_copyFrom ∈ lw_gd := tm_5 _ (List.mem_of_getElem? (i := 139) rfl) rfl
theorem t_w9 : Cond.methodLink RX0 51 yX7_copyFrom ∈ lw_gd := tm_5 _ (List.mem_of_getElem? (i := 138) rfl) rfl
theorem t_w10 : Cond.code yX2_rowOfLat cX2_rowOfLat 5 (some .int) ∈ lw_gd := tm_2 _ (List.mem_of_getElem? (i := 202) rfl) rfl
theorem t_w11 : Cond.selects RX2 yX2_rowOfLat yX2_rowOfLat ∈ lw_gd := tm_2 _ (List.mem_of_getElem? (i := 201) rfl) rfl
theorem t_w12 : Cond.instanceMethod yX2_rowOfLat ∈ lw_gd := tm_2 _ (List.mem_of_getElem? (i := 200) rfl) rfl
theorem t_w13 : Cond.methodLink RX1 28 yX2_rowOfLat ∈ lw_gd := tm_4 _ (List.mem_of_getElem? (i := 68) rfl) rfl
theorem t_w14 : Cond.code yX2_placeOfLon cX2_placeOfLon 4 (some .int) ∈ lw_gd := tm_2 _ (List.mem_of_getElem? (i := 220) rfl) rfl
theorem t_w15 : Cond.selects RX2 yX2_placeOfLon yX2_placeOfLon ∈ lw_gd := tm_2 _ (List.mem_of_getElem? (i := 219) rfl) rfl
theorem t_w16 : Cond.instanceMethod yX2_placeOfLon ∈ lw_gd := tm_2 _ (List.mem_of_getElem? (i := 218) rfl) rfl
theorem t_w17 : Cond.methodLink RX1 34 yX2_placeOfLon ∈ lw_gd := tm_4 _ (List.mem_of_getElem? (i := 83) rfl) rfl
theorem t_w18 : Cond.code yX2_rowLength cX2_rowLength 3 (some .int) ∈ lw_gd := tm_2 _ (List.mem_of_getElem? (i := 224) rfl) rfl
theorem t_w19 : Cond.selects RX2 yX2_rowLength yX2_rowLength ∈ lw_gd := tm_2 _ (List.mem_of_getElem? (i := 223) rfl) rfl
theorem t_w20 : Cond.instanceMethod yX2_rowLength ∈ lw_gd := tm_2 _ (List.mem_of_getElem? (i := 222) rfl) rfl
theorem t_w21 : Cond.methodLink RX1 38 yX2_rowLength ∈ lw_gd := tm_4 _ (List.mem_of_getElem? (i := 84) rfl) rfl
theorem t_w22 : Cond.code yX2_rowStart cX2_rowStart 6 (some .int) ∈ lw_gd := tm_2 _ (List.mem_of_getElem? (i := 212) rfl) rfl
theorem t_w23 : Cond.selects RX2 yX2_rowStart yX2_rowStart ∈ lw_gd := tm_2 _ (List.mem_of_getElem? (i := 211) rfl) rfl
theorem t_w24 : Cond.instanceMethod yX2_rowStart ∈ lw_gd := tm_2 _ (List.mem_of_getElem? (i := 210) rfl) rfl
theorem t_w25 : Cond.methodLink RX1 46 yX2_rowStart ∈ lw_gd := tm_4 _ (List.mem_of_getElem? (i := 93) rfl) rfl
theorem t_w26 : Cond.code yX1_topRow cX1_topRow 2 (some .int) ∈ lw_gd := tm_4 _ (List.mem_of_getElem? (i := 67) rfl) rfl
theorem t_w27 : Cond.initialized RX1 ∈ lw_gd := tm_1 _ (List.mem_of_getElem? (i := 10) rfl) rfl
theorem t_w28 : Cond.selects RX1 yX1_topRow yX1_topRow ∈ lw_gd := tm_4 _ (List.mem_of_getElem? (i := 66) rfl) rfl
theorem t_w29 : Cond.instanceMethod yX1_topRow ∈ lw_gd := tm_4 _ (List.mem_of_getElem? (i := 65) rfl) rfl
theorem t_w30 : Cond.methodLink RX1 53 yX1_topRow ∈ lw_gd := tm_4 _ (List.mem_of_getElem? (i := 64) rfl) rfl
theorem t_w31 : Cond.code yX1_bottomRow cX1_bottomRow 2 (some .int) ∈ lw_gd := tm_4 _ (List.mem_of_getElem? (i := 77) rfl) rfl
theorem t_w32 : Cond.selects RX1 yX1_bottomRow yX1_bottomRow ∈ lw_gd := tm_4 _ (List.mem_of_getElem? (i := 76) rfl) rfl
theorem t_w33 : Cond.instanceMethod yX1_bottomRow ∈ lw_gd := tm_4 _ (List.mem_of_getElem? (i := 75) rfl) rfl
theorem t_w34 : Cond.methodLink RX1 63 yX1_bottomRow ∈ lw_gd := tm_4 _ (List.mem_of_getElem? (i := 74) rfl) rfl
theorem t_w35 : Cond.code yX1_beltTop cX1_beltTop 4 (some .int) ∈ lw_gd := tm_4 _ (List.mem_of_getElem? (i := 63) rfl) rfl
theorem t_w36 : Cond.selects RX1 yX1_beltTop yX1_beltTop ∈ lw_gd := tp_2 (List.mem_of_getElem? (i := 0) rfl)
theorem t_w37 : Cond.instanceMethod yX1_beltTop ∈ lw_gd := tm_4 _ (List.mem_of_getElem? (i := 62) rfl) rfl
theorem t_w38 : Cond.methodLink RX1 66 yX1_beltTop ∈ lw_gd := tm_4 _ (List.mem_of_getElem? (i := 60) rfl) rfl
theorem t_w39 : Cond.code yX1_beltBottom cX1_beltBottom 4 (some .int) ∈ lw_gd := tm_4 _ (List.mem_of_getElem? (i := 73) rfl) rfl
theorem t_w40 : Cond.selects RX1 yX1_beltBottom yX1_beltBottom ∈ lw_gd := tp_2 (List.mem_of_getElem? (i := 1) rfl)
theorem t_w41 : Cond.instanceMethod yX1_beltBottom ∈ lw_gd := tm_4 _ (List.mem_of_getElem? (i := 72) rfl) rfl
theorem t_w42 : Cond.methodLink RX1 69 yX1_beltBottom ∈ lw_gd := tm_4 _ (List.mem_of_getElem? (i := 70) rfl) rfl
theorem t_w43 : Cond.code yX1_inRow cX1_inRow 6 (some .int) ∈ lw_gd := tm_4 _ (List.mem_of_getElem? (i := 82) rfl) rfl
theorem t_w44 : Cond.selects RX1 yX1_inRow yX1_inRow ∈ lw_gd := tm_4 _ (List.mem_of_getElem? (i := 81) rfl) rfl
theorem t_w45 : Cond.instanceMethod yX1_inRow ∈ lw_gd := tm_4 _ (List.mem_of_getElem? (i := 80) rfl) rfl
theorem t_w46 : Cond.methodLink RX1 72 yX1_inRow ∈ lw_gd := tm_4 _ (List.mem_of_getElem? (i := 79) rfl) rfl
theorem t_w47 : Cond.code yX1_keyFromWest cX1_keyFromWest 5 (some .int) ∈ lw_gd := tm_4 _ (List.mem_of_getElem? (i := 92) rfl) rfl
theorem t_w48 : Cond.selects RX1 yX1_keyFromWest yX1_keyFromWest ∈ lw_gd := tm_4 _ (List.mem_of_getElem? (i := 91) rfl) rfl
theorem t_w49 : Cond.instanceMethod yX1_keyFromWest ∈ lw_gd := tm_4 _ (List.mem_of_getElem? (i := 90) rfl) rfl
theorem t_w50 : Cond.methodLink RX1 75 yX1_keyFromWest ∈ lw_gd := tm_4 _ (List.mem_of_getElem? (i := 89) rfl) rfl
theorem t_w51 : Cond.code yX1_placeByKeys cX1_placeByKeys 8 (some .int) ∈ lw_gd := tm_4 _ (List.mem_of_getElem? (i := 105) rfl) rfl
theorem t_w52 : Cond.selects RX1 yX1_placeByKeys yX1_placeByKeys ∈ lw_gd := tp_2 (List.mem_of_getElem? (i := 2) rfl)
theorem t_w53 : Cond.instanceMethod yX1_placeByKeys ∈ lw_gd := tm_4 _ (List.mem_of_getElem? (i := 104) rfl) rfl
theorem t_w54 : Cond.methodLink RX1 78 yX1_placeByKeys ∈ lw_gd := tm_4 _ (List.mem_of_getElem? (i := 102) rfl) rfl
theorem t_w55 : Cond.code yX1_isCover cX1_isCover 6 (some .boolean) ∈ lw_gd := tm_4 _ (List.mem_of_getElem? (i := 109) rfl) rfl
theorem t_w56 : Cond.selects RX1 yX1_isCover yX1_isCover ∈ lw_gd := tp_2 (List.mem_of_getElem? (i := 3) rfl)
theorem t_w57 : Cond.instanceMethod yX1_isCover ∈ lw_gd := tm_4 _ (List.mem_of_getElem? (i := 108) rfl) rfl
theorem t_w58 : Cond.methodLink RX1 81 yX1_isCover ∈ lw_gd := tm_4 _ (List.mem_of_getElem? (i := 106) rfl) rfl
theorem t_w59 : Cond.code yX2_isCapRow cX2_isCapRow 3 (some .boolean) ∈ lw_gd := tm_3 _ (List.mem_of_getElem? (i := 11) rfl) rfl
theorem t_w60 : Cond.selects RX2 yX2_isCapRow yX2_isCapRow ∈ lw_gd := tm_3 _ (List.mem_of_getElem? (i := 10) rfl) rfl
theorem t_w61 : Cond.instanceMethod yX2_isCapRow ∈ lw_gd := tm_3 _ (List.mem_of_getElem? (i := 9) rfl) rfl
theorem t_w62 : Cond.methodLink RX1 85 yX2_isCapRow ∈ lw_gd := tm_4 _ (List.mem_of_getElem? (i := 110) rfl) rfl
theorem t_w63 : Cond.code yX1_isWhole cX1_isWhole 11 (some .boolean) ∈ lw_gd := tm_4 _ (List.mem_of_getElem? (i := 114) rfl) rfl
theorem t_w64 : Cond.selects RX1 yX1_isWhole yX1_isWhole ∈ lw_gd := tp_2 (List.mem_of_getElem? (i := 4) rfl)
theorem t_w65 : Cond.instanceMethod yX1_isWhole ∈ lw_gd := tm_4 _ (List.mem_of_getElem? (i := 113) rfl) rfl
theorem t_w66 : Cond.methodLink RX1 89 yX1_isWhole ∈ lw_gd := tm_4 _ (List.mem_of_getElem? (i := 111) rfl) rfl
theorem t_w67 : Cond.code yX2_rowsIn cX2_rowsIn 3 (some .int) ∈ lw_gd := tm_3 _ (List.mem_of_getElem? (i := 35) rfl) rfl
theorem t_w68 : Cond.selects RX2 yX2_rowsIn yX2_rowsIn ∈ lw_gd := tm_3 _ (List.mem_of_getElem? (i := 34) rfl) rfl
theorem t_w69 : Cond.instanceMethod yX2_rowsIn ∈ lw_gd := tm_3 _ (List.mem_of_getElem? (i := 33) rfl) rfl
theorem t_w70 : Cond.methodLink RX1 98 yX2_rowsIn ∈ lw_gd := tm_4 _ (List.mem_of_getElem? (i := 115) rfl) rfl
theorem t_w71 : Cond.code yX2_columnsIn cX2_columnsIn 3 (some .int) ∈ lw_gd := tm_3 _ (List.mem_of_getElem? (i := 39) rfl) rfl
theorem t_w72 : Cond.selects RX2 yX2_columnsIn yX2_columnsIn ∈ lw_gd := tm_3 _ (List.mem_of_getElem? (i := 38) rfl) rfl
theorem t_w73 : Cond.instanceMethod yX2_columnsIn ∈ lw_gd := tm_3 _ (List.mem_of_getElem? (i := 37) rfl) rfl
theorem t_w74 : Cond.methodLink RX1 101 yX2_columnsIn ∈ lw_gd := tm_4 _ (List.mem_of_getElem? (i := 116) rfl) rfl
theorem t_w75 : Cond.code yJ9_floorMod_7cf53 cJ9_floorMod_7cf53 3 (some .int) ∈ lw_gd := tm_4 _ (List.mem_of_getElem? (i := 119) rfl) rfl
theorem t_w76 : Cond.initialized RJ9 ∈ lw_gd := tm_1 _ (List.mem_of_getElem? (i := 13) rfl) rfl
theorem t_w77 : Cond.static yJ9_floorMod_7cf53 ∈ lw_gd := tm_4 _ (List.mem_of_getElem? (i := 118) rfl) rfl
theorem t_w78 : Cond.methodLink RX1 104 yJ9_floorMod_7cf53 ∈ lw_gd := tm_4 _ (List.mem_of_getElem? (i := 117) rfl) rfl
theorem t_w79 : Cond.code yX2_multiply cX2_multiply 4 none ∈ lw_gd := tm_1 _ (List.mem_of_getElem? (i := 43) rfl) rfl
theorem t_w80 : Cond.selects RX2 yX2_multiply yX2_multiply ∈ lw_gd := tp_1 (List.mem_of_getElem? (i := 0) rfl)
theorem t_w81 : Cond.instanceMethod yX2_multiply ∈ lw_gd := tm_1 _ (List.mem_of_getElem? (i := 42) rfl) rfl
theorem t_w82 : Cond.methodLink RX2 30 yX2_multiply ∈ lw_gd := tm_1 _ (List.mem_of_getElem? (i := 40) rfl) rfl
theorem t_w83 : Cond.code yX10_isLevel cX10_isLevel 1 (some .boolean) ∈ lw_gd := tm_2 _ (List.mem_of_getElem? (i := 184) rfl) rfl
theorem t_w84 : Cond.code yX2_bandOfZone cX2_bandOfZone 5 (some .int) ∈ lw_gd := tm_3 _ (List.mem_of_getElem? (i := 5) rfl) rfl
theorem t_w85 : Cond.static yX2_bandOfZone ∈ lw_gd := tm_3 _ (List.mem_of_getElem? (i := 4) rfl) rfl
theorem t_w86 : Cond.methodLink RX2 53 yX2_bandOfZone ∈ lw_gd := tm_3 _ (List.mem_of_getElem? (i := 3) rfl) rfl
theorem t_w87 : Cond.code yJ9_floorDiv_f86c9 cJ9_floorDiv_f86c9 6 (some .long) ∈ lw_gd := tm_2 _ (List.mem_of_getElem? (i := 208) rfl) rfl
theorem t_w88 : Cond.static yJ9_floorDiv_f86c9 ∈ lw_gd := tm_2 _ (List.mem_of_getElem? (i := 207) rfl) rfl
theorem t_w89 : Cond.methodLink RX2 61 yJ9_floorDiv_f86c9 ∈ lw_gd := tm_2 _ (List.mem_of_getElem? (i := 206) rfl) rfl
theorem t_w90 : Cond.methodLink RX2 67 yX2_rowLength ∈ lw_gd := tm_2 _ (List.mem_of_getElem? (i := 221) rfl) rfl
theorem t_w91 : Cond.methodLink RX2 73 yX2_rowOfLat ∈ lw_gd := tm_2 _ (List.mem_of_getElem? (i := 199) rfl) rfl
theorem t_w92 : Cond.methodLink RX2 76 yX2_rowStart ∈ lw_gd := tm_2 _ (List.mem_of_getElem? (i := 209) rfl) rfl
theorem t_w93 : Cond.methodLink RX2 79 yX2_placeOfLon ∈ lw_gd := tm_2 _ (List.mem_of_getElem? (i := 217) rfl) rfl
theorem t_w94 : Cond.code yX2_rowOfKey cX2_rowOfKey 6 (some .int) ∈ lw_gd := tm_3 _ (List.mem_of_getElem? (i := 2) rfl) rfl
theorem t_w95 : Cond.selects RX2 yX2_rowOfKey yX2_rowOfKey ∈ lw_gd := tm_3 _ (List.mem_of_getElem? (i := 1) rfl) rfl
theorem t_w96 : Cond.instanceMethod yX2_rowOfKey ∈ lw_gd := tm_3 _ (List.mem_of_getElem? (i := 0) rfl) rfl
theorem t_w97 : Cond.methodLink RX2 83 yX2_rowOfKey ∈ lw_gd := tm_3 _ (List.mem_of_getElem? (i := 152) rfl) rfl
theorem t_w98 : Cond.methodLink RX2 86 yX2_rowsIn ∈ lw_gd := tm_3 _ (List.mem_of_getElem? (i := 153) rfl) rfl
theorem t_w99 : Cond.methodLink RX2 89 yX2_columnsIn ∈ lw_gd := tm_3 _ (List.mem_of_getElem? (i := 154) rfl) rfl
theorem t_w100 : Cond.code yX3_here cX3_here 1 (some .int) ∈ lw_gd := tm_3 _ (List.mem_of_getElem? (i := 55) rfl) rfl
theorem t_w101 : Cond.initialized RX3 ∈ lw_gd := tm_1 _ (List.mem_of_getElem? (i := 6) rfl) rfl
theorem t_w102 : Cond.selects RX3 yX3_here yX3_here ∈ lw_gd := tp_1 (List.mem_of_getElem? (i := 3) rfl)
theorem t_w103 : Cond.instanceMethod yX3_here ∈ lw_gd := tm_3 _ (List.mem_of_getElem? (i := 54) rfl) rfl
theorem t_w104 : Cond.methodLink RX3 42 yX3_here ∈ lw_gd := tm_3 _ (List.mem_of_getElem? (i := 52) rfl) rfl
theorem t_w105 : Cond.code yX3_failHere cX3_failHere 1 (some .boolean) ∈ lw_gd := tm_3 _ (List.mem_of_getElem? (i := 59) rfl) rfl
theorem t_w106 : Cond.selects RX3 yX3_failHere yX3_failHere ∈ lw_gd := tp_1 (List.mem_of_getElem? (i := 4) rfl)
theorem t_w107 : Cond.instanceMethod yX3_failHere ∈ lw_gd := tm_3 _ (List.mem_of_getElem? (i := 58) rfl) rfl
theorem t_w108 : Cond.methodLink RX3 46 yX3_failHere ∈ lw_gd := tm_3 _ (List.mem_of_getElem? (i := 56) rfl) rfl
theorem t_w109 : Cond.code yX3_readCap cX3_readCap 2 (some .boolean) ∈ lw_gd := tm_3 _ (List.mem_of_getElem? (i := 63) rfl) rfl
theorem t_w110 : Cond.selects RX3 yX3_readCap yX3_readCap ∈ lw_gd := tp_1 (List.mem_of_getElem? (i := 5) rfl)
theorem t_w111 : Cond.instanceMethod yX3_readCap ∈ lw_gd := tm_3 _ (List.mem_of_getElem? (i := 62) rfl) rfl
theorem t_w112 : Cond.methodLink RX3 50 yX3_readCap ∈ lw_gd := tm_3 _ (List.mem_of_getElem? (i := 60) rfl) rfl
theorem t_w113 : Cond.code yX3_readNumbers cX3_readNumbers 6 (some .boolean) ∈ lw_gd := tm_3 _ (List.mem_of_getElem? (i := 67) rfl) rfl
theorem t_w114 : Cond.selects RX3 yX3_readNumbers yX3_readNumbers ∈ lw_gd := tp_1 (List.mem_of_getElem? (i := 6) rfl)
theorem t_w115 : Cond.instanceMethod yX3_readNumbers ∈ lw_gd := tm_3 _ (List.mem_of_getElem? (i := 66) rfl) rfl
theorem t_w116 : Cond.methodLink RX3 54 yX3_readNumbers ∈ lw_gd := tm_3 _ (List.mem_of_getElem? (i := 64) rfl) rfl
theorem t_w117 : Cond.code yX3_readNumber cX3_readNumber 4 (some .int) ∈ lw_gd := tm_3 _ (List.mem_of_getElem? (i := 72) rfl) rfl
theorem t_w118 : Cond.selects RX3 yX3_readNumber yX3_readNumber ∈ lw_gd := tp_1 (List.mem_of_getElem? (i := 7) rfl)
theorem t_w119 : Cond.instanceMethod yX3_readNumber ∈ lw_gd := tm_3 _ (List.mem_of_getElem? (i := 71) rfl) rfl
theorem t_w120 : Cond.methodLink RX3 67 yX3_readNumber ∈ lw_gd := tm_3 _ (List.mem_of_getElem? (i := 69) rfl) rfl
theorem t_w121 : Cond.code yX3_fail cX3_fail 3 (some .boolean) ∈ lw_gd := tm_3 _ (List.mem_of_getElem? (i := 79) rfl) rfl
theorem t_w122 : Cond.selects RX3 yX3_fail yX3_fail ∈ lw_gd := tm_3 _ (List.mem_of_getElem? (i := 78) rfl) rfl
theorem t_w123 : Cond.instanceMethod yX3_fail ∈ lw_gd := tm_3 _ (List.mem_of_getElem? (i := 77) rfl) rfl
theorem t_w124 : Cond.methodLink RX3 77 yX3_fail ∈ lw_gd := tm_3 _ (List.mem_of_getElem? (i := 76) rfl) rfl
theorem t_w125 : Cond.methodLink RX3 81 yX2_rowStart ∈ lw_gd := tm_3 _ (List.mem_of_getElem? (i := 80) rfl) rfl
theorem t_w126 : Cond.code yX3_isDigit cX3_isDigit 1 (some .boolean) ∈ lw_gd := tm_3 _ (List.mem_of_getElem? (i := 75) rfl) rfl
theorem t_w127 : Cond.static yX3_isDigit ∈ lw_gd := tm_3 _ (List.mem_of_getElem? (i := 74) rfl) rfl
theorem t_w128 : Cond.methodLink RX3 85 yX3_isDigit ∈ lw_gd := tm_3 _ (List.mem_of_getElem? (i := 73) rfl) rfl
theorem t_w129 : Cond.code yX4_add cX4_add 2 none ∈ lw_gd := tm_3 _ (List.mem_of_getElem? (i := 19) rfl) rfl
theorem t_w130 : Cond.initialized RX4 ∈ lw_gd := tm_1 _ (List.mem_of_getElem? (i := 11) rfl) rfl
theorem t_w131 : Cond.selects RX4 yX4_add yX4_add ∈ lw_gd := tp_1 (List.mem_of_getElem? (i := 1) rfl)
theorem t_w132 : Cond.instanceMethod yX4_add ∈ lw_gd := tm_3 _ (List.mem_of_getElem? (i := 18) rfl) rfl
theorem t_w133 : Cond.methodLink RX4 28 yX4_add ∈ lw_gd := tm_3 _ (List.mem_of_getElem? (i := 16) rfl) rfl
theorem t_w134 : Cond.code yX6_band cX6_band 1 (some .int) ∈ lw_gd := tm_3 _ (List.mem_of_getElem? (i := 23) rfl) rfl
theorem t_w135 : Cond.initialized RX6 ∈ lw_gd := tm_1 _ (List.mem_of_getElem? (i := 8) rfl) rfl
theorem t_w136 : Cond.selects RX6 yX6_band yX6_band ∈ lw_gd := tm_3 _ (List.mem_of_getElem? (i := 22) rfl) rfl
theorem t_w137 : Cond.instanceMethod yX6_band ∈ lw_gd := tm_3 _ (List.mem_of_getElem? (i := 21) rfl) rfl
theorem t_w138 : Cond.methodLink RX4 32 yX6_band ∈ lw_gd := tm_3 _ (List.mem_of_getElem? (i := 20) rfl) rfl
theorem t_w139 : Cond.code yX6_numberOf cX6_numberOf 4 (some .int) ∈ lw_gd := tm_3 _ (List.mem_of_getElem? (i := 27) rfl) rfl
theorem t_w140 : Cond.selects RX6 yX6_numberOf yX6_numberOf ∈ lw_gd := tm_3 _ (List.mem_of_getElem? (i := 26) rfl) rfl
theorem t_w141 : Cond.instanceMethod yX6_numberOf ∈ lw_gd := tm_3 _ (List.mem_of_getElem? (i := 25) rfl) rfl
theorem t_w142 : Cond.methodLink RX4 36 yX6_numberOf ∈ lw_gd := tm_3 _ (List.mem_of_getElem? (i := 24) rfl) rfl
theorem t_w143 : Cond.code yX4_addNumber cX4_addNumber 2 none ∈ lw_gd := tm_3 _ (List.mem_of_getElem? (i := 43) rfl) rfl
theorem t_w144 : Cond.selects RX4 yX4_addNumber yX4_addNumber ∈ lw_gd := tp_1 (List.mem_of_getElem? (i := 2) rfl)
theorem t_w145 : Cond.instanceMethod yX4_addNumber ∈ lw_gd := tm_3 _ (List.mem_of_getElem? (i := 42) rfl) rfl
theorem t_w146 : Cond.methodLink RX4 40 yX4_addNumber ∈ lw_gd := tm_3 _ (List.mem_of_getElem? (i := 40) rfl) rfl
theorem t_w147 : Cond.code yJ6_compare_7cf53 cJ6_compare_7cf53 2 (some .int) ∈ lw_gd := tm_4 _ (List.mem_of_getElem? (i := 138) rfl) rfl
theorem t_w148 : Cond.initialized RJ6 ∈ lw_gd := tm_1 _ (List.mem_of_getElem? (i := 14) rfl) rfl
theorem t_w149 : Cond.static yJ6_compare_7cf53 ∈ lw_gd := tm_4 _ (List.mem_of_getElem? (i := 137) rfl) rfl
theorem t_w150 : Cond.methodLink RX4 52 yJ6_compare_7cf53 ∈ lw_gd := tm_4 _ (List.mem_of_getElem? (i := 148) rfl) rfl
theorem t_w151 : Cond.code yX8_blankFrom cX8_blankFrom 4 (some .int) ∈ lw_gd := tm_4 _ (List.mem_of_getElem? (i := 173) rfl) rfl
theorem t_w152 : Cond.initialized RX8 ∈ lw_gd := tm_1 _ (List.mem_of_getElem? (i := 5) rfl) rfl
theorem t_w153 : Cond.selects RX8 yX8_blankFrom yX8_blankFrom ∈ lw_gd := tm_4 _ (List.mem_of_getElem? (i := 172) rfl) rfl
theorem t_w154 : Cond.instanceMethod yX8_blankFrom ∈ lw_gd := tm_4 _ (List.mem_of_getElem? (i := 171) rfl) rfl
theorem t_w155 : Cond.methodLink RX5 35 yX8_blankFrom ∈ lw_gd := tm_4 _ (List.mem_of_getElem? (i := 170) rfl) rfl
theorem t_w156 : Cond.code yX3_failWithoutBlank cX3_failWithoutBlank 2 (some .boolean) ∈ lw_gd := tm_4 _ (List.mem_of_getElem? (i := 177) rfl) rfl
theorem t_w157 : Cond.selects RX3 yX3_failWithoutBlank yX3_failWithoutBlank ∈ lw_gd := tm_4 _ (List.mem_of_getElem? (i := 176) rfl) rfl
theorem t_w158 : Cond.instanceMethod yX3_failWithoutBlank ∈ lw_gd := tm_4 _ (List.mem_of_getElem? (i := 175) rfl) rfl
theorem t_w159 : Cond.methodLink RX5 41 yX3_failWithoutBlank ∈ lw_gd := tm_4 _ (List.mem_of_getElem? (i := 174) rfl) rfl
theorem t_w160 : Cond.code yX5_wordTo cX5_wordTo 2 (some .int) ∈ lw_gd := tm_4 _ (List.mem_of_getElem? (i := 181) rfl) rfl
theorem t_w161 : Cond.initialized RX5 ∈ lw_gd := tm_1 _ (List.mem_of_getElem? (i := 7) rfl) rfl
theorem t_w162 : Cond.selects RX5 yX5_wordTo yX5_wordTo ∈ lw_gd := tp_2 (List.mem_of_getElem? (i := 5) rfl)
theorem t_w163 : Cond.instanceMethod yX5_wordTo ∈ lw_gd := tm_4 _ (List.mem_of_getElem? (i := 180) rfl) rfl
theorem t_w164 : Cond.methodLink RX5 47 yX5_wordTo ∈ lw_gd := tm_4 _ (List.mem_of_getElem? (i := 178) rfl) rfl
theorem t_w165 : Cond.methodLink RX5 51 yX3_fail ∈ lw_gd := tm_5 _ (List.mem_of_getElem? (i := 1) rfl) rfl
theorem t_w166 : Cond.code yX3_read cX3_read 6 (some .boolean) ∈ lw_gd := tm_3 _ (List.mem_of_getElem? (i := 51) rfl) rfl
theorem t_w167 : Cond.selects RX3 yX3_read yX3_read ∈ lw_gd := tm_3 _ (List.mem_of_getElem? (i := 50) rfl) rfl
theorem t_w168 : Cond.instanceMethod yX3_read ∈ lw_gd := tm_3 _ (List.mem_of_getElem? (i := 49) rfl) rfl
theorem t_w169 : Cond.methodLink RX5 55 yX3_read ∈ lw_gd := tm_5 _ (List.mem_of_getElem? (i := 2) rfl) rfl
theorem t_w170 : Cond.code yX5_readOther cX5_readOther 3 (some .boolean) ∈ lw_gd := tm_5 _ (List.mem_of_getElem? (i := 6) rfl) rfl
theorem t_w171 : Cond.selects RX5 yX5_readOther yX5_readOther ∈ lw_gd := tp_2 (List.mem_of_getElem? (i := 6) rfl)
theorem t_w172 : Cond.instanceMethod yX5_readOther ∈ lw_gd := tm_5 _ (List.mem_of_getElem? (i := 5) rfl) rfl
theorem t_w173 : Cond.methodLink RX5 60 yX5_readOther ∈ lw_gd := tm_5 _ (List.mem_of_getElem? (i := 3) rfl) rfl
theorem t_w174 : Cond.code yX8_isWord cX8_isWord 4 (some .boolean) ∈ lw_gd := tm_4 _ (List.mem_of_getElem? (i := 186) rfl) rfl
theorem t_w175 : Cond.selects RX8 yX8_isWord yX8_isWord ∈ lw_gd := tm_4 _ (List.mem_of_getElem? (i := 185) rfl) rfl
theorem t_w176 : Cond.instanceMethod yX8_isWord ∈ lw_gd := tm_4 _ (List.mem_of_getElem? (i := 184) rfl) rfl
theorem t_w177 : Cond.methodLink RX5 65 yX8_isWord ∈ lw_gd := tm_4 _ (List.mem_of_getElem? (i := 183) rfl) rfl
theorem t_w178 : Cond.code yJ0_coder_7d493 cJ0_coder_7d493 1 (some .byte) ∈ lw_gd := tm_4 _ (List.mem_of_getElem? (i := 194) rfl) rfl
theorem t_w179 : Cond.initialized RJ0 ∈ lw_gd := tm_1 _ (List.mem_of_getElem? (i := 15) rfl) rfl
theorem t_w180 : Cond.selects RJ0 yJ0_coder_7d493 yJ0_coder_7d493 ∈ lw_gd := tm_4 _ (List.mem_of_getElem? (i := 193) rfl) rfl
theorem t_w181 : Cond.instanceMethod yJ0_coder_7d493 ∈ lw_gd := tm_4 _ (List.mem_of_getElem? (i := 192) rfl) rfl
theorem t_w182 : Cond.methodLink RJ0 335 yJ0_coder_7d493 ∈ lw_gd := tm_4 _ (List.mem_of_getElem? (i := 191) rfl) rfl
theorem t_w183 : Cond.code yJ0_isLatin1_aae02 cJ0_isLatin1_aae02 1 (some .boolean) ∈ lw_gd := tm_4 _ (List.mem_of_getElem? (i := 204) rfl) rfl
theorem t_w184 : Cond.selects RJ0 yJ0_isLatin1_aae02 yJ0_isLatin1_aae02 ∈ lw_gd := tm_4 _ (List.mem_of_getElem? (i := 203) rfl) rfl
theorem t_w185 : Cond.instanceMethod yJ0_isLatin1_aae02 ∈ lw_gd := tm_4 _ (List.mem_of_getElem? (i := 202) rfl) rfl
theorem t_w186 : Cond.methodLink RJ0 492 yJ0_isLatin1_aae02 ∈ lw_gd := tm_4 _ (List.mem_of_getElem? (i := 201) rfl) rfl
theorem t_w187 : Cond.code yJ1_charAt_3b067 cJ1_charAt_3b067 2 (some .char) ∈ lw_gd := tm_4 _ (List.mem_of_getElem? (i := 207) rfl) rfl
theorem t_w188 : Cond.initialized RJ1 ∈ lw_gd := tm_1 _ (List.mem_of_getElem? (i := 16) rfl) rfl
theorem t_w189 : Cond.static yJ1_charAt_3b067 ∈ lw_gd := tm_4 _ (List.mem_of_getElem? (i := 206) rfl) rfl
theorem t_w190 : Cond.methodLink RJ0 495 yJ1_charAt_3b067 ∈ lw_gd := tm_4 _ (List.mem_of_getElem? (i := 205) rfl) rfl
theorem t_w191 : Cond.code yJ2_charAt_3b067 cJ2_charAt_3b067 2 (some .char) ∈ lw_gd := tm_4 _ (List.mem_of_getElem? (i := 218) rfl) rfl
theorem t_w192 : Cond.initialized RJ2 ∈ lw_gd := tm_1 _ (List.mem_of_getElem? (i := 18) rfl) rfl
theorem t_w193 : Cond.static yJ2_charAt_3b067 ∈ lw_gd := tm_4 _ (List.mem_of_getElem? (i := 217) rfl) rfl
theorem t_w194 : Cond.methodLink RJ0 498 yJ2_charAt_3b067 ∈ lw_gd := tm_4 _ (List.mem_of_getElem? (i := 216) rfl) rfl
theorem t_w195 : Cond.code yJ3_checkIndex_8e157 cJ3_checkIndex_8e157 3 (some .int) ∈ lw_gd := tm_4 _ (List.mem_of_getElem? (i := 215) rfl) rfl
theorem t_w196 : Cond.initialized RJ3 ∈ lw_gd := tm_1 _ (List.mem_of_getElem? (i := 17) rfl) rfl
theorem t_w197 : Cond.static yJ3_checkIndex_8e157 ∈ lw_gd := tm_4 _ (List.mem_of_getElem? (i := 214) rfl) rfl
theorem t_w198 : Cond.methodLink RJ0 1059 yJ3_checkIndex_8e157 ∈ lw_gd := tm_4 _ (List.mem_of_getElem? (i := 213) rfl) rfl
theorem t_w199 : Cond.code yJ0_checkIndex_df160 cJ0_checkIndex_df160 2 none ∈ lw_gd := tm_4 _ (List.mem_of_getElem? (i := 210) rfl) rfl
theorem t_w200 : Cond.static yJ0_checkIndex_df160 ∈ lw_gd := tm_4 _ (List.mem_of_getElem? (i := 209) rfl) rfl
theorem t_w201 : Cond.methodLink RJ1 9 yJ0_checkIndex_df160 ∈ lw_gd := tm_4 _ (List.mem_of_getElem? (i := 208) rfl) rfl
theorem t_w202 : Cond.code yJ2_length_9d52b cJ2_length_9d52b 1 (some .int) ∈ lw_gd := tm_4 _ (List.mem_of_getElem? (i := 224) rfl) rfl
theorem t_w203 : Cond.static yJ2_length_9d52b ∈ lw_gd := tm_4 _ (List.mem_of_getElem? (i := 223) rfl) rfl
theorem t_w204 : Cond.methodLink RJ2 48 yJ2_length_9d52b ∈ lw_gd := tm_4 _ (List.mem_of_getElem? (i := 222) rfl) rfl
theorem t_w205 : Cond.code yJ2_checkIndex_2214a cJ2_checkIndex_2214a 2 none ∈ lw_gd := tm_4 _ (List.mem_of_getElem? (i := 221) rfl) rfl
theorem t_w206 : Cond.static yJ2_checkIndex_2214a ∈ lw_gd := tm_4 _ (List.mem_of_getElem? (i := 220) rfl) rfl
theorem t_w207 : Cond.methodLink RJ2 67 yJ2_checkIndex_2214a ∈ lw_gd := tm_4 _ (List.mem_of_getElem? (i := 219) rfl) rfl
theorem t_w208 : Cond.code yJ2_getChar_3b067 cJ2_getChar_3b067 2 (some .char) ∈ lw_gd := tm_4 _ (List.mem_of_getElem? (i := 228) rfl) rfl
theorem t_w209 : Cond.static yJ2_getChar_3b067 ∈ lw_gd := tm_4 _ (List.mem_of_getElem? (i := 227) rfl) rfl
theorem t_w210 : Cond.methodLink RJ2 71 yJ2_getChar_3b067 ∈ lw_gd := tm_4 _ (List.mem_of_getElem? (i := 226) rfl) rfl
theorem t_w211 : Cond.methodLink RJ2 414 yJ0_checkIndex_df160 ∈ lw_gd := tm_4 _ (List.mem_of_getElem? (i := 225) rfl) rfl
theorem t_w212 : Cond.methodLink RX6 48 yX2_rowOfKey ∈ lw_gd := tm_2 _ (List.mem_of_getElem? (i := 239) rfl) rfl
theorem t_w213 : Cond.methodLink RX6 54 yX2_rowStart ∈ lw_gd := tm_3 _ (List.mem_of_getElem? (i := 6) rfl) rfl
theorem t_w214 : Cond.methodLink RX6 57 yX2_rowLength ∈ lw_gd := tm_3 _ (List.mem_of_getElem? (i := 7) rfl) rfl
theorem t_w215 : Cond.methodLink RX6 60 yX2_isCapRow ∈ lw_gd := tm_3 _ (List.mem_of_getElem? (i := 8) rfl) rfl
theorem t_w216 : Cond.code yX6_zone cX6_zone 1 (some .int) ∈ lw_gd := tm_3 _ (List.mem_of_getElem? (i := 31) rfl) rfl
theorem t_w217 : Cond.selects RX6 yX6_zone yX6_zone ∈ lw_gd := tm_3 _ (List.mem_of_getElem? (i := 30) rfl) rfl
theorem t_w218 : Cond.instanceMethod yX6_zone ∈ lw_gd := tm_3 _ (List.mem_of_getElem? (i := 29) rfl) rfl
theorem t_w219 : Cond.methodLink RX6 70 yX6_zone ∈ lw_gd := tm_3 _ (List.mem_of_getElem? (i := 28) rfl) rfl
theorem t_w220 : Cond.methodLink RX6 74 yX2_rowsIn ∈ lw_gd := tm_3 _ (List.mem_of_getElem? (i := 32) rfl) rfl
theorem t_w221 : Cond.methodLink RX6 80 yX2_columnsIn ∈ lw_gd := tm_3 _ (List.mem_of_getElem? (i := 36) rfl) rfl
theorem t_w222 : Cond.code yX6_edgeTop cX6_edgeTop 4 (some .long) ∈ lw_gd := tm_3 _ (List.mem_of_getElem? (i := 97) rfl) rfl
theorem t_w223 : Cond.selects RX6 yX6_edgeTop yX6_edgeTop ∈ lw_gd := tm_3 _ (List.mem_of_getElem? (i := 96) rfl) rfl
theorem t_w224 : Cond.instanceMethod yX6_edgeTop ∈ lw_gd := tm_3 _ (List.mem_of_getElem? (i := 95) rfl) rfl
theorem t_w225 : Cond.methodLink RX6 95 yX6_edgeTop ∈ lw_gd := tm_3 _ (List.mem_of_getElem? (i := 123) rfl) rfl
theorem t_w226 : Cond.code yX6_edgeBottom cX6_edgeBottom 2 (some .long) ∈ lw_gd := tm_3 _ (List.mem_of_getElem? (i := 107) rfl) rfl
theorem t_w227 : Cond.selects RX6 yX6_edgeBottom yX6_edgeBottom ∈ lw_gd := tm_3 _ (List.mem_of_getElem? (i := 106) rfl) rfl
theorem t_w228 : Cond.instanceMethod yX6_edgeBottom ∈ lw_gd := tm_3 _ (List.mem_of_getElem? (i := 105) rfl) rfl
theorem t_w229 : Cond.methodLink RX6 101 yX6_edgeBottom ∈ lw_gd := tm_3 _ (List.mem_of_getElem? (i := 125) rfl) rfl
theorem t_w230 : Cond.methodLink RX6 104 yJ9_floorDiv_f86c9 ∈ lw_gd := tm_3 _ (List.mem_of_getElem? (i := 126) rfl) rfl
theorem t_w231 : Cond.code yX6_lookAcross cX6_lookAcross 7 none ∈ lw_gd := tm_3 _ (List.mem_of_getElem? (i := 182) rfl) rfl
theorem t_w232 : Cond.selects RX6 yX6_lookAcross yX6_lookAcross ∈ lw_gd := tp_1 (List.mem_of_getElem? (i := 8) rfl)
theorem t_w233 : Cond.instanceMethod yX6_lookAcross ∈ lw_gd := tm_3 _ (List.mem_of_getElem? (i := 181) rfl) rfl
theorem t_w234 : Cond.methodLink RX6 113 yX6_lookAcross ∈ lw_gd := tm_3 _ (List.mem_of_getElem? (i := 179) rfl) rfl
theorem t_w235 : Cond.code yX6_lookAlong cX6_lookAlong 3 none ∈ lw_gd := tm_3 _ (List.mem_of_getElem? (i := 186) rfl) rfl
theorem t_w236 : Cond.selects RX6 yX6_lookAlong yX6_lookAlong ∈ lw_gd := tp_1 (List.mem_of_getElem? (i := 9) rfl)
theorem t_w237 : Cond.instanceMethod yX6_lookAlong ∈ lw_gd := tm_3 _ (List.mem_of_getElem? (i := 185) rfl) rfl
theorem t_w238 : Cond.methodLink RX6 117 yX6_lookAlong ∈ lw_gd := tm_3 _ (List.mem_of_getElem? (i := 183) rfl) rfl
theorem t_w239 : Cond.code yX6_addCorners cX6_addCorners 8 none ∈ lw_gd := tm_4 _ (List.mem_of_getElem? (i := 36) rfl) rfl
theorem t_w240 : Cond.selects RX6 yX6_addCorners yX6_addCorners ∈ lw_gd := tp_1 (List.mem_of_getElem? (i := 14) rfl)
theorem t_w241 : Cond.instanceMethod yX6_addCorners ∈ lw_gd := tm_4 _ (List.mem_of_getElem? (i := 35) rfl) rfl
theorem t_w242 : Cond.methodLink RX6 129 yX6_addCorners ∈ lw_gd := tm_4 _ (List.mem_of_getElem? (i := 33) rfl) rfl
theorem t_w243 : Cond.code yX6_addCorner cX6_addCorner 3 none ∈ lw_gd := tm_4 _ (List.mem_of_getElem? (i := 40) rfl) rfl
theorem t_w244 : Cond.selects RX6 yX6_addCorner yX6_addCorner ∈ lw_gd := tp_1 (List.mem_of_getElem? (i := 15) rfl)
theorem t_w245 : Cond.instanceMethod yX6_addCorner ∈ lw_gd := tm_4 _ (List.mem_of_getElem? (i := 39) rfl) rfl
theorem t_w246 : Cond.methodLink RX6 133 yX6_addCorner ∈ lw_gd := tm_4 _ (List.mem_of_getElem? (i := 37) rfl) rfl
theorem t_w247 : Cond.code yX7_find cX7_find 4 (some .int) ∈ lw_gd := tm_5 _ (List.mem_of_getElem? (i := 30) rfl) rfl
theorem t_w248 : Cond.selects RX7 yX7_find yX7_find ∈ lw_gd := tm_5 _ (List.mem_of_getElem? (i := 29) rfl) rfl
theorem t_w249 : Cond.instanceMethod yX7_find ∈ lw_gd := tm_5 _ (List.mem_of_getElem? (i := 28) rfl) rfl
theorem t_w250 : Cond.methodLink RX7 41 yX7_find ∈ lw_gd := tm_5 _ (List.mem_of_getElem? (i := 27) rfl) rfl
theorem t_w251 : Cond.code yX7_isBehind cX7_isBehind 4 (some .boolean) ∈ lw_gd := tm_5 _ (List.mem_of_getElem? (i := 34) rfl) rfl
theorem t_w252 : Cond.selects RX7 yX7_isBehind yX7_isBehind ∈ lw_gd := tp_2 (List.mem_of_getElem? (i := 8) rfl)
theorem t_w253 : Cond.instanceMethod yX7_isBehind ∈ lw_gd := tm_5 _ (List.mem_of_getElem? (i := 33) rfl) rfl
theorem t_w254 : Cond.methodLink RX7 45 yX7_isBehind ∈ lw_gd := tm_5 _ (List.mem_of_getElem? (i := 31) rfl) rfl
theorem t_w255 : Cond.code yX7_move cX7_move 3 none ∈ lw_gd := tm_5 _ (List.mem_of_getElem? (i := 38) rfl) rfl
theorem t_w256 : Cond.selects RX7 yX7_move yX7_move ∈ lw_gd := tp_2 (List.mem_of_getElem? (i := 9) rfl)
theorem t_w257 : Cond.instanceMethod yX7_move ∈ lw_gd := tm_5 _ (List.mem_of_getElem? (i := 37) rfl) rfl
theorem t_w258 : Cond.methodLink RX7 49 yX7_move ∈ lw_gd := tm_5 _ (List.mem_of_getElem? (i := 35) rfl) rfl
theorem t_w259 : Cond.code yX2_keyOf cX2_keyOf 5 (some .int) ∈ lw_gd := tm_2 _ (List.mem_of_getElem? (i := 198) rfl) rfl
theorem t_w260 : Cond.selects RX2 yX2_keyOf yX2_keyOf ∈ lw_gd := tm_2 _ (List.mem_of_getElem? (i := 197) rfl) rfl
theorem t_w261 : Cond.instanceMethod yX2_keyOf ∈ lw_gd := tm_2 _ (List.mem_of_getElem? (i := 196) rfl) rfl
theorem t_w262 : Cond.methodLink RX7 53 yX2_keyOf ∈ lw_gd := tm_5 _ (List.mem_of_getElem? (i := 60) rfl) rfl
theorem t_w263 : Cond.code yX2_keyAbove cX2_keyAbove 7 (some .int) ∈ lw_gd := tm_3 _ (List.mem_of_getElem? (i := 151) rfl) rfl
theorem t_w264 : Cond.selects RX2 yX2_keyAbove yX2_keyAbove ∈ lw_gd := tm_3 _ (List.mem_of_getElem? (i := 150) rfl) rfl
theorem t_w265 : Cond.instanceMethod yX2_keyAbove ∈ lw_gd := tm_3 _ (List.mem_of_getElem? (i := 149) rfl) rfl
theorem t_w266 : Cond.methodLink RX7 64 yX2_keyAbove ∈ lw_gd := tm_5 _ (List.mem_of_getElem? (i := 94) rfl) rfl
theorem t_w267 : Cond.code yJ0_length_8abf5 cJ0_length_8abf5 1 (some .int) ∈ lw_gd := tm_4 _ (List.mem_of_getElem? (i := 190) rfl) rfl
theorem t_w268 : Cond.selects RJ0 yJ0_length_8abf5 yJ0_length_8abf5 ∈ lw_gd := tm_4 _ (List.mem_of_getElem? (i := 189) rfl) rfl
theorem t_w269 : Cond.instanceMethod yJ0_length_8abf5 ∈ lw_gd := tm_4 _ (List.mem_of_getElem? (i := 188) rfl) rfl
theorem t_w270 : Cond.methodLink RX8 19 yJ0_length_8abf5 ∈ lw_gd := tm_4 _ (List.mem_of_getElem? (i := 187) rfl) rfl
theorem t_w271 : Cond.code yJ0_charAt_5068e cJ0_charAt_5068e 2 (some .char) ∈ lw_gd := tm_4 _ (List.mem_of_getElem? (i := 200) rfl) rfl
theorem t_w272 : Cond.selects RJ0 yJ0_charAt_5068e yJ0_charAt_5068e ∈ lw_gd := tm_4 _ (List.mem_of_getElem? (i := 199) rfl) rfl
theorem t_w273 : Cond.instanceMethod yJ0_charAt_5068e ∈ lw_gd := tm_4 _ (List.mem_of_getElem? (i := 198) rfl) rfl
theorem t_w274 : Cond.methodLink RX8 24 yJ0_charAt_5068e ∈ lw_gd := tm_4 _ (List.mem_of_getElem? (i := 197) rfl) rfl
theorem t_w275 : Cond.code yX6_init cX6_init 2 none ∈ lw_gd := tm_2 _ (List.mem_of_getElem? (i := 4) rfl) rfl
theorem t_w276 : Cond.code yX9_makeRoom cX9_makeRoom 3 none ∈ lw_gd := tm_3 _ (List.mem_of_getElem? (i := 224) rfl) rfl
theorem t_w277 : Cond.initialized RX9 ∈ lw_gd := tm_1 _ (List.mem_of_getElem? (i := 9) rfl) rfl
theorem t_w278 : Cond.selects RX9 yX9_makeRoom yX9_makeRoom ∈ lw_gd := tp_1 (List.mem_of_getElem? (i := 11) rfl)
theorem t_w279 : Cond.instanceMethod yX9_makeRoom ∈ lw_gd := tm_3 _ (List.mem_of_getElem? (i := 223) rfl) rfl
theorem t_w280 : Cond.methodLink RX9 40 yX9_makeRoom ∈ lw_gd := tm_3 _ (List.mem_of_getElem? (i := 221) rfl) rfl
theorem t_w281 : Cond.code yX6_put cX6_put 3 none ∈ lw_gd := tm_2 _ (List.mem_of_getElem? (i := 238) rfl) rfl
theorem t_w282 : Cond.selects RX6 yX6_put yX6_put ∈ lw_gd := tm_2 _ (List.mem_of_getElem? (i := 237) rfl) rfl
theorem t_w283 : Cond.instanceMethod yX6_put ∈ lw_gd := tm_2 _ (List.mem_of_getElem? (i := 236) rfl) rfl
theorem t_w284 : Cond.methodLink RX9 44 yX6_put ∈ lw_gd := tm_3 _ (List.mem_of_getElem? (i := 225) rfl) rfl
theorem t_w285 : Cond.code yX6_lookAround cX6_lookAround 1 none ∈ lw_gd := tm_3 _ (List.mem_of_getElem? (i := 178) rfl) rfl
theorem t_w286 : Cond.selects RX6 yX6_lookAround yX6_lookAround ∈ lw_gd := tm_3 _ (List.mem_of_getElem? (i := 177) rfl) rfl
theorem t_w287 : Cond.instanceMethod yX6_lookAround ∈ lw_gd := tm_3 _ (List.mem_of_getElem? (i := 176) rfl) rfl
theorem t_w288 : Cond.methodLink RX9 48 yX6_lookAround ∈ lw_gd := tm_3 _ (List.mem_of_getElem? (i := 226) rfl) rfl
theorem t_w289 : Cond.code yX9_spreadOn cX9_spreadOn 7 (some .int) ∈ lw_gd := tm_3 _ (List.mem_of_getElem? (i := 230) rfl) rfl
theorem t_w290 : Cond.selects RX9 yX9_spreadOn yX9_spreadOn ∈ lw_gd := tp_1 (List.mem_of_getElem? (i := 12) rfl)
theorem t_w291 : Cond.instanceMethod yX9_spreadOn ∈ lw_gd := tm_3 _ (List.mem_of_getElem? (i := 229) rfl) rfl
theorem t_w292 : Cond.methodLink RX9 51 yX9_spreadOn ∈ lw_gd := tm_3 _ (List.mem_of_getElem? (i := 227) rfl) rfl
theorem t_w293 : Cond.code yX6_allBeside cX6_allBeside 1 (some .int) ∈ lw_gd := tm_3 _ (List.mem_of_getElem? (i := 194) rfl) rfl
theorem t_w294 : Cond.selects RX6 yX6_allBeside yX6_allBeside ∈ lw_gd := tm_3 _ (List.mem_of_getElem? (i := 193) rfl) rfl
theorem t_w295 : Cond.instanceMethod yX6_allBeside ∈ lw_gd := tm_3 _ (List.mem_of_getElem? (i := 192) rfl) rfl
theorem t_w296 : Cond.methodLink RX9 55 yX6_allBeside ∈ lw_gd := tm_3 _ (List.mem_of_getElem? (i := 231) rfl) rfl
theorem t_w297 : Cond.code yX6_besideKey cX6_besideKey 3 (some .int) ∈ lw_gd := tm_3 _ (List.mem_of_getElem? (i := 198) rfl) rfl
theorem t_w298 : Cond.selects RX6 yX6_besideKey yX6_besideKey ∈ lw_gd := tm_3 _ (List.mem_of_getElem? (i := 197) rfl) rfl
theorem t_w299 : Cond.instanceMethod yX6_besideKey ∈ lw_gd := tm_3 _ (List.mem_of_getElem? (i := 196) rfl) rfl
theorem t_w300 : Cond.methodLink RX9 59 yX6_besideKey ∈ lw_gd := tm_3 _ (List.mem_of_getElem? (i := 232) rfl) rfl
theorem t_w301 : Cond.code yX9_nearer cX9_nearer 5 (some .int) ∈ lw_gd := tm_4 _ (List.mem_of_getElem? (i := 8) rfl) rfl
theorem t_w302 : Cond.selects RX9 yX9_nearer yX9_nearer ∈ lw_gd := tp_1 (List.mem_of_getElem? (i := 13) rfl)
theorem t_w303 : Cond.instanceMethod yX9_nearer ∈ lw_gd := tm_4 _ (List.mem_of_getElem? (i := 7) rfl) rfl
theorem t_w304 : Cond.methodLink RX9 63 yX9_nearer ∈ lw_gd := tm_4 _ (List.mem_of_getElem? (i := 5) rfl) rfl
theorem t_w305 : Cond.code yX0_init cX0_init 1 none ∈ lw_gd := tm_1 _ (List.mem_of_getElem? (i := 32) rfl) rfl
theorem t_w306 : Cond.code yX8_init cX8_init 1 none ∈ lw_gd := tm_1 _ (List.mem_of_getElem? (i := 155) rfl) rfl
theorem t_w307 : Cond.code yX3_init cX3_init 3 none ∈ lw_gd := tm_1 _ (List.mem_of_getElem? (i := 171) rfl) rfl
theorem t_w308 : Cond.code yX5_init cX5_init 3 none ∈ lw_gd := tm_1 _ (List.mem_of_getElem? (i := 211) rfl) rfl
theorem t_w309 : Cond.code yX9_init cX9_init 2 none ∈ lw_gd := tm_2 _ (List.mem_of_getElem? (i := 55) rfl) rfl
theorem t_w310 : Cond.code yX1_init cX1_init 2 none ∈ lw_gd := tm_2 _ (List.mem_of_getElem? (i := 76) rfl) rfl
theorem t_w311 : Cond.code yX4_init cX4_init 1 none ∈ lw_gd := tm_2 _ (List.mem_of_getElem? (i := 98) rfl) rfl
theorem t_w312 : Cond.code yX8_add cX8_add 3 none ∈ lw_gd := tm_2 _ (List.mem_of_getElem? (i := 159) rfl) rfl
theorem t_w313 : Cond.selects RX8 yX8_add yX8_add ∈ lw_gd := tm_2 _ (List.mem_of_getElem? (i := 158) rfl) rfl
theorem t_w314 : Cond.instanceMethod yX8_add ∈ lw_gd := tm_2 _ (List.mem_of_getElem? (i := 157) rfl) rfl
theorem t_w315 : Cond.methodLink RX10 101 yX8_add ∈ lw_gd := tm_2 _ (List.mem_of_getElem? (i := 156) rfl) rfl
theorem t_w316 : Cond.code yX10_isFrom cX10_isFrom 3 (some .boolean) ∈ lw_gd := tm_2 _ (List.mem_of_getElem? (i := 166) rfl) rfl
theorem t_w317 : Cond.initialized RX10 ∈ lw_gd := tm_1 _ (List.mem_of_getElem? (i := 1) rfl) rfl
theorem t_w318 : Cond.static yX10_isFrom ∈ lw_gd := tm_2 _ (List.mem_of_getElem? (i := 165) rfl) rfl
theorem t_w319 : Cond.methodLink RX10 105 yX10_isFrom ∈ lw_gd := tm_2 _ (List.mem_of_getElem? (i := 164) rfl) rfl
theorem t_w320 : Cond.code yX2_deepestSheetsIf cX2_deepestSheetsIf 7 (some .long) ∈ lw_gd := tm_2 _ (List.mem_of_getElem? (i := 170) rfl) rfl
theorem t_w321 : Cond.selects RX2 yX2_deepestSheetsIf yX2_deepestSheetsIf ∈ lw_gd := tm_2 _ (List.mem_of_getElem? (i := 169) rfl) rfl
theorem t_w322 : Cond.instanceMethod yX2_deepestSheetsIf ∈ lw_gd := tm_2 _ (List.mem_of_getElem? (i := 168) rfl) rfl
theorem t_w323 : Cond.methodLink RX10 114 yX2_deepestSheetsIf ∈ lw_gd := tm_2 _ (List.mem_of_getElem? (i := 167) rfl) rfl
theorem t_w324 : Cond.code yX2_setCuts cX2_setCuts 4 none ∈ lw_gd := tm_2 _ (List.mem_of_getElem? (i := 177) rfl) rfl
theorem t_w325 : Cond.selects RX2 yX2_setCuts yX2_setCuts ∈ lw_gd := tm_2 _ (List.mem_of_getElem? (i := 176) rfl) rfl
theorem t_w326 : Cond.instanceMethod yX2_setCuts ∈ lw_gd := tm_2 _ (List.mem_of_getElem? (i := 175) rfl) rfl
theorem t_w327 : Cond.methodLink RX10 122 yX2_setCuts ∈ lw_gd := tm_2 _ (List.mem_of_getElem? (i := 174) rfl) rfl
theorem t_w328 : Cond.static yX10_isLevel ∈ lw_gd := tm_2 _ (List.mem_of_getElem? (i := 183) rfl) rfl
theorem t_w329 : Cond.methodLink RX10 129 yX10_isLevel ∈ lw_gd := tm_2 _ (List.mem_of_getElem? (i := 182) rfl) rfl
theorem t_w330 : Cond.code yX10_isPlace cX10_isPlace 2 (some .boolean) ∈ lw_gd := tm_2 _ (List.mem_of_getElem? (i := 191) rfl) rfl
theorem t_w331 : Cond.static yX10_isPlace ∈ lw_gd := tm_2 _ (List.mem_of_getElem? (i := 190) rfl) rfl
theorem t_w332 : Cond.methodLink RX10 148 yX10_isPlace ∈ lw_gd := tm_2 _ (List.mem_of_getElem? (i := 189) rfl) rfl
theorem t_w333 : Cond.methodLink RX10 152 yX2_keyOf ∈ lw_gd := tm_2 _ (List.mem_of_getElem? (i := 195) rfl) rfl
theorem t_w334 : Cond.code yX2_hasSheet cX2_hasSheet 3 (some .boolean) ∈ lw_gd := tm_2 _ (List.mem_of_getElem? (i := 233) rfl) rfl
theorem t_w335 : Cond.selects RX2 yX2_hasSheet yX2_hasSheet ∈ lw_gd := tm_2 _ (List.mem_of_getElem? (i := 232) rfl) rfl
theorem t_w336 : Cond.instanceMethod yX2_hasSheet ∈ lw_gd := tm_2 _ (List.mem_of_getElem? (i := 231) rfl) rfl
theorem t_w337 : Cond.methodLink RX10 156 yX2_hasSheet ∈ lw_gd := tm_2 _ (List.mem_of_getElem? (i := 230) rfl) rfl
theorem t_w338 : Cond.methodLink RX10 159 yX6_put ∈ lw_gd := tm_2 _ (List.mem_of_getElem? (i := 235) rfl) rfl
theorem t_w339 : Cond.code yX4_write cX4_write 4 none ∈ lw_gd := tm_3 _ (List.mem_of_getElem? (i := 15) rfl) rfl
theorem t_w340 : Cond.selects RX4 yX4_write yX4_write ∈ lw_gd := tm_3 _ (List.mem_of_getElem? (i := 14) rfl) rfl
theorem t_w341 : Cond.instanceMethod yX4_write ∈ lw_gd := tm_3 _ (List.mem_of_getElem? (i := 13) rfl) rfl
theorem t_w342 : Cond.methodLink RX10 163 yX4_write ∈ lw_gd := tm_3 _ (List.mem_of_getElem? (i := 12) rfl) rfl
theorem t_w343 : Cond.methodLink RX10 171 yX3_read ∈ lw_gd := tm_3 _ (List.mem_of_getElem? (i := 48) rfl) rfl
theorem t_w344 : Cond.code yX0_countText cX0_countText 3 none ∈ lw_gd := tm_3 _ (List.mem_of_getElem? (i := 84) rfl) rfl
theorem t_w345 : Cond.initialized RX0 ∈ lw_gd := tm_1 _ (List.mem_of_getElem? (i := 2) rfl) rfl
theorem t_w346 : Cond.selects RX0 yX0_countText yX0_countText ∈ lw_gd := tm_3 _ (List.mem_of_getElem? (i := 83) rfl) rfl
theorem t_w347 : Cond.instanceMethod yX0_countText ∈ lw_gd := tm_3 _ (List.mem_of_getElem? (i := 82) rfl) rfl
theorem t_w348 : Cond.methodLink RX10 174 yX0_countText ∈ lw_gd := tm_3 _ (List.mem_of_getElem? (i := 81) rfl) rfl
theorem t_w349 : Cond.code yX3_told cX3_told 1 (some .int) ∈ lw_gd := tm_3 _ (List.mem_of_getElem? (i := 88) rfl) rfl
theorem t_w350 : Cond.selects RX3 yX3_told yX3_told ∈ lw_gd := tm_3 _ (List.mem_of_getElem? (i := 87) rfl) rfl
theorem t_w351 : Cond.instanceMethod yX3_told ∈ lw_gd := tm_3 _ (List.mem_of_getElem? (i := 86) rfl) rfl
theorem t_w352 : Cond.methodLink RX10 178 yX3_told ∈ lw_gd := tm_3 _ (List.mem_of_getElem? (i := 85) rfl) rfl
theorem t_w353 : Cond.methodLink RX10 190 yX6_edgeTop ∈ lw_gd := tm_3 _ (List.mem_of_getElem? (i := 94) rfl) rfl
theorem t_w354 : Cond.methodLink RX10 194 yX6_edgeBottom ∈ lw_gd := tm_3 _ (List.mem_of_getElem? (i := 104) rfl) rfl
theorem t_w355 : Cond.code yX10_commonDivisor cX10_commonDivisor 11 (some .long) ∈ lw_gd := tm_3 _ (List.mem_of_getElem? (i := 113) rfl) rfl
theorem t_w356 : Cond.static yX10_commonDivisor ∈ lw_gd := tm_3 _ (List.mem_of_getElem? (i := 112) rfl) rfl
theorem t_w357 : Cond.methodLink RX10 203 yX10_commonDivisor ∈ lw_gd := tm_3 _ (List.mem_of_getElem? (i := 111) rfl) rfl
theorem t_w358 : Cond.code yX6_middleLat cX6_middleLat 1 (some .int) ∈ lw_gd := tm_3 _ (List.mem_of_getElem? (i := 122) rfl) rfl
theorem t_w359 : Cond.selects RX6 yX6_middleLat yX6_middleLat ∈ lw_gd := tm_3 _ (List.mem_of_getElem? (i := 121) rfl) rfl
theorem t_w360 : Cond.instanceMethod yX6_middleLat ∈ lw_gd := tm_3 _ (List.mem_of_getElem? (i := 120) rfl) rfl
theorem t_w361 : Cond.methodLink RX10 208 yX6_middleLat ∈ lw_gd := tm_3 _ (List.mem_of_getElem? (i := 119) rfl) rfl
theorem t_w362 : Cond.code yX6_middleLon cX6_middleLon 1 (some .int) ∈ lw_gd := tm_3 _ (List.mem_of_getElem? (i := 130) rfl) rfl
theorem t_w363 : Cond.selects RX6 yX6_middleLon yX6_middleLon ∈ lw_gd := tm_3 _ (List.mem_of_getElem? (i := 129) rfl) rfl
theorem t_w364 : Cond.instanceMethod yX6_middleLon ∈ lw_gd := tm_3 _ (List.mem_of_getElem? (i := 128) rfl) rfl
theorem t_w365 : Cond.methodLink RX10 211 yX6_middleLon ∈ lw_gd := tm_3 _ (List.mem_of_getElem? (i := 127) rfl) rfl
theorem t_w366 : Cond.methodLink RX10 221 yX6_band ∈ lw_gd := tm_3 _ (List.mem_of_getElem? (i := 135) rfl) rfl
theorem t_w367 : Cond.methodLink RX10 224 yX6_zone ∈ lw_gd := tm_3 _ (List.mem_of_getElem? (i := 136) rfl) rfl
theorem t_w368 : Cond.methodLink RX10 227 yX6_numberOf ∈ lw_gd := tm_3 _ (List.mem_of_getElem? (i := 137) rfl) rfl
theorem t_w369 : Cond.methodLink RX10 231 yX2_rowLength ∈ lw_gd := tm_3 _ (List.mem_of_getElem? (i := 142) rfl) rfl
theorem t_w370 : Cond.methodLink RX10 235 yX2_rowStart ∈ lw_gd := tm_3 _ (List.mem_of_getElem? (i := 143) rfl) rfl
theorem t_w371 : Cond.methodLink RX10 238 yX2_keyAbove ∈ lw_gd := tm_3 _ (List.mem_of_getElem? (i := 148) rfl) rfl
theorem t_w372 : Cond.code yX6_piecesAt cX6_piecesAt 2 (some .int) ∈ lw_gd := tm_3 _ (List.mem_of_getElem? (i := 162) rfl) rfl
theorem t_w373 : Cond.selects RX6 yX6_piecesAt yX6_piecesAt ∈ lw_gd := tm_3 _ (List.mem_of_getElem? (i := 161) rfl) rfl
theorem t_w374 : Cond.instanceMethod yX6_piecesAt ∈ lw_gd := tm_3 _ (List.mem_of_getElem? (i := 160) rfl) rfl
theorem t_w375 : Cond.methodLink RX10 241 yX6_piecesAt ∈ lw_gd := tm_3 _ (List.mem_of_getElem? (i := 159) rfl) rfl
theorem t_w376 : Cond.code yX6_pieceAt cX6_pieceAt 5 (some .int) ∈ lw_gd := tm_3 _ (List.mem_of_getElem? (i := 166) rfl) rfl
theorem t_w377 : Cond.selects RX6 yX6_pieceAt yX6_pieceAt ∈ lw_gd := tm_3 _ (List.mem_of_getElem? (i := 165) rfl) rfl
theorem t_w378 : Cond.instanceMethod yX6_pieceAt ∈ lw_gd := tm_3 _ (List.mem_of_getElem? (i := 164) rfl) rfl
theorem t_w379 : Cond.methodLink RX10 244 yX6_pieceAt ∈ lw_gd := tm_3 _ (List.mem_of_getElem? (i := 163) rfl) rfl
theorem t_w380 : Cond.methodLink RX10 247 yX6_lookAround ∈ lw_gd := tm_3 _ (List.mem_of_getElem? (i := 175) rfl) rfl
theorem t_w381 : Cond.methodLink RX10 256 yX6_allBeside ∈ lw_gd := tm_3 _ (List.mem_of_getElem? (i := 191) rfl) rfl
theorem t_w382 : Cond.methodLink RX10 259 yX6_besideKey ∈ lw_gd := tm_3 _ (List.mem_of_getElem? (i := 195) rfl) rfl
theorem t_w383 : Cond.code yX10_areSheets cX10_areSheets 4 (some .boolean) ∈ lw_gd := tm_3 _ (List.mem_of_getElem? (i := 212) rfl) rfl
theorem t_w384 : Cond.selects RX10 yX10_areSheets yX10_areSheets ∈ lw_gd := tp_1 (List.mem_of_getElem? (i := 10) rfl)
theorem t_w385 : Cond.instanceMethod yX10_areSheets ∈ lw_gd := tm_3 _ (List.mem_of_getElem? (i := 211) rfl) rfl
theorem t_w386 : Cond.methodLink RX10 262 yX10_areSheets ∈ lw_gd := tm_3 _ (List.mem_of_getElem? (i := 209) rfl) rfl
theorem t_w387 : Cond.code yX9_spread cX9_spread 5 none ∈ lw_gd := tm_3 _ (List.mem_of_getElem? (i := 220) rfl) rfl
theorem t_w388 : Cond.selects RX9 yX9_spread yX9_spread ∈ lw_gd := tm_3 _ (List.mem_of_getElem? (i := 219) rfl) rfl
theorem t_w389 : Cond.instanceMethod yX9_spread ∈ lw_gd := tm_3 _ (List.mem_of_getElem? (i := 218) rfl) rfl
theorem t_w390 : Cond.methodLink RX10 265 yX9_spread ∈ lw_gd := tm_3 _ (List.mem_of_getElem? (i := 217) rfl) rfl
theorem t_w391 : Cond.code yX9_stepsTo cX9_stepsTo 2 (some .int) ∈ lw_gd := tm_3 _ (List.mem_of_getElem? (i := 236) rfl) rfl
theorem t_w392 : Cond.selects RX9 yX9_stepsTo yX9_stepsTo ∈ lw_gd := tm_3 _ (List.mem_of_getElem? (i := 235) rfl) rfl
theorem t_w393 : Cond.instanceMethod yX9_stepsTo ∈ lw_gd := tm_3 _ (List.mem_of_getElem? (i := 234) rfl) rfl
theorem t_w394 : Cond.methodLink RX10 268 yX9_stepsTo ∈ lw_gd := tm_3 _ (List.mem_of_getElem? (i := 233) rfl) rfl
theorem t_w395 : Cond.code yX9_onTheWay cX9_onTheWay 6 (some .int) ∈ lw_gd := tm_4 _ (List.mem_of_getElem? (i := 4) rfl) rfl
theorem t_w396 : Cond.selects RX9 yX9_onTheWay yX9_onTheWay ∈ lw_gd := tm_4 _ (List.mem_of_getElem? (i := 3) rfl) rfl
theorem t_w397 : Cond.instanceMethod yX9_onTheWay ∈ lw_gd := tm_4 _ (List.mem_of_getElem? (i := 2) rfl) rfl
theorem t_w398 : Cond.methodLink RX10 271 yX9_onTheWay ∈ lw_gd := tm_4 _ (List.mem_of_getElem? (i := 1) rfl) rfl
theorem t_w399 : Cond.code yX9_within cX9_within 4 (some .int) ∈ lw_gd := tm_4 _ (List.mem_of_getElem? (i := 16) rfl) rfl
theorem t_w400 : Cond.selects RX9 yX9_within yX9_within ∈ lw_gd := tm_4 _ (List.mem_of_getElem? (i := 15) rfl) rfl
theorem t_w401 : Cond.instanceMethod yX9_within ∈ lw_gd := tm_4 _ (List.mem_of_getElem? (i := 14) rfl) rfl
theorem t_w402 : Cond.methodLink RX10 274 yX9_within ∈ lw_gd := tm_4 _ (List.mem_of_getElem? (i := 13) rfl) rfl
theorem t_w403 : Cond.code yX9_farthestKey cX9_farthestKey 3 (some .int) ∈ lw_gd := tm_4 _ (List.mem_of_getElem? (i := 24) rfl) rfl
theorem t_w404 : Cond.selects RX9 yX9_farthestKey yX9_farthestKey ∈ lw_gd := tm_4 _ (List.mem_of_getElem? (i := 23) rfl) rfl
theorem t_w405 : Cond.instanceMethod yX9_farthestKey ∈ lw_gd := tm_4 _ (List.mem_of_getElem? (i := 22) rfl) rfl
theorem t_w406 : Cond.methodLink RX10 277 yX9_farthestKey ∈ lw_gd := tm_4 _ (List.mem_of_getElem? (i := 21) rfl) rfl
theorem t_w407 : Cond.code yX6_lookAtCorners cX6_lookAtCorners 1 none ∈ lw_gd := tm_4 _ (List.mem_of_getElem? (i := 32) rfl) rfl
theorem t_w408 : Cond.selects RX6 yX6_lookAtCorners yX6_lookAtCorners ∈ lw_gd := tm_4 _ (List.mem_of_getElem? (i := 31) rfl) rfl
theorem t_w409 : Cond.instanceMethod yX6_lookAtCorners ∈ lw_gd := tm_4 _ (List.mem_of_getElem? (i := 30) rfl) rfl
theorem t_w410 : Cond.methodLink RX10 280 yX6_lookAtCorners ∈ lw_gd := tm_4 _ (List.mem_of_getElem? (i := 29) rfl) rfl
theorem t_w411 : Cond.code yX10_isBox cX10_isBox 4 (some .boolean) ∈ lw_gd := tm_4 _ (List.mem_of_getElem? (i := 51) rfl) rfl
theorem t_w412 : Cond.static yX10_isBox ∈ lw_gd := tm_4 _ (List.mem_of_getElem? (i := 50) rfl) rfl
theorem t_w413 : Cond.methodLink RX10 289 yX10_isBox ∈ lw_gd := tm_4 _ (List.mem_of_getElem? (i := 49) rfl) rfl
theorem t_w414 : Cond.code yX1_set cX1_set 5 none ∈ lw_gd := tm_4 _ (List.mem_of_getElem? (i := 55) rfl) rfl
theorem t_w415 : Cond.selects RX1 yX1_set yX1_set ∈ lw_gd := tm_4 _ (List.mem_of_getElem? (i := 54) rfl) rfl
theorem t_w416 : Cond.instanceMethod yX1_set ∈ lw_gd := tm_4 _ (List.mem_of_getElem? (i := 53) rfl) rfl
theorem t_w417 : Cond.methodLink RX10 293 yX1_set ∈ lw_gd := tm_4 _ (List.mem_of_getElem? (i := 52) rfl) rfl
theorem t_w418 : Cond.code yX1_sheetsAt cX1_sheetsAt 6 (some .int) ∈ lw_gd := tm_4 _ (List.mem_of_getElem? (i := 59) rfl) rfl
theorem t_w419 : Cond.selects RX1 yX1_sheetsAt yX1_sheetsAt ∈ lw_gd := tm_4 _ (List.mem_of_getElem? (i := 58) rfl) rfl
theorem t_w420 : Cond.instanceMethod yX1_sheetsAt ∈ lw_gd := tm_4 _ (List.mem_of_getElem? (i := 57) rfl) rfl
theorem t_w421 : Cond.methodLink RX10 297 yX1_sheetsAt ∈ lw_gd := tm_4 _ (List.mem_of_getElem? (i := 56) rfl) rfl
theorem t_w422 : Cond.code yX1_sheetAt cX1_sheetAt 9 (some .int) ∈ lw_gd := tm_4 _ (List.mem_of_getElem? (i := 88) rfl) rfl
theorem t_w423 : Cond.selects RX1 yX1_sheetAt yX1_sheetAt ∈ lw_gd := tm_4 _ (List.mem_of_getElem? (i := 87) rfl) rfl
theorem t_w424 : Cond.instanceMethod yX1_sheetAt ∈ lw_gd := tm_4 _ (List.mem_of_getElem? (i := 86) rfl) rfl
theorem t_w425 : Cond.methodLink RX10 300 yX1_sheetAt ∈ lw_gd := tm_4 _ (List.mem_of_getElem? (i := 85) rfl) rfl
theorem t_w426 : Cond.code yX1_coverAt cX1_coverAt 8 (some .int) ∈ lw_gd := tm_4 _ (List.mem_of_getElem? (i := 101) rfl) rfl
theorem t_w427 : Cond.selects RX1 yX1_coverAt yX1_coverAt ∈ lw_gd := tm_4 _ (List.mem_of_getElem? (i := 100) rfl) rfl
theorem t_w428 : Cond.instanceMethod yX1_coverAt ∈ lw_gd := tm_4 _ (List.mem_of_getElem? (i := 99) rfl) rfl
theorem t_w429 : Cond.methodLink RX10 303 yX1_coverAt ∈ lw_gd := tm_4 _ (List.mem_of_getElem? (i := 98) rfl) rfl
theorem t_w430 : Cond.code yX1_coverSheet cX1_coverSheet 10 (some .int) ∈ lw_gd := tm_4 _ (List.mem_of_getElem? (i := 124) rfl) rfl
theorem t_w431 : Cond.selects RX1 yX1_coverSheet yX1_coverSheet ∈ lw_gd := tm_4 _ (List.mem_of_getElem? (i := 123) rfl) rfl
theorem t_w432 : Cond.instanceMethod yX1_coverSheet ∈ lw_gd := tm_4 _ (List.mem_of_getElem? (i := 122) rfl) rfl
theorem t_w433 : Cond.methodLink RX10 307 yX1_coverSheet ∈ lw_gd := tm_4 _ (List.mem_of_getElem? (i := 121) rfl) rfl
theorem t_w434 : Cond.methodLink RX10 316 yX2_rowOfKey ∈ lw_gd := tm_4 _ (List.mem_of_getElem? (i := 135) rfl) rfl
theorem t_w435 : Cond.methodLink RX10 319 yJ6_compare_7cf53 ∈ lw_gd := tm_4 _ (List.mem_of_getElem? (i := 136) rfl) rfl
theorem t_w436 : Cond.code yX4_against cX4_against 4 (some .int) ∈ lw_gd := tm_4 _ (List.mem_of_getElem? (i := 146) rfl) rfl
theorem t_w437 : Cond.selects RX4 yX4_against yX4_against ∈ lw_gd := tm_4 _ (List.mem_of_getElem? (i := 145) rfl) rfl
theorem t_w438 : Cond.instanceMethod yX4_against ∈ lw_gd := tm_4 _ (List.mem_of_getElem? (i := 144) rfl) rfl
theorem t_w439 : Cond.methodLink RX10 324 yX4_against ∈ lw_gd := tm_4 _ (List.mem_of_getElem? (i := 143) rfl) rfl
theorem t_w440 : Cond.code yX10_isInt cX10_isInt 2 (some .boolean) ∈ lw_gd := tm_4 _ (List.mem_of_getElem? (i := 155) rfl) rfl
theorem t_w441 : Cond.static yX10_isInt ∈ lw_gd := tm_4 _ (List.mem_of_getElem? (i := 154) rfl) rfl
theorem t_w442 : Cond.methodLink RX10 328 yX10_isInt ∈ lw_gd := tm_4 _ (List.mem_of_getElem? (i := 153) rfl) rfl
theorem t_w443 : Cond.code yJ9_floorMod_f86c9 cJ9_floorMod_f86c9 6 (some .long) ∈ lw_gd := tm_4 _ (List.mem_of_getElem? (i := 161) rfl) rfl
theorem t_w444 : Cond.static yJ9_floorMod_f86c9 ∈ lw_gd := tm_4 _ (List.mem_of_getElem? (i := 160) rfl) rfl
theorem t_w445 : Cond.methodLink RX10 338 yJ9_floorMod_f86c9 ∈ lw_gd := tm_4 _ (List.mem_of_getElem? (i := 159) rfl) rfl
theorem t_w446 : Cond.code yX5_read cX5_read 5 (some .boolean) ∈ lw_gd := tm_4 _ (List.mem_of_getElem? (i := 169) rfl) rfl
theorem t_w447 : Cond.selects RX5 yX5_read yX5_read ∈ lw_gd := tm_4 _ (List.mem_of_getElem? (i := 168) rfl) rfl
theorem t_w448 : Cond.instanceMethod yX5_read ∈ lw_gd := tm_4 _ (List.mem_of_getElem? (i := 167) rfl) rfl
theorem t_w449 : Cond.methodLink RX10 341 yX5_read ∈ lw_gd := tm_4 _ (List.mem_of_getElem? (i := 166) rfl) rfl
theorem t_w450 : Cond.code yX10_answerTo cX10_answerTo 2 (some .int) ∈ lw_gd := tm_5 _ (List.mem_of_getElem? (i := 10) rfl) rfl
theorem t_w451 : Cond.selects RX10 yX10_answerTo yX10_answerTo ∈ lw_gd := tp_2 (List.mem_of_getElem? (i := 7) rfl)
theorem t_w452 : Cond.instanceMethod yX10_answerTo ∈ lw_gd := tm_5 _ (List.mem_of_getElem? (i := 9) rfl) rfl
theorem t_w453 : Cond.methodLink RX10 343 yX10_answerTo ∈ lw_gd := tm_5 _ (List.mem_of_getElem? (i := 7) rfl) rfl
theorem t_w454 : Cond.code yX10_neighbour cX10_neighbour 5 (some .int) ∈ lw_gd := tm_3 _ (List.mem_of_getElem? (i := 174) rfl) rfl
theorem t_w455 : Cond.selects RX10 yX10_neighbour yX10_neighbour ∈ lw_gd := tm_3 _ (List.mem_of_getElem? (i := 173) rfl) rfl
theorem t_w456 : Cond.instanceMethod yX10_neighbour ∈ lw_gd := tm_3 _ (List.mem_of_getElem? (i := 172) rfl) rfl
theorem t_w457 : Cond.methodLink RX10 352 yX10_neighbour ∈ lw_gd := tm_5 _ (List.mem_of_getElem? (i := 11) rfl) rfl
theorem t_w458 : Cond.code yX10_steps cX10_steps 4 (some .int) ∈ lw_gd := tm_3 _ (List.mem_of_getElem? (i := 216) rfl) rfl
theorem t_w459 : Cond.selects RX10 yX10_steps yX10_steps ∈ lw_gd := tm_3 _ (List.mem_of_getElem? (i := 215) rfl) rfl
theorem t_w460 : Cond.instanceMethod yX10_steps ∈ lw_gd := tm_3 _ (List.mem_of_getElem? (i := 214) rfl) rfl
theorem t_w461 : Cond.methodLink RX10 362 yX10_steps ∈ lw_gd := tm_5 _ (List.mem_of_getElem? (i := 12) rfl) rfl
theorem t_w462 : Cond.code yX10_between cX10_between 7 (some .int) ∈ lw_gd := tm_4 _ (List.mem_of_getElem? (i := 128) rfl) rfl
theorem t_w463 : Cond.selects RX10 yX10_between yX10_between ∈ lw_gd := tm_4 _ (List.mem_of_getElem? (i := 127) rfl) rfl
theorem t_w464 : Cond.instanceMethod yX10_between ∈ lw_gd := tm_4 _ (List.mem_of_getElem? (i := 126) rfl) rfl
theorem t_w465 : Cond.methodLink RX10 365 yX10_between ∈ lw_gd := tm_5 _ (List.mem_of_getElem? (i := 13) rfl) rfl
theorem t_w466 : Cond.code yX2_storedLevel cX2_storedLevel 3 (some .int) ∈ lw_gd := tm_5 _ (List.mem_of_getElem? (i := 22) rfl) rfl
theorem t_w467 : Cond.selects RX2 yX2_storedLevel yX2_storedLevel ∈ lw_gd := tm_5 _ (List.mem_of_getElem? (i := 21) rfl) rfl
theorem t_w468 : Cond.instanceMethod yX2_storedLevel ∈ lw_gd := tm_5 _ (List.mem_of_getElem? (i := 20) rfl) rfl
theorem t_w469 : Cond.methodLink RX10 368 yX2_storedLevel ∈ lw_gd := tm_5 _ (List.mem_of_getElem? (i := 19) rfl) rfl
theorem t_w470 : Cond.code yX7_put cX7_put 6 (some .boolean) ∈ lw_gd := tm_5 _ (List.mem_of_getElem? (i := 26) rfl) rfl
theorem t_w471 : Cond.selects RX7 yX7_put yX7_put ∈ lw_gd := tm_5 _ (List.mem_of_getElem? (i := 25) rfl) rfl
theorem t_w472 : Cond.instanceMethod yX7_put ∈ lw_gd := tm_5 _ (List.mem_of_getElem? (i := 24) rfl) rfl
theorem t_w473 : Cond.methodLink RX10 371 yX7_put ∈ lw_gd := tm_5 _ (List.mem_of_getElem? (i := 23) rfl) rfl
theorem t_w474 : Cond.methodLink RX10 373 yX7_find ∈ lw_gd := tm_5 _ (List.mem_of_getElem? (i := 43) rfl) rfl
theorem t_w475 : Cond.code yX7_remove cX7_remove 3 none ∈ lw_gd := tm_5 _ (List.mem_of_getElem? (i := 47) rfl) rfl
theorem t_w476 : Cond.selects RX7 yX7_remove yX7_remove ∈ lw_gd := tm_5 _ (List.mem_of_getElem? (i := 46) rfl) rfl
theorem t_w477 : Cond.instanceMethod yX7_remove ∈ lw_gd := tm_5 _ (List.mem_of_getElem? (i := 45) rfl) rfl
theorem t_w478 : Cond.methodLink RX10 379 yX7_remove ∈ lw_gd := tm_5 _ (List.mem_of_getElem? (i := 44) rfl) rfl
theorem t_w479 : Cond.code yX7_lookAt cX7_lookAt 4 none ∈ lw_gd := tm_5 _ (List.mem_of_getElem? (i := 59) rfl) rfl
theorem t_w480 : Cond.selects RX7 yX7_lookAt yX7_lookAt ∈ lw_gd := tm_5 _ (List.mem_of_getElem? (i := 58) rfl) rfl
theorem t_w481 : Cond.instanceMethod yX7_lookAt ∈ lw_gd := tm_5 _ (List.mem_of_getElem? (i := 57) rfl) rfl
theorem t_w482 : Cond.methodLink RX10 388 yX7_lookAt ∈ lw_gd := tm_5 _ (List.mem_of_getElem? (i := 56) rfl) rfl
theorem t_w483 : Cond.methodLink RX10 400 yX1_bottomRow ∈ lw_gd := tm_5 _ (List.mem_of_getElem? (i := 66) rfl) rfl
theorem t_w484 : Cond.methodLink RX10 403 yX1_topRow ∈ lw_gd := tm_5 _ (List.mem_of_getElem? (i := 67) rfl) rfl
theorem t_w485 : Cond.methodLink RX10 406 yX1_inRow ∈ lw_gd := tm_5 _ (List.mem_of_getElem? (i := 68) rfl) rfl
theorem t_w486 : Cond.methodLink RX10 409 yX1_keyFromWest ∈ lw_gd := tm_5 _ (List.mem_of_getElem? (i := 69) rfl) rfl
theorem t_w487 : Cond.code yX10_isLacking cX10_isLacking 4 (some .boolean) ∈ lw_gd := tm_5 _ (List.mem_of_getElem? (i := 73) rfl) rfl
theorem t_w488 : Cond.selects RX10 yX10_isLacking yX10_isLacking ∈ lw_gd := tp_2 (List.mem_of_getElem? (i := 10) rfl)
theorem t_w489 : Cond.instanceMethod yX10_isLacking ∈ lw_gd := tm_5 _ (List.mem_of_getElem? (i := 72) rfl) rfl
theorem t_w490 : Cond.methodLink RX10 412 yX10_isLacking ∈ lw_gd := tm_5 _ (List.mem_of_getElem? (i := 70) rfl) rfl
theorem t_w491 : Cond.code yX7_isNeedless cX7_isNeedless 3 (some .boolean) ∈ lw_gd := tm_5 _ (List.mem_of_getElem? (i := 93) rfl) rfl
theorem t_w492 : Cond.selects RX7 yX7_isNeedless yX7_isNeedless ∈ lw_gd := tm_5 _ (List.mem_of_getElem? (i := 92) rfl) rfl
theorem t_w493 : Cond.instanceMethod yX7_isNeedless ∈ lw_gd := tm_5 _ (List.mem_of_getElem? (i := 91) rfl) rfl
theorem t_w494 : Cond.methodLink RX10 415 yX7_isNeedless ∈ lw_gd := tm_5 _ (List.mem_of_getElem? (i := 90) rfl) rfl
theorem t_w495 : Cond.code yJ9_floorDiv_7cf53 cJ9_floorDiv_7cf53 3 (some .int) ∈ lw_gd := tm_5 _ (List.mem_of_getElem? (i := 101) rfl) rfl
theorem t_w496 : Cond.static yJ9_floorDiv_7cf53 ∈ lw_gd := tm_5 _ (List.mem_of_getElem? (i := 100) rfl) rfl
theorem t_w497 : Cond.methodLink RX10 418 yJ9_floorDiv_7cf53 ∈ lw_gd := tm_5 _ (List.mem_of_getElem? (i := 99) rfl) rfl
theorem t_w498 : Cond.code yX10_nextDraw cX10_nextDraw 1 (some .int) ∈ lw_gd := tm_5 _ (List.mem_of_getElem? (i := 109) rfl) rfl
theorem t_w499 : Cond.static yX10_nextDraw ∈ lw_gd := tm_5 _ (List.mem_of_getElem? (i := 108) rfl) rfl
theorem t_w500 : Cond.methodLink RX10 422 yX10_nextDraw ∈ lw_gd := tm_5 _ (List.mem_of_getElem? (i := 107) rfl) rfl
theorem t_w501 : Cond.code yX10_isSeen cX10_isSeen 4 (some .boolean) ∈ lw_gd := tm_5 _ (List.mem_of_getElem? (i := 114) rfl) rfl
theorem t_w502 : Cond.selects RX10 yX10_isSeen yX10_isSeen ∈ lw_gd := tp_2 (List.mem_of_getElem? (i := 11) rfl)
theorem t_w503 : Cond.instanceMethod yX10_isSeen ∈ lw_gd := tm_5 _ (List.mem_of_getElem? (i := 113) rfl) rfl
theorem t_w504 : Cond.methodLink RX10 426 yX10_isSeen ∈ lw_gd := tm_5 _ (List.mem_of_getElem? (i := 111) rfl) rfl
theorem t_w505 : Cond.code yX0_copyFrom cX0_copyFrom 2 none ∈ lw_gd := tm_5 _ (List.mem_of_getElem? (i := 130) rfl) rfl
theorem t_w506 : Cond.selects RX0 yX0_copyFrom yX0_copyFrom ∈ lw_gd := tm_5 _ (List.mem_of_getElem? (i := 129) rfl) rfl
theorem t_w507 : Cond.instanceMethod yX0_copyFrom ∈ lw_gd := tm_5 _ (List.mem_of_getElem? (i := 128) rfl) rfl
theorem t_w508 : Cond.methodLink RX10 441 yX0_copyFrom ∈ lw_gd := tm_5 _ (List.mem_of_getElem? (i := 127) rfl) rfl
theorem t_w509 : Cond.code yX11_zonesOf cX11_zonesOf 2 (some .int) ∈ lw_gd := tm_5 _ (List.mem_of_getElem? (i := 155) rfl) rfl
theorem t_w510 : Cond.initialized RX11 ∈ lw_gd := tm_1 _ (List.mem_of_getElem? (i := 12) rfl) rfl
theorem t_w511 : Cond.static yX11_zonesOf ∈ lw_gd := tm_5 _ (List.mem_of_getElem? (i := 154) rfl) rfl
theorem t_w512 : Cond.methodLink RX11 63 yX11_zonesOf ∈ lw_gd := tm_5 _ (List.mem_of_getElem? (i := 153) rfl) rfl
theorem t_w513 : Cond.code yX11_laysGrids cX11_laysGrids 2 none ∈ lw_gd := tm_5 _ (List.mem_of_getElem? (i := 159) rfl) rfl
theorem t_w514 : Cond.selects RX11 yX11_laysGrids yX11_laysGrids ∈ lw_gd := tp_2 (List.mem_of_getElem? (i := 12) rfl)
theorem t_w515 : Cond.instanceMethod yX11_laysGrids ∈ lw_gd := tm_5 _ (List.mem_of_getElem? (i := 158) rfl) rfl
theorem t_w516 : Cond.methodLink RX11 67 yX11_laysGrids ∈ lw_gd := tm_5 _ (List.mem_of_getElem? (i := 156) rfl) rfl
theorem t_w517 : Cond.code yX11_in cX11_in 6 (some .boolean) ∈ lw_gd := tm_6 _ (List.mem_of_getElem? (i := 55) rfl) rfl
theorem t_w518 : Cond.static yX11_in ∈ lw_gd := tm_6 _ (List.mem_of_getElem? (i := 54) rfl) rfl
theorem t_w519 : Cond.methodLink RX11 72 yX11_in ∈ lw_gd := tm_6 _ (List.mem_of_getElem? (i := 53) rfl) rfl
theorem t_w520 : Cond.code yX11_isLevel cX11_isLevel 1 (some .boolean) ∈ lw_gd := tm_6 _ (List.mem_of_getElem? (i := 69) rfl) rfl
theorem t_w521 : Cond.static yX11_isLevel ∈ lw_gd := tm_6 _ (List.mem_of_getElem? (i := 68) rfl) rfl
theorem t_w522 : Cond.methodLink RX11 84 yX11_isLevel ∈ lw_gd := tm_6 _ (List.mem_of_getElem? (i := 67) rfl) rfl
theorem t_w523 : Cond.code yX11_sheets cX11_sheets 2 (some .int) ∈ lw_gd := tm_6 _ (List.mem_of_getElem? (i := 62) rfl) rfl
theorem t_w524 : Cond.selects RX11 yX11_sheets yX11_sheets ∈ lw_gd := tp_2 (List.mem_of_getElem? (i := 13) rfl)
theorem t_w525 : Cond.instanceMethod yX11_sheets ∈ lw_gd := tm_6 _ (List.mem_of_getElem? (i := 61) rfl) rfl
theorem t_w526 : Cond.methodLink RX11 88 yX11_sheets ∈ lw_gd := tm_6 _ (List.mem_of_getElem? (i := 59) rfl) rfl
theorem t_w527 : Cond.code yX11_rows cX11_rows 2 (some .int) ∈ lw_gd := tm_6 _ (List.mem_of_getElem? (i := 74) rfl) rfl
theorem t_w528 : Cond.selects RX11 yX11_rows yX11_rows ∈ lw_gd := tp_2 (List.mem_of_getElem? (i := 14) rfl)
theorem t_w529 : Cond.instanceMethod yX11_rows ∈ lw_gd := tm_6 _ (List.mem_of_getElem? (i := 73) rfl) rfl
theorem t_w530 : Cond.methodLink RX11 91 yX11_rows ∈ lw_gd := tm_6 _ (List.mem_of_getElem? (i := 71) rfl) rfl
theorem t_w531 : Cond.code yX11_lastRow cX11_lastRow 2 (some .int) ∈ lw_gd := tm_6 _ (List.mem_of_getElem? (i := 98) rfl) rfl
theorem t_w532 : Cond.selects RX11 yX11_lastRow yX11_lastRow ∈ lw_gd := tp_3 (List.mem_of_getElem? (i := 1) rfl)
theorem t_w533 : Cond.instanceMethod yX11_lastRow ∈ lw_gd := tm_6 _ (List.mem_of_getElem? (i := 97) rfl) rfl
theorem t_w534 : Cond.methodLink RX11 94 yX11_lastRow ∈ lw_gd := tm_6 _ (List.mem_of_getElem? (i := 95) rfl) rfl
theorem t_w535 : Cond.code yX11_bandOf cX11_bandOf 3 (some .int) ∈ lw_gd := tm_6 _ (List.mem_of_getElem? (i := 106) rfl) rfl
theorem t_w536 : Cond.selects RX11 yX11_bandOf yX11_bandOf ∈ lw_gd := tp_3 (List.mem_of_getElem? (i := 3) rfl)
theorem t_w537 : Cond.instanceMethod yX11_bandOf ∈ lw_gd := tm_6 _ (List.mem_of_getElem? (i := 105) rfl) rfl
theorem t_w538 : Cond.methodLink RX11 97 yX11_bandOf ∈ lw_gd := tm_6 _ (List.mem_of_getElem? (i := 103) rfl) rfl
theorem t_w539 : Cond.code yX11_rowOf cX11_rowOf 5 (some .int) ∈ lw_gd := tm_6 _ (List.mem_of_getElem? (i := 135) rfl) rfl
theorem t_w540 : Cond.selects RX11 yX11_rowOf yX11_rowOf ∈ lw_gd := tp_3 (List.mem_of_getElem? (i := 9) rfl)
theorem t_w541 : Cond.instanceMethod yX11_rowOf ∈ lw_gd := tm_6 _ (List.mem_of_getElem? (i := 134) rfl) rfl
theorem t_w542 : Cond.methodLink RX11 101 yX11_rowOf ∈ lw_gd := tm_6 _ (List.mem_of_getElem? (i := 132) rfl) rfl
theorem t_w543 : Cond.code yX11_keyOf cX11_keyOf 5 (some .int) ∈ lw_gd := tm_6 _ (List.mem_of_getElem? (i := 115) rfl) rfl
theorem t_w544 : Cond.selects RX11 yX11_keyOf yX11_keyOf ∈ lw_gd := tp_3 (List.mem_of_getElem? (i := 5) rfl)
theorem t_w545 : Cond.instanceMethod yX11_keyOf ∈ lw_gd := tm_6 _ (List.mem_of_getElem? (i := 114) rfl) rfl
theorem t_w546 : Cond.methodLink RX11 104 yX11_keyOf ∈ lw_gd := tm_6 _ (List.mem_of_getElem? (i := 112) rfl) rfl
theorem t_w547 : Cond.code yX11_rowAt cX11_rowAt 5 (some .int) ∈ lw_gd := tm_6 _ (List.mem_of_getElem? (i := 92) rfl) rfl
theorem t_w548 : Cond.selects RX11 yX11_rowAt yX11_rowAt ∈ lw_gd := tp_3 (List.mem_of_getElem? (i := 0) rfl)
theorem t_w549 : Cond.instanceMethod yX11_rowAt ∈ lw_gd := tm_6 _ (List.mem_of_getElem? (i := 91) rfl) rfl
theorem t_w550 : Cond.methodLink RX11 112 yX11_rowAt ∈ lw_gd := tm_6 _ (List.mem_of_getElem? (i := 89) rfl) rfl
theorem t_w551 : Cond.code yX11_many cX11_many 3 (some .int) ∈ lw_gd := tm_6 _ (List.mem_of_getElem? (i := 102) rfl) rfl
theorem t_w552 : Cond.selects RX11 yX11_many yX11_many ∈ lw_gd := tp_3 (List.mem_of_getElem? (i := 2) rfl)
theorem t_w553 : Cond.instanceMethod yX11_many ∈ lw_gd := tm_6 _ (List.mem_of_getElem? (i := 101) rfl) rfl
theorem t_w554 : Cond.methodLink RX11 115 yX11_many ∈ lw_gd := tm_6 _ (List.mem_of_getElem? (i := 99) rfl) rfl
theorem t_w555 : Cond.code yX11_placeAt cX11_placeAt 3 (some .int) ∈ lw_gd := tm_6 _ (List.mem_of_getElem? (i := 110) rfl) rfl
theorem t_w556 : Cond.selects RX11 yX11_placeAt yX11_placeAt ∈ lw_gd := tp_3 (List.mem_of_getElem? (i := 4) rfl)
theorem t_w557 : Cond.instanceMethod yX11_placeAt ∈ lw_gd := tm_6 _ (List.mem_of_getElem? (i := 109) rfl) rfl
theorem t_w558 : Cond.methodLink RX11 118 yX11_placeAt ∈ lw_gd := tm_6 _ (List.mem_of_getElem? (i := 107) rfl) rfl
theorem t_w559 : Cond.code yX11_isPlace cX11_isPlace 2 (some .boolean) ∈ lw_gd := tm_6 _ (List.mem_of_getElem? (i := 81) rfl) rfl
theorem t_w560 : Cond.static yX11_isPlace ∈ lw_gd := tm_6 _ (List.mem_of_getElem? (i := 80) rfl) rfl
theorem t_w561 : Cond.methodLink RX11 133 yX11_isPlace ∈ lw_gd := tm_6 _ (List.mem_of_getElem? (i := 79) rfl) rfl
theorem t_w562 : Cond.code yX11_keyAtPlace cX11_keyAtPlace 5 (some .int) ∈ lw_gd := tm_6 _ (List.mem_of_getElem? (i := 88) rfl) rfl
theorem t_w563 : Cond.selects RX11 yX11_keyAtPlace yX11_keyAtPlace ∈ lw_gd := tp_2 (List.mem_of_getElem? (i := 15) rfl)
theorem t_w564 : Cond.instanceMethod yX11_keyAtPlace ∈ lw_gd := tm_6 _ (List.mem_of_getElem? (i := 87) rfl) rfl
theorem t_w565 : Cond.methodLink RX11 137 yX11_keyAtPlace ∈ lw_gd := tm_6 _ (List.mem_of_getElem? (i := 85) rfl) rfl
theorem t_w566 : Cond.code yX11_isCap cX11_isCap 3 (some .boolean) ∈ lw_gd := tm_6 _ (List.mem_of_getElem? (i := 131) rfl) rfl
theorem t_w567 : Cond.selects RX11 yX11_isCap yX11_isCap ∈ lw_gd := tp_3 (List.mem_of_getElem? (i := 8) rfl)
theorem t_w568 : Cond.instanceMethod yX11_isCap ∈ lw_gd := tm_6 _ (List.mem_of_getElem? (i := 130) rfl) rfl
theorem t_w569 : Cond.methodLink RX11 140 yX11_isCap ∈ lw_gd := tm_6 _ (List.mem_of_getElem? (i := 128) rfl) rfl
theorem t_w570 : Cond.code yX11_placeOf cX11_placeOf 3 (some .int) ∈ lw_gd := tm_6 _ (List.mem_of_getElem? (i := 139) rfl) rfl
theorem t_w571 : Cond.selects RX11 yX11_placeOf yX11_placeOf ∈ lw_gd := tp_3 (List.mem_of_getElem? (i := 10) rfl)
theorem t_w572 : Cond.instanceMethod yX11_placeOf ∈ lw_gd := tm_6 _ (List.mem_of_getElem? (i := 138) rfl) rfl
theorem t_w573 : Cond.methodLink RX11 143 yX11_placeOf ∈ lw_gd := tm_6 _ (List.mem_of_getElem? (i := 136) rfl) rfl
theorem t_w574 : Cond.code yX11_digitsInto cX11_digitsInto 5 (some .int) ∈ lw_gd := tm_6 _ (List.mem_of_getElem? (i := 143) rfl) rfl
theorem t_w575 : Cond.selects RX11 yX11_digitsInto yX11_digitsInto ∈ lw_gd := tp_3 (List.mem_of_getElem? (i := 11) rfl)
theorem t_w576 : Cond.instanceMethod yX11_digitsInto ∈ lw_gd := tm_6 _ (List.mem_of_getElem? (i := 142) rfl) rfl
theorem t_w577 : Cond.methodLink RX11 146 yX11_digitsInto ∈ lw_gd := tm_6 _ (List.mem_of_getElem? (i := 140) rfl) rfl
theorem t_w578 : Cond.code yX11_pieceNumber cX11_pieceNumber 4 (some .int) ∈ lw_gd := tm_6 _ (List.mem_of_getElem? (i := 147) rfl) rfl
theorem t_w579 : Cond.selects RX11 yX11_pieceNumber yX11_pieceNumber ∈ lw_gd := tp_3 (List.mem_of_getElem? (i := 12) rfl)
theorem t_w580 : Cond.instanceMethod yX11_pieceNumber ∈ lw_gd := tm_6 _ (List.mem_of_getElem? (i := 146) rfl) rfl
theorem t_w581 : Cond.methodLink RX11 150 yX11_pieceNumber ∈ lw_gd := tm_6 _ (List.mem_of_getElem? (i := 144) rfl) rfl
theorem t_w582 : Cond.code yX11_isKey cX11_isKey 3 (some .boolean) ∈ lw_gd := tm_6 _ (List.mem_of_getElem? (i := 123) rfl) rfl
theorem t_w583 : Cond.selects RX11 yX11_isKey yX11_isKey ∈ lw_gd := tp_3 (List.mem_of_getElem? (i := 6) rfl)
theorem t_w584 : Cond.instanceMethod yX11_isKey ∈ lw_gd := tm_6 _ (List.mem_of_getElem? (i := 122) rfl) rfl
theorem t_w585 : Cond.methodLink RX11 153 yX11_isKey ∈ lw_gd := tm_6 _ (List.mem_of_getElem? (i := 120) rfl) rfl
theorem t_w586 : Cond.code yX11_spells cX11_spells 10 (some .int) ∈ lw_gd := tm_6 _ (List.mem_of_getElem? (i := 127) rfl) rfl
theorem t_w587 : Cond.selects RX11 yX11_spells yX11_spells ∈ lw_gd := tp_3 (List.mem_of_getElem? (i := 7) rfl)
theorem t_w588 : Cond.instanceMethod yX11_spells ∈ lw_gd := tm_6 _ (List.mem_of_getElem? (i := 126) rfl) rfl
theorem t_w589 : Cond.methodLink RX11 156 yX11_spells ∈ lw_gd := tm_6 _ (List.mem_of_getElem? (i := 124) rfl) rfl
theorem t_w590 : Cond.code yX11_typed4 cX11_typed4 3 none ∈ lw_gd := tm_6 _ (List.mem_of_getElem? (i := 155) rfl) rfl
theorem t_w591 : Cond.selects RX11 yX11_typed4 yX11_typed4 ∈ lw_gd := tp_3 (List.mem_of_getElem? (i := 13) rfl)
theorem t_w592 : Cond.instanceMethod yX11_typed4 ∈ lw_gd := tm_6 _ (List.mem_of_getElem? (i := 154) rfl) rfl
theorem t_w593 : Cond.methodLink RX11 163 yX11_typed4 ∈ lw_gd := tm_6 _ (List.mem_of_getElem? (i := 152) rfl) rfl
theorem t_w594 : Cond.code yX11_see cX11_see 2 (some .int) ∈ lw_gd := tm_6 _ (List.mem_of_getElem? (i := 168) rfl) rfl
theorem t_w595 : Cond.selects RX11 yX11_see yX11_see ∈ lw_gd := tp_3 (List.mem_of_getElem? (i := 15) rfl)
theorem t_w596 : Cond.instanceMethod yX11_see ∈ lw_gd := tm_6 _ (List.mem_of_getElem? (i := 167) rfl) rfl
theorem t_w597 : Cond.methodLink RX11 176 yX11_see ∈ lw_gd := tm_6 _ (List.mem_of_getElem? (i := 165) rfl) rfl
theorem t_w598 : Cond.code yX11_wrong cX11_wrong 3 (some .boolean) ∈ lw_gd := tm_6 _ (List.mem_of_getElem? (i := 172) rfl) rfl
theorem t_w599 : Cond.selects RX11 yX11_wrong yX11_wrong ∈ lw_gd := tp_4 (List.mem_of_getElem? (i := 0) rfl)
theorem t_w600 : Cond.instanceMethod yX11_wrong ∈ lw_gd := tm_6 _ (List.mem_of_getElem? (i := 171) rfl) rfl
theorem t_w601 : Cond.methodLink RX11 183 yX11_wrong ∈ lw_gd := tm_6 _ (List.mem_of_getElem? (i := 169) rfl) rfl
theorem t_w602 : Cond.code yX11_counts cX11_counts 4 (some .boolean) ∈ lw_gd := tm_6 _ (List.mem_of_getElem? (i := 178) rfl) rfl
theorem t_w603 : Cond.selects RX11 yX11_counts yX11_counts ∈ lw_gd := tp_4 (List.mem_of_getElem? (i := 1) rfl)
theorem t_w604 : Cond.instanceMethod yX11_counts ∈ lw_gd := tm_6 _ (List.mem_of_getElem? (i := 177) rfl) rfl
theorem t_w605 : Cond.methodLink RX11 196 yX11_counts ∈ lw_gd := tm_6 _ (List.mem_of_getElem? (i := 175) rfl) rfl
theorem t_w606 : Cond.code yX11_readsName cX11_readsName 8 (some .boolean) ∈ lw_gd := tm_6 _ (List.mem_of_getElem? (i := 164) rfl) rfl
theorem t_w607 : Cond.selects RX11 yX11_readsName yX11_readsName ∈ lw_gd := tp_3 (List.mem_of_getElem? (i := 14) rfl)
theorem t_w608 : Cond.instanceMethod yX11_readsName ∈ lw_gd := tm_6 _ (List.mem_of_getElem? (i := 163) rfl) rfl
theorem t_w609 : Cond.methodLink RX11 213 yX11_readsName ∈ lw_gd := tm_6 _ (List.mem_of_getElem? (i := 161) rfl) rfl
theorem t_w610 : Cond.code yX11_counted cX11_counted 3 (some .boolean) ∈ lw_gd := tm_6 _ (List.mem_of_getElem? (i := 184) rfl) rfl
theorem t_w611 : Cond.selects RX11 yX11_counted yX11_counted ∈ lw_gd := tp_4 (List.mem_of_getElem? (i := 2) rfl)
theorem t_w612 : Cond.instanceMethod yX11_counted ∈ lw_gd := tm_6 _ (List.mem_of_getElem? (i := 183) rfl) rfl
theorem t_w613 : Cond.methodLink RX11 216 yX11_counted ∈ lw_gd := tm_6 _ (List.mem_of_getElem? (i := 181) rfl) rfl
theorem t_w614 : Cond.code yX11_laysEdges cX11_laysEdges 4 none ∈ lw_gd := tm_6 _ (List.mem_of_getElem? (i := 194) rfl) rfl
theorem t_w615 : Cond.selects RX11 yX11_laysEdges yX11_laysEdges ∈ lw_gd := tp_4 (List.mem_of_getElem? (i := 3) rfl)
theorem t_w616 : Cond.instanceMethod yX11_laysEdges ∈ lw_gd := tm_6 _ (List.mem_of_getElem? (i := 193) rfl) rfl
theorem t_w617 : Cond.methodLink RX11 237 yX11_laysEdges ∈ lw_gd := tm_6 _ (List.mem_of_getElem? (i := 191) rfl) rfl
theorem t_w618 : Cond.code yX11_common cX11_common 10 (some .long) ∈ lw_gd := tm_6 _ (List.mem_of_getElem? (i := 200) rfl) rfl
theorem t_w619 : Cond.static yX11_common ∈ lw_gd := tm_6 _ (List.mem_of_getElem? (i := 199) rfl) rfl
theorem t_w620 : Cond.methodLink RX11 241 yX11_common ∈ lw_gd := tm_6 _ (List.mem_of_getElem? (i := 198) rfl) rfl
theorem t_w621 : Cond.code yX11_down cX11_down 4 (some .long) ∈ lw_gd := tm_6 _ (List.mem_of_getElem? (i := 213) rfl) rfl
theorem t_w622 : Cond.static yX11_down ∈ lw_gd := tm_6 _ (List.mem_of_getElem? (i := 212) rfl) rfl
theorem t_w623 : Cond.methodLink RX11 247 yX11_down ∈ lw_gd := tm_6 _ (List.mem_of_getElem? (i := 211) rfl) rfl
theorem t_w624 : Cond.code yX11_middleOf cX11_middleOf 4 (some .int) ∈ lw_gd := tm_6 _ (List.mem_of_getElem? (i := 208) rfl) rfl
theorem t_w625 : Cond.selects RX11 yX11_middleOf yX11_middleOf ∈ lw_gd := tp_4 (List.mem_of_getElem? (i := 4) rfl)
theorem t_w626 : Cond.instanceMethod yX11_middleOf ∈ lw_gd := tm_6 _ (List.mem_of_getElem? (i := 207) rfl) rfl
theorem t_w627 : Cond.methodLink RX11 250 yX11_middleOf ∈ lw_gd := tm_6 _ (List.mem_of_getElem? (i := 205) rfl) rfl
theorem t_w628 : Cond.code yX11_parentOf cX11_parentOf 4 (some .int) ∈ lw_gd := tm_6 _ (List.mem_of_getElem? (i := 230) rfl) rfl
theorem t_w629 : Cond.selects RX11 yX11_parentOf yX11_parentOf ∈ lw_gd := tp_4 (List.mem_of_getElem? (i := 5) rfl)
theorem t_w630 : Cond.instanceMethod yX11_parentOf ∈ lw_gd := tm_6 _ (List.mem_of_getElem? (i := 229) rfl) rfl
theorem t_w631 : Cond.methodLink RX11 254 yX11_parentOf ∈ lw_gd := tm_6 _ (List.mem_of_getElem? (i := 227) rfl) rfl
theorem t_w632 : Cond.code yX11_isSide cX11_isSide 1 (some .boolean) ∈ lw_gd := tm_7 _ (List.mem_of_getElem? (i := 5) rfl) rfl
theorem t_w633 : Cond.static yX11_isSide ∈ lw_gd := tm_7 _ (List.mem_of_getElem? (i := 4) rfl) rfl
theorem t_w634 : Cond.methodLink RX11 263 yX11_isSide ∈ lw_gd := tm_7 _ (List.mem_of_getElem? (i := 3) rfl) rfl
theorem t_w635 : Cond.code yX11_laysBeside cX11_laysBeside 14 none ∈ lw_gd := tm_7 _ (List.mem_of_getElem? (i := 10) rfl) rfl
theorem t_w636 : Cond.selects RX11 yX11_laysBeside yX11_laysBeside ∈ lw_gd := tp_4 (List.mem_of_getElem? (i := 6) rfl)
theorem t_w637 : Cond.instanceMethod yX11_laysBeside ∈ lw_gd := tm_7 _ (List.mem_of_getElem? (i := 9) rfl) rfl
theorem t_w638 : Cond.methodLink RX11 266 yX11_laysBeside ∈ lw_gd := tm_7 _ (List.mem_of_getElem? (i := 7) rfl) rfl
theorem t_w639 : Cond.code yX11_allBeside cX11_allBeside 5 (some .int) ∈ lw_gd := tm_7 _ (List.mem_of_getElem? (i := 18) rfl) rfl
theorem t_w640 : Cond.selects RX11 yX11_allBeside yX11_allBeside ∈ lw_gd := tp_4 (List.mem_of_getElem? (i := 7) rfl)
theorem t_w641 : Cond.instanceMethod yX11_allBeside ∈ lw_gd := tm_7 _ (List.mem_of_getElem? (i := 17) rfl) rfl
theorem t_w642 : Cond.methodLink RX11 270 yX11_allBeside ∈ lw_gd := tm_7 _ (List.mem_of_getElem? (i := 15) rfl) rfl
theorem t_w643 : Cond.code yX11_besideAll cX11_besideAll 8 (some .int) ∈ lw_gd := tm_7 _ (List.mem_of_getElem? (i := 22) rfl) rfl
theorem t_w644 : Cond.selects RX11 yX11_besideAll yX11_besideAll ∈ lw_gd := tp_4 (List.mem_of_getElem? (i := 8) rfl)
theorem t_w645 : Cond.instanceMethod yX11_besideAll ∈ lw_gd := tm_7 _ (List.mem_of_getElem? (i := 21) rfl) rfl
theorem t_w646 : Cond.methodLink RX11 273 yX11_besideAll ∈ lw_gd := tm_7 _ (List.mem_of_getElem? (i := 19) rfl) rfl
theorem t_w647 : Cond.code yX11_meets cX11_meets 3 none ∈ lw_gd := tm_7 _ (List.mem_of_getElem? (i := 46) rfl) rfl
theorem t_w648 : Cond.selects RX11 yX11_meets yX11_meets ∈ lw_gd := tp_4 (List.mem_of_getElem? (i := 12) rfl)
theorem t_w649 : Cond.instanceMethod yX11_meets ∈ lw_gd := tm_7 _ (List.mem_of_getElem? (i := 45) rfl) rfl
theorem t_w650 : Cond.methodLink RX11 279 yX11_meets ∈ lw_gd := tm_7 _ (List.mem_of_getElem? (i := 43) rfl) rfl
theorem t_w651 : Cond.code yX11_isGreat cX11_isGreat 2 (some .boolean) ∈ lw_gd := tm_7 _ (List.mem_of_getElem? (i := 38) rfl) rfl
theorem t_w652 : Cond.selects RX11 yX11_isGreat yX11_isGreat ∈ lw_gd := tp_4 (List.mem_of_getElem? (i := 10) rfl)
theorem t_w653 : Cond.instanceMethod yX11_isGreat ∈ lw_gd := tm_7 _ (List.mem_of_getElem? (i := 37) rfl) rfl
theorem t_w654 : Cond.methodLink RX11 282 yX11_isGreat ∈ lw_gd := tm_7 _ (List.mem_of_getElem? (i := 35) rfl) rfl
theorem t_w655 : Cond.code yX11_laysSteps cX11_laysSteps 7 none ∈ lw_gd := tm_7 _ (List.mem_of_getElem? (i := 42) rfl) rfl
theorem t_w656 : Cond.selects RX11 yX11_laysSteps yX11_laysSteps ∈ lw_gd := tp_4 (List.mem_of_getElem? (i := 11) rfl)
theorem t_w657 : Cond.instanceMethod yX11_laysSteps ∈ lw_gd := tm_7 _ (List.mem_of_getElem? (i := 41) rfl) rfl
theorem t_w658 : Cond.methodLink RX11 285 yX11_laysSteps ∈ lw_gd := tm_7 _ (List.mem_of_getElem? (i := 39) rfl) rfl
theorem t_w659 : Cond.code yX11_stepsOf cX11_stepsOf 4 (some .int) ∈ lw_gd := tm_7 _ (List.mem_of_getElem? (i := 34) rfl) rfl
theorem t_w660 : Cond.selects RX11 yX11_stepsOf yX11_stepsOf ∈ lw_gd := tp_4 (List.mem_of_getElem? (i := 9) rfl)
theorem t_w661 : Cond.instanceMethod yX11_stepsOf ∈ lw_gd := tm_7 _ (List.mem_of_getElem? (i := 33) rfl) rfl
theorem t_w662 : Cond.methodLink RX11 288 yX11_stepsOf ∈ lw_gd := tm_7 _ (List.mem_of_getElem? (i := 31) rfl) rfl
theorem t_w663 : Cond.code yX11_nearer cX11_nearer 7 (some .int) ∈ lw_gd := tm_7 _ (List.mem_of_getElem? (i := 54) rfl) rfl
theorem t_w664 : Cond.selects RX11 yX11_nearer yX11_nearer ∈ lw_gd := tp_4 (List.mem_of_getElem? (i := 13) rfl)
theorem t_w665 : Cond.instanceMethod yX11_nearer ∈ lw_gd := tm_7 _ (List.mem_of_getElem? (i := 53) rfl) rfl
theorem t_w666 : Cond.methodLink RX11 291 yX11_nearer ∈ lw_gd := tm_7 _ (List.mem_of_getElem? (i := 51) rfl) rfl
theorem t_w667 : Cond.code yX11_cornerOf cX11_cornerOf 15 (some .int) ∈ lw_gd := tm_7 _ (List.mem_of_getElem? (i := 70) rfl) rfl
theorem t_w668 : Cond.selects RX11 yX11_cornerOf yX11_cornerOf ∈ lw_gd := tp_4 (List.mem_of_getElem? (i := 14) rfl)
theorem t_w669 : Cond.instanceMethod yX11_cornerOf ∈ lw_gd := tm_7 _ (List.mem_of_getElem? (i := 69) rfl) rfl
theorem t_w670 : Cond.methodLink RX11 294 yX11_cornerOf ∈ lw_gd := tm_7 _ (List.mem_of_getElem? (i := 67) rfl) rfl
theorem t_w671 : Cond.code yX11_boxMany cX11_boxMany 5 (some .int) ∈ lw_gd := tm_7 _ (List.mem_of_getElem? (i := 94) rfl) rfl
theorem t_w672 : Cond.selects RX11 yX11_boxMany yX11_boxMany ∈ lw_gd := tp_5 (List.mem_of_getElem? (i := 2) rfl)
theorem t_w673 : Cond.instanceMethod yX11_boxMany ∈ lw_gd := tm_7 _ (List.mem_of_getElem? (i := 93) rfl) rfl
theorem t_w674 : Cond.methodLink RX11 313 yX11_boxMany ∈ lw_gd := tm_7 _ (List.mem_of_getElem? (i := 91) rfl) rfl
theorem t_w675 : Cond.code yX11_westOf cX11_westOf 2 (some .int) ∈ lw_gd := tm_7 _ (List.mem_of_getElem? (i := 102) rfl) rfl
theorem t_w676 : Cond.selects RX11 yX11_westOf yX11_westOf ∈ lw_gd := tp_5 (List.mem_of_getElem? (i := 4) rfl)
theorem t_w677 : Cond.instanceMethod yX11_westOf ∈ lw_gd := tm_7 _ (List.mem_of_getElem? (i := 101) rfl) rfl
theorem t_w678 : Cond.methodLink RX11 316 yX11_westOf ∈ lw_gd := tm_7 _ (List.mem_of_getElem? (i := 99) rfl) rfl
theorem t_w679 : Cond.code yX11_isBox cX11_isBox 5 (some .boolean) ∈ lw_gd := tm_7 _ (List.mem_of_getElem? (i := 82) rfl) rfl
theorem t_w680 : Cond.selects RX11 yX11_isBox yX11_isBox ∈ lw_gd := tp_4 (List.mem_of_getElem? (i := 15) rfl)
theorem t_w681 : Cond.instanceMethod yX11_isBox ∈ lw_gd := tm_7 _ (List.mem_of_getElem? (i := 81) rfl) rfl
theorem t_w682 : Cond.methodLink RX11 319 yX11_isBox ∈ lw_gd := tm_7 _ (List.mem_of_getElem? (i := 79) rfl) rfl
theorem t_w683 : Cond.code yX11_laysBox cX11_laysBox 6 none ∈ lw_gd := tm_7 _ (List.mem_of_getElem? (i := 86) rfl) rfl
theorem t_w684 : Cond.selects RX11 yX11_laysBox yX11_laysBox ∈ lw_gd := tp_5 (List.mem_of_getElem? (i := 0) rfl)
theorem t_w685 : Cond.instanceMethod yX11_laysBox ∈ lw_gd := tm_7 _ (List.mem_of_getElem? (i := 85) rfl) rfl
theorem t_w686 : Cond.methodLink RX11 323 yX11_laysBox ∈ lw_gd := tm_7 _ (List.mem_of_getElem? (i := 83) rfl) rfl
theorem t_w687 : Cond.code yX11_boxAll cX11_boxAll 4 (some .int) ∈ lw_gd := tm_7 _ (List.mem_of_getElem? (i := 90) rfl) rfl
theorem t_w688 : Cond.selects RX11 yX11_boxAll yX11_boxAll ∈ lw_gd := tp_5 (List.mem_of_getElem? (i := 1) rfl)
theorem t_w689 : Cond.instanceMethod yX11_boxAll ∈ lw_gd := tm_7 _ (List.mem_of_getElem? (i := 89) rfl) rfl
theorem t_w690 : Cond.methodLink RX11 327 yX11_boxAll ∈ lw_gd := tm_7 _ (List.mem_of_getElem? (i := 87) rfl) rfl
theorem t_w691 : Cond.code yX11_boxKey cX11_boxKey 5 (some .int) ∈ lw_gd := tm_7 _ (List.mem_of_getElem? (i := 98) rfl) rfl
theorem t_w692 : Cond.selects RX11 yX11_boxKey yX11_boxKey ∈ lw_gd := tp_5 (List.mem_of_getElem? (i := 3) rfl)
theorem t_w693 : Cond.instanceMethod yX11_boxKey ∈ lw_gd := tm_7 _ (List.mem_of_getElem? (i := 97) rfl) rfl
theorem t_w694 : Cond.methodLink RX11 331 yX11_boxKey ∈ lw_gd := tm_7 _ (List.mem_of_getElem? (i := 95) rfl) rfl
theorem t_w695 : Cond.code yX11_isWhole cX11_isWhole 11 (some .boolean) ∈ lw_gd := tm_7 _ (List.mem_of_getElem? (i := 114) rfl) rfl
theorem t_w696 : Cond.selects RX11 yX11_isWhole yX11_isWhole ∈ lw_gd := tp_5 (List.mem_of_getElem? (i := 6) rfl)
theorem t_w697 : Cond.instanceMethod yX11_isWhole ∈ lw_gd := tm_7 _ (List.mem_of_getElem? (i := 113) rfl) rfl
theorem t_w698 : Cond.methodLink RX11 334 yX11_isWhole ∈ lw_gd := tm_7 _ (List.mem_of_getElem? (i := 111) rfl) rfl
theorem t_w699 : Cond.code yX11_isWholeAbove cX11_isWholeAbove 4 (some .boolean) ∈ lw_gd := tm_7 _ (List.mem_of_getElem? (i := 118) rfl) rfl
theorem t_w700 : Cond.selects RX11 yX11_isWholeAbove yX11_isWholeAbove ∈ lw_gd := tp_5 (List.mem_of_getElem? (i := 7) rfl)
theorem t_w701 : Cond.instanceMethod yX11_isWholeAbove ∈ lw_gd := tm_7 _ (List.mem_of_getElem? (i := 117) rfl) rfl
theorem t_w702 : Cond.methodLink RX11 338 yX11_isWholeAbove ∈ lw_gd := tm_7 _ (List.mem_of_getElem? (i := 115) rfl) rfl
theorem t_w703 : Cond.code yX11_covers cX11_covers 13 (some .int) ∈ lw_gd := tm_7 _ (List.mem_of_getElem? (i := 110) rfl) rfl
theorem t_w704 : Cond.selects RX11 yX11_covers yX11_covers ∈ lw_gd := tp_5 (List.mem_of_getElem? (i := 5) rfl)
theorem t_w705 : Cond.instanceMethod yX11_covers ∈ lw_gd := tm_7 _ (List.mem_of_getElem? (i := 109) rfl) rfl
theorem t_w706 : Cond.methodLink RX11 342 yX11_covers ∈ lw_gd := tm_7 _ (List.mem_of_getElem? (i := 107) rfl) rfl
theorem t_w707 : Cond.code yX11_betweenOf cX11_betweenOf 6 (some .int) ∈ lw_gd := tm_7 _ (List.mem_of_getElem? (i := 127) rfl) rfl
theorem t_w708 : Cond.selects RX11 yX11_betweenOf yX11_betweenOf ∈ lw_gd := tp_5 (List.mem_of_getElem? (i := 8) rfl)
theorem t_w709 : Cond.instanceMethod yX11_betweenOf ∈ lw_gd := tm_7 _ (List.mem_of_getElem? (i := 126) rfl) rfl
theorem t_w710 : Cond.methodLink RX11 345 yX11_betweenOf ∈ lw_gd := tm_7 _ (List.mem_of_getElem? (i := 124) rfl) rfl
theorem t_w711 : Cond.code yX11_blankFrom cX11_blankFrom 4 (some .int) ∈ lw_gd := tm_7 _ (List.mem_of_getElem? (i := 148) rfl) rfl
theorem t_w712 : Cond.selects RX11 yX11_blankFrom yX11_blankFrom ∈ lw_gd := tp_5 (List.mem_of_getElem? (i := 9) rfl)
theorem t_w713 : Cond.instanceMethod yX11_blankFrom ∈ lw_gd := tm_7 _ (List.mem_of_getElem? (i := 147) rfl) rfl
theorem t_w714 : Cond.methodLink RX11 360 yX11_blankFrom ∈ lw_gd := tm_7 _ (List.mem_of_getElem? (i := 145) rfl) rfl
theorem t_w715 : Cond.code yX11_readsUpTo cX11_readsUpTo 3 (some .boolean) ∈ lw_gd := tm_7 _ (List.mem_of_getElem? (i := 171) rfl) rfl
theorem t_w716 : Cond.selects RX11 yX11_readsUpTo yX11_readsUpTo ∈ lw_gd := tp_5 (List.mem_of_getElem? (i := 12) rfl)
theorem t_w717 : Cond.instanceMethod yX11_readsUpTo ∈ lw_gd := tm_7 _ (List.mem_of_getElem? (i := 170) rfl) rfl
theorem t_w718 : Cond.methodLink RX11 363 yX11_readsUpTo ∈ lw_gd := tm_7 _ (List.mem_of_getElem? (i := 168) rfl) rfl
theorem t_w719 : Cond.code yX11_besideFirst cX11_besideFirst 2 (some .int) ∈ lw_gd := tm_7 _ (List.mem_of_getElem? (i := 179) rfl) rfl
theorem t_w720 : Cond.selects RX11 yX11_besideFirst yX11_besideFirst ∈ lw_gd := tp_5 (List.mem_of_getElem? (i := 14) rfl)
theorem t_w721 : Cond.instanceMethod yX11_besideFirst ∈ lw_gd := tm_7 _ (List.mem_of_getElem? (i := 178) rfl) rfl
theorem t_w722 : Cond.methodLink RX11 374 yX11_besideFirst ∈ lw_gd := tm_7 _ (List.mem_of_getElem? (i := 176) rfl) rfl
theorem t_w723 : Cond.code yX11_wordTo cX11_wordTo 5 (some .long) ∈ lw_gd := tm_7 _ (List.mem_of_getElem? (i := 152) rfl) rfl
theorem t_w724 : Cond.selects RX11 yX11_wordTo yX11_wordTo ∈ lw_gd := tp_5 (List.mem_of_getElem? (i := 10) rfl)
theorem t_w725 : Cond.instanceMethod yX11_wordTo ∈ lw_gd := tm_7 _ (List.mem_of_getElem? (i := 151) rfl) rfl
theorem t_w726 : Cond.methodLink RX11 379 yX11_wordTo ∈ lw_gd := tm_7 _ (List.mem_of_getElem? (i := 149) rfl) rfl
theorem t_w727 : Cond.code yX11_answersTwo cX11_answersTwo 7 (some .int) ∈ lw_gd := tm_7 _ (List.mem_of_getElem? (i := 167) rfl) rfl
theorem t_w728 : Cond.selects RX11 yX11_answersTwo yX11_answersTwo ∈ lw_gd := tp_5 (List.mem_of_getElem? (i := 11) rfl)
theorem t_w729 : Cond.instanceMethod yX11_answersTwo ∈ lw_gd := tm_7 _ (List.mem_of_getElem? (i := 166) rfl) rfl
theorem t_w730 : Cond.methodLink RX11 389 yX11_answersTwo ∈ lw_gd := tm_7 _ (List.mem_of_getElem? (i := 164) rfl) rfl
theorem t_w731 : Cond.code yX11_answersOne cX11_answersOne 5 (some .int) ∈ lw_gd := tm_7 _ (List.mem_of_getElem? (i := 175) rfl) rfl
theorem t_w732 : Cond.selects RX11 yX11_answersOne yX11_answersOne ∈ lw_gd := tp_5 (List.mem_of_getElem? (i := 13) rfl)
theorem t_w733 : Cond.instanceMethod yX11_answersOne ∈ lw_gd := tm_7 _ (List.mem_of_getElem? (i := 174) rfl) rfl
theorem t_w734 : Cond.methodLink RX11 393 yX11_answersOne ∈ lw_gd := tm_7 _ (List.mem_of_getElem? (i := 172) rfl) rfl
theorem t_w735 : Cond.code yX11_puts cX11_puts 5 none ∈ lw_gd := tm_7 _ (List.mem_of_getElem? (i := 200) rfl) rfl
theorem t_w736 : Cond.selects RX11 yX11_puts yX11_puts ∈ lw_gd := tp_6 (List.mem_of_getElem? (i := 1) rfl)
theorem t_w737 : Cond.instanceMethod yX11_puts ∈ lw_gd := tm_7 _ (List.mem_of_getElem? (i := 199) rfl) rfl
theorem t_w738 : Cond.methodLink RX11 397 yX11_puts ∈ lw_gd := tm_7 _ (List.mem_of_getElem? (i := 197) rfl) rfl
theorem t_w739 : Cond.code yX11_isYear cX11_isYear 1 (some .boolean) ∈ lw_gd := tm_7 _ (List.mem_of_getElem? (i := 186) rfl) rfl
theorem t_w740 : Cond.static yX11_isYear ∈ lw_gd := tm_7 _ (List.mem_of_getElem? (i := 185) rfl) rfl
theorem t_w741 : Cond.methodLink RX11 405 yX11_isYear ∈ lw_gd := tm_7 _ (List.mem_of_getElem? (i := 184) rfl) rfl
theorem t_w742 : Cond.code yX11_slotOf cX11_slotOf 4 (some .int) ∈ lw_gd := tm_7 _ (List.mem_of_getElem? (i := 192) rfl) rfl
theorem t_w743 : Cond.selects RX11 yX11_slotOf yX11_slotOf ∈ lw_gd := tp_5 (List.mem_of_getElem? (i := 15) rfl)
theorem t_w744 : Cond.instanceMethod yX11_slotOf ∈ lw_gd := tm_7 _ (List.mem_of_getElem? (i := 191) rfl) rfl
theorem t_w745 : Cond.methodLink RX11 408 yX11_slotOf ∈ lw_gd := tm_7 _ (List.mem_of_getElem? (i := 189) rfl) rfl
theorem t_w746 : Cond.code yX11_isPiece cX11_isPiece 4 (some .boolean) ∈ lw_gd := tm_7 _ (List.mem_of_getElem? (i := 196) rfl) rfl
theorem t_w747 : Cond.selects RX11 yX11_isPiece yX11_isPiece ∈ lw_gd := tp_6 (List.mem_of_getElem? (i := 0) rfl)
theorem t_w748 : Cond.instanceMethod yX11_isPiece ∈ lw_gd := tm_7 _ (List.mem_of_getElem? (i := 195) rfl) rfl
theorem t_w749 : Cond.methodLink RX11 411 yX11_isPiece ∈ lw_gd := tm_7 _ (List.mem_of_getElem? (i := 193) rfl) rfl
theorem t_w750 : Cond.code yX11_removes cX11_removes 3 none ∈ lw_gd := tm_7 _ (List.mem_of_getElem? (i := 208) rfl) rfl
theorem t_w751 : Cond.selects RX11 yX11_removes yX11_removes ∈ lw_gd := tp_6 (List.mem_of_getElem? (i := 2) rfl)
theorem t_w752 : Cond.instanceMethod yX11_removes ∈ lw_gd := tm_7 _ (List.mem_of_getElem? (i := 207) rfl) rfl
theorem t_w753 : Cond.methodLink RX11 414 yX11_removes ∈ lw_gd := tm_7 _ (List.mem_of_getElem? (i := 205) rfl) rfl
theorem t_w754 : Cond.code yX11_shownOf cX11_shownOf 8 (some .int) ∈ lw_gd := tm_7 _ (List.mem_of_getElem? (i := 220) rfl) rfl
theorem t_w755 : Cond.selects RX11 yX11_shownOf yX11_shownOf ∈ lw_gd := tp_6 (List.mem_of_getElem? (i := 3) rfl)
theorem t_w756 : Cond.instanceMethod yX11_shownOf ∈ lw_gd := tm_7 _ (List.mem_of_getElem? (i := 219) rfl) rfl
theorem t_w757 : Cond.methodLink RX11 417 yX11_shownOf ∈ lw_gd := tm_7 _ (List.mem_of_getElem? (i := 217) rfl) rfl
theorem t_w758 : Cond.code yX11_isAnyYear cX11_isAnyYear 1 (some .boolean) ∈ lw_gd := tm_7 _ (List.mem_of_getElem? (i := 227) rfl) rfl
theorem t_w759 : Cond.static yX11_isAnyYear ∈ lw_gd := tm_7 _ (List.mem_of_getElem? (i := 226) rfl) rfl
theorem t_w760 : Cond.methodLink RX11 420 yX11_isAnyYear ∈ lw_gd := tm_7 _ (List.mem_of_getElem? (i := 225) rfl) rfl
theorem t_w761 : Cond.code yX11_isLacking cX11_isLacking 5 (some .boolean) ∈ lw_gd := tm_7 _ (List.mem_of_getElem? (i := 231) rfl) rfl
theorem t_w762 : Cond.selects RX11 yX11_isLacking yX11_isLacking ∈ lw_gd := tp_6 (List.mem_of_getElem? (i := 4) rfl)
theorem t_w763 : Cond.instanceMethod yX11_isLacking ∈ lw_gd := tm_7 _ (List.mem_of_getElem? (i := 230) rfl) rfl
theorem t_w764 : Cond.methodLink RX11 423 yX11_isLacking ∈ lw_gd := tm_7 _ (List.mem_of_getElem? (i := 228) rfl) rfl
theorem t_w765 : Cond.code yX11_isNeedless cX11_isNeedless 3 (some .boolean) ∈ lw_gd := tm_8 _ (List.mem_of_getElem? (i := 11) rfl) rfl
theorem t_w766 : Cond.selects RX11 yX11_isNeedless yX11_isNeedless ∈ lw_gd := tp_6 (List.mem_of_getElem? (i := 5) rfl)
theorem t_w767 : Cond.instanceMethod yX11_isNeedless ∈ lw_gd := tm_8 _ (List.mem_of_getElem? (i := 10) rfl) rfl
theorem t_w768 : Cond.methodLink RX11 426 yX11_isNeedless ∈ lw_gd := tm_8 _ (List.mem_of_getElem? (i := 8) rfl) rfl
theorem t_w769 : Cond.code yX11_draw cX11_draw 2 (some .int) ∈ lw_gd := tm_8 _ (List.mem_of_getElem? (i := 25) rfl) rfl
theorem t_w770 : Cond.selects RX11 yX11_draw yX11_draw ∈ lw_gd := tp_6 (List.mem_of_getElem? (i := 6) rfl)
theorem t_w771 : Cond.instanceMethod yX11_draw ∈ lw_gd := tm_8 _ (List.mem_of_getElem? (i := 24) rfl) rfl
theorem t_w772 : Cond.methodLink RX11 436 yX11_draw ∈ lw_gd := tm_8 _ (List.mem_of_getElem? (i := 22) rfl) rfl
theorem t_w773 : Cond.code yX11_keeps cX11_keeps 2 none ∈ lw_gd := tm_8 _ (List.mem_of_getElem? (i := 43) rfl) rfl
theorem t_w774 : Cond.selects RX11 yX11_keeps yX11_keeps ∈ lw_gd := tp_6 (List.mem_of_getElem? (i := 7) rfl)
theorem t_w775 : Cond.instanceMethod yX11_keeps ∈ lw_gd := tm_8 _ (List.mem_of_getElem? (i := 42) rfl) rfl
theorem t_w776 : Cond.methodLink RX11 446 yX11_keeps ∈ lw_gd := tm_8 _ (List.mem_of_getElem? (i := 40) rfl) rfl
theorem t_w777 : Cond.code yX11_tells cX11_tells 1 (some .int) ∈ lw_gd := tm_8 _ (List.mem_of_getElem? (i := 51) rfl) rfl
theorem t_w778 : Cond.selects RX11 yX11_tells yX11_tells ∈ lw_gd := tp_6 (List.mem_of_getElem? (i := 8) rfl)
theorem t_w779 : Cond.instanceMethod yX11_tells ∈ lw_gd := tm_8 _ (List.mem_of_getElem? (i := 50) rfl) rfl
theorem t_w780 : Cond.methodLink RX11 449 yX11_tells ∈ lw_gd := tm_8 _ (List.mem_of_getElem? (i := 48) rfl) rfl
theorem t_w781 : Cond.code yX2_init cX2_init 1 none ∈ lw_gd := tm_1 _ (List.mem_of_getElem? (i := 38) rfl) rfl
theorem t_w782 : Cond.code yX7_init cX7_init 2 none ∈ lw_gd := tm_1 _ (List.mem_of_getElem? (i := 88) rfl) rfl
theorem t_w783 : Cond.fieldLink RX2 21 "SheetNames$Grid" "zoneColumns" "[I" ∈ lw_gd := tm_1 _ (List.mem_of_getElem? (i := 58) rfl) rfl
theorem t_w784 : Cond.fieldLink RX2 9 "SheetNames$Grid" "rowCuts" "[I" ∈ lw_gd := tm_1 _ (List.mem_of_getElem? (i := 44) rfl) rfl
theorem t_w785 : Cond.fieldLink RX2 15 "SheetNames$Grid" "columnCuts" "[I" ∈ lw_gd := tm_1 _ (List.mem_of_getElem? (i := 49) rfl) rfl
theorem t_w786 : Cond.fieldLink RX2 18 "SheetNames$Grid" "bandRows" "[I" ∈ lw_gd := tm_1 _ (List.mem_of_getElem? (i := 54) rfl) rfl
theorem t_w787 : Cond.fieldLink RX2 24 "SheetNames$Grid" "rows" "[I" ∈ lw_gd := tm_1 _ (List.mem_of_getElem? (i := 61) rfl) rfl
theorem t_w788 : Cond.fieldLink RX2 27 "SheetNames$Grid" "sheets" "[I" ∈ lw_gd := tm_1 _ (List.mem_of_getElem? (i := 65) rfl) rfl
theorem t_w789 : Cond.methodLink RX2 37 arraycopyName ∈ lw_gd := tm_5 _ (List.mem_of_getElem? (i := 135) rfl) rfl
theorem t_w790 : Cond.native arraycopyName ∈ lw_gd := tm_5 _ (List.mem_of_getElem? (i := 137) rfl) rfl
theorem t_w791 : Cond.static arraycopyName ∈ lw_gd := tm_5 _ (List.mem_of_getElem? (i := 136) rfl) rfl
theorem t_w792 : Cond.initialized "java/lang/System" ∈ lw_gd := tm_1 _ (List.mem_of_getElem? (i := 19) rfl) rfl
theorem t_w793 : Cond.constantLong RX2 33 (2130) ∈ lw_gd := tm_2 _ (List.mem_of_getElem? (i := 171) rfl) rfl
theorem t_w794 : Cond.constantLong RX2 35 (2) ∈ lw_gd := tm_2 _ (List.mem_of_getElem? (i := 172) rfl) rfl
theorem t_w795 : Cond.constant RX2 57 (316800) ∈ lw_gd := tm_2 _ (List.mem_of_getElem? (i := 203) rfl) rfl
theorem t_w796 : Cond.constant RX2 58 (-316800) ∈ lw_gd := tm_2 _ (List.mem_of_getElem? (i := 204) rfl) rfl
theorem t_w797 : Cond.constantLong RX2 59 (14400) ∈ lw_gd := tm_2 _ (List.mem_of_getElem? (i := 205) rfl) rfl
theorem t_w798 : Cond.constantLong RX2 71 (1296000) ∈ lw_gd := tm_2 _ (List.mem_of_getElem? (i := 225) rfl) rfl
theorem t_w799 : Cond.fieldLink RX6 21 "SheetNames$Spot" "cornerCount" "I" ∈ lw_gd := tm_2 _ (List.mem_of_getElem? (i := 14) rfl) rfl
theorem t_w800 : Cond.fieldLink RX6 18 "SheetNames$Spot" "corner" "[I" ∈ lw_gd := tm_2 _ (List.mem_of_getElem? (i := 12) rfl) rfl
theorem t_w801 : Cond.fieldLink RX6 44 "SheetNames$Spot" "grid" "LSheetNames$Grid;" ∈ lw_gd := tm_2 _ (List.mem_of_getElem? (i := 6) rfl) rfl
theorem t_w802 : Cond.fieldLink RX6 25 "SheetNames$Spot" "level" "I" ∈ lw_gd := tm_2 _ (List.mem_of_getElem? (i := 16) rfl) rfl
theorem t_w803 : Cond.fieldLink RX6 34 "SheetNames$Spot" "place" "I" ∈ lw_gd := tm_2 _ (List.mem_of_getElem? (i := 22) rfl) rfl
theorem t_w804 : Cond.fieldLink RX6 37 "SheetNames$Spot" "length" "I" ∈ lw_gd := tm_2 _ (List.mem_of_getElem? (i := 24) rfl) rfl
theorem t_w805 : Cond.fieldLink RX6 15 "SheetNames$Spot" "many" "[I" ∈ lw_gd := tm_2 _ (List.mem_of_getElem? (i := 10) rfl) rfl
theorem t_w806 : Cond.fieldLink RX6 40 "SheetNames$Spot" "cap" "Z" ∈ lw_gd := tm_2 _ (List.mem_of_getElem? (i := 26) rfl) rfl
theorem t_w807 : Cond.fieldLink RX6 28 "SheetNames$Spot" "row" "I" ∈ lw_gd := tm_2 _ (List.mem_of_getElem? (i := 18) rfl) rfl
theorem t_w808 : Cond.fieldLink RX6 9 "SheetNames$Spot" "first" "[I" ∈ lw_gd := tm_2 _ (List.mem_of_getElem? (i := 8) rfl) rfl
theorem t_w809 : Cond.methodLink RX6 123 Lib.Math.min.name ∈ lw_gd := tm_3 _ (List.mem_of_getElem? (i := 199) rfl) rfl
theorem t_w810 : Cond.static Lib.Math.min.name ∈ lw_gd := tm_3 _ (List.mem_of_getElem? (i := 200) rfl) rfl
theorem t_w811 : Cond.code Lib.Math.min.name Lib.Math.min.code 2 (some .int) ∈ lw_gd := tm_3 _ (List.mem_of_getElem? (i := 201) rfl) rfl
theorem t_w812 : Cond.methodLink RX6 126 Lib.Math.max.name ∈ lw_gd := tm_3 _ (List.mem_of_getElem? (i := 202) rfl) rfl
theorem t_w813 : Cond.static Lib.Math.max.name ∈ lw_gd := tm_3 _ (List.mem_of_getElem? (i := 203) rfl) rfl
theorem t_w814 : Cond.code Lib.Math.max.name Lib.Math.max.code 2 (some .int) ∈ lw_gd := tm_3 _ (List.mem_of_getElem? (i := 204) rfl) rfl
theorem t_w815 : Cond.constantLong RX6 86 (1296000) ∈ lw_gd := tm_3 _ (List.mem_of_getElem? (i := 98) rfl) rfl
theorem t_w816 : Cond.constant RX6 88 (316800) ∈ lw_gd := tm_3 _ (List.mem_of_getElem? (i := 99) rfl) rfl
theorem t_w817 : Cond.constant RX6 89 (-324000) ∈ lw_gd := tm_3 _ (List.mem_of_getElem? (i := 100) rfl) rfl
theorem t_w818 : Cond.constant RX6 90 (324000) ∈ lw_gd := tm_3 _ (List.mem_of_getElem? (i := 101) rfl) rfl
theorem t_w819 : Cond.constantLong RX6 91 (22) ∈ lw_gd := tm_3 _ (List.mem_of_getElem? (i := 102) rfl) rfl
theorem t_w820 : Cond.constantLong RX6 93 (14400) ∈ lw_gd := tm_3 _ (List.mem_of_getElem? (i := 103) rfl) rfl
theorem t_w821 : Cond.fieldLink RX6 31 "SheetNames$Spot" "start" "I" ∈ lw_gd := tm_2 _ (List.mem_of_getElem? (i := 21) rfl) rfl
theorem t_w822 : Cond.constantLong RX6 99 (2) ∈ lw_gd := tm_3 _ (List.mem_of_getElem? (i := 124) rfl) rfl
theorem t_w823 : Cond.fieldLink RX9 18 "SheetNames$Walk" "many" "I" ∈ lw_gd := tm_2 _ (List.mem_of_getElem? (i := 62) rfl) rfl
theorem t_w824 : Cond.fieldLink RX9 9 "SheetNames$Walk" "steps" "[I" ∈ lw_gd := tm_2 _ (List.mem_of_getElem? (i := 60) rfl) rfl
theorem t_w825 : Cond.fieldLink RX9 27 "SheetNames$Walk" "spot" "LSheetNames$Spot;" ∈ lw_gd := tm_2 _ (List.mem_of_getElem? (i := 59) rfl) rfl
theorem t_w826 : Cond.fieldLink RX9 15 "SheetNames$Walk" "reached" "[I" ∈ lw_gd := tm_2 _ (List.mem_of_getElem? (i := 61) rfl) rfl
theorem t_w827 : Cond.fieldLink RX1 24 "SheetNames$Box" "grid" "LSheetNames$Grid;" ∈ lw_gd := tm_2 _ (List.mem_of_getElem? (i := 78) rfl) rfl
theorem t_w828 : Cond.fieldLink RX1 9 "SheetNames$Box" "south" "I" ∈ lw_gd := tm_2 _ (List.mem_of_getElem? (i := 79) rfl) rfl
theorem t_w829 : Cond.methodLink RX1 41 Lib.Math.min.name ∈ lw_gd := tm_4 _ (List.mem_of_getElem? (i := 78) rfl) rfl
theorem t_w830 : Cond.fieldLink RX1 15 "SheetNames$Box" "north" "I" ∈ lw_gd := tm_2 _ (List.mem_of_getElem? (i := 80) rfl) rfl
theorem t_w831 : Cond.methodLink RX1 57 Lib.Math.max.name ∈ lw_gd := tm_4 _ (List.mem_of_getElem? (i := 69) rfl) rfl
theorem t_w832 : Cond.fieldLink RX1 18 "SheetNames$Box" "west" "I" ∈ lw_gd := tm_2 _ (List.mem_of_getElem? (i := 81) rfl) rfl
theorem t_w833 : Cond.fieldLink RX1 21 "SheetNames$Box" "east" "I" ∈ lw_gd := tm_2 _ (List.mem_of_getElem? (i := 82) rfl) rfl
theorem t_w834 : Cond.fieldLink RX4 15 "SheetNames$NameText" "length" "I" ∈ lw_gd := tm_2 _ (List.mem_of_getElem? (i := 102) rfl) rfl
theorem t_w835 : Cond.fieldLink RX4 9 "SheetNames$NameText" "bytes" "[I" ∈ lw_gd := tm_2 _ (List.mem_of_getElem? (i := 100) rfl) rfl
theorem t_w836 : Cond.methodLink RX4 46 Lib.Math.min.name ∈ lw_gd := tm_4 _ (List.mem_of_getElem? (i := 147) rfl) rfl
theorem t_w837 : Cond.fieldLink RX8 15 "SheetNames$Tape" "length" "I" ∈ lw_gd := tm_1 _ (List.mem_of_getElem? (i := 159) rfl) rfl
theorem t_w838 : Cond.fieldLink RX8 9 "SheetNames$Tape" "bytes" "[I" ∈ lw_gd := tm_1 _ (List.mem_of_getElem? (i := 157) rfl) rfl
theorem t_w839 : Cond.fieldLink RJ0 38 "java/lang/String" "COMPACT_STRINGS" "Z" ∈ lw_gd := tm_4 _ (List.mem_of_getElem? (i := 195) rfl) rfl
theorem t_w840 : Cond.fieldLink RJ0 15 "java/lang/String" "coder" "B" ∈ lw_gd := tm_8 _ (List.mem_of_getElem? (i := 53) rfl) rfl
theorem t_w841 : Cond.fieldLink RJ0 9 "java/lang/String" "value" "[B" ∈ lw_gd := tm_8 _ (List.mem_of_getElem? (i := 52) rfl) rfl
theorem t_w842 : Cond.fieldLink RJ0 1053 "jdk/internal/util/Preconditions" "SIOOBE_FORMATTER" "Ljava/util/function/BiFunction;" ∈ lw_gd := tm_4 _ (List.mem_of_getElem? (i := 211) rfl) rfl
theorem t_w843 : Cond.fieldLink RX3 24 "SheetNames$NameReader" "fault" "I" ∈ lw_gd := tm_1 _ (List.mem_of_getElem? (i := 183) rfl) rfl
theorem t_w844 : Cond.fieldLink RX3 27 "SheetNames$NameReader" "faultPlace" "I" ∈ lw_gd := tm_1 _ (List.mem_of_getElem? (i := 185) rfl) rfl
theorem t_w845 : Cond.fieldLink RX3 30 "SheetNames$NameReader" "endedSoon" "Z" ∈ lw_gd := tm_1 _ (List.mem_of_getElem? (i := 186) rfl) rfl
theorem t_w846 : Cond.fieldLink RX3 9 "SheetNames$NameReader" "next" "I" ∈ lw_gd := tm_1 _ (List.mem_of_getElem? (i := 175) rfl) rfl
theorem t_w847 : Cond.fieldLink RX3 15 "SheetNames$NameReader" "end" "I" ∈ lw_gd := tm_1 _ (List.mem_of_getElem? (i := 176) rfl) rfl
theorem t_w848 : Cond.fieldLink RX3 38 "SheetNames$NameReader" "tape" "LSheetNames$Tape;" ∈ lw_gd := tm_1 _ (List.mem_of_getElem? (i := 174) rfl) rfl
theorem t_w849 : Cond.fieldLink RX3 18 "SheetNames$NameReader" "level" "I" ∈ lw_gd := tm_1 _ (List.mem_of_getElem? (i := 177) rfl) rfl
theorem t_w850 : Cond.fieldLink RX3 34 "SheetNames$NameReader" "grid" "LSheetNames$Grid;" ∈ lw_gd := tm_1 _ (List.mem_of_getElem? (i := 173) rfl) rfl
theorem t_w851 : Cond.fieldLink RX3 21 "SheetNames$NameReader" "key" "I" ∈ lw_gd := tm_1 _ (List.mem_of_getElem? (i := 180) rfl) rfl
theorem t_w852 : Cond.fieldLink RX5 31 "SheetNames$Question" "tape" "LSheetNames$Tape;" ∈ lw_gd := tm_1 _ (List.mem_of_getElem? (i := 214) rfl) rfl
theorem t_w853 : Cond.fieldLink RX5 27 "SheetNames$Question" "reader" "LSheetNames$NameReader;" ∈ lw_gd := tm_1 _ (List.mem_of_getElem? (i := 213) rfl) rfl
theorem t_w854 : Cond.fieldLink RX5 21 "SheetNames$Question" "otherLevel" "I" ∈ lw_gd := tm_1 _ (List.mem_of_getElem? (i := 221) rfl) rfl
theorem t_w855 : Cond.fieldLink RX5 24 "SheetNames$Question" "otherKey" "I" ∈ lw_gd := tm_1 _ (List.mem_of_getElem? (i := 223) rfl) rfl
theorem t_w856 : Cond.fieldLink RX5 9 "SheetNames$Question" "word" "I" ∈ lw_gd := tm_1 _ (List.mem_of_getElem? (i := 215) rfl) rfl
theorem t_w857 : Cond.fieldLink RX5 15 "SheetNames$Question" "level" "I" ∈ lw_gd := tm_1 _ (List.mem_of_getElem? (i := 217) rfl) rfl
theorem t_w858 : Cond.fieldLink RX5 18 "SheetNames$Question" "key" "I" ∈ lw_gd := tm_1 _ (List.mem_of_getElem? (i := 219) rfl) rfl
theorem t_w859 : Cond.fieldLink RX7 9 "SheetNames$Store" "levels" "[I" ∈ lw_gd := tm_1 _ (List.mem_of_getElem? (i := 91) rfl) rfl
theorem t_w860 : Cond.methodLink RX7 67 arraycopyName ∈ lw_gd := tm_5 _ (List.mem_of_getElem? (i := 142) rfl) rfl
theorem t_w861 : Cond.fieldLink RX7 15 "SheetNames$Store" "keys" "[I" ∈ lw_gd := tm_1 _ (List.mem_of_getElem? (i := 93) rfl) rfl
theorem t_w862 : Cond.fieldLink RX7 18 "SheetNames$Store" "years" "[I" ∈ lw_gd := tm_1 _ (List.mem_of_getElem? (i := 95) rfl) rfl
theorem t_w863 : Cond.fieldLink RX7 24 "SheetNames$Store" "size" "I" ∈ lw_gd := tm_1 _ (List.mem_of_getElem? (i := 98) rfl) rfl
theorem t_w864 : Cond.fieldLink RX7 37 "SheetNames$Store" "grid" "LSheetNames$Grid;" ∈ lw_gd := tm_1 _ (List.mem_of_getElem? (i := 90) rfl) rfl
theorem t_w865 : Cond.fieldLink RX7 21 "SheetNames$Store" "keysThere" "[I" ∈ lw_gd := tm_1 _ (List.mem_of_getElem? (i := 97) rfl) rfl
theorem t_w866 : Cond.fieldLink RX7 28 "SheetNames$Store" "shownBy" "I" ∈ lw_gd := tm_1 _ (List.mem_of_getElem? (i := 100) rfl) rfl
theorem t_w867 : Cond.fieldLink RX7 31 "SheetNames$Store" "deepestShown" "I" ∈ lw_gd := tm_1 _ (List.mem_of_getElem? (i := 102) rfl) rfl
theorem t_w868 : Cond.fieldLink RX7 34 "SheetNames$Store" "latestShown" "I" ∈ lw_gd := tm_1 _ (List.mem_of_getElem? (i := 104) rfl) rfl
theorem t_w869 : Cond.methodLink RX7 59 Lib.Math.max.name ∈ lw_gd := tm_5 _ (List.mem_of_getElem? (i := 61) rfl) rfl
theorem t_w870 : Cond.fieldLink RX0 12 "SheetNames$Atlas" "grid" "LSheetNames$Grid;" ∈ lw_gd := tm_1 _ (List.mem_of_getElem? (i := 125) rfl) rfl
theorem t_w871 : Cond.fieldLink RX0 23 "SheetNames$Atlas" "store" "LSheetNames$Store;" ∈ lw_gd := tm_1 _ (List.mem_of_getElem? (i := 127) rfl) rfl
theorem t_w872 : Cond.fieldLink RX0 27 "SheetNames$Atlas" "right" "I" ∈ lw_gd := tm_1 _ (List.mem_of_getElem? (i := 129) rfl) rfl
theorem t_w873 : Cond.fieldLink RX0 31 "SheetNames$Atlas" "faulty" "I" ∈ lw_gd := tm_1 _ (List.mem_of_getElem? (i := 131) rfl) rfl
theorem t_w874 : Cond.fieldLink RX0 34 "SheetNames$Atlas" "endedSoon" "I" ∈ lw_gd := tm_1 _ (List.mem_of_getElem? (i := 133) rfl) rfl
theorem t_w875 : Cond.fieldLink RX0 37 "SheetNames$Atlas" "noSuchNumber" "I" ∈ lw_gd := tm_1 _ (List.mem_of_getElem? (i := 135) rfl) rfl
theorem t_w876 : Cond.fieldLink RX10 20 "SheetNames" "grid" "LSheetNames$Grid;" ∈ lw_gd := tm_2 _ (List.mem_of_getElem? (i := 110) rfl) rfl
theorem t_w877 : Cond.fieldLink RX10 66 "SheetNames" "spot" "LSheetNames$Spot;" ∈ lw_gd := tm_2 _ (List.mem_of_getElem? (i := 117) rfl) rfl
theorem t_w878 : Cond.fieldLink RX10 80 "SheetNames" "area" "LSheetNames$Box;" ∈ lw_gd := tm_2 _ (List.mem_of_getElem? (i := 119) rfl) rfl
theorem t_w879 : Cond.methodLink RX10 310 Lib.Math.min.name ∈ lw_gd := tm_4 _ (List.mem_of_getElem? (i := 129) rfl) rfl
theorem t_w880 : Cond.methodLink RX10 313 Lib.Math.max.name ∈ lw_gd := tm_4 _ (List.mem_of_getElem? (i := 130) rfl) rfl
theorem t_w881 : Cond.fieldLink RX10 73 "SheetNames" "walk" "LSheetNames$Walk;" ∈ lw_gd := tm_2 _ (List.mem_of_getElem? (i := 118) rfl) rfl
theorem t_w882 : Cond.fieldLink RX10 39 "SheetNames" "tape" "LSheetNames$Tape;" ∈ lw_gd := tm_2 _ (List.mem_of_getElem? (i := 114) rfl) rfl
theorem t_w883 : Cond.fieldLink RX10 57 "SheetNames" "question" "LSheetNames$Question;" ∈ lw_gd := tm_2 _ (List.mem_of_getElem? (i := 116) rfl) rfl
theorem t_w884 : Cond.fieldLink RX10 10 "SheetNames" "now" "LSheetNames$Atlas;" ∈ lw_gd := tm_2 _ (List.mem_of_getElem? (i := 109) rfl) rfl
theorem t_w885 : Cond.fieldLink RX10 48 "SheetNames" "reader" "LSheetNames$NameReader;" ∈ lw_gd := tm_2 _ (List.mem_of_getElem? (i := 115) rfl) rfl
theorem t_w886 : Cond.constant RX10 207 (-1000000) ∈ lw_gd := tm_3 _ (List.mem_of_getElem? (i := 118) rfl) rfl
theorem t_w887 : Cond.fieldLink RX10 87 "SheetNames" "text" "LSheetNames$NameText;" ∈ lw_gd := tm_2 _ (List.mem_of_getElem? (i := 120) rfl) rfl
theorem t_w888 : Cond.fieldLink RX10 91 "SheetNames" "otherText" "LSheetNames$NameText;" ∈ lw_gd := tm_2 _ (List.mem_of_getElem? (i := 121) rfl) rfl
theorem t_w889 : Cond.constant RX10 445 (-324000) ∈ lw_gd := tm_2 _ (List.mem_of_getElem? (i := 192) rfl) rfl
theorem t_w890 : Cond.constant RX10 446 (324000) ∈ lw_gd := tm_2 _ (List.mem_of_getElem? (i := 193) rfl) rfl
theorem t_w891 : Cond.constant RX10 447 (1295999) ∈ lw_gd := tm_2 _ (List.mem_of_getElem? (i := 194) rfl) rfl
theorem t_w892 : Cond.fieldLink RX10 25 "SheetNames" "pieces" "LSheetNames$Store;" ∈ lw_gd := tm_2 _ (List.mem_of_getElem? (i := 111) rfl) rfl
theorem t_w893 : Cond.fieldLink RX10 32 "SheetNames" "keptStates" "I" ∈ lw_gd := tm_2 _ (List.mem_of_getElem? (i := 113) rfl) rfl
theorem t_w894 : Cond.constant RX10 306 (100000000) ∈ lw_gd := tm_4 _ (List.mem_of_getElem? (i := 120) rfl) rfl
theorem t_w895 : Cond.constantLong RX10 120 (20000000) ∈ lw_gd := tm_2 _ (List.mem_of_getElem? (i := 173) rfl) rfl
theorem t_w896 : Cond.constant RX10 421 (65535) ∈ lw_gd := tm_5 _ (List.mem_of_getElem? (i := 106) rfl) rfl
theorem t_w897 : Cond.fieldLink RX10 94 "SheetNames" "seen" "[I" ∈ lw_gd := tm_2 _ (List.mem_of_getElem? (i := 122) rfl) rfl
theorem t_w898 : Cond.constant RX10 425 (319488) ∈ lw_gd := tm_5 _ (List.mem_of_getElem? (i := 110) rfl) rfl
theorem t_w899 : Cond.constantLong RX10 188 (-9223372036854775808) ∈ lw_gd := tm_3 _ (List.mem_of_getElem? (i := 93) rfl) rfl
theorem t_w900 : Cond.methodLink RX10 197 Lib.MathLoose.abs_long.x ∈ lw_gd := tm_3 _ (List.mem_of_getElem? (i := 108) rfl) rfl
theorem t_w901 : Cond.static Lib.MathLoose.abs_long.x ∈ lw_gd := tm_3 _ (List.mem_of_getElem? (i := 109) rfl) rfl
theorem t_w902 : Cond.code Lib.MathLoose.abs_long.x Lib.MathLoose.abs_long.code 2 (some .long) ∈ lw_gd := tm_3 _ (List.mem_of_getElem? (i := 110) rfl) rfl
theorem t_w903 : Cond.fieldLink RX10 28 "SheetNames" "kept" "[LSheetNames$Atlas;" ∈ lw_gd := tm_2 _ (List.mem_of_getElem? (i := 112) rfl) rfl
theorem t_w904 : Cond.constantLong RX10 332 (-324000) ∈ lw_gd := tm_4 _ (List.mem_of_getElem? (i := 156) rfl) rfl
theorem t_w905 : Cond.constantLong RX10 334 (324000) ∈ lw_gd := tm_4 _ (List.mem_of_getElem? (i := 157) rfl) rfl
theorem t_w906 : Cond.constantLong RX10 336 (1296000) ∈ lw_gd := tm_4 _ (List.mem_of_getElem? (i := 158) rfl) rfl
theorem t_w907 : Cond.arrayClass .int ∈ lw_gd := tm_1 _ (List.mem_of_getElem? (i := 83) rfl) rfl
theorem t_w908 : Cond.fieldLink RX11 16 "SheetNamesModel" "deep" "[I" ∈ lw_gd := tm_5 _ (List.mem_of_getElem? (i := 162) rfl) rfl
theorem t_w909 : Cond.fieldLink RX11 19 "SheetNamesModel" "wide" "[I" ∈ lw_gd := tm_5 _ (List.mem_of_getElem? (i := 163) rfl) rfl
theorem t_w910 : Cond.fieldLink RX11 22 "SheetNamesModel" "zonesAhead" "[I" ∈ lw_gd := tm_5 _ (List.mem_of_getElem? (i := 164) rfl) rfl
theorem t_w911 : Cond.fieldLink RX11 257 "SheetNamesModel" "manyBeside" "I" ∈ lw_gd := tm_5 _ (List.mem_of_getElem? (i := 182) rfl) rfl
theorem t_w912 : Cond.fieldLink RX11 260 "SheetNamesModel" "firstBeside" "I" ∈ lw_gd := tm_5 _ (List.mem_of_getElem? (i := 181) rfl) rfl
theorem t_w913 : Cond.fieldLink RX11 170 "SheetNamesModel" "place" "I" ∈ lw_gd := tm_5 _ (List.mem_of_getElem? (i := 169) rfl) rfl
theorem t_w914 : Cond.fieldLink RX11 31 "SheetNamesModel" "tape" "[B" ∈ lw_gd := tm_5 _ (List.mem_of_getElem? (i := 167) rfl) rfl
theorem t_w915 : Cond.fieldLink RX11 167 "SheetNamesModel" "fault" "I" ∈ lw_gd := tm_5 _ (List.mem_of_getElem? (i := 170) rfl) rfl
theorem t_w916 : Cond.fieldLink RX11 173 "SheetNamesModel" "number" "I" ∈ lw_gd := tm_5 _ (List.mem_of_getElem? (i := 171) rfl) rfl
theorem t_w917 : Cond.constantLong RX11 179 (48) ∈ lw_gd := tm_6 _ (List.mem_of_getElem? (i := 179) rfl) rfl
theorem t_w918 : Cond.constantLong RX11 181 (57) ∈ lw_gd := tm_6 _ (List.mem_of_getElem? (i := 180) rfl) rfl
theorem t_w919 : Cond.constantLong RX11 186 (65) ∈ lw_gd := tm_6 _ (List.mem_of_getElem? (i := 173) rfl) rfl
theorem t_w920 : Cond.constantLong RX11 188 (86) ∈ lw_gd := tm_6 _ (List.mem_of_getElem? (i := 174) rfl) rfl
theorem t_w921 : Cond.fieldLink RX11 190 "SheetNamesModel" "levelRead" "I" ∈ lw_gd := tm_5 _ (List.mem_of_getElem? (i := 172) rfl) rfl
theorem t_w922 : Cond.fieldLink RX11 193 "SheetNamesModel" "keyRead" "I" ∈ lw_gd := tm_5 _ (List.mem_of_getElem? (i := 173) rfl) rfl
theorem t_w923 : Cond.fieldLink RX11 13 "SheetNamesModel" "cutColumns" "[I" ∈ lw_gd := tm_5 _ (List.mem_of_getElem? (i := 161) rfl) rfl
theorem t_w924 : Cond.fieldLink RX11 7 "SheetNamesModel" "cutRows" "[I" ∈ lw_gd := tm_5 _ (List.mem_of_getElem? (i := 160) rfl) rfl
theorem t_w925 : Cond.fieldLink RX11 356 "SheetNamesModel" "isEarly" "Z" ∈ lw_gd := tm_5 _ (List.mem_of_getElem? (i := 191) rfl) rfl
theorem t_w926 : Cond.fieldLink RX11 199 "SheetNamesModel" "reads" "I" ∈ lw_gd := tm_5 _ (List.mem_of_getElem? (i := 174) rfl) rfl
theorem t_w927 : Cond.fieldLink RX11 202 "SheetNamesModel" "faults" "I" ∈ lw_gd := tm_5 _ (List.mem_of_getElem? (i := 175) rfl) rfl
theorem t_w928 : Cond.fieldLink RX11 205 "SheetNamesModel" "cutShort" "I" ∈ lw_gd := tm_5 _ (List.mem_of_getElem? (i := 176) rfl) rfl
theorem t_w929 : Cond.fieldLink RX11 208 "SheetNamesModel" "noNumber" "I" ∈ lw_gd := tm_5 _ (List.mem_of_getElem? (i := 177) rfl) rfl
theorem t_w930 : Cond.constantLong RX11 366 (1130181) ∈ lw_gd := tm_7 _ (List.mem_of_getElem? (i := 163) rfl) rfl
theorem t_w931 : Cond.constantLong RX11 368 (15190664) ∈ lw_gd := tm_7 _ (List.mem_of_getElem? (i := 159) rfl) rfl
theorem t_w932 : Cond.constantLong RX11 370 (165492) ∈ lw_gd := tm_7 _ (List.mem_of_getElem? (i := 160) rfl) rfl
theorem t_w933 : Cond.constantLong RX11 372 (20436616) ∈ lw_gd := tm_7 _ (List.mem_of_getElem? (i := 161) rfl) rfl
theorem t_w934 : Cond.fieldLink RX11 220 "SheetNamesModel" "bottomLat" "J" ∈ lw_gd := tm_5 _ (List.mem_of_getElem? (i := 178) rfl) rfl
theorem t_w935 : Cond.fieldLink RX11 224 "SheetNamesModel" "bottomLon" "J" ∈ lw_gd := tm_5 _ (List.mem_of_getElem? (i := 179) rfl) rfl
theorem t_w936 : Cond.fieldLink RX11 35 "SheetNamesModel" "edges" "[J" ∈ lw_gd := tm_5 _ (List.mem_of_getElem? (i := 180) rfl) rfl
theorem t_w937 : Cond.constantLong RX11 110 (1296000) ∈ lw_gd := tm_6 _ (List.mem_of_getElem? (i := 111) rfl) rfl
theorem t_w938 : Cond.constantLong RX11 227 (316800) ∈ lw_gd := tm_6 _ (List.mem_of_getElem? (i := 195) rfl) rfl
theorem t_w939 : Cond.constantLong RX11 78 (324000) ∈ lw_gd := tm_6 _ (List.mem_of_getElem? (i := 83) rfl) rfl
theorem t_w940 : Cond.constantLong RX11 76 (-324000) ∈ lw_gd := tm_6 _ (List.mem_of_getElem? (i := 82) rfl) rfl
theorem t_w941 : Cond.constantLong RX11 229 (-316800) ∈ lw_gd := tm_6 _ (List.mem_of_getElem? (i := 196) rfl) rfl
theorem t_w942 : Cond.constantLong RX11 231 (14400) ∈ lw_gd := tm_6 _ (List.mem_of_getElem? (i := 197) rfl) rfl
theorem t_w943 : Cond.constant RX11 245 (324000) ∈ lw_gd := tm_6 _ (List.mem_of_getElem? (i := 209) rfl) rfl
theorem t_w944 : Cond.constant RX11 246 (-324000) ∈ lw_gd := tm_6 _ (List.mem_of_getElem? (i := 210) rfl) rfl
theorem t_w945 : Cond.constantLong RX11 127 (2) ∈ lw_gd := tm_6 _ (List.mem_of_getElem? (i := 57) rfl) rfl
theorem t_w946 : Cond.constant RX11 108 (316800) ∈ lw_gd := tm_6 _ (List.mem_of_getElem? (i := 93) rfl) rfl
theorem t_w947 : Cond.constant RX11 109 (-316800) ∈ lw_gd := tm_6 _ (List.mem_of_getElem? (i := 94) rfl) rfl
theorem t_w948 : Cond.fieldLink RX11 298 "SheetNamesModel" "boxLevel" "I" ∈ lw_gd := tm_5 _ (List.mem_of_getElem? (i := 186) rfl) rfl
theorem t_w949 : Cond.fieldLink RX11 301 "SheetNamesModel" "boxTop" "I" ∈ lw_gd := tm_5 _ (List.mem_of_getElem? (i := 187) rfl) rfl
theorem t_w950 : Cond.fieldLink RX11 304 "SheetNamesModel" "boxBottom" "I" ∈ lw_gd := tm_5 _ (List.mem_of_getElem? (i := 188) rfl) rfl
theorem t_w951 : Cond.fieldLink RX11 307 "SheetNamesModel" "boxWest" "I" ∈ lw_gd := tm_5 _ (List.mem_of_getElem? (i := 189) rfl) rfl
theorem t_w952 : Cond.fieldLink RX11 310 "SheetNamesModel" "boxEast" "I" ∈ lw_gd := tm_5 _ (List.mem_of_getElem? (i := 190) rfl) rfl
theorem t_w953 : Cond.fieldLink RX11 39 "SheetNamesModel" "dist" "[I" ∈ lw_gd := tm_5 _ (List.mem_of_getElem? (i := 183) rfl) rfl
theorem t_w954 : Cond.fieldLink RX11 42 "SheetNamesModel" "queue" "[I" ∈ lw_gd := tm_5 _ (List.mem_of_getElem? (i := 184) rfl) rfl
theorem t_w955 : Cond.fieldLink RX11 276 "SheetNamesModel" "queued" "I" ∈ lw_gd := tm_5 _ (List.mem_of_getElem? (i := 185) rfl) rfl
theorem t_w956 : Cond.constantLong RX11 70 (4) ∈ lw_gd := tm_6 _ (List.mem_of_getElem? (i := 52) rfl) rfl
theorem t_w957 : Cond.constantLong RX11 348 (97) ∈ lw_gd := tm_7 _ (List.mem_of_getElem? (i := 153) rfl) rfl
theorem t_w958 : Cond.constantLong RX11 350 (122) ∈ lw_gd := tm_7 _ (List.mem_of_getElem? (i := 154) rfl) rfl
theorem t_w959 : Cond.constantLong RX11 352 (-1) ∈ lw_gd := tm_7 _ (List.mem_of_getElem? (i := 155) rfl) rfl
theorem t_w960 : Cond.constantLong RX11 354 (32) ∈ lw_gd := tm_7 _ (List.mem_of_getElem? (i := 156) rfl) rfl
theorem t_w961 : Cond.constantLong RX11 377 (100) ∈ lw_gd := tm_7 _ (List.mem_of_getElem? (i := 144) rfl) rfl
theorem t_w962 : Cond.fieldLink RX11 160 "SheetNamesModel" "taped" "I" ∈ lw_gd := tm_5 _ (List.mem_of_getElem? (i := 168) rfl) rfl
theorem t_w963 : Cond.constantLong RX11 383 (20583955) ∈ lw_gd := tm_7 _ (List.mem_of_getElem? (i := 157) rfl) rfl
theorem t_w964 : Cond.constantLong RX11 385 (2336986286) ∈ lw_gd := tm_7 _ (List.mem_of_getElem? (i := 158) rfl) rfl
theorem t_w965 : Cond.constantLong RX11 387 (759412) ∈ lw_gd := tm_7 _ (List.mem_of_getElem? (i := 162) rfl) rfl
theorem t_w966 : Cond.constantLong RX11 131 (5) ∈ lw_gd := tm_6 _ (List.mem_of_getElem? (i := 70) rfl) rfl
theorem t_w967 : Cond.constant RX11 253 (-1000000) ∈ lw_gd := tm_6 _ (List.mem_of_getElem? (i := 214) rfl) rfl
theorem t_w968 : Cond.fieldLink RX11 25 "SheetNamesModel" "nameOne" "[I" ∈ lw_gd := tm_5 _ (List.mem_of_getElem? (i := 165) rfl) rfl
theorem t_w969 : Cond.fieldLink RX11 28 "SheetNamesModel" "nameOther" "[I" ∈ lw_gd := tm_5 _ (List.mem_of_getElem? (i := 166) rfl) rfl
theorem t_w970 : Cond.constantLong RX11 80 (1295999) ∈ lw_gd := tm_6 _ (List.mem_of_getElem? (i := 84) rfl) rfl
theorem t_w971 : Cond.constantLong RX11 429 (200) ∈ lw_gd := tm_8 _ (List.mem_of_getElem? (i := 16) rfl) rfl
theorem t_w972 : Cond.fieldLink RX11 123 "SheetNamesModel" "pieces" "I" ∈ lw_gd := tm_5 _ (List.mem_of_getElem? (i := 192) rfl) rfl
theorem t_w973 : Cond.fieldLink RX11 440 "SheetNamesModel" "states" "I" ∈ lw_gd := tm_5 _ (List.mem_of_getElem? (i := 193) rfl) rfl
theorem t_w974 : Cond.constant RX11 341 (100000000) ∈ lw_gd := tm_7 _ (List.mem_of_getElem? (i := 119) rfl) rfl
theorem t_w975 : Cond.constantLong RX11 121 (6) ∈ lw_gd := tm_6 _ (List.mem_of_getElem? (i := 56) rfl) rfl
theorem t_w976 : Cond.constantLong RX11 129 (20000000) ∈ lw_gd := tm_6 _ (List.mem_of_getElem? (i := 58) rfl) rfl
theorem t_w977 : Cond.fieldLink RX11 431 "SheetNamesModel" "drawnNow" "I" ∈ lw_gd := tm_5 _ (List.mem_of_getElem? (i := 197) rfl) rfl
theorem t_w978 : Cond.constant RX11 434 (65536) ∈ lw_gd := tm_8 _ (List.mem_of_getElem? (i := 26) rfl) rfl
theorem t_w979 : Cond.constant RX11 435 (65535) ∈ lw_gd := tm_8 _ (List.mem_of_getElem? (i := 21) rfl) rfl
theorem t_w980 : Cond.constant RX11 439 (319488) ∈ lw_gd := tm_8 _ (List.mem_of_getElem? (i := 27) rfl) rfl
theorem t_w981 : Cond.fieldLink RX11 54 "SheetNamesModel" "drawnKeys" "[I" ∈ lw_gd := tm_5 _ (List.mem_of_getElem? (i := 198) rfl) rfl
theorem t_w982 : Cond.fieldLink RX11 45 "SheetNamesModel" "pieceLevel" "[I" ∈ lw_gd := tm_5 _ (List.mem_of_getElem? (i := 194) rfl) rfl
theorem t_w983 : Cond.fieldLink RX11 48 "SheetNamesModel" "pieceKey" "[I" ∈ lw_gd := tm_5 _ (List.mem_of_getElem? (i := 195) rfl) rfl
theorem t_w984 : Cond.fieldLink RX11 51 "SheetNamesModel" "pieceYear" "[I" ∈ lw_gd := tm_5 _ (List.mem_of_getElem? (i := 196) rfl) rfl
theorem t_w985 : Cond.constantLong RX11 233 (7) ∈ lw_gd := tm_6 _ (List.mem_of_getElem? (i := 189) rfl) rfl
theorem t_w986 : Cond.constantLong RX11 235 (-9223372036854775808) ∈ lw_gd := tm_6 _ (List.mem_of_getElem? (i := 190) rfl) rfl
theorem t_w987 : Cond.constantLong RX11 403 (2100) ∈ lw_gd := tm_7 _ (List.mem_of_getElem? (i := 188) rfl) rfl
theorem t_w988 : Cond.constantLong RX11 82 (3) ∈ lw_gd := tm_7 _ (List.mem_of_getElem? (i := 6) rfl) rfl
theorem t_w989 : Cond.constantLong RX11 401 (1800) ∈ lw_gd := tm_7 _ (List.mem_of_getElem? (i := 187) rfl) rfl
theorem t_w990 : Cond.fieldLink RX11 57 "SheetNamesModel" "kept" "[I" ∈ lw_gd := tm_5 _ (List.mem_of_getElem? (i := 199) rfl) rfl
theorem t_w991 : Cond.fieldLink RX11 443 "SheetNamesModel" "keptAt" "I" ∈ lw_gd := tm_5 _ (List.mem_of_getElem? (i := 200) rfl) rfl
theorem t_w992 : Cond.fieldLink RX11 60 "SheetNamesModel" "noNumbers" "[I" ∈ lw_gd := tm_5 _ (List.mem_of_getElem? (i := 201) rfl) rfl
theorem t_w993 : Cond.constantLong RX11 211 (40) ∈ lw_gd := tm_6 _ (List.mem_of_getElem? (i := 160) rfl) rfl
theorem t_w994 : Cond.methodLink RX2 3 objectInit ∈ lw_gd := tm_1 _ (List.mem_of_getElem? (i := 39) rfl) rfl
theorem t_w995 : Cond.instanceMethod objectInit ∈ lw_gd := tm_1 _ (List.mem_of_getElem? (i := 26) rfl) rfl
theorem t_w996 : Cond.code objectInit ⟨#[0xb1]⟩ 1 none ∈ lw_gd := tm_1 _ (List.mem_of_getElem? (i := 27) rfl) rfl
theorem t_w997 : Cond.methodLink RX7 3 objectInit ∈ lw_gd := tm_1 _ (List.mem_of_getElem? (i := 89) rfl) rfl
theorem t_w998 : Cond.methodLink RX0 3 objectInit ∈ lw_gd := tm_1 _ (List.mem_of_getElem? (i := 33) rfl) rfl
theorem t_w999 : Cond.classLink RX0 9 RX2 ∈ lw_gd := tm_1 _ (List.mem_of_getElem? (i := 34) rfl) rfl
theorem t_w1000 : Cond.instantiable RX2 6 ∈ lw_gd := tm_1 _ (List.mem_of_getElem? (i := 35) rfl) rfl
theorem t_w1001 : Cond.classLink RX0 18 RX7 ∈ lw_gd := tm_1 _ (List.mem_of_getElem? (i := 84) rfl) rfl
theorem t_w1002 : Cond.instantiable RX7 9 ∈ lw_gd := tm_1 _ (List.mem_of_getElem? (i := 85) rfl) rfl
theorem t_w1003 : Cond.methodLink RX0 11 yX2_init ∈ lw_gd := tm_1 _ (List.mem_of_getElem? (i := 36) rfl) rfl
theorem t_w1004 : Cond.instanceMethod yX2_init ∈ lw_gd := tm_1 _ (List.mem_of_getElem? (i := 37) rfl) rfl
theorem t_w1005 : Cond.methodLink RX0 20 yX7_init ∈ lw_gd := tm_1 _ (List.mem_of_getElem? (i := 86) rfl) rfl
theorem t_w1006 : Cond.instanceMethod yX7_init ∈ lw_gd := tm_1 _ (List.mem_of_getElem? (i := 87) rfl) rfl
theorem t_w1007 : Cond.methodLink RX8 3 objectInit ∈ lw_gd := tm_1 _ (List.mem_of_getElem? (i := 156) rfl) rfl
theorem t_w1008 : Cond.methodLink RX3 3 objectInit ∈ lw_gd := tm_1 _ (List.mem_of_getElem? (i := 172) rfl) rfl
theorem t_w1009 : Cond.methodLink RX5 3 objectInit ∈ lw_gd := tm_1 _ (List.mem_of_getElem? (i := 212) rfl) rfl
theorem t_w1010 : Cond.methodLink RX6 3 objectInit ∈ lw_gd := tm_2 _ (List.mem_of_getElem? (i := 5) rfl) rfl
theorem t_w1011 : Cond.methodLink RX9 3 objectInit ∈ lw_gd := tm_2 _ (List.mem_of_getElem? (i := 56) rfl) rfl
theorem t_w1012 : Cond.classLink RX9 22 RX6 ∈ lw_gd := tm_2 _ (List.mem_of_getElem? (i := 57) rfl) rfl
theorem t_w1013 : Cond.instantiable RX6 11 ∈ lw_gd := tm_2 _ (List.mem_of_getElem? (i := 1) rfl) rfl
theorem t_w1014 : Cond.methodLink RX9 24 yX6_init ∈ lw_gd := tm_2 _ (List.mem_of_getElem? (i := 58) rfl) rfl
theorem t_w1015 : Cond.instanceMethod yX6_init ∈ lw_gd := tm_2 _ (List.mem_of_getElem? (i := 3) rfl) rfl
theorem t_w1016 : Cond.methodLink RX1 3 objectInit ∈ lw_gd := tm_2 _ (List.mem_of_getElem? (i := 77) rfl) rfl
theorem t_w1017 : Cond.methodLink RX4 3 objectInit ∈ lw_gd := tm_2 _ (List.mem_of_getElem? (i := 99) rfl) rfl
theorem t_w1018 : Cond.methodLink RX10 1 objectInit ∈ lw_gd := tm_1 _ (List.mem_of_getElem? (i := 25) rfl) rfl
theorem t_w1019 : Cond.classLink RX10 7 RX0 ∈ lw_gd := tm_1 _ (List.mem_of_getElem? (i := 28) rfl) rfl
theorem t_w1020 : Cond.instantiable RX0 6 ∈ lw_gd := tm_1 _ (List.mem_of_getElem? (i := 29) rfl) rfl
theorem t_w1021 : Cond.classLink RX10 36 RX8 ∈ lw_gd := tm_1 _ (List.mem_of_getElem? (i := 151) rfl) rfl
theorem t_w1022 : Cond.instantiable RX8 2 ∈ lw_gd := tm_1 _ (List.mem_of_getElem? (i := 152) rfl) rfl
theorem t_w1023 : Cond.classLink RX10 43 RX3 ∈ lw_gd := tm_1 _ (List.mem_of_getElem? (i := 167) rfl) rfl
theorem t_w1024 : Cond.instantiable RX3 9 ∈ lw_gd := tm_1 _ (List.mem_of_getElem? (i := 168) rfl) rfl
theorem t_w1025 : Cond.classLink RX10 52 RX5 ∈ lw_gd := tm_1 _ (List.mem_of_getElem? (i := 207) rfl) rfl
theorem t_w1026 : Cond.instantiable RX5 7 ∈ lw_gd := tm_1 _ (List.mem_of_getElem? (i := 208) rfl) rfl
theorem t_w1027 : Cond.classLink RX10 61 RX6 ∈ lw_gd := tm_2 _ (List.mem_of_getElem? (i := 0) rfl) rfl
theorem t_w1028 : Cond.classLink RX10 70 RX9 ∈ lw_gd := tm_2 _ (List.mem_of_getElem? (i := 51) rfl) rfl
theorem t_w1029 : Cond.instantiable RX9 4 ∈ lw_gd := tm_2 _ (List.mem_of_getElem? (i := 52) rfl) rfl
theorem t_w1030 : Cond.classLink RX10 77 RX1 ∈ lw_gd := tm_2 _ (List.mem_of_getElem? (i := 72) rfl) rfl
theorem t_w1031 : Cond.instantiable RX1 5 ∈ lw_gd := tm_2 _ (List.mem_of_getElem? (i := 73) rfl) rfl
theorem t_w1032 : Cond.classLink RX10 84 RX4 ∈ lw_gd := tm_2 _ (List.mem_of_getElem? (i := 94) rfl) rfl
theorem t_w1033 : Cond.instantiable RX4 2 ∈ lw_gd := tm_2 _ (List.mem_of_getElem? (i := 95) rfl) rfl
theorem t_w1034 : Cond.instanceMethod yX0_init ∈ lw_gd := tm_1 _ (List.mem_of_getElem? (i := 31) rfl) rfl
theorem t_w1035 : Cond.instanceMethod yX8_init ∈ lw_gd := tm_1 _ (List.mem_of_getElem? (i := 154) rfl) rfl
theorem t_w1036 : Cond.methodLink RX10 45 yX3_init ∈ lw_gd := tm_1 _ (List.mem_of_getElem? (i := 169) rfl) rfl
theorem t_w1037 : Cond.instanceMethod yX3_init ∈ lw_gd := tm_1 _ (List.mem_of_getElem? (i := 170) rfl) rfl
theorem t_w1038 : Cond.methodLink RX10 54 yX5_init ∈ lw_gd := tm_1 _ (List.mem_of_getElem? (i := 209) rfl) rfl
theorem t_w1039 : Cond.instanceMethod yX5_init ∈ lw_gd := tm_1 _ (List.mem_of_getElem? (i := 210) rfl) rfl
theorem t_w1040 : Cond.methodLink RX10 63 yX6_init ∈ lw_gd := tm_2 _ (List.mem_of_getElem? (i := 2) rfl) rfl
theorem t_w1041 : Cond.methodLink RX10 72 yX9_init ∈ lw_gd := tm_2 _ (List.mem_of_getElem? (i := 53) rfl) rfl
theorem t_w1042 : Cond.instanceMethod yX9_init ∈ lw_gd := tm_2 _ (List.mem_of_getElem? (i := 54) rfl) rfl
theorem t_w1043 : Cond.methodLink RX10 79 yX1_init ∈ lw_gd := tm_2 _ (List.mem_of_getElem? (i := 74) rfl) rfl
theorem t_w1044 : Cond.instanceMethod yX1_init ∈ lw_gd := tm_2 _ (List.mem_of_getElem? (i := 75) rfl) rfl
theorem t_w1045 : Cond.instanceMethod yX4_init ∈ lw_gd := tm_2 _ (List.mem_of_getElem? (i := 97) rfl) rfl
theorem t_w1046 : Cond.methodLink RX11 1 objectInit ∈ lw_gd := tm_5 _ (List.mem_of_getElem? (i := 152) rfl) rfl
theorem t_w1047 : Cond.arrayClass .byte ∈ lw_gd := tm_5 _ (List.mem_of_getElem? (i := 14) rfl) rfl
theorem t_w1048 : Cond.arrayClass .long ∈ lw_gd := tm_6 _ (List.mem_of_getElem? (i := 47) rfl) rfl
theorem t_w1049 : Cond.code yX10_init cX10_init 2 none ∈ lw_gd := tm_1 _ (List.mem_of_getElem? (i := 24) rfl) rfl
theorem t_w1050 : Cond.code yX11_init cX11_init 2 none ∈ lw_gd := tm_5 _ (List.mem_of_getElem? (i := 151) rfl) rfl
theorem t_w1051 : Cond.code yX10_feed cX10_feed 6 (some .int) ∈ lw_gd := tm_2 _ (List.mem_of_getElem? (i := 155) rfl) rfl
theorem t_w1052 : Cond.selects RX10 yX10_feed yX10_feed ∈ lw_gd := tm_2 _ (List.mem_of_getElem? (i := 154) rfl) rfl
theorem t_w1053 : Cond.instanceMethod yX10_feed ∈ lw_gd := tm_2 _ (List.mem_of_getElem? (i := 153) rfl) rfl
theorem t_w1054 : Cond.methodLink RL 13 yX10_feed ∈ lw_gd := tm_2 _ (List.mem_of_getElem? (i := 152) rfl) rfl
theorem t_w1055 : Cond.code yX11_feed cX11_feed 6 (some .int) ∈ lw_gd := tm_6 _ (List.mem_of_getElem? (i := 151) rfl) rfl
theorem t_w1056 : Cond.selects RX11 yX11_feed yX11_feed ∈ lw_gd := tm_6 _ (List.mem_of_getElem? (i := 150) rfl) rfl
theorem t_w1057 : Cond.instanceMethod yX11_feed ∈ lw_gd := tm_6 _ (List.mem_of_getElem? (i := 149) rfl) rfl
theorem t_w1058 : Cond.methodLink RL 17 yX11_feed ∈ lw_gd := tm_6 _ (List.mem_of_getElem? (i := 148) rfl) rfl
theorem t_w1059 : Cond.code yX10_cut cX10_cut 4 (some .int) ∈ lw_gd := tm_2 _ (List.mem_of_getElem? (i := 163) rfl) rfl
theorem t_w1060 : Cond.selects RX10 yX10_cut yX10_cut ∈ lw_gd := tm_2 _ (List.mem_of_getElem? (i := 162) rfl) rfl
theorem t_w1061 : Cond.instanceMethod yX10_cut ∈ lw_gd := tm_2 _ (List.mem_of_getElem? (i := 161) rfl) rfl
theorem t_w1062 : Cond.methodLink RL 18 yX10_cut ∈ lw_gd := tm_2 _ (List.mem_of_getElem? (i := 160) rfl) rfl
theorem t_w1063 : Cond.code yX11_cut cX11_cut 7 (some .int) ∈ lw_gd := tm_6 _ (List.mem_of_getElem? (i := 51) rfl) rfl
theorem t_w1064 : Cond.selects RX11 yX11_cut yX11_cut ∈ lw_gd := tm_6 _ (List.mem_of_getElem? (i := 50) rfl) rfl
theorem t_w1065 : Cond.instanceMethod yX11_cut ∈ lw_gd := tm_6 _ (List.mem_of_getElem? (i := 49) rfl) rfl
theorem t_w1066 : Cond.methodLink RL 22 yX11_cut ∈ lw_gd := tm_6 _ (List.mem_of_getElem? (i := 48) rfl) rfl
theorem t_w1067 : Cond.code yX10_level cX10_level 3 (some .int) ∈ lw_gd := tm_2 _ (List.mem_of_getElem? (i := 181) rfl) rfl
theorem t_w1068 : Cond.selects RX10 yX10_level yX10_level ∈ lw_gd := tm_2 _ (List.mem_of_getElem? (i := 180) rfl) rfl
theorem t_w1069 : Cond.instanceMethod yX10_level ∈ lw_gd := tm_2 _ (List.mem_of_getElem? (i := 179) rfl) rfl
theorem t_w1070 : Cond.methodLink RL 23 yX10_level ∈ lw_gd := tm_2 _ (List.mem_of_getElem? (i := 178) rfl) rfl
theorem t_w1071 : Cond.code yX11_level cX11_level 3 (some .int) ∈ lw_gd := tm_6 _ (List.mem_of_getElem? (i := 66) rfl) rfl
theorem t_w1072 : Cond.selects RX11 yX11_level yX11_level ∈ lw_gd := tm_6 _ (List.mem_of_getElem? (i := 65) rfl) rfl
theorem t_w1073 : Cond.instanceMethod yX11_level ∈ lw_gd := tm_6 _ (List.mem_of_getElem? (i := 64) rfl) rfl
theorem t_w1074 : Cond.methodLink RL 27 yX11_level ∈ lw_gd := tm_6 _ (List.mem_of_getElem? (i := 63) rfl) rfl
theorem t_w1075 : Cond.code yX10_key cX10_key 4 (some .int) ∈ lw_gd := tm_2 _ (List.mem_of_getElem? (i := 188) rfl) rfl
theorem t_w1076 : Cond.selects RX10 yX10_key yX10_key ∈ lw_gd := tm_2 _ (List.mem_of_getElem? (i := 187) rfl) rfl
theorem t_w1077 : Cond.instanceMethod yX10_key ∈ lw_gd := tm_2 _ (List.mem_of_getElem? (i := 186) rfl) rfl
theorem t_w1078 : Cond.methodLink RL 28 yX10_key ∈ lw_gd := tm_2 _ (List.mem_of_getElem? (i := 185) rfl) rfl
theorem t_w1079 : Cond.code yX11_key cX11_key 4 (some .int) ∈ lw_gd := tm_6 _ (List.mem_of_getElem? (i := 78) rfl) rfl
theorem t_w1080 : Cond.selects RX11 yX11_key yX11_key ∈ lw_gd := tm_6 _ (List.mem_of_getElem? (i := 77) rfl) rfl
theorem t_w1081 : Cond.instanceMethod yX11_key ∈ lw_gd := tm_6 _ (List.mem_of_getElem? (i := 76) rfl) rfl
theorem t_w1082 : Cond.methodLink RL 31 yX11_key ∈ lw_gd := tm_6 _ (List.mem_of_getElem? (i := 75) rfl) rfl
theorem t_w1083 : Cond.code yX10_name cX10_name 4 (some .int) ∈ lw_gd := tm_2 _ (List.mem_of_getElem? (i := 229) rfl) rfl
theorem t_w1084 : Cond.selects RX10 yX10_name yX10_name ∈ lw_gd := tm_2 _ (List.mem_of_getElem? (i := 228) rfl) rfl
theorem t_w1085 : Cond.instanceMethod yX10_name ∈ lw_gd := tm_2 _ (List.mem_of_getElem? (i := 227) rfl) rfl
theorem t_w1086 : Cond.methodLink RL 32 yX10_name ∈ lw_gd := tm_2 _ (List.mem_of_getElem? (i := 226) rfl) rfl
theorem t_w1087 : Cond.code yX11_name cX11_name 5 (some .int) ∈ lw_gd := tm_6 _ (List.mem_of_getElem? (i := 119) rfl) rfl
theorem t_w1088 : Cond.selects RX11 yX11_name yX11_name ∈ lw_gd := tm_6 _ (List.mem_of_getElem? (i := 118) rfl) rfl
theorem t_w1089 : Cond.instanceMethod yX11_name ∈ lw_gd := tm_6 _ (List.mem_of_getElem? (i := 117) rfl) rfl
theorem t_w1090 : Cond.methodLink RL 35 yX11_name ∈ lw_gd := tm_6 _ (List.mem_of_getElem? (i := 116) rfl) rfl
theorem t_w1091 : Cond.code yX10_named cX10_named 4 (some .int) ∈ lw_gd := tm_3 _ (List.mem_of_getElem? (i := 47) rfl) rfl
theorem t_w1092 : Cond.selects RX10 yX10_named yX10_named ∈ lw_gd := tm_3 _ (List.mem_of_getElem? (i := 46) rfl) rfl
theorem t_w1093 : Cond.instanceMethod yX10_named ∈ lw_gd := tm_3 _ (List.mem_of_getElem? (i := 45) rfl) rfl
theorem t_w1094 : Cond.methodLink RL 36 yX10_named ∈ lw_gd := tm_3 _ (List.mem_of_getElem? (i := 44) rfl) rfl
theorem t_w1095 : Cond.code yX11_named cX11_named 4 (some .int) ∈ lw_gd := tm_6 _ (List.mem_of_getElem? (i := 159) rfl) rfl
theorem t_w1096 : Cond.selects RX11 yX11_named yX11_named ∈ lw_gd := tm_6 _ (List.mem_of_getElem? (i := 158) rfl) rfl
theorem t_w1097 : Cond.instanceMethod yX11_named ∈ lw_gd := tm_6 _ (List.mem_of_getElem? (i := 157) rfl) rfl
theorem t_w1098 : Cond.methodLink RL 39 yX11_named ∈ lw_gd := tm_6 _ (List.mem_of_getElem? (i := 156) rfl) rfl
theorem t_w1099 : Cond.code yX10_edge cX10_edge 10 (some .long) ∈ lw_gd := tm_3 _ (List.mem_of_getElem? (i := 92) rfl) rfl
theorem t_w1100 : Cond.selects RX10 yX10_edge yX10_edge ∈ lw_gd := tm_3 _ (List.mem_of_getElem? (i := 91) rfl) rfl
theorem t_w1101 : Cond.instanceMethod yX10_edge ∈ lw_gd := tm_3 _ (List.mem_of_getElem? (i := 90) rfl) rfl
theorem t_w1102 : Cond.methodLink RL 40 yX10_edge ∈ lw_gd := tm_3 _ (List.mem_of_getElem? (i := 89) rfl) rfl
theorem t_w1103 : Cond.code yX11_edge cX11_edge 10 (some .long) ∈ lw_gd := tm_6 _ (List.mem_of_getElem? (i := 188) rfl) rfl
theorem t_w1104 : Cond.selects RX11 yX11_edge yX11_edge ∈ lw_gd := tm_6 _ (List.mem_of_getElem? (i := 187) rfl) rfl
theorem t_w1105 : Cond.instanceMethod yX11_edge ∈ lw_gd := tm_6 _ (List.mem_of_getElem? (i := 186) rfl) rfl
theorem t_w1106 : Cond.methodLink RL 44 yX11_edge ∈ lw_gd := tm_6 _ (List.mem_of_getElem? (i := 185) rfl) rfl
theorem t_w1107 : Cond.code yX10_middle cX10_middle 4 (some .int) ∈ lw_gd := tm_3 _ (List.mem_of_getElem? (i := 117) rfl) rfl
theorem t_w1108 : Cond.selects RX10 yX10_middle yX10_middle ∈ lw_gd := tm_3 _ (List.mem_of_getElem? (i := 116) rfl) rfl
theorem t_w1109 : Cond.instanceMethod yX10_middle ∈ lw_gd := tm_3 _ (List.mem_of_getElem? (i := 115) rfl) rfl
theorem t_w1110 : Cond.methodLink RL 45 yX10_middle ∈ lw_gd := tm_3 _ (List.mem_of_getElem? (i := 114) rfl) rfl
theorem t_w1111 : Cond.code yX11_middle cX11_middle 4 (some .int) ∈ lw_gd := tm_6 _ (List.mem_of_getElem? (i := 204) rfl) rfl
theorem t_w1112 : Cond.selects RX11 yX11_middle yX11_middle ∈ lw_gd := tm_6 _ (List.mem_of_getElem? (i := 203) rfl) rfl
theorem t_w1113 : Cond.instanceMethod yX11_middle ∈ lw_gd := tm_6 _ (List.mem_of_getElem? (i := 202) rfl) rfl
theorem t_w1114 : Cond.methodLink RL 48 yX11_middle ∈ lw_gd := tm_6 _ (List.mem_of_getElem? (i := 201) rfl) rfl
theorem t_w1115 : Cond.code yX10_at cX10_at 4 (some .int) ∈ lw_gd := tm_3 _ (List.mem_of_getElem? (i := 134) rfl) rfl
theorem t_w1116 : Cond.selects RX10 yX10_at yX10_at ∈ lw_gd := tm_3 _ (List.mem_of_getElem? (i := 133) rfl) rfl
theorem t_w1117 : Cond.instanceMethod yX10_at ∈ lw_gd := tm_3 _ (List.mem_of_getElem? (i := 132) rfl) rfl
theorem t_w1118 : Cond.methodLink RL 49 yX10_at ∈ lw_gd := tm_3 _ (List.mem_of_getElem? (i := 131) rfl) rfl
theorem t_w1119 : Cond.code yX11_at cX11_at 7 (some .int) ∈ lw_gd := tm_6 _ (List.mem_of_getElem? (i := 218) rfl) rfl
theorem t_w1120 : Cond.selects RX11 yX11_at yX11_at ∈ lw_gd := tm_6 _ (List.mem_of_getElem? (i := 217) rfl) rfl
theorem t_w1121 : Cond.instanceMethod yX11_at ∈ lw_gd := tm_6 _ (List.mem_of_getElem? (i := 216) rfl) rfl
theorem t_w1122 : Cond.methodLink RL 52 yX11_at ∈ lw_gd := tm_6 _ (List.mem_of_getElem? (i := 215) rfl) rfl
theorem t_w1123 : Cond.code yX10_keyAt cX10_keyAt 4 (some .int) ∈ lw_gd := tm_3 _ (List.mem_of_getElem? (i := 141) rfl) rfl
theorem t_w1124 : Cond.selects RX10 yX10_keyAt yX10_keyAt ∈ lw_gd := tm_3 _ (List.mem_of_getElem? (i := 140) rfl) rfl
theorem t_w1125 : Cond.instanceMethod yX10_keyAt ∈ lw_gd := tm_3 _ (List.mem_of_getElem? (i := 139) rfl) rfl
theorem t_w1126 : Cond.methodLink RL 53 yX10_keyAt ∈ lw_gd := tm_3 _ (List.mem_of_getElem? (i := 138) rfl) rfl
theorem t_w1127 : Cond.code yX11_keyAt cX11_keyAt 4 (some .int) ∈ lw_gd := tm_6 _ (List.mem_of_getElem? (i := 222) rfl) rfl
theorem t_w1128 : Cond.selects RX11 yX11_keyAt yX11_keyAt ∈ lw_gd := tm_6 _ (List.mem_of_getElem? (i := 221) rfl) rfl
theorem t_w1129 : Cond.instanceMethod yX11_keyAt ∈ lw_gd := tm_6 _ (List.mem_of_getElem? (i := 220) rfl) rfl
theorem t_w1130 : Cond.methodLink RL 56 yX11_keyAt ∈ lw_gd := tm_6 _ (List.mem_of_getElem? (i := 219) rfl) rfl
theorem t_w1131 : Cond.code yX10_parent cX10_parent 4 (some .int) ∈ lw_gd := tm_3 _ (List.mem_of_getElem? (i := 147) rfl) rfl
theorem t_w1132 : Cond.selects RX10 yX10_parent yX10_parent ∈ lw_gd := tm_3 _ (List.mem_of_getElem? (i := 146) rfl) rfl
theorem t_w1133 : Cond.instanceMethod yX10_parent ∈ lw_gd := tm_3 _ (List.mem_of_getElem? (i := 145) rfl) rfl
theorem t_w1134 : Cond.methodLink RL 57 yX10_parent ∈ lw_gd := tm_3 _ (List.mem_of_getElem? (i := 144) rfl) rfl
theorem t_w1135 : Cond.code yX11_parent cX11_parent 4 (some .int) ∈ lw_gd := tm_6 _ (List.mem_of_getElem? (i := 226) rfl) rfl
theorem t_w1136 : Cond.selects RX11 yX11_parent yX11_parent ∈ lw_gd := tm_6 _ (List.mem_of_getElem? (i := 225) rfl) rfl
theorem t_w1137 : Cond.instanceMethod yX11_parent ∈ lw_gd := tm_6 _ (List.mem_of_getElem? (i := 224) rfl) rfl
theorem t_w1138 : Cond.methodLink RL 60 yX11_parent ∈ lw_gd := tm_6 _ (List.mem_of_getElem? (i := 223) rfl) rfl
theorem t_w1139 : Cond.code yX10_child cX10_child 6 (some .int) ∈ lw_gd := tm_3 _ (List.mem_of_getElem? (i := 158) rfl) rfl
theorem t_w1140 : Cond.selects RX10 yX10_child yX10_child ∈ lw_gd := tm_3 _ (List.mem_of_getElem? (i := 157) rfl) rfl
theorem t_w1141 : Cond.instanceMethod yX10_child ∈ lw_gd := tm_3 _ (List.mem_of_getElem? (i := 156) rfl) rfl
theorem t_w1142 : Cond.methodLink RL 61 yX10_child ∈ lw_gd := tm_3 _ (List.mem_of_getElem? (i := 155) rfl) rfl
theorem t_w1143 : Cond.code yX11_child cX11_child 8 (some .int) ∈ lw_gd := tm_6 _ (List.mem_of_getElem? (i := 234) rfl) rfl
theorem t_w1144 : Cond.selects RX11 yX11_child yX11_child ∈ lw_gd := tm_6 _ (List.mem_of_getElem? (i := 233) rfl) rfl
theorem t_w1145 : Cond.instanceMethod yX11_child ∈ lw_gd := tm_6 _ (List.mem_of_getElem? (i := 232) rfl) rfl
theorem t_w1146 : Cond.methodLink RL 65 yX11_child ∈ lw_gd := tm_6 _ (List.mem_of_getElem? (i := 231) rfl) rfl
theorem t_w1147 : Cond.code yX10_common cX10_common 6 (some .int) ∈ lw_gd := tm_3 _ (List.mem_of_getElem? (i := 170) rfl) rfl
theorem t_w1148 : Cond.selects RX10 yX10_common yX10_common ∈ lw_gd := tm_3 _ (List.mem_of_getElem? (i := 169) rfl) rfl
theorem t_w1149 : Cond.instanceMethod yX10_common ∈ lw_gd := tm_3 _ (List.mem_of_getElem? (i := 168) rfl) rfl
theorem t_w1150 : Cond.methodLink RL 66 yX10_common ∈ lw_gd := tm_3 _ (List.mem_of_getElem? (i := 167) rfl) rfl
theorem t_w1151 : Cond.code yX11_common_ cX11_common_ 6 (some .int) ∈ lw_gd := tm_6 _ (List.mem_of_getElem? (i := 238) rfl) rfl
theorem t_w1152 : Cond.selects RX11 yX11_common_ yX11_common_ ∈ lw_gd := tm_6 _ (List.mem_of_getElem? (i := 237) rfl) rfl
theorem t_w1153 : Cond.instanceMethod yX11_common_ ∈ lw_gd := tm_6 _ (List.mem_of_getElem? (i := 236) rfl) rfl
theorem t_w1154 : Cond.methodLink RL 69 yX11_common_ ∈ lw_gd := tm_6 _ (List.mem_of_getElem? (i := 235) rfl) rfl
theorem t_w1155 : Cond.methodLink RL 70 yX10_neighbour ∈ lw_gd := tm_3 _ (List.mem_of_getElem? (i := 171) rfl) rfl
theorem t_w1156 : Cond.code yX11_neighbour cX11_neighbour 5 (some .int) ∈ lw_gd := tm_7 _ (List.mem_of_getElem? (i := 2) rfl) rfl
theorem t_w1157 : Cond.selects RX11 yX11_neighbour yX11_neighbour ∈ lw_gd := tm_7 _ (List.mem_of_getElem? (i := 1) rfl) rfl
theorem t_w1158 : Cond.instanceMethod yX11_neighbour ∈ lw_gd := tm_7 _ (List.mem_of_getElem? (i := 0) rfl) rfl
theorem t_w1159 : Cond.methodLink RL 73 yX11_neighbour ∈ lw_gd := tm_6 _ (List.mem_of_getElem? (i := 239) rfl) rfl
theorem t_w1160 : Cond.code yX10_around cX10_around 4 (some .int) ∈ lw_gd := tm_3 _ (List.mem_of_getElem? (i := 190) rfl) rfl
theorem t_w1161 : Cond.selects RX10 yX10_around yX10_around ∈ lw_gd := tm_3 _ (List.mem_of_getElem? (i := 189) rfl) rfl
theorem t_w1162 : Cond.instanceMethod yX10_around ∈ lw_gd := tm_3 _ (List.mem_of_getElem? (i := 188) rfl) rfl
theorem t_w1163 : Cond.methodLink RL 74 yX10_around ∈ lw_gd := tm_3 _ (List.mem_of_getElem? (i := 187) rfl) rfl
theorem t_w1164 : Cond.code yX11_around cX11_around 5 (some .int) ∈ lw_gd := tm_7 _ (List.mem_of_getElem? (i := 14) rfl) rfl
theorem t_w1165 : Cond.selects RX11 yX11_around yX11_around ∈ lw_gd := tm_7 _ (List.mem_of_getElem? (i := 13) rfl) rfl
theorem t_w1166 : Cond.instanceMethod yX11_around ∈ lw_gd := tm_7 _ (List.mem_of_getElem? (i := 12) rfl) rfl
theorem t_w1167 : Cond.methodLink RL 77 yX11_around ∈ lw_gd := tm_7 _ (List.mem_of_getElem? (i := 11) rfl) rfl
theorem t_w1168 : Cond.code yX10_side cX10_side 5 (some .int) ∈ lw_gd := tm_3 _ (List.mem_of_getElem? (i := 208) rfl) rfl
theorem t_w1169 : Cond.selects RX10 yX10_side yX10_side ∈ lw_gd := tm_3 _ (List.mem_of_getElem? (i := 207) rfl) rfl
theorem t_w1170 : Cond.instanceMethod yX10_side ∈ lw_gd := tm_3 _ (List.mem_of_getElem? (i := 206) rfl) rfl
theorem t_w1171 : Cond.methodLink RL 78 yX10_side ∈ lw_gd := tm_3 _ (List.mem_of_getElem? (i := 205) rfl) rfl
theorem t_w1172 : Cond.code yX11_side cX11_side 5 (some .int) ∈ lw_gd := tm_7 _ (List.mem_of_getElem? (i := 26) rfl) rfl
theorem t_w1173 : Cond.selects RX11 yX11_side yX11_side ∈ lw_gd := tm_7 _ (List.mem_of_getElem? (i := 25) rfl) rfl
theorem t_w1174 : Cond.instanceMethod yX11_side ∈ lw_gd := tm_7 _ (List.mem_of_getElem? (i := 24) rfl) rfl
theorem t_w1175 : Cond.methodLink RL 81 yX11_side ∈ lw_gd := tm_7 _ (List.mem_of_getElem? (i := 23) rfl) rfl
theorem t_w1176 : Cond.methodLink RL 82 yX10_steps ∈ lw_gd := tm_3 _ (List.mem_of_getElem? (i := 213) rfl) rfl
theorem t_w1177 : Cond.code yX11_steps cX11_steps 4 (some .int) ∈ lw_gd := tm_7 _ (List.mem_of_getElem? (i := 30) rfl) rfl
theorem t_w1178 : Cond.selects RX11 yX11_steps yX11_steps ∈ lw_gd := tm_7 _ (List.mem_of_getElem? (i := 29) rfl) rfl
theorem t_w1179 : Cond.instanceMethod yX11_steps ∈ lw_gd := tm_7 _ (List.mem_of_getElem? (i := 28) rfl) rfl
theorem t_w1180 : Cond.methodLink RL 85 yX11_steps ∈ lw_gd := tm_7 _ (List.mem_of_getElem? (i := 27) rfl) rfl
theorem t_w1181 : Cond.code yX10_way cX10_way 5 (some .int) ∈ lw_gd := tm_4 _ (List.mem_of_getElem? (i := 0) rfl) rfl
theorem t_w1182 : Cond.selects RX10 yX10_way yX10_way ∈ lw_gd := tm_3 _ (List.mem_of_getElem? (i := 239) rfl) rfl
theorem t_w1183 : Cond.instanceMethod yX10_way ∈ lw_gd := tm_3 _ (List.mem_of_getElem? (i := 238) rfl) rfl
theorem t_w1184 : Cond.methodLink RL 86 yX10_way ∈ lw_gd := tm_3 _ (List.mem_of_getElem? (i := 237) rfl) rfl
theorem t_w1185 : Cond.code yX11_way cX11_way 7 (some .int) ∈ lw_gd := tm_7 _ (List.mem_of_getElem? (i := 50) rfl) rfl
theorem t_w1186 : Cond.selects RX11 yX11_way yX11_way ∈ lw_gd := tm_7 _ (List.mem_of_getElem? (i := 49) rfl) rfl
theorem t_w1187 : Cond.instanceMethod yX11_way ∈ lw_gd := tm_7 _ (List.mem_of_getElem? (i := 48) rfl) rfl
theorem t_w1188 : Cond.methodLink RL 89 yX11_way ∈ lw_gd := tm_7 _ (List.mem_of_getElem? (i := 47) rfl) rfl
theorem t_w1189 : Cond.code yX10_reach cX10_reach 4 (some .int) ∈ lw_gd := tm_4 _ (List.mem_of_getElem? (i := 12) rfl) rfl
theorem t_w1190 : Cond.selects RX10 yX10_reach yX10_reach ∈ lw_gd := tm_4 _ (List.mem_of_getElem? (i := 11) rfl) rfl
theorem t_w1191 : Cond.instanceMethod yX10_reach ∈ lw_gd := tm_4 _ (List.mem_of_getElem? (i := 10) rfl) rfl
theorem t_w1192 : Cond.methodLink RL 90 yX10_reach ∈ lw_gd := tm_4 _ (List.mem_of_getElem? (i := 9) rfl) rfl
theorem t_w1193 : Cond.code yX11_reach cX11_reach 6 (some .int) ∈ lw_gd := tm_7 _ (List.mem_of_getElem? (i := 58) rfl) rfl
theorem t_w1194 : Cond.selects RX11 yX11_reach yX11_reach ∈ lw_gd := tm_7 _ (List.mem_of_getElem? (i := 57) rfl) rfl
theorem t_w1195 : Cond.instanceMethod yX11_reach ∈ lw_gd := tm_7 _ (List.mem_of_getElem? (i := 56) rfl) rfl
theorem t_w1196 : Cond.methodLink RL 93 yX11_reach ∈ lw_gd := tm_7 _ (List.mem_of_getElem? (i := 55) rfl) rfl
theorem t_w1197 : Cond.code yX10_farthest cX10_farthest 5 (some .int) ∈ lw_gd := tm_4 _ (List.mem_of_getElem? (i := 20) rfl) rfl
theorem t_w1198 : Cond.selects RX10 yX10_farthest yX10_farthest ∈ lw_gd := tm_4 _ (List.mem_of_getElem? (i := 19) rfl) rfl
theorem t_w1199 : Cond.instanceMethod yX10_farthest ∈ lw_gd := tm_4 _ (List.mem_of_getElem? (i := 18) rfl) rfl
theorem t_w1200 : Cond.methodLink RL 94 yX10_farthest ∈ lw_gd := tm_4 _ (List.mem_of_getElem? (i := 17) rfl) rfl
theorem t_w1201 : Cond.code yX11_farthest cX11_farthest 6 (some .int) ∈ lw_gd := tm_7 _ (List.mem_of_getElem? (i := 62) rfl) rfl
theorem t_w1202 : Cond.selects RX11 yX11_farthest yX11_farthest ∈ lw_gd := tm_7 _ (List.mem_of_getElem? (i := 61) rfl) rfl
theorem t_w1203 : Cond.instanceMethod yX11_farthest ∈ lw_gd := tm_7 _ (List.mem_of_getElem? (i := 60) rfl) rfl
theorem t_w1204 : Cond.methodLink RL 97 yX11_farthest ∈ lw_gd := tm_7 _ (List.mem_of_getElem? (i := 59) rfl) rfl
theorem t_w1205 : Cond.code yX10_corners cX10_corners 4 (some .int) ∈ lw_gd := tm_4 _ (List.mem_of_getElem? (i := 28) rfl) rfl
theorem t_w1206 : Cond.selects RX10 yX10_corners yX10_corners ∈ lw_gd := tm_4 _ (List.mem_of_getElem? (i := 27) rfl) rfl
theorem t_w1207 : Cond.instanceMethod yX10_corners ∈ lw_gd := tm_4 _ (List.mem_of_getElem? (i := 26) rfl) rfl
theorem t_w1208 : Cond.methodLink RL 98 yX10_corners ∈ lw_gd := tm_4 _ (List.mem_of_getElem? (i := 25) rfl) rfl
theorem t_w1209 : Cond.code yX11_corners cX11_corners 11 (some .int) ∈ lw_gd := tm_7 _ (List.mem_of_getElem? (i := 66) rfl) rfl
theorem t_w1210 : Cond.selects RX11 yX11_corners yX11_corners ∈ lw_gd := tm_7 _ (List.mem_of_getElem? (i := 65) rfl) rfl
theorem t_w1211 : Cond.instanceMethod yX11_corners ∈ lw_gd := tm_7 _ (List.mem_of_getElem? (i := 64) rfl) rfl
theorem t_w1212 : Cond.methodLink RL 101 yX11_corners ∈ lw_gd := tm_7 _ (List.mem_of_getElem? (i := 63) rfl) rfl
theorem t_w1213 : Cond.code yX10_jog cX10_jog 5 (some .int) ∈ lw_gd := tm_4 _ (List.mem_of_getElem? (i := 44) rfl) rfl
theorem t_w1214 : Cond.selects RX10 yX10_jog yX10_jog ∈ lw_gd := tm_4 _ (List.mem_of_getElem? (i := 43) rfl) rfl
theorem t_w1215 : Cond.instanceMethod yX10_jog ∈ lw_gd := tm_4 _ (List.mem_of_getElem? (i := 42) rfl) rfl
theorem t_w1216 : Cond.methodLink RL 102 yX10_jog ∈ lw_gd := tm_4 _ (List.mem_of_getElem? (i := 41) rfl) rfl
theorem t_w1217 : Cond.code yX11_jog cX11_jog 6 (some .int) ∈ lw_gd := tm_7 _ (List.mem_of_getElem? (i := 74) rfl) rfl
theorem t_w1218 : Cond.selects RX11 yX11_jog yX11_jog ∈ lw_gd := tm_7 _ (List.mem_of_getElem? (i := 73) rfl) rfl
theorem t_w1219 : Cond.instanceMethod yX11_jog ∈ lw_gd := tm_7 _ (List.mem_of_getElem? (i := 72) rfl) rfl
theorem t_w1220 : Cond.methodLink RL 105 yX11_jog ∈ lw_gd := tm_7 _ (List.mem_of_getElem? (i := 71) rfl) rfl
theorem t_w1221 : Cond.code yX10_box cX10_box 8 (some .int) ∈ lw_gd := tm_4 _ (List.mem_of_getElem? (i := 48) rfl) rfl
theorem t_w1222 : Cond.selects RX10 yX10_box yX10_box ∈ lw_gd := tm_4 _ (List.mem_of_getElem? (i := 47) rfl) rfl
theorem t_w1223 : Cond.instanceMethod yX10_box ∈ lw_gd := tm_4 _ (List.mem_of_getElem? (i := 46) rfl) rfl
theorem t_w1224 : Cond.methodLink RL 106 yX10_box ∈ lw_gd := tm_4 _ (List.mem_of_getElem? (i := 45) rfl) rfl
theorem t_w1225 : Cond.code yX11_box cX11_box 8 (some .int) ∈ lw_gd := tm_7 _ (List.mem_of_getElem? (i := 78) rfl) rfl
theorem t_w1226 : Cond.selects RX11 yX11_box yX11_box ∈ lw_gd := tm_7 _ (List.mem_of_getElem? (i := 77) rfl) rfl
theorem t_w1227 : Cond.instanceMethod yX11_box ∈ lw_gd := tm_7 _ (List.mem_of_getElem? (i := 76) rfl) rfl
theorem t_w1228 : Cond.methodLink RL 110 yX11_box ∈ lw_gd := tm_7 _ (List.mem_of_getElem? (i := 75) rfl) rfl
theorem t_w1229 : Cond.code yX10_cover cX10_cover 10 (some .int) ∈ lw_gd := tm_4 _ (List.mem_of_getElem? (i := 97) rfl) rfl
theorem t_w1230 : Cond.selects RX10 yX10_cover yX10_cover ∈ lw_gd := tm_4 _ (List.mem_of_getElem? (i := 96) rfl) rfl
theorem t_w1231 : Cond.instanceMethod yX10_cover ∈ lw_gd := tm_4 _ (List.mem_of_getElem? (i := 95) rfl) rfl
theorem t_w1232 : Cond.methodLink RL 111 yX10_cover ∈ lw_gd := tm_4 _ (List.mem_of_getElem? (i := 94) rfl) rfl
theorem t_w1233 : Cond.code yX11_cover cX11_cover 7 (some .int) ∈ lw_gd := tm_7 _ (List.mem_of_getElem? (i := 106) rfl) rfl
theorem t_w1234 : Cond.selects RX11 yX11_cover yX11_cover ∈ lw_gd := tm_7 _ (List.mem_of_getElem? (i := 105) rfl) rfl
theorem t_w1235 : Cond.instanceMethod yX11_cover ∈ lw_gd := tm_7 _ (List.mem_of_getElem? (i := 104) rfl) rfl
theorem t_w1236 : Cond.methodLink RL 114 yX11_cover ∈ lw_gd := tm_7 _ (List.mem_of_getElem? (i := 103) rfl) rfl
theorem t_w1237 : Cond.methodLink RL 115 yX10_between ∈ lw_gd := tm_4 _ (List.mem_of_getElem? (i := 125) rfl) rfl
theorem t_w1238 : Cond.code yX11_between cX11_between 4 (some .int) ∈ lw_gd := tm_7 _ (List.mem_of_getElem? (i := 123) rfl) rfl
theorem t_w1239 : Cond.selects RX11 yX11_between yX11_between ∈ lw_gd := tm_7 _ (List.mem_of_getElem? (i := 122) rfl) rfl
theorem t_w1240 : Cond.instanceMethod yX11_between ∈ lw_gd := tm_7 _ (List.mem_of_getElem? (i := 121) rfl) rfl
theorem t_w1241 : Cond.methodLink RL 118 yX11_between ∈ lw_gd := tm_7 _ (List.mem_of_getElem? (i := 120) rfl) rfl
theorem t_w1242 : Cond.code yX10_wider cX10_wider 6 (some .int) ∈ lw_gd := tm_4 _ (List.mem_of_getElem? (i := 134) rfl) rfl
theorem t_w1243 : Cond.selects RX10 yX10_wider yX10_wider ∈ lw_gd := tm_4 _ (List.mem_of_getElem? (i := 133) rfl) rfl
theorem t_w1244 : Cond.instanceMethod yX10_wider ∈ lw_gd := tm_4 _ (List.mem_of_getElem? (i := 132) rfl) rfl
theorem t_w1245 : Cond.methodLink RL 119 yX10_wider ∈ lw_gd := tm_4 _ (List.mem_of_getElem? (i := 131) rfl) rfl
theorem t_w1246 : Cond.code yX11_wider cX11_wider 6 (some .int) ∈ lw_gd := tm_7 _ (List.mem_of_getElem? (i := 131) rfl) rfl
theorem t_w1247 : Cond.selects RX11 yX11_wider yX11_wider ∈ lw_gd := tm_7 _ (List.mem_of_getElem? (i := 130) rfl) rfl
theorem t_w1248 : Cond.instanceMethod yX11_wider ∈ lw_gd := tm_7 _ (List.mem_of_getElem? (i := 129) rfl) rfl
theorem t_w1249 : Cond.methodLink RL 122 yX11_wider ∈ lw_gd := tm_7 _ (List.mem_of_getElem? (i := 128) rfl) rfl
theorem t_w1250 : Cond.code yX10_before cX10_before 4 (some .int) ∈ lw_gd := tm_4 _ (List.mem_of_getElem? (i := 142) rfl) rfl
theorem t_w1251 : Cond.selects RX10 yX10_before yX10_before ∈ lw_gd := tm_4 _ (List.mem_of_getElem? (i := 141) rfl) rfl
theorem t_w1252 : Cond.instanceMethod yX10_before ∈ lw_gd := tm_4 _ (List.mem_of_getElem? (i := 140) rfl) rfl
theorem t_w1253 : Cond.methodLink RL 123 yX10_before ∈ lw_gd := tm_4 _ (List.mem_of_getElem? (i := 139) rfl) rfl
theorem t_w1254 : Cond.code yX11_before cX11_before 7 (some .int) ∈ lw_gd := tm_7 _ (List.mem_of_getElem? (i := 135) rfl) rfl
theorem t_w1255 : Cond.selects RX11 yX11_before yX11_before ∈ lw_gd := tm_7 _ (List.mem_of_getElem? (i := 134) rfl) rfl
theorem t_w1256 : Cond.instanceMethod yX11_before ∈ lw_gd := tm_7 _ (List.mem_of_getElem? (i := 133) rfl) rfl
theorem t_w1257 : Cond.methodLink RL 126 yX11_before ∈ lw_gd := tm_7 _ (List.mem_of_getElem? (i := 132) rfl) rfl
theorem t_w1258 : Cond.code yX10_moved cX10_moved 10 (some .int) ∈ lw_gd := tm_4 _ (List.mem_of_getElem? (i := 152) rfl) rfl
theorem t_w1259 : Cond.selects RX10 yX10_moved yX10_moved ∈ lw_gd := tm_4 _ (List.mem_of_getElem? (i := 151) rfl) rfl
theorem t_w1260 : Cond.instanceMethod yX10_moved ∈ lw_gd := tm_4 _ (List.mem_of_getElem? (i := 150) rfl) rfl
theorem t_w1261 : Cond.methodLink RL 127 yX10_moved ∈ lw_gd := tm_4 _ (List.mem_of_getElem? (i := 149) rfl) rfl
theorem t_w1262 : Cond.code yX11_moved cX11_moved 10 (some .int) ∈ lw_gd := tm_7 _ (List.mem_of_getElem? (i := 139) rfl) rfl
theorem t_w1263 : Cond.selects RX11 yX11_moved yX11_moved ∈ lw_gd := tm_7 _ (List.mem_of_getElem? (i := 138) rfl) rfl
theorem t_w1264 : Cond.instanceMethod yX11_moved ∈ lw_gd := tm_7 _ (List.mem_of_getElem? (i := 137) rfl) rfl
theorem t_w1265 : Cond.methodLink RL 130 yX11_moved ∈ lw_gd := tm_7 _ (List.mem_of_getElem? (i := 136) rfl) rfl
theorem t_w1266 : Cond.code yX10_ask cX10_ask 3 (some .int) ∈ lw_gd := tm_4 _ (List.mem_of_getElem? (i := 165) rfl) rfl
theorem t_w1267 : Cond.selects RX10 yX10_ask yX10_ask ∈ lw_gd := tm_4 _ (List.mem_of_getElem? (i := 164) rfl) rfl
theorem t_w1268 : Cond.instanceMethod yX10_ask ∈ lw_gd := tm_4 _ (List.mem_of_getElem? (i := 163) rfl) rfl
theorem t_w1269 : Cond.methodLink RL 131 yX10_ask ∈ lw_gd := tm_4 _ (List.mem_of_getElem? (i := 162) rfl) rfl
theorem t_w1270 : Cond.code yX11_ask cX11_ask 8 (some .int) ∈ lw_gd := tm_7 _ (List.mem_of_getElem? (i := 143) rfl) rfl
theorem t_w1271 : Cond.selects RX11 yX11_ask yX11_ask ∈ lw_gd := tm_7 _ (List.mem_of_getElem? (i := 142) rfl) rfl
theorem t_w1272 : Cond.instanceMethod yX11_ask ∈ lw_gd := tm_7 _ (List.mem_of_getElem? (i := 141) rfl) rfl
theorem t_w1273 : Cond.methodLink RL 135 yX11_ask ∈ lw_gd := tm_7 _ (List.mem_of_getElem? (i := 140) rfl) rfl
theorem t_w1274 : Cond.code yX10_store cX10_store 6 (some .int) ∈ lw_gd := tm_5 _ (List.mem_of_getElem? (i := 18) rfl) rfl
theorem t_w1275 : Cond.selects RX10 yX10_store yX10_store ∈ lw_gd := tm_5 _ (List.mem_of_getElem? (i := 17) rfl) rfl
theorem t_w1276 : Cond.instanceMethod yX10_store ∈ lw_gd := tm_5 _ (List.mem_of_getElem? (i := 16) rfl) rfl
theorem t_w1277 : Cond.methodLink RL 136 yX10_store ∈ lw_gd := tm_5 _ (List.mem_of_getElem? (i := 15) rfl) rfl
theorem t_w1278 : Cond.code yX11_store cX11_store 8 (some .int) ∈ lw_gd := tm_7 _ (List.mem_of_getElem? (i := 183) rfl) rfl
theorem t_w1279 : Cond.selects RX11 yX11_store yX11_store ∈ lw_gd := tm_7 _ (List.mem_of_getElem? (i := 182) rfl) rfl
theorem t_w1280 : Cond.instanceMethod yX11_store ∈ lw_gd := tm_7 _ (List.mem_of_getElem? (i := 181) rfl) rfl
theorem t_w1281 : Cond.methodLink RL 139 yX11_store ∈ lw_gd := tm_7 _ (List.mem_of_getElem? (i := 180) rfl) rfl
theorem t_w1282 : Cond.code yX10_drop cX10_drop 6 (some .int) ∈ lw_gd := tm_5 _ (List.mem_of_getElem? (i := 42) rfl) rfl
theorem t_w1283 : Cond.selects RX10 yX10_drop yX10_drop ∈ lw_gd := tm_5 _ (List.mem_of_getElem? (i := 41) rfl) rfl
theorem t_w1284 : Cond.instanceMethod yX10_drop ∈ lw_gd := tm_5 _ (List.mem_of_getElem? (i := 40) rfl) rfl
theorem t_w1285 : Cond.methodLink RL 140 yX10_drop ∈ lw_gd := tm_5 _ (List.mem_of_getElem? (i := 39) rfl) rfl
theorem t_w1286 : Cond.code yX11_drop cX11_drop 7 (some .int) ∈ lw_gd := tm_7 _ (List.mem_of_getElem? (i := 204) rfl) rfl
theorem t_w1287 : Cond.selects RX11 yX11_drop yX11_drop ∈ lw_gd := tm_7 _ (List.mem_of_getElem? (i := 203) rfl) rfl
theorem t_w1288 : Cond.instanceMethod yX11_drop ∈ lw_gd := tm_7 _ (List.mem_of_getElem? (i := 202) rfl) rfl
theorem t_w1289 : Cond.methodLink RL 143 yX11_drop ∈ lw_gd := tm_7 _ (List.mem_of_getElem? (i := 201) rfl) rfl
theorem t_w1290 : Cond.code yX10_piece cX10_piece 3 (some .int) ∈ lw_gd := tm_5 _ (List.mem_of_getElem? (i := 51) rfl) rfl
theorem t_w1291 : Cond.selects RX10 yX10_piece yX10_piece ∈ lw_gd := tm_5 _ (List.mem_of_getElem? (i := 50) rfl) rfl
theorem t_w1292 : Cond.instanceMethod yX10_piece ∈ lw_gd := tm_5 _ (List.mem_of_getElem? (i := 49) rfl) rfl
theorem t_w1293 : Cond.methodLink RL 144 yX10_piece ∈ lw_gd := tm_5 _ (List.mem_of_getElem? (i := 48) rfl) rfl
theorem t_w1294 : Cond.code yX11_piece cX11_piece 3 (some .int) ∈ lw_gd := tm_7 _ (List.mem_of_getElem? (i := 212) rfl) rfl
theorem t_w1295 : Cond.selects RX11 yX11_piece yX11_piece ∈ lw_gd := tm_7 _ (List.mem_of_getElem? (i := 211) rfl) rfl
theorem t_w1296 : Cond.instanceMethod yX11_piece ∈ lw_gd := tm_7 _ (List.mem_of_getElem? (i := 210) rfl) rfl
theorem t_w1297 : Cond.methodLink RL 147 yX11_piece ∈ lw_gd := tm_7 _ (List.mem_of_getElem? (i := 209) rfl) rfl
theorem t_w1298 : Cond.code yX10_shown cX10_shown 4 (some .int) ∈ lw_gd := tm_5 _ (List.mem_of_getElem? (i := 55) rfl) rfl
theorem t_w1299 : Cond.selects RX10 yX10_shown yX10_shown ∈ lw_gd := tm_5 _ (List.mem_of_getElem? (i := 54) rfl) rfl
theorem t_w1300 : Cond.instanceMethod yX10_shown ∈ lw_gd := tm_5 _ (List.mem_of_getElem? (i := 53) rfl) rfl
theorem t_w1301 : Cond.methodLink RL 148 yX10_shown ∈ lw_gd := tm_5 _ (List.mem_of_getElem? (i := 52) rfl) rfl
theorem t_w1302 : Cond.code yX11_shown cX11_shown 4 (some .int) ∈ lw_gd := tm_7 _ (List.mem_of_getElem? (i := 216) rfl) rfl
theorem t_w1303 : Cond.selects RX11 yX11_shown yX11_shown ∈ lw_gd := tm_7 _ (List.mem_of_getElem? (i := 215) rfl) rfl
theorem t_w1304 : Cond.instanceMethod yX11_shown ∈ lw_gd := tm_7 _ (List.mem_of_getElem? (i := 214) rfl) rfl
theorem t_w1305 : Cond.methodLink RL 151 yX11_shown ∈ lw_gd := tm_7 _ (List.mem_of_getElem? (i := 213) rfl) rfl
theorem t_w1306 : Cond.code yX10_lacks cX10_lacks 14 (some .int) ∈ lw_gd := tm_5 _ (List.mem_of_getElem? (i := 65) rfl) rfl
theorem t_w1307 : Cond.selects RX10 yX10_lacks yX10_lacks ∈ lw_gd := tm_5 _ (List.mem_of_getElem? (i := 64) rfl) rfl
theorem t_w1308 : Cond.instanceMethod yX10_lacks ∈ lw_gd := tm_5 _ (List.mem_of_getElem? (i := 63) rfl) rfl
theorem t_w1309 : Cond.methodLink RL 152 yX10_lacks ∈ lw_gd := tm_5 _ (List.mem_of_getElem? (i := 62) rfl) rfl
theorem t_w1310 : Cond.code yX11_lacks cX11_lacks 12 (some .int) ∈ lw_gd := tm_7 _ (List.mem_of_getElem? (i := 224) rfl) rfl
theorem t_w1311 : Cond.selects RX11 yX11_lacks yX11_lacks ∈ lw_gd := tm_7 _ (List.mem_of_getElem? (i := 223) rfl) rfl
theorem t_w1312 : Cond.instanceMethod yX11_lacks ∈ lw_gd := tm_7 _ (List.mem_of_getElem? (i := 222) rfl) rfl
theorem t_w1313 : Cond.methodLink RL 156 yX11_lacks ∈ lw_gd := tm_7 _ (List.mem_of_getElem? (i := 221) rfl) rfl
theorem t_w1314 : Cond.code yX10_years cX10_years 9 (some .int) ∈ lw_gd := tm_5 _ (List.mem_of_getElem? (i := 77) rfl) rfl
theorem t_w1315 : Cond.selects RX10 yX10_years yX10_years ∈ lw_gd := tm_5 _ (List.mem_of_getElem? (i := 76) rfl) rfl
theorem t_w1316 : Cond.instanceMethod yX10_years ∈ lw_gd := tm_5 _ (List.mem_of_getElem? (i := 75) rfl) rfl
theorem t_w1317 : Cond.methodLink RL 157 yX10_years ∈ lw_gd := tm_5 _ (List.mem_of_getElem? (i := 74) rfl) rfl
theorem t_w1318 : Cond.code yX11_years cX11_years 8 (some .int) ∈ lw_gd := tm_7 _ (List.mem_of_getElem? (i := 235) rfl) rfl
theorem t_w1319 : Cond.selects RX11 yX11_years yX11_years ∈ lw_gd := tm_7 _ (List.mem_of_getElem? (i := 234) rfl) rfl
theorem t_w1320 : Cond.instanceMethod yX11_years ∈ lw_gd := tm_7 _ (List.mem_of_getElem? (i := 233) rfl) rfl
theorem t_w1321 : Cond.methodLink RL 160 yX11_years ∈ lw_gd := tm_7 _ (List.mem_of_getElem? (i := 232) rfl) rfl
theorem t_w1322 : Cond.code yX10_renew cX10_renew 5 (some .int) ∈ lw_gd := tm_5 _ (List.mem_of_getElem? (i := 81) rfl) rfl
theorem t_w1323 : Cond.selects RX10 yX10_renew yX10_renew ∈ lw_gd := tm_5 _ (List.mem_of_getElem? (i := 80) rfl) rfl
theorem t_w1324 : Cond.instanceMethod yX10_renew ∈ lw_gd := tm_5 _ (List.mem_of_getElem? (i := 79) rfl) rfl
theorem t_w1325 : Cond.methodLink RL 161 yX10_renew ∈ lw_gd := tm_5 _ (List.mem_of_getElem? (i := 78) rfl) rfl
theorem t_w1326 : Cond.code yX11_renew cX11_renew 5 (some .int) ∈ lw_gd := tm_7 _ (List.mem_of_getElem? (i := 239) rfl) rfl
theorem t_w1327 : Cond.selects RX11 yX11_renew yX11_renew ∈ lw_gd := tm_7 _ (List.mem_of_getElem? (i := 238) rfl) rfl
theorem t_w1328 : Cond.instanceMethod yX11_renew ∈ lw_gd := tm_7 _ (List.mem_of_getElem? (i := 237) rfl) rfl
theorem t_w1329 : Cond.methodLink RL 164 yX11_renew ∈ lw_gd := tm_7 _ (List.mem_of_getElem? (i := 236) rfl) rfl
theorem t_w1330 : Cond.code yX10_oldest cX10_oldest 6 (some .int) ∈ lw_gd := tm_5 _ (List.mem_of_getElem? (i := 85) rfl) rfl
theorem t_w1331 : Cond.selects RX10 yX10_oldest yX10_oldest ∈ lw_gd := tm_5 _ (List.mem_of_getElem? (i := 84) rfl) rfl
theorem t_w1332 : Cond.instanceMethod yX10_oldest ∈ lw_gd := tm_5 _ (List.mem_of_getElem? (i := 83) rfl) rfl
theorem t_w1333 : Cond.methodLink RL 165 yX10_oldest ∈ lw_gd := tm_5 _ (List.mem_of_getElem? (i := 82) rfl) rfl
theorem t_w1334 : Cond.code yX11_oldest cX11_oldest 6 (some .int) ∈ lw_gd := tm_8 _ (List.mem_of_getElem? (i := 3) rfl) rfl
theorem t_w1335 : Cond.selects RX11 yX11_oldest yX11_oldest ∈ lw_gd := tm_8 _ (List.mem_of_getElem? (i := 2) rfl) rfl
theorem t_w1336 : Cond.instanceMethod yX11_oldest ∈ lw_gd := tm_8 _ (List.mem_of_getElem? (i := 1) rfl) rfl
theorem t_w1337 : Cond.methodLink RL 168 yX11_oldest ∈ lw_gd := tm_8 _ (List.mem_of_getElem? (i := 0) rfl) rfl
theorem t_w1338 : Cond.code yX10_tidy cX10_tidy 3 (some .int) ∈ lw_gd := tm_5 _ (List.mem_of_getElem? (i := 89) rfl) rfl
theorem t_w1339 : Cond.selects RX10 yX10_tidy yX10_tidy ∈ lw_gd := tm_5 _ (List.mem_of_getElem? (i := 88) rfl) rfl
theorem t_w1340 : Cond.instanceMethod yX10_tidy ∈ lw_gd := tm_5 _ (List.mem_of_getElem? (i := 87) rfl) rfl
theorem t_w1341 : Cond.methodLink RL 169 yX10_tidy ∈ lw_gd := tm_5 _ (List.mem_of_getElem? (i := 86) rfl) rfl
theorem t_w1342 : Cond.code yX11_tidy cX11_tidy 3 (some .int) ∈ lw_gd := tm_8 _ (List.mem_of_getElem? (i := 7) rfl) rfl
theorem t_w1343 : Cond.selects RX11 yX11_tidy yX11_tidy ∈ lw_gd := tm_8 _ (List.mem_of_getElem? (i := 6) rfl) rfl
theorem t_w1344 : Cond.instanceMethod yX11_tidy ∈ lw_gd := tm_8 _ (List.mem_of_getElem? (i := 5) rfl) rfl
theorem t_w1345 : Cond.methodLink RL 173 yX11_tidy ∈ lw_gd := tm_8 _ (List.mem_of_getElem? (i := 4) rfl) rfl
theorem t_w1346 : Cond.code yX10_changes cX10_changes 13 (some .int) ∈ lw_gd := tm_5 _ (List.mem_of_getElem? (i := 98) rfl) rfl
theorem t_w1347 : Cond.selects RX10 yX10_changes yX10_changes ∈ lw_gd := tm_5 _ (List.mem_of_getElem? (i := 97) rfl) rfl
theorem t_w1348 : Cond.instanceMethod yX10_changes ∈ lw_gd := tm_5 _ (List.mem_of_getElem? (i := 96) rfl) rfl
theorem t_w1349 : Cond.methodLink RL 174 yX10_changes ∈ lw_gd := tm_5 _ (List.mem_of_getElem? (i := 95) rfl) rfl
theorem t_w1350 : Cond.code yX11_changes cX11_changes 13 (some .int) ∈ lw_gd := tm_8 _ (List.mem_of_getElem? (i := 15) rfl) rfl
theorem t_w1351 : Cond.selects RX11 yX11_changes yX11_changes ∈ lw_gd := tm_8 _ (List.mem_of_getElem? (i := 14) rfl) rfl
theorem t_w1352 : Cond.instanceMethod yX11_changes ∈ lw_gd := tm_8 _ (List.mem_of_getElem? (i := 13) rfl) rfl
theorem t_w1353 : Cond.methodLink RL 177 yX11_changes ∈ lw_gd := tm_8 _ (List.mem_of_getElem? (i := 12) rfl) rfl
theorem t_w1354 : Cond.code yX10_drawn cX10_drawn 10 (some .int) ∈ lw_gd := tm_5 _ (List.mem_of_getElem? (i := 105) rfl) rfl
theorem t_w1355 : Cond.selects RX10 yX10_drawn yX10_drawn ∈ lw_gd := tm_5 _ (List.mem_of_getElem? (i := 104) rfl) rfl
theorem t_w1356 : Cond.instanceMethod yX10_drawn ∈ lw_gd := tm_5 _ (List.mem_of_getElem? (i := 103) rfl) rfl
theorem t_w1357 : Cond.methodLink RL 178 yX10_drawn ∈ lw_gd := tm_5 _ (List.mem_of_getElem? (i := 102) rfl) rfl
theorem t_w1358 : Cond.code yX11_drawn cX11_drawn 10 (some .int) ∈ lw_gd := tm_8 _ (List.mem_of_getElem? (i := 20) rfl) rfl
theorem t_w1359 : Cond.selects RX11 yX11_drawn yX11_drawn ∈ lw_gd := tm_8 _ (List.mem_of_getElem? (i := 19) rfl) rfl
theorem t_w1360 : Cond.instanceMethod yX11_drawn ∈ lw_gd := tm_8 _ (List.mem_of_getElem? (i := 18) rfl) rfl
theorem t_w1361 : Cond.methodLink RL 181 yX11_drawn ∈ lw_gd := tm_8 _ (List.mem_of_getElem? (i := 17) rfl) rfl
theorem t_w1362 : Cond.code yX10_bands cX10_bands 8 (some .int) ∈ lw_gd := tm_5 _ (List.mem_of_getElem? (i := 118) rfl) rfl
theorem t_w1363 : Cond.selects RX10 yX10_bands yX10_bands ∈ lw_gd := tm_5 _ (List.mem_of_getElem? (i := 117) rfl) rfl
theorem t_w1364 : Cond.instanceMethod yX10_bands ∈ lw_gd := tm_5 _ (List.mem_of_getElem? (i := 116) rfl) rfl
theorem t_w1365 : Cond.methodLink RL 182 yX10_bands ∈ lw_gd := tm_5 _ (List.mem_of_getElem? (i := 115) rfl) rfl
theorem t_w1366 : Cond.code yX11_bands cX11_bands 6 (some .int) ∈ lw_gd := tm_8 _ (List.mem_of_getElem? (i := 31) rfl) rfl
theorem t_w1367 : Cond.selects RX11 yX11_bands yX11_bands ∈ lw_gd := tm_8 _ (List.mem_of_getElem? (i := 30) rfl) rfl
theorem t_w1368 : Cond.instanceMethod yX11_bands ∈ lw_gd := tm_8 _ (List.mem_of_getElem? (i := 29) rfl) rfl
theorem t_w1369 : Cond.methodLink RL 185 yX11_bands ∈ lw_gd := tm_8 _ (List.mem_of_getElem? (i := 28) rfl) rfl
theorem t_w1370 : Cond.code yX10_count cX10_count 2 (some .int) ∈ lw_gd := tm_5 _ (List.mem_of_getElem? (i := 122) rfl) rfl
theorem t_w1371 : Cond.selects RX10 yX10_count yX10_count ∈ lw_gd := tm_5 _ (List.mem_of_getElem? (i := 121) rfl) rfl
theorem t_w1372 : Cond.instanceMethod yX10_count ∈ lw_gd := tm_5 _ (List.mem_of_getElem? (i := 120) rfl) rfl
theorem t_w1373 : Cond.methodLink RL 186 yX10_count ∈ lw_gd := tm_5 _ (List.mem_of_getElem? (i := 119) rfl) rfl
theorem t_w1374 : Cond.code yX11_count cX11_count 2 (some .int) ∈ lw_gd := tm_8 _ (List.mem_of_getElem? (i := 35) rfl) rfl
theorem t_w1375 : Cond.selects RX11 yX11_count yX11_count ∈ lw_gd := tm_8 _ (List.mem_of_getElem? (i := 34) rfl) rfl
theorem t_w1376 : Cond.instanceMethod yX11_count ∈ lw_gd := tm_8 _ (List.mem_of_getElem? (i := 33) rfl) rfl
theorem t_w1377 : Cond.methodLink RL 189 yX11_count ∈ lw_gd := tm_8 _ (List.mem_of_getElem? (i := 32) rfl) rfl
theorem t_w1378 : Cond.code yX10_keep cX10_keep 1 (some .int) ∈ lw_gd := tm_5 _ (List.mem_of_getElem? (i := 126) rfl) rfl
theorem t_w1379 : Cond.selects RX10 yX10_keep yX10_keep ∈ lw_gd := tm_5 _ (List.mem_of_getElem? (i := 125) rfl) rfl
theorem t_w1380 : Cond.instanceMethod yX10_keep ∈ lw_gd := tm_5 _ (List.mem_of_getElem? (i := 124) rfl) rfl
theorem t_w1381 : Cond.methodLink RL 190 yX10_keep ∈ lw_gd := tm_5 _ (List.mem_of_getElem? (i := 123) rfl) rfl
theorem t_w1382 : Cond.code yX11_keep cX11_keep 2 (some .int) ∈ lw_gd := tm_8 _ (List.mem_of_getElem? (i := 39) rfl) rfl
theorem t_w1383 : Cond.selects RX11 yX11_keep yX11_keep ∈ lw_gd := tm_8 _ (List.mem_of_getElem? (i := 38) rfl) rfl
theorem t_w1384 : Cond.instanceMethod yX11_keep ∈ lw_gd := tm_8 _ (List.mem_of_getElem? (i := 37) rfl) rfl
theorem t_w1385 : Cond.methodLink RL 193 yX11_keep ∈ lw_gd := tm_8 _ (List.mem_of_getElem? (i := 36) rfl) rfl
theorem t_w1386 : Cond.code yX10_undo cX10_undo 1 (some .int) ∈ lw_gd := tm_5 _ (List.mem_of_getElem? (i := 146) rfl) rfl
theorem t_w1387 : Cond.selects RX10 yX10_undo yX10_undo ∈ lw_gd := tm_5 _ (List.mem_of_getElem? (i := 145) rfl) rfl
theorem t_w1388 : Cond.instanceMethod yX10_undo ∈ lw_gd := tm_5 _ (List.mem_of_getElem? (i := 144) rfl) rfl
theorem t_w1389 : Cond.methodLink RL 194 yX10_undo ∈ lw_gd := tm_5 _ (List.mem_of_getElem? (i := 143) rfl) rfl
theorem t_w1390 : Cond.code yX11_undo cX11_undo 2 (some .int) ∈ lw_gd := tm_8 _ (List.mem_of_getElem? (i := 47) rfl) rfl
theorem t_w1391 : Cond.selects RX11 yX11_undo yX11_undo ∈ lw_gd := tm_8 _ (List.mem_of_getElem? (i := 46) rfl) rfl
theorem t_w1392 : Cond.instanceMethod yX11_undo ∈ lw_gd := tm_8 _ (List.mem_of_getElem? (i := 45) rfl) rfl
theorem t_w1393 : Cond.methodLink RL 197 yX11_undo ∈ lw_gd := tm_8 _ (List.mem_of_getElem? (i := 44) rfl) rfl
theorem t_lX0_0 : u_lay RX0 TX0 0 ∈ lw_gd := tm_1 _ (List.mem_of_getElem? (i := 137) rfl) rfl
theorem t_lX0_1 : u_lay RX0 TX0 1 ∈ lw_gd := tm_1 _ (List.mem_of_getElem? (i := 139) rfl) rfl
theorem t_lX0_2 : u_lay RX0 TX0 2 ∈ lw_gd := tm_1 _ (List.mem_of_getElem? (i := 141) rfl) rfl
theorem t_lX0_3 : u_lay RX0 TX0 3 ∈ lw_gd := tm_1 _ (List.mem_of_getElem? (i := 143) rfl) rfl
theorem t_lX0_4 : u_lay RX0 TX0 4 ∈ lw_gd := tm_1 _ (List.mem_of_getElem? (i := 145) rfl) rfl
theorem t_lX0_5 : u_lay RX0 TX0 5 ∈ lw_gd := tm_1 _ (List.mem_of_getElem? (i := 147) rfl) rfl
theorem inWX00 : ∀ w ∈ wsX00, w ∈ lw_gd := by
  show ∀ w ∈ [u_lay RX0 TX0 0, u_lay RX0 TX0 1, u_lay RX0 TX0 2, u_lay RX0 TX0 3, u_lay RX0 TX0 4, u_lay RX0 TX0 5], w ∈ lw_gd
  exact List.forall_mem_cons.mpr ⟨t_lX0_0, List.forall_mem_cons.mpr ⟨t_lX0_1, List.forall_mem_cons.mpr ⟨t_lX0_2, List.forall_mem_cons.mpr ⟨t_lX0_3, List.forall_mem_cons.mpr ⟨t_lX0_4, List.forall_mem_cons.mpr ⟨t_lX0_5, fun _ h => absurd h List.not_mem_nil⟩⟩⟩⟩⟩⟩
theorem t_lX1_0 : u_lay RX1 TX1 0 ∈ lw_gd := tm_2 _ (List.mem_of_getElem? (i := 83) rfl) rfl
theorem t_lX1_1 : u_lay RX1 TX1 1 ∈ lw_gd := tm_2 _ (List.mem_of_getElem? (i := 85) rfl) rfl
theorem t_lX1_2 : u_lay RX1 TX1 2 ∈ lw_gd := tm_2 _ (List.mem_of_getElem? (i := 87) rfl) rfl
theorem t_lX1_3 : u_lay RX1 TX1 3 ∈ lw_gd := tm_2 _ (List.mem_of_getElem? (i := 89) rfl) rfl
theorem t_lX1_4 : u_lay RX1 TX1 4 ∈ lw_gd := tm_2 _ (List.mem_of_getElem? (i := 91) rfl) rfl
theorem inWX10 : ∀ w ∈ wsX10, w ∈ lw_gd := by
  show ∀ w ∈ [u_lay RX1 TX1 0, u_lay RX1 TX1 1, u_lay RX1 TX1 2, u_lay RX1 TX1 3, u_lay RX1 TX1 4], w ∈ lw_gd
  exact List.forall_mem_cons.mpr ⟨t_lX1_0, List.forall_mem_cons.mpr ⟨t_lX1_1, List.forall_mem_cons.mpr ⟨t_lX1_2, List.forall_mem_cons.mpr ⟨t_lX1_3, List.forall_mem_cons.mpr ⟨t_lX1_4, fun _ h => absurd h List.not_mem_nil⟩⟩⟩⟩⟩
theorem t_lX2_0 : u_lay RX2 TX2 0 ∈ lw_gd := tm_1 _ (List.mem_of_getElem? (i := 70) rfl) rfl
theorem t_lX2_1 : u_lay RX2 TX2 1 ∈ lw_gd := tm_1 _ (List.mem_of_getElem? (i := 72) rfl) rfl
theorem t_lX2_2 : u_lay RX2 TX2 2 ∈ lw_gd := tm_1 _ (List.mem_of_getElem? (i := 74) rfl) rfl
theorem t_lX2_3 : u_lay RX2 TX2 3 ∈ lw_gd := tm_1 _ (List.mem_of_getElem? (i := 76) rfl) rfl
theorem t_lX2_4 : u_lay RX2 TX2 4 ∈ lw_gd := tm_1 _ (List.mem_of_getElem? (i := 78) rfl) rfl
theorem t_lX2_5 : u_lay RX2 TX2 5 ∈ lw_gd := tm_1 _ (List.mem_of_getElem? (i := 80) rfl) rfl
theorem inWX20 : ∀ w ∈ wsX20, w ∈ lw_gd := by
  show ∀ w ∈ [u_lay RX2 TX2 0, u_lay RX2 TX2 1, u_lay RX2 TX2 2, u_lay RX2 TX2 3, u_lay RX2 TX2 4, u_lay RX2 TX2 5], w ∈ lw_gd
  exact List.forall_mem_cons.mpr ⟨t_lX2_0, List.forall_mem_cons.mpr ⟨t_lX2_1, List.forall_mem_cons.mpr ⟨t_lX2_2, List.forall_mem_cons.mpr ⟨t_lX2_3, List.forall_mem_cons.mpr ⟨t_lX2_4, List.forall_mem_cons.mpr ⟨t_lX2_5, fun _ h => absurd h List.not_mem_nil⟩⟩⟩⟩⟩⟩
theorem t_lX3_0 : u_lay RX3 TX3 0 ∈ lw_gd := tm_1 _ (List.mem_of_getElem? (i := 188) rfl) rfl
theorem t_lX3_1 : u_lay RX3 TX3 1 ∈ lw_gd := tm_1 _ (List.mem_of_getElem? (i := 190) rfl) rfl
theorem t_lX3_2 : u_lay RX3 TX3 2 ∈ lw_gd := tm_1 _ (List.mem_of_getElem? (i := 192) rfl) rfl
theorem t_lX3_3 : u_lay RX3 TX3 3 ∈ lw_gd := tm_1 _ (List.mem_of_getElem? (i := 194) rfl) rfl
theorem t_lX3_4 : u_lay RX3 TX3 4 ∈ lw_gd := tm_1 _ (List.mem_of_getElem? (i := 196) rfl) rfl
theorem t_lX3_5 : u_lay RX3 TX3 5 ∈ lw_gd := tm_1 _ (List.mem_of_getElem? (i := 198) rfl) rfl
theorem t_lX3_6 : u_lay RX3 TX3 6 ∈ lw_gd := tm_1 _ (List.mem_of_getElem? (i := 200) rfl) rfl
theorem t_lX3_7 : u_lay RX3 TX3 7 ∈ lw_gd := tm_1 _ (List.mem_of_getElem? (i := 202) rfl) rfl
theorem t_lX3_8 : u_lay RX3 TX3 8 ∈ lw_gd := tm_1 _ (List.mem_of_getElem? (i := 204) rfl) rfl
theorem inWX30 : ∀ w ∈ wsX30, w ∈ lw_gd := by
  show ∀ w ∈ [u_lay RX3 TX3 0, u_lay RX3 TX3 1, u_lay RX3 TX3 2, u_lay RX3 TX3 3, u_lay RX3 TX3 4, u_lay RX3 TX3 5, u_lay RX3 TX3 6, u_lay RX3 TX3 7, u_lay RX3 TX3 8], w ∈ lw_gd
  exact List.forall_mem_cons.mpr ⟨t_lX3_0, List.forall_mem_cons.mpr ⟨t_lX3_1, List.forall_mem_cons.mpr ⟨t_lX3_2, List.forall_mem_cons.mpr ⟨t_lX3_3, List.forall_mem_cons.mpr ⟨t_lX3_4, List.forall_mem_cons.mpr ⟨t_lX3_5, List.forall_mem_cons.mpr ⟨t_lX3_6, List.forall_mem_cons.mpr ⟨t_lX3_7, List.forall_mem_cons.mpr ⟨t_lX3_8, fun _ h => absurd h List.not_mem_nil⟩⟩⟩⟩⟩⟩⟩⟩⟩
theorem t_lX4_0 : u_lay RX4 TX4 0 ∈ lw_gd := tm_2 _ (List.mem_of_getElem? (i := 104) rfl) rfl
theorem t_lX4_1 : u_lay RX4 TX4 1 ∈ lw_gd := tm_2 _ (List.mem_of_getElem? (i := 106) rfl) rfl
theorem inWX40 : ∀ w ∈ wsX40, w ∈ lw_gd := by
  show ∀ w ∈ [u_lay RX4 TX4 0, u_lay RX4 TX4 1], w ∈ lw_gd
  exact List.forall_mem_cons.mpr ⟨t_lX4_0, List.forall_mem_cons.mpr ⟨t_lX4_1, fun _ h => absurd h List.not_mem_nil⟩⟩
theorem t_lX5_0 : u_lay RX5 TX5 0 ∈ lw_gd := tm_1 _ (List.mem_of_getElem? (i := 225) rfl) rfl
theorem t_lX5_1 : u_lay RX5 TX5 1 ∈ lw_gd := tm_1 _ (List.mem_of_getElem? (i := 227) rfl) rfl
theorem t_lX5_2 : u_lay RX5 TX5 2 ∈ lw_gd := tm_1 _ (List.mem_of_getElem? (i := 229) rfl) rfl
theorem t_lX5_3 : u_lay RX5 TX5 3 ∈ lw_gd := tm_1 _ (List.mem_of_getElem? (i := 231) rfl) rfl
theorem t_lX5_4 : u_lay RX5 TX5 4 ∈ lw_gd := tm_1 _ (List.mem_of_getElem? (i := 233) rfl) rfl
theorem t_lX5_5 : u_lay RX5 TX5 5 ∈ lw_gd := tm_1 _ (List.mem_of_getElem? (i := 235) rfl) rfl
theorem t_lX5_6 : u_lay RX5 TX5 6 ∈ lw_gd := tm_1 _ (List.mem_of_getElem? (i := 237) rfl) rfl
theorem inWX50 : ∀ w ∈ wsX50, w ∈ lw_gd := by
  show ∀ w ∈ [u_lay RX5 TX5 0, u_lay RX5 TX5 1, u_lay RX5 TX5 2, u_lay RX5 TX5 3, u_lay RX5 TX5 4, u_lay RX5 TX5 5, u_lay RX5 TX5 6], w ∈ lw_gd
  exact List.forall_mem_cons.mpr ⟨t_lX5_0, List.forall_mem_cons.mpr ⟨t_lX5_1, List.forall_mem_cons.mpr ⟨t_lX5_2, List.forall_mem_cons.mpr ⟨t_lX5_3, List.forall_mem_cons.mpr ⟨t_lX5_4, List.forall_mem_cons.mpr ⟨t_lX5_5, List.forall_mem_cons.mpr ⟨t_lX5_6, fun _ h => absurd h List.not_mem_nil⟩⟩⟩⟩⟩⟩⟩
theorem t_lX6_0 : u_lay RX6 TX6 0 ∈ lw_gd := tm_2 _ (List.mem_of_getElem? (i := 28) rfl) rfl
theorem t_lX6_1 : u_lay RX6 TX6 1 ∈ lw_gd := tm_2 _ (List.mem_of_getElem? (i := 30) rfl) rfl
theorem t_lX6_2 : u_lay RX6 TX6 2 ∈ lw_gd := tm_2 _ (List.mem_of_getElem? (i := 32) rfl) rfl
theorem t_lX6_3 : u_lay RX6 TX6 3 ∈ lw_gd := tm_2 _ (List.mem_of_getElem? (i := 34) rfl) rfl
theorem t_lX6_4 : u_lay RX6 TX6 4 ∈ lw_gd := tm_2 _ (List.mem_of_getElem? (i := 36) rfl) rfl
theorem t_lX6_5 : u_lay RX6 TX6 5 ∈ lw_gd := tm_2 _ (List.mem_of_getElem? (i := 38) rfl) rfl
theorem t_lX6_6 : u_lay RX6 TX6 6 ∈ lw_gd := tm_2 _ (List.mem_of_getElem? (i := 40) rfl) rfl
theorem t_lX6_7 : u_lay RX6 TX6 7 ∈ lw_gd := tm_2 _ (List.mem_of_getElem? (i := 42) rfl) rfl
theorem t_lX6_8 : u_lay RX6 TX6 8 ∈ lw_gd := tm_2 _ (List.mem_of_getElem? (i := 44) rfl) rfl
theorem t_lX6_9 : u_lay RX6 TX6 9 ∈ lw_gd := tm_2 _ (List.mem_of_getElem? (i := 46) rfl) rfl
theorem t_lX6_10 : u_lay RX6 TX6 10 ∈ lw_gd := tm_2 _ (List.mem_of_getElem? (i := 48) rfl) rfl
theorem inWX60 : ∀ w ∈ wsX60, w ∈ lw_gd := by
  show ∀ w ∈ [u_lay RX6 TX6 0, u_lay RX6 TX6 1, u_lay RX6 TX6 2, u_lay RX6 TX6 3, u_lay RX6 TX6 4, u_lay RX6 TX6 5, u_lay RX6 TX6 6, u_lay RX6 TX6 7, u_lay RX6 TX6 8, u_lay RX6 TX6 9, u_lay RX6 TX6 10], w ∈ lw_gd
  exact List.forall_mem_cons.mpr ⟨t_lX6_0, List.forall_mem_cons.mpr ⟨t_lX6_1, List.forall_mem_cons.mpr ⟨t_lX6_2, List.forall_mem_cons.mpr ⟨t_lX6_3, List.forall_mem_cons.mpr ⟨t_lX6_4, List.forall_mem_cons.mpr ⟨t_lX6_5, List.forall_mem_cons.mpr ⟨t_lX6_6, List.forall_mem_cons.mpr ⟨t_lX6_7, List.forall_mem_cons.mpr ⟨t_lX6_8, List.forall_mem_cons.mpr ⟨t_lX6_9, List.forall_mem_cons.mpr ⟨t_lX6_10, fun _ h => absurd h List.not_mem_nil⟩⟩⟩⟩⟩⟩⟩⟩⟩⟩⟩
theorem t_lX7_0 : u_lay RX7 TX7 0 ∈ lw_gd := tm_1 _ (List.mem_of_getElem? (i := 106) rfl) rfl
theorem t_lX7_1 : u_lay RX7 TX7 1 ∈ lw_gd := tm_1 _ (List.mem_of_getElem? (i := 108) rfl) rfl
theorem t_lX7_2 : u_lay RX7 TX7 2 ∈ lw_gd := tm_1 _ (List.mem_of_getElem? (i := 110) rfl) rfl
theorem t_lX7_3 : u_lay RX7 TX7 3 ∈ lw_gd := tm_1 _ (List.mem_of_getElem? (i := 112) rfl) rfl
theorem t_lX7_4 : u_lay RX7 TX7 4 ∈ lw_gd := tm_1 _ (List.mem_of_getElem? (i := 114) rfl) rfl
theorem t_lX7_5 : u_lay RX7 TX7 5 ∈ lw_gd := tm_1 _ (List.mem_of_getElem? (i := 116) rfl) rfl
theorem t_lX7_6 : u_lay RX7 TX7 6 ∈ lw_gd := tm_1 _ (List.mem_of_getElem? (i := 118) rfl) rfl
theorem t_lX7_7 : u_lay RX7 TX7 7 ∈ lw_gd := tm_1 _ (List.mem_of_getElem? (i := 120) rfl) rfl
theorem t_lX7_8 : u_lay RX7 TX7 8 ∈ lw_gd := tm_1 _ (List.mem_of_getElem? (i := 122) rfl) rfl
theorem inWX70 : ∀ w ∈ wsX70, w ∈ lw_gd := by
  show ∀ w ∈ [u_lay RX7 TX7 0, u_lay RX7 TX7 1, u_lay RX7 TX7 2, u_lay RX7 TX7 3, u_lay RX7 TX7 4, u_lay RX7 TX7 5, u_lay RX7 TX7 6, u_lay RX7 TX7 7, u_lay RX7 TX7 8], w ∈ lw_gd
  exact List.forall_mem_cons.mpr ⟨t_lX7_0, List.forall_mem_cons.mpr ⟨t_lX7_1, List.forall_mem_cons.mpr ⟨t_lX7_2, List.forall_mem_cons.mpr ⟨t_lX7_3, List.forall_mem_cons.mpr ⟨t_lX7_4, List.forall_mem_cons.mpr ⟨t_lX7_5, List.forall_mem_cons.mpr ⟨t_lX7_6, List.forall_mem_cons.mpr ⟨t_lX7_7, List.forall_mem_cons.mpr ⟨t_lX7_8, fun _ h => absurd h List.not_mem_nil⟩⟩⟩⟩⟩⟩⟩⟩⟩
theorem t_lX8_0 : u_lay RX8 TX8 0 ∈ lw_gd := tm_1 _ (List.mem_of_getElem? (i := 162) rfl) rfl
theorem t_lX8_1 : u_lay RX8 TX8 1 ∈ lw_gd := tm_1 _ (List.mem_of_getElem? (i := 164) rfl) rfl
theorem inWX80 : ∀ w ∈ wsX80, w ∈ lw_gd := by
  show ∀ w ∈ [u_lay RX8 TX8 0, u_lay RX8 TX8 1], w ∈ lw_gd
  exact List.forall_mem_cons.mpr ⟨t_lX8_0, List.forall_mem_cons.mpr ⟨t_lX8_1, fun _ h => absurd h List.not_mem_nil⟩⟩
theorem t_lX9_0 : u_lay RX9 TX9 0 ∈ lw_gd := tm_2 _ (List.mem_of_getElem? (i := 63) rfl) rfl
theorem t_lX9_1 : u_lay RX9 TX9 1 ∈ lw_gd := tm_2 _ (List.mem_of_getElem? (i := 65) rfl) rfl
theorem t_lX9_2 : u_lay RX9 TX9 2 ∈ lw_gd := tm_2 _ (List.mem_of_getElem? (i := 67) rfl) rfl
theorem t_lX9_3 : u_lay RX9 TX9 3 ∈ lw_gd := tm_2 _ (List.mem_of_getElem? (i := 69) rfl) rfl
theorem inWX90 : ∀ w ∈ wsX90, w ∈ lw_gd := by
  show ∀ w ∈ [u_lay RX9 TX9 0, u_lay RX9 TX9 1, u_lay RX9 TX9 2, u_lay RX9 TX9 3], w ∈ lw_gd
  exact List.forall_mem_cons.mpr ⟨t_lX9_0, List.forall_mem_cons.mpr ⟨t_lX9_1, List.forall_mem_cons.mpr ⟨t_lX9_2, List.forall_mem_cons.mpr ⟨t_lX9_3, fun _ h => absurd h List.not_mem_nil⟩⟩⟩⟩
theorem t_lX10_0 : u_lay RX10 TX10 0 ∈ lw_gd := tm_2 _ (List.mem_of_getElem? (i := 123) rfl) rfl
theorem t_lX10_1 : u_lay RX10 TX10 1 ∈ lw_gd := tm_2 _ (List.mem_of_getElem? (i := 125) rfl) rfl
theorem t_lX10_2 : u_lay RX10 TX10 2 ∈ lw_gd := tm_2 _ (List.mem_of_getElem? (i := 127) rfl) rfl
theorem t_lX10_3 : u_lay RX10 TX10 3 ∈ lw_gd := tm_2 _ (List.mem_of_getElem? (i := 129) rfl) rfl
theorem t_lX10_4 : u_lay RX10 TX10 4 ∈ lw_gd := tm_2 _ (List.mem_of_getElem? (i := 131) rfl) rfl
theorem t_lX10_5 : u_lay RX10 TX10 5 ∈ lw_gd := tm_2 _ (List.mem_of_getElem? (i := 133) rfl) rfl
theorem t_lX10_6 : u_lay RX10 TX10 6 ∈ lw_gd := tm_2 _ (List.mem_of_getElem? (i := 135) rfl) rfl
theorem t_lX10_7 : u_lay RX10 TX10 7 ∈ lw_gd := tm_2 _ (List.mem_of_getElem? (i := 137) rfl) rfl
theorem t_lX10_8 : u_lay RX10 TX10 8 ∈ lw_gd := tm_2 _ (List.mem_of_getElem? (i := 139) rfl) rfl
theorem t_lX10_9 : u_lay RX10 TX10 9 ∈ lw_gd := tm_2 _ (List.mem_of_getElem? (i := 141) rfl) rfl
theorem t_lX10_10 : u_lay RX10 TX10 10 ∈ lw_gd := tm_2 _ (List.mem_of_getElem? (i := 143) rfl) rfl
theorem t_lX10_11 : u_lay RX10 TX10 11 ∈ lw_gd := tm_2 _ (List.mem_of_getElem? (i := 145) rfl) rfl
theorem t_lX10_12 : u_lay RX10 TX10 12 ∈ lw_gd := tm_2 _ (List.mem_of_getElem? (i := 147) rfl) rfl
theorem t_lX10_13 : u_lay RX10 TX10 13 ∈ lw_gd := tm_2 _ (List.mem_of_getElem? (i := 149) rfl) rfl
theorem inWX100 : ∀ w ∈ wsX100, w ∈ lw_gd := by
  show ∀ w ∈ [u_lay RX10 TX10 0, u_lay RX10 TX10 1, u_lay RX10 TX10 2, u_lay RX10 TX10 3, u_lay RX10 TX10 4, u_lay RX10 TX10 5, u_lay RX10 TX10 6, u_lay RX10 TX10 7, u_lay RX10 TX10 8, u_lay RX10 TX10 9, u_lay RX10 TX10 10, u_lay RX10 TX10 11, u_lay RX10 TX10 12, u_lay RX10 TX10 13], w ∈ lw_gd
  exact List.forall_mem_cons.mpr ⟨t_lX10_0, List.forall_mem_cons.mpr ⟨t_lX10_1, List.forall_mem_cons.mpr ⟨t_lX10_2, List.forall_mem_cons.mpr ⟨t_lX10_3, List.forall_mem_cons.mpr ⟨t_lX10_4, List.forall_mem_cons.mpr ⟨t_lX10_5, List.forall_mem_cons.mpr ⟨t_lX10_6, List.forall_mem_cons.mpr ⟨t_lX10_7, List.forall_mem_cons.mpr ⟨t_lX10_8, List.forall_mem_cons.mpr ⟨t_lX10_9, List.forall_mem_cons.mpr ⟨t_lX10_10, List.forall_mem_cons.mpr ⟨t_lX10_11, List.forall_mem_cons.mpr ⟨t_lX10_12, List.forall_mem_cons.mpr ⟨t_lX10_13, fun _ h => absurd h List.not_mem_nil⟩⟩⟩⟩⟩⟩⟩⟩⟩⟩⟩⟩⟩⟩
theorem t_lX11_0 : u_lay RX11 TX11 0 ∈ lw_gd := tm_5 _ (List.mem_of_getElem? (i := 202) rfl) rfl
theorem t_lX11_1 : u_lay RX11 TX11 1 ∈ lw_gd := tm_5 _ (List.mem_of_getElem? (i := 204) rfl) rfl
theorem t_lX11_2 : u_lay RX11 TX11 2 ∈ lw_gd := tm_5 _ (List.mem_of_getElem? (i := 206) rfl) rfl
theorem t_lX11_3 : u_lay RX11 TX11 3 ∈ lw_gd := tm_5 _ (List.mem_of_getElem? (i := 208) rfl) rfl
theorem t_lX11_4 : u_lay RX11 TX11 4 ∈ lw_gd := tm_5 _ (List.mem_of_getElem? (i := 210) rfl) rfl
theorem t_lX11_5 : u_lay RX11 TX11 5 ∈ lw_gd := tm_5 _ (List.mem_of_getElem? (i := 212) rfl) rfl
theorem t_lX11_6 : u_lay RX11 TX11 6 ∈ lw_gd := tm_5 _ (List.mem_of_getElem? (i := 214) rfl) rfl
theorem t_lX11_7 : u_lay RX11 TX11 7 ∈ lw_gd := tm_5 _ (List.mem_of_getElem? (i := 216) rfl) rfl
theorem t_lX11_8 : u_lay RX11 TX11 8 ∈ lw_gd := tm_5 _ (List.mem_of_getElem? (i := 218) rfl) rfl
theorem t_lX11_9 : u_lay RX11 TX11 9 ∈ lw_gd := tm_5 _ (List.mem_of_getElem? (i := 220) rfl) rfl
theorem t_lX11_10 : u_lay RX11 TX11 10 ∈ lw_gd := tm_5 _ (List.mem_of_getElem? (i := 222) rfl) rfl
theorem t_lX11_11 : u_lay RX11 TX11 11 ∈ lw_gd := tm_5 _ (List.mem_of_getElem? (i := 224) rfl) rfl
theorem t_lX11_12 : u_lay RX11 TX11 12 ∈ lw_gd := tm_5 _ (List.mem_of_getElem? (i := 226) rfl) rfl
theorem t_lX11_13 : u_lay RX11 TX11 13 ∈ lw_gd := tm_5 _ (List.mem_of_getElem? (i := 228) rfl) rfl
theorem t_lX11_14 : u_lay RX11 TX11 14 ∈ lw_gd := tm_5 _ (List.mem_of_getElem? (i := 230) rfl) rfl
theorem t_lX11_15 : u_lay RX11 TX11 15 ∈ lw_gd := tm_5 _ (List.mem_of_getElem? (i := 232) rfl) rfl
theorem t_lX11_16 : u_lay RX11 TX11 16 ∈ lw_gd := tm_5 _ (List.mem_of_getElem? (i := 234) rfl) rfl
theorem t_lX11_17 : u_lay RX11 TX11 17 ∈ lw_gd := tm_5 _ (List.mem_of_getElem? (i := 236) rfl) rfl
theorem t_lX11_18 : u_lay RX11 TX11 18 ∈ lw_gd := tm_5 _ (List.mem_of_getElem? (i := 238) rfl) rfl
theorem t_lX11_19 : u_lay RX11 TX11 19 ∈ lw_gd := tm_6 _ (List.mem_of_getElem? (i := 0) rfl) rfl
theorem t_lX11_20 : u_lay RX11 TX11 20 ∈ lw_gd := tm_6 _ (List.mem_of_getElem? (i := 2) rfl) rfl
theorem t_lX11_21 : u_lay RX11 TX11 21 ∈ lw_gd := tm_6 _ (List.mem_of_getElem? (i := 4) rfl) rfl
theorem t_lX11_22 : u_lay RX11 TX11 22 ∈ lw_gd := tm_6 _ (List.mem_of_getElem? (i := 6) rfl) rfl
theorem t_lX11_23 : u_lay RX11 TX11 23 ∈ lw_gd := tm_6 _ (List.mem_of_getElem? (i := 8) rfl) rfl
theorem t_lX11_24 : u_lay RX11 TX11 24 ∈ lw_gd := tm_6 _ (List.mem_of_getElem? (i := 10) rfl) rfl
theorem t_lX11_25 : u_lay RX11 TX11 25 ∈ lw_gd := tm_6 _ (List.mem_of_getElem? (i := 12) rfl) rfl
theorem t_lX11_26 : u_lay RX11 TX11 26 ∈ lw_gd := tm_6 _ (List.mem_of_getElem? (i := 14) rfl) rfl
theorem t_lX11_27 : u_lay RX11 TX11 27 ∈ lw_gd := tm_6 _ (List.mem_of_getElem? (i := 16) rfl) rfl
theorem t_lX11_28 : u_lay RX11 TX11 28 ∈ lw_gd := tm_6 _ (List.mem_of_getElem? (i := 18) rfl) rfl
theorem t_lX11_29 : u_lay RX11 TX11 29 ∈ lw_gd := tm_6 _ (List.mem_of_getElem? (i := 20) rfl) rfl
theorem t_lX11_30 : u_lay RX11 TX11 30 ∈ lw_gd := tm_6 _ (List.mem_of_getElem? (i := 22) rfl) rfl
theorem t_lX11_31 : u_lay RX11 TX11 31 ∈ lw_gd := tm_6 _ (List.mem_of_getElem? (i := 24) rfl) rfl
theorem t_lX11_32 : u_lay RX11 TX11 32 ∈ lw_gd := tm_6 _ (List.mem_of_getElem? (i := 26) rfl) rfl
theorem t_lX11_33 : u_lay RX11 TX11 33 ∈ lw_gd := tm_6 _ (List.mem_of_getElem? (i := 28) rfl) rfl
theorem t_lX11_34 : u_lay RX11 TX11 34 ∈ lw_gd := tm_6 _ (List.mem_of_getElem? (i := 30) rfl) rfl
theorem t_lX11_35 : u_lay RX11 TX11 35 ∈ lw_gd := tm_6 _ (List.mem_of_getElem? (i := 32) rfl) rfl
theorem t_lX11_36 : u_lay RX11 TX11 36 ∈ lw_gd := tm_6 _ (List.mem_of_getElem? (i := 34) rfl) rfl
theorem t_lX11_37 : u_lay RX11 TX11 37 ∈ lw_gd := tm_6 _ (List.mem_of_getElem? (i := 36) rfl) rfl
theorem t_lX11_38 : u_lay RX11 TX11 38 ∈ lw_gd := tm_6 _ (List.mem_of_getElem? (i := 38) rfl) rfl
theorem t_lX11_39 : u_lay RX11 TX11 39 ∈ lw_gd := tm_6 _ (List.mem_of_getElem? (i := 40) rfl) rfl
theorem t_lX11_40 : u_lay RX11 TX11 40 ∈ lw_gd := tm_6 _ (List.mem_of_getElem? (i := 42) rfl) rfl
theorem t_lX11_41 : u_lay RX11 TX11 41 ∈ lw_gd := tm_6 _ (List.mem_of_getElem? (i := 44) rfl) rfl
theorem inWX110 : ∀ w ∈ wsX110, w ∈ lw_gd := by
  show ∀ w ∈ [u_lay RX11 TX11 0, u_lay RX11 TX11 1, u_lay RX11 TX11 2, u_lay RX11 TX11 3, u_lay RX11 TX11 4, u_lay RX11 TX11 5, u_lay RX11 TX11 6, u_lay RX11 TX11 7, u_lay RX11 TX11 8, u_lay RX11 TX11 9, u_lay RX11 TX11 10, u_lay RX11 TX11 11, u_lay RX11 TX11 12, u_lay RX11 TX11 13, u_lay RX11 TX11 14, u_lay RX11 TX11 15, u_lay RX11 TX11 16, u_lay RX11 TX11 17, u_lay RX11 TX11 18, u_lay RX11 TX11 19, u_lay RX11 TX11 20, u_lay RX11 TX11 21, u_lay RX11 TX11 22, u_lay RX11 TX11 23, u_lay RX11 TX11 24, u_lay RX11 TX11 25, u_lay RX11 TX11 26, u_lay RX11 TX11 27, u_lay RX11 TX11 28, u_lay RX11 TX11 29, u_lay RX11 TX11 30, u_lay RX11 TX11 31, u_lay RX11 TX11 32, u_lay RX11 TX11 33, u_lay RX11 TX11 34, u_lay RX11 TX11 35, u_lay RX11 TX11 36, u_lay RX11 TX11 37, u_lay RX11 TX11 38, u_lay RX11 TX11 39, u_lay RX11 TX11 40, u_lay RX11 TX11 41], w ∈ lw_gd
  exact List.forall_mem_cons.mpr ⟨t_lX11_0, List.forall_mem_cons.mpr ⟨t_lX11_1, List.forall_mem_cons.mpr ⟨t_lX11_2, List.forall_mem_cons.mpr ⟨t_lX11_3, List.forall_mem_cons.mpr ⟨t_lX11_4, List.forall_mem_cons.mpr ⟨t_lX11_5, List.forall_mem_cons.mpr ⟨t_lX11_6, List.forall_mem_cons.mpr ⟨t_lX11_7, List.forall_mem_cons.mpr ⟨t_lX11_8, List.forall_mem_cons.mpr ⟨t_lX11_9, List.forall_mem_cons.mpr ⟨t_lX11_10, List.forall_mem_cons.mpr ⟨t_lX11_11, List.forall_mem_cons.mpr ⟨t_lX11_12, List.forall_mem_cons.mpr ⟨t_lX11_13, List.forall_mem_cons.mpr ⟨t_lX11_14, List.forall_mem_cons.mpr ⟨t_lX11_15, List.forall_mem_cons.mpr ⟨t_lX11_16, List.forall_mem_cons.mpr ⟨t_lX11_17, List.forall_mem_cons.mpr ⟨t_lX11_18, List.forall_mem_cons.mpr ⟨t_lX11_19, List.forall_mem_cons.mpr ⟨t_lX11_20, List.forall_mem_cons.mpr ⟨t_lX11_21, List.forall_mem_cons.mpr ⟨t_lX11_22, List.forall_mem_cons.mpr ⟨t_lX11_23, List.forall_mem_cons.mpr ⟨t_lX11_24, List.forall_mem_cons.mpr ⟨t_lX11_25, List.forall_mem_cons.mpr ⟨t_lX11_26, List.forall_mem_cons.mpr ⟨t_lX11_27, List.forall_mem_cons.mpr ⟨t_lX11_28, List.forall_mem_cons.mpr ⟨t_lX11_29, List.forall_mem_cons.mpr ⟨t_lX11_30, List.forall_mem_cons.mpr ⟨t_lX11_31, List.forall_mem_cons.mpr ⟨t_lX11_32, List.forall_mem_cons.mpr ⟨t_lX11_33, List.forall_mem_cons.mpr ⟨t_lX11_34, List.forall_mem_cons.mpr ⟨t_lX11_35, List.forall_mem_cons.mpr ⟨t_lX11_36, List.forall_mem_cons.mpr ⟨t_lX11_37, List.forall_mem_cons.mpr ⟨t_lX11_38, List.forall_mem_cons.mpr ⟨t_lX11_39, List.forall_mem_cons.mpr ⟨t_lX11_40, List.forall_mem_cons.mpr ⟨t_lX11_41, fun _ h => absurd h List.not_mem_nil⟩⟩⟩⟩⟩⟩⟩⟩⟩⟩⟩⟩⟩⟩⟩⟩⟩⟩⟩⟩⟩⟩⟩⟩⟩⟩⟩⟩⟩⟩⟩⟩⟩⟩⟩⟩⟩⟩⟩⟩⟩⟩
theorem gX0_init_X2_init : GoodIn wsX0_init (wsX2_init) := gw_c t_w781 (gw_t)
theorem gX0_init_X7_init : GoodIn wsX0_init (wsX7_init) := gw_c t_w782 (gw_t)
end
section
/-! bytes of the code, read by lists; decode rows -/
abbrev dI (c : ByteArray) (p : Nat) (i : Instr) (n : Nat) : Prop := decode c p = .ok (i, n)
def rd (c : ByteArray) (p : Nat) : Option Nat := (c.data.toList[p]?).map (fun x => x.toNat)
theorem rd_u1 {c : ByteArray} {p b : Nat} (h : rd c p = some b) : (Reader.u1 : Decoder Nat).runAt c p = .ok (b, p + 1) := by
  have g : (Reader.u1 : Decoder Nat).runAt c p = (if h : p < c.size then (do set (p + 1); Pure.pure c[p].toNat : Decoder Nat) else MonadExcept.throw (HasTruncated.truncated p)) c p := rfl
  unfold rd at h
  obtain ⟨x, hx, hb⟩ := Option.map_eq_some_iff.mp h
  obtain ⟨h1, h2⟩ := List.getElem?_eq_some_iff.mp hx
  have h3 : p < c.size := h1
  rw [g, dif_pos h3, ← hb, ← h2]
  rfl
theorem dk0 {c : ByteArray} {pc b : Nat} {ins : Instr} (f : Nat → Decoder Instr) (e : Decoder.instr pc = Reader.u1 >>= f) (hf : f b = Pure.pure ins) (h0 : rd c pc = some b) : decode c pc = .ok (ins, 1) := by
  show Except.bind ((Decoder.instr pc).runAt c pc) (fun q => Except.ok (q.1, q.2 - pc)) = _
  rw [e]
  show Except.bind (Except.bind ((Reader.u1 : Decoder Nat).runAt c pc) (fun q => (f q.1).runAt c q.2)) (fun q => Except.ok (q.1, q.2 - pc)) = _
  rw [rd_u1 h0]
  show Except.bind ((f b).runAt c (pc + 1)) (fun q => Except.ok (q.1, q.2 - pc)) = _
  rw [hf]
  show Except.ok (ins, pc + 1 - pc) = _
  rw [Nat.add_sub_cancel_left]
theorem dk1 {c : ByteArray} {pc b x : Nat} {g : Nat → Instr} (f : Nat → Decoder Instr) (e : Decoder.instr pc = Reader.u1 >>= f) (hf : f b = (Reader.u1 >>= fun x => Pure.pure (g x))) (h0 : rd c pc = some b) (h1 : rd c (pc + 1) = some x) : decode c pc = .ok (g x, 2) := by
  show Except.bind ((Decoder.instr pc).runAt c pc) (fun q => Except.ok (q.1, q.2 - pc)) = _
  rw [e]
  show Except.bind (Except.bind ((Reader.u1 : Decoder Nat).runAt c pc) (fun q => (f q.1).runAt c q.2)) (fun q => Except.ok (q.1, q.2 - pc)) = _
  rw [rd_u1 h0]
  show Except.bind ((f b).runAt c (pc + 1)) (fun q => Except.ok (q.1, q.2 - pc)) = _
  rw [hf]
  show Except.bind (Except.bind ((Reader.u1 : Decoder Nat).runAt c (pc + 1)) (fun q => (Pure.pure (g q.1) : Decoder Instr).runAt c q.2)) (fun q => Except.ok (q.1, q.2 - pc)) = _
  rw [rd_u1 h1]
  show Except.ok (g x, pc + 1 + 1 - pc) = _
  rw [Nat.add_assoc, Nat.add_sub_cancel_left]
theorem rd_u2 {c : ByteArray} {p a b : Nat} (h : rd c p = some a) (h2 : rd c (p + 1) = some b) : (Reader.u2 : Decoder Nat).runAt c p = .ok (a * 256 + b, p + 2) := by
  show Except.bind ((Reader.u1 : Decoder Nat).runAt c p) (fun q => Except.bind ((Reader.u1 : Decoder Nat).runAt c q.2) (fun r => Except.ok (q.1 * 256 + r.1, r.2))) = _
  rw [rd_u1 h]
  show Except.bind ((Reader.u1 : Decoder Nat).runAt c (p + 1)) (fun r => Except.ok (a * 256 + r.1, r.2)) = _
  rw [rd_u1 h2]
  rfl
theorem dk2 {c : ByteArray} {pc b x y : Nat} {g : Nat → Instr} (f : Nat → Decoder Instr) (e : Decoder.instr pc = Reader.u1 >>= f) (hf : f b = (Reader.u2 >>= fun x => Pure.pure (g x))) (h0 : rd c pc = some b) (h1 : rd c (pc + 1) = some x) (h2 : rd c (pc + 2) = some y) : decode c pc = .ok (g (x * 256 + y), 3) := by
  show Except.bind ((Decoder.instr pc).runAt c pc) (fun q => Except.ok (q.1, q.2 - pc)) = _
  rw [e]
  show Except.bind (Except.bind ((Reader.u1 : Decoder Nat).runAt c pc) (fun q => (f q.1).runAt c q.2)) (fun q => Except.ok (q.1, q.2 - pc)) = _
  rw [rd_u1 h0]
  show Except.bind ((f b).runAt c (pc + 1)) (fun q => Except.ok (q.1, q.2 - pc)) = _
  rw [hf]
  show Except.bind (Except.bind ((Reader.u2 : Decoder Nat).runAt c (pc + 1)) (fun q => (Pure.pure (g q.1) : Decoder Instr).runAt c q.2)) (fun q => Except.ok (q.1, q.2 - pc)) = _
  rw [rd_u2 h1 h2]
  show Except.ok (g (x * 256 + y), pc + 1 + 2 - pc) = _
  rw [Nat.add_assoc, Nat.add_sub_cancel_left]
theorem dk2s {c : ByteArray} {pc b x y : Nat} {g : Int → Instr} (f : Nat → Decoder Instr) (e : Decoder.instr pc = Reader.u1 >>= f) (hf : f b = (Reader.s2 >>= fun x => Pure.pure (g x))) (h0 : rd c pc = some b) (h1 : rd c (pc + 1) = some x) (h2 : rd c (pc + 2) = some y) : decode c pc = .ok (g (Reader.signed 16 (x * 256 + y)), 3) := by
  show Except.bind ((Decoder.instr pc).runAt c pc) (fun q => Except.ok (q.1, q.2 - pc)) = _
  rw [e]
  show Except.bind (Except.bind ((Reader.u1 : Decoder Nat).runAt c pc) (fun q => (f q.1).runAt c q.2)) (fun q => Except.ok (q.1, q.2 - pc)) = _
  rw [rd_u1 h0]
  show Except.bind ((f b).runAt c (pc + 1)) (fun q => Except.ok (q.1, q.2 - pc)) = _
  rw [hf]
  show Except.bind (Except.bind (Except.map (fun q : Nat × Nat => (Reader.signed 16 q.1, q.2)) ((Reader.u2 : Decoder Nat).runAt c (pc + 1))) (fun q => (Pure.pure (g q.1) : Decoder Instr).runAt c q.2)) (fun q => Except.ok (q.1, q.2 - pc)) = _
  rw [rd_u2 h1 h2]
  show Except.ok (g (Reader.signed 16 (x * 256 + y)), pc + 1 + 2 - pc) = _
  rw [Nat.add_assoc, Nat.add_sub_cancel_left]
theorem dk1s {c : ByteArray} {pc b x : Nat} {g : Int → Instr} (f : Nat → Decoder Instr) (e : Decoder.instr pc = Reader.u1 >>= f) (hf : f b = (Reader.s1 >>= fun x => Pure.pure (g x))) (h0 : rd c pc = some b) (h1 : rd c (pc + 1) = some x) : decode c pc = .ok (g (Reader.signed 8 x), 2) := by
  show Except.bind ((Decoder.instr pc).runAt c pc) (fun q => Except.ok (q.1, q.2 - pc)) = _
  rw [e]
  show Except.bind (Except.bind ((Reader.u1 : Decoder Nat).runAt c pc) (fun q => (f q.1).runAt c q.2)) (fun q => Except.ok (q.1, q.2 - pc)) = _
  rw [rd_u1 h0]
  show Except.bind ((f b).runAt c (pc + 1)) (fun q => Except.ok (q.1, q.2 - pc)) = _
  rw [hf]
  show Except.bind (Except.bind (Except.map (fun q : Nat × Nat => (Reader.signed 8 q.1, q.2)) ((Reader.u1 : Decoder Nat).runAt c (pc + 1))) (fun q => (Pure.pure (g q.1) : Decoder Instr).runAt c q.2)) (fun q => Except.ok (q.1, q.2 - pc)) = _
  rw [rd_u1 h1]
  show Except.ok (g (Reader.signed 8 x), pc + 1 + 1 - pc) = _
  rw [Nat.add_assoc, Nat.add_sub_cancel_left]
theorem op_2 {c : ByteArray} {pc : Nat} (h0 : rd c pc = some 2) : decode c pc = .ok (.iconst (-1), 1) := dk0 _ rfl rfl h0
theorem op_3 {c : ByteArray} {pc : Nat} (h0 : rd c pc = some 3) : decode c pc = .ok (.iconst 0, 1) := dk0 _ rfl rfl h0
theorem op_4 {c : ByteArray} {pc : Nat} (h0 : rd c pc = some 4) : decode c pc = .ok (.iconst 1, 1) := dk0 _ rfl rfl h0
theorem op_5 {c : ByteArray} {pc : Nat} (h0 : rd c pc = some 5) : decode c pc = .ok (.iconst 2, 1) := dk0 _ rfl rfl h0
theorem op_6 {c : ByteArray} {pc : Nat} (h0 : rd c pc = some 6) : decode c pc = .ok (.iconst 3, 1) := dk0 _ rfl rfl h0
theorem op_7 {c : ByteArray} {pc : Nat} (h0 : rd c pc = some 7) : decode c pc = .ok (.iconst 4, 1) := dk0 _ rfl rfl h0
theorem op_8 {c : ByteArray} {pc : Nat} (h0 : rd c pc = some 8) : decode c pc = .ok (.iconst 5, 1) := dk0 _ rfl rfl h0
theorem op_9 {c : ByteArray} {pc : Nat} (h0 : rd c pc = some 9) : decode c pc = .ok (.lconst 0, 1) := dk0 _ rfl rfl h0
theorem op_10 {c : ByteArray} {pc : Nat} (h0 : rd c pc = some 10) : decode c pc = .ok (.lconst 1, 1) := dk0 _ rfl rfl h0
theorem op_16 {c : ByteArray} {pc x : Nat} (h0 : rd c pc = some 16) (h1 : rd c (pc + 1) = some x) {z : Int} (hz : Reader.signed 8 x = z) : decode c pc = .ok (.bipush z, 2) := by rw [← hz]; exact dk1s (g := fun x => .bipush x) _ rfl rfl h0 h1
theorem op_17 {c : ByteArray} {pc x y : Nat} (h0 : rd c pc = some 17) (h1 : rd c (pc + 1) = some x) (h2 : rd c (pc + 2) = some y) {z : Int} (hz : Reader.signed 16 (x * 256 + y) = z) : decode c pc = .ok (.sipush z, 3) := by rw [← hz]; exact dk2s (g := fun x => .sipush x) _ rfl rfl h0 h1 h2
theorem op_18 {c : ByteArray} {pc x : Nat} (h0 : rd c pc = some 18) (h1 : rd c (pc + 1) = some x) : decode c pc = .ok (.ldc x, 2) := dk1 (g := fun x => .ldc x) _ rfl rfl h0 h1
theorem op_19 {c : ByteArray} {pc x y : Nat} (h0 : rd c pc = some 19) (h1 : rd c (pc + 1) = some x) (h2 : rd c (pc + 2) = some y) : decode c pc = .ok (.ldc_w (x * 256 + y), 3) := dk2 (g := fun x => .ldc_w x) _ rfl rfl h0 h1 h2
theorem op_20 {c : ByteArray} {pc x y : Nat} (h0 : rd c pc = some 20) (h1 : rd c (pc + 1) = some x) (h2 : rd c (pc + 2) = some y) : decode c pc = .ok (.ldc2_w (x * 256 + y), 3) := dk2 (g := fun x => .ldc2_w x) _ rfl rfl h0 h1 h2
theorem op_21 {c : ByteArray} {pc x : Nat} (h0 : rd c pc = some 21) (h1 : rd c (pc + 1) = some x) : decode c pc = .ok (.iload x, 2) := dk1 (g := fun x => .iload x) _ rfl rfl h0 h1
theorem op_22 {c : ByteArray} {pc x : Nat} (h0 : rd c pc = some 22) (h1 : rd c (pc + 1) = some x) : decode c pc = .ok (.lload x, 2) := dk1 (g := fun x => .lload x) _ rfl rfl h0 h1
theorem op_26 {c : ByteArray} {pc : Nat} (h0 : rd c pc = some 26) : decode c pc = .ok (.iload_n 0, 1) := dk0 _ rfl rfl h0
theorem op_27 {c : ByteArray} {pc : Nat} (h0 : rd c pc = some 27) : decode c pc = .ok (.iload_n 1, 1) := dk0 _ rfl rfl h0
theorem op_28 {c : ByteArray} {pc : Nat} (h0 : rd c pc = some 28) : decode c pc = .ok (.iload_n 2, 1) := dk0 _ rfl rfl h0
theorem op_29 {c : ByteArray} {pc : Nat} (h0 : rd c pc = some 29) : decode c pc = .ok (.iload_n 3, 1) := dk0 _ rfl rfl h0
theorem op_30 {c : ByteArray} {pc : Nat} (h0 : rd c pc = some 30) : decode c pc = .ok (.lload_n 0, 1) := dk0 _ rfl rfl h0
theorem op_31 {c : ByteArray} {pc : Nat} (h0 : rd c pc = some 31) : decode c pc = .ok (.lload_n 1, 1) := dk0 _ rfl rfl h0
theorem op_32 {c : ByteArray} {pc : Nat} (h0 : rd c pc = some 32) : decode c pc = .ok (.lload_n 2, 1) := dk0 _ rfl rfl h0
theorem op_33 {c : ByteArray} {pc : Nat} (h0 : rd c pc = some 33) : decode c pc = .ok (.lload_n 3, 1) := dk0 _ rfl rfl h0
theorem op_42 {c : ByteArray} {pc : Nat} (h0 : rd c pc = some 42) : decode c pc = .ok (.aload_n 0, 1) := dk0 _ rfl rfl h0
theorem op_43 {c : ByteArray} {pc : Nat} (h0 : rd c pc = some 43) : decode c pc = .ok (.aload_n 1, 1) := dk0 _ rfl rfl h0
theorem op_44 {c : ByteArray} {pc : Nat} (h0 : rd c pc = some 44) : decode c pc = .ok (.aload_n 2, 1) := dk0 _ rfl rfl h0
theorem op_45 {c : ByteArray} {pc : Nat} (h0 : rd c pc = some 45) : decode c pc = .ok (.aload_n 3, 1) := dk0 _ rfl rfl h0
theorem op_46 {c : ByteArray} {pc : Nat} (h0 : rd c pc = some 46) : decode c pc = .ok (.iaload, 1) := dk0 _ rfl rfl h0
theorem op_47 {c : ByteArray} {pc : Nat} (h0 : rd c pc = some 47) : decode c pc = .ok (.laload, 1) := dk0 _ rfl rfl h0
theorem op_50 {c : ByteArray} {pc : Nat} (h0 : rd c pc = some 50) : decode c pc = .ok (.aaload, 1) := dk0 _ rfl rfl h0
theorem op_51 {c : ByteArray} {pc : Nat} (h0 : rd c pc = some 51) : decode c pc = .ok (.baload, 1) := dk0 _ rfl rfl h0
theorem op_54 {c : ByteArray} {pc x : Nat} (h0 : rd c pc = some 54) (h1 : rd c (pc + 1) = some x) : decode c pc = .ok (.istore x, 2) := dk1 (g := fun x => .istore x) _ rfl rfl h0 h1
theorem op_55 {c : ByteArray} {pc x : Nat} (h0 : rd c pc = some 55) (h1 : rd c (pc + 1) = some x) : decode c pc = .ok (.lstore x, 2) := dk1 (g := fun x => .lstore x) _ rfl rfl h0 h1
theorem op_60 {c : ByteArray} {pc : Nat} (h0 : rd c pc = some 60) : decode c pc = .ok (.istore_n 1, 1) := dk0 _ rfl rfl h0
theorem op_61 {c : ByteArray} {pc : Nat} (h0 : rd c pc = some 61) : decode c pc = .ok (.istore_n 2, 1) := dk0 _ rfl rfl h0
theorem op_62 {c : ByteArray} {pc : Nat} (h0 : rd c pc = some 62) : decode c pc = .ok (.istore_n 3, 1) := dk0 _ rfl rfl h0
theorem op_65 {c : ByteArray} {pc : Nat} (h0 : rd c pc = some 65) : decode c pc = .ok (.lstore_n 2, 1) := dk0 _ rfl rfl h0
theorem op_66 {c : ByteArray} {pc : Nat} (h0 : rd c pc = some 66) : decode c pc = .ok (.lstore_n 3, 1) := dk0 _ rfl rfl h0
theorem op_76 {c : ByteArray} {pc : Nat} (h0 : rd c pc = some 76) : decode c pc = .ok (.astore_n 1, 1) := dk0 _ rfl rfl h0
theorem op_77 {c : ByteArray} {pc : Nat} (h0 : rd c pc = some 77) : decode c pc = .ok (.astore_n 2, 1) := dk0 _ rfl rfl h0
theorem op_79 {c : ByteArray} {pc : Nat} (h0 : rd c pc = some 79) : decode c pc = .ok (.iastore, 1) := dk0 _ rfl rfl h0
theorem op_80 {c : ByteArray} {pc : Nat} (h0 : rd c pc = some 80) : decode c pc = .ok (.lastore, 1) := dk0 _ rfl rfl h0
theorem op_83 {c : ByteArray} {pc : Nat} (h0 : rd c pc = some 83) : decode c pc = .ok (.aastore, 1) := dk0 _ rfl rfl h0
theorem op_84 {c : ByteArray} {pc : Nat} (h0 : rd c pc = some 84) : decode c pc = .ok (.bastore, 1) := dk0 _ rfl rfl h0
theorem op_87 {c : ByteArray} {pc : Nat} (h0 : rd c pc = some 87) : decode c pc = .ok (.pop, 1) := dk0 _ rfl rfl h0
theorem op_88 {c : ByteArray} {pc : Nat} (h0 : rd c pc = some 88) : decode c pc = .ok (.pop2, 1) := dk0 _ rfl rfl h0
theorem op_89 {c : ByteArray} {pc : Nat} (h0 : rd c pc = some 89) : decode c pc = .ok (.dup, 1) := dk0 _ rfl rfl h0
theorem op_96 {c : ByteArray} {pc : Nat} (h0 : rd c pc = some 96) : decode c pc = .ok (.iadd, 1) := dk0 _ rfl rfl h0
theorem op_97 {c : ByteArray} {pc : Nat} (h0 : rd c pc = some 97) : decode c pc = .ok (.ladd, 1) := dk0 _ rfl rfl h0
theorem op_100 {c : ByteArray} {pc : Nat} (h0 : rd c pc = some 100) : decode c pc = .ok (.isub, 1) := dk0 _ rfl rfl h0
theorem op_101 {c : ByteArray} {pc : Nat} (h0 : rd c pc = some 101) : decode c pc = .ok (.lsub, 1) := dk0 _ rfl rfl h0
theorem op_104 {c : ByteArray} {pc : Nat} (h0 : rd c pc = some 104) : decode c pc = .ok (.imul, 1) := dk0 _ rfl rfl h0
theorem op_105 {c : ByteArray} {pc : Nat} (h0 : rd c pc = some 105) : decode c pc = .ok (.lmul, 1) := dk0 _ rfl rfl h0
theorem op_108 {c : ByteArray} {pc : Nat} (h0 : rd c pc = some 108) : decode c pc = .ok (.idiv, 1) := dk0 _ rfl rfl h0
theorem op_109 {c : ByteArray} {pc : Nat} (h0 : rd c pc = some 109) : decode c pc = .ok (.ldiv, 1) := dk0 _ rfl rfl h0
theorem op_112 {c : ByteArray} {pc : Nat} (h0 : rd c pc = some 112) : decode c pc = .ok (.irem, 1) := dk0 _ rfl rfl h0
theorem op_113 {c : ByteArray} {pc : Nat} (h0 : rd c pc = some 113) : decode c pc = .ok (.lrem, 1) := dk0 _ rfl rfl h0
theorem op_117 {c : ByteArray} {pc : Nat} (h0 : rd c pc = some 117) : decode c pc = .ok (.lneg, 1) := dk0 _ rfl rfl h0
theorem op_120 {c : ByteArray} {pc : Nat} (h0 : rd c pc = some 120) : decode c pc = .ok (.ishl, 1) := dk0 _ rfl rfl h0
theorem op_122 {c : ByteArray} {pc : Nat} (h0 : rd c pc = some 122) : decode c pc = .ok (.ishr, 1) := dk0 _ rfl rfl h0
theorem op_126 {c : ByteArray} {pc : Nat} (h0 : rd c pc = some 126) : decode c pc = .ok (.iand, 1) := dk0 _ rfl rfl h0
theorem op_128 {c : ByteArray} {pc : Nat} (h0 : rd c pc = some 128) : decode c pc = .ok (.ior, 1) := dk0 _ rfl rfl h0
theorem op_130 {c : ByteArray} {pc : Nat} (h0 : rd c pc = some 130) : decode c pc = .ok (.ixor, 1) := dk0 _ rfl rfl h0
theorem op_131 {c : ByteArray} {pc : Nat} (h0 : rd c pc = some 131) : decode c pc = .ok (.lxor, 1) := dk0 _ rfl rfl h0
theorem op_133 {c : ByteArray} {pc : Nat} (h0 : rd c pc = some 133) : decode c pc = .ok (.i2l, 1) := dk0 _ rfl rfl h0
theorem op_136 {c : ByteArray} {pc : Nat} (h0 : rd c pc = some 136) : decode c pc = .ok (.l2i, 1) := dk0 _ rfl rfl h0
theorem op_145 {c : ByteArray} {pc : Nat} (h0 : rd c pc = some 145) : decode c pc = .ok (.i2b, 1) := dk0 _ rfl rfl h0
theorem op_146 {c : ByteArray} {pc : Nat} (h0 : rd c pc = some 146) : decode c pc = .ok (.i2c, 1) := dk0 _ rfl rfl h0
theorem op_148 {c : ByteArray} {pc : Nat} (h0 : rd c pc = some 148) : decode c pc = .ok (.lcmp, 1) := dk0 _ rfl rfl h0
theorem op_153 {c : ByteArray} {pc x y : Nat} (h0 : rd c pc = some 153) (h1 : rd c (pc + 1) = some x) (h2 : rd c (pc + 2) = some y) {z : Int} (hz : Reader.signed 16 (x * 256 + y) = z) : decode c pc = .ok (.ifCond .eq z, 3) := by rw [← hz]; exact dk2s (g := fun x => .ifCond .eq x) _ rfl rfl h0 h1 h2
theorem op_154 {c : ByteArray} {pc x y : Nat} (h0 : rd c pc = some 154) (h1 : rd c (pc + 1) = some x) (h2 : rd c (pc + 2) = some y) {z : Int} (hz : Reader.signed 16 (x * 256 + y) = z) : decode c pc = .ok (.ifCond .ne z, 3) := by rw [← hz]; exact dk2s (g := fun x => .ifCond .ne x) _ rfl rfl h0 h1 h2
theorem op_155 {c : ByteArray} {pc x y : Nat} (h0 : rd c pc = some 155) (h1 : rd c (pc + 1) = some x) (h2 : rd c (pc + 2) = some y) {z : Int} (hz : Reader.signed 16 (x * 256 + y) = z) : decode c pc = .ok (.ifCond .lt z, 3) := by rw [← hz]; exact dk2s (g := fun x => .ifCond .lt x) _ rfl rfl h0 h1 h2
theorem op_156 {c : ByteArray} {pc x y : Nat} (h0 : rd c pc = some 156) (h1 : rd c (pc + 1) = some x) (h2 : rd c (pc + 2) = some y) {z : Int} (hz : Reader.signed 16 (x * 256 + y) = z) : decode c pc = .ok (.ifCond .ge z, 3) := by rw [← hz]; exact dk2s (g := fun x => .ifCond .ge x) _ rfl rfl h0 h1 h2
theorem op_157 {c : ByteArray} {pc x y : Nat} (h0 : rd c pc = some 157) (h1 : rd c (pc + 1) = some x) (h2 : rd c (pc + 2) = some y) {z : Int} (hz : Reader.signed 16 (x * 256 + y) = z) : decode c pc = .ok (.ifCond .gt z, 3) := by rw [← hz]; exact dk2s (g := fun x => .ifCond .gt x) _ rfl rfl h0 h1 h2
theorem op_158 {c : ByteArray} {pc x y : Nat} (h0 : rd c pc = some 158) (h1 : rd c (pc + 1) = some x) (h2 : rd c (pc + 2) = some y) {z : Int} (hz : Reader.signed 16 (x * 256 + y) = z) : decode c pc = .ok (.ifCond .le z, 3) := by rw [← hz]; exact dk2s (g := fun x => .ifCond .le x) _ rfl rfl h0 h1 h2
theorem op_159 {c : ByteArray} {pc x y : Nat} (h0 : rd c pc = some 159) (h1 : rd c (pc + 1) = some x) (h2 : rd c (pc + 2) = some y) {z : Int} (hz : Reader.signed 16 (x * 256 + y) = z) : decode c pc = .ok (.if_icmp .eq z, 3) := by rw [← hz]; exact dk2s (g := fun x => .if_icmp .eq x) _ rfl rfl h0 h1 h2
theorem op_160 {c : ByteArray} {pc x y : Nat} (h0 : rd c pc = some 160) (h1 : rd c (pc + 1) = some x) (h2 : rd c (pc + 2) = some y) {z : Int} (hz : Reader.signed 16 (x * 256 + y) = z) : decode c pc = .ok (.if_icmp .ne z, 3) := by rw [← hz]; exact dk2s (g := fun x => .if_icmp .ne x) _ rfl rfl h0 h1 h2
theorem op_161 {c : ByteArray} {pc x y : Nat} (h0 : rd c pc = some 161) (h1 : rd c (pc + 1) = some x) (h2 : rd c (pc + 2) = some y) {z : Int} (hz : Reader.signed 16 (x * 256 + y) = z) : decode c pc = .ok (.if_icmp .lt z, 3) := by rw [← hz]; exact dk2s (g := fun x => .if_icmp .lt x) _ rfl rfl h0 h1 h2
theorem op_162 {c : ByteArray} {pc x y : Nat} (h0 : rd c pc = some 162) (h1 : rd c (pc + 1) = some x) (h2 : rd c (pc + 2) = some y) {z : Int} (hz : Reader.signed 16 (x * 256 + y) = z) : decode c pc = .ok (.if_icmp .ge z, 3) := by rw [← hz]; exact dk2s (g := fun x => .if_icmp .ge x) _ rfl rfl h0 h1 h2
theorem op_163 {c : ByteArray} {pc x y : Nat} (h0 : rd c pc = some 163) (h1 : rd c (pc + 1) = some x) (h2 : rd c (pc + 2) = some y) {z : Int} (hz : Reader.signed 16 (x * 256 + y) = z) : decode c pc = .ok (.if_icmp .gt z, 3) := by rw [← hz]; exact dk2s (g := fun x => .if_icmp .gt x) _ rfl rfl h0 h1 h2
theorem op_164 {c : ByteArray} {pc x y : Nat} (h0 : rd c pc = some 164) (h1 : rd c (pc + 1) = some x) (h2 : rd c (pc + 2) = some y) {z : Int} (hz : Reader.signed 16 (x * 256 + y) = z) : decode c pc = .ok (.if_icmp .le z, 3) := by rw [← hz]; exact dk2s (g := fun x => .if_icmp .le x) _ rfl rfl h0 h1 h2
theorem op_167 {c : ByteArray} {pc x y : Nat} (h0 : rd c pc = some 167) (h1 : rd c (pc + 1) = some x) (h2 : rd c (pc + 2) = some y) {z : Int} (hz : Reader.signed 16 (x * 256 + y) = z) : decode c pc = .ok (.goto z, 3) := by rw [← hz]; exact dk2s (g := fun x => .goto x) _ rfl rfl h0 h1 h2
theorem op_172 {c : ByteArray} {pc : Nat} (h0 : rd c pc = some 172) : decode c pc = .ok (.ireturn, 1) := dk0 _ rfl rfl h0
theorem op_173 {c : ByteArray} {pc : Nat} (h0 : rd c pc = some 173) : decode c pc = .ok (.lreturn, 1) := dk0 _ rfl rfl h0
theorem op_177 {c : ByteArray} {pc : Nat} (h0 : rd c pc = some 177) : decode c pc = .ok (.return_, 1) := dk0 _ rfl rfl h0
theorem op_178 {c : ByteArray} {pc x y : Nat} (h0 : rd c pc = some 178) (h1 : rd c (pc + 1) = some x) (h2 : rd c (pc + 2) = some y) : decode c pc = .ok (.getstatic (x * 256 + y), 3) := dk2 (g := fun x => .getstatic x) _ rfl rfl h0 h1 h2
theorem op_180 {c : ByteArray} {pc x y : Nat} (h0 : rd c pc = some 180) (h1 : rd c (pc + 1) = some x) (h2 : rd c (pc + 2) = some y) : decode c pc = .ok (.getfield (x * 256 + y), 3) := dk2 (g := fun x => .getfield x) _ rfl rfl h0 h1 h2
theorem op_181 {c : ByteArray} {pc x y : Nat} (h0 : rd c pc = some 181) (h1 : rd c (pc + 1) = some x) (h2 : rd c (pc + 2) = some y) : decode c pc = .ok (.putfield (x * 256 + y), 3) := dk2 (g := fun x => .putfield x) _ rfl rfl h0 h1 h2
theorem op_182 {c : ByteArray} {pc x y : Nat} (h0 : rd c pc = some 182) (h1 : rd c (pc + 1) = some x) (h2 : rd c (pc + 2) = some y) : decode c pc = .ok (.invokevirtual (x * 256 + y), 3) := dk2 (g := fun x => .invokevirtual x) _ rfl rfl h0 h1 h2
theorem op_183 {c : ByteArray} {pc x y : Nat} (h0 : rd c pc = some 183) (h1 : rd c (pc + 1) = some x) (h2 : rd c (pc + 2) = some y) : decode c pc = .ok (.invokespecial (x * 256 + y), 3) := dk2 (g := fun x => .invokespecial x) _ rfl rfl h0 h1 h2
theorem op_184 {c : ByteArray} {pc x y : Nat} (h0 : rd c pc = some 184) (h1 : rd c (pc + 1) = some x) (h2 : rd c (pc + 2) = some y) : decode c pc = .ok (.invokestatic (x * 256 + y), 3) := dk2 (g := fun x => .invokestatic x) _ rfl rfl h0 h1 h2
theorem op_187 {c : ByteArray} {pc x y : Nat} (h0 : rd c pc = some 187) (h1 : rd c (pc + 1) = some x) (h2 : rd c (pc + 2) = some y) : decode c pc = .ok (.new (x * 256 + y), 3) := dk2 (g := fun x => .new x) _ rfl rfl h0 h1 h2
theorem op_189 {c : ByteArray} {pc x y : Nat} (h0 : rd c pc = some 189) (h1 : rd c (pc + 1) = some x) (h2 : rd c (pc + 2) = some y) : decode c pc = .ok (.anewarray (x * 256 + y), 3) := dk2 (g := fun x => .anewarray x) _ rfl rfl h0 h1 h2
theorem op_190 {c : ByteArray} {pc : Nat} (h0 : rd c pc = some 190) : decode c pc = .ok (.arraylength, 1) := dk0 _ rfl rfl h0
theorem op_191 {c : ByteArray} {pc : Nat} (h0 : rd c pc = some 191) : decode c pc = .ok (.athrow, 1) := dk0 _ rfl rfl h0
end
