/-! ===== BEGIN words of one list among another's, by their places ===== -/
theorem goodIn_r {big : List Cond} (ws : List Cond) (ps : List Nat) (hp : ws = ps.filterMap (fun i => big[i]?)) (h : ws.all goodWord = true) : GoodIn big ws := by
  intro w hw
  have h1 := List.all_eq_true.mp h w hw
  rw [hp] at hw
  obtain ⟨i, -, hi⟩ := List.mem_filterMap.mp hw
  have hm : w ∈ big := by first | exact List.mem_of_getElem? hi | exact List.getElem?_mem hi
  exact ⟨hm, good_of_word h1⟩
theorem goodIn_app {big a b : List Cond} (ha : GoodIn big a) (hb : GoodIn big b) : GoodIn big (a ++ b) := fun w h => (List.mem_append.mp h).elim (ha w) (hb w)
theorem goodIn_ca {big a b : List Cond} {c : Cond} (ha : GoodIn big (c :: a)) (hb : GoodIn big b) : GoodIn big (c :: (a ++ b)) := fun w h => (List.mem_cons.mp h).elim (fun e => ha w (List.mem_cons.mpr (Or.inl e))) (fun h => (List.mem_append.mp h).elim (fun h => ha w (List.mem_cons.mpr (Or.inr h))) (hb w))
theorem goodIn_sub {big ws : List Cond} (hm : ∀ w ∈ ws, w ∈ big) (h : ws.all goodWord = true) : GoodIn big ws := fun w hw => ⟨hm w hw, good_of_word (List.all_eq_true.mp h w hw)⟩
/-! ===== END ===== -/

/-! ===== BEGIN printed: names, fields, word lists, decode rows ===== -/
def RX0 : String := "AlternateSigns$AllOfSize"
def TX0 : u_T := fun k => match k with
  | 0 => ("AlternateSigns$AllOfSize", "size", "I", true)
  | 1 => ("AlternateSigns$AllOfSize", "masks", "I", true)
  | 2 => ("AlternateSigns$AllOfSize", "endings", "[I", true)
  | 3 => ("AlternateSigns$AllOfSize", "areEndingsCounted", "Z", false)
  | 4 => ("AlternateSigns$AllOfSize", "codes", "[J", true)
  | 5 => ("AlternateSigns$AllOfSize", "tally", "[I", true)
  | _ => ("AlternateSigns$AllOfSize", "ways", "I", false)
def tyX0 : Nat → FieldType := fun k => match k with
  | 0 => .int
  | 1 => .int
  | 2 => .array .int
  | 3 => .boolean
  | 4 => .array .long
  | 5 => .array .int
  | _ => .int
abbrev wsX00 : List Cond := u_ws RX0 TX0 7
theorem nmX0 : ∀ a, a < 7 → ∀ b, b < 7 → a ≠ b → (TX0 a).2.1 ≠ (TX0 b).2.1 := by decide +kernel
theorem tyX0_ok : ∀ k, k < 7 → parseFieldDescriptor (TX0 k).2.2.1 = some (tyX0 k) := by decide +kernel
abbrev cX0_init : ByteArray := prog_2_method_1_code
def yX0_init : MethodName := ⟨RX0, "<init>", "(I)V"⟩
abbrev cX0_total : ByteArray := prog_2_method_2_code
def yX0_total : MethodName := ⟨RX0, "total", "()I"⟩
abbrev cX0_withFirstOne : ByteArray := prog_2_method_3_code
def yX0_withFirstOne : MethodName := ⟨RX0, "withFirstOne", "(I)I"⟩
abbrev cX0_rankOf : ByteArray := prog_2_method_4_code
def yX0_rankOf : MethodName := ⟨RX0, "rankOf", "(LAlternateSigns$Table;)I"⟩
abbrev cX0_put : ByteArray := prog_2_method_5_code
def yX0_put : MethodName := ⟨RX0, "put", "(ILAlternateSigns$Table;)V"⟩
abbrev cX0_sortByPartners : ByteArray := prog_2_method_6_code
def yX0_sortByPartners : MethodName := ⟨RX0, "sortByPartners", "(LAlternateSigns$Lines;LAlternateSigns$Table;)V"⟩
abbrev cX0_addToWay : ByteArray := prog_2_method_7_code
def yX0_addToWay : MethodName := ⟨RX0, "addToWay", "(J)V"⟩
abbrev cX0_wayOf : ByteArray := prog_2_method_8_code
def yX0_wayOf : MethodName := ⟨RX0, "wayOf", "(J)I"⟩
abbrev cX0_countEndings : ByteArray := prog_2_method_9_code
def yX0_countEndings : MethodName := ⟨RX0, "countEndings", "()V"⟩
abbrev cX0_endingsFrom : ByteArray := prog_2_method_10_code
def yX0_endingsFrom : MethodName := ⟨RX0, "endingsFrom", "(II)I"⟩
abbrev cX0_canFollow : ByteArray := prog_2_method_11_code
def yX0_canFollow : MethodName := ⟨RX0, "canFollow", "(II)Z"⟩
def RX1 : String := "AlternateSigns$Lines"
def TX1 : u_T := fun k => match k with
  | 0 => ("AlternateSigns$Lines", "partners", "[I", true)
  | 1 => ("AlternateSigns$Lines", "lengths", "[I", true)
  | 2 => ("AlternateSigns$Lines", "ringEdges", "I", false)
  | 3 => ("AlternateSigns$Lines", "rings", "I", false)
  | 4 => ("AlternateSigns$Lines", "size", "I", false)
  | 5 => ("AlternateSigns$Lines", "ends", "I", false)
  | 6 => ("AlternateSigns$Lines", "open", "[I", true)
  | 7 => ("AlternateSigns$Lines", "endAtRim", "[I", true)
  | 8 => ("AlternateSigns$Lines", "row", "I", false)
  | 9 => ("AlternateSigns$Lines", "column", "I", false)
  | _ => ("AlternateSigns$Lines", "side", "I", false)
def tyX1 : Nat → FieldType := fun k => match k with
  | 0 => .array .int
  | 1 => .array .int
  | 2 => .int
  | 3 => .int
  | 4 => .int
  | 5 => .int
  | 6 => .array .int
  | 7 => .array .int
  | 8 => .int
  | 9 => .int
  | _ => .int
abbrev wsX10 : List Cond := u_ws RX1 TX1 11
theorem nmX1 : ∀ a, a < 11 → ∀ b, b < 11 → a ≠ b → (TX1 a).2.1 ≠ (TX1 b).2.1 := by decide +kernel
theorem tyX1_ok : ∀ k, k < 11 → parseFieldDescriptor (TX1 k).2.2.1 = some (tyX1 k) := by decide +kernel
abbrev cX1_init : ByteArray := prog_3_method_1_code
def yX1_init : MethodName := ⟨RX1, "<init>", "()V"⟩
abbrev cX1_trace : ByteArray := prog_3_method_2_code
def yX1_trace : MethodName := ⟨RX1, "trace", "(LAlternateSigns$Table;)V"⟩
abbrev cX1_partnersCode : ByteArray := prog_3_method_3_code
def yX1_partnersCode : MethodName := ⟨RX1, "partnersCode", "()J"⟩
abbrev cX1_openPlaces : ByteArray := prog_3_method_4_code
def yX1_openPlaces : MethodName := ⟨RX1, "openPlaces", "(LAlternateSigns$Table;)V"⟩
abbrev cX1_numberEnds : ByteArray := prog_3_method_5_code
def yX1_numberEnds : MethodName := ⟨RX1, "numberEnds", "()V"⟩
abbrev cX1_standAtRim : ByteArray := prog_3_method_6_code
def yX1_standAtRim : MethodName := ⟨RX1, "standAtRim", "(II)V"⟩
abbrev cX1_rimPassed : ByteArray := prog_3_method_7_code
def yX1_rimPassed : MethodName := ⟨RX1, "rimPassed", "()I"⟩
abbrev cX1_isInside : ByteArray := prog_3_method_8_code
def yX1_isInside : MethodName := ⟨RX1, "isInside", "()Z"⟩
abbrev cX1_isOpen : ByteArray := prog_3_method_9_code
def yX1_isOpen : MethodName := ⟨RX1, "isOpen", "(I)Z"⟩
abbrev cX1_followLine : ByteArray := prog_3_method_10_code
def yX1_followLine : MethodName := ⟨RX1, "followLine", "(II)V"⟩
abbrev cX1_join : ByteArray := prog_3_method_11_code
def yX1_join : MethodName := ⟨RX1, "join", "(III)V"⟩
abbrev cX1_followRings : ByteArray := prog_3_method_12_code
def yX1_followRings : MethodName := ⟨RX1, "followRings", "()V"⟩
abbrev cX1_followRing : ByteArray := prog_3_method_13_code
def yX1_followRing : MethodName := ⟨RX1, "followRing", "(II)V"⟩
abbrev cX1_goOn : ByteArray := prog_3_method_14_code
def yX1_goOn : MethodName := ⟨RX1, "goOn", "()V"⟩
def RX2 : String := "AlternateSigns$Past"
def TX2 : u_T := fun k => match k with
  | 0 => ("AlternateSigns$Past", "tables", "[LAlternateSigns$Table;", true)
  | 1 => ("AlternateSigns$Past", "free", "I", false)
  | _ => ("AlternateSigns$Past", "held", "I", false)
def tyX2 : Nat → FieldType := fun k => match k with
  | 0 => .array (.object "AlternateSigns$Table")
  | 1 => .int
  | _ => .int
abbrev wsX20 : List Cond := u_ws RX2 TX2 3
theorem nmX2 : ∀ a, a < 3 → ∀ b, b < 3 → a ≠ b → (TX2 a).2.1 ≠ (TX2 b).2.1 := by decide +kernel
theorem tyX2_ok : ∀ k, k < 3 → parseFieldDescriptor (TX2 k).2.2.1 = some (tyX2 k) := by decide +kernel
abbrev cX2_init : ByteArray := prog_4_method_1_code
def yX2_init : MethodName := ⟨RX2, "<init>", "()V"⟩
abbrev cX2_remember : ByteArray := prog_4_method_2_code
def yX2_remember : MethodName := ⟨RX2, "remember", "(LAlternateSigns$Table;)V"⟩
abbrev cX2_giveBack : ByteArray := prog_4_method_3_code
def yX2_giveBack : MethodName := ⟨RX2, "giveBack", "(LAlternateSigns$Table;)V"⟩
abbrev cX2_forget : ByteArray := prog_4_method_4_code
def yX2_forget : MethodName := ⟨RX2, "forget", "()V"⟩
def RX3 : String := "AlternateSigns$Table"
def TX3 : u_T := fun k => match k with
  | 0 => ("AlternateSigns$Table", "size", "I", false)
  | _ => ("AlternateSigns$Table", "corners", "[I", true)
def tyX3 : Nat → FieldType := fun k => match k with
  | 0 => .int
  | _ => .array .int
abbrev wsX30 : List Cond := u_ws RX3 TX3 2
theorem nmX3 : ∀ a, a < 2 → ∀ b, b < 2 → a ≠ b → (TX3 a).2.1 ≠ (TX3 b).2.1 := by decide +kernel
theorem tyX3_ok : ∀ k, k < 2 → parseFieldDescriptor (TX3 k).2.2.1 = some (tyX3 k) := by decide +kernel
abbrev cX3_init : ByteArray := prog_5_method_1_code
def yX3_init : MethodName := ⟨RX3, "<init>", "()V"⟩
abbrev cX3_copy : ByteArray := prog_5_method_2_code
def yX3_copy : MethodName := ⟨RX3, "copy", "(LAlternateSigns$Table;)V"⟩
abbrev cX3_cornerAt : ByteArray := prog_5_method_3_code
def yX3_cornerAt : MethodName := ⟨RX3, "cornerAt", "(II)I"⟩
abbrev cX3_putCorner : ByteArray := prog_5_method_4_code
def yX3_putCorner : MethodName := ⟨RX3, "putCorner", "(III)V"⟩
abbrev cX3_heightAt : ByteArray := prog_5_method_5_code
def yX3_heightAt : MethodName := ⟨RX3, "heightAt", "(II)I"⟩
abbrev cX3_rowSum : ByteArray := prog_5_method_6_code
def yX3_rowSum : MethodName := ⟨RX3, "rowSum", "(II)I"⟩
abbrev cX3_columnSum : ByteArray := prog_5_method_7_code
def yX3_columnSum : MethodName := ⟨RX3, "columnSum", "(II)I"⟩
abbrev cX3_signAt : ByteArray := prog_5_method_8_code
def yX3_signAt : MethodName := ⟨RX3, "signAt", "(II)I"⟩
abbrev cX3_negatives : ByteArray := prog_5_method_9_code
def yX3_negatives : MethodName := ⟨RX3, "negatives", "()I"⟩
abbrev cX3_inversions : ByteArray := prog_5_method_10_code
def yX3_inversions : MethodName := ⟨RX3, "inversions", "()I"⟩
abbrev cX3_heightsTogether : ByteArray := prog_5_method_11_code
def yX3_heightsTogether : MethodName := ⟨RX3, "heightsTogether", "()I"⟩
abbrev cX3_flipKind : ByteArray := prog_5_method_12_code
def yX3_flipKind : MethodName := ⟨RX3, "flipKind", "(II)I"⟩
abbrev cX3_flippable : ByteArray := prog_5_method_13_code
def yX3_flippable : MethodName := ⟨RX3, "flippable", "()I"⟩
abbrev cX3_flipAt : ByteArray := prog_5_method_14_code
def yX3_flipAt : MethodName := ⟨RX3, "flipAt", "(II)V"⟩
abbrev cX3_gyrateOnce : ByteArray := prog_5_method_15_code
def yX3_gyrateOnce : MethodName := ⟨RX3, "gyrateOnce", "()I"⟩
abbrev cX3_flipAll : ByteArray := prog_5_method_16_code
def yX3_flipAll : MethodName := ⟨RX3, "flipAll", "(I)I"⟩
abbrev cX3_distance : ByteArray := prog_5_method_17_code
def yX3_distance : MethodName := ⟨RX3, "distance", "(LAlternateSigns$Table;)I"⟩
abbrev cX3_wayTo : ByteArray := prog_5_method_18_code
def yX3_wayTo : MethodName := ⟨RX3, "wayTo", "(LAlternateSigns$Table;II)I"⟩
abbrev cX3_comesNearer : ByteArray := prog_5_method_19_code
def yX3_comesNearer : MethodName := ⟨RX3, "comesNearer", "(IILAlternateSigns$Table;)Z"⟩
abbrev cX3_takeHeights : ByteArray := prog_5_method_20_code
def yX3_takeHeights : MethodName := ⟨RX3, "takeHeights", "(ILAlternateSigns$Table;)I"⟩
abbrev cX3_putTurned : ByteArray := prog_5_method_21_code
def yX3_putTurned : MethodName := ⟨RX3, "putTurned", "(ILAlternateSigns$Table;)V"⟩
abbrev cX3_turnedSign : ByteArray := prog_5_method_22_code
def yX3_turnedSign : MethodName := ⟨RX3, "turnedSign", "(III)I"⟩
abbrev cX3_unlikeSigns : ByteArray := prog_5_method_23_code
def yX3_unlikeSigns : MethodName := ⟨RX3, "unlikeSigns", "(LAlternateSigns$Table;)I"⟩
abbrev cX3_isDrawnAcross : ByteArray := prog_5_method_24_code
def yX3_isDrawnAcross : MethodName := ⟨RX3, "isDrawnAcross", "(II)Z"⟩
abbrev cX3_isDrawnDown : ByteArray := prog_5_method_25_code
def yX3_isDrawnDown : MethodName := ⟨RX3, "isDrawnDown", "(II)Z"⟩
abbrev cX3_drawnEdges : ByteArray := prog_5_method_26_code
def yX3_drawnEdges : MethodName := ⟨RX3, "drawnEdges", "()I"⟩
abbrev cX3_fullColumns : ByteArray := prog_5_method_27_code
def yX3_fullColumns : MethodName := ⟨RX3, "fullColumns", "(I)I"⟩
abbrev cX3_putFullColumns : ByteArray := prog_5_method_28_code
def yX3_putFullColumns : MethodName := ⟨RX3, "putFullColumns", "(II)V"⟩
def RX4 : String := "AlternateSigns$Text"
def TX4 : u_T := fun k => match k with
  | 0 => ("AlternateSigns$Text", "letters", "[C", true)
  | 1 => ("AlternateSigns$Text", "length", "I", false)
  | 2 => ("AlternateSigns$Text", "draft", "LAlternateSigns$Table;", true)
  | 3 => ("AlternateSigns$Text", "rowsEnded", "I", false)
  | 4 => ("AlternateSigns$Text", "rowLength", "I", false)
  | _ => ("AlternateSigns$Text", "rowSum", "I", false)
def tyX4 : Nat → FieldType := fun k => match k with
  | 0 => .array .char
  | 1 => .int
  | 2 => .object "AlternateSigns$Table"
  | 3 => .int
  | 4 => .int
  | _ => .int
abbrev wsX40 : List Cond := u_ws RX4 TX4 6
theorem nmX4 : ∀ a, a < 6 → ∀ b, b < 6 → a ≠ b → (TX4 a).2.1 ≠ (TX4 b).2.1 := by decide +kernel
theorem tyX4_ok : ∀ k, k < 6 → parseFieldDescriptor (TX4 k).2.2.1 = some (tyX4 k) := by decide +kernel
abbrev cX4_init : ByteArray := prog_6_method_1_code
def yX4_init : MethodName := ⟨RX4, "<init>", "()V"⟩
abbrev cX4_add : ByteArray := prog_6_method_2_code
def yX4_add : MethodName := ⟨RX4, "add", "(C)V"⟩
abbrev cX4_firstFault : ByteArray := prog_6_method_3_code
def yX4_firstFault : MethodName := ⟨RX4, "firstFault", "()I"⟩
abbrev cX4_startRow : ByteArray := prog_6_method_4_code
def yX4_startRow : MethodName := ⟨RX4, "startRow", "()V"⟩
abbrev cX4_isWhole : ByteArray := prog_6_method_5_code
def yX4_isWhole : MethodName := ⟨RX4, "isWhole", "()Z"⟩
abbrev cX4_canStand : ByteArray := prog_6_method_6_code
def yX4_canStand : MethodName := ⟨RX4, "canStand", "(C)Z"⟩
abbrev cX4_canPut : ByteArray := prog_6_method_7_code
def yX4_canPut : MethodName := ⟨RX4, "canPut", "(I)Z"⟩
abbrev cX4_canEndRow : ByteArray := prog_6_method_8_code
def yX4_canEndRow : MethodName := ⟨RX4, "canEndRow", "()Z"⟩
def RX5 : String := "AlternateSigns"
def TX5 : u_T := fun k => match k with
  | 0 => ("AlternateSigns", "text", "LAlternateSigns$Text;", true)
  | 1 => ("AlternateSigns", "table", "LAlternateSigns$Table;", true)
  | 2 => ("AlternateSigns", "other", "LAlternateSigns$Table;", true)
  | 3 => ("AlternateSigns", "spare", "LAlternateSigns$Table;", true)
  | 4 => ("AlternateSigns", "past", "LAlternateSigns$Past;", true)
  | 5 => ("AlternateSigns", "lines", "LAlternateSigns$Lines;", true)
  | _ => ("AlternateSigns", "sizes", "[LAlternateSigns$AllOfSize;", true)
def tyX5 : Nat → FieldType := fun k => match k with
  | 0 => .object "AlternateSigns$Text"
  | 1 => .object "AlternateSigns$Table"
  | 2 => .object "AlternateSigns$Table"
  | 3 => .object "AlternateSigns$Table"
  | 4 => .object "AlternateSigns$Past"
  | 5 => .object "AlternateSigns$Lines"
  | _ => .array (.object "AlternateSigns$AllOfSize")
abbrev wsX50 : List Cond := u_ws RX5 TX5 7
theorem nmX5 : ∀ a, a < 7 → ∀ b, b < 7 → a ≠ b → (TX5 a).2.1 ≠ (TX5 b).2.1 := by decide +kernel
theorem tyX5_ok : ∀ k, k < 7 → parseFieldDescriptor (TX5 k).2.2.1 = some (tyX5 k) := by decide +kernel
abbrev cX5_init : ByteArray := prog_1_method_1_code
def yX5_init : MethodName := ⟨RX5, "<init>", "()V"⟩
abbrev cX5_write : ByteArray := prog_1_method_2_code
def yX5_write : MethodName := ⟨RX5, "write", "(I)I"⟩
abbrev cX5_wipe : ByteArray := prog_1_method_3_code
def yX5_wipe : MethodName := ⟨RX5, "wipe", "()I"⟩
abbrev cX5_fault : ByteArray := prog_1_method_4_code
def yX5_fault : MethodName := ⟨RX5, "fault", "()I"⟩
abbrev cX5_lay : ByteArray := prog_1_method_5_code
def yX5_lay : MethodName := ⟨RX5, "lay", "()I"⟩
abbrev cX5_take : ByteArray := prog_1_method_6_code
def yX5_take : MethodName := ⟨RX5, "take", "(II)I"⟩
abbrev cX5_undo : ByteArray := prog_1_method_7_code
def yX5_undo : MethodName := ⟨RX5, "undo", "()I"⟩
abbrev cX5_keep : ByteArray := prog_1_method_8_code
def yX5_keep : MethodName := ⟨RX5, "keep", "()I"⟩
abbrev cX5_sign : ByteArray := prog_1_method_9_code
def yX5_sign : MethodName := ⟨RX5, "sign", "(II)I"⟩
abbrev cX5_corner : ByteArray := prog_1_method_10_code
def yX5_corner : MethodName := ⟨RX5, "corner", "(II)I"⟩
abbrev cX5_height : ByteArray := prog_1_method_11_code
def yX5_height : MethodName := ⟨RX5, "height", "(II)I"⟩
abbrev cX5_may : ByteArray := prog_1_method_12_code
def yX5_may : MethodName := ⟨RX5, "may", "(II)I"⟩
abbrev cX5_count : ByteArray := prog_1_method_13_code
def yX5_count : MethodName := ⟨RX5, "count", "(I)I"⟩
abbrev cX5_flip : ByteArray := prog_1_method_14_code
def yX5_flip : MethodName := ⟨RX5, "flip", "(II)I"⟩
abbrev cX5_gyrate : ByteArray := prog_1_method_15_code
def yX5_gyrate : MethodName := ⟨RX5, "gyrate", "(I)I"⟩
abbrev cX5_orbit : ByteArray := prog_1_method_16_code
def yX5_orbit : MethodName := ⟨RX5, "orbit", "()I"⟩
abbrev cX5_apart : ByteArray := prog_1_method_17_code
def yX5_apart : MethodName := ⟨RX5, "apart", "()I"⟩
abbrev cX5_next : ByteArray := prog_1_method_18_code
def yX5_next : MethodName := ⟨RX5, "next", "()I"⟩
abbrev cX5_both : ByteArray := prog_1_method_19_code
def yX5_both : MethodName := ⟨RX5, "both", "(I)I"⟩
abbrev cX5_turn : ByteArray := prog_1_method_20_code
def yX5_turn : MethodName := ⟨RX5, "turn", "(I)I"⟩
abbrev cX5_across : ByteArray := prog_1_method_21_code
def yX5_across : MethodName := ⟨RX5, "across", "(II)I"⟩
abbrev cX5_down : ByteArray := prog_1_method_22_code
def yX5_down : MethodName := ⟨RX5, "down", "(II)I"⟩
abbrev cX5_partner : ByteArray := prog_1_method_23_code
def yX5_partner : MethodName := ⟨RX5, "partner", "(I)I"⟩
abbrev cX5_line : ByteArray := prog_1_method_24_code
def yX5_line : MethodName := ⟨RX5, "line", "(I)I"⟩
abbrev cX5_rank : ByteArray := prog_1_method_25_code
def yX5_rank : MethodName := ⟨RX5, "rank", "()I"⟩
abbrev cX5_many : ByteArray := prog_1_method_26_code
def yX5_many : MethodName := ⟨RX5, "many", "(II)I"⟩
abbrev cX5_alike : ByteArray := prog_1_method_27_code
def yX5_alike : MethodName := ⟨RX5, "alike", "()I"⟩
abbrev cX5_ways : ByteArray := prog_1_method_28_code
def yX5_ways : MethodName := ⟨RX5, "ways", "(II)I"⟩
abbrev cX5_isBetween : ByteArray := prog_1_method_29_code
def yX5_isBetween : MethodName := ⟨RX5, "isBetween", "(III)Z"⟩
abbrev cX5_isSize : ByteArray := prog_1_method_30_code
def yX5_isSize : MethodName := ⟨RX5, "isSize", "(I)Z"⟩
abbrev cX5_isCorner : ByteArray := prog_1_method_31_code
def yX5_isCorner : MethodName := ⟨RX5, "isCorner", "(II)Z"⟩
abbrev cX5_isInner : ByteArray := prog_1_method_32_code
def yX5_isInner : MethodName := ⟨RX5, "isInner", "(II)Z"⟩
abbrev cX5_hasLikeOther : ByteArray := prog_1_method_33_code
def yX5_hasLikeOther : MethodName := ⟨RX5, "hasLikeOther", "()Z"⟩
def RX6 : String := "AlternateSignsModel"
def TX6 : u_T := fun k => match k with
  | 0 => ("AlternateSignsModel", "length", "I", false)
  | 1 => ("AlternateSignsModel", "text", "[I", true)
  | 2 => ("AlternateSignsModel", "size", "I", false)
  | 3 => ("AlternateSignsModel", "sign", "[I", true)
  | 4 => ("AlternateSignsModel", "otherSize", "I", false)
  | 5 => ("AlternateSignsModel", "other", "[I", true)
  | 6 => ("AlternateSignsModel", "before", "[I", true)
  | 7 => ("AlternateSignsModel", "undoMany", "I", false)
  | 8 => ("AlternateSignsModel", "readSize", "I", false)
  | 9 => ("AlternateSignsModel", "read", "[I", true)
  | 10 => ("AlternateSignsModel", "side", "[I", true)
  | 11 => ("AlternateSignsModel", "tall", "[I", true)
  | 12 => ("AlternateSignsModel", "endRow", "[I", true)
  | 13 => ("AlternateSignsModel", "endColumn", "[I", true)
  | 14 => ("AlternateSignsModel", "endSide", "[I", true)
  | 15 => ("AlternateSignsModel", "gone", "[Z", true)
  | 16 => ("AlternateSignsModel", "lineRow", "I", false)
  | 17 => ("AlternateSignsModel", "lineColumn", "I", false)
  | 18 => ("AlternateSignsModel", "lineSide", "I", false)
  | 19 => ("AlternateSignsModel", "lineMany", "I", false)
  | 20 => ("AlternateSignsModel", "ways", "[I", true)
  | 21 => ("AlternateSignsModel", "codes", "[J", true)
  | _ => ("AlternateSignsModel", "many", "[I", true)
def tyX6 : Nat → FieldType := fun k => match k with
  | 0 => .int
  | 1 => .array .int
  | 2 => .int
  | 3 => .array .int
  | 4 => .int
  | 5 => .array .int
  | 6 => .array .int
  | 7 => .int
  | 8 => .int
  | 9 => .array .int
  | 10 => .array .int
  | 11 => .array .int
  | 12 => .array .int
  | 13 => .array .int
  | 14 => .array .int
  | 15 => .array .boolean
  | 16 => .int
  | 17 => .int
  | 18 => .int
  | 19 => .int
  | 20 => .array .int
  | 21 => .array .long
  | _ => .array .int
abbrev wsX60 : List Cond := u_ws RX6 TX6 23
theorem nmX6 : ∀ a, a < 23 → ∀ b, b < 23 → a ≠ b → (TX6 a).2.1 ≠ (TX6 b).2.1 := by decide +kernel
theorem tyX6_ok : ∀ k, k < 23 → parseFieldDescriptor (TX6 k).2.2.1 = some (tyX6 k) := by decide +kernel
abbrev cX6_init : ByteArray := prog_8_method_1_code
def yX6_init : MethodName := ⟨RX6, "<init>", "()V"⟩
abbrev cX6_in : ByteArray := prog_8_method_2_code
def yX6_in : MethodName := ⟨RX6, "in", "(JJJ)Z"⟩
abbrev cX6_write : ByteArray := prog_8_method_4_code
def yX6_write : MethodName := ⟨RX6, "write", "(I)I"⟩
abbrev cX6_wipe : ByteArray := prog_8_method_5_code
def yX6_wipe : MethodName := ⟨RX6, "wipe", "()I"⟩
abbrev cX6_fault : ByteArray := prog_8_method_6_code
def yX6_fault : MethodName := ⟨RX6, "fault", "()I"⟩
abbrev cX6_lay : ByteArray := prog_8_method_7_code
def yX6_lay : MethodName := ⟨RX6, "lay", "()I"⟩
abbrev cX6_copy : ByteArray := prog_8_method_8_code
def yX6_copy : MethodName := ⟨RX6, "copy", "([I[I)V"⟩
abbrev cX6_note : ByteArray := prog_8_method_9_code
def yX6_note : MethodName := ⟨RX6, "note", "()V"⟩
abbrev cX6_undo : ByteArray := prog_8_method_10_code
def yX6_undo : MethodName := ⟨RX6, "undo", "()I"⟩
abbrev cX6_keep : ByteArray := prog_8_method_11_code
def yX6_keep : MethodName := ⟨RX6, "keep", "()I"⟩
abbrev cX6_sign : ByteArray := prog_8_method_12_code
def yX6_sign : MethodName := ⟨RX6, "sign", "(II)I"⟩
abbrev cX6_cornerOf : ByteArray := prog_8_method_13_code
def yX6_cornerOf : MethodName := ⟨RX6, "cornerOf", "([III)I"⟩
abbrev cX6_heightOf : ByteArray := prog_8_method_14_code
def yX6_heightOf : MethodName := ⟨RX6, "heightOf", "([III)I"⟩
abbrev cX6_isCorner : ByteArray := prog_8_method_15_code
def yX6_isCorner : MethodName := ⟨RX6, "isCorner", "(II)Z"⟩
abbrev cX6_corner : ByteArray := prog_8_method_16_code
def yX6_corner : MethodName := ⟨RX6, "corner", "(II)I"⟩
abbrev cX6_height : ByteArray := prog_8_method_17_code
def yX6_height : MethodName := ⟨RX6, "height", "(II)I"⟩
abbrev cX6_mayBe : ByteArray := prog_8_method_18_code
def yX6_mayBe : MethodName := ⟨RX6, "mayBe", "([III)I"⟩
abbrev cX6_isInner : ByteArray := prog_8_method_19_code
def yX6_isInner : MethodName := ⟨RX6, "isInner", "(II)Z"⟩
abbrev cX6_may : ByteArray := prog_8_method_20_code
def yX6_may : MethodName := ⟨RX6, "may", "(II)I"⟩
abbrev cX6_flips : ByteArray := prog_8_method_21_code
def yX6_flips : MethodName := ⟨RX6, "flips", "([III)Z"⟩
abbrev cX6_flip : ByteArray := prog_8_method_22_code
def yX6_flip : MethodName := ⟨RX6, "flip", "(II)I"⟩
abbrev cX6_gyrates : ByteArray := prog_8_method_23_code
def yX6_gyrates : MethodName := ⟨RX6, "gyrates", "([I)I"⟩
abbrev cX6_gyrate : ByteArray := prog_8_method_24_code
def yX6_gyrate : MethodName := ⟨RX6, "gyrate", "(I)I"⟩
abbrev cX6_isOwn : ByteArray := prog_8_method_25_code
def yX6_isOwn : MethodName := ⟨RX6, "isOwn", "([I)Z"⟩
abbrev cX6_orbit : ByteArray := prog_8_method_26_code
def yX6_orbit : MethodName := ⟨RX6, "orbit", "()I"⟩
abbrev cX6_far : ByteArray := prog_8_method_27_code
def yX6_far : MethodName := ⟨RX6, "far", "(I)I"⟩
abbrev cX6_apart : ByteArray := prog_8_method_28_code
def yX6_apart : MethodName := ⟨RX6, "apart", "()I"⟩
abbrev cX6_next : ByteArray := prog_8_method_29_code
def yX6_next : MethodName := ⟨RX6, "next", "()I"⟩
abbrev cX6_both : ByteArray := prog_8_method_30_code
def yX6_both : MethodName := ⟨RX6, "both", "(I)I"⟩
abbrev cX6_turn : ByteArray := prog_8_method_31_code
def yX6_turn : MethodName := ⟨RX6, "turn", "(I)I"⟩
abbrev cX6_isAcross : ByteArray := prog_8_method_32_code
def yX6_isAcross : MethodName := ⟨RX6, "isAcross", "([III)Z"⟩
abbrev cX6_isDown : ByteArray := prog_8_method_33_code
def yX6_isDown : MethodName := ⟨RX6, "isDown", "([III)Z"⟩
abbrev cX6_across : ByteArray := prog_8_method_34_code
def yX6_across : MethodName := ⟨RX6, "across", "(II)I"⟩
abbrev cX6_down : ByteArray := prog_8_method_35_code
def yX6_down : MethodName := ⟨RX6, "down", "(II)I"⟩
abbrev cX6_isDrawn : ByteArray := prog_8_method_36_code
def yX6_isDrawn : MethodName := ⟨RX6, "isDrawn", "([IIII)Z"⟩
abbrev cX6_findEnds : ByteArray := prog_8_method_37_code
def yX6_findEnds : MethodName := ⟨RX6, "findEnds", "([II)V"⟩
abbrev cX6_goesOn : ByteArray := prog_8_method_38_code
def yX6_goesOn : MethodName := ⟨RX6, "goesOn", "([II)Z"⟩
abbrev cX6_goes : ByteArray := prog_8_method_39_code
def yX6_goes : MethodName := ⟨RX6, "goes", "([III)I"⟩
abbrev cX6_isEnd : ByteArray := prog_8_method_40_code
def yX6_isEnd : MethodName := ⟨RX6, "isEnd", "(I)Z"⟩
abbrev cX6_partner : ByteArray := prog_8_method_41_code
def yX6_partner : MethodName := ⟨RX6, "partner", "(I)I"⟩
abbrev cX6_line : ByteArray := prog_8_method_42_code
def yX6_line : MethodName := ⟨RX6, "line", "(I)I"⟩
abbrev cX6_drawn : ByteArray := prog_8_method_43_code
def yX6_drawn : MethodName := ⟨RX6, "drawn", "()I"⟩
abbrev cX6_rings : ByteArray := prog_8_method_44_code
def yX6_rings : MethodName := ⟨RX6, "rings", "(I)I"⟩
abbrev cX6_ring : ByteArray := prog_8_method_45_code
def yX6_ring : MethodName := ⟨RX6, "ring", "(II)I"⟩
abbrev cX6_signOf : ByteArray := prog_8_method_46_code
def yX6_signOf : MethodName := ⟨RX6, "signOf", "(III)I"⟩
abbrev cX6_leads : ByteArray := prog_8_method_47_code
def yX6_leads : MethodName := ⟨RX6, "leads", "(III)Z"⟩
abbrev cX6_findWays : ByteArray := prog_8_method_48_code
def yX6_findWays : MethodName := ⟨RX6, "findWays", "(I)I"⟩
abbrev cX6_isAhead : ByteArray := prog_8_method_49_code
def yX6_isAhead : MethodName := ⟨RX6, "isAhead", "(III)Z"⟩
abbrev cX6_aheadOf : ByteArray := prog_8_method_50_code
def yX6_aheadOf : MethodName := ⟨RX6, "aheadOf", "(IIII)I"⟩
abbrev cX6_rank : ByteArray := prog_8_method_51_code
def yX6_rank : MethodName := ⟨RX6, "rank", "()I"⟩
abbrev cX6_unrank : ByteArray := prog_8_method_52_code
def yX6_unrank : MethodName := ⟨RX6, "unrank", "(II[I)V"⟩
abbrev cX6_isRow : ByteArray := prog_8_method_53_code
def yX6_isRow : MethodName := ⟨RX6, "isRow", "(IIIII)Z"⟩
abbrev cX6_take : ByteArray := prog_8_method_54_code
def yX6_take : MethodName := ⟨RX6, "take", "(II)I"⟩
abbrev cX6_many : ByteArray := prog_8_method_55_code
def yX6_many : MethodName := ⟨RX6, "many", "(II)I"⟩
abbrev cX6_partners : ByteArray := prog_8_method_56_code
def yX6_partners : MethodName := ⟨RX6, "partners", "([II)J"⟩
abbrev cX6_alike : ByteArray := prog_8_method_57_code
def yX6_alike : MethodName := ⟨RX6, "alike", "()I"⟩
abbrev cX6_ways : ByteArray := prog_8_method_58_code
def yX6_ways : MethodName := ⟨RX6, "ways", "(II)I"⟩
abbrev cX6_inversions : ByteArray := prog_8_method_59_code
def yX6_inversions : MethodName := ⟨RX6, "inversions", "()I"⟩
abbrev cX6_sums : ByteArray := prog_8_method_60_code
def yX6_sums : MethodName := ⟨RX6, "sums", "(I)I"⟩
abbrev cX6_count : ByteArray := prog_8_method_61_code
def yX6_count : MethodName := ⟨RX6, "count", "(I)I"⟩
def RJ6 : String := "java/lang/Integer"
def TJ6 : u_T := fun k => match k with
  | _ => ("", "", "", false)
def tyJ6 : Nat → FieldType := fun k => match k with
  | _ => .int
abbrev wsJ60 : List Cond := u_ws RJ6 TJ6 0
theorem nmJ6 : ∀ a, a < 0 → ∀ b, b < 0 → a ≠ b → (TJ6 a).2.1 ≠ (TJ6 b).2.1 := by decide +kernel
theorem tyJ6_ok : ∀ k, k < 0 → parseFieldDescriptor (TJ6 k).2.2.1 = some (tyJ6 k) := by decide +kernel
abbrev cJ6_bitCount_0f7a4 : ByteArray := prog_9_method_49_code
def yJ6_bitCount_0f7a4 : MethodName := ⟨RJ6, "bitCount", "(I)I"⟩
def RJ9 : String := "java/lang/Math"
def TJ9 : u_T := fun k => match k with
  | _ => ("", "", "", false)
def tyJ9 : Nat → FieldType := fun k => match k with
  | _ => .int
abbrev wsJ90 : List Cond := u_ws RJ9 TJ9 0
theorem nmJ9 : ∀ a, a < 0 → ∀ b, b < 0 → a ≠ b → (TJ9 a).2.1 ≠ (TJ9 b).2.1 := by decide +kernel
theorem tyJ9_ok : ∀ k, k < 0 → parseFieldDescriptor (TJ9 k).2.2.1 = some (tyJ9 k) := by decide +kernel
abbrev cJ9_abs_0f7a4 : ByteArray := prog_10_method_59_code
def yJ9_abs_0f7a4 : MethodName := ⟨RJ9, "abs", "(I)I"⟩
abbrev cJ9_min_7cf53 : ByteArray := prog_10_method_69_code
def yJ9_min_7cf53 : MethodName := ⟨RJ9, "min", "(II)I"⟩
def RJ0 : String := "java/lang/String"
def TJ0 : u_T := fun k => match k with
  | _ => ("", "", "", false)
def tyJ0 : Nat → FieldType := fun k => match k with
  | _ => .int
abbrev wsJ00 : List Cond := u_ws RJ0 TJ0 0
theorem nmJ0 : ∀ a, a < 0 → ∀ b, b < 0 → a ≠ b → (TJ0 a).2.1 ≠ (TJ0 b).2.1 := by decide +kernel
theorem tyJ0_ok : ∀ k, k < 0 → parseFieldDescriptor (TJ0 k).2.2.1 = some (tyJ0 k) := by decide +kernel
abbrev cJ0_length_8abf5 : ByteArray := prog_11_method_54_code
def yJ0_length_8abf5 : MethodName := ⟨RJ0, "length", "()I"⟩
abbrev cJ0_charAt_5068e : ByteArray := prog_11_method_56_code
def yJ0_charAt_5068e : MethodName := ⟨RJ0, "charAt", "(I)C"⟩
abbrev cJ0_coder_7d493 : ByteArray := prog_11_method_152_code
def yJ0_coder_7d493 : MethodName := ⟨RJ0, "coder", "()B"⟩
abbrev cJ0_isLatin1_aae02 : ByteArray := prog_11_method_154_code
def yJ0_isLatin1_aae02 : MethodName := ⟨RJ0, "isLatin1", "()Z"⟩
abbrev cJ0_checkIndex_df160 : ByteArray := prog_11_method_155_code
def yJ0_checkIndex_df160 : MethodName := ⟨RJ0, "checkIndex", "(II)V"⟩
def RJ1 : String := "java/lang/StringLatin1"
def TJ1 : u_T := fun k => match k with
  | _ => ("", "", "", false)
def tyJ1 : Nat → FieldType := fun k => match k with
  | _ => .int
abbrev wsJ10 : List Cond := u_ws RJ1 TJ1 0
theorem nmJ1 : ∀ a, a < 0 → ∀ b, b < 0 → a ≠ b → (TJ1 a).2.1 ≠ (TJ1 b).2.1 := by decide +kernel
theorem tyJ1_ok : ∀ k, k < 0 → parseFieldDescriptor (TJ1 k).2.2.1 = some (tyJ1 k) := by decide +kernel
abbrev cJ1_charAt_3b067 : ByteArray := prog_12_method_2_code
def yJ1_charAt_3b067 : MethodName := ⟨RJ1, "charAt", "([BI)C"⟩
def RJ2 : String := "java/lang/StringUTF16"
def TJ2 : u_T := fun k => match k with
  | _ => ("", "", "", false)
def tyJ2 : Nat → FieldType := fun k => match k with
  | _ => .int
abbrev wsJ20 : List Cond := u_ws RJ2 TJ2 0
theorem nmJ2 : ∀ a, a < 0 → ∀ b, b < 0 → a ≠ b → (TJ2 a).2.1 ≠ (TJ2 b).2.1 := by decide +kernel
theorem tyJ2_ok : ∀ k, k < 0 → parseFieldDescriptor (TJ2 k).2.2.1 = some (tyJ2 k) := by decide +kernel
abbrev cJ2_getChar_3b067 : ByteArray := prog_13_method_5_code
def yJ2_getChar_3b067 : MethodName := ⟨RJ2, "getChar", "([BI)C"⟩
abbrev cJ2_length_9d52b : ByteArray := prog_13_method_6_code
def yJ2_length_9d52b : MethodName := ⟨RJ2, "length", "([B)I"⟩
abbrev cJ2_charAt_3b067 : ByteArray := prog_13_method_83_code
def yJ2_charAt_3b067 : MethodName := ⟨RJ2, "charAt", "([BI)C"⟩
abbrev cJ2_checkIndex_2214a : ByteArray := prog_13_method_91_code
def yJ2_checkIndex_2214a : MethodName := ⟨RJ2, "checkIndex", "(I[B)V"⟩
def RJ10 : String := "java/lang/System"
def TJ10 : u_T := fun k => match k with
  | _ => ("", "", "", false)
def tyJ10 : Nat → FieldType := fun k => match k with
  | _ => .int
abbrev wsJ100 : List Cond := u_ws RJ10 TJ10 0
theorem nmJ10 : ∀ a, a < 0 → ∀ b, b < 0 → a ≠ b → (TJ10 a).2.1 ≠ (TJ10 b).2.1 := by decide +kernel
theorem tyJ10_ok : ∀ k, k < 0 → parseFieldDescriptor (TJ10 k).2.2.1 = some (tyJ10 k) := by decide +kernel
def RJ3 : String := "jdk/internal/util/Preconditions"
def TJ3 : u_T := fun k => match k with
  | _ => ("", "", "", false)
def tyJ3 : Nat → FieldType := fun k => match k with
  | _ => .int
abbrev wsJ30 : List Cond := u_ws RJ3 TJ3 0
theorem nmJ3 : ∀ a, a < 0 → ∀ b, b < 0 → a ≠ b → (TJ3 a).2.1 ≠ (TJ3 b).2.1 := by decide +kernel
theorem tyJ3_ok : ∀ k, k < 0 → parseFieldDescriptor (TJ3 k).2.2.1 = some (tyJ3 k) := by decide +kernel
abbrev cJ3_checkIndex_8e157 : ByteArray := prog_15_method_11_code
def yJ3_checkIndex_8e157 : MethodName := ⟨RJ3, "checkIndex", "(IILjava/util/function/BiFunction;)I"⟩
def RL : String := "AlternateSignsLaw"
abbrev cL_law : ByteArray := code
def yL_law : MethodName := ⟨RL, "law", "([I)Z"⟩
def wsX0_init : List Cond := .code yX0_init cX0_init 2 none :: ([.methodLink RX0 3 objectInit, .instanceMethod objectInit, .code objectInit ⟨#[0xb1]⟩ 1 none, .arrayClass .int, .fieldLink RX0 9 "AlternateSigns$AllOfSize" "endings" "[I", .arrayClass .long, .fieldLink RX0 15 "AlternateSigns$AllOfSize" "codes" "[J", .fieldLink RX0 19 "AlternateSigns$AllOfSize" "tally" "[I", .fieldLink RX0 22 "AlternateSigns$AllOfSize" "size" "I", .fieldLink RX0 26 "AlternateSigns$AllOfSize" "masks" "I"] ++ wsX00)
def wsJ6_bitCount_0f7a4 : List Cond := .code yJ6_bitCount_0f7a4 cJ6_bitCount_0f7a4 1 (some .int) :: ([.constant RJ6 265 (1431655765), .constant RJ6 266 (858993459), .constant RJ6 267 (252645135)])
def wsX0_canFollow : List Cond := .code yX0_canFollow cX0_canFollow 5 (some .boolean) :: ([.fieldLink RX0 22 "AlternateSigns$AllOfSize" "size" "I"] ++ wsX00)
def wsX0_endingsFrom : List Cond := .code yX0_endingsFrom cX0_endingsFrom 5 (some .int) :: ([.fieldLink RX0 26 "AlternateSigns$AllOfSize" "masks" "I", .fieldLink RX0 9 "AlternateSigns$AllOfSize" "endings" "[I", .methodLink RX0 43 yX0_canFollow, .instanceMethod yX0_canFollow, .selects RX0 yX0_canFollow yX0_canFollow, .initialized RX0, .code yX0_canFollow cX0_canFollow 5 (some .boolean), .fieldLink RX0 22 "AlternateSigns$AllOfSize" "size" "I"] ++ wsX00)
def wsX0_countEndings : List Cond := .code yX0_countEndings cX0_countEndings 3 none :: ([.fieldLink RX0 80 "AlternateSigns$AllOfSize" "areEndingsCounted" "Z", .fieldLink RX0 9 "AlternateSigns$AllOfSize" "endings" "[I", .fieldLink RX0 26 "AlternateSigns$AllOfSize" "masks" "I", .fieldLink RX0 22 "AlternateSigns$AllOfSize" "size" "I", .methodLink RX0 84 yJ6_bitCount_0f7a4, .static yJ6_bitCount_0f7a4, .initialized RJ6, .code yJ6_bitCount_0f7a4 cJ6_bitCount_0f7a4 1 (some .int), .constant RJ6 265 (1431655765), .constant RJ6 266 (858993459), .constant RJ6 267 (252645135), .methodLink RX0 38 yX0_endingsFrom, .instanceMethod yX0_endingsFrom, .selects RX0 yX0_endingsFrom yX0_endingsFrom, .initialized RX0, .code yX0_endingsFrom cX0_endingsFrom 5 (some .int), .methodLink RX0 43 yX0_canFollow, .instanceMethod yX0_canFollow, .selects RX0 yX0_canFollow yX0_canFollow, .code yX0_canFollow cX0_canFollow 5 (some .boolean)] ++ wsX00)
def wsX0_total : List Cond := .code yX0_total cX0_total 1 (some .int) :: ([.fieldLink RX0 9 "AlternateSigns$AllOfSize" "endings" "[I", .methodLink RX0 29 yX0_countEndings, .instanceMethod yX0_countEndings, .selects RX0 yX0_countEndings yX0_countEndings, .initialized RX0, .code yX0_countEndings cX0_countEndings 3 none, .fieldLink RX0 80 "AlternateSigns$AllOfSize" "areEndingsCounted" "Z", .fieldLink RX0 26 "AlternateSigns$AllOfSize" "masks" "I", .fieldLink RX0 22 "AlternateSigns$AllOfSize" "size" "I", .methodLink RX0 84 yJ6_bitCount_0f7a4, .static yJ6_bitCount_0f7a4, .initialized RJ6, .code yJ6_bitCount_0f7a4 cJ6_bitCount_0f7a4 1 (some .int), .constant RJ6 265 (1431655765), .constant RJ6 266 (858993459), .constant RJ6 267 (252645135), .methodLink RX0 38 yX0_endingsFrom, .instanceMethod yX0_endingsFrom, .selects RX0 yX0_endingsFrom yX0_endingsFrom, .code yX0_endingsFrom cX0_endingsFrom 5 (some .int), .methodLink RX0 43 yX0_canFollow, .instanceMethod yX0_canFollow, .selects RX0 yX0_canFollow yX0_canFollow, .code yX0_canFollow cX0_canFollow 5 (some .boolean)] ++ wsX00)
def wsX0_withFirstOne : List Cond := .code yX0_withFirstOne cX0_withFirstOne 2 (some .int) :: ([.fieldLink RX0 9 "AlternateSigns$AllOfSize" "endings" "[I", .fieldLink RX0 22 "AlternateSigns$AllOfSize" "size" "I", .methodLink RX0 29 yX0_countEndings, .instanceMethod yX0_countEndings, .selects RX0 yX0_countEndings yX0_countEndings, .initialized RX0, .code yX0_countEndings cX0_countEndings 3 none, .fieldLink RX0 80 "AlternateSigns$AllOfSize" "areEndingsCounted" "Z", .fieldLink RX0 26 "AlternateSigns$AllOfSize" "masks" "I", .methodLink RX0 84 yJ6_bitCount_0f7a4, .static yJ6_bitCount_0f7a4, .initialized RJ6, .code yJ6_bitCount_0f7a4 cJ6_bitCount_0f7a4 1 (some .int), .constant RJ6 265 (1431655765), .constant RJ6 266 (858993459), .constant RJ6 267 (252645135), .methodLink RX0 38 yX0_endingsFrom, .instanceMethod yX0_endingsFrom, .selects RX0 yX0_endingsFrom yX0_endingsFrom, .code yX0_endingsFrom cX0_endingsFrom 5 (some .int), .methodLink RX0 43 yX0_canFollow, .instanceMethod yX0_canFollow, .selects RX0 yX0_canFollow yX0_canFollow, .code yX0_canFollow cX0_canFollow 5 (some .boolean)] ++ wsX00)
def wsX3_cornerAt : List Cond := .code yX3_cornerAt cX3_cornerAt 3 (some .int) :: ([.fieldLink RX3 9 "AlternateSigns$Table" "corners" "[I"] ++ wsX30)
def wsX3_columnSum : List Cond := .code yX3_columnSum cX3_columnSum 3 (some .int) :: ([.methodLink RX3 25 yX3_cornerAt, .instanceMethod yX3_cornerAt, .selects RX3 yX3_cornerAt yX3_cornerAt, .initialized RX3, .code yX3_cornerAt cX3_cornerAt 3 (some .int), .fieldLink RX3 9 "AlternateSigns$Table" "corners" "[I"] ++ wsX30)
def wsX3_fullColumns : List Cond := .code yX3_fullColumns cX3_fullColumns 4 (some .int) :: ([.fieldLink RX3 15 "AlternateSigns$Table" "size" "I", .methodLink RX3 66 yX3_columnSum, .instanceMethod yX3_columnSum, .selects RX3 yX3_columnSum yX3_columnSum, .initialized RX3, .code yX3_columnSum cX3_columnSum 3 (some .int), .methodLink RX3 25 yX3_cornerAt, .instanceMethod yX3_cornerAt, .selects RX3 yX3_cornerAt yX3_cornerAt, .code yX3_cornerAt cX3_cornerAt 3 (some .int), .fieldLink RX3 9 "AlternateSigns$Table" "corners" "[I"] ++ wsX30)
def wsX0_rankOf_r1 : List Cond := [Cond.fieldLink RX0 22 "AlternateSigns$AllOfSize" "size" "I", Cond.methodLink RX0 29 yX0_countEndings, Cond.instanceMethod yX0_countEndings, Cond.selects RX0 yX0_countEndings yX0_countEndings, Cond.initialized RX0, Cond.code yX0_countEndings cX0_countEndings 3 none, Cond.fieldLink RX0 80 "AlternateSigns$AllOfSize" "areEndingsCounted" "Z", Cond.fieldLink RX0 9 "AlternateSigns$AllOfSize" "endings" "[I", Cond.fieldLink RX0 26 "AlternateSigns$AllOfSize" "masks" "I", Cond.methodLink RX0 84 yJ6_bitCount_0f7a4, Cond.static yJ6_bitCount_0f7a4, Cond.initialized RJ6, Cond.code yJ6_bitCount_0f7a4 cJ6_bitCount_0f7a4 1 (some .int), Cond.constant RJ6 265 (1431655765), Cond.constant RJ6 266 (858993459), Cond.constant RJ6 267 (252645135), Cond.methodLink RX0 38 yX0_endingsFrom, Cond.instanceMethod yX0_endingsFrom, Cond.selects RX0 yX0_endingsFrom yX0_endingsFrom, Cond.code yX0_endingsFrom cX0_endingsFrom 5 (some .int), Cond.methodLink RX0 43 yX0_canFollow, Cond.instanceMethod yX0_canFollow, Cond.selects RX0 yX0_canFollow yX0_canFollow, Cond.code yX0_canFollow cX0_canFollow 5 (some .boolean)]
def wsX0_rankOf_r2 : List Cond := [Cond.methodLink RX0 32 yX3_fullColumns, Cond.instanceMethod yX3_fullColumns, Cond.selects RX3 yX3_fullColumns yX3_fullColumns, Cond.initialized RX3, Cond.code yX3_fullColumns cX3_fullColumns 4 (some .int), Cond.fieldLink RX3 15 "AlternateSigns$Table" "size" "I", Cond.methodLink RX3 66 yX3_columnSum, Cond.instanceMethod yX3_columnSum, Cond.selects RX3 yX3_columnSum yX3_columnSum, Cond.code yX3_columnSum cX3_columnSum 3 (some .int), Cond.methodLink RX3 25 yX3_cornerAt, Cond.instanceMethod yX3_cornerAt, Cond.selects RX3 yX3_cornerAt yX3_cornerAt, Cond.code yX3_cornerAt cX3_cornerAt 3 (some .int), Cond.fieldLink RX3 9 "AlternateSigns$Table" "corners" "[I"]
def wsX0_rankOf : List Cond := .code yX0_rankOf cX0_rankOf 6 (some .int) :: ((wsX0_rankOf_r1 ++ wsX0_rankOf_r2) ++ wsX00 ++ wsX30)
def wsX3_putCorner : List Cond := .code yX3_putCorner cX3_putCorner 4 none :: ([.fieldLink RX3 9 "AlternateSigns$Table" "corners" "[I"] ++ wsX30)
def wsX3_putFullColumns : List Cond := .code yX3_putFullColumns cX3_putFullColumns 5 none :: ([.fieldLink RX3 15 "AlternateSigns$Table" "size" "I", .methodLink RX3 25 yX3_cornerAt, .instanceMethod yX3_cornerAt, .selects RX3 yX3_cornerAt yX3_cornerAt, .initialized RX3, .code yX3_cornerAt cX3_cornerAt 3 (some .int), .fieldLink RX3 9 "AlternateSigns$Table" "corners" "[I", .methodLink RX3 41 yX3_putCorner, .instanceMethod yX3_putCorner, .selects RX3 yX3_putCorner yX3_putCorner, .code yX3_putCorner cX3_putCorner 4 none] ++ wsX30)
def wsX0_put_r1 : List Cond := [Cond.fieldLink RX0 22 "AlternateSigns$AllOfSize" "size" "I", Cond.fieldLink RX0 42 "AlternateSigns$Table" "size" "I", Cond.fieldLink RX0 26 "AlternateSigns$AllOfSize" "masks" "I", Cond.fieldLink RX0 9 "AlternateSigns$AllOfSize" "endings" "[I", Cond.methodLink RX0 29 yX0_countEndings, Cond.instanceMethod yX0_countEndings, Cond.selects RX0 yX0_countEndings yX0_countEndings, Cond.initialized RX0, Cond.code yX0_countEndings cX0_countEndings 3 none, Cond.fieldLink RX0 80 "AlternateSigns$AllOfSize" "areEndingsCounted" "Z", Cond.methodLink RX0 84 yJ6_bitCount_0f7a4, Cond.static yJ6_bitCount_0f7a4, Cond.initialized RJ6, Cond.code yJ6_bitCount_0f7a4 cJ6_bitCount_0f7a4 1 (some .int), Cond.constant RJ6 265 (1431655765), Cond.constant RJ6 266 (858993459), Cond.constant RJ6 267 (252645135), Cond.methodLink RX0 38 yX0_endingsFrom, Cond.instanceMethod yX0_endingsFrom, Cond.selects RX0 yX0_endingsFrom yX0_endingsFrom, Cond.code yX0_endingsFrom cX0_endingsFrom 5 (some .int), Cond.methodLink RX0 43 yX0_canFollow, Cond.instanceMethod yX0_canFollow, Cond.selects RX0 yX0_canFollow yX0_canFollow]
def wsX0_put_r2 : List Cond := [Cond.code yX0_canFollow cX0_canFollow 5 (some .boolean), Cond.methodLink RX0 47 yX3_putFullColumns, Cond.instanceMethod yX3_putFullColumns, Cond.selects RX3 yX3_putFullColumns yX3_putFullColumns, Cond.initialized RX3, Cond.code yX3_putFullColumns cX3_putFullColumns 5 none, Cond.fieldLink RX3 15 "AlternateSigns$Table" "size" "I", Cond.methodLink RX3 25 yX3_cornerAt, Cond.instanceMethod yX3_cornerAt, Cond.selects RX3 yX3_cornerAt yX3_cornerAt, Cond.code yX3_cornerAt cX3_cornerAt 3 (some .int), Cond.fieldLink RX3 9 "AlternateSigns$Table" "corners" "[I", Cond.methodLink RX3 41 yX3_putCorner, Cond.instanceMethod yX3_putCorner, Cond.selects RX3 yX3_putCorner yX3_putCorner, Cond.code yX3_putCorner cX3_putCorner 4 none]
def wsX0_put : List Cond := .code yX0_put cX0_put 8 none :: ((wsX0_put_r1 ++ wsX0_put_r2) ++ wsX00 ++ wsX30)
def wsX3_isDrawnDown : List Cond := .code yX3_isDrawnDown cX3_isDrawnDown 3 (some .boolean) :: ([.methodLink RX3 66 yX3_columnSum, .instanceMethod yX3_columnSum, .selects RX3 yX3_columnSum yX3_columnSum, .initialized RX3, .code yX3_columnSum cX3_columnSum 3 (some .int), .methodLink RX3 25 yX3_cornerAt, .instanceMethod yX3_cornerAt, .selects RX3 yX3_cornerAt yX3_cornerAt, .code yX3_cornerAt cX3_cornerAt 3 (some .int), .fieldLink RX3 9 "AlternateSigns$Table" "corners" "[I"] ++ wsX30)
def wsX3_rowSum : List Cond := .code yX3_rowSum cX3_rowSum 3 (some .int) :: ([.methodLink RX3 25 yX3_cornerAt, .instanceMethod yX3_cornerAt, .selects RX3 yX3_cornerAt yX3_cornerAt, .initialized RX3, .code yX3_cornerAt cX3_cornerAt 3 (some .int), .fieldLink RX3 9 "AlternateSigns$Table" "corners" "[I"] ++ wsX30)
def wsX3_isDrawnAcross : List Cond := .code yX3_isDrawnAcross cX3_isDrawnAcross 3 (some .boolean) :: ([.methodLink RX3 29 yX3_rowSum, .instanceMethod yX3_rowSum, .selects RX3 yX3_rowSum yX3_rowSum, .initialized RX3, .code yX3_rowSum cX3_rowSum 3 (some .int), .methodLink RX3 25 yX3_cornerAt, .instanceMethod yX3_cornerAt, .selects RX3 yX3_cornerAt yX3_cornerAt, .code yX3_cornerAt cX3_cornerAt 3 (some .int), .fieldLink RX3 9 "AlternateSigns$Table" "corners" "[I"] ++ wsX30)
def wsX1_openPlaces : List Cond := .code yX1_openPlaces cX1_openPlaces 5 none :: ([.fieldLink RX1 30 "AlternateSigns$Lines" "size" "I", .fieldLink RX1 18 "AlternateSigns$Lines" "open" "[I", .methodLink RX1 50 yX3_isDrawnDown, .instanceMethod yX3_isDrawnDown, .selects RX3 yX3_isDrawnDown yX3_isDrawnDown, .initialized RX3, .code yX3_isDrawnDown cX3_isDrawnDown 3 (some .boolean), .methodLink RX3 66 yX3_columnSum, .instanceMethod yX3_columnSum, .selects RX3 yX3_columnSum yX3_columnSum, .code yX3_columnSum cX3_columnSum 3 (some .int), .methodLink RX3 25 yX3_cornerAt, .instanceMethod yX3_cornerAt, .selects RX3 yX3_cornerAt yX3_cornerAt, .code yX3_cornerAt cX3_cornerAt 3 (some .int), .fieldLink RX3 9 "AlternateSigns$Table" "corners" "[I", .methodLink RX1 54 yX3_isDrawnAcross, .instanceMethod yX3_isDrawnAcross, .selects RX3 yX3_isDrawnAcross yX3_isDrawnAcross, .code yX3_isDrawnAcross cX3_isDrawnAcross 3 (some .boolean), .methodLink RX3 29 yX3_rowSum, .instanceMethod yX3_rowSum, .selects RX3 yX3_rowSum yX3_rowSum, .code yX3_rowSum cX3_rowSum 3 (some .int)] ++ wsX10 ++ wsX30)
def wsX1_standAtRim : List Cond := .code yX1_standAtRim cX1_standAtRim 4 none :: ([.fieldLink RX1 30 "AlternateSigns$Lines" "size" "I", .fieldLink RX1 64 "AlternateSigns$Lines" "row" "I", .fieldLink RX1 67 "AlternateSigns$Lines" "column" "I", .fieldLink RX1 70 "AlternateSigns$Lines" "side" "I"] ++ wsX10)
def wsX1_isOpen : List Cond := .code yX1_isOpen cX1_isOpen 2 (some .boolean) :: ([.fieldLink RX1 18 "AlternateSigns$Lines" "open" "[I", .fieldLink RX1 64 "AlternateSigns$Lines" "row" "I", .fieldLink RX1 67 "AlternateSigns$Lines" "column" "I"] ++ wsX10)
def wsX1_numberEnds : List Cond := .code yX1_numberEnds cX1_numberEnds 4 none :: ([.fieldLink RX1 45 "AlternateSigns$Lines" "ends" "I", .fieldLink RX1 30 "AlternateSigns$Lines" "size" "I", .fieldLink RX1 21 "AlternateSigns$Lines" "endAtRim" "[I", .methodLink RX1 57 yX1_standAtRim, .instanceMethod yX1_standAtRim, .selects RX1 yX1_standAtRim yX1_standAtRim, .initialized RX1, .code yX1_standAtRim cX1_standAtRim 4 none, .fieldLink RX1 64 "AlternateSigns$Lines" "row" "I", .fieldLink RX1 67 "AlternateSigns$Lines" "column" "I", .fieldLink RX1 70 "AlternateSigns$Lines" "side" "I", .methodLink RX1 60 yX1_isOpen, .instanceMethod yX1_isOpen, .selects RX1 yX1_isOpen yX1_isOpen, .code yX1_isOpen cX1_isOpen 2 (some .boolean), .fieldLink RX1 18 "AlternateSigns$Lines" "open" "[I"] ++ wsX10)
def wsX5_isBetween : List Cond := .code yX5_isBetween cX5_isBetween 3 (some .boolean) :: ([])
def wsX1_isInside : List Cond := .code yX1_isInside cX1_isInside 1 (some .boolean) :: ([.fieldLink RX1 64 "AlternateSigns$Lines" "row" "I", .fieldLink RX1 30 "AlternateSigns$Lines" "size" "I", .fieldLink RX1 67 "AlternateSigns$Lines" "column" "I", .static yX5_isBetween, .initialized RX5, .code yX5_isBetween cX5_isBetween 3 (some .boolean)] ++ wsX10)
def wsX1_goOn : List Cond := .code yX1_goOn cX1_goOn 3 none :: ([.fieldLink RX1 64 "AlternateSigns$Lines" "row" "I", .fieldLink RX1 67 "AlternateSigns$Lines" "column" "I", .fieldLink RX1 18 "AlternateSigns$Lines" "open" "[I", .fieldLink RX1 70 "AlternateSigns$Lines" "side" "I"] ++ wsX10)
def wsX1_rimPassed : List Cond := .code yX1_rimPassed cX1_rimPassed 1 (some .int) :: ([.fieldLink RX1 64 "AlternateSigns$Lines" "row" "I", .fieldLink RX1 30 "AlternateSigns$Lines" "size" "I", .fieldLink RX1 67 "AlternateSigns$Lines" "column" "I"] ++ wsX10)
def wsX1_join : List Cond := .code yX1_join cX1_join 4 none :: ([.fieldLink RX1 9 "AlternateSigns$Lines" "partners" "[I", .fieldLink RX1 15 "AlternateSigns$Lines" "lengths" "[I"] ++ wsX10)
def wsX1_followLine_r1 : List Cond := [Cond.fieldLink RX1 21 "AlternateSigns$Lines" "endAtRim" "[I", Cond.fieldLink RX1 30 "AlternateSigns$Lines" "size" "I", Cond.methodLink RX1 57 yX1_standAtRim, Cond.instanceMethod yX1_standAtRim, Cond.selects RX1 yX1_standAtRim yX1_standAtRim, Cond.initialized RX1, Cond.code yX1_standAtRim cX1_standAtRim 4 none, Cond.fieldLink RX1 64 "AlternateSigns$Lines" "row" "I", Cond.fieldLink RX1 67 "AlternateSigns$Lines" "column" "I", Cond.fieldLink RX1 70 "AlternateSigns$Lines" "side" "I", Cond.methodLink RX1 60 yX1_isOpen, Cond.instanceMethod yX1_isOpen, Cond.selects RX1 yX1_isOpen yX1_isOpen, Cond.code yX1_isOpen cX1_isOpen 2 (some .boolean), Cond.fieldLink RX1 18 "AlternateSigns$Lines" "open" "[I", Cond.methodLink RX1 77 yX1_isInside, Cond.instanceMethod yX1_isInside, Cond.selects RX1 yX1_isInside yX1_isInside, Cond.code yX1_isInside cX1_isInside 1 (some .boolean), Cond.static yX5_isBetween, Cond.initialized RX5, Cond.code yX5_isBetween cX5_isBetween 3 (some .boolean), Cond.methodLink RX1 81 yX1_goOn, Cond.instanceMethod yX1_goOn]
def wsX1_followLine_r2 : List Cond := [Cond.selects RX1 yX1_goOn yX1_goOn, Cond.code yX1_goOn cX1_goOn 3 none, Cond.methodLink RX1 84 yX1_rimPassed, Cond.instanceMethod yX1_rimPassed, Cond.selects RX1 yX1_rimPassed yX1_rimPassed, Cond.code yX1_rimPassed cX1_rimPassed 1 (some .int), Cond.methodLink RX1 88 yX1_join, Cond.instanceMethod yX1_join, Cond.selects RX1 yX1_join yX1_join, Cond.code yX1_join cX1_join 4 none, Cond.fieldLink RX1 9 "AlternateSigns$Lines" "partners" "[I", Cond.fieldLink RX1 15 "AlternateSigns$Lines" "lengths" "[I"]
def wsX1_followLine : List Cond := .code yX1_followLine cX1_followLine 6 none :: ((wsX1_followLine_r1 ++ wsX1_followLine_r2) ++ wsX10)
def wsX1_followRing : List Cond := .code yX1_followRing cX1_followRing 4 none :: ([.fieldLink RX1 64 "AlternateSigns$Lines" "row" "I", .fieldLink RX1 67 "AlternateSigns$Lines" "column" "I", .fieldLink RX1 70 "AlternateSigns$Lines" "side" "I", .fieldLink RX1 18 "AlternateSigns$Lines" "open" "[I", .fieldLink RX1 95 "AlternateSigns$Lines" "ringEdges" "I", .methodLink RX1 60 yX1_isOpen, .instanceMethod yX1_isOpen, .selects RX1 yX1_isOpen yX1_isOpen, .initialized RX1, .code yX1_isOpen cX1_isOpen 2 (some .boolean), .methodLink RX1 77 yX1_isInside, .instanceMethod yX1_isInside, .selects RX1 yX1_isInside yX1_isInside, .code yX1_isInside cX1_isInside 1 (some .boolean), .fieldLink RX1 30 "AlternateSigns$Lines" "size" "I", .static yX5_isBetween, .initialized RX5, .code yX5_isBetween cX5_isBetween 3 (some .boolean), .methodLink RX1 81 yX1_goOn, .instanceMethod yX1_goOn, .selects RX1 yX1_goOn yX1_goOn, .code yX1_goOn cX1_goOn 3 none] ++ wsX10)
def wsX1_followRings_r1 : List Cond := [Cond.fieldLink RX1 92 "AlternateSigns$Lines" "rings" "I", Cond.fieldLink RX1 95 "AlternateSigns$Lines" "ringEdges" "I", Cond.fieldLink RX1 30 "AlternateSigns$Lines" "size" "I", Cond.fieldLink RX1 18 "AlternateSigns$Lines" "open" "[I", Cond.methodLink RX1 98 yX1_followRing, Cond.instanceMethod yX1_followRing, Cond.selects RX1 yX1_followRing yX1_followRing, Cond.initialized RX1, Cond.code yX1_followRing cX1_followRing 4 none, Cond.fieldLink RX1 64 "AlternateSigns$Lines" "row" "I", Cond.fieldLink RX1 67 "AlternateSigns$Lines" "column" "I", Cond.fieldLink RX1 70 "AlternateSigns$Lines" "side" "I", Cond.methodLink RX1 60 yX1_isOpen, Cond.instanceMethod yX1_isOpen, Cond.selects RX1 yX1_isOpen yX1_isOpen, Cond.code yX1_isOpen cX1_isOpen 2 (some .boolean), Cond.methodLink RX1 77 yX1_isInside, Cond.instanceMethod yX1_isInside, Cond.selects RX1 yX1_isInside yX1_isInside, Cond.code yX1_isInside cX1_isInside 1 (some .boolean), Cond.static yX5_isBetween, Cond.initialized RX5, Cond.code yX5_isBetween cX5_isBetween 3 (some .boolean), Cond.methodLink RX1 81 yX1_goOn]
def wsX1_followRings_r2 : List Cond := [Cond.instanceMethod yX1_goOn, Cond.selects RX1 yX1_goOn yX1_goOn, Cond.code yX1_goOn cX1_goOn 3 none]
def wsX1_followRings : List Cond := .code yX1_followRings cX1_followRings 3 none :: ((wsX1_followRings_r1 ++ wsX1_followRings_r2) ++ wsX10)
def wsX1_trace_r1 : List Cond := [Cond.fieldLink RX1 24 "AlternateSigns$Table" "size" "I", Cond.fieldLink RX1 30 "AlternateSigns$Lines" "size" "I", Cond.methodLink RX1 31 yX1_openPlaces, Cond.instanceMethod yX1_openPlaces, Cond.selects RX1 yX1_openPlaces yX1_openPlaces, Cond.initialized RX1, Cond.code yX1_openPlaces cX1_openPlaces 5 none, Cond.fieldLink RX1 18 "AlternateSigns$Lines" "open" "[I", Cond.methodLink RX1 50 yX3_isDrawnDown, Cond.instanceMethod yX3_isDrawnDown, Cond.selects RX3 yX3_isDrawnDown yX3_isDrawnDown, Cond.initialized RX3, Cond.code yX3_isDrawnDown cX3_isDrawnDown 3 (some .boolean), Cond.methodLink RX3 66 yX3_columnSum, Cond.instanceMethod yX3_columnSum, Cond.selects RX3 yX3_columnSum yX3_columnSum, Cond.code yX3_columnSum cX3_columnSum 3 (some .int), Cond.methodLink RX3 25 yX3_cornerAt, Cond.instanceMethod yX3_cornerAt, Cond.selects RX3 yX3_cornerAt yX3_cornerAt, Cond.code yX3_cornerAt cX3_cornerAt 3 (some .int), Cond.fieldLink RX3 9 "AlternateSigns$Table" "corners" "[I", Cond.methodLink RX1 54 yX3_isDrawnAcross, Cond.instanceMethod yX3_isDrawnAcross]
def wsX1_trace_r2 : List Cond := [Cond.selects RX3 yX3_isDrawnAcross yX3_isDrawnAcross, Cond.code yX3_isDrawnAcross cX3_isDrawnAcross 3 (some .boolean), Cond.methodLink RX3 29 yX3_rowSum, Cond.instanceMethod yX3_rowSum, Cond.selects RX3 yX3_rowSum yX3_rowSum, Cond.code yX3_rowSum cX3_rowSum 3 (some .int), Cond.methodLink RX1 35 yX1_numberEnds, Cond.instanceMethod yX1_numberEnds, Cond.selects RX1 yX1_numberEnds yX1_numberEnds, Cond.code yX1_numberEnds cX1_numberEnds 4 none, Cond.fieldLink RX1 45 "AlternateSigns$Lines" "ends" "I", Cond.fieldLink RX1 21 "AlternateSigns$Lines" "endAtRim" "[I", Cond.methodLink RX1 57 yX1_standAtRim, Cond.instanceMethod yX1_standAtRim, Cond.selects RX1 yX1_standAtRim yX1_standAtRim, Cond.code yX1_standAtRim cX1_standAtRim 4 none, Cond.fieldLink RX1 64 "AlternateSigns$Lines" "row" "I", Cond.fieldLink RX1 67 "AlternateSigns$Lines" "column" "I", Cond.fieldLink RX1 70 "AlternateSigns$Lines" "side" "I", Cond.methodLink RX1 60 yX1_isOpen, Cond.instanceMethod yX1_isOpen, Cond.selects RX1 yX1_isOpen yX1_isOpen, Cond.code yX1_isOpen cX1_isOpen 2 (some .boolean), Cond.methodLink RX1 38 yX1_followLine]
def wsX1_trace_r3 : List Cond := [Cond.instanceMethod yX1_followLine, Cond.selects RX1 yX1_followLine yX1_followLine, Cond.code yX1_followLine cX1_followLine 6 none, Cond.methodLink RX1 77 yX1_isInside, Cond.instanceMethod yX1_isInside, Cond.selects RX1 yX1_isInside yX1_isInside, Cond.code yX1_isInside cX1_isInside 1 (some .boolean), Cond.static yX5_isBetween, Cond.initialized RX5, Cond.code yX5_isBetween cX5_isBetween 3 (some .boolean), Cond.methodLink RX1 81 yX1_goOn, Cond.instanceMethod yX1_goOn, Cond.selects RX1 yX1_goOn yX1_goOn, Cond.code yX1_goOn cX1_goOn 3 none, Cond.methodLink RX1 84 yX1_rimPassed, Cond.instanceMethod yX1_rimPassed, Cond.selects RX1 yX1_rimPassed yX1_rimPassed, Cond.code yX1_rimPassed cX1_rimPassed 1 (some .int), Cond.methodLink RX1 88 yX1_join, Cond.instanceMethod yX1_join, Cond.selects RX1 yX1_join yX1_join, Cond.code yX1_join cX1_join 4 none, Cond.fieldLink RX1 9 "AlternateSigns$Lines" "partners" "[I", Cond.fieldLink RX1 15 "AlternateSigns$Lines" "lengths" "[I"]
def wsX1_trace_r4 : List Cond := [Cond.methodLink RX1 42 yX1_followRings, Cond.instanceMethod yX1_followRings, Cond.selects RX1 yX1_followRings yX1_followRings, Cond.code yX1_followRings cX1_followRings 3 none, Cond.fieldLink RX1 92 "AlternateSigns$Lines" "rings" "I", Cond.fieldLink RX1 95 "AlternateSigns$Lines" "ringEdges" "I", Cond.methodLink RX1 98 yX1_followRing, Cond.instanceMethod yX1_followRing, Cond.selects RX1 yX1_followRing yX1_followRing, Cond.code yX1_followRing cX1_followRing 4 none]
def wsX1_trace : List Cond := .code yX1_trace cX1_trace 4 none :: ((wsX1_trace_r1 ++ (wsX1_trace_r2 ++ (wsX1_trace_r3 ++ wsX1_trace_r4))) ++ wsX30 ++ wsX10)
def wsX1_partnersCode : List Cond := .code yX1_partnersCode cX1_partnersCode 4 (some .long) :: ([.fieldLink RX1 45 "AlternateSigns$Lines" "ends" "I", .constantLong RX1 48 (12), .fieldLink RX1 9 "AlternateSigns$Lines" "partners" "[I"] ++ wsX10)
def wsX0_wayOf : List Cond := .code yX0_wayOf cX0_wayOf 4 (some .int) :: ([.fieldLink RX0 51 "AlternateSigns$AllOfSize" "ways" "I", .fieldLink RX0 15 "AlternateSigns$AllOfSize" "codes" "[J"] ++ wsX00)
def wsX0_addToWay : List Cond := .code yX0_addToWay cX0_addToWay 4 none :: ([.fieldLink RX0 51 "AlternateSigns$AllOfSize" "ways" "I", .fieldLink RX0 15 "AlternateSigns$AllOfSize" "codes" "[J", .fieldLink RX0 19 "AlternateSigns$AllOfSize" "tally" "[I", .methodLink RX0 76 yX0_wayOf, .instanceMethod yX0_wayOf, .selects RX0 yX0_wayOf yX0_wayOf, .initialized RX0, .code yX0_wayOf cX0_wayOf 4 (some .int)] ++ wsX00)
def wsX0_sortByPartners_r1 : List Cond := [Cond.fieldLink RX0 51 "AlternateSigns$AllOfSize" "ways" "I", Cond.methodLink RX0 54 yX0_total, Cond.instanceMethod yX0_total, Cond.selects RX0 yX0_total yX0_total, Cond.initialized RX0, Cond.code yX0_total cX0_total 1 (some .int), Cond.fieldLink RX0 9 "AlternateSigns$AllOfSize" "endings" "[I", Cond.methodLink RX0 29 yX0_countEndings, Cond.instanceMethod yX0_countEndings, Cond.selects RX0 yX0_countEndings yX0_countEndings, Cond.code yX0_countEndings cX0_countEndings 3 none, Cond.fieldLink RX0 80 "AlternateSigns$AllOfSize" "areEndingsCounted" "Z", Cond.fieldLink RX0 26 "AlternateSigns$AllOfSize" "masks" "I", Cond.fieldLink RX0 22 "AlternateSigns$AllOfSize" "size" "I", Cond.methodLink RX0 84 yJ6_bitCount_0f7a4, Cond.static yJ6_bitCount_0f7a4, Cond.initialized RJ6, Cond.code yJ6_bitCount_0f7a4 cJ6_bitCount_0f7a4 1 (some .int), Cond.constant RJ6 265 (1431655765), Cond.constant RJ6 266 (858993459), Cond.constant RJ6 267 (252645135), Cond.methodLink RX0 38 yX0_endingsFrom, Cond.instanceMethod yX0_endingsFrom, Cond.selects RX0 yX0_endingsFrom yX0_endingsFrom]
def wsX0_sortByPartners_r2 : List Cond := [Cond.code yX0_endingsFrom cX0_endingsFrom 5 (some .int), Cond.methodLink RX0 43 yX0_canFollow, Cond.instanceMethod yX0_canFollow, Cond.selects RX0 yX0_canFollow yX0_canFollow, Cond.code yX0_canFollow cX0_canFollow 5 (some .boolean), Cond.methodLink RX0 58 yX0_put, Cond.instanceMethod yX0_put, Cond.selects RX0 yX0_put yX0_put, Cond.code yX0_put cX0_put 8 none, Cond.fieldLink RX0 42 "AlternateSigns$Table" "size" "I", Cond.methodLink RX0 47 yX3_putFullColumns, Cond.instanceMethod yX3_putFullColumns, Cond.selects RX3 yX3_putFullColumns yX3_putFullColumns, Cond.initialized RX3, Cond.code yX3_putFullColumns cX3_putFullColumns 5 none, Cond.fieldLink RX3 15 "AlternateSigns$Table" "size" "I", Cond.methodLink RX3 25 yX3_cornerAt, Cond.instanceMethod yX3_cornerAt, Cond.selects RX3 yX3_cornerAt yX3_cornerAt, Cond.code yX3_cornerAt cX3_cornerAt 3 (some .int), Cond.fieldLink RX3 9 "AlternateSigns$Table" "corners" "[I", Cond.methodLink RX3 41 yX3_putCorner, Cond.instanceMethod yX3_putCorner, Cond.selects RX3 yX3_putCorner yX3_putCorner]
def wsX0_sortByPartners_r3 : List Cond := [Cond.code yX3_putCorner cX3_putCorner 4 none, Cond.methodLink RX0 62 yX1_trace, Cond.instanceMethod yX1_trace, Cond.selects RX1 yX1_trace yX1_trace, Cond.initialized RX1, Cond.code yX1_trace cX1_trace 4 none, Cond.fieldLink RX1 24 "AlternateSigns$Table" "size" "I", Cond.fieldLink RX1 30 "AlternateSigns$Lines" "size" "I", Cond.methodLink RX1 31 yX1_openPlaces, Cond.instanceMethod yX1_openPlaces, Cond.selects RX1 yX1_openPlaces yX1_openPlaces, Cond.code yX1_openPlaces cX1_openPlaces 5 none, Cond.fieldLink RX1 18 "AlternateSigns$Lines" "open" "[I", Cond.methodLink RX1 50 yX3_isDrawnDown, Cond.instanceMethod yX3_isDrawnDown, Cond.selects RX3 yX3_isDrawnDown yX3_isDrawnDown, Cond.code yX3_isDrawnDown cX3_isDrawnDown 3 (some .boolean), Cond.methodLink RX3 66 yX3_columnSum, Cond.instanceMethod yX3_columnSum, Cond.selects RX3 yX3_columnSum yX3_columnSum, Cond.code yX3_columnSum cX3_columnSum 3 (some .int), Cond.methodLink RX1 54 yX3_isDrawnAcross, Cond.instanceMethod yX3_isDrawnAcross, Cond.selects RX3 yX3_isDrawnAcross yX3_isDrawnAcross]
def wsX0_sortByPartners_r4 : List Cond := [Cond.code yX3_isDrawnAcross cX3_isDrawnAcross 3 (some .boolean), Cond.methodLink RX3 29 yX3_rowSum, Cond.instanceMethod yX3_rowSum, Cond.selects RX3 yX3_rowSum yX3_rowSum, Cond.code yX3_rowSum cX3_rowSum 3 (some .int), Cond.methodLink RX1 35 yX1_numberEnds, Cond.instanceMethod yX1_numberEnds, Cond.selects RX1 yX1_numberEnds yX1_numberEnds, Cond.code yX1_numberEnds cX1_numberEnds 4 none, Cond.fieldLink RX1 45 "AlternateSigns$Lines" "ends" "I", Cond.fieldLink RX1 21 "AlternateSigns$Lines" "endAtRim" "[I", Cond.methodLink RX1 57 yX1_standAtRim, Cond.instanceMethod yX1_standAtRim, Cond.selects RX1 yX1_standAtRim yX1_standAtRim, Cond.code yX1_standAtRim cX1_standAtRim 4 none, Cond.fieldLink RX1 64 "AlternateSigns$Lines" "row" "I", Cond.fieldLink RX1 67 "AlternateSigns$Lines" "column" "I", Cond.fieldLink RX1 70 "AlternateSigns$Lines" "side" "I", Cond.methodLink RX1 60 yX1_isOpen, Cond.instanceMethod yX1_isOpen, Cond.selects RX1 yX1_isOpen yX1_isOpen, Cond.code yX1_isOpen cX1_isOpen 2 (some .boolean), Cond.methodLink RX1 38 yX1_followLine, Cond.instanceMethod yX1_followLine]
def wsX0_sortByPartners_r5 : List Cond := [Cond.selects RX1 yX1_followLine yX1_followLine, Cond.code yX1_followLine cX1_followLine 6 none, Cond.methodLink RX1 77 yX1_isInside, Cond.instanceMethod yX1_isInside, Cond.selects RX1 yX1_isInside yX1_isInside, Cond.code yX1_isInside cX1_isInside 1 (some .boolean), Cond.static yX5_isBetween, Cond.initialized RX5, Cond.code yX5_isBetween cX5_isBetween 3 (some .boolean), Cond.methodLink RX1 81 yX1_goOn, Cond.instanceMethod yX1_goOn, Cond.selects RX1 yX1_goOn yX1_goOn, Cond.code yX1_goOn cX1_goOn 3 none, Cond.methodLink RX1 84 yX1_rimPassed, Cond.instanceMethod yX1_rimPassed, Cond.selects RX1 yX1_rimPassed yX1_rimPassed, Cond.code yX1_rimPassed cX1_rimPassed 1 (some .int), Cond.methodLink RX1 88 yX1_join, Cond.instanceMethod yX1_join, Cond.selects RX1 yX1_join yX1_join, Cond.code yX1_join cX1_join 4 none, Cond.fieldLink RX1 9 "AlternateSigns$Lines" "partners" "[I", Cond.fieldLink RX1 15 "AlternateSigns$Lines" "lengths" "[I", Cond.methodLink RX1 42 yX1_followRings]
def wsX0_sortByPartners_r6 : List Cond := [Cond.instanceMethod yX1_followRings, Cond.selects RX1 yX1_followRings yX1_followRings, Cond.code yX1_followRings cX1_followRings 3 none, Cond.fieldLink RX1 92 "AlternateSigns$Lines" "rings" "I", Cond.fieldLink RX1 95 "AlternateSigns$Lines" "ringEdges" "I", Cond.methodLink RX1 98 yX1_followRing, Cond.instanceMethod yX1_followRing, Cond.selects RX1 yX1_followRing yX1_followRing, Cond.code yX1_followRing cX1_followRing 4 none, Cond.methodLink RX0 68 yX1_partnersCode, Cond.instanceMethod yX1_partnersCode, Cond.selects RX1 yX1_partnersCode yX1_partnersCode, Cond.code yX1_partnersCode cX1_partnersCode 4 (some .long), Cond.constantLong RX1 48 (12), Cond.methodLink RX0 72 yX0_addToWay, Cond.instanceMethod yX0_addToWay, Cond.selects RX0 yX0_addToWay yX0_addToWay, Cond.code yX0_addToWay cX0_addToWay 4 none, Cond.fieldLink RX0 15 "AlternateSigns$AllOfSize" "codes" "[J", Cond.fieldLink RX0 19 "AlternateSigns$AllOfSize" "tally" "[I", Cond.methodLink RX0 76 yX0_wayOf, Cond.instanceMethod yX0_wayOf, Cond.selects RX0 yX0_wayOf yX0_wayOf, Cond.code yX0_wayOf cX0_wayOf 4 (some .int)]
def wsX0_sortByPartners : List Cond := .code yX0_sortByPartners cX0_sortByPartners 5 none :: ((wsX0_sortByPartners_r1 ++ (wsX0_sortByPartners_r2 ++ (wsX0_sortByPartners_r3 ++ (wsX0_sortByPartners_r4 ++ (wsX0_sortByPartners_r5 ++ wsX0_sortByPartners_r6))))) ++ wsX00 ++ wsX30 ++ wsX10)
def wsX1_init : List Cond := .code yX1_init cX1_init 1 none :: ([.methodLink RX1 3 objectInit, .instanceMethod objectInit, .code objectInit ⟨#[0xb1]⟩ 1 none, .arrayClass .int, .fieldLink RX1 9 "AlternateSigns$Lines" "partners" "[I", .fieldLink RX1 15 "AlternateSigns$Lines" "lengths" "[I", .fieldLink RX1 18 "AlternateSigns$Lines" "open" "[I", .fieldLink RX1 21 "AlternateSigns$Lines" "endAtRim" "[I"] ++ wsX10)
def wsX3_init : List Cond := .code yX3_init cX3_init 1 none :: ([.methodLink RX3 3 objectInit, .instanceMethod objectInit, .code objectInit ⟨#[0xb1]⟩ 1 none, .arrayClass .int, .fieldLink RX3 9 "AlternateSigns$Table" "corners" "[I"] ++ wsX30)
def wsX2_init : List Cond := .code yX2_init cX2_init 2 none :: ([.methodLink RX2 3 objectInit, .instanceMethod objectInit, .code objectInit ⟨#[0xb1]⟩ 1 none, .classLink RX2 9 RX3, .fieldLink RX2 11 "AlternateSigns$Past" "tables" "[LAlternateSigns$Table;", .instantiable RX3 2, .initialized RX3, .instanceMethod yX3_init, .code yX3_init cX3_init 1 none, .methodLink RX3 3 objectInit, .arrayClass .int, .fieldLink RX3 9 "AlternateSigns$Table" "corners" "[I"] ++ wsX20 ++ wsX30)
def wsX3_copy : List Cond := .code yX3_copy cX3_copy 2 none :: ([.fieldLink RX3 15 "AlternateSigns$Table" "size" "I", .fieldLink RX3 9 "AlternateSigns$Table" "corners" "[I", .methodLink RX3 19 arraycopyName, .native arraycopyName, .static arraycopyName, .initialized "java/lang/System"] ++ wsX30)
def wsX2_remember : List Cond := .code yX2_remember cX2_remember 2 none :: ([.fieldLink RX2 11 "AlternateSigns$Past" "tables" "[LAlternateSigns$Table;", .fieldLink RX2 18 "AlternateSigns$Past" "free" "I", .fieldLink RX2 26 "AlternateSigns$Past" "held" "I", .methodLink RX2 29 Lib.Math.min.name, .static Lib.Math.min.name, .initialized "java/lang/Math", .code Lib.Math.min.name Lib.Math.min.code 2 (some .int), .methodLink RX2 22 yX3_copy, .instanceMethod yX3_copy, .selects RX3 yX3_copy yX3_copy, .initialized RX3, .code yX3_copy cX3_copy 2 none, .fieldLink RX3 15 "AlternateSigns$Table" "size" "I", .fieldLink RX3 9 "AlternateSigns$Table" "corners" "[I", .methodLink RX3 19 arraycopyName, .native arraycopyName, .static arraycopyName, .initialized "java/lang/System"] ++ wsX20 ++ wsX30)
def wsX2_giveBack : List Cond := .code yX2_giveBack cX2_giveBack 2 none :: ([.fieldLink RX2 26 "AlternateSigns$Past" "held" "I", .fieldLink RX2 18 "AlternateSigns$Past" "free" "I", .fieldLink RX2 11 "AlternateSigns$Past" "tables" "[LAlternateSigns$Table;", .methodLink RX2 22 yX3_copy, .instanceMethod yX3_copy, .selects RX3 yX3_copy yX3_copy, .initialized RX3, .code yX3_copy cX3_copy 2 none, .fieldLink RX3 15 "AlternateSigns$Table" "size" "I", .fieldLink RX3 9 "AlternateSigns$Table" "corners" "[I", .methodLink RX3 19 arraycopyName, .native arraycopyName, .static arraycopyName, .initialized "java/lang/System"] ++ wsX20 ++ wsX30)
def wsX2_forget : List Cond := .code yX2_forget cX2_forget 1 none :: ([.fieldLink RX2 26 "AlternateSigns$Past" "held" "I"] ++ wsX20)
def wsX3_heightAt : List Cond := .code yX3_heightAt cX3_heightAt 3 (some .int) :: ([.methodLink RX3 25 yX3_cornerAt, .instanceMethod yX3_cornerAt, .selects RX3 yX3_cornerAt yX3_cornerAt, .initialized RX3, .code yX3_cornerAt cX3_cornerAt 3 (some .int), .fieldLink RX3 9 "AlternateSigns$Table" "corners" "[I"] ++ wsX30)
def wsX3_signAt : List Cond := .code yX3_signAt cX3_signAt 3 (some .int) :: ([.methodLink RX3 29 yX3_rowSum, .instanceMethod yX3_rowSum, .selects RX3 yX3_rowSum yX3_rowSum, .initialized RX3, .code yX3_rowSum cX3_rowSum 3 (some .int), .methodLink RX3 25 yX3_cornerAt, .instanceMethod yX3_cornerAt, .selects RX3 yX3_cornerAt yX3_cornerAt, .code yX3_cornerAt cX3_cornerAt 3 (some .int), .fieldLink RX3 9 "AlternateSigns$Table" "corners" "[I"] ++ wsX30)
def wsX3_negatives : List Cond := .code yX3_negatives cX3_negatives 4 (some .int) :: ([.fieldLink RX3 15 "AlternateSigns$Table" "size" "I", .methodLink RX3 32 yX3_signAt, .instanceMethod yX3_signAt, .selects RX3 yX3_signAt yX3_signAt, .initialized RX3, .code yX3_signAt cX3_signAt 3 (some .int), .methodLink RX3 29 yX3_rowSum, .instanceMethod yX3_rowSum, .selects RX3 yX3_rowSum yX3_rowSum, .code yX3_rowSum cX3_rowSum 3 (some .int), .methodLink RX3 25 yX3_cornerAt, .instanceMethod yX3_cornerAt, .selects RX3 yX3_cornerAt yX3_cornerAt, .code yX3_cornerAt cX3_cornerAt 3 (some .int), .fieldLink RX3 9 "AlternateSigns$Table" "corners" "[I"] ++ wsX30)
def wsX3_inversions : List Cond := .code yX3_inversions cX3_inversions 5 (some .int) :: ([.fieldLink RX3 15 "AlternateSigns$Table" "size" "I", .methodLink RX3 25 yX3_cornerAt, .instanceMethod yX3_cornerAt, .selects RX3 yX3_cornerAt yX3_cornerAt, .initialized RX3, .code yX3_cornerAt cX3_cornerAt 3 (some .int), .fieldLink RX3 9 "AlternateSigns$Table" "corners" "[I", .methodLink RX3 32 yX3_signAt, .instanceMethod yX3_signAt, .selects RX3 yX3_signAt yX3_signAt, .code yX3_signAt cX3_signAt 3 (some .int), .methodLink RX3 29 yX3_rowSum, .instanceMethod yX3_rowSum, .selects RX3 yX3_rowSum yX3_rowSum, .code yX3_rowSum cX3_rowSum 3 (some .int)] ++ wsX30)
def wsX3_heightsTogether : List Cond := .code yX3_heightsTogether cX3_heightsTogether 4 (some .int) :: ([.fieldLink RX3 15 "AlternateSigns$Table" "size" "I", .methodLink RX3 35 yX3_heightAt, .instanceMethod yX3_heightAt, .selects RX3 yX3_heightAt yX3_heightAt, .initialized RX3, .code yX3_heightAt cX3_heightAt 3 (some .int), .methodLink RX3 25 yX3_cornerAt, .instanceMethod yX3_cornerAt, .selects RX3 yX3_cornerAt yX3_cornerAt, .code yX3_cornerAt cX3_cornerAt 3 (some .int), .fieldLink RX3 9 "AlternateSigns$Table" "corners" "[I"] ++ wsX30)
def wsX3_flipKind : List Cond := .code yX3_flipKind cX3_flipKind 4 (some .int) :: ([.methodLink RX3 35 yX3_heightAt, .instanceMethod yX3_heightAt, .selects RX3 yX3_heightAt yX3_heightAt, .initialized RX3, .code yX3_heightAt cX3_heightAt 3 (some .int), .methodLink RX3 25 yX3_cornerAt, .instanceMethod yX3_cornerAt, .selects RX3 yX3_cornerAt yX3_cornerAt, .code yX3_cornerAt cX3_cornerAt 3 (some .int), .fieldLink RX3 9 "AlternateSigns$Table" "corners" "[I"] ++ wsX30)
def wsX3_flippable : List Cond := .code yX3_flippable cX3_flippable 4 (some .int) :: ([.fieldLink RX3 15 "AlternateSigns$Table" "size" "I", .methodLink RX3 38 yX3_flipKind, .instanceMethod yX3_flipKind, .selects RX3 yX3_flipKind yX3_flipKind, .initialized RX3, .code yX3_flipKind cX3_flipKind 4 (some .int), .methodLink RX3 35 yX3_heightAt, .instanceMethod yX3_heightAt, .selects RX3 yX3_heightAt yX3_heightAt, .code yX3_heightAt cX3_heightAt 3 (some .int), .methodLink RX3 25 yX3_cornerAt, .instanceMethod yX3_cornerAt, .selects RX3 yX3_cornerAt yX3_cornerAt, .code yX3_cornerAt cX3_cornerAt 3 (some .int), .fieldLink RX3 9 "AlternateSigns$Table" "corners" "[I"] ++ wsX30)
def wsX3_flipAt : List Cond := .code yX3_flipAt cX3_flipAt 4 none :: ([.methodLink RX3 38 yX3_flipKind, .instanceMethod yX3_flipKind, .selects RX3 yX3_flipKind yX3_flipKind, .initialized RX3, .code yX3_flipKind cX3_flipKind 4 (some .int), .methodLink RX3 35 yX3_heightAt, .instanceMethod yX3_heightAt, .selects RX3 yX3_heightAt yX3_heightAt, .code yX3_heightAt cX3_heightAt 3 (some .int), .methodLink RX3 25 yX3_cornerAt, .instanceMethod yX3_cornerAt, .selects RX3 yX3_cornerAt yX3_cornerAt, .code yX3_cornerAt cX3_cornerAt 3 (some .int), .fieldLink RX3 9 "AlternateSigns$Table" "corners" "[I", .methodLink RX3 41 yX3_putCorner, .instanceMethod yX3_putCorner, .selects RX3 yX3_putCorner yX3_putCorner, .code yX3_putCorner cX3_putCorner 4 none] ++ wsX30)
def wsX3_flipAll : List Cond := .code yX3_flipAll cX3_flipAll 5 (some .int) :: ([.fieldLink RX3 15 "AlternateSigns$Table" "size" "I", .methodLink RX3 38 yX3_flipKind, .instanceMethod yX3_flipKind, .selects RX3 yX3_flipKind yX3_flipKind, .initialized RX3, .code yX3_flipKind cX3_flipKind 4 (some .int), .methodLink RX3 35 yX3_heightAt, .instanceMethod yX3_heightAt, .selects RX3 yX3_heightAt yX3_heightAt, .code yX3_heightAt cX3_heightAt 3 (some .int), .methodLink RX3 25 yX3_cornerAt, .instanceMethod yX3_cornerAt, .selects RX3 yX3_cornerAt yX3_cornerAt, .code yX3_cornerAt cX3_cornerAt 3 (some .int), .fieldLink RX3 9 "AlternateSigns$Table" "corners" "[I", .methodLink RX3 49 yX3_flipAt, .instanceMethod yX3_flipAt, .selects RX3 yX3_flipAt yX3_flipAt, .code yX3_flipAt cX3_flipAt 4 none, .methodLink RX3 41 yX3_putCorner, .instanceMethod yX3_putCorner, .selects RX3 yX3_putCorner yX3_putCorner, .code yX3_putCorner cX3_putCorner 4 none] ++ wsX30)
def wsX3_gyrateOnce_r1 : List Cond := [Cond.methodLink RX3 45 yX3_flipAll, Cond.instanceMethod yX3_flipAll, Cond.selects RX3 yX3_flipAll yX3_flipAll, Cond.initialized RX3, Cond.code yX3_flipAll cX3_flipAll 5 (some .int), Cond.fieldLink RX3 15 "AlternateSigns$Table" "size" "I", Cond.methodLink RX3 38 yX3_flipKind, Cond.instanceMethod yX3_flipKind, Cond.selects RX3 yX3_flipKind yX3_flipKind, Cond.code yX3_flipKind cX3_flipKind 4 (some .int), Cond.methodLink RX3 35 yX3_heightAt, Cond.instanceMethod yX3_heightAt, Cond.selects RX3 yX3_heightAt yX3_heightAt, Cond.code yX3_heightAt cX3_heightAt 3 (some .int), Cond.methodLink RX3 25 yX3_cornerAt, Cond.instanceMethod yX3_cornerAt, Cond.selects RX3 yX3_cornerAt yX3_cornerAt, Cond.code yX3_cornerAt cX3_cornerAt 3 (some .int), Cond.fieldLink RX3 9 "AlternateSigns$Table" "corners" "[I", Cond.methodLink RX3 49 yX3_flipAt, Cond.instanceMethod yX3_flipAt, Cond.selects RX3 yX3_flipAt yX3_flipAt, Cond.code yX3_flipAt cX3_flipAt 4 none, Cond.methodLink RX3 41 yX3_putCorner]
def wsX3_gyrateOnce_r2 : List Cond := [Cond.instanceMethod yX3_putCorner, Cond.selects RX3 yX3_putCorner yX3_putCorner, Cond.code yX3_putCorner cX3_putCorner 4 none]
def wsX3_gyrateOnce : List Cond := .code yX3_gyrateOnce cX3_gyrateOnce 1 (some .int) :: ((wsX3_gyrateOnce_r1 ++ wsX3_gyrateOnce_r2) ++ wsX30)
def wsX3_distance : List Cond := .code yX3_distance cX3_distance 5 (some .int) :: ([.fieldLink RX3 15 "AlternateSigns$Table" "size" "I", .methodLink RX3 53 Lib.Math.abs.name, .static Lib.Math.abs.name, .initialized "java/lang/Math", .code Lib.Math.abs.name Lib.Math.abs.code 1 (some .int), .methodLink RX3 25 yX3_cornerAt, .instanceMethod yX3_cornerAt, .selects RX3 yX3_cornerAt yX3_cornerAt, .initialized RX3, .code yX3_cornerAt cX3_cornerAt 3 (some .int), .fieldLink RX3 9 "AlternateSigns$Table" "corners" "[I"] ++ wsX30)
def wsX3_wayTo : List Cond := .code yX3_wayTo cX3_wayTo 5 (some .int) :: ([.methodLink RX3 35 yX3_heightAt, .instanceMethod yX3_heightAt, .selects RX3 yX3_heightAt yX3_heightAt, .initialized RX3, .code yX3_heightAt cX3_heightAt 3 (some .int), .methodLink RX3 25 yX3_cornerAt, .instanceMethod yX3_cornerAt, .selects RX3 yX3_cornerAt yX3_cornerAt, .code yX3_cornerAt cX3_cornerAt 3 (some .int), .fieldLink RX3 9 "AlternateSigns$Table" "corners" "[I"] ++ wsX30)
def wsX3_comesNearer : List Cond := .code yX3_comesNearer cX3_comesNearer 5 (some .boolean) :: ([.methodLink RX3 38 yX3_flipKind, .instanceMethod yX3_flipKind, .selects RX3 yX3_flipKind yX3_flipKind, .initialized RX3, .code yX3_flipKind cX3_flipKind 4 (some .int), .methodLink RX3 35 yX3_heightAt, .instanceMethod yX3_heightAt, .selects RX3 yX3_heightAt yX3_heightAt, .code yX3_heightAt cX3_heightAt 3 (some .int), .methodLink RX3 25 yX3_cornerAt, .instanceMethod yX3_cornerAt, .selects RX3 yX3_cornerAt yX3_cornerAt, .code yX3_cornerAt cX3_cornerAt 3 (some .int), .fieldLink RX3 9 "AlternateSigns$Table" "corners" "[I", .methodLink RX3 58 yX3_wayTo, .instanceMethod yX3_wayTo, .selects RX3 yX3_wayTo yX3_wayTo, .code yX3_wayTo cX3_wayTo 5 (some .int)] ++ wsX30)
def wsX3_takeHeights : List Cond := .code yX3_takeHeights cX3_takeHeights 6 (some .int) :: ([.fieldLink RX3 15 "AlternateSigns$Table" "size" "I", .methodLink RX3 58 yX3_wayTo, .instanceMethod yX3_wayTo, .selects RX3 yX3_wayTo yX3_wayTo, .initialized RX3, .code yX3_wayTo cX3_wayTo 5 (some .int), .methodLink RX3 35 yX3_heightAt, .instanceMethod yX3_heightAt, .selects RX3 yX3_heightAt yX3_heightAt, .code yX3_heightAt cX3_heightAt 3 (some .int), .methodLink RX3 25 yX3_cornerAt, .instanceMethod yX3_cornerAt, .selects RX3 yX3_cornerAt yX3_cornerAt, .code yX3_cornerAt cX3_cornerAt 3 (some .int), .fieldLink RX3 9 "AlternateSigns$Table" "corners" "[I", .methodLink RX3 41 yX3_putCorner, .instanceMethod yX3_putCorner, .selects RX3 yX3_putCorner yX3_putCorner, .code yX3_putCorner cX3_putCorner 4 none] ++ wsX30)
def wsX3_turnedSign : List Cond := .code yX3_turnedSign cX3_turnedSign 5 (some .int) :: ([.fieldLink RX3 15 "AlternateSigns$Table" "size" "I", .methodLink RX3 32 yX3_signAt, .instanceMethod yX3_signAt, .selects RX3 yX3_signAt yX3_signAt, .initialized RX3, .code yX3_signAt cX3_signAt 3 (some .int), .methodLink RX3 29 yX3_rowSum, .instanceMethod yX3_rowSum, .selects RX3 yX3_rowSum yX3_rowSum, .code yX3_rowSum cX3_rowSum 3 (some .int), .methodLink RX3 25 yX3_cornerAt, .instanceMethod yX3_cornerAt, .selects RX3 yX3_cornerAt yX3_cornerAt, .code yX3_cornerAt cX3_cornerAt 3 (some .int), .fieldLink RX3 9 "AlternateSigns$Table" "corners" "[I"] ++ wsX30)
def wsX3_putTurned : List Cond := .code yX3_putTurned cX3_putTurned 6 none :: ([.fieldLink RX3 15 "AlternateSigns$Table" "size" "I", .methodLink RX3 62 yX3_turnedSign, .instanceMethod yX3_turnedSign, .selects RX3 yX3_turnedSign yX3_turnedSign, .initialized RX3, .code yX3_turnedSign cX3_turnedSign 5 (some .int), .methodLink RX3 32 yX3_signAt, .instanceMethod yX3_signAt, .selects RX3 yX3_signAt yX3_signAt, .code yX3_signAt cX3_signAt 3 (some .int), .methodLink RX3 29 yX3_rowSum, .instanceMethod yX3_rowSum, .selects RX3 yX3_rowSum yX3_rowSum, .code yX3_rowSum cX3_rowSum 3 (some .int), .methodLink RX3 25 yX3_cornerAt, .instanceMethod yX3_cornerAt, .selects RX3 yX3_cornerAt yX3_cornerAt, .code yX3_cornerAt cX3_cornerAt 3 (some .int), .fieldLink RX3 9 "AlternateSigns$Table" "corners" "[I", .methodLink RX3 41 yX3_putCorner, .instanceMethod yX3_putCorner, .selects RX3 yX3_putCorner yX3_putCorner, .code yX3_putCorner cX3_putCorner 4 none] ++ wsX30)
def wsX3_unlikeSigns : List Cond := .code yX3_unlikeSigns cX3_unlikeSigns 5 (some .int) :: ([.fieldLink RX3 15 "AlternateSigns$Table" "size" "I", .methodLink RX3 32 yX3_signAt, .instanceMethod yX3_signAt, .selects RX3 yX3_signAt yX3_signAt, .initialized RX3, .code yX3_signAt cX3_signAt 3 (some .int), .methodLink RX3 29 yX3_rowSum, .instanceMethod yX3_rowSum, .selects RX3 yX3_rowSum yX3_rowSum, .code yX3_rowSum cX3_rowSum 3 (some .int), .methodLink RX3 25 yX3_cornerAt, .instanceMethod yX3_cornerAt, .selects RX3 yX3_cornerAt yX3_cornerAt, .code yX3_cornerAt cX3_cornerAt 3 (some .int), .fieldLink RX3 9 "AlternateSigns$Table" "corners" "[I"] ++ wsX30)
def wsX3_drawnEdges : List Cond := .code yX3_drawnEdges cX3_drawnEdges 4 (some .int) :: ([.fieldLink RX3 15 "AlternateSigns$Table" "size" "I", .methodLink RX3 69 yX3_isDrawnAcross, .instanceMethod yX3_isDrawnAcross, .selects RX3 yX3_isDrawnAcross yX3_isDrawnAcross, .initialized RX3, .code yX3_isDrawnAcross cX3_isDrawnAcross 3 (some .boolean), .methodLink RX3 29 yX3_rowSum, .instanceMethod yX3_rowSum, .selects RX3 yX3_rowSum yX3_rowSum, .code yX3_rowSum cX3_rowSum 3 (some .int), .methodLink RX3 25 yX3_cornerAt, .instanceMethod yX3_cornerAt, .selects RX3 yX3_cornerAt yX3_cornerAt, .code yX3_cornerAt cX3_cornerAt 3 (some .int), .fieldLink RX3 9 "AlternateSigns$Table" "corners" "[I", .methodLink RX3 73 yX3_isDrawnDown, .instanceMethod yX3_isDrawnDown, .selects RX3 yX3_isDrawnDown yX3_isDrawnDown, .code yX3_isDrawnDown cX3_isDrawnDown 3 (some .boolean), .methodLink RX3 66 yX3_columnSum, .instanceMethod yX3_columnSum, .selects RX3 yX3_columnSum yX3_columnSum, .code yX3_columnSum cX3_columnSum 3 (some .int)] ++ wsX30)
def wsX4_init : List Cond := .code yX4_init cX4_init 1 none :: ([.methodLink RX4 3 objectInit, .instanceMethod objectInit, .code objectInit ⟨#[0xb1]⟩ 1 none, .arrayClass .char, .fieldLink RX4 9 "AlternateSigns$Text" "letters" "[C", .classLink RX4 15 RX3, .instantiable RX3 2, .initialized RX3, .fieldLink RX4 18 "AlternateSigns$Text" "draft" "LAlternateSigns$Table;", .instanceMethod yX3_init, .code yX3_init cX3_init 1 none, .methodLink RX3 3 objectInit, .arrayClass .int, .fieldLink RX3 9 "AlternateSigns$Table" "corners" "[I"] ++ wsX40 ++ wsX30)
def wsX4_add : List Cond := .code yX4_add cX4_add 2 none :: ([.fieldLink RX4 22 "AlternateSigns$Text" "length" "I", .fieldLink RX4 9 "AlternateSigns$Text" "letters" "[C"] ++ wsX40)
def wsX4_startRow : List Cond := .code yX4_startRow cX4_startRow 1 none :: ([.fieldLink RX4 43 "AlternateSigns$Text" "rowLength" "I", .fieldLink RX4 46 "AlternateSigns$Text" "rowSum" "I"] ++ wsX40)
def wsX4_isWhole : List Cond := .code yX4_isWhole cX4_isWhole 1 (some .boolean) :: ([.fieldLink RX4 18 "AlternateSigns$Text" "draft" "LAlternateSigns$Table;", .fieldLink RX4 26 "AlternateSigns$Table" "size" "I", .fieldLink RX4 29 "AlternateSigns$Text" "rowsEnded" "I"] ++ wsX40 ++ wsX30)
def wsX4_canEndRow : List Cond := .code yX4_canEndRow cX4_canEndRow 1 (some .boolean) :: ([.fieldLink RX4 43 "AlternateSigns$Text" "rowLength" "I", .fieldLink RX4 18 "AlternateSigns$Text" "draft" "LAlternateSigns$Table;", .fieldLink RX4 26 "AlternateSigns$Table" "size" "I", .fieldLink RX4 46 "AlternateSigns$Text" "rowSum" "I", .fieldLink RX4 29 "AlternateSigns$Text" "rowsEnded" "I", .methodLink RX4 32 yX4_startRow, .instanceMethod yX4_startRow, .selects RX4 yX4_startRow yX4_startRow, .initialized RX4, .code yX4_startRow cX4_startRow 1 none] ++ wsX40 ++ wsX30)
def wsX4_canPut : List Cond := .code yX4_canPut cX4_canPut 4 (some .boolean) :: ([.fieldLink RX4 18 "AlternateSigns$Text" "draft" "LAlternateSigns$Table;", .fieldLink RX4 26 "AlternateSigns$Table" "size" "I", .fieldLink RX4 43 "AlternateSigns$Text" "rowLength" "I", .fieldLink RX4 46 "AlternateSigns$Text" "rowSum" "I", .fieldLink RX4 29 "AlternateSigns$Text" "rowsEnded" "I", .methodLink RX4 56 yX3_cornerAt, .instanceMethod yX3_cornerAt, .selects RX3 yX3_cornerAt yX3_cornerAt, .initialized RX3, .code yX3_cornerAt cX3_cornerAt 3 (some .int), .fieldLink RX3 9 "AlternateSigns$Table" "corners" "[I", .methodLink RX4 60 yX3_putCorner, .instanceMethod yX3_putCorner, .selects RX3 yX3_putCorner yX3_putCorner, .code yX3_putCorner cX3_putCorner 4 none, .static yX5_isBetween, .initialized RX5, .code yX5_isBetween cX5_isBetween 3 (some .boolean), .methodLink RX4 68 yX3_columnSum, .instanceMethod yX3_columnSum, .selects RX3 yX3_columnSum yX3_columnSum, .code yX3_columnSum cX3_columnSum 3 (some .int), .methodLink RX3 25 yX3_cornerAt] ++ wsX40 ++ wsX30)
def wsX4_canStand_r1 : List Cond := [Cond.methodLink RX4 39 yX4_isWhole, Cond.instanceMethod yX4_isWhole, Cond.selects RX4 yX4_isWhole yX4_isWhole, Cond.initialized RX4, Cond.code yX4_isWhole cX4_isWhole 1 (some .boolean), Cond.fieldLink RX4 18 "AlternateSigns$Text" "draft" "LAlternateSigns$Table;", Cond.fieldLink RX4 26 "AlternateSigns$Table" "size" "I", Cond.fieldLink RX4 29 "AlternateSigns$Text" "rowsEnded" "I", Cond.methodLink RX4 49 yX4_canEndRow, Cond.instanceMethod yX4_canEndRow, Cond.selects RX4 yX4_canEndRow yX4_canEndRow, Cond.code yX4_canEndRow cX4_canEndRow 1 (some .boolean), Cond.fieldLink RX4 43 "AlternateSigns$Text" "rowLength" "I", Cond.fieldLink RX4 46 "AlternateSigns$Text" "rowSum" "I", Cond.methodLink RX4 32 yX4_startRow, Cond.instanceMethod yX4_startRow, Cond.selects RX4 yX4_startRow yX4_startRow, Cond.code yX4_startRow cX4_startRow 1 none, Cond.methodLink RX4 52 yX4_canPut, Cond.instanceMethod yX4_canPut, Cond.selects RX4 yX4_canPut yX4_canPut, Cond.code yX4_canPut cX4_canPut 4 (some .boolean), Cond.methodLink RX4 56 yX3_cornerAt, Cond.instanceMethod yX3_cornerAt]
def wsX4_canStand_r2 : List Cond := [Cond.selects RX3 yX3_cornerAt yX3_cornerAt, Cond.initialized RX3, Cond.code yX3_cornerAt cX3_cornerAt 3 (some .int), Cond.fieldLink RX3 9 "AlternateSigns$Table" "corners" "[I", Cond.methodLink RX4 60 yX3_putCorner, Cond.instanceMethod yX3_putCorner, Cond.selects RX3 yX3_putCorner yX3_putCorner, Cond.code yX3_putCorner cX3_putCorner 4 none, Cond.static yX5_isBetween, Cond.initialized RX5, Cond.code yX5_isBetween cX5_isBetween 3 (some .boolean), Cond.methodLink RX4 68 yX3_columnSum, Cond.instanceMethod yX3_columnSum, Cond.selects RX3 yX3_columnSum yX3_columnSum, Cond.code yX3_columnSum cX3_columnSum 3 (some .int), Cond.methodLink RX3 25 yX3_cornerAt]
def wsX4_canStand : List Cond := .code yX4_canStand cX4_canStand 2 (some .boolean) :: ((wsX4_canStand_r1 ++ wsX4_canStand_r2) ++ wsX40 ++ wsX30)
def wsX4_firstFault_r1 : List Cond := [Cond.fieldLink RX4 18 "AlternateSigns$Text" "draft" "LAlternateSigns$Table;", Cond.fieldLink RX4 26 "AlternateSigns$Table" "size" "I", Cond.fieldLink RX4 29 "AlternateSigns$Text" "rowsEnded" "I", Cond.fieldLink RX4 22 "AlternateSigns$Text" "length" "I", Cond.fieldLink RX4 9 "AlternateSigns$Text" "letters" "[C", Cond.methodLink RX4 32 yX4_startRow, Cond.instanceMethod yX4_startRow, Cond.selects RX4 yX4_startRow yX4_startRow, Cond.initialized RX4, Cond.code yX4_startRow cX4_startRow 1 none, Cond.fieldLink RX4 43 "AlternateSigns$Text" "rowLength" "I", Cond.fieldLink RX4 46 "AlternateSigns$Text" "rowSum" "I", Cond.methodLink RX4 35 yX4_canStand, Cond.instanceMethod yX4_canStand, Cond.selects RX4 yX4_canStand yX4_canStand, Cond.code yX4_canStand cX4_canStand 2 (some .boolean), Cond.methodLink RX4 39 yX4_isWhole, Cond.instanceMethod yX4_isWhole, Cond.selects RX4 yX4_isWhole yX4_isWhole, Cond.code yX4_isWhole cX4_isWhole 1 (some .boolean), Cond.methodLink RX4 49 yX4_canEndRow, Cond.instanceMethod yX4_canEndRow, Cond.selects RX4 yX4_canEndRow yX4_canEndRow, Cond.code yX4_canEndRow cX4_canEndRow 1 (some .boolean)]
def wsX4_firstFault_r2 : List Cond := [Cond.methodLink RX4 52 yX4_canPut, Cond.instanceMethod yX4_canPut, Cond.selects RX4 yX4_canPut yX4_canPut, Cond.code yX4_canPut cX4_canPut 4 (some .boolean), Cond.methodLink RX4 56 yX3_cornerAt, Cond.instanceMethod yX3_cornerAt, Cond.selects RX3 yX3_cornerAt yX3_cornerAt, Cond.initialized RX3, Cond.code yX3_cornerAt cX3_cornerAt 3 (some .int), Cond.fieldLink RX3 9 "AlternateSigns$Table" "corners" "[I", Cond.methodLink RX4 60 yX3_putCorner, Cond.instanceMethod yX3_putCorner, Cond.selects RX3 yX3_putCorner yX3_putCorner, Cond.code yX3_putCorner cX3_putCorner 4 none, Cond.static yX5_isBetween, Cond.initialized RX5, Cond.code yX5_isBetween cX5_isBetween 3 (some .boolean), Cond.methodLink RX4 68 yX3_columnSum, Cond.instanceMethod yX3_columnSum, Cond.selects RX3 yX3_columnSum yX3_columnSum, Cond.code yX3_columnSum cX3_columnSum 3 (some .int), Cond.methodLink RX3 25 yX3_cornerAt]
def wsX4_firstFault : List Cond := .code yX4_firstFault cX4_firstFault 2 (some .int) :: ((wsX4_firstFault_r1 ++ wsX4_firstFault_r2) ++ wsX40 ++ wsX30)
def wsJ0_coder_7d493 : List Cond := .code yJ0_coder_7d493 cJ0_coder_7d493 1 (some .byte) :: ([.fieldLink RJ0 38 "java/lang/String" "COMPACT_STRINGS" "Z", .fieldLink RJ0 15 "java/lang/String" "coder" "B"])
def wsJ0_length_8abf5 : List Cond := .code yJ0_length_8abf5 cJ0_length_8abf5 1 (some .int) :: ([.fieldLink RJ0 9 "java/lang/String" "value" "[B", .methodLink RJ0 335 yJ0_coder_7d493, .instanceMethod yJ0_coder_7d493, .selects RJ0 yJ0_coder_7d493 yJ0_coder_7d493, .initialized RJ0, .code yJ0_coder_7d493 cJ0_coder_7d493 1 (some .byte), .fieldLink RJ0 38 "java/lang/String" "COMPACT_STRINGS" "Z", .fieldLink RJ0 15 "java/lang/String" "coder" "B"])
def wsJ0_isLatin1_aae02 : List Cond := .code yJ0_isLatin1_aae02 cJ0_isLatin1_aae02 1 (some .boolean) :: ([.fieldLink RJ0 38 "java/lang/String" "COMPACT_STRINGS" "Z", .fieldLink RJ0 15 "java/lang/String" "coder" "B"])
def wsJ3_checkIndex_8e157 : List Cond := .code yJ3_checkIndex_8e157 cJ3_checkIndex_8e157 3 (some .int) :: ([])
def wsJ0_checkIndex_df160 : List Cond := .code yJ0_checkIndex_df160 cJ0_checkIndex_df160 2 none :: ([.fieldLink RJ0 1053 "jdk/internal/util/Preconditions" "SIOOBE_FORMATTER" "Ljava/util/function/BiFunction;", .methodLink RJ0 1059 yJ3_checkIndex_8e157, .static yJ3_checkIndex_8e157, .initialized RJ3, .code yJ3_checkIndex_8e157 cJ3_checkIndex_8e157 3 (some .int)])
def wsJ1_charAt_3b067 : List Cond := .code yJ1_charAt_3b067 cJ1_charAt_3b067 2 (some .char) :: ([.methodLink RJ1 9 yJ0_checkIndex_df160, .static yJ0_checkIndex_df160, .initialized RJ0, .code yJ0_checkIndex_df160 cJ0_checkIndex_df160 2 none, .fieldLink RJ0 1053 "jdk/internal/util/Preconditions" "SIOOBE_FORMATTER" "Ljava/util/function/BiFunction;", .methodLink RJ0 1059 yJ3_checkIndex_8e157, .static yJ3_checkIndex_8e157, .initialized RJ3, .code yJ3_checkIndex_8e157 cJ3_checkIndex_8e157 3 (some .int)])
def wsJ2_length_9d52b : List Cond := .code yJ2_length_9d52b cJ2_length_9d52b 1 (some .int) :: ([])
def wsJ2_checkIndex_2214a : List Cond := .code yJ2_checkIndex_2214a cJ2_checkIndex_2214a 2 none :: ([.methodLink RJ2 48 yJ2_length_9d52b, .static yJ2_length_9d52b, .initialized RJ2, .code yJ2_length_9d52b cJ2_length_9d52b 1 (some .int), .methodLink RJ2 414 yJ0_checkIndex_df160, .static yJ0_checkIndex_df160, .initialized RJ0, .code yJ0_checkIndex_df160 cJ0_checkIndex_df160 2 none, .fieldLink RJ0 1053 "jdk/internal/util/Preconditions" "SIOOBE_FORMATTER" "Ljava/util/function/BiFunction;", .methodLink RJ0 1059 yJ3_checkIndex_8e157, .static yJ3_checkIndex_8e157, .initialized RJ3, .code yJ3_checkIndex_8e157 cJ3_checkIndex_8e157 3 (some .int)])
def wsJ2_getChar_3b067 : List Cond := .code yJ2_getChar_3b067 cJ2_getChar_3b067 2 (some .char) :: ([.fieldLink RJ2 44 "java/lang/StringUTF16" "$assertionsDisabled" "Z", .fieldLink RJ2 59 "java/lang/StringUTF16" "HI_BYTE_SHIFT" "I", .fieldLink RJ2 63 "java/lang/StringUTF16" "LO_BYTE_SHIFT" "I", .methodLink RJ2 48 yJ2_length_9d52b, .static yJ2_length_9d52b, .initialized RJ2, .code yJ2_length_9d52b cJ2_length_9d52b 1 (some .int)])
def wsJ2_charAt_3b067 : List Cond := .code yJ2_charAt_3b067 cJ2_charAt_3b067 2 (some .char) :: ([.methodLink RJ2 67 yJ2_checkIndex_2214a, .static yJ2_checkIndex_2214a, .initialized RJ2, .code yJ2_checkIndex_2214a cJ2_checkIndex_2214a 2 none, .methodLink RJ2 48 yJ2_length_9d52b, .static yJ2_length_9d52b, .code yJ2_length_9d52b cJ2_length_9d52b 1 (some .int), .methodLink RJ2 414 yJ0_checkIndex_df160, .static yJ0_checkIndex_df160, .initialized RJ0, .code yJ0_checkIndex_df160 cJ0_checkIndex_df160 2 none, .fieldLink RJ0 1053 "jdk/internal/util/Preconditions" "SIOOBE_FORMATTER" "Ljava/util/function/BiFunction;", .methodLink RJ0 1059 yJ3_checkIndex_8e157, .static yJ3_checkIndex_8e157, .initialized RJ3, .code yJ3_checkIndex_8e157 cJ3_checkIndex_8e157 3 (some .int), .methodLink RJ2 71 yJ2_getChar_3b067, .static yJ2_getChar_3b067, .code yJ2_getChar_3b067 cJ2_getChar_3b067 2 (some .char), .fieldLink RJ2 44 "java/lang/StringUTF16" "$assertionsDisabled" "Z", .fieldLink RJ2 59 "java/lang/StringUTF16" "HI_BYTE_SHIFT" "I", .fieldLink RJ2 63 "java/lang/StringUTF16" "LO_BYTE_SHIFT" "I"])
def wsJ0_charAt_5068e_r1 : List Cond := [Cond.fieldLink RJ0 9 "java/lang/String" "value" "[B", Cond.methodLink RJ0 492 yJ0_isLatin1_aae02, Cond.instanceMethod yJ0_isLatin1_aae02, Cond.selects RJ0 yJ0_isLatin1_aae02 yJ0_isLatin1_aae02, Cond.initialized RJ0, Cond.code yJ0_isLatin1_aae02 cJ0_isLatin1_aae02 1 (some .boolean), Cond.fieldLink RJ0 38 "java/lang/String" "COMPACT_STRINGS" "Z", Cond.fieldLink RJ0 15 "java/lang/String" "coder" "B", Cond.methodLink RJ0 495 yJ1_charAt_3b067, Cond.static yJ1_charAt_3b067, Cond.initialized RJ1, Cond.code yJ1_charAt_3b067 cJ1_charAt_3b067 2 (some .char), Cond.methodLink RJ1 9 yJ0_checkIndex_df160, Cond.static yJ0_checkIndex_df160, Cond.code yJ0_checkIndex_df160 cJ0_checkIndex_df160 2 none, Cond.fieldLink RJ0 1053 "jdk/internal/util/Preconditions" "SIOOBE_FORMATTER" "Ljava/util/function/BiFunction;", Cond.methodLink RJ0 1059 yJ3_checkIndex_8e157, Cond.static yJ3_checkIndex_8e157, Cond.initialized RJ3, Cond.code yJ3_checkIndex_8e157 cJ3_checkIndex_8e157 3 (some .int), Cond.methodLink RJ0 498 yJ2_charAt_3b067, Cond.static yJ2_charAt_3b067, Cond.initialized RJ2, Cond.code yJ2_charAt_3b067 cJ2_charAt_3b067 2 (some .char)]
def wsJ0_charAt_5068e_r2 : List Cond := [Cond.methodLink RJ2 67 yJ2_checkIndex_2214a, Cond.static yJ2_checkIndex_2214a, Cond.code yJ2_checkIndex_2214a cJ2_checkIndex_2214a 2 none, Cond.methodLink RJ2 48 yJ2_length_9d52b, Cond.static yJ2_length_9d52b, Cond.code yJ2_length_9d52b cJ2_length_9d52b 1 (some .int), Cond.methodLink RJ2 414 yJ0_checkIndex_df160, Cond.methodLink RJ2 71 yJ2_getChar_3b067, Cond.static yJ2_getChar_3b067, Cond.code yJ2_getChar_3b067 cJ2_getChar_3b067 2 (some .char), Cond.fieldLink RJ2 44 "java/lang/StringUTF16" "$assertionsDisabled" "Z", Cond.fieldLink RJ2 59 "java/lang/StringUTF16" "HI_BYTE_SHIFT" "I", Cond.fieldLink RJ2 63 "java/lang/StringUTF16" "LO_BYTE_SHIFT" "I"]
def wsJ0_charAt_5068e : List Cond := .code yJ0_charAt_5068e cJ0_charAt_5068e 2 (some .char) :: ((wsJ0_charAt_5068e_r1 ++ wsJ0_charAt_5068e_r2))
def wsX5_init_r1 : List Cond := [Cond.methodLink RX5 3 objectInit, Cond.instanceMethod objectInit, Cond.code objectInit ⟨#[0xb1]⟩ 1 none, Cond.classLink RX5 9 RX4, Cond.instantiable RX4 6, Cond.initialized RX4, Cond.fieldLink RX5 12 "AlternateSigns" "text" "LAlternateSigns$Text;", Cond.classLink RX5 16 RX3, Cond.instantiable RX3 2, Cond.initialized RX3, Cond.fieldLink RX5 19 "AlternateSigns" "table" "LAlternateSigns$Table;", Cond.fieldLink RX5 23 "AlternateSigns" "other" "LAlternateSigns$Table;", Cond.fieldLink RX5 26 "AlternateSigns" "spare" "LAlternateSigns$Table;", Cond.classLink RX5 29 RX2, Cond.instantiable RX2 3, Cond.initialized RX2, Cond.fieldLink RX5 32 "AlternateSigns" "past" "LAlternateSigns$Past;", Cond.classLink RX5 36 RX1, Cond.instantiable RX1 11, Cond.initialized RX1, Cond.fieldLink RX5 39 "AlternateSigns" "lines" "LAlternateSigns$Lines;", Cond.classLink RX5 43 RX0, Cond.fieldLink RX5 45 "AlternateSigns" "sizes" "[LAlternateSigns$AllOfSize;", Cond.instantiable RX0 7]
def wsX5_init_r2 : List Cond := [Cond.initialized RX0, Cond.fieldLink RX5 71 "AlternateSigns$Text" "draft" "LAlternateSigns$Table;", Cond.fieldLink RX5 78 "AlternateSigns$Text" "length" "I", Cond.instanceMethod yX4_init, Cond.code yX4_init cX4_init 1 none, Cond.methodLink RX4 3 objectInit, Cond.arrayClass .char, Cond.fieldLink RX4 9 "AlternateSigns$Text" "letters" "[C", Cond.classLink RX4 15 RX3, Cond.fieldLink RX4 18 "AlternateSigns$Text" "draft" "LAlternateSigns$Table;", Cond.instanceMethod yX3_init, Cond.code yX3_init cX3_init 1 none, Cond.methodLink RX3 3 objectInit, Cond.arrayClass .int, Cond.fieldLink RX3 9 "AlternateSigns$Table" "corners" "[I", Cond.methodLink RX5 31 yX2_init, Cond.instanceMethod yX2_init, Cond.code yX2_init cX2_init 2 none, Cond.methodLink RX2 3 objectInit, Cond.classLink RX2 9 RX3, Cond.fieldLink RX2 11 "AlternateSigns$Past" "tables" "[LAlternateSigns$Table;", Cond.instanceMethod yX1_init, Cond.code yX1_init cX1_init 1 none, Cond.methodLink RX1 3 objectInit]
def wsX5_init_r3 : List Cond := [Cond.fieldLink RX1 9 "AlternateSigns$Lines" "partners" "[I", Cond.fieldLink RX1 15 "AlternateSigns$Lines" "lengths" "[I", Cond.fieldLink RX1 18 "AlternateSigns$Lines" "open" "[I", Cond.fieldLink RX1 21 "AlternateSigns$Lines" "endAtRim" "[I", Cond.methodLink RX5 49 yX0_init, Cond.instanceMethod yX0_init, Cond.code yX0_init cX0_init 2 none, Cond.methodLink RX0 3 objectInit, Cond.fieldLink RX0 9 "AlternateSigns$AllOfSize" "endings" "[I", Cond.arrayClass .long, Cond.fieldLink RX0 15 "AlternateSigns$AllOfSize" "codes" "[J", Cond.fieldLink RX0 19 "AlternateSigns$AllOfSize" "tally" "[I", Cond.fieldLink RX0 22 "AlternateSigns$AllOfSize" "size" "I", Cond.fieldLink RX0 26 "AlternateSigns$AllOfSize" "masks" "I", Cond.methodLink RX5 54 yJ0_length_8abf5, Cond.instanceMethod yJ0_length_8abf5, Cond.selects RJ0 yJ0_length_8abf5 yJ0_length_8abf5, Cond.initialized RJ0, Cond.code yJ0_length_8abf5 cJ0_length_8abf5 1 (some .int), Cond.fieldLink RJ0 9 "java/lang/String" "value" "[B", Cond.methodLink RJ0 335 yJ0_coder_7d493, Cond.instanceMethod yJ0_coder_7d493, Cond.selects RJ0 yJ0_coder_7d493 yJ0_coder_7d493, Cond.code yJ0_coder_7d493 cJ0_coder_7d493 1 (some .byte)]
def wsX5_init_r4 : List Cond := [Cond.fieldLink RJ0 38 "java/lang/String" "COMPACT_STRINGS" "Z", Cond.fieldLink RJ0 15 "java/lang/String" "coder" "B", Cond.methodLink RX5 60 yJ0_charAt_5068e, Cond.instanceMethod yJ0_charAt_5068e, Cond.selects RJ0 yJ0_charAt_5068e yJ0_charAt_5068e, Cond.code yJ0_charAt_5068e cJ0_charAt_5068e 2 (some .char), Cond.methodLink RJ0 492 yJ0_isLatin1_aae02, Cond.instanceMethod yJ0_isLatin1_aae02, Cond.selects RJ0 yJ0_isLatin1_aae02 yJ0_isLatin1_aae02, Cond.code yJ0_isLatin1_aae02 cJ0_isLatin1_aae02 1 (some .boolean), Cond.methodLink RJ0 495 yJ1_charAt_3b067, Cond.static yJ1_charAt_3b067, Cond.initialized RJ1, Cond.code yJ1_charAt_3b067 cJ1_charAt_3b067 2 (some .char), Cond.methodLink RJ1 9 yJ0_checkIndex_df160, Cond.static yJ0_checkIndex_df160, Cond.code yJ0_checkIndex_df160 cJ0_checkIndex_df160 2 none, Cond.fieldLink RJ0 1053 "jdk/internal/util/Preconditions" "SIOOBE_FORMATTER" "Ljava/util/function/BiFunction;", Cond.methodLink RJ0 1059 yJ3_checkIndex_8e157, Cond.static yJ3_checkIndex_8e157, Cond.initialized RJ3, Cond.code yJ3_checkIndex_8e157 cJ3_checkIndex_8e157 3 (some .int), Cond.methodLink RJ0 498 yJ2_charAt_3b067, Cond.static yJ2_charAt_3b067]
def wsX5_init_r5 : List Cond := [Cond.initialized RJ2, Cond.code yJ2_charAt_3b067 cJ2_charAt_3b067 2 (some .char), Cond.methodLink RJ2 67 yJ2_checkIndex_2214a, Cond.static yJ2_checkIndex_2214a, Cond.code yJ2_checkIndex_2214a cJ2_checkIndex_2214a 2 none, Cond.methodLink RJ2 48 yJ2_length_9d52b, Cond.static yJ2_length_9d52b, Cond.code yJ2_length_9d52b cJ2_length_9d52b 1 (some .int), Cond.methodLink RJ2 414 yJ0_checkIndex_df160, Cond.methodLink RJ2 71 yJ2_getChar_3b067, Cond.static yJ2_getChar_3b067, Cond.code yJ2_getChar_3b067 cJ2_getChar_3b067 2 (some .char), Cond.fieldLink RJ2 44 "java/lang/StringUTF16" "$assertionsDisabled" "Z", Cond.fieldLink RJ2 59 "java/lang/StringUTF16" "HI_BYTE_SHIFT" "I", Cond.fieldLink RJ2 63 "java/lang/StringUTF16" "LO_BYTE_SHIFT" "I", Cond.methodLink RX5 64 yX4_add, Cond.instanceMethod yX4_add, Cond.selects RX4 yX4_add yX4_add, Cond.code yX4_add cX4_add 2 none, Cond.fieldLink RX4 22 "AlternateSigns$Text" "length" "I", Cond.methodLink RX5 68 yX4_firstFault, Cond.instanceMethod yX4_firstFault, Cond.selects RX4 yX4_firstFault yX4_firstFault, Cond.code yX4_firstFault cX4_firstFault 2 (some .int)]
def wsX5_init_r6 : List Cond := [Cond.fieldLink RX4 26 "AlternateSigns$Table" "size" "I", Cond.fieldLink RX4 29 "AlternateSigns$Text" "rowsEnded" "I", Cond.methodLink RX4 32 yX4_startRow, Cond.instanceMethod yX4_startRow, Cond.selects RX4 yX4_startRow yX4_startRow, Cond.code yX4_startRow cX4_startRow 1 none, Cond.fieldLink RX4 43 "AlternateSigns$Text" "rowLength" "I", Cond.fieldLink RX4 46 "AlternateSigns$Text" "rowSum" "I", Cond.methodLink RX4 35 yX4_canStand, Cond.instanceMethod yX4_canStand, Cond.selects RX4 yX4_canStand yX4_canStand, Cond.code yX4_canStand cX4_canStand 2 (some .boolean), Cond.methodLink RX4 39 yX4_isWhole, Cond.instanceMethod yX4_isWhole, Cond.selects RX4 yX4_isWhole yX4_isWhole, Cond.code yX4_isWhole cX4_isWhole 1 (some .boolean), Cond.methodLink RX4 49 yX4_canEndRow, Cond.instanceMethod yX4_canEndRow, Cond.selects RX4 yX4_canEndRow yX4_canEndRow, Cond.code yX4_canEndRow cX4_canEndRow 1 (some .boolean), Cond.methodLink RX4 52 yX4_canPut, Cond.instanceMethod yX4_canPut, Cond.selects RX4 yX4_canPut yX4_canPut, Cond.code yX4_canPut cX4_canPut 4 (some .boolean)]
def wsX5_init_r7 : List Cond := [Cond.methodLink RX4 56 yX3_cornerAt, Cond.instanceMethod yX3_cornerAt, Cond.selects RX3 yX3_cornerAt yX3_cornerAt, Cond.code yX3_cornerAt cX3_cornerAt 3 (some .int), Cond.methodLink RX4 60 yX3_putCorner, Cond.instanceMethod yX3_putCorner, Cond.selects RX3 yX3_putCorner yX3_putCorner, Cond.code yX3_putCorner cX3_putCorner 4 none, Cond.static yX5_isBetween, Cond.initialized RX5, Cond.code yX5_isBetween cX5_isBetween 3 (some .boolean), Cond.methodLink RX4 68 yX3_columnSum, Cond.instanceMethod yX3_columnSum, Cond.selects RX3 yX3_columnSum yX3_columnSum, Cond.code yX3_columnSum cX3_columnSum 3 (some .int), Cond.methodLink RX3 25 yX3_cornerAt, Cond.methodLink RX5 74 yX3_copy, Cond.instanceMethod yX3_copy, Cond.selects RX3 yX3_copy yX3_copy, Cond.code yX3_copy cX3_copy 2 none, Cond.fieldLink RX3 15 "AlternateSigns$Table" "size" "I", Cond.methodLink RX3 19 arraycopyName, Cond.native arraycopyName, Cond.static arraycopyName]
def wsX5_init_r8 : List Cond := [Cond.initialized "java/lang/System"]
def wsX5_init : List Cond := .code yX5_init cX5_init 2 none :: ((wsX5_init_r1 ++ (wsX5_init_r2 ++ (wsX5_init_r3 ++ (wsX5_init_r4 ++ (wsX5_init_r5 ++ (wsX5_init_r6 ++ (wsX5_init_r7 ++ wsX5_init_r8))))))) ++ wsX40 ++ wsX50 ++ wsX30 ++ wsX20 ++ wsX10 ++ wsX00)
def wsX5_write : List Cond := .code yX5_write cX5_write 2 (some .int) :: ([.fieldLink RX5 12 "AlternateSigns" "text" "LAlternateSigns$Text;", .fieldLink RX5 78 "AlternateSigns$Text" "length" "I", .methodLink RX5 64 yX4_add, .instanceMethod yX4_add, .selects RX4 yX4_add yX4_add, .initialized RX4, .code yX4_add cX4_add 2 none, .fieldLink RX4 22 "AlternateSigns$Text" "length" "I", .fieldLink RX4 9 "AlternateSigns$Text" "letters" "[C"] ++ wsX50 ++ wsX40)
def wsX5_wipe : List Cond := .code yX5_wipe cX5_wipe 2 (some .int) :: ([.fieldLink RX5 12 "AlternateSigns" "text" "LAlternateSigns$Text;", .fieldLink RX5 78 "AlternateSigns$Text" "length" "I"] ++ wsX50 ++ wsX40)
def wsX5_fault_r1 : List Cond := [Cond.fieldLink RX5 12 "AlternateSigns" "text" "LAlternateSigns$Text;", Cond.methodLink RX5 68 yX4_firstFault, Cond.instanceMethod yX4_firstFault, Cond.selects RX4 yX4_firstFault yX4_firstFault, Cond.initialized RX4, Cond.code yX4_firstFault cX4_firstFault 2 (some .int), Cond.fieldLink RX4 18 "AlternateSigns$Text" "draft" "LAlternateSigns$Table;", Cond.fieldLink RX4 26 "AlternateSigns$Table" "size" "I", Cond.fieldLink RX4 29 "AlternateSigns$Text" "rowsEnded" "I", Cond.fieldLink RX4 22 "AlternateSigns$Text" "length" "I", Cond.fieldLink RX4 9 "AlternateSigns$Text" "letters" "[C", Cond.methodLink RX4 32 yX4_startRow, Cond.instanceMethod yX4_startRow, Cond.selects RX4 yX4_startRow yX4_startRow, Cond.code yX4_startRow cX4_startRow 1 none, Cond.fieldLink RX4 43 "AlternateSigns$Text" "rowLength" "I", Cond.fieldLink RX4 46 "AlternateSigns$Text" "rowSum" "I", Cond.methodLink RX4 35 yX4_canStand, Cond.instanceMethod yX4_canStand, Cond.selects RX4 yX4_canStand yX4_canStand, Cond.code yX4_canStand cX4_canStand 2 (some .boolean), Cond.methodLink RX4 39 yX4_isWhole, Cond.instanceMethod yX4_isWhole, Cond.selects RX4 yX4_isWhole yX4_isWhole]
def wsX5_fault_r2 : List Cond := [Cond.code yX4_isWhole cX4_isWhole 1 (some .boolean), Cond.methodLink RX4 49 yX4_canEndRow, Cond.instanceMethod yX4_canEndRow, Cond.selects RX4 yX4_canEndRow yX4_canEndRow, Cond.code yX4_canEndRow cX4_canEndRow 1 (some .boolean), Cond.methodLink RX4 52 yX4_canPut, Cond.instanceMethod yX4_canPut, Cond.selects RX4 yX4_canPut yX4_canPut, Cond.code yX4_canPut cX4_canPut 4 (some .boolean), Cond.methodLink RX4 56 yX3_cornerAt, Cond.instanceMethod yX3_cornerAt, Cond.selects RX3 yX3_cornerAt yX3_cornerAt, Cond.initialized RX3, Cond.code yX3_cornerAt cX3_cornerAt 3 (some .int), Cond.fieldLink RX3 9 "AlternateSigns$Table" "corners" "[I", Cond.methodLink RX4 60 yX3_putCorner, Cond.instanceMethod yX3_putCorner, Cond.selects RX3 yX3_putCorner yX3_putCorner, Cond.code yX3_putCorner cX3_putCorner 4 none, Cond.static yX5_isBetween, Cond.initialized RX5, Cond.code yX5_isBetween cX5_isBetween 3 (some .boolean), Cond.methodLink RX4 68 yX3_columnSum, Cond.instanceMethod yX3_columnSum]
def wsX5_fault_r3 : List Cond := [Cond.selects RX3 yX3_columnSum yX3_columnSum, Cond.code yX3_columnSum cX3_columnSum 3 (some .int), Cond.methodLink RX3 25 yX3_cornerAt]
def wsX5_fault : List Cond := .code yX5_fault cX5_fault 1 (some .int) :: ((wsX5_fault_r1 ++ (wsX5_fault_r2 ++ wsX5_fault_r3)) ++ wsX50 ++ wsX40 ++ wsX30)
def wsX5_lay_r1 : List Cond := [Cond.fieldLink RX5 12 "AlternateSigns" "text" "LAlternateSigns$Text;", Cond.fieldLink RX5 19 "AlternateSigns" "table" "LAlternateSigns$Table;", Cond.fieldLink RX5 71 "AlternateSigns$Text" "draft" "LAlternateSigns$Table;", Cond.fieldLink RX5 32 "AlternateSigns" "past" "LAlternateSigns$Past;", Cond.fieldLink RX5 84 "AlternateSigns$Table" "size" "I", Cond.methodLink RX5 68 yX4_firstFault, Cond.instanceMethod yX4_firstFault, Cond.selects RX4 yX4_firstFault yX4_firstFault, Cond.initialized RX4, Cond.code yX4_firstFault cX4_firstFault 2 (some .int), Cond.fieldLink RX4 18 "AlternateSigns$Text" "draft" "LAlternateSigns$Table;", Cond.fieldLink RX4 26 "AlternateSigns$Table" "size" "I", Cond.fieldLink RX4 29 "AlternateSigns$Text" "rowsEnded" "I", Cond.fieldLink RX4 22 "AlternateSigns$Text" "length" "I", Cond.fieldLink RX4 9 "AlternateSigns$Text" "letters" "[C", Cond.methodLink RX4 32 yX4_startRow, Cond.instanceMethod yX4_startRow, Cond.selects RX4 yX4_startRow yX4_startRow, Cond.code yX4_startRow cX4_startRow 1 none, Cond.fieldLink RX4 43 "AlternateSigns$Text" "rowLength" "I", Cond.fieldLink RX4 46 "AlternateSigns$Text" "rowSum" "I", Cond.methodLink RX4 35 yX4_canStand, Cond.instanceMethod yX4_canStand, Cond.selects RX4 yX4_canStand yX4_canStand]
def wsX5_lay_r2 : List Cond := [Cond.code yX4_canStand cX4_canStand 2 (some .boolean), Cond.methodLink RX4 39 yX4_isWhole, Cond.instanceMethod yX4_isWhole, Cond.selects RX4 yX4_isWhole yX4_isWhole, Cond.code yX4_isWhole cX4_isWhole 1 (some .boolean), Cond.methodLink RX4 49 yX4_canEndRow, Cond.instanceMethod yX4_canEndRow, Cond.selects RX4 yX4_canEndRow yX4_canEndRow, Cond.code yX4_canEndRow cX4_canEndRow 1 (some .boolean), Cond.methodLink RX4 52 yX4_canPut, Cond.instanceMethod yX4_canPut, Cond.selects RX4 yX4_canPut yX4_canPut, Cond.code yX4_canPut cX4_canPut 4 (some .boolean), Cond.methodLink RX4 56 yX3_cornerAt, Cond.instanceMethod yX3_cornerAt, Cond.selects RX3 yX3_cornerAt yX3_cornerAt, Cond.initialized RX3, Cond.code yX3_cornerAt cX3_cornerAt 3 (some .int), Cond.fieldLink RX3 9 "AlternateSigns$Table" "corners" "[I", Cond.methodLink RX4 60 yX3_putCorner, Cond.instanceMethod yX3_putCorner, Cond.selects RX3 yX3_putCorner yX3_putCorner, Cond.code yX3_putCorner cX3_putCorner 4 none, Cond.static yX5_isBetween]
def wsX5_lay_r3 : List Cond := [Cond.initialized RX5, Cond.code yX5_isBetween cX5_isBetween 3 (some .boolean), Cond.methodLink RX4 68 yX3_columnSum, Cond.instanceMethod yX3_columnSum, Cond.selects RX3 yX3_columnSum yX3_columnSum, Cond.code yX3_columnSum cX3_columnSum 3 (some .int), Cond.methodLink RX3 25 yX3_cornerAt, Cond.methodLink RX5 74 yX3_copy, Cond.instanceMethod yX3_copy, Cond.selects RX3 yX3_copy yX3_copy, Cond.code yX3_copy cX3_copy 2 none, Cond.fieldLink RX3 15 "AlternateSigns$Table" "size" "I", Cond.methodLink RX3 19 arraycopyName, Cond.native arraycopyName, Cond.static arraycopyName, Cond.initialized "java/lang/System", Cond.methodLink RX5 81 yX2_forget, Cond.instanceMethod yX2_forget, Cond.selects RX2 yX2_forget yX2_forget, Cond.initialized RX2, Cond.code yX2_forget cX2_forget 1 none, Cond.fieldLink RX2 26 "AlternateSigns$Past" "held" "I"]
def wsX5_lay : List Cond := .code yX5_lay cX5_lay 1 (some .int) :: ((wsX5_lay_r1 ++ (wsX5_lay_r2 ++ wsX5_lay_r3)) ++ wsX50 ++ wsX40 ++ wsX30 ++ wsX20)
def wsX5_isSize : List Cond := .code yX5_isSize cX5_isSize 1 (some .boolean) :: ([.methodLink RX5 107 yX5_isBetween, .static yX5_isBetween, .initialized RX5, .code yX5_isBetween cX5_isBetween 3 (some .boolean)])
def wsX5_take_r1 : List Cond := [Cond.fieldLink RX5 45 "AlternateSigns" "sizes" "[LAlternateSigns$AllOfSize;", Cond.fieldLink RX5 32 "AlternateSigns" "past" "LAlternateSigns$Past;", Cond.fieldLink RX5 19 "AlternateSigns" "table" "LAlternateSigns$Table;", Cond.methodLink RX5 87 yX5_isSize, Cond.static yX5_isSize, Cond.initialized RX5, Cond.code yX5_isSize cX5_isSize 1 (some .boolean), Cond.methodLink RX5 107 yX5_isBetween, Cond.static yX5_isBetween, Cond.code yX5_isBetween cX5_isBetween 3 (some .boolean), Cond.methodLink RX5 91 yX0_total, Cond.instanceMethod yX0_total, Cond.selects RX0 yX0_total yX0_total, Cond.initialized RX0, Cond.code yX0_total cX0_total 1 (some .int), Cond.fieldLink RX0 9 "AlternateSigns$AllOfSize" "endings" "[I", Cond.methodLink RX0 29 yX0_countEndings, Cond.instanceMethod yX0_countEndings, Cond.selects RX0 yX0_countEndings yX0_countEndings, Cond.code yX0_countEndings cX0_countEndings 3 none, Cond.fieldLink RX0 80 "AlternateSigns$AllOfSize" "areEndingsCounted" "Z", Cond.fieldLink RX0 26 "AlternateSigns$AllOfSize" "masks" "I", Cond.fieldLink RX0 22 "AlternateSigns$AllOfSize" "size" "I", Cond.methodLink RX0 84 yJ6_bitCount_0f7a4]
def wsX5_take_r2 : List Cond := [Cond.static yJ6_bitCount_0f7a4, Cond.initialized RJ6, Cond.code yJ6_bitCount_0f7a4 cJ6_bitCount_0f7a4 1 (some .int), Cond.constant RJ6 265 (1431655765), Cond.constant RJ6 266 (858993459), Cond.constant RJ6 267 (252645135), Cond.methodLink RX0 38 yX0_endingsFrom, Cond.instanceMethod yX0_endingsFrom, Cond.selects RX0 yX0_endingsFrom yX0_endingsFrom, Cond.code yX0_endingsFrom cX0_endingsFrom 5 (some .int), Cond.methodLink RX0 43 yX0_canFollow, Cond.instanceMethod yX0_canFollow, Cond.selects RX0 yX0_canFollow yX0_canFollow, Cond.code yX0_canFollow cX0_canFollow 5 (some .boolean), Cond.methodLink RX5 94 yX2_remember, Cond.instanceMethod yX2_remember, Cond.selects RX2 yX2_remember yX2_remember, Cond.initialized RX2, Cond.code yX2_remember cX2_remember 2 none, Cond.fieldLink RX2 11 "AlternateSigns$Past" "tables" "[LAlternateSigns$Table;", Cond.fieldLink RX2 18 "AlternateSigns$Past" "free" "I", Cond.fieldLink RX2 26 "AlternateSigns$Past" "held" "I", Cond.methodLink RX2 29 Lib.Math.min.name, Cond.static Lib.Math.min.name]
def wsX5_take_r3 : List Cond := [Cond.initialized "java/lang/Math", Cond.code Lib.Math.min.name Lib.Math.min.code 2 (some .int), Cond.methodLink RX2 22 yX3_copy, Cond.instanceMethod yX3_copy, Cond.selects RX3 yX3_copy yX3_copy, Cond.initialized RX3, Cond.code yX3_copy cX3_copy 2 none, Cond.fieldLink RX3 15 "AlternateSigns$Table" "size" "I", Cond.fieldLink RX3 9 "AlternateSigns$Table" "corners" "[I", Cond.methodLink RX3 19 arraycopyName, Cond.native arraycopyName, Cond.static arraycopyName, Cond.initialized "java/lang/System", Cond.methodLink RX5 97 yX0_put, Cond.instanceMethod yX0_put, Cond.selects RX0 yX0_put yX0_put, Cond.code yX0_put cX0_put 8 none, Cond.fieldLink RX0 42 "AlternateSigns$Table" "size" "I", Cond.methodLink RX0 47 yX3_putFullColumns, Cond.instanceMethod yX3_putFullColumns, Cond.selects RX3 yX3_putFullColumns yX3_putFullColumns, Cond.code yX3_putFullColumns cX3_putFullColumns 5 none, Cond.methodLink RX3 25 yX3_cornerAt, Cond.instanceMethod yX3_cornerAt]
def wsX5_take_r4 : List Cond := [Cond.selects RX3 yX3_cornerAt yX3_cornerAt, Cond.code yX3_cornerAt cX3_cornerAt 3 (some .int), Cond.methodLink RX3 41 yX3_putCorner, Cond.instanceMethod yX3_putCorner, Cond.selects RX3 yX3_putCorner yX3_putCorner, Cond.code yX3_putCorner cX3_putCorner 4 none]
def wsX5_take : List Cond := .code yX5_take cX5_take 4 (some .int) :: ((wsX5_take_r1 ++ (wsX5_take_r2 ++ (wsX5_take_r3 ++ wsX5_take_r4))) ++ wsX50 ++ wsX00 ++ wsX20 ++ wsX30)
def wsX5_undo : List Cond := .code yX5_undo cX5_undo 1 (some .int) :: ([.fieldLink RX5 32 "AlternateSigns" "past" "LAlternateSigns$Past;", .fieldLink RX5 101 "AlternateSigns$Past" "held" "I", .fieldLink RX5 19 "AlternateSigns" "table" "LAlternateSigns$Table;", .methodLink RX5 104 yX2_giveBack, .instanceMethod yX2_giveBack, .selects RX2 yX2_giveBack yX2_giveBack, .initialized RX2, .code yX2_giveBack cX2_giveBack 2 none, .fieldLink RX2 26 "AlternateSigns$Past" "held" "I", .fieldLink RX2 18 "AlternateSigns$Past" "free" "I", .fieldLink RX2 11 "AlternateSigns$Past" "tables" "[LAlternateSigns$Table;", .methodLink RX2 22 yX3_copy, .instanceMethod yX3_copy, .selects RX3 yX3_copy yX3_copy, .initialized RX3, .code yX3_copy cX3_copy 2 none, .fieldLink RX3 15 "AlternateSigns$Table" "size" "I", .fieldLink RX3 9 "AlternateSigns$Table" "corners" "[I", .methodLink RX3 19 arraycopyName, .native arraycopyName, .static arraycopyName, .initialized "java/lang/System"] ++ wsX50 ++ wsX20 ++ wsX30)
def wsX5_keep : List Cond := .code yX5_keep cX5_keep 1 (some .int) :: ([.fieldLink RX5 23 "AlternateSigns" "other" "LAlternateSigns$Table;", .fieldLink RX5 19 "AlternateSigns" "table" "LAlternateSigns$Table;", .fieldLink RX5 84 "AlternateSigns$Table" "size" "I", .methodLink RX5 74 yX3_copy, .instanceMethod yX3_copy, .selects RX3 yX3_copy yX3_copy, .initialized RX3, .code yX3_copy cX3_copy 2 none, .fieldLink RX3 15 "AlternateSigns$Table" "size" "I", .fieldLink RX3 9 "AlternateSigns$Table" "corners" "[I", .methodLink RX3 19 arraycopyName, .native arraycopyName, .static arraycopyName, .initialized "java/lang/System"] ++ wsX50 ++ wsX30)
def wsX5_sign : List Cond := .code yX5_sign cX5_sign 3 (some .int) :: ([.fieldLink RX5 19 "AlternateSigns" "table" "LAlternateSigns$Table;", .fieldLink RX5 84 "AlternateSigns$Table" "size" "I", .methodLink RX5 107 yX5_isBetween, .static yX5_isBetween, .initialized RX5, .code yX5_isBetween cX5_isBetween 3 (some .boolean), .methodLink RX5 111 yX3_signAt, .instanceMethod yX3_signAt, .selects RX3 yX3_signAt yX3_signAt, .initialized RX3, .code yX3_signAt cX3_signAt 3 (some .int), .methodLink RX3 29 yX3_rowSum, .instanceMethod yX3_rowSum, .selects RX3 yX3_rowSum yX3_rowSum, .code yX3_rowSum cX3_rowSum 3 (some .int), .methodLink RX3 25 yX3_cornerAt, .instanceMethod yX3_cornerAt, .selects RX3 yX3_cornerAt yX3_cornerAt, .code yX3_cornerAt cX3_cornerAt 3 (some .int), .fieldLink RX3 9 "AlternateSigns$Table" "corners" "[I"] ++ wsX50 ++ wsX30)
def wsX5_isCorner : List Cond := .code yX5_isCorner cX5_isCorner 3 (some .boolean) :: ([.fieldLink RX5 19 "AlternateSigns" "table" "LAlternateSigns$Table;", .fieldLink RX5 84 "AlternateSigns$Table" "size" "I", .methodLink RX5 107 yX5_isBetween, .static yX5_isBetween, .initialized RX5, .code yX5_isBetween cX5_isBetween 3 (some .boolean)] ++ wsX50 ++ wsX30)
def wsX5_corner : List Cond := .code yX5_corner cX5_corner 3 (some .int) :: ([.fieldLink RX5 19 "AlternateSigns" "table" "LAlternateSigns$Table;", .methodLink RX5 115 yX5_isCorner, .instanceMethod yX5_isCorner, .selects RX5 yX5_isCorner yX5_isCorner, .initialized RX5, .code yX5_isCorner cX5_isCorner 3 (some .boolean), .fieldLink RX5 84 "AlternateSigns$Table" "size" "I", .methodLink RX5 107 yX5_isBetween, .static yX5_isBetween, .code yX5_isBetween cX5_isBetween 3 (some .boolean), .methodLink RX5 119 yX3_cornerAt, .instanceMethod yX3_cornerAt, .selects RX3 yX3_cornerAt yX3_cornerAt, .initialized RX3, .code yX3_cornerAt cX3_cornerAt 3 (some .int), .fieldLink RX3 9 "AlternateSigns$Table" "corners" "[I"] ++ wsX50 ++ wsX30)
def wsX5_height : List Cond := .code yX5_height cX5_height 3 (some .int) :: ([.fieldLink RX5 19 "AlternateSigns" "table" "LAlternateSigns$Table;", .methodLink RX5 115 yX5_isCorner, .instanceMethod yX5_isCorner, .selects RX5 yX5_isCorner yX5_isCorner, .initialized RX5, .code yX5_isCorner cX5_isCorner 3 (some .boolean), .fieldLink RX5 84 "AlternateSigns$Table" "size" "I", .methodLink RX5 107 yX5_isBetween, .static yX5_isBetween, .code yX5_isBetween cX5_isBetween 3 (some .boolean), .methodLink RX5 122 yX3_heightAt, .instanceMethod yX3_heightAt, .selects RX3 yX3_heightAt yX3_heightAt, .initialized RX3, .code yX3_heightAt cX3_heightAt 3 (some .int), .methodLink RX3 25 yX3_cornerAt, .instanceMethod yX3_cornerAt, .selects RX3 yX3_cornerAt yX3_cornerAt, .code yX3_cornerAt cX3_cornerAt 3 (some .int), .fieldLink RX3 9 "AlternateSigns$Table" "corners" "[I"] ++ wsX50 ++ wsX30)
def wsX5_isInner : List Cond := .code yX5_isInner cX5_isInner 3 (some .boolean) :: ([.fieldLink RX5 19 "AlternateSigns" "table" "LAlternateSigns$Table;", .fieldLink RX5 84 "AlternateSigns$Table" "size" "I", .methodLink RX5 107 yX5_isBetween, .static yX5_isBetween, .initialized RX5, .code yX5_isBetween cX5_isBetween 3 (some .boolean)] ++ wsX50 ++ wsX30)
def wsX5_may : List Cond := .code yX5_may cX5_may 3 (some .int) :: ([.fieldLink RX5 19 "AlternateSigns" "table" "LAlternateSigns$Table;", .methodLink RX5 125 yX5_isInner, .instanceMethod yX5_isInner, .selects RX5 yX5_isInner yX5_isInner, .initialized RX5, .code yX5_isInner cX5_isInner 3 (some .boolean), .fieldLink RX5 84 "AlternateSigns$Table" "size" "I", .methodLink RX5 107 yX5_isBetween, .static yX5_isBetween, .code yX5_isBetween cX5_isBetween 3 (some .boolean), .methodLink RX5 128 yX3_flipKind, .instanceMethod yX3_flipKind, .selects RX3 yX3_flipKind yX3_flipKind, .initialized RX3, .code yX3_flipKind cX3_flipKind 4 (some .int), .methodLink RX3 35 yX3_heightAt, .instanceMethod yX3_heightAt, .selects RX3 yX3_heightAt yX3_heightAt, .code yX3_heightAt cX3_heightAt 3 (some .int), .methodLink RX3 25 yX3_cornerAt, .instanceMethod yX3_cornerAt, .selects RX3 yX3_cornerAt yX3_cornerAt, .code yX3_cornerAt cX3_cornerAt 3 (some .int), .fieldLink RX3 9 "AlternateSigns$Table" "corners" "[I"] ++ wsX50 ++ wsX30)
def wsX5_count_r1 : List Cond := [Cond.fieldLink RX5 19 "AlternateSigns" "table" "LAlternateSigns$Table;", Cond.fieldLink RX5 84 "AlternateSigns$Table" "size" "I", Cond.fieldLink RX5 32 "AlternateSigns" "past" "LAlternateSigns$Past;", Cond.fieldLink RX5 101 "AlternateSigns$Past" "held" "I", Cond.fieldLink RX5 12 "AlternateSigns" "text" "LAlternateSigns$Text;", Cond.fieldLink RX5 78 "AlternateSigns$Text" "length" "I", Cond.fieldLink RX5 23 "AlternateSigns" "other" "LAlternateSigns$Table;", Cond.fieldLink RX5 39 "AlternateSigns" "lines" "LAlternateSigns$Lines;", Cond.fieldLink RX5 149 "AlternateSigns$Lines" "ringEdges" "I", Cond.fieldLink RX5 152 "AlternateSigns$Lines" "rings" "I", Cond.methodLink RX5 131 yX3_negatives, Cond.instanceMethod yX3_negatives, Cond.selects RX3 yX3_negatives yX3_negatives, Cond.initialized RX3, Cond.code yX3_negatives cX3_negatives 4 (some .int), Cond.fieldLink RX3 15 "AlternateSigns$Table" "size" "I", Cond.methodLink RX3 32 yX3_signAt, Cond.instanceMethod yX3_signAt, Cond.selects RX3 yX3_signAt yX3_signAt, Cond.code yX3_signAt cX3_signAt 3 (some .int), Cond.methodLink RX3 29 yX3_rowSum, Cond.instanceMethod yX3_rowSum, Cond.selects RX3 yX3_rowSum yX3_rowSum, Cond.code yX3_rowSum cX3_rowSum 3 (some .int)]
def wsX5_count_r2 : List Cond := [Cond.methodLink RX3 25 yX3_cornerAt, Cond.instanceMethod yX3_cornerAt, Cond.selects RX3 yX3_cornerAt yX3_cornerAt, Cond.code yX3_cornerAt cX3_cornerAt 3 (some .int), Cond.fieldLink RX3 9 "AlternateSigns$Table" "corners" "[I", Cond.methodLink RX5 134 yX3_flippable, Cond.instanceMethod yX3_flippable, Cond.selects RX3 yX3_flippable yX3_flippable, Cond.code yX3_flippable cX3_flippable 4 (some .int), Cond.methodLink RX3 38 yX3_flipKind, Cond.instanceMethod yX3_flipKind, Cond.selects RX3 yX3_flipKind yX3_flipKind, Cond.code yX3_flipKind cX3_flipKind 4 (some .int), Cond.methodLink RX3 35 yX3_heightAt, Cond.instanceMethod yX3_heightAt, Cond.selects RX3 yX3_heightAt yX3_heightAt, Cond.code yX3_heightAt cX3_heightAt 3 (some .int), Cond.methodLink RX5 137 yX3_inversions, Cond.instanceMethod yX3_inversions, Cond.selects RX3 yX3_inversions yX3_inversions, Cond.code yX3_inversions cX3_inversions 5 (some .int), Cond.methodLink RX5 140 yX3_heightsTogether, Cond.instanceMethod yX3_heightsTogether, Cond.selects RX3 yX3_heightsTogether yX3_heightsTogether]
def wsX5_count_r3 : List Cond := [Cond.code yX3_heightsTogether cX3_heightsTogether 4 (some .int), Cond.methodLink RX5 143 yX3_drawnEdges, Cond.instanceMethod yX3_drawnEdges, Cond.selects RX3 yX3_drawnEdges yX3_drawnEdges, Cond.code yX3_drawnEdges cX3_drawnEdges 4 (some .int), Cond.methodLink RX3 69 yX3_isDrawnAcross, Cond.instanceMethod yX3_isDrawnAcross, Cond.selects RX3 yX3_isDrawnAcross yX3_isDrawnAcross, Cond.code yX3_isDrawnAcross cX3_isDrawnAcross 3 (some .boolean), Cond.methodLink RX3 73 yX3_isDrawnDown, Cond.instanceMethod yX3_isDrawnDown, Cond.selects RX3 yX3_isDrawnDown yX3_isDrawnDown, Cond.code yX3_isDrawnDown cX3_isDrawnDown 3 (some .boolean), Cond.methodLink RX3 66 yX3_columnSum, Cond.instanceMethod yX3_columnSum, Cond.selects RX3 yX3_columnSum yX3_columnSum, Cond.code yX3_columnSum cX3_columnSum 3 (some .int), Cond.methodLink RX5 146 yX1_trace, Cond.instanceMethod yX1_trace, Cond.selects RX1 yX1_trace yX1_trace, Cond.initialized RX1, Cond.code yX1_trace cX1_trace 4 none, Cond.fieldLink RX1 24 "AlternateSigns$Table" "size" "I", Cond.fieldLink RX1 30 "AlternateSigns$Lines" "size" "I"]
def wsX5_count_r4 : List Cond := [Cond.methodLink RX1 31 yX1_openPlaces, Cond.instanceMethod yX1_openPlaces, Cond.selects RX1 yX1_openPlaces yX1_openPlaces, Cond.code yX1_openPlaces cX1_openPlaces 5 none, Cond.fieldLink RX1 18 "AlternateSigns$Lines" "open" "[I", Cond.methodLink RX1 50 yX3_isDrawnDown, Cond.methodLink RX1 54 yX3_isDrawnAcross, Cond.methodLink RX1 35 yX1_numberEnds, Cond.instanceMethod yX1_numberEnds, Cond.selects RX1 yX1_numberEnds yX1_numberEnds, Cond.code yX1_numberEnds cX1_numberEnds 4 none, Cond.fieldLink RX1 45 "AlternateSigns$Lines" "ends" "I", Cond.fieldLink RX1 21 "AlternateSigns$Lines" "endAtRim" "[I", Cond.methodLink RX1 57 yX1_standAtRim, Cond.instanceMethod yX1_standAtRim, Cond.selects RX1 yX1_standAtRim yX1_standAtRim, Cond.code yX1_standAtRim cX1_standAtRim 4 none, Cond.fieldLink RX1 64 "AlternateSigns$Lines" "row" "I", Cond.fieldLink RX1 67 "AlternateSigns$Lines" "column" "I", Cond.fieldLink RX1 70 "AlternateSigns$Lines" "side" "I", Cond.methodLink RX1 60 yX1_isOpen, Cond.instanceMethod yX1_isOpen, Cond.selects RX1 yX1_isOpen yX1_isOpen, Cond.code yX1_isOpen cX1_isOpen 2 (some .boolean)]
def wsX5_count_r5 : List Cond := [Cond.methodLink RX1 38 yX1_followLine, Cond.instanceMethod yX1_followLine, Cond.selects RX1 yX1_followLine yX1_followLine, Cond.code yX1_followLine cX1_followLine 6 none, Cond.methodLink RX1 77 yX1_isInside, Cond.instanceMethod yX1_isInside, Cond.selects RX1 yX1_isInside yX1_isInside, Cond.code yX1_isInside cX1_isInside 1 (some .boolean), Cond.static yX5_isBetween, Cond.initialized RX5, Cond.code yX5_isBetween cX5_isBetween 3 (some .boolean), Cond.methodLink RX1 81 yX1_goOn, Cond.instanceMethod yX1_goOn, Cond.selects RX1 yX1_goOn yX1_goOn, Cond.code yX1_goOn cX1_goOn 3 none, Cond.methodLink RX1 84 yX1_rimPassed, Cond.instanceMethod yX1_rimPassed, Cond.selects RX1 yX1_rimPassed yX1_rimPassed, Cond.code yX1_rimPassed cX1_rimPassed 1 (some .int), Cond.methodLink RX1 88 yX1_join, Cond.instanceMethod yX1_join, Cond.selects RX1 yX1_join yX1_join, Cond.code yX1_join cX1_join 4 none, Cond.fieldLink RX1 9 "AlternateSigns$Lines" "partners" "[I"]
def wsX5_count_r6 : List Cond := [Cond.fieldLink RX1 15 "AlternateSigns$Lines" "lengths" "[I", Cond.methodLink RX1 42 yX1_followRings, Cond.instanceMethod yX1_followRings, Cond.selects RX1 yX1_followRings yX1_followRings, Cond.code yX1_followRings cX1_followRings 3 none, Cond.fieldLink RX1 92 "AlternateSigns$Lines" "rings" "I", Cond.fieldLink RX1 95 "AlternateSigns$Lines" "ringEdges" "I", Cond.methodLink RX1 98 yX1_followRing, Cond.instanceMethod yX1_followRing, Cond.selects RX1 yX1_followRing yX1_followRing, Cond.code yX1_followRing cX1_followRing 4 none]
def wsX5_count : List Cond := .code yX5_count cX5_count 2 (some .int) :: ((wsX5_count_r1 ++ (wsX5_count_r2 ++ (wsX5_count_r3 ++ (wsX5_count_r4 ++ (wsX5_count_r5 ++ wsX5_count_r6))))) ++ wsX50 ++ wsX30 ++ wsX20 ++ wsX40 ++ wsX10)
def wsX5_flip_r1 : List Cond := [Cond.fieldLink RX5 19 "AlternateSigns" "table" "LAlternateSigns$Table;", Cond.fieldLink RX5 32 "AlternateSigns" "past" "LAlternateSigns$Past;", Cond.methodLink RX5 125 yX5_isInner, Cond.instanceMethod yX5_isInner, Cond.selects RX5 yX5_isInner yX5_isInner, Cond.initialized RX5, Cond.code yX5_isInner cX5_isInner 3 (some .boolean), Cond.fieldLink RX5 84 "AlternateSigns$Table" "size" "I", Cond.methodLink RX5 107 yX5_isBetween, Cond.static yX5_isBetween, Cond.code yX5_isBetween cX5_isBetween 3 (some .boolean), Cond.methodLink RX5 128 yX3_flipKind, Cond.instanceMethod yX3_flipKind, Cond.selects RX3 yX3_flipKind yX3_flipKind, Cond.initialized RX3, Cond.code yX3_flipKind cX3_flipKind 4 (some .int), Cond.methodLink RX3 35 yX3_heightAt, Cond.instanceMethod yX3_heightAt, Cond.selects RX3 yX3_heightAt yX3_heightAt, Cond.code yX3_heightAt cX3_heightAt 3 (some .int), Cond.methodLink RX3 25 yX3_cornerAt, Cond.instanceMethod yX3_cornerAt, Cond.selects RX3 yX3_cornerAt yX3_cornerAt, Cond.code yX3_cornerAt cX3_cornerAt 3 (some .int)]
def wsX5_flip_r2 : List Cond := [Cond.fieldLink RX3 9 "AlternateSigns$Table" "corners" "[I", Cond.methodLink RX5 94 yX2_remember, Cond.instanceMethod yX2_remember, Cond.selects RX2 yX2_remember yX2_remember, Cond.initialized RX2, Cond.code yX2_remember cX2_remember 2 none, Cond.fieldLink RX2 11 "AlternateSigns$Past" "tables" "[LAlternateSigns$Table;", Cond.fieldLink RX2 18 "AlternateSigns$Past" "free" "I", Cond.fieldLink RX2 26 "AlternateSigns$Past" "held" "I", Cond.methodLink RX2 29 Lib.Math.min.name, Cond.static Lib.Math.min.name, Cond.initialized "java/lang/Math", Cond.code Lib.Math.min.name Lib.Math.min.code 2 (some .int), Cond.methodLink RX2 22 yX3_copy, Cond.instanceMethod yX3_copy, Cond.selects RX3 yX3_copy yX3_copy, Cond.code yX3_copy cX3_copy 2 none, Cond.fieldLink RX3 15 "AlternateSigns$Table" "size" "I", Cond.methodLink RX3 19 arraycopyName, Cond.native arraycopyName, Cond.static arraycopyName, Cond.initialized "java/lang/System", Cond.methodLink RX5 155 yX3_flipAt, Cond.instanceMethod yX3_flipAt]
def wsX5_flip_r3 : List Cond := [Cond.selects RX3 yX3_flipAt yX3_flipAt, Cond.code yX3_flipAt cX3_flipAt 4 none, Cond.methodLink RX3 38 yX3_flipKind, Cond.methodLink RX3 41 yX3_putCorner, Cond.instanceMethod yX3_putCorner, Cond.selects RX3 yX3_putCorner yX3_putCorner, Cond.code yX3_putCorner cX3_putCorner 4 none, Cond.methodLink RX5 122 yX3_heightAt]
def wsX5_flip : List Cond := .code yX5_flip cX5_flip 3 (some .int) :: ((wsX5_flip_r1 ++ (wsX5_flip_r2 ++ wsX5_flip_r3)) ++ wsX50 ++ wsX30 ++ wsX20)
def wsX5_gyrate_r1 : List Cond := [Cond.fieldLink RX5 32 "AlternateSigns" "past" "LAlternateSigns$Past;", Cond.fieldLink RX5 19 "AlternateSigns" "table" "LAlternateSigns$Table;", Cond.methodLink RX5 107 yX5_isBetween, Cond.static yX5_isBetween, Cond.initialized RX5, Cond.code yX5_isBetween cX5_isBetween 3 (some .boolean), Cond.methodLink RX5 94 yX2_remember, Cond.instanceMethod yX2_remember, Cond.selects RX2 yX2_remember yX2_remember, Cond.initialized RX2, Cond.code yX2_remember cX2_remember 2 none, Cond.fieldLink RX2 11 "AlternateSigns$Past" "tables" "[LAlternateSigns$Table;", Cond.fieldLink RX2 18 "AlternateSigns$Past" "free" "I", Cond.fieldLink RX2 26 "AlternateSigns$Past" "held" "I", Cond.methodLink RX2 29 Lib.Math.min.name, Cond.static Lib.Math.min.name, Cond.initialized "java/lang/Math", Cond.code Lib.Math.min.name Lib.Math.min.code 2 (some .int), Cond.methodLink RX2 22 yX3_copy, Cond.instanceMethod yX3_copy, Cond.selects RX3 yX3_copy yX3_copy, Cond.initialized RX3, Cond.code yX3_copy cX3_copy 2 none, Cond.fieldLink RX3 15 "AlternateSigns$Table" "size" "I"]
def wsX5_gyrate_r2 : List Cond := [Cond.fieldLink RX3 9 "AlternateSigns$Table" "corners" "[I", Cond.methodLink RX3 19 arraycopyName, Cond.native arraycopyName, Cond.static arraycopyName, Cond.initialized "java/lang/System", Cond.methodLink RX5 159 yX3_gyrateOnce, Cond.instanceMethod yX3_gyrateOnce, Cond.selects RX3 yX3_gyrateOnce yX3_gyrateOnce, Cond.code yX3_gyrateOnce cX3_gyrateOnce 1 (some .int), Cond.methodLink RX3 45 yX3_flipAll, Cond.instanceMethod yX3_flipAll, Cond.selects RX3 yX3_flipAll yX3_flipAll, Cond.code yX3_flipAll cX3_flipAll 5 (some .int), Cond.methodLink RX3 38 yX3_flipKind, Cond.instanceMethod yX3_flipKind, Cond.selects RX3 yX3_flipKind yX3_flipKind, Cond.code yX3_flipKind cX3_flipKind 4 (some .int), Cond.methodLink RX3 35 yX3_heightAt, Cond.instanceMethod yX3_heightAt, Cond.selects RX3 yX3_heightAt yX3_heightAt, Cond.code yX3_heightAt cX3_heightAt 3 (some .int), Cond.methodLink RX3 25 yX3_cornerAt, Cond.instanceMethod yX3_cornerAt, Cond.selects RX3 yX3_cornerAt yX3_cornerAt]
def wsX5_gyrate_r3 : List Cond := [Cond.code yX3_cornerAt cX3_cornerAt 3 (some .int), Cond.methodLink RX3 49 yX3_flipAt, Cond.instanceMethod yX3_flipAt, Cond.selects RX3 yX3_flipAt yX3_flipAt, Cond.code yX3_flipAt cX3_flipAt 4 none, Cond.methodLink RX3 41 yX3_putCorner, Cond.instanceMethod yX3_putCorner, Cond.selects RX3 yX3_putCorner yX3_putCorner, Cond.code yX3_putCorner cX3_putCorner 4 none]
def wsX5_gyrate : List Cond := .code yX5_gyrate cX5_gyrate 4 (some .int) :: ((wsX5_gyrate_r1 ++ (wsX5_gyrate_r2 ++ wsX5_gyrate_r3)) ++ wsX50 ++ wsX20 ++ wsX30)
def wsX5_orbit_r1 : List Cond := [Cond.fieldLink RX5 26 "AlternateSigns" "spare" "LAlternateSigns$Table;", Cond.fieldLink RX5 19 "AlternateSigns" "table" "LAlternateSigns$Table;", Cond.methodLink RX5 74 yX3_copy, Cond.instanceMethod yX3_copy, Cond.selects RX3 yX3_copy yX3_copy, Cond.initialized RX3, Cond.code yX3_copy cX3_copy 2 none, Cond.fieldLink RX3 15 "AlternateSigns$Table" "size" "I", Cond.fieldLink RX3 9 "AlternateSigns$Table" "corners" "[I", Cond.methodLink RX3 19 arraycopyName, Cond.native arraycopyName, Cond.static arraycopyName, Cond.initialized "java/lang/System", Cond.methodLink RX5 159 yX3_gyrateOnce, Cond.instanceMethod yX3_gyrateOnce, Cond.selects RX3 yX3_gyrateOnce yX3_gyrateOnce, Cond.code yX3_gyrateOnce cX3_gyrateOnce 1 (some .int), Cond.methodLink RX3 45 yX3_flipAll, Cond.instanceMethod yX3_flipAll, Cond.selects RX3 yX3_flipAll yX3_flipAll, Cond.code yX3_flipAll cX3_flipAll 5 (some .int), Cond.methodLink RX3 38 yX3_flipKind, Cond.instanceMethod yX3_flipKind, Cond.selects RX3 yX3_flipKind yX3_flipKind]
def wsX5_orbit_r2 : List Cond := [Cond.code yX3_flipKind cX3_flipKind 4 (some .int), Cond.methodLink RX3 35 yX3_heightAt, Cond.instanceMethod yX3_heightAt, Cond.selects RX3 yX3_heightAt yX3_heightAt, Cond.code yX3_heightAt cX3_heightAt 3 (some .int), Cond.methodLink RX3 25 yX3_cornerAt, Cond.instanceMethod yX3_cornerAt, Cond.selects RX3 yX3_cornerAt yX3_cornerAt, Cond.code yX3_cornerAt cX3_cornerAt 3 (some .int), Cond.methodLink RX3 49 yX3_flipAt, Cond.instanceMethod yX3_flipAt, Cond.selects RX3 yX3_flipAt yX3_flipAt, Cond.code yX3_flipAt cX3_flipAt 4 none, Cond.methodLink RX3 41 yX3_putCorner, Cond.instanceMethod yX3_putCorner, Cond.selects RX3 yX3_putCorner yX3_putCorner, Cond.code yX3_putCorner cX3_putCorner 4 none, Cond.methodLink RX5 162 yX3_distance, Cond.instanceMethod yX3_distance, Cond.selects RX3 yX3_distance yX3_distance, Cond.code yX3_distance cX3_distance 5 (some .int), Cond.methodLink RX3 53 Lib.Math.abs.name, Cond.static Lib.Math.abs.name, Cond.initialized "java/lang/Math"]
def wsX5_orbit_r3 : List Cond := [Cond.code Lib.Math.abs.name Lib.Math.abs.code 1 (some .int)]
def wsX5_orbit : List Cond := .code yX5_orbit cX5_orbit 2 (some .int) :: ((wsX5_orbit_r1 ++ (wsX5_orbit_r2 ++ wsX5_orbit_r3)) ++ wsX50 ++ wsX30)
def wsX5_hasLikeOther : List Cond := .code yX5_hasLikeOther cX5_hasLikeOther 1 (some .boolean) :: ([.fieldLink RX5 23 "AlternateSigns" "other" "LAlternateSigns$Table;", .fieldLink RX5 84 "AlternateSigns$Table" "size" "I", .fieldLink RX5 19 "AlternateSigns" "table" "LAlternateSigns$Table;"] ++ wsX50 ++ wsX30)
def wsX5_apart : List Cond := .code yX5_apart cX5_apart 1 (some .int) :: ([.fieldLink RX5 19 "AlternateSigns" "table" "LAlternateSigns$Table;", .fieldLink RX5 23 "AlternateSigns" "other" "LAlternateSigns$Table;", .methodLink RX5 166 yX5_hasLikeOther, .instanceMethod yX5_hasLikeOther, .selects RX5 yX5_hasLikeOther yX5_hasLikeOther, .initialized RX5, .code yX5_hasLikeOther cX5_hasLikeOther 1 (some .boolean), .fieldLink RX5 84 "AlternateSigns$Table" "size" "I", .methodLink RX5 162 yX3_distance, .instanceMethod yX3_distance, .selects RX3 yX3_distance yX3_distance, .initialized RX3, .code yX3_distance cX3_distance 5 (some .int), .fieldLink RX3 15 "AlternateSigns$Table" "size" "I", .methodLink RX3 53 Lib.Math.abs.name, .static Lib.Math.abs.name, .initialized "java/lang/Math", .code Lib.Math.abs.name Lib.Math.abs.code 1 (some .int), .methodLink RX3 25 yX3_cornerAt, .instanceMethod yX3_cornerAt, .selects RX3 yX3_cornerAt yX3_cornerAt, .code yX3_cornerAt cX3_cornerAt 3 (some .int), .fieldLink RX3 9 "AlternateSigns$Table" "corners" "[I"] ++ wsX50 ++ wsX30)
def wsX5_next_r1 : List Cond := [Cond.fieldLink RX5 19 "AlternateSigns" "table" "LAlternateSigns$Table;", Cond.fieldLink RX5 84 "AlternateSigns$Table" "size" "I", Cond.fieldLink RX5 23 "AlternateSigns" "other" "LAlternateSigns$Table;", Cond.methodLink RX5 166 yX5_hasLikeOther, Cond.instanceMethod yX5_hasLikeOther, Cond.selects RX5 yX5_hasLikeOther yX5_hasLikeOther, Cond.initialized RX5, Cond.code yX5_hasLikeOther cX5_hasLikeOther 1 (some .boolean), Cond.methodLink RX5 170 yX3_comesNearer, Cond.instanceMethod yX3_comesNearer, Cond.selects RX3 yX3_comesNearer yX3_comesNearer, Cond.initialized RX3, Cond.code yX3_comesNearer cX3_comesNearer 5 (some .boolean), Cond.methodLink RX3 38 yX3_flipKind, Cond.instanceMethod yX3_flipKind, Cond.selects RX3 yX3_flipKind yX3_flipKind, Cond.code yX3_flipKind cX3_flipKind 4 (some .int), Cond.methodLink RX3 35 yX3_heightAt, Cond.instanceMethod yX3_heightAt, Cond.selects RX3 yX3_heightAt yX3_heightAt, Cond.code yX3_heightAt cX3_heightAt 3 (some .int), Cond.methodLink RX3 25 yX3_cornerAt, Cond.instanceMethod yX3_cornerAt, Cond.selects RX3 yX3_cornerAt yX3_cornerAt]
def wsX5_next_r2 : List Cond := [Cond.code yX3_cornerAt cX3_cornerAt 3 (some .int), Cond.fieldLink RX3 9 "AlternateSigns$Table" "corners" "[I", Cond.methodLink RX3 58 yX3_wayTo, Cond.instanceMethod yX3_wayTo, Cond.selects RX3 yX3_wayTo yX3_wayTo, Cond.code yX3_wayTo cX3_wayTo 5 (some .int)]
def wsX5_next : List Cond := .code yX5_next cX5_next 3 (some .int) :: ((wsX5_next_r1 ++ wsX5_next_r2) ++ wsX50 ++ wsX30)
def wsX5_both_r1 : List Cond := [Cond.fieldLink RX5 32 "AlternateSigns" "past" "LAlternateSigns$Past;", Cond.fieldLink RX5 19 "AlternateSigns" "table" "LAlternateSigns$Table;", Cond.fieldLink RX5 23 "AlternateSigns" "other" "LAlternateSigns$Table;", Cond.methodLink RX5 107 yX5_isBetween, Cond.static yX5_isBetween, Cond.initialized RX5, Cond.code yX5_isBetween cX5_isBetween 3 (some .boolean), Cond.methodLink RX5 166 yX5_hasLikeOther, Cond.instanceMethod yX5_hasLikeOther, Cond.selects RX5 yX5_hasLikeOther yX5_hasLikeOther, Cond.code yX5_hasLikeOther cX5_hasLikeOther 1 (some .boolean), Cond.fieldLink RX5 84 "AlternateSigns$Table" "size" "I", Cond.methodLink RX5 94 yX2_remember, Cond.instanceMethod yX2_remember, Cond.selects RX2 yX2_remember yX2_remember, Cond.initialized RX2, Cond.code yX2_remember cX2_remember 2 none, Cond.fieldLink RX2 11 "AlternateSigns$Past" "tables" "[LAlternateSigns$Table;", Cond.fieldLink RX2 18 "AlternateSigns$Past" "free" "I", Cond.fieldLink RX2 26 "AlternateSigns$Past" "held" "I", Cond.methodLink RX2 29 Lib.Math.min.name, Cond.static Lib.Math.min.name, Cond.initialized "java/lang/Math", Cond.code Lib.Math.min.name Lib.Math.min.code 2 (some .int)]
def wsX5_both_r2 : List Cond := [Cond.methodLink RX2 22 yX3_copy, Cond.instanceMethod yX3_copy, Cond.selects RX3 yX3_copy yX3_copy, Cond.initialized RX3, Cond.code yX3_copy cX3_copy 2 none, Cond.fieldLink RX3 15 "AlternateSigns$Table" "size" "I", Cond.fieldLink RX3 9 "AlternateSigns$Table" "corners" "[I", Cond.methodLink RX3 19 arraycopyName, Cond.native arraycopyName, Cond.static arraycopyName, Cond.initialized "java/lang/System", Cond.methodLink RX5 174 yX3_takeHeights, Cond.instanceMethod yX3_takeHeights, Cond.selects RX3 yX3_takeHeights yX3_takeHeights, Cond.code yX3_takeHeights cX3_takeHeights 6 (some .int), Cond.methodLink RX3 58 yX3_wayTo, Cond.instanceMethod yX3_wayTo, Cond.selects RX3 yX3_wayTo yX3_wayTo, Cond.code yX3_wayTo cX3_wayTo 5 (some .int), Cond.methodLink RX3 35 yX3_heightAt, Cond.instanceMethod yX3_heightAt, Cond.selects RX3 yX3_heightAt yX3_heightAt, Cond.code yX3_heightAt cX3_heightAt 3 (some .int), Cond.methodLink RX3 25 yX3_cornerAt]
def wsX5_both_r3 : List Cond := [Cond.instanceMethod yX3_cornerAt, Cond.selects RX3 yX3_cornerAt yX3_cornerAt, Cond.code yX3_cornerAt cX3_cornerAt 3 (some .int), Cond.methodLink RX3 41 yX3_putCorner, Cond.instanceMethod yX3_putCorner, Cond.selects RX3 yX3_putCorner yX3_putCorner, Cond.code yX3_putCorner cX3_putCorner 4 none]
def wsX5_both : List Cond := .code yX5_both cX5_both 2 (some .int) :: ((wsX5_both_r1 ++ (wsX5_both_r2 ++ wsX5_both_r3)) ++ wsX50 ++ wsX30 ++ wsX20)
def wsX5_turn_r1 : List Cond := [Cond.fieldLink RX5 32 "AlternateSigns" "past" "LAlternateSigns$Past;", Cond.fieldLink RX5 19 "AlternateSigns" "table" "LAlternateSigns$Table;", Cond.fieldLink RX5 26 "AlternateSigns" "spare" "LAlternateSigns$Table;", Cond.methodLink RX5 107 yX5_isBetween, Cond.static yX5_isBetween, Cond.initialized RX5, Cond.code yX5_isBetween cX5_isBetween 3 (some .boolean), Cond.methodLink RX5 94 yX2_remember, Cond.instanceMethod yX2_remember, Cond.selects RX2 yX2_remember yX2_remember, Cond.initialized RX2, Cond.code yX2_remember cX2_remember 2 none, Cond.fieldLink RX2 11 "AlternateSigns$Past" "tables" "[LAlternateSigns$Table;", Cond.fieldLink RX2 18 "AlternateSigns$Past" "free" "I", Cond.fieldLink RX2 26 "AlternateSigns$Past" "held" "I", Cond.methodLink RX2 29 Lib.Math.min.name, Cond.static Lib.Math.min.name, Cond.initialized "java/lang/Math", Cond.code Lib.Math.min.name Lib.Math.min.code 2 (some .int), Cond.methodLink RX2 22 yX3_copy, Cond.instanceMethod yX3_copy, Cond.selects RX3 yX3_copy yX3_copy, Cond.initialized RX3, Cond.code yX3_copy cX3_copy 2 none]
def wsX5_turn_r2 : List Cond := [Cond.fieldLink RX3 15 "AlternateSigns$Table" "size" "I", Cond.fieldLink RX3 9 "AlternateSigns$Table" "corners" "[I", Cond.methodLink RX3 19 arraycopyName, Cond.native arraycopyName, Cond.static arraycopyName, Cond.initialized "java/lang/System", Cond.methodLink RX5 74 yX3_copy, Cond.methodLink RX5 178 yX3_putTurned, Cond.instanceMethod yX3_putTurned, Cond.selects RX3 yX3_putTurned yX3_putTurned, Cond.code yX3_putTurned cX3_putTurned 6 none, Cond.methodLink RX3 62 yX3_turnedSign, Cond.instanceMethod yX3_turnedSign, Cond.selects RX3 yX3_turnedSign yX3_turnedSign, Cond.code yX3_turnedSign cX3_turnedSign 5 (some .int), Cond.methodLink RX3 32 yX3_signAt, Cond.instanceMethod yX3_signAt, Cond.selects RX3 yX3_signAt yX3_signAt, Cond.code yX3_signAt cX3_signAt 3 (some .int), Cond.methodLink RX3 29 yX3_rowSum, Cond.instanceMethod yX3_rowSum, Cond.selects RX3 yX3_rowSum yX3_rowSum, Cond.code yX3_rowSum cX3_rowSum 3 (some .int), Cond.methodLink RX3 25 yX3_cornerAt]
def wsX5_turn_r3 : List Cond := [Cond.instanceMethod yX3_cornerAt, Cond.selects RX3 yX3_cornerAt yX3_cornerAt, Cond.code yX3_cornerAt cX3_cornerAt 3 (some .int), Cond.methodLink RX3 41 yX3_putCorner, Cond.instanceMethod yX3_putCorner, Cond.selects RX3 yX3_putCorner yX3_putCorner, Cond.code yX3_putCorner cX3_putCorner 4 none, Cond.methodLink RX5 181 yX3_unlikeSigns, Cond.instanceMethod yX3_unlikeSigns, Cond.selects RX3 yX3_unlikeSigns yX3_unlikeSigns, Cond.code yX3_unlikeSigns cX3_unlikeSigns 5 (some .int)]
def wsX5_turn : List Cond := .code yX5_turn cX5_turn 2 (some .int) :: ((wsX5_turn_r1 ++ (wsX5_turn_r2 ++ wsX5_turn_r3)) ++ wsX50 ++ wsX20 ++ wsX30)
def wsX5_across : List Cond := .code yX5_across cX5_across 3 (some .int) :: ([.fieldLink RX5 19 "AlternateSigns" "table" "LAlternateSigns$Table;", .fieldLink RX5 84 "AlternateSigns$Table" "size" "I", .methodLink RX5 107 yX5_isBetween, .static yX5_isBetween, .initialized RX5, .code yX5_isBetween cX5_isBetween 3 (some .boolean), .methodLink RX5 184 yX3_isDrawnAcross, .instanceMethod yX3_isDrawnAcross, .selects RX3 yX3_isDrawnAcross yX3_isDrawnAcross, .initialized RX3, .code yX3_isDrawnAcross cX3_isDrawnAcross 3 (some .boolean), .methodLink RX3 29 yX3_rowSum, .instanceMethod yX3_rowSum, .selects RX3 yX3_rowSum yX3_rowSum, .code yX3_rowSum cX3_rowSum 3 (some .int), .methodLink RX3 25 yX3_cornerAt, .instanceMethod yX3_cornerAt, .selects RX3 yX3_cornerAt yX3_cornerAt, .code yX3_cornerAt cX3_cornerAt 3 (some .int), .fieldLink RX3 9 "AlternateSigns$Table" "corners" "[I"] ++ wsX50 ++ wsX30)
def wsX5_down : List Cond := .code yX5_down cX5_down 3 (some .int) :: ([.fieldLink RX5 19 "AlternateSigns" "table" "LAlternateSigns$Table;", .fieldLink RX5 84 "AlternateSigns$Table" "size" "I", .methodLink RX5 107 yX5_isBetween, .static yX5_isBetween, .initialized RX5, .code yX5_isBetween cX5_isBetween 3 (some .boolean), .methodLink RX5 187 yX3_isDrawnDown, .instanceMethod yX3_isDrawnDown, .selects RX3 yX3_isDrawnDown yX3_isDrawnDown, .initialized RX3, .code yX3_isDrawnDown cX3_isDrawnDown 3 (some .boolean), .methodLink RX3 66 yX3_columnSum, .instanceMethod yX3_columnSum, .selects RX3 yX3_columnSum yX3_columnSum, .code yX3_columnSum cX3_columnSum 3 (some .int), .methodLink RX3 25 yX3_cornerAt, .instanceMethod yX3_cornerAt, .selects RX3 yX3_cornerAt yX3_cornerAt, .code yX3_cornerAt cX3_cornerAt 3 (some .int), .fieldLink RX3 9 "AlternateSigns$Table" "corners" "[I"] ++ wsX50 ++ wsX30)
def wsX5_partner_r1 : List Cond := [Cond.fieldLink RX5 19 "AlternateSigns" "table" "LAlternateSigns$Table;", Cond.fieldLink RX5 84 "AlternateSigns$Table" "size" "I", Cond.fieldLink RX5 39 "AlternateSigns" "lines" "LAlternateSigns$Lines;", Cond.fieldLink RX5 190 "AlternateSigns$Lines" "partners" "[I", Cond.methodLink RX5 107 yX5_isBetween, Cond.static yX5_isBetween, Cond.initialized RX5, Cond.code yX5_isBetween cX5_isBetween 3 (some .boolean), Cond.methodLink RX5 146 yX1_trace, Cond.instanceMethod yX1_trace, Cond.selects RX1 yX1_trace yX1_trace, Cond.initialized RX1, Cond.code yX1_trace cX1_trace 4 none, Cond.fieldLink RX1 24 "AlternateSigns$Table" "size" "I", Cond.fieldLink RX1 30 "AlternateSigns$Lines" "size" "I", Cond.methodLink RX1 31 yX1_openPlaces, Cond.instanceMethod yX1_openPlaces, Cond.selects RX1 yX1_openPlaces yX1_openPlaces, Cond.code yX1_openPlaces cX1_openPlaces 5 none, Cond.fieldLink RX1 18 "AlternateSigns$Lines" "open" "[I", Cond.methodLink RX1 50 yX3_isDrawnDown, Cond.instanceMethod yX3_isDrawnDown, Cond.selects RX3 yX3_isDrawnDown yX3_isDrawnDown, Cond.initialized RX3]
def wsX5_partner_r2 : List Cond := [Cond.code yX3_isDrawnDown cX3_isDrawnDown 3 (some .boolean), Cond.methodLink RX3 66 yX3_columnSum, Cond.instanceMethod yX3_columnSum, Cond.selects RX3 yX3_columnSum yX3_columnSum, Cond.code yX3_columnSum cX3_columnSum 3 (some .int), Cond.methodLink RX3 25 yX3_cornerAt, Cond.instanceMethod yX3_cornerAt, Cond.selects RX3 yX3_cornerAt yX3_cornerAt, Cond.code yX3_cornerAt cX3_cornerAt 3 (some .int), Cond.fieldLink RX3 9 "AlternateSigns$Table" "corners" "[I", Cond.methodLink RX1 54 yX3_isDrawnAcross, Cond.instanceMethod yX3_isDrawnAcross, Cond.selects RX3 yX3_isDrawnAcross yX3_isDrawnAcross, Cond.code yX3_isDrawnAcross cX3_isDrawnAcross 3 (some .boolean), Cond.methodLink RX3 29 yX3_rowSum, Cond.instanceMethod yX3_rowSum, Cond.selects RX3 yX3_rowSum yX3_rowSum, Cond.code yX3_rowSum cX3_rowSum 3 (some .int), Cond.methodLink RX1 35 yX1_numberEnds, Cond.instanceMethod yX1_numberEnds, Cond.selects RX1 yX1_numberEnds yX1_numberEnds, Cond.code yX1_numberEnds cX1_numberEnds 4 none, Cond.fieldLink RX1 45 "AlternateSigns$Lines" "ends" "I", Cond.fieldLink RX1 21 "AlternateSigns$Lines" "endAtRim" "[I"]
def wsX5_partner_r3 : List Cond := [Cond.methodLink RX1 57 yX1_standAtRim, Cond.instanceMethod yX1_standAtRim, Cond.selects RX1 yX1_standAtRim yX1_standAtRim, Cond.code yX1_standAtRim cX1_standAtRim 4 none, Cond.fieldLink RX1 64 "AlternateSigns$Lines" "row" "I", Cond.fieldLink RX1 67 "AlternateSigns$Lines" "column" "I", Cond.fieldLink RX1 70 "AlternateSigns$Lines" "side" "I", Cond.methodLink RX1 60 yX1_isOpen, Cond.instanceMethod yX1_isOpen, Cond.selects RX1 yX1_isOpen yX1_isOpen, Cond.code yX1_isOpen cX1_isOpen 2 (some .boolean), Cond.methodLink RX1 38 yX1_followLine, Cond.instanceMethod yX1_followLine, Cond.selects RX1 yX1_followLine yX1_followLine, Cond.code yX1_followLine cX1_followLine 6 none, Cond.methodLink RX1 77 yX1_isInside, Cond.instanceMethod yX1_isInside, Cond.selects RX1 yX1_isInside yX1_isInside, Cond.code yX1_isInside cX1_isInside 1 (some .boolean), Cond.methodLink RX1 81 yX1_goOn, Cond.instanceMethod yX1_goOn, Cond.selects RX1 yX1_goOn yX1_goOn, Cond.code yX1_goOn cX1_goOn 3 none, Cond.methodLink RX1 84 yX1_rimPassed]
def wsX5_partner_r4 : List Cond := [Cond.instanceMethod yX1_rimPassed, Cond.selects RX1 yX1_rimPassed yX1_rimPassed, Cond.code yX1_rimPassed cX1_rimPassed 1 (some .int), Cond.methodLink RX1 88 yX1_join, Cond.instanceMethod yX1_join, Cond.selects RX1 yX1_join yX1_join, Cond.code yX1_join cX1_join 4 none, Cond.fieldLink RX1 9 "AlternateSigns$Lines" "partners" "[I", Cond.fieldLink RX1 15 "AlternateSigns$Lines" "lengths" "[I", Cond.methodLink RX1 42 yX1_followRings, Cond.instanceMethod yX1_followRings, Cond.selects RX1 yX1_followRings yX1_followRings, Cond.code yX1_followRings cX1_followRings 3 none, Cond.fieldLink RX1 92 "AlternateSigns$Lines" "rings" "I", Cond.fieldLink RX1 95 "AlternateSigns$Lines" "ringEdges" "I", Cond.methodLink RX1 98 yX1_followRing, Cond.instanceMethod yX1_followRing, Cond.selects RX1 yX1_followRing yX1_followRing, Cond.code yX1_followRing cX1_followRing 4 none]
def wsX5_partner : List Cond := .code yX5_partner cX5_partner 2 (some .int) :: ((wsX5_partner_r1 ++ (wsX5_partner_r2 ++ (wsX5_partner_r3 ++ wsX5_partner_r4))) ++ wsX50 ++ wsX30 ++ wsX10)
def wsX5_line_r1 : List Cond := [Cond.fieldLink RX5 19 "AlternateSigns" "table" "LAlternateSigns$Table;", Cond.fieldLink RX5 84 "AlternateSigns$Table" "size" "I", Cond.fieldLink RX5 39 "AlternateSigns" "lines" "LAlternateSigns$Lines;", Cond.fieldLink RX5 194 "AlternateSigns$Lines" "lengths" "[I", Cond.methodLink RX5 107 yX5_isBetween, Cond.static yX5_isBetween, Cond.initialized RX5, Cond.code yX5_isBetween cX5_isBetween 3 (some .boolean), Cond.methodLink RX5 146 yX1_trace, Cond.instanceMethod yX1_trace, Cond.selects RX1 yX1_trace yX1_trace, Cond.initialized RX1, Cond.code yX1_trace cX1_trace 4 none, Cond.fieldLink RX1 24 "AlternateSigns$Table" "size" "I", Cond.fieldLink RX1 30 "AlternateSigns$Lines" "size" "I", Cond.methodLink RX1 31 yX1_openPlaces, Cond.instanceMethod yX1_openPlaces, Cond.selects RX1 yX1_openPlaces yX1_openPlaces, Cond.code yX1_openPlaces cX1_openPlaces 5 none, Cond.fieldLink RX1 18 "AlternateSigns$Lines" "open" "[I", Cond.methodLink RX1 50 yX3_isDrawnDown, Cond.instanceMethod yX3_isDrawnDown, Cond.selects RX3 yX3_isDrawnDown yX3_isDrawnDown, Cond.initialized RX3]
def wsX5_line_r2 : List Cond := [Cond.code yX3_isDrawnDown cX3_isDrawnDown 3 (some .boolean), Cond.methodLink RX3 66 yX3_columnSum, Cond.instanceMethod yX3_columnSum, Cond.selects RX3 yX3_columnSum yX3_columnSum, Cond.code yX3_columnSum cX3_columnSum 3 (some .int), Cond.methodLink RX3 25 yX3_cornerAt, Cond.instanceMethod yX3_cornerAt, Cond.selects RX3 yX3_cornerAt yX3_cornerAt, Cond.code yX3_cornerAt cX3_cornerAt 3 (some .int), Cond.fieldLink RX3 9 "AlternateSigns$Table" "corners" "[I", Cond.methodLink RX1 54 yX3_isDrawnAcross, Cond.instanceMethod yX3_isDrawnAcross, Cond.selects RX3 yX3_isDrawnAcross yX3_isDrawnAcross, Cond.code yX3_isDrawnAcross cX3_isDrawnAcross 3 (some .boolean), Cond.methodLink RX3 29 yX3_rowSum, Cond.instanceMethod yX3_rowSum, Cond.selects RX3 yX3_rowSum yX3_rowSum, Cond.code yX3_rowSum cX3_rowSum 3 (some .int), Cond.methodLink RX1 35 yX1_numberEnds, Cond.instanceMethod yX1_numberEnds, Cond.selects RX1 yX1_numberEnds yX1_numberEnds, Cond.code yX1_numberEnds cX1_numberEnds 4 none, Cond.fieldLink RX1 45 "AlternateSigns$Lines" "ends" "I", Cond.fieldLink RX1 21 "AlternateSigns$Lines" "endAtRim" "[I"]
def wsX5_line_r3 : List Cond := [Cond.methodLink RX1 57 yX1_standAtRim, Cond.instanceMethod yX1_standAtRim, Cond.selects RX1 yX1_standAtRim yX1_standAtRim, Cond.code yX1_standAtRim cX1_standAtRim 4 none, Cond.fieldLink RX1 64 "AlternateSigns$Lines" "row" "I", Cond.fieldLink RX1 67 "AlternateSigns$Lines" "column" "I", Cond.fieldLink RX1 70 "AlternateSigns$Lines" "side" "I", Cond.methodLink RX1 60 yX1_isOpen, Cond.instanceMethod yX1_isOpen, Cond.selects RX1 yX1_isOpen yX1_isOpen, Cond.code yX1_isOpen cX1_isOpen 2 (some .boolean), Cond.methodLink RX1 38 yX1_followLine, Cond.instanceMethod yX1_followLine, Cond.selects RX1 yX1_followLine yX1_followLine, Cond.code yX1_followLine cX1_followLine 6 none, Cond.methodLink RX1 77 yX1_isInside, Cond.instanceMethod yX1_isInside, Cond.selects RX1 yX1_isInside yX1_isInside, Cond.code yX1_isInside cX1_isInside 1 (some .boolean), Cond.methodLink RX1 81 yX1_goOn, Cond.instanceMethod yX1_goOn, Cond.selects RX1 yX1_goOn yX1_goOn, Cond.code yX1_goOn cX1_goOn 3 none, Cond.methodLink RX1 84 yX1_rimPassed]
def wsX5_line_r4 : List Cond := [Cond.instanceMethod yX1_rimPassed, Cond.selects RX1 yX1_rimPassed yX1_rimPassed, Cond.code yX1_rimPassed cX1_rimPassed 1 (some .int), Cond.methodLink RX1 88 yX1_join, Cond.instanceMethod yX1_join, Cond.selects RX1 yX1_join yX1_join, Cond.code yX1_join cX1_join 4 none, Cond.fieldLink RX1 9 "AlternateSigns$Lines" "partners" "[I", Cond.fieldLink RX1 15 "AlternateSigns$Lines" "lengths" "[I", Cond.methodLink RX1 42 yX1_followRings, Cond.instanceMethod yX1_followRings, Cond.selects RX1 yX1_followRings yX1_followRings, Cond.code yX1_followRings cX1_followRings 3 none, Cond.fieldLink RX1 92 "AlternateSigns$Lines" "rings" "I", Cond.fieldLink RX1 95 "AlternateSigns$Lines" "ringEdges" "I", Cond.methodLink RX1 98 yX1_followRing, Cond.instanceMethod yX1_followRing, Cond.selects RX1 yX1_followRing yX1_followRing, Cond.code yX1_followRing cX1_followRing 4 none]
def wsX5_line : List Cond := .code yX5_line cX5_line 2 (some .int) :: ((wsX5_line_r1 ++ (wsX5_line_r2 ++ (wsX5_line_r3 ++ wsX5_line_r4))) ++ wsX50 ++ wsX30 ++ wsX10)
def wsX5_rank_r1 : List Cond := [Cond.fieldLink RX5 45 "AlternateSigns" "sizes" "[LAlternateSigns$AllOfSize;", Cond.fieldLink RX5 19 "AlternateSigns" "table" "LAlternateSigns$Table;", Cond.fieldLink RX5 84 "AlternateSigns$Table" "size" "I", Cond.methodLink RX5 197 yX0_rankOf, Cond.instanceMethod yX0_rankOf, Cond.selects RX0 yX0_rankOf yX0_rankOf, Cond.initialized RX0, Cond.code yX0_rankOf cX0_rankOf 6 (some .int), Cond.fieldLink RX0 22 "AlternateSigns$AllOfSize" "size" "I", Cond.methodLink RX0 29 yX0_countEndings, Cond.instanceMethod yX0_countEndings, Cond.selects RX0 yX0_countEndings yX0_countEndings, Cond.code yX0_countEndings cX0_countEndings 3 none, Cond.fieldLink RX0 80 "AlternateSigns$AllOfSize" "areEndingsCounted" "Z", Cond.fieldLink RX0 9 "AlternateSigns$AllOfSize" "endings" "[I", Cond.fieldLink RX0 26 "AlternateSigns$AllOfSize" "masks" "I", Cond.methodLink RX0 84 yJ6_bitCount_0f7a4, Cond.static yJ6_bitCount_0f7a4, Cond.initialized RJ6, Cond.code yJ6_bitCount_0f7a4 cJ6_bitCount_0f7a4 1 (some .int), Cond.constant RJ6 265 (1431655765), Cond.constant RJ6 266 (858993459), Cond.constant RJ6 267 (252645135), Cond.methodLink RX0 38 yX0_endingsFrom]
def wsX5_rank_r2 : List Cond := [Cond.instanceMethod yX0_endingsFrom, Cond.selects RX0 yX0_endingsFrom yX0_endingsFrom, Cond.code yX0_endingsFrom cX0_endingsFrom 5 (some .int), Cond.methodLink RX0 43 yX0_canFollow, Cond.instanceMethod yX0_canFollow, Cond.selects RX0 yX0_canFollow yX0_canFollow, Cond.code yX0_canFollow cX0_canFollow 5 (some .boolean), Cond.methodLink RX0 32 yX3_fullColumns, Cond.instanceMethod yX3_fullColumns, Cond.selects RX3 yX3_fullColumns yX3_fullColumns, Cond.initialized RX3, Cond.code yX3_fullColumns cX3_fullColumns 4 (some .int), Cond.fieldLink RX3 15 "AlternateSigns$Table" "size" "I", Cond.methodLink RX3 66 yX3_columnSum, Cond.instanceMethod yX3_columnSum, Cond.selects RX3 yX3_columnSum yX3_columnSum, Cond.code yX3_columnSum cX3_columnSum 3 (some .int), Cond.methodLink RX3 25 yX3_cornerAt, Cond.instanceMethod yX3_cornerAt, Cond.selects RX3 yX3_cornerAt yX3_cornerAt, Cond.code yX3_cornerAt cX3_cornerAt 3 (some .int), Cond.fieldLink RX3 9 "AlternateSigns$Table" "corners" "[I"]
def wsX5_rank : List Cond := .code yX5_rank cX5_rank 1 (some .int) :: ((wsX5_rank_r1 ++ wsX5_rank_r2) ++ wsX50 ++ wsX30 ++ wsX00)
def wsX5_many_r1 : List Cond := [Cond.fieldLink RX5 45 "AlternateSigns" "sizes" "[LAlternateSigns$AllOfSize;", Cond.methodLink RX5 87 yX5_isSize, Cond.static yX5_isSize, Cond.initialized RX5, Cond.code yX5_isSize cX5_isSize 1 (some .boolean), Cond.methodLink RX5 107 yX5_isBetween, Cond.static yX5_isBetween, Cond.code yX5_isBetween cX5_isBetween 3 (some .boolean), Cond.methodLink RX5 91 yX0_total, Cond.instanceMethod yX0_total, Cond.selects RX0 yX0_total yX0_total, Cond.initialized RX0, Cond.code yX0_total cX0_total 1 (some .int), Cond.fieldLink RX0 9 "AlternateSigns$AllOfSize" "endings" "[I", Cond.methodLink RX0 29 yX0_countEndings, Cond.instanceMethod yX0_countEndings, Cond.selects RX0 yX0_countEndings yX0_countEndings, Cond.code yX0_countEndings cX0_countEndings 3 none, Cond.fieldLink RX0 80 "AlternateSigns$AllOfSize" "areEndingsCounted" "Z", Cond.fieldLink RX0 26 "AlternateSigns$AllOfSize" "masks" "I", Cond.fieldLink RX0 22 "AlternateSigns$AllOfSize" "size" "I", Cond.methodLink RX0 84 yJ6_bitCount_0f7a4, Cond.static yJ6_bitCount_0f7a4, Cond.initialized RJ6]
def wsX5_many_r2 : List Cond := [Cond.code yJ6_bitCount_0f7a4 cJ6_bitCount_0f7a4 1 (some .int), Cond.constant RJ6 265 (1431655765), Cond.constant RJ6 266 (858993459), Cond.constant RJ6 267 (252645135), Cond.methodLink RX0 38 yX0_endingsFrom, Cond.instanceMethod yX0_endingsFrom, Cond.selects RX0 yX0_endingsFrom yX0_endingsFrom, Cond.code yX0_endingsFrom cX0_endingsFrom 5 (some .int), Cond.methodLink RX0 43 yX0_canFollow, Cond.instanceMethod yX0_canFollow, Cond.selects RX0 yX0_canFollow yX0_canFollow, Cond.code yX0_canFollow cX0_canFollow 5 (some .boolean), Cond.methodLink RX5 200 yX0_withFirstOne, Cond.instanceMethod yX0_withFirstOne, Cond.selects RX0 yX0_withFirstOne yX0_withFirstOne, Cond.code yX0_withFirstOne cX0_withFirstOne 2 (some .int)]
def wsX5_many : List Cond := .code yX5_many cX5_many 4 (some .int) :: ((wsX5_many_r1 ++ wsX5_many_r2) ++ wsX50 ++ wsX00)
def wsX5_alike_r1 : List Cond := [Cond.fieldLink RX5 19 "AlternateSigns" "table" "LAlternateSigns$Table;", Cond.fieldLink RX5 84 "AlternateSigns$Table" "size" "I", Cond.fieldLink RX5 45 "AlternateSigns" "sizes" "[LAlternateSigns$AllOfSize;", Cond.fieldLink RX5 39 "AlternateSigns" "lines" "LAlternateSigns$Lines;", Cond.fieldLink RX5 26 "AlternateSigns" "spare" "LAlternateSigns$Table;", Cond.fieldLink RX5 216 "AlternateSigns$AllOfSize" "tally" "[I", Cond.methodLink RX5 204 yX0_sortByPartners, Cond.instanceMethod yX0_sortByPartners, Cond.selects RX0 yX0_sortByPartners yX0_sortByPartners, Cond.initialized RX0, Cond.code yX0_sortByPartners cX0_sortByPartners 5 none, Cond.fieldLink RX0 51 "AlternateSigns$AllOfSize" "ways" "I", Cond.methodLink RX0 54 yX0_total, Cond.instanceMethod yX0_total, Cond.selects RX0 yX0_total yX0_total, Cond.code yX0_total cX0_total 1 (some .int), Cond.fieldLink RX0 9 "AlternateSigns$AllOfSize" "endings" "[I", Cond.methodLink RX0 29 yX0_countEndings, Cond.instanceMethod yX0_countEndings, Cond.selects RX0 yX0_countEndings yX0_countEndings, Cond.code yX0_countEndings cX0_countEndings 3 none, Cond.fieldLink RX0 80 "AlternateSigns$AllOfSize" "areEndingsCounted" "Z", Cond.fieldLink RX0 26 "AlternateSigns$AllOfSize" "masks" "I", Cond.fieldLink RX0 22 "AlternateSigns$AllOfSize" "size" "I"]
def wsX5_alike_r2 : List Cond := [Cond.methodLink RX0 84 yJ6_bitCount_0f7a4, Cond.static yJ6_bitCount_0f7a4, Cond.initialized RJ6, Cond.code yJ6_bitCount_0f7a4 cJ6_bitCount_0f7a4 1 (some .int), Cond.constant RJ6 265 (1431655765), Cond.constant RJ6 266 (858993459), Cond.constant RJ6 267 (252645135), Cond.methodLink RX0 38 yX0_endingsFrom, Cond.instanceMethod yX0_endingsFrom, Cond.selects RX0 yX0_endingsFrom yX0_endingsFrom, Cond.code yX0_endingsFrom cX0_endingsFrom 5 (some .int), Cond.methodLink RX0 43 yX0_canFollow, Cond.instanceMethod yX0_canFollow, Cond.selects RX0 yX0_canFollow yX0_canFollow, Cond.code yX0_canFollow cX0_canFollow 5 (some .boolean), Cond.methodLink RX0 58 yX0_put, Cond.instanceMethod yX0_put, Cond.selects RX0 yX0_put yX0_put, Cond.code yX0_put cX0_put 8 none, Cond.fieldLink RX0 42 "AlternateSigns$Table" "size" "I", Cond.methodLink RX0 47 yX3_putFullColumns, Cond.instanceMethod yX3_putFullColumns, Cond.selects RX3 yX3_putFullColumns yX3_putFullColumns, Cond.initialized RX3]
def wsX5_alike_r3 : List Cond := [Cond.code yX3_putFullColumns cX3_putFullColumns 5 none, Cond.fieldLink RX3 15 "AlternateSigns$Table" "size" "I", Cond.methodLink RX3 25 yX3_cornerAt, Cond.instanceMethod yX3_cornerAt, Cond.selects RX3 yX3_cornerAt yX3_cornerAt, Cond.code yX3_cornerAt cX3_cornerAt 3 (some .int), Cond.fieldLink RX3 9 "AlternateSigns$Table" "corners" "[I", Cond.methodLink RX3 41 yX3_putCorner, Cond.instanceMethod yX3_putCorner, Cond.selects RX3 yX3_putCorner yX3_putCorner, Cond.code yX3_putCorner cX3_putCorner 4 none, Cond.methodLink RX0 62 yX1_trace, Cond.instanceMethod yX1_trace, Cond.selects RX1 yX1_trace yX1_trace, Cond.initialized RX1, Cond.code yX1_trace cX1_trace 4 none, Cond.fieldLink RX1 24 "AlternateSigns$Table" "size" "I", Cond.fieldLink RX1 30 "AlternateSigns$Lines" "size" "I", Cond.methodLink RX1 31 yX1_openPlaces, Cond.instanceMethod yX1_openPlaces, Cond.selects RX1 yX1_openPlaces yX1_openPlaces, Cond.code yX1_openPlaces cX1_openPlaces 5 none, Cond.fieldLink RX1 18 "AlternateSigns$Lines" "open" "[I", Cond.methodLink RX1 50 yX3_isDrawnDown]
def wsX5_alike_r4 : List Cond := [Cond.instanceMethod yX3_isDrawnDown, Cond.selects RX3 yX3_isDrawnDown yX3_isDrawnDown, Cond.code yX3_isDrawnDown cX3_isDrawnDown 3 (some .boolean), Cond.methodLink RX3 66 yX3_columnSum, Cond.instanceMethod yX3_columnSum, Cond.selects RX3 yX3_columnSum yX3_columnSum, Cond.code yX3_columnSum cX3_columnSum 3 (some .int), Cond.methodLink RX1 54 yX3_isDrawnAcross, Cond.instanceMethod yX3_isDrawnAcross, Cond.selects RX3 yX3_isDrawnAcross yX3_isDrawnAcross, Cond.code yX3_isDrawnAcross cX3_isDrawnAcross 3 (some .boolean), Cond.methodLink RX3 29 yX3_rowSum, Cond.instanceMethod yX3_rowSum, Cond.selects RX3 yX3_rowSum yX3_rowSum, Cond.code yX3_rowSum cX3_rowSum 3 (some .int), Cond.methodLink RX1 35 yX1_numberEnds, Cond.instanceMethod yX1_numberEnds, Cond.selects RX1 yX1_numberEnds yX1_numberEnds, Cond.code yX1_numberEnds cX1_numberEnds 4 none, Cond.fieldLink RX1 45 "AlternateSigns$Lines" "ends" "I", Cond.fieldLink RX1 21 "AlternateSigns$Lines" "endAtRim" "[I", Cond.methodLink RX1 57 yX1_standAtRim, Cond.instanceMethod yX1_standAtRim, Cond.selects RX1 yX1_standAtRim yX1_standAtRim]
def wsX5_alike_r5 : List Cond := [Cond.code yX1_standAtRim cX1_standAtRim 4 none, Cond.fieldLink RX1 64 "AlternateSigns$Lines" "row" "I", Cond.fieldLink RX1 67 "AlternateSigns$Lines" "column" "I", Cond.fieldLink RX1 70 "AlternateSigns$Lines" "side" "I", Cond.methodLink RX1 60 yX1_isOpen, Cond.instanceMethod yX1_isOpen, Cond.selects RX1 yX1_isOpen yX1_isOpen, Cond.code yX1_isOpen cX1_isOpen 2 (some .boolean), Cond.methodLink RX1 38 yX1_followLine, Cond.instanceMethod yX1_followLine, Cond.selects RX1 yX1_followLine yX1_followLine, Cond.code yX1_followLine cX1_followLine 6 none, Cond.methodLink RX1 77 yX1_isInside, Cond.instanceMethod yX1_isInside, Cond.selects RX1 yX1_isInside yX1_isInside, Cond.code yX1_isInside cX1_isInside 1 (some .boolean), Cond.static yX5_isBetween, Cond.initialized RX5, Cond.code yX5_isBetween cX5_isBetween 3 (some .boolean), Cond.methodLink RX1 81 yX1_goOn, Cond.instanceMethod yX1_goOn, Cond.selects RX1 yX1_goOn yX1_goOn, Cond.code yX1_goOn cX1_goOn 3 none, Cond.methodLink RX1 84 yX1_rimPassed]
def wsX5_alike_r6 : List Cond := [Cond.instanceMethod yX1_rimPassed, Cond.selects RX1 yX1_rimPassed yX1_rimPassed, Cond.code yX1_rimPassed cX1_rimPassed 1 (some .int), Cond.methodLink RX1 88 yX1_join, Cond.instanceMethod yX1_join, Cond.selects RX1 yX1_join yX1_join, Cond.code yX1_join cX1_join 4 none, Cond.fieldLink RX1 9 "AlternateSigns$Lines" "partners" "[I", Cond.fieldLink RX1 15 "AlternateSigns$Lines" "lengths" "[I", Cond.methodLink RX1 42 yX1_followRings, Cond.instanceMethod yX1_followRings, Cond.selects RX1 yX1_followRings yX1_followRings, Cond.code yX1_followRings cX1_followRings 3 none, Cond.fieldLink RX1 92 "AlternateSigns$Lines" "rings" "I", Cond.fieldLink RX1 95 "AlternateSigns$Lines" "ringEdges" "I", Cond.methodLink RX1 98 yX1_followRing, Cond.instanceMethod yX1_followRing, Cond.selects RX1 yX1_followRing yX1_followRing, Cond.code yX1_followRing cX1_followRing 4 none, Cond.methodLink RX0 68 yX1_partnersCode, Cond.instanceMethod yX1_partnersCode, Cond.selects RX1 yX1_partnersCode yX1_partnersCode, Cond.code yX1_partnersCode cX1_partnersCode 4 (some .long), Cond.constantLong RX1 48 (12)]
def wsX5_alike_r7 : List Cond := [Cond.methodLink RX0 72 yX0_addToWay, Cond.instanceMethod yX0_addToWay, Cond.selects RX0 yX0_addToWay yX0_addToWay, Cond.code yX0_addToWay cX0_addToWay 4 none, Cond.fieldLink RX0 15 "AlternateSigns$AllOfSize" "codes" "[J", Cond.fieldLink RX0 19 "AlternateSigns$AllOfSize" "tally" "[I", Cond.methodLink RX0 76 yX0_wayOf, Cond.instanceMethod yX0_wayOf, Cond.selects RX0 yX0_wayOf yX0_wayOf, Cond.code yX0_wayOf cX0_wayOf 4 (some .int), Cond.methodLink RX5 146 yX1_trace, Cond.methodLink RX5 208 yX1_partnersCode, Cond.methodLink RX5 212 yX0_wayOf, Cond.methodLink RX5 107 yX5_isBetween]
def wsX5_alike : List Cond := .code yX5_alike cX5_alike 3 (some .int) :: ((wsX5_alike_r1 ++ (wsX5_alike_r2 ++ (wsX5_alike_r3 ++ (wsX5_alike_r4 ++ (wsX5_alike_r5 ++ (wsX5_alike_r6 ++ wsX5_alike_r7)))))) ++ wsX50 ++ wsX30 ++ wsX00 ++ wsX10)
def wsX5_ways_r1 : List Cond := [Cond.fieldLink RX5 45 "AlternateSigns" "sizes" "[LAlternateSigns$AllOfSize;", Cond.fieldLink RX5 39 "AlternateSigns" "lines" "LAlternateSigns$Lines;", Cond.fieldLink RX5 26 "AlternateSigns" "spare" "LAlternateSigns$Table;", Cond.fieldLink RX5 219 "AlternateSigns$AllOfSize" "ways" "I", Cond.fieldLink RX5 216 "AlternateSigns$AllOfSize" "tally" "[I", Cond.methodLink RX5 107 yX5_isBetween, Cond.static yX5_isBetween, Cond.initialized RX5, Cond.code yX5_isBetween cX5_isBetween 3 (some .boolean), Cond.methodLink RX5 204 yX0_sortByPartners, Cond.instanceMethod yX0_sortByPartners, Cond.selects RX0 yX0_sortByPartners yX0_sortByPartners, Cond.initialized RX0, Cond.code yX0_sortByPartners cX0_sortByPartners 5 none, Cond.fieldLink RX0 51 "AlternateSigns$AllOfSize" "ways" "I", Cond.methodLink RX0 54 yX0_total, Cond.instanceMethod yX0_total, Cond.selects RX0 yX0_total yX0_total, Cond.code yX0_total cX0_total 1 (some .int), Cond.fieldLink RX0 9 "AlternateSigns$AllOfSize" "endings" "[I", Cond.methodLink RX0 29 yX0_countEndings, Cond.instanceMethod yX0_countEndings, Cond.selects RX0 yX0_countEndings yX0_countEndings, Cond.code yX0_countEndings cX0_countEndings 3 none]
def wsX5_ways_r2 : List Cond := [Cond.fieldLink RX0 80 "AlternateSigns$AllOfSize" "areEndingsCounted" "Z", Cond.fieldLink RX0 26 "AlternateSigns$AllOfSize" "masks" "I", Cond.fieldLink RX0 22 "AlternateSigns$AllOfSize" "size" "I", Cond.methodLink RX0 84 yJ6_bitCount_0f7a4, Cond.static yJ6_bitCount_0f7a4, Cond.initialized RJ6, Cond.code yJ6_bitCount_0f7a4 cJ6_bitCount_0f7a4 1 (some .int), Cond.constant RJ6 265 (1431655765), Cond.constant RJ6 266 (858993459), Cond.constant RJ6 267 (252645135), Cond.methodLink RX0 38 yX0_endingsFrom, Cond.instanceMethod yX0_endingsFrom, Cond.selects RX0 yX0_endingsFrom yX0_endingsFrom, Cond.code yX0_endingsFrom cX0_endingsFrom 5 (some .int), Cond.methodLink RX0 43 yX0_canFollow, Cond.instanceMethod yX0_canFollow, Cond.selects RX0 yX0_canFollow yX0_canFollow, Cond.code yX0_canFollow cX0_canFollow 5 (some .boolean), Cond.methodLink RX0 58 yX0_put, Cond.instanceMethod yX0_put, Cond.selects RX0 yX0_put yX0_put, Cond.code yX0_put cX0_put 8 none, Cond.fieldLink RX0 42 "AlternateSigns$Table" "size" "I", Cond.methodLink RX0 47 yX3_putFullColumns]
def wsX5_ways_r3 : List Cond := [Cond.instanceMethod yX3_putFullColumns, Cond.selects RX3 yX3_putFullColumns yX3_putFullColumns, Cond.initialized RX3, Cond.code yX3_putFullColumns cX3_putFullColumns 5 none, Cond.fieldLink RX3 15 "AlternateSigns$Table" "size" "I", Cond.methodLink RX3 25 yX3_cornerAt, Cond.instanceMethod yX3_cornerAt, Cond.selects RX3 yX3_cornerAt yX3_cornerAt, Cond.code yX3_cornerAt cX3_cornerAt 3 (some .int), Cond.fieldLink RX3 9 "AlternateSigns$Table" "corners" "[I", Cond.methodLink RX3 41 yX3_putCorner, Cond.instanceMethod yX3_putCorner, Cond.selects RX3 yX3_putCorner yX3_putCorner, Cond.code yX3_putCorner cX3_putCorner 4 none, Cond.methodLink RX0 62 yX1_trace, Cond.instanceMethod yX1_trace, Cond.selects RX1 yX1_trace yX1_trace, Cond.initialized RX1, Cond.code yX1_trace cX1_trace 4 none, Cond.fieldLink RX1 24 "AlternateSigns$Table" "size" "I", Cond.fieldLink RX1 30 "AlternateSigns$Lines" "size" "I", Cond.methodLink RX1 31 yX1_openPlaces, Cond.instanceMethod yX1_openPlaces, Cond.selects RX1 yX1_openPlaces yX1_openPlaces]
def wsX5_ways_r4 : List Cond := [Cond.code yX1_openPlaces cX1_openPlaces 5 none, Cond.fieldLink RX1 18 "AlternateSigns$Lines" "open" "[I", Cond.methodLink RX1 50 yX3_isDrawnDown, Cond.instanceMethod yX3_isDrawnDown, Cond.selects RX3 yX3_isDrawnDown yX3_isDrawnDown, Cond.code yX3_isDrawnDown cX3_isDrawnDown 3 (some .boolean), Cond.methodLink RX3 66 yX3_columnSum, Cond.instanceMethod yX3_columnSum, Cond.selects RX3 yX3_columnSum yX3_columnSum, Cond.code yX3_columnSum cX3_columnSum 3 (some .int), Cond.methodLink RX1 54 yX3_isDrawnAcross, Cond.instanceMethod yX3_isDrawnAcross, Cond.selects RX3 yX3_isDrawnAcross yX3_isDrawnAcross, Cond.code yX3_isDrawnAcross cX3_isDrawnAcross 3 (some .boolean), Cond.methodLink RX3 29 yX3_rowSum, Cond.instanceMethod yX3_rowSum, Cond.selects RX3 yX3_rowSum yX3_rowSum, Cond.code yX3_rowSum cX3_rowSum 3 (some .int), Cond.methodLink RX1 35 yX1_numberEnds, Cond.instanceMethod yX1_numberEnds, Cond.selects RX1 yX1_numberEnds yX1_numberEnds, Cond.code yX1_numberEnds cX1_numberEnds 4 none, Cond.fieldLink RX1 45 "AlternateSigns$Lines" "ends" "I", Cond.fieldLink RX1 21 "AlternateSigns$Lines" "endAtRim" "[I"]
def wsX5_ways_r5 : List Cond := [Cond.methodLink RX1 57 yX1_standAtRim, Cond.instanceMethod yX1_standAtRim, Cond.selects RX1 yX1_standAtRim yX1_standAtRim, Cond.code yX1_standAtRim cX1_standAtRim 4 none, Cond.fieldLink RX1 64 "AlternateSigns$Lines" "row" "I", Cond.fieldLink RX1 67 "AlternateSigns$Lines" "column" "I", Cond.fieldLink RX1 70 "AlternateSigns$Lines" "side" "I", Cond.methodLink RX1 60 yX1_isOpen, Cond.instanceMethod yX1_isOpen, Cond.selects RX1 yX1_isOpen yX1_isOpen, Cond.code yX1_isOpen cX1_isOpen 2 (some .boolean), Cond.methodLink RX1 38 yX1_followLine, Cond.instanceMethod yX1_followLine, Cond.selects RX1 yX1_followLine yX1_followLine, Cond.code yX1_followLine cX1_followLine 6 none, Cond.methodLink RX1 77 yX1_isInside, Cond.instanceMethod yX1_isInside, Cond.selects RX1 yX1_isInside yX1_isInside, Cond.code yX1_isInside cX1_isInside 1 (some .boolean), Cond.methodLink RX1 81 yX1_goOn, Cond.instanceMethod yX1_goOn, Cond.selects RX1 yX1_goOn yX1_goOn, Cond.code yX1_goOn cX1_goOn 3 none, Cond.methodLink RX1 84 yX1_rimPassed]
def wsX5_ways_r6 : List Cond := [Cond.instanceMethod yX1_rimPassed, Cond.selects RX1 yX1_rimPassed yX1_rimPassed, Cond.code yX1_rimPassed cX1_rimPassed 1 (some .int), Cond.methodLink RX1 88 yX1_join, Cond.instanceMethod yX1_join, Cond.selects RX1 yX1_join yX1_join, Cond.code yX1_join cX1_join 4 none, Cond.fieldLink RX1 9 "AlternateSigns$Lines" "partners" "[I", Cond.fieldLink RX1 15 "AlternateSigns$Lines" "lengths" "[I", Cond.methodLink RX1 42 yX1_followRings, Cond.instanceMethod yX1_followRings, Cond.selects RX1 yX1_followRings yX1_followRings, Cond.code yX1_followRings cX1_followRings 3 none, Cond.fieldLink RX1 92 "AlternateSigns$Lines" "rings" "I", Cond.fieldLink RX1 95 "AlternateSigns$Lines" "ringEdges" "I", Cond.methodLink RX1 98 yX1_followRing, Cond.instanceMethod yX1_followRing, Cond.selects RX1 yX1_followRing yX1_followRing, Cond.code yX1_followRing cX1_followRing 4 none, Cond.methodLink RX0 68 yX1_partnersCode, Cond.instanceMethod yX1_partnersCode, Cond.selects RX1 yX1_partnersCode yX1_partnersCode, Cond.code yX1_partnersCode cX1_partnersCode 4 (some .long), Cond.constantLong RX1 48 (12)]
def wsX5_ways_r7 : List Cond := [Cond.methodLink RX0 72 yX0_addToWay, Cond.instanceMethod yX0_addToWay, Cond.selects RX0 yX0_addToWay yX0_addToWay, Cond.code yX0_addToWay cX0_addToWay 4 none, Cond.fieldLink RX0 15 "AlternateSigns$AllOfSize" "codes" "[J", Cond.fieldLink RX0 19 "AlternateSigns$AllOfSize" "tally" "[I", Cond.methodLink RX0 76 yX0_wayOf, Cond.instanceMethod yX0_wayOf, Cond.selects RX0 yX0_wayOf yX0_wayOf, Cond.code yX0_wayOf cX0_wayOf 4 (some .int)]
def wsX5_ways : List Cond := .code yX5_ways cX5_ways 4 (some .int) :: ((wsX5_ways_r1 ++ (wsX5_ways_r2 ++ (wsX5_ways_r3 ++ (wsX5_ways_r4 ++ (wsX5_ways_r5 ++ (wsX5_ways_r6 ++ wsX5_ways_r7)))))) ++ wsX50 ++ wsX00 ++ wsX30 ++ wsX10)
def wsX6_init : List Cond := .code yX6_init cX6_init 1 none :: ([.methodLink RX6 1 objectInit, .instanceMethod objectInit, .code objectInit ⟨#[0xb1]⟩ 1 none, .arrayClass .int, .fieldLink RX6 7 "AlternateSignsModel" "text" "[I", .fieldLink RX6 13 "AlternateSignsModel" "sign" "[I", .fieldLink RX6 16 "AlternateSignsModel" "other" "[I", .fieldLink RX6 19 "AlternateSignsModel" "before" "[I", .fieldLink RX6 22 "AlternateSignsModel" "read" "[I", .fieldLink RX6 25 "AlternateSignsModel" "side" "[I", .fieldLink RX6 28 "AlternateSignsModel" "tall" "[I", .fieldLink RX6 31 "AlternateSignsModel" "endRow" "[I", .fieldLink RX6 34 "AlternateSignsModel" "endColumn" "[I", .fieldLink RX6 37 "AlternateSignsModel" "endSide" "[I", .arrayClass .boolean, .fieldLink RX6 40 "AlternateSignsModel" "gone" "[Z", .fieldLink RX6 44 "AlternateSignsModel" "ways" "[I", .arrayClass .long, .fieldLink RX6 47 "AlternateSignsModel" "codes" "[J", .fieldLink RX6 51 "AlternateSignsModel" "many" "[I", .fieldLink RX6 54 "AlternateSignsModel" "size" "I"] ++ wsX60)
def wsX6_in : List Cond := .code yX6_in cX6_in 6 (some .boolean) :: ([])
def wsX6_write : List Cond := .code yX6_write cX6_write 2 (some .int) :: ([.constantLong RX6 58 (32), .constantLong RX6 60 (126), .fieldLink RX6 66 "AlternateSignsModel" "length" "I", .fieldLink RX6 7 "AlternateSignsModel" "text" "[I", .methodLink RX6 62 yX6_in, .static yX6_in, .initialized RX6, .code yX6_in cX6_in 6 (some .boolean)] ++ wsX60)
def wsX6_wipe : List Cond := .code yX6_wipe cX6_wipe 2 (some .int) :: ([.fieldLink RX6 66 "AlternateSignsModel" "length" "I"] ++ wsX60)
def wsX6_fault : List Cond := .code yX6_fault cX6_fault 11 (some .int) :: ([.fieldLink RX6 69 "AlternateSignsModel" "readSize" "I", .fieldLink RX6 66 "AlternateSignsModel" "length" "I", .fieldLink RX6 7 "AlternateSignsModel" "text" "[I", .fieldLink RX6 22 "AlternateSignsModel" "read" "[I", .methodLink RX6 62 yX6_in, .static yX6_in, .initialized RX6, .code yX6_in cX6_in 6 (some .boolean)] ++ wsX60)
def wsX6_copy : List Cond := .code yX6_copy cX6_copy 3 none :: ([])
def wsX6_lay : List Cond := .code yX6_lay cX6_lay 1 (some .int) :: ([.fieldLink RX6 69 "AlternateSignsModel" "readSize" "I", .fieldLink RX6 54 "AlternateSignsModel" "size" "I", .fieldLink RX6 22 "AlternateSignsModel" "read" "[I", .fieldLink RX6 13 "AlternateSignsModel" "sign" "[I", .fieldLink RX6 80 "AlternateSignsModel" "undoMany" "I", .methodLink RX6 72 yX6_fault, .instanceMethod yX6_fault, .selects RX6 yX6_fault yX6_fault, .initialized RX6, .code yX6_fault cX6_fault 11 (some .int), .fieldLink RX6 66 "AlternateSignsModel" "length" "I", .fieldLink RX6 7 "AlternateSignsModel" "text" "[I", .methodLink RX6 62 yX6_in, .static yX6_in, .code yX6_in cX6_in 6 (some .boolean), .methodLink RX6 76 yX6_copy, .static yX6_copy, .code yX6_copy cX6_copy 3 none] ++ wsX60)
def wsX6_note : List Cond := .code yX6_note cX6_note 2 none :: ([.fieldLink RX6 80 "AlternateSignsModel" "undoMany" "I", .fieldLink RX6 19 "AlternateSignsModel" "before" "[I", .fieldLink RX6 54 "AlternateSignsModel" "size" "I", .fieldLink RX6 13 "AlternateSignsModel" "sign" "[I"] ++ wsX60)
def wsX6_undo : List Cond := .code yX6_undo cX6_undo 2 (some .int) :: ([.fieldLink RX6 80 "AlternateSignsModel" "undoMany" "I", .fieldLink RX6 19 "AlternateSignsModel" "before" "[I", .fieldLink RX6 54 "AlternateSignsModel" "size" "I", .fieldLink RX6 13 "AlternateSignsModel" "sign" "[I"] ++ wsX60)
def wsX6_keep : List Cond := .code yX6_keep cX6_keep 1 (some .int) :: ([.fieldLink RX6 54 "AlternateSignsModel" "size" "I", .fieldLink RX6 83 "AlternateSignsModel" "otherSize" "I", .fieldLink RX6 13 "AlternateSignsModel" "sign" "[I", .fieldLink RX6 16 "AlternateSignsModel" "other" "[I", .methodLink RX6 76 yX6_copy, .static yX6_copy, .initialized RX6, .code yX6_copy cX6_copy 3 none] ++ wsX60)
def wsX6_sign : List Cond := .code yX6_sign cX6_sign 3 (some .int) :: ([.fieldLink RX6 54 "AlternateSignsModel" "size" "I", .fieldLink RX6 13 "AlternateSignsModel" "sign" "[I", .methodLink RX6 62 yX6_in, .static yX6_in, .initialized RX6, .code yX6_in cX6_in 6 (some .boolean)] ++ wsX60)
def wsX6_cornerOf : List Cond := .code yX6_cornerOf cX6_cornerOf 6 (some .int) :: ([])
def wsX6_heightOf : List Cond := .code yX6_heightOf cX6_heightOf 3 (some .int) :: ([.methodLink RX6 86 yX6_cornerOf, .static yX6_cornerOf, .initialized RX6, .code yX6_cornerOf cX6_cornerOf 6 (some .int)])
def wsX6_isCorner : List Cond := .code yX6_isCorner cX6_isCorner 3 (some .boolean) :: ([.fieldLink RX6 54 "AlternateSignsModel" "size" "I", .methodLink RX6 62 yX6_in, .static yX6_in, .initialized RX6, .code yX6_in cX6_in 6 (some .boolean)] ++ wsX60)
def wsX6_corner : List Cond := .code yX6_corner cX6_corner 3 (some .int) :: ([.fieldLink RX6 13 "AlternateSignsModel" "sign" "[I", .methodLink RX6 90 yX6_isCorner, .instanceMethod yX6_isCorner, .selects RX6 yX6_isCorner yX6_isCorner, .initialized RX6, .code yX6_isCorner cX6_isCorner 3 (some .boolean), .fieldLink RX6 54 "AlternateSignsModel" "size" "I", .methodLink RX6 62 yX6_in, .static yX6_in, .code yX6_in cX6_in 6 (some .boolean), .methodLink RX6 86 yX6_cornerOf, .static yX6_cornerOf, .code yX6_cornerOf cX6_cornerOf 6 (some .int)] ++ wsX60)
def wsX6_height : List Cond := .code yX6_height cX6_height 3 (some .int) :: ([.fieldLink RX6 13 "AlternateSignsModel" "sign" "[I", .methodLink RX6 90 yX6_isCorner, .instanceMethod yX6_isCorner, .selects RX6 yX6_isCorner yX6_isCorner, .initialized RX6, .code yX6_isCorner cX6_isCorner 3 (some .boolean), .fieldLink RX6 54 "AlternateSignsModel" "size" "I", .methodLink RX6 62 yX6_in, .static yX6_in, .code yX6_in cX6_in 6 (some .boolean), .methodLink RX6 94 yX6_heightOf, .static yX6_heightOf, .code yX6_heightOf cX6_heightOf 3 (some .int), .methodLink RX6 86 yX6_cornerOf, .static yX6_cornerOf, .code yX6_cornerOf cX6_cornerOf 6 (some .int)] ++ wsX60)
def wsX6_mayBe : List Cond := .code yX6_mayBe cX6_mayBe 6 (some .int) :: ([.methodLink RX6 94 yX6_heightOf, .static yX6_heightOf, .initialized RX6, .code yX6_heightOf cX6_heightOf 3 (some .int), .methodLink RX6 86 yX6_cornerOf, .static yX6_cornerOf, .code yX6_cornerOf cX6_cornerOf 6 (some .int)])
def wsX6_isInner : List Cond := .code yX6_isInner cX6_isInner 3 (some .boolean) :: ([.fieldLink RX6 54 "AlternateSignsModel" "size" "I", .methodLink RX6 62 yX6_in, .static yX6_in, .initialized RX6, .code yX6_in cX6_in 6 (some .boolean)] ++ wsX60)
def wsX6_may : List Cond := .code yX6_may cX6_may 3 (some .int) :: ([.fieldLink RX6 13 "AlternateSignsModel" "sign" "[I", .methodLink RX6 97 yX6_isInner, .instanceMethod yX6_isInner, .selects RX6 yX6_isInner yX6_isInner, .initialized RX6, .code yX6_isInner cX6_isInner 3 (some .boolean), .fieldLink RX6 54 "AlternateSignsModel" "size" "I", .methodLink RX6 62 yX6_in, .static yX6_in, .code yX6_in cX6_in 6 (some .boolean), .methodLink RX6 100 yX6_mayBe, .static yX6_mayBe, .code yX6_mayBe cX6_mayBe 6 (some .int), .methodLink RX6 94 yX6_heightOf, .static yX6_heightOf, .code yX6_heightOf cX6_heightOf 3 (some .int), .methodLink RX6 86 yX6_cornerOf, .static yX6_cornerOf, .code yX6_cornerOf cX6_cornerOf 6 (some .int)] ++ wsX60)
def wsX6_flips : List Cond := .code yX6_flips cX6_flips 5 (some .boolean) :: ([.methodLink RX6 100 yX6_mayBe, .static yX6_mayBe, .initialized RX6, .code yX6_mayBe cX6_mayBe 6 (some .int), .methodLink RX6 94 yX6_heightOf, .static yX6_heightOf, .code yX6_heightOf cX6_heightOf 3 (some .int), .methodLink RX6 86 yX6_cornerOf, .static yX6_cornerOf, .code yX6_cornerOf cX6_cornerOf 6 (some .int)])
def wsX6_flip_r1 : List Cond := [Cond.fieldLink RX6 13 "AlternateSignsModel" "sign" "[I", Cond.methodLink RX6 97 yX6_isInner, Cond.instanceMethod yX6_isInner, Cond.selects RX6 yX6_isInner yX6_isInner, Cond.initialized RX6, Cond.code yX6_isInner cX6_isInner 3 (some .boolean), Cond.fieldLink RX6 54 "AlternateSignsModel" "size" "I", Cond.methodLink RX6 62 yX6_in, Cond.static yX6_in, Cond.code yX6_in cX6_in 6 (some .boolean), Cond.methodLink RX6 100 yX6_mayBe, Cond.static yX6_mayBe, Cond.code yX6_mayBe cX6_mayBe 6 (some .int), Cond.methodLink RX6 94 yX6_heightOf, Cond.static yX6_heightOf, Cond.code yX6_heightOf cX6_heightOf 3 (some .int), Cond.methodLink RX6 86 yX6_cornerOf, Cond.static yX6_cornerOf, Cond.code yX6_cornerOf cX6_cornerOf 6 (some .int), Cond.methodLink RX6 103 yX6_note, Cond.instanceMethod yX6_note, Cond.selects RX6 yX6_note yX6_note, Cond.code yX6_note cX6_note 2 none, Cond.fieldLink RX6 80 "AlternateSignsModel" "undoMany" "I"]
def wsX6_flip_r2 : List Cond := [Cond.fieldLink RX6 19 "AlternateSignsModel" "before" "[I", Cond.methodLink RX6 106 yX6_flips, Cond.static yX6_flips, Cond.code yX6_flips cX6_flips 5 (some .boolean)]
def wsX6_flip : List Cond := .code yX6_flip cX6_flip 3 (some .int) :: ((wsX6_flip_r1 ++ wsX6_flip_r2) ++ wsX60)
def wsX6_gyrates : List Cond := .code yX6_gyrates cX6_gyrates 6 (some .int) :: ([.fieldLink RX6 54 "AlternateSignsModel" "size" "I", .methodLink RX6 106 yX6_flips, .static yX6_flips, .initialized RX6, .code yX6_flips cX6_flips 5 (some .boolean), .methodLink RX6 100 yX6_mayBe, .static yX6_mayBe, .code yX6_mayBe cX6_mayBe 6 (some .int), .methodLink RX6 94 yX6_heightOf, .static yX6_heightOf, .code yX6_heightOf cX6_heightOf 3 (some .int), .methodLink RX6 86 yX6_cornerOf, .static yX6_cornerOf, .code yX6_cornerOf cX6_cornerOf 6 (some .int)] ++ wsX60)
def wsX6_gyrate_r1 : List Cond := [Cond.constantLong RX6 110 (100), Cond.fieldLink RX6 13 "AlternateSignsModel" "sign" "[I", Cond.methodLink RX6 62 yX6_in, Cond.static yX6_in, Cond.initialized RX6, Cond.code yX6_in cX6_in 6 (some .boolean), Cond.methodLink RX6 103 yX6_note, Cond.instanceMethod yX6_note, Cond.selects RX6 yX6_note yX6_note, Cond.code yX6_note cX6_note 2 none, Cond.fieldLink RX6 80 "AlternateSignsModel" "undoMany" "I", Cond.fieldLink RX6 19 "AlternateSignsModel" "before" "[I", Cond.fieldLink RX6 54 "AlternateSignsModel" "size" "I", Cond.methodLink RX6 112 yX6_gyrates, Cond.instanceMethod yX6_gyrates, Cond.selects RX6 yX6_gyrates yX6_gyrates, Cond.code yX6_gyrates cX6_gyrates 6 (some .int), Cond.methodLink RX6 106 yX6_flips, Cond.static yX6_flips, Cond.code yX6_flips cX6_flips 5 (some .boolean), Cond.methodLink RX6 100 yX6_mayBe, Cond.static yX6_mayBe, Cond.code yX6_mayBe cX6_mayBe 6 (some .int), Cond.methodLink RX6 94 yX6_heightOf]
def wsX6_gyrate_r2 : List Cond := [Cond.static yX6_heightOf, Cond.code yX6_heightOf cX6_heightOf 3 (some .int), Cond.methodLink RX6 86 yX6_cornerOf, Cond.static yX6_cornerOf, Cond.code yX6_cornerOf cX6_cornerOf 6 (some .int)]
def wsX6_gyrate : List Cond := .code yX6_gyrate cX6_gyrate 4 (some .int) :: ((wsX6_gyrate_r1 ++ wsX6_gyrate_r2) ++ wsX60)
def wsX6_isOwn : List Cond := .code yX6_isOwn cX6_isOwn 5 (some .boolean) :: ([.fieldLink RX6 54 "AlternateSignsModel" "size" "I", .fieldLink RX6 13 "AlternateSignsModel" "sign" "[I"] ++ wsX60)
def wsX6_orbit_r1 : List Cond := [Cond.fieldLink RX6 13 "AlternateSignsModel" "sign" "[I", Cond.fieldLink RX6 25 "AlternateSignsModel" "side" "[I", Cond.methodLink RX6 76 yX6_copy, Cond.static yX6_copy, Cond.initialized RX6, Cond.code yX6_copy cX6_copy 3 none, Cond.methodLink RX6 112 yX6_gyrates, Cond.instanceMethod yX6_gyrates, Cond.selects RX6 yX6_gyrates yX6_gyrates, Cond.code yX6_gyrates cX6_gyrates 6 (some .int), Cond.fieldLink RX6 54 "AlternateSignsModel" "size" "I", Cond.methodLink RX6 106 yX6_flips, Cond.static yX6_flips, Cond.code yX6_flips cX6_flips 5 (some .boolean), Cond.methodLink RX6 100 yX6_mayBe, Cond.static yX6_mayBe, Cond.code yX6_mayBe cX6_mayBe 6 (some .int), Cond.methodLink RX6 94 yX6_heightOf, Cond.static yX6_heightOf, Cond.code yX6_heightOf cX6_heightOf 3 (some .int), Cond.methodLink RX6 86 yX6_cornerOf, Cond.static yX6_cornerOf, Cond.code yX6_cornerOf cX6_cornerOf 6 (some .int), Cond.methodLink RX6 116 yX6_isOwn]
def wsX6_orbit_r2 : List Cond := [Cond.instanceMethod yX6_isOwn, Cond.selects RX6 yX6_isOwn yX6_isOwn, Cond.code yX6_isOwn cX6_isOwn 5 (some .boolean)]
def wsX6_orbit : List Cond := .code yX6_orbit cX6_orbit 3 (some .int) :: ((wsX6_orbit_r1 ++ wsX6_orbit_r2) ++ wsX60)
def wsX6_far : List Cond := .code yX6_far cX6_far 1 (some .int) :: ([])
def wsX6_apart : List Cond := .code yX6_apart cX6_apart 4 (some .int) :: ([.fieldLink RX6 83 "AlternateSignsModel" "otherSize" "I", .fieldLink RX6 54 "AlternateSignsModel" "size" "I", .fieldLink RX6 13 "AlternateSignsModel" "sign" "[I", .fieldLink RX6 16 "AlternateSignsModel" "other" "[I", .methodLink RX6 94 yX6_heightOf, .static yX6_heightOf, .initialized RX6, .code yX6_heightOf cX6_heightOf 3 (some .int), .methodLink RX6 86 yX6_cornerOf, .static yX6_cornerOf, .code yX6_cornerOf cX6_cornerOf 6 (some .int), .methodLink RX6 120 yX6_far, .static yX6_far, .code yX6_far cX6_far 1 (some .int)] ++ wsX60)
def wsX6_next : List Cond := .code yX6_next cX6_next 5 (some .int) :: ([.fieldLink RX6 83 "AlternateSignsModel" "otherSize" "I", .fieldLink RX6 54 "AlternateSignsModel" "size" "I", .fieldLink RX6 16 "AlternateSignsModel" "other" "[I", .fieldLink RX6 13 "AlternateSignsModel" "sign" "[I", .methodLink RX6 94 yX6_heightOf, .static yX6_heightOf, .initialized RX6, .code yX6_heightOf cX6_heightOf 3 (some .int), .methodLink RX6 86 yX6_cornerOf, .static yX6_cornerOf, .code yX6_cornerOf cX6_cornerOf 6 (some .int), .methodLink RX6 100 yX6_mayBe, .static yX6_mayBe, .code yX6_mayBe cX6_mayBe 6 (some .int)] ++ wsX60)
def wsX6_both : List Cond := .code yX6_both cX6_both 8 (some .int) :: ([.fieldLink RX6 83 "AlternateSignsModel" "otherSize" "I", .fieldLink RX6 54 "AlternateSignsModel" "size" "I", .fieldLink RX6 13 "AlternateSignsModel" "sign" "[I", .fieldLink RX6 16 "AlternateSignsModel" "other" "[I", .fieldLink RX6 28 "AlternateSignsModel" "tall" "[I", .methodLink RX6 62 yX6_in, .static yX6_in, .initialized RX6, .code yX6_in cX6_in 6 (some .boolean), .methodLink RX6 94 yX6_heightOf, .static yX6_heightOf, .code yX6_heightOf cX6_heightOf 3 (some .int), .methodLink RX6 86 yX6_cornerOf, .static yX6_cornerOf, .code yX6_cornerOf cX6_cornerOf 6 (some .int), .methodLink RX6 103 yX6_note, .instanceMethod yX6_note, .selects RX6 yX6_note yX6_note, .code yX6_note cX6_note 2 none, .fieldLink RX6 80 "AlternateSignsModel" "undoMany" "I", .fieldLink RX6 19 "AlternateSignsModel" "before" "[I"] ++ wsX60)
def wsX6_turn : List Cond := .code yX6_turn cX6_turn 7 (some .int) :: ([.constantLong RX6 124 (6), .fieldLink RX6 13 "AlternateSignsModel" "sign" "[I", .fieldLink RX6 25 "AlternateSignsModel" "side" "[I", .fieldLink RX6 54 "AlternateSignsModel" "size" "I", .methodLink RX6 62 yX6_in, .static yX6_in, .initialized RX6, .code yX6_in cX6_in 6 (some .boolean), .methodLink RX6 103 yX6_note, .instanceMethod yX6_note, .selects RX6 yX6_note yX6_note, .code yX6_note cX6_note 2 none, .fieldLink RX6 80 "AlternateSignsModel" "undoMany" "I", .fieldLink RX6 19 "AlternateSignsModel" "before" "[I", .methodLink RX6 76 yX6_copy, .static yX6_copy, .code yX6_copy cX6_copy 3 none] ++ wsX60)
def wsX6_isAcross : List Cond := .code yX6_isAcross cX6_isAcross 5 (some .boolean) :: ([])
def wsX6_isDown : List Cond := .code yX6_isDown cX6_isDown 5 (some .boolean) :: ([])
def wsX6_across : List Cond := .code yX6_across cX6_across 3 (some .int) :: ([.fieldLink RX6 54 "AlternateSignsModel" "size" "I", .fieldLink RX6 13 "AlternateSignsModel" "sign" "[I", .methodLink RX6 62 yX6_in, .static yX6_in, .initialized RX6, .code yX6_in cX6_in 6 (some .boolean), .methodLink RX6 126 yX6_isAcross, .static yX6_isAcross, .code yX6_isAcross cX6_isAcross 5 (some .boolean)] ++ wsX60)
def wsX6_down : List Cond := .code yX6_down cX6_down 3 (some .int) :: ([.fieldLink RX6 54 "AlternateSignsModel" "size" "I", .fieldLink RX6 13 "AlternateSignsModel" "sign" "[I", .methodLink RX6 62 yX6_in, .static yX6_in, .initialized RX6, .code yX6_in cX6_in 6 (some .boolean), .methodLink RX6 129 yX6_isDown, .static yX6_isDown, .code yX6_isDown cX6_isDown 5 (some .boolean)] ++ wsX60)
def wsX6_isDrawn : List Cond := .code yX6_isDrawn cX6_isDrawn 4 (some .boolean) :: ([.methodLink RX6 129 yX6_isDown, .static yX6_isDown, .initialized RX6, .code yX6_isDown cX6_isDown 5 (some .boolean), .methodLink RX6 126 yX6_isAcross, .static yX6_isAcross, .code yX6_isAcross cX6_isAcross 5 (some .boolean)])
def wsX6_findEnds : List Cond := .code yX6_findEnds cX6_findEnds 9 none :: ([.fieldLink RX6 31 "AlternateSignsModel" "endRow" "[I", .fieldLink RX6 34 "AlternateSignsModel" "endColumn" "[I", .fieldLink RX6 37 "AlternateSignsModel" "endSide" "[I", .methodLink RX6 132 yX6_isDrawn, .static yX6_isDrawn, .initialized RX6, .code yX6_isDrawn cX6_isDrawn 4 (some .boolean), .methodLink RX6 129 yX6_isDown, .static yX6_isDown, .code yX6_isDown cX6_isDown 5 (some .boolean), .methodLink RX6 126 yX6_isAcross, .static yX6_isAcross, .code yX6_isAcross cX6_isAcross 5 (some .boolean)] ++ wsX60)
def wsX6_goesOn : List Cond := .code yX6_goesOn cX6_goesOn 6 (some .boolean) :: ([.fieldLink RX6 136 "AlternateSignsModel" "lineSide" "I", .fieldLink RX6 139 "AlternateSignsModel" "lineRow" "I", .fieldLink RX6 142 "AlternateSignsModel" "lineColumn" "I", .fieldLink RX6 40 "AlternateSignsModel" "gone" "[Z", .fieldLink RX6 145 "AlternateSignsModel" "lineMany" "I", .methodLink RX6 132 yX6_isDrawn, .static yX6_isDrawn, .initialized RX6, .code yX6_isDrawn cX6_isDrawn 4 (some .boolean), .methodLink RX6 129 yX6_isDown, .static yX6_isDown, .code yX6_isDown cX6_isDown 5 (some .boolean), .methodLink RX6 126 yX6_isAcross, .static yX6_isAcross, .code yX6_isAcross cX6_isAcross 5 (some .boolean), .methodLink RX6 62 yX6_in, .static yX6_in, .code yX6_in cX6_in 6 (some .boolean)] ++ wsX60)
def wsX6_goes_r1 : List Cond := [Cond.fieldLink RX6 31 "AlternateSignsModel" "endRow" "[I", Cond.fieldLink RX6 139 "AlternateSignsModel" "lineRow" "I", Cond.fieldLink RX6 34 "AlternateSignsModel" "endColumn" "[I", Cond.fieldLink RX6 142 "AlternateSignsModel" "lineColumn" "I", Cond.fieldLink RX6 37 "AlternateSignsModel" "endSide" "[I", Cond.fieldLink RX6 136 "AlternateSignsModel" "lineSide" "I", Cond.fieldLink RX6 145 "AlternateSignsModel" "lineMany" "I", Cond.methodLink RX6 148 yX6_goesOn, Cond.instanceMethod yX6_goesOn, Cond.selects RX6 yX6_goesOn yX6_goesOn, Cond.initialized RX6, Cond.code yX6_goesOn cX6_goesOn 6 (some .boolean), Cond.fieldLink RX6 40 "AlternateSignsModel" "gone" "[Z", Cond.methodLink RX6 132 yX6_isDrawn, Cond.static yX6_isDrawn, Cond.code yX6_isDrawn cX6_isDrawn 4 (some .boolean), Cond.methodLink RX6 129 yX6_isDown, Cond.static yX6_isDown, Cond.code yX6_isDown cX6_isDown 5 (some .boolean), Cond.methodLink RX6 126 yX6_isAcross, Cond.static yX6_isAcross, Cond.code yX6_isAcross cX6_isAcross 5 (some .boolean), Cond.methodLink RX6 62 yX6_in, Cond.static yX6_in]
def wsX6_goes_r2 : List Cond := [Cond.code yX6_in cX6_in 6 (some .boolean)]
def wsX6_goes : List Cond := .code yX6_goes cX6_goes 6 (some .int) :: ((wsX6_goes_r1 ++ wsX6_goes_r2) ++ wsX60)
def wsX6_isEnd : List Cond := .code yX6_isEnd cX6_isEnd 2 (some .boolean) :: ([.fieldLink RX6 54 "AlternateSignsModel" "size" "I", .methodLink RX6 62 yX6_in, .static yX6_in, .initialized RX6, .code yX6_in cX6_in 6 (some .boolean)] ++ wsX60)
def wsX6_partner_r1 : List Cond := [Cond.fieldLink RX6 13 "AlternateSignsModel" "sign" "[I", Cond.fieldLink RX6 54 "AlternateSignsModel" "size" "I", Cond.methodLink RX6 152 yX6_isEnd, Cond.instanceMethod yX6_isEnd, Cond.selects RX6 yX6_isEnd yX6_isEnd, Cond.initialized RX6, Cond.code yX6_isEnd cX6_isEnd 2 (some .boolean), Cond.methodLink RX6 62 yX6_in, Cond.static yX6_in, Cond.code yX6_in cX6_in 6 (some .boolean), Cond.methodLink RX6 156 yX6_findEnds, Cond.instanceMethod yX6_findEnds, Cond.selects RX6 yX6_findEnds yX6_findEnds, Cond.code yX6_findEnds cX6_findEnds 9 none, Cond.fieldLink RX6 31 "AlternateSignsModel" "endRow" "[I", Cond.fieldLink RX6 34 "AlternateSignsModel" "endColumn" "[I", Cond.fieldLink RX6 37 "AlternateSignsModel" "endSide" "[I", Cond.methodLink RX6 132 yX6_isDrawn, Cond.static yX6_isDrawn, Cond.code yX6_isDrawn cX6_isDrawn 4 (some .boolean), Cond.methodLink RX6 129 yX6_isDown, Cond.static yX6_isDown, Cond.code yX6_isDown cX6_isDown 5 (some .boolean), Cond.methodLink RX6 126 yX6_isAcross]
def wsX6_partner_r2 : List Cond := [Cond.static yX6_isAcross, Cond.code yX6_isAcross cX6_isAcross 5 (some .boolean), Cond.methodLink RX6 160 yX6_goes, Cond.instanceMethod yX6_goes, Cond.selects RX6 yX6_goes yX6_goes, Cond.code yX6_goes cX6_goes 6 (some .int), Cond.fieldLink RX6 139 "AlternateSignsModel" "lineRow" "I", Cond.fieldLink RX6 142 "AlternateSignsModel" "lineColumn" "I", Cond.fieldLink RX6 136 "AlternateSignsModel" "lineSide" "I", Cond.fieldLink RX6 145 "AlternateSignsModel" "lineMany" "I", Cond.methodLink RX6 148 yX6_goesOn, Cond.instanceMethod yX6_goesOn, Cond.selects RX6 yX6_goesOn yX6_goesOn, Cond.code yX6_goesOn cX6_goesOn 6 (some .boolean), Cond.fieldLink RX6 40 "AlternateSignsModel" "gone" "[Z"]
def wsX6_partner : List Cond := .code yX6_partner cX6_partner 2 (some .int) :: ((wsX6_partner_r1 ++ wsX6_partner_r2) ++ wsX60)
def wsX6_line_r1 : List Cond := [Cond.fieldLink RX6 13 "AlternateSignsModel" "sign" "[I", Cond.fieldLink RX6 54 "AlternateSignsModel" "size" "I", Cond.fieldLink RX6 145 "AlternateSignsModel" "lineMany" "I", Cond.methodLink RX6 152 yX6_isEnd, Cond.instanceMethod yX6_isEnd, Cond.selects RX6 yX6_isEnd yX6_isEnd, Cond.initialized RX6, Cond.code yX6_isEnd cX6_isEnd 2 (some .boolean), Cond.methodLink RX6 62 yX6_in, Cond.static yX6_in, Cond.code yX6_in cX6_in 6 (some .boolean), Cond.methodLink RX6 156 yX6_findEnds, Cond.instanceMethod yX6_findEnds, Cond.selects RX6 yX6_findEnds yX6_findEnds, Cond.code yX6_findEnds cX6_findEnds 9 none, Cond.fieldLink RX6 31 "AlternateSignsModel" "endRow" "[I", Cond.fieldLink RX6 34 "AlternateSignsModel" "endColumn" "[I", Cond.fieldLink RX6 37 "AlternateSignsModel" "endSide" "[I", Cond.methodLink RX6 132 yX6_isDrawn, Cond.static yX6_isDrawn, Cond.code yX6_isDrawn cX6_isDrawn 4 (some .boolean), Cond.methodLink RX6 129 yX6_isDown, Cond.static yX6_isDown, Cond.code yX6_isDown cX6_isDown 5 (some .boolean)]
def wsX6_line_r2 : List Cond := [Cond.methodLink RX6 126 yX6_isAcross, Cond.static yX6_isAcross, Cond.code yX6_isAcross cX6_isAcross 5 (some .boolean), Cond.methodLink RX6 160 yX6_goes, Cond.instanceMethod yX6_goes, Cond.selects RX6 yX6_goes yX6_goes, Cond.code yX6_goes cX6_goes 6 (some .int), Cond.fieldLink RX6 139 "AlternateSignsModel" "lineRow" "I", Cond.fieldLink RX6 142 "AlternateSignsModel" "lineColumn" "I", Cond.fieldLink RX6 136 "AlternateSignsModel" "lineSide" "I", Cond.methodLink RX6 148 yX6_goesOn, Cond.instanceMethod yX6_goesOn, Cond.selects RX6 yX6_goesOn yX6_goesOn, Cond.code yX6_goesOn cX6_goesOn 6 (some .boolean), Cond.fieldLink RX6 40 "AlternateSignsModel" "gone" "[Z"]
def wsX6_line : List Cond := .code yX6_line cX6_line 2 (some .int) :: ((wsX6_line_r1 ++ wsX6_line_r2) ++ wsX60)
def wsX6_drawn : List Cond := .code yX6_drawn cX6_drawn 4 (some .int) :: ([.fieldLink RX6 54 "AlternateSignsModel" "size" "I", .fieldLink RX6 13 "AlternateSignsModel" "sign" "[I", .methodLink RX6 126 yX6_isAcross, .static yX6_isAcross, .initialized RX6, .code yX6_isAcross cX6_isAcross 5 (some .boolean), .methodLink RX6 129 yX6_isDown, .static yX6_isDown, .code yX6_isDown cX6_isDown 5 (some .boolean)] ++ wsX60)
def wsX6_ring : List Cond := .code yX6_ring cX6_ring 4 (some .int) :: ([.fieldLink RX6 139 "AlternateSignsModel" "lineRow" "I", .fieldLink RX6 142 "AlternateSignsModel" "lineColumn" "I", .fieldLink RX6 136 "AlternateSignsModel" "lineSide" "I", .fieldLink RX6 13 "AlternateSignsModel" "sign" "[I", .fieldLink RX6 145 "AlternateSignsModel" "lineMany" "I", .fieldLink RX6 54 "AlternateSignsModel" "size" "I", .methodLink RX6 132 yX6_isDrawn, .static yX6_isDrawn, .initialized RX6, .code yX6_isDrawn cX6_isDrawn 4 (some .boolean), .methodLink RX6 129 yX6_isDown, .static yX6_isDown, .code yX6_isDown cX6_isDown 5 (some .boolean), .methodLink RX6 126 yX6_isAcross, .static yX6_isAcross, .code yX6_isAcross cX6_isAcross 5 (some .boolean), .methodLink RX6 148 yX6_goesOn, .instanceMethod yX6_goesOn, .selects RX6 yX6_goesOn yX6_goesOn, .code yX6_goesOn cX6_goesOn 6 (some .boolean), .fieldLink RX6 40 "AlternateSignsModel" "gone" "[Z", .methodLink RX6 62 yX6_in, .static yX6_in, .code yX6_in cX6_in 6 (some .boolean)] ++ wsX60)
def wsX6_rings_r1 : List Cond := [Cond.fieldLink RX6 13 "AlternateSignsModel" "sign" "[I", Cond.fieldLink RX6 54 "AlternateSignsModel" "size" "I", Cond.fieldLink RX6 40 "AlternateSignsModel" "gone" "[Z", Cond.methodLink RX6 156 yX6_findEnds, Cond.instanceMethod yX6_findEnds, Cond.selects RX6 yX6_findEnds yX6_findEnds, Cond.initialized RX6, Cond.code yX6_findEnds cX6_findEnds 9 none, Cond.fieldLink RX6 31 "AlternateSignsModel" "endRow" "[I", Cond.fieldLink RX6 34 "AlternateSignsModel" "endColumn" "[I", Cond.fieldLink RX6 37 "AlternateSignsModel" "endSide" "[I", Cond.methodLink RX6 132 yX6_isDrawn, Cond.static yX6_isDrawn, Cond.code yX6_isDrawn cX6_isDrawn 4 (some .boolean), Cond.methodLink RX6 129 yX6_isDown, Cond.static yX6_isDown, Cond.code yX6_isDown cX6_isDown 5 (some .boolean), Cond.methodLink RX6 126 yX6_isAcross, Cond.static yX6_isAcross, Cond.code yX6_isAcross cX6_isAcross 5 (some .boolean), Cond.methodLink RX6 160 yX6_goes, Cond.instanceMethod yX6_goes, Cond.selects RX6 yX6_goes yX6_goes, Cond.code yX6_goes cX6_goes 6 (some .int)]
def wsX6_rings_r2 : List Cond := [Cond.fieldLink RX6 139 "AlternateSignsModel" "lineRow" "I", Cond.fieldLink RX6 142 "AlternateSignsModel" "lineColumn" "I", Cond.fieldLink RX6 136 "AlternateSignsModel" "lineSide" "I", Cond.fieldLink RX6 145 "AlternateSignsModel" "lineMany" "I", Cond.methodLink RX6 148 yX6_goesOn, Cond.instanceMethod yX6_goesOn, Cond.selects RX6 yX6_goesOn yX6_goesOn, Cond.code yX6_goesOn cX6_goesOn 6 (some .boolean), Cond.methodLink RX6 62 yX6_in, Cond.static yX6_in, Cond.code yX6_in cX6_in 6 (some .boolean), Cond.methodLink RX6 163 yX6_ring, Cond.instanceMethod yX6_ring, Cond.selects RX6 yX6_ring yX6_ring, Cond.code yX6_ring cX6_ring 4 (some .int)]
def wsX6_rings : List Cond := .code yX6_rings cX6_rings 6 (some .int) :: ((wsX6_rings_r1 ++ wsX6_rings_r2) ++ wsX60)
def wsX6_signOf : List Cond := .code yX6_signOf cX6_signOf 3 (some .int) :: ([])
def wsX6_leads : List Cond := .code yX6_leads cX6_leads 6 (some .boolean) :: ([.methodLink RX6 167 yX6_signOf, .static yX6_signOf, .initialized RX6, .code yX6_signOf cX6_signOf 3 (some .int), .methodLink RX6 62 yX6_in, .static yX6_in, .code yX6_in cX6_in 6 (some .boolean)])
def wsX6_findWays : List Cond := .code yX6_findWays cX6_findWays 5 (some .int) :: ([.fieldLink RX6 44 "AlternateSignsModel" "ways" "[I", .methodLink RX6 171 yX6_leads, .static yX6_leads, .initialized RX6, .code yX6_leads cX6_leads 6 (some .boolean), .methodLink RX6 167 yX6_signOf, .static yX6_signOf, .code yX6_signOf cX6_signOf 3 (some .int), .methodLink RX6 62 yX6_in, .static yX6_in, .code yX6_in cX6_in 6 (some .boolean)] ++ wsX60)
def wsX6_isAhead : List Cond := .code yX6_isAhead cX6_isAhead 4 (some .boolean) :: ([.methodLink RX6 167 yX6_signOf, .static yX6_signOf, .initialized RX6, .code yX6_signOf cX6_signOf 3 (some .int)])
def wsX6_aheadOf : List Cond := .code yX6_aheadOf cX6_aheadOf 7 (some .int) :: ([.fieldLink RX6 44 "AlternateSignsModel" "ways" "[I", .methodLink RX6 171 yX6_leads, .static yX6_leads, .initialized RX6, .code yX6_leads cX6_leads 6 (some .boolean), .methodLink RX6 167 yX6_signOf, .static yX6_signOf, .code yX6_signOf cX6_signOf 3 (some .int), .methodLink RX6 62 yX6_in, .static yX6_in, .code yX6_in cX6_in 6 (some .boolean), .methodLink RX6 175 yX6_isAhead, .static yX6_isAhead, .code yX6_isAhead cX6_isAhead 4 (some .boolean)] ++ wsX60)
def wsX6_rank : List Cond := .code yX6_rank cX6_rank 7 (some .int) :: ([.fieldLink RX6 54 "AlternateSignsModel" "size" "I", .fieldLink RX6 13 "AlternateSignsModel" "sign" "[I", .methodLink RX6 178 yX6_findWays, .instanceMethod yX6_findWays, .selects RX6 yX6_findWays yX6_findWays, .initialized RX6, .code yX6_findWays cX6_findWays 5 (some .int), .fieldLink RX6 44 "AlternateSignsModel" "ways" "[I", .methodLink RX6 171 yX6_leads, .static yX6_leads, .code yX6_leads cX6_leads 6 (some .boolean), .methodLink RX6 167 yX6_signOf, .static yX6_signOf, .code yX6_signOf cX6_signOf 3 (some .int), .methodLink RX6 62 yX6_in, .static yX6_in, .code yX6_in cX6_in 6 (some .boolean), .methodLink RX6 181 yX6_aheadOf, .instanceMethod yX6_aheadOf, .selects RX6 yX6_aheadOf yX6_aheadOf, .code yX6_aheadOf cX6_aheadOf 7 (some .int), .methodLink RX6 175 yX6_isAhead, .static yX6_isAhead, .code yX6_isAhead cX6_isAhead 4 (some .boolean)] ++ wsX60)
def wsX6_isRow : List Cond := .code yX6_isRow cX6_isRow 7 (some .boolean) :: ([.fieldLink RX6 44 "AlternateSignsModel" "ways" "[I", .methodLink RX6 171 yX6_leads, .static yX6_leads, .initialized RX6, .code yX6_leads cX6_leads 6 (some .boolean), .methodLink RX6 167 yX6_signOf, .static yX6_signOf, .code yX6_signOf cX6_signOf 3 (some .int), .methodLink RX6 62 yX6_in, .static yX6_in, .code yX6_in cX6_in 6 (some .boolean), .methodLink RX6 181 yX6_aheadOf, .instanceMethod yX6_aheadOf, .selects RX6 yX6_aheadOf yX6_aheadOf, .code yX6_aheadOf cX6_aheadOf 7 (some .int), .methodLink RX6 175 yX6_isAhead, .static yX6_isAhead, .code yX6_isAhead cX6_isAhead 4 (some .boolean)] ++ wsX60)
def wsX6_unrank : List Cond := .code yX6_unrank cX6_unrank 9 none :: ([.methodLink RX6 185 yX6_isRow, .instanceMethod yX6_isRow, .selects RX6 yX6_isRow yX6_isRow, .initialized RX6, .code yX6_isRow cX6_isRow 7 (some .boolean), .fieldLink RX6 44 "AlternateSignsModel" "ways" "[I", .methodLink RX6 171 yX6_leads, .static yX6_leads, .code yX6_leads cX6_leads 6 (some .boolean), .methodLink RX6 167 yX6_signOf, .static yX6_signOf, .code yX6_signOf cX6_signOf 3 (some .int), .methodLink RX6 62 yX6_in, .static yX6_in, .code yX6_in cX6_in 6 (some .boolean), .methodLink RX6 181 yX6_aheadOf, .instanceMethod yX6_aheadOf, .selects RX6 yX6_aheadOf yX6_aheadOf, .code yX6_aheadOf cX6_aheadOf 7 (some .int), .methodLink RX6 175 yX6_isAhead, .static yX6_isAhead, .code yX6_isAhead cX6_isAhead 4 (some .boolean)] ++ wsX60)
def wsX6_take_r1 : List Cond := [Cond.constantLong RX6 124 (6), Cond.fieldLink RX6 54 "AlternateSignsModel" "size" "I", Cond.fieldLink RX6 13 "AlternateSignsModel" "sign" "[I", Cond.methodLink RX6 62 yX6_in, Cond.static yX6_in, Cond.initialized RX6, Cond.code yX6_in cX6_in 6 (some .boolean), Cond.methodLink RX6 178 yX6_findWays, Cond.instanceMethod yX6_findWays, Cond.selects RX6 yX6_findWays yX6_findWays, Cond.code yX6_findWays cX6_findWays 5 (some .int), Cond.fieldLink RX6 44 "AlternateSignsModel" "ways" "[I", Cond.methodLink RX6 171 yX6_leads, Cond.static yX6_leads, Cond.code yX6_leads cX6_leads 6 (some .boolean), Cond.methodLink RX6 167 yX6_signOf, Cond.static yX6_signOf, Cond.code yX6_signOf cX6_signOf 3 (some .int), Cond.methodLink RX6 103 yX6_note, Cond.instanceMethod yX6_note, Cond.selects RX6 yX6_note yX6_note, Cond.code yX6_note cX6_note 2 none, Cond.fieldLink RX6 80 "AlternateSignsModel" "undoMany" "I", Cond.fieldLink RX6 19 "AlternateSignsModel" "before" "[I"]
def wsX6_take_r2 : List Cond := [Cond.methodLink RX6 189 yX6_unrank, Cond.instanceMethod yX6_unrank, Cond.selects RX6 yX6_unrank yX6_unrank, Cond.code yX6_unrank cX6_unrank 9 none, Cond.methodLink RX6 185 yX6_isRow, Cond.instanceMethod yX6_isRow, Cond.selects RX6 yX6_isRow yX6_isRow, Cond.code yX6_isRow cX6_isRow 7 (some .boolean), Cond.methodLink RX6 181 yX6_aheadOf, Cond.instanceMethod yX6_aheadOf, Cond.selects RX6 yX6_aheadOf yX6_aheadOf, Cond.code yX6_aheadOf cX6_aheadOf 7 (some .int), Cond.methodLink RX6 175 yX6_isAhead, Cond.static yX6_isAhead, Cond.code yX6_isAhead cX6_isAhead 4 (some .boolean)]
def wsX6_take : List Cond := .code yX6_take cX6_take 3 (some .int) :: ((wsX6_take_r1 ++ wsX6_take_r2) ++ wsX60)
def wsX6_many : List Cond := .code yX6_many cX6_many 4 (some .int) :: ([.constantLong RX6 124 (6), .constantLong RX6 193 (-1), .fieldLink RX6 44 "AlternateSignsModel" "ways" "[I", .methodLink RX6 62 yX6_in, .static yX6_in, .initialized RX6, .code yX6_in cX6_in 6 (some .boolean), .methodLink RX6 178 yX6_findWays, .instanceMethod yX6_findWays, .selects RX6 yX6_findWays yX6_findWays, .code yX6_findWays cX6_findWays 5 (some .int), .methodLink RX6 171 yX6_leads, .static yX6_leads, .code yX6_leads cX6_leads 6 (some .boolean), .methodLink RX6 167 yX6_signOf, .static yX6_signOf, .code yX6_signOf cX6_signOf 3 (some .int)] ++ wsX60)
def wsX6_partners_r1 : List Cond := [Cond.constantLong RX6 195 (12), Cond.methodLink RX6 156 yX6_findEnds, Cond.instanceMethod yX6_findEnds, Cond.selects RX6 yX6_findEnds yX6_findEnds, Cond.initialized RX6, Cond.code yX6_findEnds cX6_findEnds 9 none, Cond.fieldLink RX6 31 "AlternateSignsModel" "endRow" "[I", Cond.fieldLink RX6 34 "AlternateSignsModel" "endColumn" "[I", Cond.fieldLink RX6 37 "AlternateSignsModel" "endSide" "[I", Cond.methodLink RX6 132 yX6_isDrawn, Cond.static yX6_isDrawn, Cond.code yX6_isDrawn cX6_isDrawn 4 (some .boolean), Cond.methodLink RX6 129 yX6_isDown, Cond.static yX6_isDown, Cond.code yX6_isDown cX6_isDown 5 (some .boolean), Cond.methodLink RX6 126 yX6_isAcross, Cond.static yX6_isAcross, Cond.code yX6_isAcross cX6_isAcross 5 (some .boolean), Cond.methodLink RX6 160 yX6_goes, Cond.instanceMethod yX6_goes, Cond.selects RX6 yX6_goes yX6_goes, Cond.code yX6_goes cX6_goes 6 (some .int), Cond.fieldLink RX6 139 "AlternateSignsModel" "lineRow" "I", Cond.fieldLink RX6 142 "AlternateSignsModel" "lineColumn" "I"]
def wsX6_partners_r2 : List Cond := [Cond.fieldLink RX6 136 "AlternateSignsModel" "lineSide" "I", Cond.fieldLink RX6 145 "AlternateSignsModel" "lineMany" "I", Cond.methodLink RX6 148 yX6_goesOn, Cond.instanceMethod yX6_goesOn, Cond.selects RX6 yX6_goesOn yX6_goesOn, Cond.code yX6_goesOn cX6_goesOn 6 (some .boolean), Cond.fieldLink RX6 40 "AlternateSignsModel" "gone" "[Z", Cond.methodLink RX6 62 yX6_in, Cond.static yX6_in, Cond.code yX6_in cX6_in 6 (some .boolean)]
def wsX6_partners : List Cond := .code yX6_partners cX6_partners 6 (some .long) :: ((wsX6_partners_r1 ++ wsX6_partners_r2) ++ wsX60)
def wsX6_alike_r1 : List Cond := [Cond.fieldLink RX6 54 "AlternateSignsModel" "size" "I", Cond.fieldLink RX6 13 "AlternateSignsModel" "sign" "[I", Cond.fieldLink RX6 25 "AlternateSignsModel" "side" "[I", Cond.methodLink RX6 197 yX6_partners, Cond.instanceMethod yX6_partners, Cond.selects RX6 yX6_partners yX6_partners, Cond.initialized RX6, Cond.code yX6_partners cX6_partners 6 (some .long), Cond.constantLong RX6 195 (12), Cond.methodLink RX6 156 yX6_findEnds, Cond.instanceMethod yX6_findEnds, Cond.selects RX6 yX6_findEnds yX6_findEnds, Cond.code yX6_findEnds cX6_findEnds 9 none, Cond.fieldLink RX6 31 "AlternateSignsModel" "endRow" "[I", Cond.fieldLink RX6 34 "AlternateSignsModel" "endColumn" "[I", Cond.fieldLink RX6 37 "AlternateSignsModel" "endSide" "[I", Cond.methodLink RX6 132 yX6_isDrawn, Cond.static yX6_isDrawn, Cond.code yX6_isDrawn cX6_isDrawn 4 (some .boolean), Cond.methodLink RX6 129 yX6_isDown, Cond.static yX6_isDown, Cond.code yX6_isDown cX6_isDown 5 (some .boolean), Cond.methodLink RX6 126 yX6_isAcross, Cond.static yX6_isAcross]
def wsX6_alike_r2 : List Cond := [Cond.code yX6_isAcross cX6_isAcross 5 (some .boolean), Cond.methodLink RX6 160 yX6_goes, Cond.instanceMethod yX6_goes, Cond.selects RX6 yX6_goes yX6_goes, Cond.code yX6_goes cX6_goes 6 (some .int), Cond.fieldLink RX6 139 "AlternateSignsModel" "lineRow" "I", Cond.fieldLink RX6 142 "AlternateSignsModel" "lineColumn" "I", Cond.fieldLink RX6 136 "AlternateSignsModel" "lineSide" "I", Cond.fieldLink RX6 145 "AlternateSignsModel" "lineMany" "I", Cond.methodLink RX6 148 yX6_goesOn, Cond.instanceMethod yX6_goesOn, Cond.selects RX6 yX6_goesOn yX6_goesOn, Cond.code yX6_goesOn cX6_goesOn 6 (some .boolean), Cond.fieldLink RX6 40 "AlternateSignsModel" "gone" "[Z", Cond.methodLink RX6 62 yX6_in, Cond.static yX6_in, Cond.code yX6_in cX6_in 6 (some .boolean), Cond.methodLink RX6 178 yX6_findWays, Cond.instanceMethod yX6_findWays, Cond.selects RX6 yX6_findWays yX6_findWays, Cond.code yX6_findWays cX6_findWays 5 (some .int), Cond.fieldLink RX6 44 "AlternateSignsModel" "ways" "[I", Cond.methodLink RX6 171 yX6_leads, Cond.static yX6_leads]
def wsX6_alike_r3 : List Cond := [Cond.code yX6_leads cX6_leads 6 (some .boolean), Cond.methodLink RX6 167 yX6_signOf, Cond.static yX6_signOf, Cond.code yX6_signOf cX6_signOf 3 (some .int), Cond.methodLink RX6 189 yX6_unrank, Cond.instanceMethod yX6_unrank, Cond.selects RX6 yX6_unrank yX6_unrank, Cond.code yX6_unrank cX6_unrank 9 none, Cond.methodLink RX6 185 yX6_isRow, Cond.instanceMethod yX6_isRow, Cond.selects RX6 yX6_isRow yX6_isRow, Cond.code yX6_isRow cX6_isRow 7 (some .boolean), Cond.methodLink RX6 181 yX6_aheadOf, Cond.instanceMethod yX6_aheadOf, Cond.selects RX6 yX6_aheadOf yX6_aheadOf, Cond.code yX6_aheadOf cX6_aheadOf 7 (some .int), Cond.methodLink RX6 175 yX6_isAhead, Cond.static yX6_isAhead, Cond.code yX6_isAhead cX6_isAhead 4 (some .boolean)]
def wsX6_alike : List Cond := .code yX6_alike cX6_alike 6 (some .int) :: ((wsX6_alike_r1 ++ (wsX6_alike_r2 ++ wsX6_alike_r3)) ++ wsX60)
def wsX6_ways_r1 : List Cond := [Cond.constantLong RX6 201 (5), Cond.fieldLink RX6 25 "AlternateSignsModel" "side" "[I", Cond.fieldLink RX6 47 "AlternateSignsModel" "codes" "[J", Cond.fieldLink RX6 51 "AlternateSignsModel" "many" "[I", Cond.methodLink RX6 62 yX6_in, Cond.static yX6_in, Cond.initialized RX6, Cond.code yX6_in cX6_in 6 (some .boolean), Cond.methodLink RX6 178 yX6_findWays, Cond.instanceMethod yX6_findWays, Cond.selects RX6 yX6_findWays yX6_findWays, Cond.code yX6_findWays cX6_findWays 5 (some .int), Cond.fieldLink RX6 44 "AlternateSignsModel" "ways" "[I", Cond.methodLink RX6 171 yX6_leads, Cond.static yX6_leads, Cond.code yX6_leads cX6_leads 6 (some .boolean), Cond.methodLink RX6 167 yX6_signOf, Cond.static yX6_signOf, Cond.code yX6_signOf cX6_signOf 3 (some .int), Cond.methodLink RX6 189 yX6_unrank, Cond.instanceMethod yX6_unrank, Cond.selects RX6 yX6_unrank yX6_unrank, Cond.code yX6_unrank cX6_unrank 9 none, Cond.methodLink RX6 185 yX6_isRow]
def wsX6_ways_r2 : List Cond := [Cond.instanceMethod yX6_isRow, Cond.selects RX6 yX6_isRow yX6_isRow, Cond.code yX6_isRow cX6_isRow 7 (some .boolean), Cond.methodLink RX6 181 yX6_aheadOf, Cond.instanceMethod yX6_aheadOf, Cond.selects RX6 yX6_aheadOf yX6_aheadOf, Cond.code yX6_aheadOf cX6_aheadOf 7 (some .int), Cond.methodLink RX6 175 yX6_isAhead, Cond.static yX6_isAhead, Cond.code yX6_isAhead cX6_isAhead 4 (some .boolean), Cond.methodLink RX6 197 yX6_partners, Cond.instanceMethod yX6_partners, Cond.selects RX6 yX6_partners yX6_partners, Cond.code yX6_partners cX6_partners 6 (some .long), Cond.constantLong RX6 195 (12), Cond.methodLink RX6 156 yX6_findEnds, Cond.instanceMethod yX6_findEnds, Cond.selects RX6 yX6_findEnds yX6_findEnds, Cond.code yX6_findEnds cX6_findEnds 9 none, Cond.fieldLink RX6 31 "AlternateSignsModel" "endRow" "[I", Cond.fieldLink RX6 34 "AlternateSignsModel" "endColumn" "[I", Cond.fieldLink RX6 37 "AlternateSignsModel" "endSide" "[I", Cond.methodLink RX6 132 yX6_isDrawn, Cond.static yX6_isDrawn]
def wsX6_ways_r3 : List Cond := [Cond.code yX6_isDrawn cX6_isDrawn 4 (some .boolean), Cond.methodLink RX6 129 yX6_isDown, Cond.static yX6_isDown, Cond.code yX6_isDown cX6_isDown 5 (some .boolean), Cond.methodLink RX6 126 yX6_isAcross, Cond.static yX6_isAcross, Cond.code yX6_isAcross cX6_isAcross 5 (some .boolean), Cond.methodLink RX6 160 yX6_goes, Cond.instanceMethod yX6_goes, Cond.selects RX6 yX6_goes yX6_goes, Cond.code yX6_goes cX6_goes 6 (some .int), Cond.fieldLink RX6 139 "AlternateSignsModel" "lineRow" "I", Cond.fieldLink RX6 142 "AlternateSignsModel" "lineColumn" "I", Cond.fieldLink RX6 136 "AlternateSignsModel" "lineSide" "I", Cond.fieldLink RX6 145 "AlternateSignsModel" "lineMany" "I", Cond.methodLink RX6 148 yX6_goesOn, Cond.instanceMethod yX6_goesOn, Cond.selects RX6 yX6_goesOn yX6_goesOn, Cond.code yX6_goesOn cX6_goesOn 6 (some .boolean), Cond.fieldLink RX6 40 "AlternateSignsModel" "gone" "[Z"]
def wsX6_ways : List Cond := .code yX6_ways cX6_ways 7 (some .int) :: ((wsX6_ways_r1 ++ (wsX6_ways_r2 ++ wsX6_ways_r3)) ++ wsX60)
def wsX6_inversions : List Cond := .code yX6_inversions cX6_inversions 5 (some .int) :: ([.fieldLink RX6 54 "AlternateSignsModel" "size" "I", .fieldLink RX6 13 "AlternateSignsModel" "sign" "[I"] ++ wsX60)
def wsX6_sums : List Cond := .code yX6_sums cX6_sums 5 (some .int) :: ([.fieldLink RX6 54 "AlternateSignsModel" "size" "I", .fieldLink RX6 13 "AlternateSignsModel" "sign" "[I", .methodLink RX6 94 yX6_heightOf, .static yX6_heightOf, .initialized RX6, .code yX6_heightOf cX6_heightOf 3 (some .int), .methodLink RX6 86 yX6_cornerOf, .static yX6_cornerOf, .code yX6_cornerOf cX6_cornerOf 6 (some .int), .methodLink RX6 97 yX6_isInner, .instanceMethod yX6_isInner, .selects RX6 yX6_isInner yX6_isInner, .code yX6_isInner cX6_isInner 3 (some .boolean), .methodLink RX6 62 yX6_in, .static yX6_in, .code yX6_in cX6_in 6 (some .boolean), .methodLink RX6 100 yX6_mayBe, .static yX6_mayBe, .code yX6_mayBe cX6_mayBe 6 (some .int)] ++ wsX60)
def wsX6_count_r1 : List Cond := [Cond.fieldLink RX6 54 "AlternateSignsModel" "size" "I", Cond.fieldLink RX6 80 "AlternateSignsModel" "undoMany" "I", Cond.fieldLink RX6 66 "AlternateSignsModel" "length" "I", Cond.fieldLink RX6 83 "AlternateSignsModel" "otherSize" "I", Cond.methodLink RX6 203 yX6_sums, Cond.instanceMethod yX6_sums, Cond.selects RX6 yX6_sums yX6_sums, Cond.initialized RX6, Cond.code yX6_sums cX6_sums 5 (some .int), Cond.fieldLink RX6 13 "AlternateSignsModel" "sign" "[I", Cond.methodLink RX6 94 yX6_heightOf, Cond.static yX6_heightOf, Cond.code yX6_heightOf cX6_heightOf 3 (some .int), Cond.methodLink RX6 86 yX6_cornerOf, Cond.static yX6_cornerOf, Cond.code yX6_cornerOf cX6_cornerOf 6 (some .int), Cond.methodLink RX6 97 yX6_isInner, Cond.instanceMethod yX6_isInner, Cond.selects RX6 yX6_isInner yX6_isInner, Cond.code yX6_isInner cX6_isInner 3 (some .boolean), Cond.methodLink RX6 62 yX6_in, Cond.static yX6_in, Cond.code yX6_in cX6_in 6 (some .boolean), Cond.methodLink RX6 100 yX6_mayBe]
def wsX6_count_r2 : List Cond := [Cond.static yX6_mayBe, Cond.code yX6_mayBe cX6_mayBe 6 (some .int), Cond.methodLink RX6 206 yX6_inversions, Cond.instanceMethod yX6_inversions, Cond.selects RX6 yX6_inversions yX6_inversions, Cond.code yX6_inversions cX6_inversions 5 (some .int), Cond.methodLink RX6 209 yX6_drawn, Cond.instanceMethod yX6_drawn, Cond.selects RX6 yX6_drawn yX6_drawn, Cond.code yX6_drawn cX6_drawn 4 (some .int), Cond.methodLink RX6 126 yX6_isAcross, Cond.static yX6_isAcross, Cond.code yX6_isAcross cX6_isAcross 5 (some .boolean), Cond.methodLink RX6 129 yX6_isDown, Cond.static yX6_isDown, Cond.code yX6_isDown cX6_isDown 5 (some .boolean), Cond.methodLink RX6 212 yX6_rings, Cond.instanceMethod yX6_rings, Cond.selects RX6 yX6_rings yX6_rings, Cond.code yX6_rings cX6_rings 6 (some .int), Cond.fieldLink RX6 40 "AlternateSignsModel" "gone" "[Z", Cond.methodLink RX6 156 yX6_findEnds, Cond.instanceMethod yX6_findEnds, Cond.selects RX6 yX6_findEnds yX6_findEnds]
def wsX6_count_r3 : List Cond := [Cond.code yX6_findEnds cX6_findEnds 9 none, Cond.fieldLink RX6 31 "AlternateSignsModel" "endRow" "[I", Cond.fieldLink RX6 34 "AlternateSignsModel" "endColumn" "[I", Cond.fieldLink RX6 37 "AlternateSignsModel" "endSide" "[I", Cond.methodLink RX6 132 yX6_isDrawn, Cond.static yX6_isDrawn, Cond.code yX6_isDrawn cX6_isDrawn 4 (some .boolean), Cond.methodLink RX6 160 yX6_goes, Cond.instanceMethod yX6_goes, Cond.selects RX6 yX6_goes yX6_goes, Cond.code yX6_goes cX6_goes 6 (some .int), Cond.fieldLink RX6 139 "AlternateSignsModel" "lineRow" "I", Cond.fieldLink RX6 142 "AlternateSignsModel" "lineColumn" "I", Cond.fieldLink RX6 136 "AlternateSignsModel" "lineSide" "I", Cond.fieldLink RX6 145 "AlternateSignsModel" "lineMany" "I", Cond.methodLink RX6 148 yX6_goesOn, Cond.instanceMethod yX6_goesOn, Cond.selects RX6 yX6_goesOn yX6_goesOn, Cond.code yX6_goesOn cX6_goesOn 6 (some .boolean), Cond.methodLink RX6 163 yX6_ring, Cond.instanceMethod yX6_ring, Cond.selects RX6 yX6_ring yX6_ring, Cond.code yX6_ring cX6_ring 4 (some .int)]
def wsX6_count : List Cond := .code yX6_count cX6_count 2 (some .int) :: ((wsX6_count_r1 ++ (wsX6_count_r2 ++ wsX6_count_r3)) ++ wsX60)
def wsJ9_abs_0f7a4 : List Cond := .code yJ9_abs_0f7a4 cJ9_abs_0f7a4 1 (some .int) :: ([])
def wsJ9_min_7cf53 : List Cond := .code yJ9_min_7cf53 cJ9_min_7cf53 2 (some .int) :: ([])
def wsL_law_r1 : List Cond := [Cond.classLink RL 7 RX5, Cond.instantiable RX5 7, Cond.initialized RX5, Cond.classLink RL 10 RX6, Cond.instantiable RX6 23, Cond.initialized RX6, Cond.methodLink RL 9 yX5_init, Cond.instanceMethod yX5_init, Cond.code yX5_init cX5_init 2 none, Cond.methodLink RX5 3 objectInit, Cond.instanceMethod objectInit, Cond.code objectInit ⟨#[0xb1]⟩ 1 none, Cond.classLink RX5 9 RX4, Cond.instantiable RX4 6, Cond.initialized RX4, Cond.fieldLink RX5 12 "AlternateSigns" "text" "LAlternateSigns$Text;", Cond.classLink RX5 16 RX3, Cond.instantiable RX3 2, Cond.initialized RX3, Cond.fieldLink RX5 19 "AlternateSigns" "table" "LAlternateSigns$Table;", Cond.fieldLink RX5 23 "AlternateSigns" "other" "LAlternateSigns$Table;", Cond.fieldLink RX5 26 "AlternateSigns" "spare" "LAlternateSigns$Table;", Cond.classLink RX5 29 RX2, Cond.instantiable RX2 3]
def wsL_law_r2 : List Cond := [Cond.initialized RX2, Cond.fieldLink RX5 32 "AlternateSigns" "past" "LAlternateSigns$Past;", Cond.classLink RX5 36 RX1, Cond.instantiable RX1 11, Cond.initialized RX1, Cond.fieldLink RX5 39 "AlternateSigns" "lines" "LAlternateSigns$Lines;", Cond.classLink RX5 43 RX0, Cond.fieldLink RX5 45 "AlternateSigns" "sizes" "[LAlternateSigns$AllOfSize;", Cond.instantiable RX0 7, Cond.initialized RX0, Cond.fieldLink RX5 71 "AlternateSigns$Text" "draft" "LAlternateSigns$Table;", Cond.fieldLink RX5 78 "AlternateSigns$Text" "length" "I", Cond.instanceMethod yX4_init, Cond.code yX4_init cX4_init 1 none, Cond.methodLink RX4 3 objectInit, Cond.arrayClass .char, Cond.fieldLink RX4 9 "AlternateSigns$Text" "letters" "[C", Cond.classLink RX4 15 RX3, Cond.fieldLink RX4 18 "AlternateSigns$Text" "draft" "LAlternateSigns$Table;", Cond.instanceMethod yX3_init, Cond.code yX3_init cX3_init 1 none, Cond.methodLink RX3 3 objectInit, Cond.arrayClass .int, Cond.fieldLink RX3 9 "AlternateSigns$Table" "corners" "[I"]
def wsL_law_r3 : List Cond := [Cond.methodLink RX5 31 yX2_init, Cond.instanceMethod yX2_init, Cond.code yX2_init cX2_init 2 none, Cond.methodLink RX2 3 objectInit, Cond.classLink RX2 9 RX3, Cond.fieldLink RX2 11 "AlternateSigns$Past" "tables" "[LAlternateSigns$Table;", Cond.instanceMethod yX1_init, Cond.code yX1_init cX1_init 1 none, Cond.methodLink RX1 3 objectInit, Cond.fieldLink RX1 9 "AlternateSigns$Lines" "partners" "[I", Cond.fieldLink RX1 15 "AlternateSigns$Lines" "lengths" "[I", Cond.fieldLink RX1 18 "AlternateSigns$Lines" "open" "[I", Cond.fieldLink RX1 21 "AlternateSigns$Lines" "endAtRim" "[I", Cond.methodLink RX5 49 yX0_init, Cond.instanceMethod yX0_init, Cond.code yX0_init cX0_init 2 none, Cond.methodLink RX0 3 objectInit, Cond.fieldLink RX0 9 "AlternateSigns$AllOfSize" "endings" "[I", Cond.arrayClass .long, Cond.fieldLink RX0 15 "AlternateSigns$AllOfSize" "codes" "[J", Cond.fieldLink RX0 19 "AlternateSigns$AllOfSize" "tally" "[I", Cond.fieldLink RX0 22 "AlternateSigns$AllOfSize" "size" "I", Cond.fieldLink RX0 26 "AlternateSigns$AllOfSize" "masks" "I", Cond.methodLink RX5 54 yJ0_length_8abf5]
def wsL_law_r4 : List Cond := [Cond.instanceMethod yJ0_length_8abf5, Cond.selects RJ0 yJ0_length_8abf5 yJ0_length_8abf5, Cond.initialized RJ0, Cond.code yJ0_length_8abf5 cJ0_length_8abf5 1 (some .int), Cond.fieldLink RJ0 9 "java/lang/String" "value" "[B", Cond.methodLink RJ0 335 yJ0_coder_7d493, Cond.instanceMethod yJ0_coder_7d493, Cond.selects RJ0 yJ0_coder_7d493 yJ0_coder_7d493, Cond.code yJ0_coder_7d493 cJ0_coder_7d493 1 (some .byte), Cond.fieldLink RJ0 38 "java/lang/String" "COMPACT_STRINGS" "Z", Cond.fieldLink RJ0 15 "java/lang/String" "coder" "B", Cond.methodLink RX5 60 yJ0_charAt_5068e, Cond.instanceMethod yJ0_charAt_5068e, Cond.selects RJ0 yJ0_charAt_5068e yJ0_charAt_5068e, Cond.code yJ0_charAt_5068e cJ0_charAt_5068e 2 (some .char), Cond.methodLink RJ0 492 yJ0_isLatin1_aae02, Cond.instanceMethod yJ0_isLatin1_aae02, Cond.selects RJ0 yJ0_isLatin1_aae02 yJ0_isLatin1_aae02, Cond.code yJ0_isLatin1_aae02 cJ0_isLatin1_aae02 1 (some .boolean), Cond.methodLink RJ0 495 yJ1_charAt_3b067, Cond.static yJ1_charAt_3b067, Cond.initialized RJ1, Cond.code yJ1_charAt_3b067 cJ1_charAt_3b067 2 (some .char), Cond.methodLink RJ1 9 yJ0_checkIndex_df160]
def wsL_law_r5 : List Cond := [Cond.static yJ0_checkIndex_df160, Cond.code yJ0_checkIndex_df160 cJ0_checkIndex_df160 2 none, Cond.fieldLink RJ0 1053 "jdk/internal/util/Preconditions" "SIOOBE_FORMATTER" "Ljava/util/function/BiFunction;", Cond.methodLink RJ0 1059 yJ3_checkIndex_8e157, Cond.static yJ3_checkIndex_8e157, Cond.initialized RJ3, Cond.code yJ3_checkIndex_8e157 cJ3_checkIndex_8e157 3 (some .int), Cond.methodLink RJ0 498 yJ2_charAt_3b067, Cond.static yJ2_charAt_3b067, Cond.initialized RJ2, Cond.code yJ2_charAt_3b067 cJ2_charAt_3b067 2 (some .char), Cond.methodLink RJ2 67 yJ2_checkIndex_2214a, Cond.static yJ2_checkIndex_2214a, Cond.code yJ2_checkIndex_2214a cJ2_checkIndex_2214a 2 none, Cond.methodLink RJ2 48 yJ2_length_9d52b, Cond.static yJ2_length_9d52b, Cond.code yJ2_length_9d52b cJ2_length_9d52b 1 (some .int), Cond.methodLink RJ2 414 yJ0_checkIndex_df160, Cond.methodLink RJ2 71 yJ2_getChar_3b067, Cond.static yJ2_getChar_3b067, Cond.code yJ2_getChar_3b067 cJ2_getChar_3b067 2 (some .char), Cond.fieldLink RJ2 44 "java/lang/StringUTF16" "$assertionsDisabled" "Z", Cond.fieldLink RJ2 59 "java/lang/StringUTF16" "HI_BYTE_SHIFT" "I", Cond.fieldLink RJ2 63 "java/lang/StringUTF16" "LO_BYTE_SHIFT" "I"]
def wsL_law_r6 : List Cond := [Cond.methodLink RX5 64 yX4_add, Cond.instanceMethod yX4_add, Cond.selects RX4 yX4_add yX4_add, Cond.code yX4_add cX4_add 2 none, Cond.fieldLink RX4 22 "AlternateSigns$Text" "length" "I", Cond.methodLink RX5 68 yX4_firstFault, Cond.instanceMethod yX4_firstFault, Cond.selects RX4 yX4_firstFault yX4_firstFault, Cond.code yX4_firstFault cX4_firstFault 2 (some .int), Cond.fieldLink RX4 26 "AlternateSigns$Table" "size" "I", Cond.fieldLink RX4 29 "AlternateSigns$Text" "rowsEnded" "I", Cond.methodLink RX4 32 yX4_startRow, Cond.instanceMethod yX4_startRow, Cond.selects RX4 yX4_startRow yX4_startRow, Cond.code yX4_startRow cX4_startRow 1 none, Cond.fieldLink RX4 43 "AlternateSigns$Text" "rowLength" "I", Cond.fieldLink RX4 46 "AlternateSigns$Text" "rowSum" "I", Cond.methodLink RX4 35 yX4_canStand, Cond.instanceMethod yX4_canStand, Cond.selects RX4 yX4_canStand yX4_canStand, Cond.code yX4_canStand cX4_canStand 2 (some .boolean), Cond.methodLink RX4 39 yX4_isWhole, Cond.instanceMethod yX4_isWhole, Cond.selects RX4 yX4_isWhole yX4_isWhole]
def wsL_law_r7 : List Cond := [Cond.code yX4_isWhole cX4_isWhole 1 (some .boolean), Cond.methodLink RX4 49 yX4_canEndRow, Cond.instanceMethod yX4_canEndRow, Cond.selects RX4 yX4_canEndRow yX4_canEndRow, Cond.code yX4_canEndRow cX4_canEndRow 1 (some .boolean), Cond.methodLink RX4 52 yX4_canPut, Cond.instanceMethod yX4_canPut, Cond.selects RX4 yX4_canPut yX4_canPut, Cond.code yX4_canPut cX4_canPut 4 (some .boolean), Cond.methodLink RX4 56 yX3_cornerAt, Cond.instanceMethod yX3_cornerAt, Cond.selects RX3 yX3_cornerAt yX3_cornerAt, Cond.code yX3_cornerAt cX3_cornerAt 3 (some .int), Cond.methodLink RX4 60 yX3_putCorner, Cond.instanceMethod yX3_putCorner, Cond.selects RX3 yX3_putCorner yX3_putCorner, Cond.code yX3_putCorner cX3_putCorner 4 none, Cond.static yX5_isBetween, Cond.code yX5_isBetween cX5_isBetween 3 (some .boolean), Cond.methodLink RX4 68 yX3_columnSum, Cond.instanceMethod yX3_columnSum, Cond.selects RX3 yX3_columnSum yX3_columnSum, Cond.code yX3_columnSum cX3_columnSum 3 (some .int), Cond.methodLink RX3 25 yX3_cornerAt]
def wsL_law_r8 : List Cond := [Cond.methodLink RX5 74 yX3_copy, Cond.instanceMethod yX3_copy, Cond.selects RX3 yX3_copy yX3_copy, Cond.code yX3_copy cX3_copy 2 none, Cond.fieldLink RX3 15 "AlternateSigns$Table" "size" "I", Cond.methodLink RX3 19 arraycopyName, Cond.native arraycopyName, Cond.static arraycopyName, Cond.initialized "java/lang/System", Cond.methodLink RL 12 yX6_init, Cond.instanceMethod yX6_init, Cond.code yX6_init cX6_init 1 none, Cond.methodLink RX6 1 objectInit, Cond.fieldLink RX6 7 "AlternateSignsModel" "text" "[I", Cond.fieldLink RX6 13 "AlternateSignsModel" "sign" "[I", Cond.fieldLink RX6 16 "AlternateSignsModel" "other" "[I", Cond.fieldLink RX6 19 "AlternateSignsModel" "before" "[I", Cond.fieldLink RX6 22 "AlternateSignsModel" "read" "[I", Cond.fieldLink RX6 25 "AlternateSignsModel" "side" "[I", Cond.fieldLink RX6 28 "AlternateSignsModel" "tall" "[I", Cond.fieldLink RX6 31 "AlternateSignsModel" "endRow" "[I", Cond.fieldLink RX6 34 "AlternateSignsModel" "endColumn" "[I", Cond.fieldLink RX6 37 "AlternateSignsModel" "endSide" "[I", Cond.arrayClass .boolean]
def wsL_law_r9 : List Cond := [Cond.fieldLink RX6 40 "AlternateSignsModel" "gone" "[Z", Cond.fieldLink RX6 44 "AlternateSignsModel" "ways" "[I", Cond.fieldLink RX6 47 "AlternateSignsModel" "codes" "[J", Cond.fieldLink RX6 51 "AlternateSignsModel" "many" "[I", Cond.fieldLink RX6 54 "AlternateSignsModel" "size" "I", Cond.methodLink RL 13 yX5_write, Cond.instanceMethod yX5_write, Cond.selects RX5 yX5_write yX5_write, Cond.code yX5_write cX5_write 2 (some .int), Cond.methodLink RL 17 yX6_write, Cond.instanceMethod yX6_write, Cond.selects RX6 yX6_write yX6_write, Cond.code yX6_write cX6_write 2 (some .int), Cond.constantLong RX6 58 (32), Cond.constantLong RX6 60 (126), Cond.fieldLink RX6 66 "AlternateSignsModel" "length" "I", Cond.methodLink RX6 62 yX6_in, Cond.static yX6_in, Cond.code yX6_in cX6_in 6 (some .boolean), Cond.methodLink RL 18 yX5_wipe, Cond.instanceMethod yX5_wipe, Cond.selects RX5 yX5_wipe yX5_wipe, Cond.code yX5_wipe cX5_wipe 2 (some .int), Cond.methodLink RL 22 yX6_wipe]
def wsL_law_r10 : List Cond := [Cond.instanceMethod yX6_wipe, Cond.selects RX6 yX6_wipe yX6_wipe, Cond.code yX6_wipe cX6_wipe 2 (some .int), Cond.methodLink RL 23 yX5_fault, Cond.instanceMethod yX5_fault, Cond.selects RX5 yX5_fault yX5_fault, Cond.code yX5_fault cX5_fault 1 (some .int), Cond.methodLink RL 26 yX6_fault, Cond.instanceMethod yX6_fault, Cond.selects RX6 yX6_fault yX6_fault, Cond.code yX6_fault cX6_fault 11 (some .int), Cond.fieldLink RX6 69 "AlternateSignsModel" "readSize" "I", Cond.methodLink RL 27 yX5_lay, Cond.instanceMethod yX5_lay, Cond.selects RX5 yX5_lay yX5_lay, Cond.code yX5_lay cX5_lay 1 (some .int), Cond.fieldLink RX5 84 "AlternateSigns$Table" "size" "I", Cond.methodLink RX5 81 yX2_forget, Cond.instanceMethod yX2_forget, Cond.selects RX2 yX2_forget yX2_forget, Cond.code yX2_forget cX2_forget 1 none, Cond.fieldLink RX2 26 "AlternateSigns$Past" "held" "I", Cond.methodLink RL 30 yX6_lay, Cond.instanceMethod yX6_lay]
def wsL_law_r11 : List Cond := [Cond.selects RX6 yX6_lay yX6_lay, Cond.code yX6_lay cX6_lay 1 (some .int), Cond.fieldLink RX6 80 "AlternateSignsModel" "undoMany" "I", Cond.methodLink RX6 72 yX6_fault, Cond.methodLink RX6 76 yX6_copy, Cond.static yX6_copy, Cond.code yX6_copy cX6_copy 3 none, Cond.methodLink RL 31 yX5_take, Cond.instanceMethod yX5_take, Cond.selects RX5 yX5_take yX5_take, Cond.code yX5_take cX5_take 4 (some .int), Cond.methodLink RX5 87 yX5_isSize, Cond.static yX5_isSize, Cond.code yX5_isSize cX5_isSize 1 (some .boolean), Cond.methodLink RX5 107 yX5_isBetween, Cond.methodLink RX5 91 yX0_total, Cond.instanceMethod yX0_total, Cond.selects RX0 yX0_total yX0_total, Cond.code yX0_total cX0_total 1 (some .int), Cond.methodLink RX0 29 yX0_countEndings, Cond.instanceMethod yX0_countEndings, Cond.selects RX0 yX0_countEndings yX0_countEndings, Cond.code yX0_countEndings cX0_countEndings 3 none, Cond.fieldLink RX0 80 "AlternateSigns$AllOfSize" "areEndingsCounted" "Z"]
def wsL_law_r12 : List Cond := [Cond.methodLink RX0 84 yJ6_bitCount_0f7a4, Cond.static yJ6_bitCount_0f7a4, Cond.initialized RJ6, Cond.code yJ6_bitCount_0f7a4 cJ6_bitCount_0f7a4 1 (some .int), Cond.constant RJ6 265 (1431655765), Cond.constant RJ6 266 (858993459), Cond.constant RJ6 267 (252645135), Cond.methodLink RX0 38 yX0_endingsFrom, Cond.instanceMethod yX0_endingsFrom, Cond.selects RX0 yX0_endingsFrom yX0_endingsFrom, Cond.code yX0_endingsFrom cX0_endingsFrom 5 (some .int), Cond.methodLink RX0 43 yX0_canFollow, Cond.instanceMethod yX0_canFollow, Cond.selects RX0 yX0_canFollow yX0_canFollow, Cond.code yX0_canFollow cX0_canFollow 5 (some .boolean), Cond.methodLink RX5 94 yX2_remember, Cond.instanceMethod yX2_remember, Cond.selects RX2 yX2_remember yX2_remember, Cond.code yX2_remember cX2_remember 2 none, Cond.fieldLink RX2 18 "AlternateSigns$Past" "free" "I", Cond.methodLink RX2 29 Lib.Math.min.name, Cond.static Lib.Math.min.name, Cond.initialized "java/lang/Math", Cond.code Lib.Math.min.name Lib.Math.min.code 2 (some .int)]
def wsL_law_r13 : List Cond := [Cond.methodLink RX2 22 yX3_copy, Cond.methodLink RX5 97 yX0_put, Cond.instanceMethod yX0_put, Cond.selects RX0 yX0_put yX0_put, Cond.code yX0_put cX0_put 8 none, Cond.fieldLink RX0 42 "AlternateSigns$Table" "size" "I", Cond.methodLink RX0 47 yX3_putFullColumns, Cond.instanceMethod yX3_putFullColumns, Cond.selects RX3 yX3_putFullColumns yX3_putFullColumns, Cond.code yX3_putFullColumns cX3_putFullColumns 5 none, Cond.methodLink RX3 41 yX3_putCorner, Cond.methodLink RL 35 yX6_take, Cond.instanceMethod yX6_take, Cond.selects RX6 yX6_take yX6_take, Cond.code yX6_take cX6_take 3 (some .int), Cond.constantLong RX6 124 (6), Cond.methodLink RX6 178 yX6_findWays, Cond.instanceMethod yX6_findWays, Cond.selects RX6 yX6_findWays yX6_findWays, Cond.code yX6_findWays cX6_findWays 5 (some .int), Cond.methodLink RX6 171 yX6_leads, Cond.static yX6_leads, Cond.code yX6_leads cX6_leads 6 (some .boolean), Cond.methodLink RX6 167 yX6_signOf]
def wsL_law_r14 : List Cond := [Cond.static yX6_signOf, Cond.code yX6_signOf cX6_signOf 3 (some .int), Cond.methodLink RX6 103 yX6_note, Cond.instanceMethod yX6_note, Cond.selects RX6 yX6_note yX6_note, Cond.code yX6_note cX6_note 2 none, Cond.methodLink RX6 189 yX6_unrank, Cond.instanceMethod yX6_unrank, Cond.selects RX6 yX6_unrank yX6_unrank, Cond.code yX6_unrank cX6_unrank 9 none, Cond.methodLink RX6 185 yX6_isRow, Cond.instanceMethod yX6_isRow, Cond.selects RX6 yX6_isRow yX6_isRow, Cond.code yX6_isRow cX6_isRow 7 (some .boolean), Cond.methodLink RX6 181 yX6_aheadOf, Cond.instanceMethod yX6_aheadOf, Cond.selects RX6 yX6_aheadOf yX6_aheadOf, Cond.code yX6_aheadOf cX6_aheadOf 7 (some .int), Cond.methodLink RX6 175 yX6_isAhead, Cond.static yX6_isAhead, Cond.code yX6_isAhead cX6_isAhead 4 (some .boolean), Cond.methodLink RL 36 yX5_undo, Cond.instanceMethod yX5_undo, Cond.selects RX5 yX5_undo yX5_undo]
def wsL_law_r15 : List Cond := [Cond.code yX5_undo cX5_undo 1 (some .int), Cond.fieldLink RX5 101 "AlternateSigns$Past" "held" "I", Cond.methodLink RX5 104 yX2_giveBack, Cond.instanceMethod yX2_giveBack, Cond.selects RX2 yX2_giveBack yX2_giveBack, Cond.code yX2_giveBack cX2_giveBack 2 none, Cond.methodLink RL 39 yX6_undo, Cond.instanceMethod yX6_undo, Cond.selects RX6 yX6_undo yX6_undo, Cond.code yX6_undo cX6_undo 2 (some .int), Cond.methodLink RL 40 yX5_keep, Cond.instanceMethod yX5_keep, Cond.selects RX5 yX5_keep yX5_keep, Cond.code yX5_keep cX5_keep 1 (some .int), Cond.methodLink RL 43 yX6_keep, Cond.instanceMethod yX6_keep, Cond.selects RX6 yX6_keep yX6_keep, Cond.code yX6_keep cX6_keep 1 (some .int), Cond.fieldLink RX6 83 "AlternateSignsModel" "otherSize" "I", Cond.methodLink RL 44 yX5_sign, Cond.instanceMethod yX5_sign, Cond.selects RX5 yX5_sign yX5_sign, Cond.code yX5_sign cX5_sign 3 (some .int), Cond.methodLink RX5 111 yX3_signAt]
def wsL_law_r16 : List Cond := [Cond.instanceMethod yX3_signAt, Cond.selects RX3 yX3_signAt yX3_signAt, Cond.code yX3_signAt cX3_signAt 3 (some .int), Cond.methodLink RX3 29 yX3_rowSum, Cond.instanceMethod yX3_rowSum, Cond.selects RX3 yX3_rowSum yX3_rowSum, Cond.code yX3_rowSum cX3_rowSum 3 (some .int), Cond.methodLink RL 47 yX6_sign, Cond.instanceMethod yX6_sign, Cond.selects RX6 yX6_sign yX6_sign, Cond.code yX6_sign cX6_sign 3 (some .int), Cond.methodLink RL 48 yX5_corner, Cond.instanceMethod yX5_corner, Cond.selects RX5 yX5_corner yX5_corner, Cond.code yX5_corner cX5_corner 3 (some .int), Cond.methodLink RX5 115 yX5_isCorner, Cond.instanceMethod yX5_isCorner, Cond.selects RX5 yX5_isCorner yX5_isCorner, Cond.code yX5_isCorner cX5_isCorner 3 (some .boolean), Cond.methodLink RX5 119 yX3_cornerAt, Cond.methodLink RL 51 yX6_corner, Cond.instanceMethod yX6_corner, Cond.selects RX6 yX6_corner yX6_corner, Cond.code yX6_corner cX6_corner 3 (some .int)]
def wsL_law_r17 : List Cond := [Cond.methodLink RX6 90 yX6_isCorner, Cond.instanceMethod yX6_isCorner, Cond.selects RX6 yX6_isCorner yX6_isCorner, Cond.code yX6_isCorner cX6_isCorner 3 (some .boolean), Cond.methodLink RX6 86 yX6_cornerOf, Cond.static yX6_cornerOf, Cond.code yX6_cornerOf cX6_cornerOf 6 (some .int), Cond.methodLink RL 52 yX5_height, Cond.instanceMethod yX5_height, Cond.selects RX5 yX5_height yX5_height, Cond.code yX5_height cX5_height 3 (some .int), Cond.methodLink RX5 122 yX3_heightAt, Cond.instanceMethod yX3_heightAt, Cond.selects RX3 yX3_heightAt yX3_heightAt, Cond.code yX3_heightAt cX3_heightAt 3 (some .int), Cond.methodLink RL 55 yX6_height, Cond.instanceMethod yX6_height, Cond.selects RX6 yX6_height yX6_height, Cond.code yX6_height cX6_height 3 (some .int), Cond.methodLink RX6 94 yX6_heightOf, Cond.static yX6_heightOf, Cond.code yX6_heightOf cX6_heightOf 3 (some .int), Cond.methodLink RL 56 yX5_may, Cond.instanceMethod yX5_may]
def wsL_law_r18 : List Cond := [Cond.selects RX5 yX5_may yX5_may, Cond.code yX5_may cX5_may 3 (some .int), Cond.methodLink RX5 125 yX5_isInner, Cond.instanceMethod yX5_isInner, Cond.selects RX5 yX5_isInner yX5_isInner, Cond.code yX5_isInner cX5_isInner 3 (some .boolean), Cond.methodLink RX5 128 yX3_flipKind, Cond.instanceMethod yX3_flipKind, Cond.selects RX3 yX3_flipKind yX3_flipKind, Cond.code yX3_flipKind cX3_flipKind 4 (some .int), Cond.methodLink RX3 35 yX3_heightAt, Cond.methodLink RL 59 yX6_may, Cond.instanceMethod yX6_may, Cond.selects RX6 yX6_may yX6_may, Cond.code yX6_may cX6_may 3 (some .int), Cond.methodLink RX6 97 yX6_isInner, Cond.instanceMethod yX6_isInner, Cond.selects RX6 yX6_isInner yX6_isInner, Cond.code yX6_isInner cX6_isInner 3 (some .boolean), Cond.methodLink RX6 100 yX6_mayBe, Cond.static yX6_mayBe, Cond.code yX6_mayBe cX6_mayBe 6 (some .int), Cond.methodLink RL 60 yX5_count, Cond.instanceMethod yX5_count]
def wsL_law_r19 : List Cond := [Cond.selects RX5 yX5_count yX5_count, Cond.code yX5_count cX5_count 2 (some .int), Cond.fieldLink RX5 149 "AlternateSigns$Lines" "ringEdges" "I", Cond.fieldLink RX5 152 "AlternateSigns$Lines" "rings" "I", Cond.methodLink RX5 131 yX3_negatives, Cond.instanceMethod yX3_negatives, Cond.selects RX3 yX3_negatives yX3_negatives, Cond.code yX3_negatives cX3_negatives 4 (some .int), Cond.methodLink RX3 32 yX3_signAt, Cond.methodLink RX5 134 yX3_flippable, Cond.instanceMethod yX3_flippable, Cond.selects RX3 yX3_flippable yX3_flippable, Cond.code yX3_flippable cX3_flippable 4 (some .int), Cond.methodLink RX3 38 yX3_flipKind, Cond.methodLink RX5 137 yX3_inversions, Cond.instanceMethod yX3_inversions, Cond.selects RX3 yX3_inversions yX3_inversions, Cond.code yX3_inversions cX3_inversions 5 (some .int), Cond.methodLink RX5 140 yX3_heightsTogether, Cond.instanceMethod yX3_heightsTogether, Cond.selects RX3 yX3_heightsTogether yX3_heightsTogether, Cond.code yX3_heightsTogether cX3_heightsTogether 4 (some .int), Cond.methodLink RX5 143 yX3_drawnEdges, Cond.instanceMethod yX3_drawnEdges]
def wsL_law_r20 : List Cond := [Cond.selects RX3 yX3_drawnEdges yX3_drawnEdges, Cond.code yX3_drawnEdges cX3_drawnEdges 4 (some .int), Cond.methodLink RX3 69 yX3_isDrawnAcross, Cond.instanceMethod yX3_isDrawnAcross, Cond.selects RX3 yX3_isDrawnAcross yX3_isDrawnAcross, Cond.code yX3_isDrawnAcross cX3_isDrawnAcross 3 (some .boolean), Cond.methodLink RX3 73 yX3_isDrawnDown, Cond.instanceMethod yX3_isDrawnDown, Cond.selects RX3 yX3_isDrawnDown yX3_isDrawnDown, Cond.code yX3_isDrawnDown cX3_isDrawnDown 3 (some .boolean), Cond.methodLink RX3 66 yX3_columnSum, Cond.methodLink RX5 146 yX1_trace, Cond.instanceMethod yX1_trace, Cond.selects RX1 yX1_trace yX1_trace, Cond.code yX1_trace cX1_trace 4 none, Cond.fieldLink RX1 24 "AlternateSigns$Table" "size" "I", Cond.fieldLink RX1 30 "AlternateSigns$Lines" "size" "I", Cond.methodLink RX1 31 yX1_openPlaces, Cond.instanceMethod yX1_openPlaces, Cond.selects RX1 yX1_openPlaces yX1_openPlaces, Cond.code yX1_openPlaces cX1_openPlaces 5 none, Cond.methodLink RX1 50 yX3_isDrawnDown, Cond.methodLink RX1 54 yX3_isDrawnAcross, Cond.methodLink RX1 35 yX1_numberEnds]
def wsL_law_r21 : List Cond := [Cond.instanceMethod yX1_numberEnds, Cond.selects RX1 yX1_numberEnds yX1_numberEnds, Cond.code yX1_numberEnds cX1_numberEnds 4 none, Cond.fieldLink RX1 45 "AlternateSigns$Lines" "ends" "I", Cond.methodLink RX1 57 yX1_standAtRim, Cond.instanceMethod yX1_standAtRim, Cond.selects RX1 yX1_standAtRim yX1_standAtRim, Cond.code yX1_standAtRim cX1_standAtRim 4 none, Cond.fieldLink RX1 64 "AlternateSigns$Lines" "row" "I", Cond.fieldLink RX1 67 "AlternateSigns$Lines" "column" "I", Cond.fieldLink RX1 70 "AlternateSigns$Lines" "side" "I", Cond.methodLink RX1 60 yX1_isOpen, Cond.instanceMethod yX1_isOpen, Cond.selects RX1 yX1_isOpen yX1_isOpen, Cond.code yX1_isOpen cX1_isOpen 2 (some .boolean), Cond.methodLink RX1 38 yX1_followLine, Cond.instanceMethod yX1_followLine, Cond.selects RX1 yX1_followLine yX1_followLine, Cond.code yX1_followLine cX1_followLine 6 none, Cond.methodLink RX1 77 yX1_isInside, Cond.instanceMethod yX1_isInside, Cond.selects RX1 yX1_isInside yX1_isInside, Cond.code yX1_isInside cX1_isInside 1 (some .boolean), Cond.methodLink RX1 81 yX1_goOn]
def wsL_law_r22 : List Cond := [Cond.instanceMethod yX1_goOn, Cond.selects RX1 yX1_goOn yX1_goOn, Cond.code yX1_goOn cX1_goOn 3 none, Cond.methodLink RX1 84 yX1_rimPassed, Cond.instanceMethod yX1_rimPassed, Cond.selects RX1 yX1_rimPassed yX1_rimPassed, Cond.code yX1_rimPassed cX1_rimPassed 1 (some .int), Cond.methodLink RX1 88 yX1_join, Cond.instanceMethod yX1_join, Cond.selects RX1 yX1_join yX1_join, Cond.code yX1_join cX1_join 4 none, Cond.methodLink RX1 42 yX1_followRings, Cond.instanceMethod yX1_followRings, Cond.selects RX1 yX1_followRings yX1_followRings, Cond.code yX1_followRings cX1_followRings 3 none, Cond.fieldLink RX1 92 "AlternateSigns$Lines" "rings" "I", Cond.fieldLink RX1 95 "AlternateSigns$Lines" "ringEdges" "I", Cond.methodLink RX1 98 yX1_followRing, Cond.instanceMethod yX1_followRing, Cond.selects RX1 yX1_followRing yX1_followRing, Cond.code yX1_followRing cX1_followRing 4 none, Cond.methodLink RL 63 yX6_count, Cond.instanceMethod yX6_count, Cond.selects RX6 yX6_count yX6_count]
def wsL_law_r23 : List Cond := [Cond.code yX6_count cX6_count 2 (some .int), Cond.methodLink RX6 203 yX6_sums, Cond.instanceMethod yX6_sums, Cond.selects RX6 yX6_sums yX6_sums, Cond.code yX6_sums cX6_sums 5 (some .int), Cond.methodLink RX6 206 yX6_inversions, Cond.instanceMethod yX6_inversions, Cond.selects RX6 yX6_inversions yX6_inversions, Cond.code yX6_inversions cX6_inversions 5 (some .int), Cond.methodLink RX6 209 yX6_drawn, Cond.instanceMethod yX6_drawn, Cond.selects RX6 yX6_drawn yX6_drawn, Cond.code yX6_drawn cX6_drawn 4 (some .int), Cond.methodLink RX6 126 yX6_isAcross, Cond.static yX6_isAcross, Cond.code yX6_isAcross cX6_isAcross 5 (some .boolean), Cond.methodLink RX6 129 yX6_isDown, Cond.static yX6_isDown, Cond.code yX6_isDown cX6_isDown 5 (some .boolean), Cond.methodLink RX6 212 yX6_rings, Cond.instanceMethod yX6_rings, Cond.selects RX6 yX6_rings yX6_rings, Cond.code yX6_rings cX6_rings 6 (some .int), Cond.methodLink RX6 156 yX6_findEnds]
def wsL_law_r24 : List Cond := [Cond.instanceMethod yX6_findEnds, Cond.selects RX6 yX6_findEnds yX6_findEnds, Cond.code yX6_findEnds cX6_findEnds 9 none, Cond.methodLink RX6 132 yX6_isDrawn, Cond.static yX6_isDrawn, Cond.code yX6_isDrawn cX6_isDrawn 4 (some .boolean), Cond.methodLink RX6 160 yX6_goes, Cond.instanceMethod yX6_goes, Cond.selects RX6 yX6_goes yX6_goes, Cond.code yX6_goes cX6_goes 6 (some .int), Cond.fieldLink RX6 139 "AlternateSignsModel" "lineRow" "I", Cond.fieldLink RX6 142 "AlternateSignsModel" "lineColumn" "I", Cond.fieldLink RX6 136 "AlternateSignsModel" "lineSide" "I", Cond.fieldLink RX6 145 "AlternateSignsModel" "lineMany" "I", Cond.methodLink RX6 148 yX6_goesOn, Cond.instanceMethod yX6_goesOn, Cond.selects RX6 yX6_goesOn yX6_goesOn, Cond.code yX6_goesOn cX6_goesOn 6 (some .boolean), Cond.methodLink RX6 163 yX6_ring, Cond.instanceMethod yX6_ring, Cond.selects RX6 yX6_ring yX6_ring, Cond.code yX6_ring cX6_ring 4 (some .int), Cond.methodLink RL 64 yX5_flip, Cond.instanceMethod yX5_flip]
def wsL_law_r25 : List Cond := [Cond.selects RX5 yX5_flip yX5_flip, Cond.code yX5_flip cX5_flip 3 (some .int), Cond.methodLink RX5 155 yX3_flipAt, Cond.instanceMethod yX3_flipAt, Cond.selects RX3 yX3_flipAt yX3_flipAt, Cond.code yX3_flipAt cX3_flipAt 4 none, Cond.methodLink RL 67 yX6_flip, Cond.instanceMethod yX6_flip, Cond.selects RX6 yX6_flip yX6_flip, Cond.code yX6_flip cX6_flip 3 (some .int), Cond.methodLink RX6 106 yX6_flips, Cond.static yX6_flips, Cond.code yX6_flips cX6_flips 5 (some .boolean), Cond.methodLink RL 68 yX5_gyrate, Cond.instanceMethod yX5_gyrate, Cond.selects RX5 yX5_gyrate yX5_gyrate, Cond.code yX5_gyrate cX5_gyrate 4 (some .int), Cond.methodLink RX5 159 yX3_gyrateOnce, Cond.instanceMethod yX3_gyrateOnce, Cond.selects RX3 yX3_gyrateOnce yX3_gyrateOnce, Cond.code yX3_gyrateOnce cX3_gyrateOnce 1 (some .int), Cond.methodLink RX3 45 yX3_flipAll, Cond.instanceMethod yX3_flipAll, Cond.selects RX3 yX3_flipAll yX3_flipAll]
def wsL_law_r26 : List Cond := [Cond.code yX3_flipAll cX3_flipAll 5 (some .int), Cond.methodLink RX3 49 yX3_flipAt, Cond.methodLink RL 71 yX6_gyrate, Cond.instanceMethod yX6_gyrate, Cond.selects RX6 yX6_gyrate yX6_gyrate, Cond.code yX6_gyrate cX6_gyrate 4 (some .int), Cond.constantLong RX6 110 (100), Cond.methodLink RX6 112 yX6_gyrates, Cond.instanceMethod yX6_gyrates, Cond.selects RX6 yX6_gyrates yX6_gyrates, Cond.code yX6_gyrates cX6_gyrates 6 (some .int), Cond.methodLink RL 72 yX5_orbit, Cond.instanceMethod yX5_orbit, Cond.selects RX5 yX5_orbit yX5_orbit, Cond.code yX5_orbit cX5_orbit 2 (some .int), Cond.methodLink RX5 162 yX3_distance, Cond.instanceMethod yX3_distance, Cond.selects RX3 yX3_distance yX3_distance, Cond.code yX3_distance cX3_distance 5 (some .int), Cond.methodLink RX3 53 Lib.Math.abs.name, Cond.static Lib.Math.abs.name, Cond.code Lib.Math.abs.name Lib.Math.abs.code 1 (some .int), Cond.methodLink RL 75 yX6_orbit, Cond.instanceMethod yX6_orbit]
def wsL_law_r27 : List Cond := [Cond.selects RX6 yX6_orbit yX6_orbit, Cond.code yX6_orbit cX6_orbit 3 (some .int), Cond.methodLink RX6 116 yX6_isOwn, Cond.instanceMethod yX6_isOwn, Cond.selects RX6 yX6_isOwn yX6_isOwn, Cond.code yX6_isOwn cX6_isOwn 5 (some .boolean), Cond.methodLink RL 76 yX5_apart, Cond.instanceMethod yX5_apart, Cond.selects RX5 yX5_apart yX5_apart, Cond.code yX5_apart cX5_apart 1 (some .int), Cond.methodLink RX5 166 yX5_hasLikeOther, Cond.instanceMethod yX5_hasLikeOther, Cond.selects RX5 yX5_hasLikeOther yX5_hasLikeOther, Cond.code yX5_hasLikeOther cX5_hasLikeOther 1 (some .boolean), Cond.methodLink RL 79 yX6_apart, Cond.instanceMethod yX6_apart, Cond.selects RX6 yX6_apart yX6_apart, Cond.code yX6_apart cX6_apart 4 (some .int), Cond.methodLink RX6 120 yX6_far, Cond.static yX6_far, Cond.code yX6_far cX6_far 1 (some .int), Cond.methodLink RL 80 yX5_next, Cond.instanceMethod yX5_next, Cond.selects RX5 yX5_next yX5_next]
def wsL_law_r28 : List Cond := [Cond.code yX5_next cX5_next 3 (some .int), Cond.methodLink RX5 170 yX3_comesNearer, Cond.instanceMethod yX3_comesNearer, Cond.selects RX3 yX3_comesNearer yX3_comesNearer, Cond.code yX3_comesNearer cX3_comesNearer 5 (some .boolean), Cond.methodLink RX3 58 yX3_wayTo, Cond.instanceMethod yX3_wayTo, Cond.selects RX3 yX3_wayTo yX3_wayTo, Cond.code yX3_wayTo cX3_wayTo 5 (some .int), Cond.methodLink RL 83 yX6_next, Cond.instanceMethod yX6_next, Cond.selects RX6 yX6_next yX6_next, Cond.code yX6_next cX6_next 5 (some .int), Cond.methodLink RL 84 yX5_both, Cond.instanceMethod yX5_both, Cond.selects RX5 yX5_both yX5_both, Cond.code yX5_both cX5_both 2 (some .int), Cond.methodLink RX5 174 yX3_takeHeights, Cond.instanceMethod yX3_takeHeights, Cond.selects RX3 yX3_takeHeights yX3_takeHeights, Cond.code yX3_takeHeights cX3_takeHeights 6 (some .int), Cond.methodLink RL 87 yX6_both, Cond.instanceMethod yX6_both, Cond.selects RX6 yX6_both yX6_both]
def wsL_law_r29 : List Cond := [Cond.code yX6_both cX6_both 8 (some .int), Cond.methodLink RL 88 yX5_turn, Cond.instanceMethod yX5_turn, Cond.selects RX5 yX5_turn yX5_turn, Cond.code yX5_turn cX5_turn 2 (some .int), Cond.methodLink RX5 178 yX3_putTurned, Cond.instanceMethod yX3_putTurned, Cond.selects RX3 yX3_putTurned yX3_putTurned, Cond.code yX3_putTurned cX3_putTurned 6 none, Cond.methodLink RX3 62 yX3_turnedSign, Cond.instanceMethod yX3_turnedSign, Cond.selects RX3 yX3_turnedSign yX3_turnedSign, Cond.code yX3_turnedSign cX3_turnedSign 5 (some .int), Cond.methodLink RX5 181 yX3_unlikeSigns, Cond.instanceMethod yX3_unlikeSigns, Cond.selects RX3 yX3_unlikeSigns yX3_unlikeSigns, Cond.code yX3_unlikeSigns cX3_unlikeSigns 5 (some .int), Cond.methodLink RL 91 yX6_turn, Cond.instanceMethod yX6_turn, Cond.selects RX6 yX6_turn yX6_turn, Cond.code yX6_turn cX6_turn 7 (some .int), Cond.methodLink RL 92 yX5_across, Cond.instanceMethod yX5_across, Cond.selects RX5 yX5_across yX5_across]
def wsL_law_r30 : List Cond := [Cond.code yX5_across cX5_across 3 (some .int), Cond.methodLink RX5 184 yX3_isDrawnAcross, Cond.methodLink RL 95 yX6_across, Cond.instanceMethod yX6_across, Cond.selects RX6 yX6_across yX6_across, Cond.code yX6_across cX6_across 3 (some .int), Cond.methodLink RL 96 yX5_down, Cond.instanceMethod yX5_down, Cond.selects RX5 yX5_down yX5_down, Cond.code yX5_down cX5_down 3 (some .int), Cond.methodLink RX5 187 yX3_isDrawnDown, Cond.methodLink RL 99 yX6_down, Cond.instanceMethod yX6_down, Cond.selects RX6 yX6_down yX6_down, Cond.code yX6_down cX6_down 3 (some .int), Cond.methodLink RL 100 yX5_partner, Cond.instanceMethod yX5_partner, Cond.selects RX5 yX5_partner yX5_partner, Cond.code yX5_partner cX5_partner 2 (some .int), Cond.fieldLink RX5 190 "AlternateSigns$Lines" "partners" "[I", Cond.methodLink RL 103 yX6_partner, Cond.instanceMethod yX6_partner, Cond.selects RX6 yX6_partner yX6_partner, Cond.code yX6_partner cX6_partner 2 (some .int)]
def wsL_law_r31 : List Cond := [Cond.methodLink RX6 152 yX6_isEnd, Cond.instanceMethod yX6_isEnd, Cond.selects RX6 yX6_isEnd yX6_isEnd, Cond.code yX6_isEnd cX6_isEnd 2 (some .boolean), Cond.methodLink RL 104 yX5_line, Cond.instanceMethod yX5_line, Cond.selects RX5 yX5_line yX5_line, Cond.code yX5_line cX5_line 2 (some .int), Cond.fieldLink RX5 194 "AlternateSigns$Lines" "lengths" "[I", Cond.methodLink RL 107 yX6_line, Cond.instanceMethod yX6_line, Cond.selects RX6 yX6_line yX6_line, Cond.code yX6_line cX6_line 2 (some .int), Cond.methodLink RL 108 yX5_rank, Cond.instanceMethod yX5_rank, Cond.selects RX5 yX5_rank yX5_rank, Cond.code yX5_rank cX5_rank 1 (some .int), Cond.methodLink RX5 197 yX0_rankOf, Cond.instanceMethod yX0_rankOf, Cond.selects RX0 yX0_rankOf yX0_rankOf, Cond.code yX0_rankOf cX0_rankOf 6 (some .int), Cond.methodLink RX0 32 yX3_fullColumns, Cond.instanceMethod yX3_fullColumns, Cond.selects RX3 yX3_fullColumns yX3_fullColumns]
def wsL_law_r32 : List Cond := [Cond.code yX3_fullColumns cX3_fullColumns 4 (some .int), Cond.methodLink RL 111 yX6_rank, Cond.instanceMethod yX6_rank, Cond.selects RX6 yX6_rank yX6_rank, Cond.code yX6_rank cX6_rank 7 (some .int), Cond.methodLink RL 112 yX5_many, Cond.instanceMethod yX5_many, Cond.selects RX5 yX5_many yX5_many, Cond.code yX5_many cX5_many 4 (some .int), Cond.methodLink RX5 200 yX0_withFirstOne, Cond.instanceMethod yX0_withFirstOne, Cond.selects RX0 yX0_withFirstOne yX0_withFirstOne, Cond.code yX0_withFirstOne cX0_withFirstOne 2 (some .int), Cond.methodLink RL 115 yX6_many, Cond.instanceMethod yX6_many, Cond.selects RX6 yX6_many yX6_many, Cond.code yX6_many cX6_many 4 (some .int), Cond.constantLong RX6 193 (-1), Cond.methodLink RL 116 yX5_alike, Cond.instanceMethod yX5_alike, Cond.selects RX5 yX5_alike yX5_alike, Cond.code yX5_alike cX5_alike 3 (some .int), Cond.fieldLink RX5 216 "AlternateSigns$AllOfSize" "tally" "[I", Cond.methodLink RX5 204 yX0_sortByPartners]
def wsL_law_r33 : List Cond := [Cond.instanceMethod yX0_sortByPartners, Cond.selects RX0 yX0_sortByPartners yX0_sortByPartners, Cond.code yX0_sortByPartners cX0_sortByPartners 5 none, Cond.fieldLink RX0 51 "AlternateSigns$AllOfSize" "ways" "I", Cond.methodLink RX0 54 yX0_total, Cond.methodLink RX0 58 yX0_put, Cond.methodLink RX0 62 yX1_trace, Cond.methodLink RX0 68 yX1_partnersCode, Cond.instanceMethod yX1_partnersCode, Cond.selects RX1 yX1_partnersCode yX1_partnersCode, Cond.code yX1_partnersCode cX1_partnersCode 4 (some .long), Cond.constantLong RX1 48 (12), Cond.methodLink RX0 72 yX0_addToWay, Cond.instanceMethod yX0_addToWay, Cond.selects RX0 yX0_addToWay yX0_addToWay, Cond.code yX0_addToWay cX0_addToWay 4 none, Cond.methodLink RX0 76 yX0_wayOf, Cond.instanceMethod yX0_wayOf, Cond.selects RX0 yX0_wayOf yX0_wayOf, Cond.code yX0_wayOf cX0_wayOf 4 (some .int), Cond.methodLink RX5 208 yX1_partnersCode, Cond.methodLink RX5 212 yX0_wayOf, Cond.methodLink RL 119 yX6_alike, Cond.instanceMethod yX6_alike]
def wsL_law_r34 : List Cond := [Cond.selects RX6 yX6_alike yX6_alike, Cond.code yX6_alike cX6_alike 6 (some .int), Cond.methodLink RX6 197 yX6_partners, Cond.instanceMethod yX6_partners, Cond.selects RX6 yX6_partners yX6_partners, Cond.code yX6_partners cX6_partners 6 (some .long), Cond.constantLong RX6 195 (12), Cond.methodLink RL 120 yX5_ways, Cond.instanceMethod yX5_ways, Cond.selects RX5 yX5_ways yX5_ways, Cond.code yX5_ways cX5_ways 4 (some .int), Cond.fieldLink RX5 219 "AlternateSigns$AllOfSize" "ways" "I", Cond.methodLink RL 123 yX6_ways, Cond.instanceMethod yX6_ways, Cond.selects RX6 yX6_ways yX6_ways, Cond.code yX6_ways cX6_ways 7 (some .int), Cond.constantLong RX6 201 (5)]
def wsL_law : List Cond := (wsL_law_r1 ++ (wsL_law_r2 ++ (wsL_law_r3 ++ (wsL_law_r4 ++ (wsL_law_r5 ++ (wsL_law_r6 ++ (wsL_law_r7 ++ (wsL_law_r8 ++ (wsL_law_r9 ++ (wsL_law_r10 ++ (wsL_law_r11 ++ (wsL_law_r12 ++ (wsL_law_r13 ++ (wsL_law_r14 ++ (wsL_law_r15 ++ (wsL_law_r16 ++ (wsL_law_r17 ++ (wsL_law_r18 ++ (wsL_law_r19 ++ (wsL_law_r20 ++ (wsL_law_r21 ++ (wsL_law_r22 ++ (wsL_law_r23 ++ (wsL_law_r24 ++ (wsL_law_r25 ++ (wsL_law_r26 ++ (wsL_law_r27 ++ (wsL_law_r28 ++ (wsL_law_r29 ++ (wsL_law_r30 ++ (wsL_law_r31 ++ (wsL_law_r32 ++ (wsL_law_r33 ++ wsL_law_r34))))))))))))))))))))))))))))))))) ++ wsX50 ++ wsX60 ++ wsX40 ++ wsX30 ++ wsX20 ++ wsX10 ++ wsX00 ++ ([] : List Cond)
set_option maxRecDepth 20000 in
theorem wsL_law_in : ∀ w ∈ wsL_law, w ∈ lw_tbl := fun w h => (goodIn_p wsL_law [64, 67, 72, 78, 120, 140, 185, 216, 220, 226, 230, 233, 236, 241, 244, 247, 250, 254, 264, 268, 272, 276, 280, 284, 288, 292, 296, 299, 303, 308, 690, 338, 766, 771, 342, 775, 346, 779, 350, 354, 783, 787, 358, 361, 366, 370, 373, 380, 384, 388, 392, 396, 400, 942, 925, 928, 931, 836, 946, 950, 935, 938, 405, 409, 791, 413, 795, 417, 421, 425, 799, 429, 433, 803, 807, 810, 438, 442, 814, 817, 446, 450, 454, 821, 825, 828, 459, 463, 468, 473, 477, 481, 485, 489, 494, 498, 504, 508, 512, 516, 520, 525, 529, 533, 537, 541, 973, 977, 981, 985, 883, 890, 989, 902, 905, 909, 913, 993, 545, 549, 832, 839, 553, 557, 561, 843, 848, 566, 570, 573, 852, 856, 577, 581, 860, 863, 585, 589, 593, 867, 597, 601, 871, 605, 609, 613, 617, 875, 621, 880, 626, 887, 631, 894, 898, 635, 917, 639, 643, 647, 921, 651, 655, 954, 659, 663, 670, 675, 679, 959, 963, 685, 968] (by decide +kernel) (by decide +kernel) w h).1
theorem inlX0 : ∀ w ∈ wsX00, w ∈ wsL_law := fun _ h => List.mem_append_left _ (List.mem_append_right _ h)
theorem inX0 : ∀ w ∈ wsX00, w ∈ lw_tbl := fun w h => wsL_law_in w (inlX0 w h)
theorem inlX1 : ∀ w ∈ wsX10, w ∈ wsL_law := fun _ h => List.mem_append_left _ (List.mem_append_left _ (List.mem_append_right _ h))
theorem inX1 : ∀ w ∈ wsX10, w ∈ lw_tbl := fun w h => wsL_law_in w (inlX1 w h)
theorem inlX2 : ∀ w ∈ wsX20, w ∈ wsL_law := fun _ h => List.mem_append_left _ (List.mem_append_left _ (List.mem_append_left _ (List.mem_append_right _ h)))
theorem inX2 : ∀ w ∈ wsX20, w ∈ lw_tbl := fun w h => wsL_law_in w (inlX2 w h)
theorem inlX3 : ∀ w ∈ wsX30, w ∈ wsL_law := fun _ h => List.mem_append_left _ (List.mem_append_left _ (List.mem_append_left _ (List.mem_append_left _ (List.mem_append_right _ h))))
theorem inX3 : ∀ w ∈ wsX30, w ∈ lw_tbl := fun w h => wsL_law_in w (inlX3 w h)
theorem inlX4 : ∀ w ∈ wsX40, w ∈ wsL_law := fun _ h => List.mem_append_left _ (List.mem_append_left _ (List.mem_append_left _ (List.mem_append_left _ (List.mem_append_left _ (List.mem_append_right _ h)))))
theorem inX4 : ∀ w ∈ wsX40, w ∈ lw_tbl := fun w h => wsL_law_in w (inlX4 w h)
theorem inlX5 : ∀ w ∈ wsX50, w ∈ wsL_law := fun _ h => List.mem_append_left _ (List.mem_append_left _ (List.mem_append_left _ (List.mem_append_left _ (List.mem_append_left _ (List.mem_append_left _ (List.mem_append_left _ (List.mem_append_right _ h)))))))
theorem inX5 : ∀ w ∈ wsX50, w ∈ lw_tbl := fun w h => wsL_law_in w (inlX5 w h)
theorem inlX6 : ∀ w ∈ wsX60, w ∈ wsL_law := fun _ h => List.mem_append_left _ (List.mem_append_left _ (List.mem_append_left _ (List.mem_append_left _ (List.mem_append_left _ (List.mem_append_left _ (List.mem_append_right _ h))))))
theorem inX6 : ∀ w ∈ wsX60, w ∈ lw_tbl := fun w h => wsL_law_in w (inlX6 w h)
theorem inJ6 : ∀ w ∈ wsJ60, w ∈ lw_tbl := by decide +kernel
theorem inJ9 : ∀ w ∈ wsJ90, w ∈ lw_tbl := by decide +kernel
theorem inJ0 : ∀ w ∈ wsJ00, w ∈ lw_tbl := by decide +kernel
theorem inJ1 : ∀ w ∈ wsJ10, w ∈ lw_tbl := by decide +kernel
theorem inJ2 : ∀ w ∈ wsJ20, w ∈ lw_tbl := by decide +kernel
theorem inJ10 : ∀ w ∈ wsJ100, w ∈ lw_tbl := by decide +kernel
theorem inJ3 : ∀ w ∈ wsJ30, w ∈ lw_tbl := by decide +kernel
theorem dX0_init_0 : decode cX0_init 0 = .ok (.aload_n 0, 1) := by decide +kernel
theorem dX0_init_1 : decode cX0_init 1 = .ok (.invokespecial 3, 3) := by decide +kernel
theorem dX0_init_4 : decode cX0_init 4 = .ok (.aload_n 0, 1) := by decide +kernel
theorem dX0_init_5 : decode cX0_init 5 = .ok (.bipush 64, 2) := by decide +kernel
theorem dX0_init_7 : decode cX0_init 7 = .ok (.newarray .int, 2) := by decide +kernel
theorem dX0_init_9 : decode cX0_init 9 = .ok (.putfield 9, 3) := by decide +kernel
theorem dX0_init_12 : decode cX0_init 12 = .ok (.aload_n 0, 1) := by decide +kernel
theorem dX0_init_13 : decode cX0_init 13 = .ok (.bipush 42, 2) := by decide +kernel
theorem dX0_init_15 : decode cX0_init 15 = .ok (.newarray .long, 2) := by decide +kernel
theorem dX0_init_17 : decode cX0_init 17 = .ok (.putfield 15, 3) := by decide +kernel
theorem dX0_init_20 : decode cX0_init 20 = .ok (.aload_n 0, 1) := by decide +kernel
theorem dX0_init_21 : decode cX0_init 21 = .ok (.bipush 42, 2) := by decide +kernel
theorem dX0_init_23 : decode cX0_init 23 = .ok (.newarray .int, 2) := by decide +kernel
theorem dX0_init_25 : decode cX0_init 25 = .ok (.putfield 19, 3) := by decide +kernel
theorem dX0_init_28 : decode cX0_init 28 = .ok (.aload_n 0, 1) := by decide +kernel
theorem dX0_init_29 : decode cX0_init 29 = .ok (.iload_n 1, 1) := by decide +kernel
theorem dX0_init_30 : decode cX0_init 30 = .ok (.putfield 22, 3) := by decide +kernel
theorem dX0_init_33 : decode cX0_init 33 = .ok (.aload_n 0, 1) := by decide +kernel
theorem dX0_init_34 : decode cX0_init 34 = .ok (.iconst 1, 1) := by decide +kernel
theorem dX0_init_35 : decode cX0_init 35 = .ok (.iload_n 1, 1) := by decide +kernel
theorem dX0_init_36 : decode cX0_init 36 = .ok (.ishl, 1) := by decide +kernel
theorem dX0_init_37 : decode cX0_init 37 = .ok (.putfield 26, 3) := by decide +kernel
theorem dX0_init_40 : decode cX0_init 40 = .ok (.return_, 1) := by decide +kernel
set_option maxRecDepth 20000 in
theorem ggX0_total_X0_countEndings : GoodIn wsX0_total wsX0_countEndings := goodIn_r _ [6, 7, 1, 8, 9, 10, 11, 12, 13, 14, 15, 16, 17, 18, 19, 5, 20, 21, 22, 23, 24, 25, 26, 27, 28, 29, 30, 31] (by decide +kernel) (by decide +kernel)
set_option maxRecDepth 20000 in
theorem gX0_total_X0_countEndings : GoodIn wsX0_total (wsV RX0 29 RX0 yX0_countEndings wsX0_countEndings) := goodIn_app (goodIn_of _ (by decide +kernel)) ggX0_total_X0_countEndings
theorem dX0_total_0 : decode cX0_total 0 = .ok (.aload_n 0, 1) := by decide +kernel
theorem dX0_total_1 : decode cX0_total 1 = .ok (.invokevirtual 29, 3) := by decide +kernel
theorem dX0_total_4 : decode cX0_total 4 = .ok (.aload_n 0, 1) := by decide +kernel
theorem dX0_total_5 : decode cX0_total 5 = .ok (.getfield 9, 3) := by decide +kernel
theorem dX0_total_8 : decode cX0_total 8 = .ok (.iconst 0, 1) := by decide +kernel
theorem dX0_total_9 : decode cX0_total 9 = .ok (.iaload, 1) := by decide +kernel
theorem dX0_total_10 : decode cX0_total 10 = .ok (.ireturn, 1) := by decide +kernel
set_option maxRecDepth 20000 in
theorem ggX0_withFirstOne_X0_countEndings : GoodIn wsX0_withFirstOne wsX0_countEndings := goodIn_r _ [7, 8, 1, 9, 2, 10, 11, 12, 13, 14, 15, 16, 17, 18, 19, 6, 20, 21, 22, 23, 24, 25, 26, 27, 28, 29, 30, 31] (by decide +kernel) (by decide +kernel)
set_option maxRecDepth 20000 in
theorem gX0_withFirstOne_X0_countEndings : GoodIn wsX0_withFirstOne (wsV RX0 29 RX0 yX0_countEndings wsX0_countEndings) := goodIn_app (goodIn_of _ (by decide +kernel)) ggX0_withFirstOne_X0_countEndings
theorem dX0_withFirstOne_0 : decode cX0_withFirstOne 0 = .ok (.aload_n 0, 1) := by decide +kernel
theorem dX0_withFirstOne_1 : decode cX0_withFirstOne 1 = .ok (.invokevirtual 29, 3) := by decide +kernel
theorem dX0_withFirstOne_4 : decode cX0_withFirstOne 4 = .ok (.aload_n 0, 1) := by decide +kernel
theorem dX0_withFirstOne_5 : decode cX0_withFirstOne 5 = .ok (.getfield 9, 3) := by decide +kernel
theorem dX0_withFirstOne_8 : decode cX0_withFirstOne 8 = .ok (.iconst 1, 1) := by decide +kernel
theorem dX0_withFirstOne_9 : decode cX0_withFirstOne 9 = .ok (.aload_n 0, 1) := by decide +kernel
theorem dX0_withFirstOne_10 : decode cX0_withFirstOne 10 = .ok (.getfield 22, 3) := by decide +kernel
theorem dX0_withFirstOne_13 : decode cX0_withFirstOne 13 = .ok (.iconst 1, 1) := by decide +kernel
theorem dX0_withFirstOne_14 : decode cX0_withFirstOne 14 = .ok (.isub, 1) := by decide +kernel
theorem dX0_withFirstOne_15 : decode cX0_withFirstOne 15 = .ok (.iload_n 1, 1) := by decide +kernel
theorem dX0_withFirstOne_16 : decode cX0_withFirstOne 16 = .ok (.isub, 1) := by decide +kernel
theorem dX0_withFirstOne_17 : decode cX0_withFirstOne 17 = .ok (.ishl, 1) := by decide +kernel
theorem dX0_withFirstOne_18 : decode cX0_withFirstOne 18 = .ok (.iaload, 1) := by decide +kernel
theorem dX0_withFirstOne_19 : decode cX0_withFirstOne 19 = .ok (.ireturn, 1) := by decide +kernel
set_option maxRecDepth 20000 in
theorem ggX0_rankOf_X0_countEndings : GoodIn wsX0_rankOf wsX0_countEndings := goodIn_r _ [6, 7, 8, 9, 1, 10, 11, 12, 13, 14, 15, 16, 17, 18, 19, 5, 20, 21, 22, 23, 24, 40, 41, 42, 43, 44, 45, 46] (by decide +kernel) (by decide +kernel)
set_option maxRecDepth 20000 in
theorem gX0_rankOf_X0_countEndings : GoodIn wsX0_rankOf (wsV RX0 29 RX0 yX0_countEndings wsX0_countEndings) := goodIn_app (goodIn_of _ (by decide +kernel)) ggX0_rankOf_X0_countEndings
set_option maxRecDepth 20000 in
theorem ggX0_rankOf_X3_fullColumns : GoodIn wsX0_rankOf wsX3_fullColumns := goodIn_r _ [29, 30, 31, 32, 33, 28, 34, 35, 36, 37, 38, 39, 47, 48] (by decide +kernel) (by decide +kernel)
set_option maxRecDepth 20000 in
theorem gX0_rankOf_X3_fullColumns : GoodIn wsX0_rankOf (wsV RX0 32 RX3 yX3_fullColumns wsX3_fullColumns) := goodIn_app (goodIn_of _ (by decide +kernel)) ggX0_rankOf_X3_fullColumns
set_option maxRecDepth 20000 in
theorem ggX0_rankOf_X0_endingsFrom : GoodIn wsX0_rankOf wsX0_endingsFrom := goodIn_r _ [20, 9, 8, 21, 22, 23, 5, 24, 1, 40, 41, 42, 43, 44, 45, 46] (by decide +kernel) (by decide +kernel)
set_option maxRecDepth 20000 in
theorem gX0_rankOf_X0_endingsFrom : GoodIn wsX0_rankOf (wsV RX0 38 RX0 yX0_endingsFrom wsX0_endingsFrom) := goodIn_app (goodIn_of _ (by decide +kernel)) ggX0_rankOf_X0_endingsFrom
theorem dX0_rankOf_0 : decode cX0_rankOf 0 = .ok (.aload_n 0, 1) := by decide +kernel
theorem dX0_rankOf_1 : decode cX0_rankOf 1 = .ok (.invokevirtual 29, 3) := by decide +kernel
theorem dX0_rankOf_4 : decode cX0_rankOf 4 = .ok (.iconst 0, 1) := by decide +kernel
theorem dX0_rankOf_5 : decode cX0_rankOf 5 = .ok (.istore_n 2, 1) := by decide +kernel
theorem dX0_rankOf_6 : decode cX0_rankOf 6 = .ok (.iconst 0, 1) := by decide +kernel
theorem dX0_rankOf_7 : decode cX0_rankOf 7 = .ok (.istore_n 3, 1) := by decide +kernel
theorem dX0_rankOf_8 : decode cX0_rankOf 8 = .ok (.iconst 1, 1) := by decide +kernel
theorem dX0_rankOf_9 : decode cX0_rankOf 9 = .ok (.istore 4, 2) := by decide +kernel
theorem dX0_rankOf_11 : decode cX0_rankOf 11 = .ok (.iload 4, 2) := by decide +kernel
theorem dX0_rankOf_13 : decode cX0_rankOf 13 = .ok (.aload_n 0, 1) := by decide +kernel
theorem dX0_rankOf_14 : decode cX0_rankOf 14 = .ok (.getfield 22, 3) := by decide +kernel
theorem dX0_rankOf_17 : decode cX0_rankOf 17 = .ok (.if_icmp .gt 32, 3) := by decide +kernel
theorem dX0_rankOf_20 : decode cX0_rankOf 20 = .ok (.aload_n 1, 1) := by decide +kernel
theorem dX0_rankOf_21 : decode cX0_rankOf 21 = .ok (.iload 4, 2) := by decide +kernel
theorem dX0_rankOf_23 : decode cX0_rankOf 23 = .ok (.invokevirtual 32, 3) := by decide +kernel
theorem dX0_rankOf_26 : decode cX0_rankOf 26 = .ok (.istore 5, 2) := by decide +kernel
theorem dX0_rankOf_28 : decode cX0_rankOf 28 = .ok (.iload_n 2, 1) := by decide +kernel
theorem dX0_rankOf_29 : decode cX0_rankOf 29 = .ok (.aload_n 0, 1) := by decide +kernel
theorem dX0_rankOf_30 : decode cX0_rankOf 30 = .ok (.iload_n 3, 1) := by decide +kernel
theorem dX0_rankOf_31 : decode cX0_rankOf 31 = .ok (.iload 5, 2) := by decide +kernel
theorem dX0_rankOf_33 : decode cX0_rankOf 33 = .ok (.iconst 1, 1) := by decide +kernel
theorem dX0_rankOf_34 : decode cX0_rankOf 34 = .ok (.iadd, 1) := by decide +kernel
theorem dX0_rankOf_35 : decode cX0_rankOf 35 = .ok (.invokevirtual 38, 3) := by decide +kernel
theorem dX0_rankOf_38 : decode cX0_rankOf 38 = .ok (.iadd, 1) := by decide +kernel
theorem dX0_rankOf_39 : decode cX0_rankOf 39 = .ok (.istore_n 2, 1) := by decide +kernel
theorem dX0_rankOf_40 : decode cX0_rankOf 40 = .ok (.iload 5, 2) := by decide +kernel
theorem dX0_rankOf_42 : decode cX0_rankOf 42 = .ok (.istore_n 3, 1) := by decide +kernel
theorem dX0_rankOf_43 : decode cX0_rankOf 43 = .ok (.iinc 4 1, 3) := by decide +kernel
theorem dX0_rankOf_46 : decode cX0_rankOf 46 = .ok (.goto (-35), 3) := by decide +kernel
theorem dX0_rankOf_49 : decode cX0_rankOf 49 = .ok (.iload_n 2, 1) := by decide +kernel
theorem dX0_rankOf_50 : decode cX0_rankOf 50 = .ok (.ireturn, 1) := by decide +kernel
set_option maxRecDepth 20000 in
theorem ggX0_put_X0_countEndings : GoodIn wsX0_put wsX0_countEndings := goodIn_r _ [9, 10, 4, 3, 1, 11, 12, 13, 14, 15, 16, 17, 18, 19, 20, 8, 21, 22, 23, 24, 25, 41, 42, 43, 44, 45, 46, 47] (by decide +kernel) (by decide +kernel)
set_option maxRecDepth 20000 in
theorem gX0_put_X0_countEndings : GoodIn wsX0_put (wsV RX0 29 RX0 yX0_countEndings wsX0_countEndings) := goodIn_app (goodIn_of _ (by decide +kernel)) ggX0_put_X0_countEndings
set_option maxRecDepth 20000 in
theorem ggX0_put_X0_canFollow : GoodIn wsX0_put wsX0_canFollow := goodIn_r _ [25, 1, 41, 42, 43, 44, 45, 46, 47] (by decide +kernel) (by decide +kernel)
set_option maxRecDepth 20000 in
theorem gX0_put_X0_canFollow : GoodIn wsX0_put (wsV RX0 43 RX0 yX0_canFollow wsX0_canFollow) := goodIn_app (goodIn_of _ (by decide +kernel)) ggX0_put_X0_canFollow
set_option maxRecDepth 20000 in
theorem ggX0_put_X3_putFullColumns : GoodIn wsX0_put wsX3_putFullColumns := goodIn_r _ [30, 31, 32, 33, 34, 29, 35, 36, 37, 38, 39, 40, 48, 49] (by decide +kernel) (by decide +kernel)
set_option maxRecDepth 20000 in
theorem gX0_put_X3_putFullColumns : GoodIn wsX0_put (wsV RX0 47 RX3 yX3_putFullColumns wsX3_putFullColumns) := goodIn_app (goodIn_of _ (by decide +kernel)) ggX0_put_X3_putFullColumns
theorem dX0_put_0 : decode cX0_put 0 = .ok (.aload_n 0, 1) := by decide +kernel
theorem dX0_put_1 : decode cX0_put 1 = .ok (.invokevirtual 29, 3) := by decide +kernel
theorem dX0_put_4 : decode cX0_put 4 = .ok (.aload_n 2, 1) := by decide +kernel
theorem dX0_put_5 : decode cX0_put 5 = .ok (.aload_n 0, 1) := by decide +kernel
theorem dX0_put_6 : decode cX0_put 6 = .ok (.getfield 22, 3) := by decide +kernel
theorem dX0_put_9 : decode cX0_put 9 = .ok (.putfield 42, 3) := by decide +kernel
theorem dX0_put_12 : decode cX0_put 12 = .ok (.iload_n 1, 1) := by decide +kernel
theorem dX0_put_13 : decode cX0_put 13 = .ok (.istore_n 3, 1) := by decide +kernel
theorem dX0_put_14 : decode cX0_put 14 = .ok (.iconst 0, 1) := by decide +kernel
theorem dX0_put_15 : decode cX0_put 15 = .ok (.istore 4, 2) := by decide +kernel
theorem dX0_put_17 : decode cX0_put 17 = .ok (.iconst 1, 1) := by decide +kernel
theorem dX0_put_18 : decode cX0_put 18 = .ok (.istore 5, 2) := by decide +kernel
theorem dX0_put_20 : decode cX0_put 20 = .ok (.iload 5, 2) := by decide +kernel
theorem dX0_put_22 : decode cX0_put 22 = .ok (.aload_n 0, 1) := by decide +kernel
theorem dX0_put_23 : decode cX0_put 23 = .ok (.getfield 22, 3) := by decide +kernel
theorem dX0_put_26 : decode cX0_put 26 = .ok (.if_icmp .gt 78, 3) := by decide +kernel
theorem dX0_put_29 : decode cX0_put 29 = .ok (.aload_n 0, 1) := by decide +kernel
theorem dX0_put_30 : decode cX0_put 30 = .ok (.getfield 26, 3) := by decide +kernel
theorem dX0_put_33 : decode cX0_put 33 = .ok (.iconst 1, 1) := by decide +kernel
theorem dX0_put_34 : decode cX0_put 34 = .ok (.isub, 1) := by decide +kernel
theorem dX0_put_35 : decode cX0_put 35 = .ok (.istore 6, 2) := by decide +kernel
theorem dX0_put_37 : decode cX0_put 37 = .ok (.iload 6, 2) := by decide +kernel
theorem dX0_put_39 : decode cX0_put 39 = .ok (.ifCond .le 47, 3) := by decide +kernel
theorem dX0_put_42 : decode cX0_put 42 = .ok (.aload_n 0, 1) := by decide +kernel
theorem dX0_put_43 : decode cX0_put 43 = .ok (.iload 4, 2) := by decide +kernel
theorem dX0_put_45 : decode cX0_put 45 = .ok (.iload 6, 2) := by decide +kernel
theorem dX0_put_47 : decode cX0_put 47 = .ok (.invokevirtual 43, 3) := by decide +kernel
theorem dX0_put_50 : decode cX0_put 50 = .ok (.ifCond .eq 13, 3) := by decide +kernel
theorem dX0_put_53 : decode cX0_put 53 = .ok (.aload_n 0, 1) := by decide +kernel
theorem dX0_put_54 : decode cX0_put 54 = .ok (.getfield 9, 3) := by decide +kernel
theorem dX0_put_57 : decode cX0_put 57 = .ok (.iload 6, 2) := by decide +kernel
theorem dX0_put_59 : decode cX0_put 59 = .ok (.iaload, 1) := by decide +kernel
theorem dX0_put_60 : decode cX0_put 60 = .ok (.goto 4, 3) := by decide +kernel
theorem dX0_put_63 : decode cX0_put 63 = .ok (.iconst 0, 1) := by decide +kernel
theorem dX0_put_64 : decode cX0_put 64 = .ok (.istore 7, 2) := by decide +kernel
theorem dX0_put_66 : decode cX0_put 66 = .ok (.iload_n 3, 1) := by decide +kernel
theorem dX0_put_67 : decode cX0_put 67 = .ok (.iload 7, 2) := by decide +kernel
theorem dX0_put_69 : decode cX0_put 69 = .ok (.if_icmp .ge 6, 3) := by decide +kernel
theorem dX0_put_72 : decode cX0_put 72 = .ok (.goto 14, 3) := by decide +kernel
theorem dX0_put_75 : decode cX0_put 75 = .ok (.iload_n 3, 1) := by decide +kernel
theorem dX0_put_76 : decode cX0_put 76 = .ok (.iload 7, 2) := by decide +kernel
theorem dX0_put_78 : decode cX0_put 78 = .ok (.isub, 1) := by decide +kernel
theorem dX0_put_79 : decode cX0_put 79 = .ok (.istore_n 3, 1) := by decide +kernel
theorem dX0_put_80 : decode cX0_put 80 = .ok (.iinc 6 (-1), 3) := by decide +kernel
theorem dX0_put_83 : decode cX0_put 83 = .ok (.goto (-46), 3) := by decide +kernel
theorem dX0_put_86 : decode cX0_put 86 = .ok (.aload_n 2, 1) := by decide +kernel
theorem dX0_put_87 : decode cX0_put 87 = .ok (.iload 5, 2) := by decide +kernel
theorem dX0_put_89 : decode cX0_put 89 = .ok (.iload 6, 2) := by decide +kernel
theorem dX0_put_91 : decode cX0_put 91 = .ok (.invokevirtual 47, 3) := by decide +kernel
theorem dX0_put_94 : decode cX0_put 94 = .ok (.iload 6, 2) := by decide +kernel
theorem dX0_put_96 : decode cX0_put 96 = .ok (.istore 4, 2) := by decide +kernel
theorem dX0_put_98 : decode cX0_put 98 = .ok (.iinc 5 1, 3) := by decide +kernel
theorem dX0_put_101 : decode cX0_put 101 = .ok (.goto (-81), 3) := by decide +kernel
theorem dX0_put_104 : decode cX0_put 104 = .ok (.return_, 1) := by decide +kernel
set_option maxRecDepth 20000 in
theorem ggX0_sortByPartners_X0_total : GoodIn wsX0_sortByPartners wsX0_total := goodIn_r _ [6, 7, 8, 9, 10, 5, 11, 12, 13, 14, 15, 16, 17, 18, 19, 20, 21, 22, 23, 24, 25, 26, 27, 28, 29, 145, 146, 147, 148, 149, 150, 151] (by decide +kernel) (by decide +kernel)
set_option maxRecDepth 20000 in
theorem gX0_sortByPartners_X0_total : GoodIn wsX0_sortByPartners (wsV RX0 54 RX0 yX0_total wsX0_total) := goodIn_app (goodIn_of _ (by decide +kernel)) ggX0_sortByPartners_X0_total
set_option maxRecDepth 20000 in
theorem ggX0_sortByPartners_X0_put : GoodIn wsX0_sortByPartners wsX0_put := goodIn_r _ [33, 14, 34, 13, 7, 8, 9, 10, 5, 11, 12, 15, 16, 17, 18, 19, 20, 21, 22, 23, 24, 25, 26, 27, 28, 29, 35, 36, 37, 38, 39, 40, 41, 42, 43, 44, 45, 46, 47, 48, 49, 145, 146, 147, 148, 149, 150, 151, 152, 153] (by decide +kernel) (by decide +kernel)
set_option maxRecDepth 20000 in
theorem gX0_sortByPartners_X0_put : GoodIn wsX0_sortByPartners (wsV RX0 58 RX0 yX0_put wsX0_put) := goodIn_app (goodIn_of _ (by decide +kernel)) ggX0_sortByPartners_X0_put
set_option maxRecDepth 20000 in
theorem ggX0_sortByPartners_X1_trace : GoodIn wsX0_sortByPartners wsX1_trace := goodIn_r _ [54, 55, 56, 57, 58, 59, 53, 60, 61, 62, 63, 64, 38, 65, 66, 67, 68, 69, 41, 42, 43, 44, 45, 70, 71, 72, 73, 74, 75, 76, 77, 78, 79, 80, 81, 82, 83, 84, 85, 86, 87, 88, 89, 90, 91, 92, 93, 94, 95, 96, 97, 98, 99, 100, 101, 102, 103, 104, 105, 106, 107, 108, 109, 110, 111, 112, 113, 114, 115, 116, 117, 118, 119, 120, 121, 122, 123, 124, 125, 126, 127, 128, 129, 152, 153, 154, 155, 156, 157, 158, 159, 160, 161, 162, 163, 164] (by decide +kernel) (by decide +kernel)
set_option maxRecDepth 20000 in
theorem gX0_sortByPartners_X1_trace : GoodIn wsX0_sortByPartners (wsV RX0 62 RX1 yX1_trace wsX1_trace) := goodIn_app (goodIn_of _ (by decide +kernel)) ggX0_sortByPartners_X1_trace
set_option maxRecDepth 20000 in
theorem ggX0_sortByPartners_X1_partnersCode : GoodIn wsX0_sortByPartners wsX1_partnersCode := goodIn_r _ [133, 82, 134, 118, 154, 155, 156, 157, 158, 159, 160, 161, 162, 163, 164] (by decide +kernel) (by decide +kernel)
set_option maxRecDepth 20000 in
theorem gX0_sortByPartners_X1_partnersCode : GoodIn wsX0_sortByPartners (wsV RX0 68 RX1 yX1_partnersCode wsX1_partnersCode) := goodIn_app (goodIn_of _ (by decide +kernel)) ggX0_sortByPartners_X1_partnersCode
set_option maxRecDepth 20000 in
theorem ggX0_sortByPartners_X0_addToWay : GoodIn wsX0_sortByPartners wsX0_addToWay := goodIn_r _ [138, 1, 139, 140, 141, 142, 143, 5, 144, 145, 146, 147, 148, 149, 150, 151] (by decide +kernel) (by decide +kernel)
set_option maxRecDepth 20000 in
theorem gX0_sortByPartners_X0_addToWay : GoodIn wsX0_sortByPartners (wsV RX0 72 RX0 yX0_addToWay wsX0_addToWay) := goodIn_app (goodIn_of _ (by decide +kernel)) ggX0_sortByPartners_X0_addToWay
theorem dX0_sortByPartners_0 : decode cX0_sortByPartners 0 = .ok (.aload_n 0, 1) := by decide +kernel
theorem dX0_sortByPartners_1 : decode cX0_sortByPartners 1 = .ok (.getfield 51, 3) := by decide +kernel
theorem dX0_sortByPartners_4 : decode cX0_sortByPartners 4 = .ok (.ifCond .le 4, 3) := by decide +kernel
theorem dX0_sortByPartners_7 : decode cX0_sortByPartners 7 = .ok (.return_, 1) := by decide +kernel
theorem dX0_sortByPartners_8 : decode cX0_sortByPartners 8 = .ok (.aload_n 0, 1) := by decide +kernel
theorem dX0_sortByPartners_9 : decode cX0_sortByPartners 9 = .ok (.invokevirtual 54, 3) := by decide +kernel
theorem dX0_sortByPartners_12 : decode cX0_sortByPartners 12 = .ok (.istore_n 3, 1) := by decide +kernel
theorem dX0_sortByPartners_13 : decode cX0_sortByPartners 13 = .ok (.iconst 0, 1) := by decide +kernel
theorem dX0_sortByPartners_14 : decode cX0_sortByPartners 14 = .ok (.istore 4, 2) := by decide +kernel
theorem dX0_sortByPartners_16 : decode cX0_sortByPartners 16 = .ok (.iload 4, 2) := by decide +kernel
theorem dX0_sortByPartners_18 : decode cX0_sortByPartners 18 = .ok (.iload_n 3, 1) := by decide +kernel
theorem dX0_sortByPartners_19 : decode cX0_sortByPartners 19 = .ok (.if_icmp .ge 29, 3) := by decide +kernel
theorem dX0_sortByPartners_22 : decode cX0_sortByPartners 22 = .ok (.aload_n 0, 1) := by decide +kernel
theorem dX0_sortByPartners_23 : decode cX0_sortByPartners 23 = .ok (.iload 4, 2) := by decide +kernel
theorem dX0_sortByPartners_25 : decode cX0_sortByPartners 25 = .ok (.aload_n 2, 1) := by decide +kernel
theorem dX0_sortByPartners_26 : decode cX0_sortByPartners 26 = .ok (.invokevirtual 58, 3) := by decide +kernel
theorem dX0_sortByPartners_29 : decode cX0_sortByPartners 29 = .ok (.aload_n 1, 1) := by decide +kernel
theorem dX0_sortByPartners_30 : decode cX0_sortByPartners 30 = .ok (.aload_n 2, 1) := by decide +kernel
theorem dX0_sortByPartners_31 : decode cX0_sortByPartners 31 = .ok (.invokevirtual 62, 3) := by decide +kernel
theorem dX0_sortByPartners_34 : decode cX0_sortByPartners 34 = .ok (.aload_n 0, 1) := by decide +kernel
theorem dX0_sortByPartners_35 : decode cX0_sortByPartners 35 = .ok (.aload_n 1, 1) := by decide +kernel
theorem dX0_sortByPartners_36 : decode cX0_sortByPartners 36 = .ok (.invokevirtual 68, 3) := by decide +kernel
theorem dX0_sortByPartners_39 : decode cX0_sortByPartners 39 = .ok (.invokevirtual 72, 3) := by decide +kernel
theorem dX0_sortByPartners_42 : decode cX0_sortByPartners 42 = .ok (.iinc 4 1, 3) := by decide +kernel
theorem dX0_sortByPartners_45 : decode cX0_sortByPartners 45 = .ok (.goto (-29), 3) := by decide +kernel
theorem dX0_sortByPartners_48 : decode cX0_sortByPartners 48 = .ok (.return_, 1) := by decide +kernel
set_option maxRecDepth 20000 in
theorem ggX0_addToWay_X0_wayOf : GoodIn wsX0_addToWay wsX0_wayOf := goodIn_r _ [8, 1, 2, 9, 10, 11, 12, 13, 14, 15] (by decide +kernel) (by decide +kernel)
set_option maxRecDepth 20000 in
theorem gX0_addToWay_X0_wayOf : GoodIn wsX0_addToWay (wsV RX0 76 RX0 yX0_wayOf wsX0_wayOf) := goodIn_app (goodIn_of _ (by decide +kernel)) ggX0_addToWay_X0_wayOf
theorem dX0_addToWay_0 : decode cX0_addToWay 0 = .ok (.aload_n 0, 1) := by decide +kernel
theorem dX0_addToWay_1 : decode cX0_addToWay 1 = .ok (.lload_n 1, 1) := by decide +kernel
theorem dX0_addToWay_2 : decode cX0_addToWay 2 = .ok (.invokevirtual 76, 3) := by decide +kernel
theorem dX0_addToWay_5 : decode cX0_addToWay 5 = .ok (.istore_n 3, 1) := by decide +kernel
theorem dX0_addToWay_6 : decode cX0_addToWay 6 = .ok (.iload_n 3, 1) := by decide +kernel
theorem dX0_addToWay_7 : decode cX0_addToWay 7 = .ok (.bipush 42, 2) := by decide +kernel
theorem dX0_addToWay_9 : decode cX0_addToWay 9 = .ok (.if_icmp .lt 4, 3) := by decide +kernel
theorem dX0_addToWay_12 : decode cX0_addToWay 12 = .ok (.return_, 1) := by decide +kernel
theorem dX0_addToWay_13 : decode cX0_addToWay 13 = .ok (.iload_n 3, 1) := by decide +kernel
theorem dX0_addToWay_14 : decode cX0_addToWay 14 = .ok (.aload_n 0, 1) := by decide +kernel
theorem dX0_addToWay_15 : decode cX0_addToWay 15 = .ok (.getfield 51, 3) := by decide +kernel
theorem dX0_addToWay_18 : decode cX0_addToWay 18 = .ok (.if_icmp .ne 20, 3) := by decide +kernel
theorem dX0_addToWay_21 : decode cX0_addToWay 21 = .ok (.aload_n 0, 1) := by decide +kernel
theorem dX0_addToWay_22 : decode cX0_addToWay 22 = .ok (.getfield 15, 3) := by decide +kernel
theorem dX0_addToWay_25 : decode cX0_addToWay 25 = .ok (.iload_n 3, 1) := by decide +kernel
theorem dX0_addToWay_26 : decode cX0_addToWay 26 = .ok (.lload_n 1, 1) := by decide +kernel
theorem dX0_addToWay_27 : decode cX0_addToWay 27 = .ok (.lastore, 1) := by decide +kernel
theorem dX0_addToWay_28 : decode cX0_addToWay 28 = .ok (.aload_n 0, 1) := by decide +kernel
theorem dX0_addToWay_29 : decode cX0_addToWay 29 = .ok (.dup, 1) := by decide +kernel
theorem dX0_addToWay_30 : decode cX0_addToWay 30 = .ok (.getfield 51, 3) := by decide +kernel
theorem dX0_addToWay_33 : decode cX0_addToWay 33 = .ok (.iconst 1, 1) := by decide +kernel
theorem dX0_addToWay_34 : decode cX0_addToWay 34 = .ok (.iadd, 1) := by decide +kernel
theorem dX0_addToWay_35 : decode cX0_addToWay 35 = .ok (.putfield 51, 3) := by decide +kernel
theorem dX0_addToWay_38 : decode cX0_addToWay 38 = .ok (.aload_n 0, 1) := by decide +kernel
theorem dX0_addToWay_39 : decode cX0_addToWay 39 = .ok (.getfield 19, 3) := by decide +kernel
theorem dX0_addToWay_42 : decode cX0_addToWay 42 = .ok (.iload_n 3, 1) := by decide +kernel
theorem dX0_addToWay_43 : decode cX0_addToWay 43 = .ok (.dup2, 1) := by decide +kernel
theorem dX0_addToWay_44 : decode cX0_addToWay 44 = .ok (.iaload, 1) := by decide +kernel
theorem dX0_addToWay_45 : decode cX0_addToWay 45 = .ok (.iconst 1, 1) := by decide +kernel
theorem dX0_addToWay_46 : decode cX0_addToWay 46 = .ok (.iadd, 1) := by decide +kernel
theorem dX0_addToWay_47 : decode cX0_addToWay 47 = .ok (.iastore, 1) := by decide +kernel
theorem dX0_addToWay_48 : decode cX0_addToWay 48 = .ok (.return_, 1) := by decide +kernel
theorem dX0_wayOf_0 : decode cX0_wayOf 0 = .ok (.iconst 0, 1) := by decide +kernel
theorem dX0_wayOf_1 : decode cX0_wayOf 1 = .ok (.istore_n 3, 1) := by decide +kernel
theorem dX0_wayOf_2 : decode cX0_wayOf 2 = .ok (.iload_n 3, 1) := by decide +kernel
theorem dX0_wayOf_3 : decode cX0_wayOf 3 = .ok (.aload_n 0, 1) := by decide +kernel
theorem dX0_wayOf_4 : decode cX0_wayOf 4 = .ok (.getfield 51, 3) := by decide +kernel
theorem dX0_wayOf_7 : decode cX0_wayOf 7 = .ok (.if_icmp .ge 22, 3) := by decide +kernel
theorem dX0_wayOf_10 : decode cX0_wayOf 10 = .ok (.aload_n 0, 1) := by decide +kernel
theorem dX0_wayOf_11 : decode cX0_wayOf 11 = .ok (.getfield 15, 3) := by decide +kernel
theorem dX0_wayOf_14 : decode cX0_wayOf 14 = .ok (.iload_n 3, 1) := by decide +kernel
theorem dX0_wayOf_15 : decode cX0_wayOf 15 = .ok (.laload, 1) := by decide +kernel
theorem dX0_wayOf_16 : decode cX0_wayOf 16 = .ok (.lload_n 1, 1) := by decide +kernel
theorem dX0_wayOf_17 : decode cX0_wayOf 17 = .ok (.lcmp, 1) := by decide +kernel
theorem dX0_wayOf_18 : decode cX0_wayOf 18 = .ok (.ifCond .ne 5, 3) := by decide +kernel
theorem dX0_wayOf_21 : decode cX0_wayOf 21 = .ok (.iload_n 3, 1) := by decide +kernel
theorem dX0_wayOf_22 : decode cX0_wayOf 22 = .ok (.ireturn, 1) := by decide +kernel
theorem dX0_wayOf_23 : decode cX0_wayOf 23 = .ok (.iinc 3 1, 3) := by decide +kernel
theorem dX0_wayOf_26 : decode cX0_wayOf 26 = .ok (.goto (-24), 3) := by decide +kernel
theorem dX0_wayOf_29 : decode cX0_wayOf 29 = .ok (.aload_n 0, 1) := by decide +kernel
theorem dX0_wayOf_30 : decode cX0_wayOf 30 = .ok (.getfield 51, 3) := by decide +kernel
theorem dX0_wayOf_33 : decode cX0_wayOf 33 = .ok (.ireturn, 1) := by decide +kernel
set_option maxRecDepth 20000 in
theorem ggX0_countEndings_J6_bitCount_0f7a4 : GoodIn wsX0_countEndings wsJ6_bitCount_0f7a4 := goodIn_r _ [8, 9, 10, 11] (by decide +kernel) (by decide +kernel)
set_option maxRecDepth 20000 in
theorem gX0_countEndings_J6_bitCount_0f7a4 : GoodIn wsX0_countEndings (va_wsS RX0 84 yJ6_bitCount_0f7a4 wsJ6_bitCount_0f7a4) := goodIn_app (goodIn_of _ (by decide +kernel)) ggX0_countEndings_J6_bitCount_0f7a4
set_option maxRecDepth 20000 in
theorem ggX0_countEndings_X0_endingsFrom : GoodIn wsX0_countEndings wsX0_endingsFrom := goodIn_r _ [16, 3, 2, 17, 18, 19, 15, 20, 4, 21, 22, 23, 24, 25, 26, 27] (by decide +kernel) (by decide +kernel)
set_option maxRecDepth 20000 in
theorem gX0_countEndings_X0_endingsFrom : GoodIn wsX0_countEndings (wsV RX0 38 RX0 yX0_endingsFrom wsX0_endingsFrom) := goodIn_app (goodIn_of _ (by decide +kernel)) ggX0_countEndings_X0_endingsFrom
theorem dX0_countEndings_0 : decode cX0_countEndings 0 = .ok (.aload_n 0, 1) := by decide +kernel
theorem dX0_countEndings_1 : decode cX0_countEndings 1 = .ok (.getfield 80, 3) := by decide +kernel
theorem dX0_countEndings_4 : decode cX0_countEndings 4 = .ok (.ifCond .eq 4, 3) := by decide +kernel
theorem dX0_countEndings_7 : decode cX0_countEndings 7 = .ok (.return_, 1) := by decide +kernel
theorem dX0_countEndings_8 : decode cX0_countEndings 8 = .ok (.aload_n 0, 1) := by decide +kernel
theorem dX0_countEndings_9 : decode cX0_countEndings 9 = .ok (.iconst 1, 1) := by decide +kernel
theorem dX0_countEndings_10 : decode cX0_countEndings 10 = .ok (.putfield 80, 3) := by decide +kernel
theorem dX0_countEndings_13 : decode cX0_countEndings 13 = .ok (.aload_n 0, 1) := by decide +kernel
theorem dX0_countEndings_14 : decode cX0_countEndings 14 = .ok (.getfield 9, 3) := by decide +kernel
theorem dX0_countEndings_17 : decode cX0_countEndings 17 = .ok (.aload_n 0, 1) := by decide +kernel
theorem dX0_countEndings_18 : decode cX0_countEndings 18 = .ok (.getfield 26, 3) := by decide +kernel
theorem dX0_countEndings_21 : decode cX0_countEndings 21 = .ok (.iconst 1, 1) := by decide +kernel
theorem dX0_countEndings_22 : decode cX0_countEndings 22 = .ok (.isub, 1) := by decide +kernel
theorem dX0_countEndings_23 : decode cX0_countEndings 23 = .ok (.iconst 1, 1) := by decide +kernel
theorem dX0_countEndings_24 : decode cX0_countEndings 24 = .ok (.iastore, 1) := by decide +kernel
theorem dX0_countEndings_25 : decode cX0_countEndings 25 = .ok (.aload_n 0, 1) := by decide +kernel
theorem dX0_countEndings_26 : decode cX0_countEndings 26 = .ok (.getfield 22, 3) := by decide +kernel
theorem dX0_countEndings_29 : decode cX0_countEndings 29 = .ok (.iconst 1, 1) := by decide +kernel
theorem dX0_countEndings_30 : decode cX0_countEndings 30 = .ok (.isub, 1) := by decide +kernel
theorem dX0_countEndings_31 : decode cX0_countEndings 31 = .ok (.istore_n 1, 1) := by decide +kernel
theorem dX0_countEndings_32 : decode cX0_countEndings 32 = .ok (.iload_n 1, 1) := by decide +kernel
theorem dX0_countEndings_33 : decode cX0_countEndings 33 = .ok (.ifCond .lt 45, 3) := by decide +kernel
theorem dX0_countEndings_36 : decode cX0_countEndings 36 = .ok (.iconst 0, 1) := by decide +kernel
theorem dX0_countEndings_37 : decode cX0_countEndings 37 = .ok (.istore_n 2, 1) := by decide +kernel
theorem dX0_countEndings_38 : decode cX0_countEndings 38 = .ok (.iload_n 2, 1) := by decide +kernel
theorem dX0_countEndings_39 : decode cX0_countEndings 39 = .ok (.aload_n 0, 1) := by decide +kernel
theorem dX0_countEndings_40 : decode cX0_countEndings 40 = .ok (.getfield 26, 3) := by decide +kernel
theorem dX0_countEndings_43 : decode cX0_countEndings 43 = .ok (.if_icmp .ge 29, 3) := by decide +kernel
theorem dX0_countEndings_46 : decode cX0_countEndings 46 = .ok (.iload_n 2, 1) := by decide +kernel
theorem dX0_countEndings_47 : decode cX0_countEndings 47 = .ok (.invokestatic 84, 3) := by decide +kernel
theorem dX0_countEndings_50 : decode cX0_countEndings 50 = .ok (.iload_n 1, 1) := by decide +kernel
theorem dX0_countEndings_51 : decode cX0_countEndings 51 = .ok (.if_icmp .ne 15, 3) := by decide +kernel
theorem dX0_countEndings_54 : decode cX0_countEndings 54 = .ok (.aload_n 0, 1) := by decide +kernel
theorem dX0_countEndings_55 : decode cX0_countEndings 55 = .ok (.getfield 9, 3) := by decide +kernel
theorem dX0_countEndings_58 : decode cX0_countEndings 58 = .ok (.iload_n 2, 1) := by decide +kernel
theorem dX0_countEndings_59 : decode cX0_countEndings 59 = .ok (.aload_n 0, 1) := by decide +kernel
theorem dX0_countEndings_60 : decode cX0_countEndings 60 = .ok (.iload_n 2, 1) := by decide +kernel
theorem dX0_countEndings_61 : decode cX0_countEndings 61 = .ok (.iconst 0, 1) := by decide +kernel
theorem dX0_countEndings_62 : decode cX0_countEndings 62 = .ok (.invokevirtual 38, 3) := by decide +kernel
theorem dX0_countEndings_65 : decode cX0_countEndings 65 = .ok (.iastore, 1) := by decide +kernel
theorem dX0_countEndings_66 : decode cX0_countEndings 66 = .ok (.iinc 2 1, 3) := by decide +kernel
theorem dX0_countEndings_69 : decode cX0_countEndings 69 = .ok (.goto (-31), 3) := by decide +kernel
theorem dX0_countEndings_72 : decode cX0_countEndings 72 = .ok (.iinc 1 (-1), 3) := by decide +kernel
theorem dX0_countEndings_75 : decode cX0_countEndings 75 = .ok (.goto (-43), 3) := by decide +kernel
theorem dX0_countEndings_78 : decode cX0_countEndings 78 = .ok (.return_, 1) := by decide +kernel
set_option maxRecDepth 20000 in
theorem ggX0_endingsFrom_X0_canFollow : GoodIn wsX0_endingsFrom wsX0_canFollow := goodIn_r _ [7, 8, 9, 10, 11, 12, 13, 14, 15] (by decide +kernel) (by decide +kernel)
set_option maxRecDepth 20000 in
theorem gX0_endingsFrom_X0_canFollow : GoodIn wsX0_endingsFrom (wsV RX0 43 RX0 yX0_canFollow wsX0_canFollow) := goodIn_app (goodIn_of _ (by decide +kernel)) ggX0_endingsFrom_X0_canFollow
theorem dX0_endingsFrom_0 : decode cX0_endingsFrom 0 = .ok (.iconst 0, 1) := by decide +kernel
theorem dX0_endingsFrom_1 : decode cX0_endingsFrom 1 = .ok (.istore_n 3, 1) := by decide +kernel
theorem dX0_endingsFrom_2 : decode cX0_endingsFrom 2 = .ok (.iload_n 2, 1) := by decide +kernel
theorem dX0_endingsFrom_3 : decode cX0_endingsFrom 3 = .ok (.istore 4, 2) := by decide +kernel
theorem dX0_endingsFrom_5 : decode cX0_endingsFrom 5 = .ok (.iload 4, 2) := by decide +kernel
theorem dX0_endingsFrom_7 : decode cX0_endingsFrom 7 = .ok (.aload_n 0, 1) := by decide +kernel
theorem dX0_endingsFrom_8 : decode cX0_endingsFrom 8 = .ok (.getfield 26, 3) := by decide +kernel
theorem dX0_endingsFrom_11 : decode cX0_endingsFrom 11 = .ok (.if_icmp .ge 29, 3) := by decide +kernel
theorem dX0_endingsFrom_14 : decode cX0_endingsFrom 14 = .ok (.aload_n 0, 1) := by decide +kernel
theorem dX0_endingsFrom_15 : decode cX0_endingsFrom 15 = .ok (.iload_n 1, 1) := by decide +kernel
theorem dX0_endingsFrom_16 : decode cX0_endingsFrom 16 = .ok (.iload 4, 2) := by decide +kernel
theorem dX0_endingsFrom_18 : decode cX0_endingsFrom 18 = .ok (.invokevirtual 43, 3) := by decide +kernel
theorem dX0_endingsFrom_21 : decode cX0_endingsFrom 21 = .ok (.ifCond .eq 13, 3) := by decide +kernel
theorem dX0_endingsFrom_24 : decode cX0_endingsFrom 24 = .ok (.iload_n 3, 1) := by decide +kernel
theorem dX0_endingsFrom_25 : decode cX0_endingsFrom 25 = .ok (.aload_n 0, 1) := by decide +kernel
theorem dX0_endingsFrom_26 : decode cX0_endingsFrom 26 = .ok (.getfield 9, 3) := by decide +kernel
theorem dX0_endingsFrom_29 : decode cX0_endingsFrom 29 = .ok (.iload 4, 2) := by decide +kernel
theorem dX0_endingsFrom_31 : decode cX0_endingsFrom 31 = .ok (.iaload, 1) := by decide +kernel
theorem dX0_endingsFrom_32 : decode cX0_endingsFrom 32 = .ok (.iadd, 1) := by decide +kernel
theorem dX0_endingsFrom_33 : decode cX0_endingsFrom 33 = .ok (.istore_n 3, 1) := by decide +kernel
theorem dX0_endingsFrom_34 : decode cX0_endingsFrom 34 = .ok (.iinc 4 1, 3) := by decide +kernel
theorem dX0_endingsFrom_37 : decode cX0_endingsFrom 37 = .ok (.goto (-32), 3) := by decide +kernel
theorem dX0_endingsFrom_40 : decode cX0_endingsFrom 40 = .ok (.iload_n 3, 1) := by decide +kernel
theorem dX0_endingsFrom_41 : decode cX0_endingsFrom 41 = .ok (.ireturn, 1) := by decide +kernel
theorem dX0_canFollow_0 : decode cX0_canFollow 0 = .ok (.iconst 0, 1) := by decide +kernel
theorem dX0_canFollow_1 : decode cX0_canFollow 1 = .ok (.istore_n 3, 1) := by decide +kernel
theorem dX0_canFollow_2 : decode cX0_canFollow 2 = .ok (.aload_n 0, 1) := by decide +kernel
theorem dX0_canFollow_3 : decode cX0_canFollow 3 = .ok (.getfield 22, 3) := by decide +kernel
theorem dX0_canFollow_6 : decode cX0_canFollow 6 = .ok (.iconst 1, 1) := by decide +kernel
theorem dX0_canFollow_7 : decode cX0_canFollow 7 = .ok (.isub, 1) := by decide +kernel
theorem dX0_canFollow_8 : decode cX0_canFollow 8 = .ok (.istore 4, 2) := by decide +kernel
theorem dX0_canFollow_10 : decode cX0_canFollow 10 = .ok (.iload 4, 2) := by decide +kernel
theorem dX0_canFollow_12 : decode cX0_canFollow 12 = .ok (.ifCond .lt 36, 3) := by decide +kernel
theorem dX0_canFollow_15 : decode cX0_canFollow 15 = .ok (.iload_n 3, 1) := by decide +kernel
theorem dX0_canFollow_16 : decode cX0_canFollow 16 = .ok (.iload_n 2, 1) := by decide +kernel
theorem dX0_canFollow_17 : decode cX0_canFollow 17 = .ok (.iload 4, 2) := by decide +kernel
theorem dX0_canFollow_19 : decode cX0_canFollow 19 = .ok (.ishr, 1) := by decide +kernel
theorem dX0_canFollow_20 : decode cX0_canFollow 20 = .ok (.iconst 1, 1) := by decide +kernel
theorem dX0_canFollow_21 : decode cX0_canFollow 21 = .ok (.iand, 1) := by decide +kernel
theorem dX0_canFollow_22 : decode cX0_canFollow 22 = .ok (.iload_n 1, 1) := by decide +kernel
theorem dX0_canFollow_23 : decode cX0_canFollow 23 = .ok (.iload 4, 2) := by decide +kernel
theorem dX0_canFollow_25 : decode cX0_canFollow 25 = .ok (.ishr, 1) := by decide +kernel
theorem dX0_canFollow_26 : decode cX0_canFollow 26 = .ok (.iconst 1, 1) := by decide +kernel
theorem dX0_canFollow_27 : decode cX0_canFollow 27 = .ok (.iand, 1) := by decide +kernel
theorem dX0_canFollow_28 : decode cX0_canFollow 28 = .ok (.isub, 1) := by decide +kernel
theorem dX0_canFollow_29 : decode cX0_canFollow 29 = .ok (.iadd, 1) := by decide +kernel
theorem dX0_canFollow_30 : decode cX0_canFollow 30 = .ok (.istore_n 3, 1) := by decide +kernel
theorem dX0_canFollow_31 : decode cX0_canFollow 31 = .ok (.iload_n 3, 1) := by decide +kernel
theorem dX0_canFollow_32 : decode cX0_canFollow 32 = .ok (.ifCond .lt 8, 3) := by decide +kernel
theorem dX0_canFollow_35 : decode cX0_canFollow 35 = .ok (.iload_n 3, 1) := by decide +kernel
theorem dX0_canFollow_36 : decode cX0_canFollow 36 = .ok (.iconst 1, 1) := by decide +kernel
theorem dX0_canFollow_37 : decode cX0_canFollow 37 = .ok (.if_icmp .le 5, 3) := by decide +kernel
theorem dX0_canFollow_40 : decode cX0_canFollow 40 = .ok (.iconst 0, 1) := by decide +kernel
theorem dX0_canFollow_41 : decode cX0_canFollow 41 = .ok (.ireturn, 1) := by decide +kernel
theorem dX0_canFollow_42 : decode cX0_canFollow 42 = .ok (.iinc 4 (-1), 3) := by decide +kernel
theorem dX0_canFollow_45 : decode cX0_canFollow 45 = .ok (.goto (-35), 3) := by decide +kernel
theorem dX0_canFollow_48 : decode cX0_canFollow 48 = .ok (.iload_n 3, 1) := by decide +kernel
theorem dX0_canFollow_49 : decode cX0_canFollow 49 = .ok (.iconst 1, 1) := by decide +kernel
theorem dX0_canFollow_50 : decode cX0_canFollow 50 = .ok (.if_icmp .ne 7, 3) := by decide +kernel
theorem dX0_canFollow_53 : decode cX0_canFollow 53 = .ok (.iconst 1, 1) := by decide +kernel
theorem dX0_canFollow_54 : decode cX0_canFollow 54 = .ok (.goto 4, 3) := by decide +kernel
theorem dX0_canFollow_57 : decode cX0_canFollow 57 = .ok (.iconst 0, 1) := by decide +kernel
theorem dX0_canFollow_58 : decode cX0_canFollow 58 = .ok (.ireturn, 1) := by decide +kernel
theorem dX1_init_0 : decode cX1_init 0 = .ok (.aload_n 0, 1) := by decide +kernel
theorem dX1_init_1 : decode cX1_init 1 = .ok (.invokespecial 3, 3) := by decide +kernel
theorem dX1_init_4 : decode cX1_init 4 = .ok (.aload_n 0, 1) := by decide +kernel
theorem dX1_init_5 : decode cX1_init 5 = .ok (.bipush 12, 2) := by decide +kernel
theorem dX1_init_7 : decode cX1_init 7 = .ok (.newarray .int, 2) := by decide +kernel
theorem dX1_init_9 : decode cX1_init 9 = .ok (.putfield 9, 3) := by decide +kernel
theorem dX1_init_12 : decode cX1_init 12 = .ok (.aload_n 0, 1) := by decide +kernel
theorem dX1_init_13 : decode cX1_init 13 = .ok (.bipush 12, 2) := by decide +kernel
theorem dX1_init_15 : decode cX1_init 15 = .ok (.newarray .int, 2) := by decide +kernel
theorem dX1_init_17 : decode cX1_init 17 = .ok (.putfield 15, 3) := by decide +kernel
theorem dX1_init_20 : decode cX1_init 20 = .ok (.aload_n 0, 1) := by decide +kernel
theorem dX1_init_21 : decode cX1_init 21 = .ok (.bipush 49, 2) := by decide +kernel
theorem dX1_init_23 : decode cX1_init 23 = .ok (.newarray .int, 2) := by decide +kernel
theorem dX1_init_25 : decode cX1_init 25 = .ok (.putfield 18, 3) := by decide +kernel
theorem dX1_init_28 : decode cX1_init 28 = .ok (.aload_n 0, 1) := by decide +kernel
theorem dX1_init_29 : decode cX1_init 29 = .ok (.bipush 24, 2) := by decide +kernel
theorem dX1_init_31 : decode cX1_init 31 = .ok (.newarray .int, 2) := by decide +kernel
theorem dX1_init_33 : decode cX1_init 33 = .ok (.putfield 21, 3) := by decide +kernel
theorem dX1_init_36 : decode cX1_init 36 = .ok (.return_, 1) := by decide +kernel
set_option maxRecDepth 20000 in
theorem ggX1_trace_X1_openPlaces : GoodIn wsX1_trace wsX1_openPlaces := goodIn_r _ [7, 2, 8, 9, 10, 11, 12, 13, 14, 15, 16, 17, 18, 19, 20, 21, 22, 23, 24, 25, 26, 27, 28, 29, 30, 85, 86, 87, 88, 89, 90, 91, 92, 93, 94, 95, 83, 84] (by decide +kernel) (by decide +kernel)
set_option maxRecDepth 20000 in
theorem gX1_trace_X1_openPlaces : GoodIn wsX1_trace (wsV RX1 31 RX1 yX1_openPlaces wsX1_openPlaces) := goodIn_app (goodIn_of _ (by decide +kernel)) ggX1_trace_X1_openPlaces
set_option maxRecDepth 20000 in
theorem ggX1_trace_X1_numberEnds : GoodIn wsX1_trace wsX1_numberEnds := goodIn_r _ [34, 35, 2, 36, 37, 38, 39, 6, 40, 41, 42, 43, 44, 45, 46, 47, 8, 85, 86, 87, 88, 89, 90, 91, 92, 93, 94, 95] (by decide +kernel) (by decide +kernel)
set_option maxRecDepth 20000 in
theorem gX1_trace_X1_numberEnds : GoodIn wsX1_trace (wsV RX1 35 RX1 yX1_numberEnds wsX1_numberEnds) := goodIn_app (goodIn_of _ (by decide +kernel)) ggX1_trace_X1_numberEnds
set_option maxRecDepth 20000 in
theorem ggX1_trace_X1_followLine : GoodIn wsX1_trace wsX1_followLine := goodIn_r _ [51, 36, 2, 37, 38, 39, 6, 40, 41, 42, 43, 44, 45, 46, 47, 8, 52, 53, 54, 55, 56, 57, 58, 59, 60, 61, 62, 63, 64, 65, 66, 67, 68, 69, 70, 71, 72, 85, 86, 87, 88, 89, 90, 91, 92, 93, 94, 95] (by decide +kernel) (by decide +kernel)
set_option maxRecDepth 20000 in
theorem gX1_trace_X1_followLine : GoodIn wsX1_trace (wsV RX1 38 RX1 yX1_followLine wsX1_followLine) := goodIn_app (goodIn_of _ (by decide +kernel)) ggX1_trace_X1_followLine
set_option maxRecDepth 20000 in
theorem ggX1_trace_X1_followRings : GoodIn wsX1_trace wsX1_followRings := goodIn_r _ [76, 77, 78, 2, 8, 79, 80, 81, 6, 82, 41, 42, 43, 44, 45, 46, 47, 52, 53, 54, 55, 56, 57, 58, 59, 60, 61, 62, 85, 86, 87, 88, 89, 90, 91, 92, 93, 94, 95] (by decide +kernel) (by decide +kernel)
set_option maxRecDepth 20000 in
theorem gX1_trace_X1_followRings : GoodIn wsX1_trace (wsV RX1 42 RX1 yX1_followRings wsX1_followRings) := goodIn_app (goodIn_of _ (by decide +kernel)) ggX1_trace_X1_followRings
theorem dX1_trace_0 : decode cX1_trace 0 = .ok (.aload_n 0, 1) := by decide +kernel
theorem dX1_trace_1 : decode cX1_trace 1 = .ok (.aload_n 1, 1) := by decide +kernel
theorem dX1_trace_2 : decode cX1_trace 2 = .ok (.getfield 24, 3) := by decide +kernel
theorem dX1_trace_5 : decode cX1_trace 5 = .ok (.putfield 30, 3) := by decide +kernel
theorem dX1_trace_8 : decode cX1_trace 8 = .ok (.aload_n 0, 1) := by decide +kernel
theorem dX1_trace_9 : decode cX1_trace 9 = .ok (.aload_n 1, 1) := by decide +kernel
theorem dX1_trace_10 : decode cX1_trace 10 = .ok (.invokevirtual 31, 3) := by decide +kernel
theorem dX1_trace_13 : decode cX1_trace 13 = .ok (.aload_n 0, 1) := by decide +kernel
theorem dX1_trace_14 : decode cX1_trace 14 = .ok (.invokevirtual 35, 3) := by decide +kernel
theorem dX1_trace_17 : decode cX1_trace 17 = .ok (.iconst 0, 1) := by decide +kernel
theorem dX1_trace_18 : decode cX1_trace 18 = .ok (.istore_n 2, 1) := by decide +kernel
theorem dX1_trace_19 : decode cX1_trace 19 = .ok (.iload_n 2, 1) := by decide +kernel
theorem dX1_trace_20 : decode cX1_trace 20 = .ok (.iconst 4, 1) := by decide +kernel
theorem dX1_trace_21 : decode cX1_trace 21 = .ok (.if_icmp .ge 31, 3) := by decide +kernel
theorem dX1_trace_24 : decode cX1_trace 24 = .ok (.iconst 0, 1) := by decide +kernel
theorem dX1_trace_25 : decode cX1_trace 25 = .ok (.istore_n 3, 1) := by decide +kernel
theorem dX1_trace_26 : decode cX1_trace 26 = .ok (.iload_n 3, 1) := by decide +kernel
theorem dX1_trace_27 : decode cX1_trace 27 = .ok (.aload_n 0, 1) := by decide +kernel
theorem dX1_trace_28 : decode cX1_trace 28 = .ok (.getfield 30, 3) := by decide +kernel
theorem dX1_trace_31 : decode cX1_trace 31 = .ok (.if_icmp .ge 15, 3) := by decide +kernel
theorem dX1_trace_34 : decode cX1_trace 34 = .ok (.aload_n 0, 1) := by decide +kernel
theorem dX1_trace_35 : decode cX1_trace 35 = .ok (.iload_n 2, 1) := by decide +kernel
theorem dX1_trace_36 : decode cX1_trace 36 = .ok (.iload_n 3, 1) := by decide +kernel
theorem dX1_trace_37 : decode cX1_trace 37 = .ok (.invokevirtual 38, 3) := by decide +kernel
theorem dX1_trace_40 : decode cX1_trace 40 = .ok (.iinc 3 1, 3) := by decide +kernel
theorem dX1_trace_43 : decode cX1_trace 43 = .ok (.goto (-17), 3) := by decide +kernel
theorem dX1_trace_46 : decode cX1_trace 46 = .ok (.iinc 2 1, 3) := by decide +kernel
theorem dX1_trace_49 : decode cX1_trace 49 = .ok (.goto (-30), 3) := by decide +kernel
theorem dX1_trace_52 : decode cX1_trace 52 = .ok (.aload_n 0, 1) := by decide +kernel
theorem dX1_trace_53 : decode cX1_trace 53 = .ok (.invokevirtual 42, 3) := by decide +kernel
theorem dX1_trace_56 : decode cX1_trace 56 = .ok (.return_, 1) := by decide +kernel
theorem dX1_partnersCode_0 : decode cX1_partnersCode 0 = .ok (.lconst 0, 1) := by decide +kernel
theorem dX1_partnersCode_1 : decode cX1_partnersCode 1 = .ok (.lstore_n 1, 1) := by decide +kernel
theorem dX1_partnersCode_2 : decode cX1_partnersCode 2 = .ok (.iconst 0, 1) := by decide +kernel
theorem dX1_partnersCode_3 : decode cX1_partnersCode 3 = .ok (.istore_n 3, 1) := by decide +kernel
theorem dX1_partnersCode_4 : decode cX1_partnersCode 4 = .ok (.iload_n 3, 1) := by decide +kernel
theorem dX1_partnersCode_5 : decode cX1_partnersCode 5 = .ok (.aload_n 0, 1) := by decide +kernel
theorem dX1_partnersCode_6 : decode cX1_partnersCode 6 = .ok (.getfield 45, 3) := by decide +kernel
theorem dX1_partnersCode_9 : decode cX1_partnersCode 9 = .ok (.if_icmp .ge 23, 3) := by decide +kernel
theorem dX1_partnersCode_12 : decode cX1_partnersCode 12 = .ok (.lload_n 1, 1) := by decide +kernel
theorem dX1_partnersCode_13 : decode cX1_partnersCode 13 = .ok (.ldc2_w 48, 3) := by decide +kernel
theorem dX1_partnersCode_16 : decode cX1_partnersCode 16 = .ok (.lmul, 1) := by decide +kernel
theorem dX1_partnersCode_17 : decode cX1_partnersCode 17 = .ok (.aload_n 0, 1) := by decide +kernel
theorem dX1_partnersCode_18 : decode cX1_partnersCode 18 = .ok (.getfield 9, 3) := by decide +kernel
theorem dX1_partnersCode_21 : decode cX1_partnersCode 21 = .ok (.iload_n 3, 1) := by decide +kernel
theorem dX1_partnersCode_22 : decode cX1_partnersCode 22 = .ok (.iaload, 1) := by decide +kernel
theorem dX1_partnersCode_23 : decode cX1_partnersCode 23 = .ok (.i2l, 1) := by decide +kernel
theorem dX1_partnersCode_24 : decode cX1_partnersCode 24 = .ok (.ladd, 1) := by decide +kernel
theorem dX1_partnersCode_25 : decode cX1_partnersCode 25 = .ok (.lstore_n 1, 1) := by decide +kernel
theorem dX1_partnersCode_26 : decode cX1_partnersCode 26 = .ok (.iinc 3 1, 3) := by decide +kernel
theorem dX1_partnersCode_29 : decode cX1_partnersCode 29 = .ok (.goto (-25), 3) := by decide +kernel
theorem dX1_partnersCode_32 : decode cX1_partnersCode 32 = .ok (.lload_n 1, 1) := by decide +kernel
theorem dX1_partnersCode_33 : decode cX1_partnersCode 33 = .ok (.lreturn, 1) := by decide +kernel
set_option maxRecDepth 20000 in
theorem ggX1_openPlaces_X3_isDrawnDown : GoodIn wsX1_openPlaces wsX3_isDrawnDown := goodIn_r _ [7, 8, 9, 10, 6, 11, 12, 13, 14, 15, 16, 36, 37] (by decide +kernel) (by decide +kernel)
set_option maxRecDepth 20000 in
theorem gX1_openPlaces_X3_isDrawnDown : GoodIn wsX1_openPlaces (wsV RX1 50 RX3 yX3_isDrawnDown wsX3_isDrawnDown) := goodIn_app (goodIn_of _ (by decide +kernel)) ggX1_openPlaces_X3_isDrawnDown
set_option maxRecDepth 20000 in
theorem ggX1_openPlaces_X3_isDrawnAcross : GoodIn wsX1_openPlaces wsX3_isDrawnAcross := goodIn_r _ [20, 21, 22, 23, 6, 24, 12, 13, 14, 15, 16, 36, 37] (by decide +kernel) (by decide +kernel)
set_option maxRecDepth 20000 in
theorem gX1_openPlaces_X3_isDrawnAcross : GoodIn wsX1_openPlaces (wsV RX1 54 RX3 yX3_isDrawnAcross wsX3_isDrawnAcross) := goodIn_app (goodIn_of _ (by decide +kernel)) ggX1_openPlaces_X3_isDrawnAcross
theorem dX1_openPlaces_0 : decode cX1_openPlaces 0 = .ok (.iconst 1, 1) := by decide +kernel
theorem dX1_openPlaces_1 : decode cX1_openPlaces 1 = .ok (.istore_n 2, 1) := by decide +kernel
theorem dX1_openPlaces_2 : decode cX1_openPlaces 2 = .ok (.iload_n 2, 1) := by decide +kernel
theorem dX1_openPlaces_3 : decode cX1_openPlaces 3 = .ok (.aload_n 0, 1) := by decide +kernel
theorem dX1_openPlaces_4 : decode cX1_openPlaces 4 = .ok (.getfield 30, 3) := by decide +kernel
theorem dX1_openPlaces_7 : decode cX1_openPlaces 7 = .ok (.if_icmp .gt 122, 3) := by decide +kernel
theorem dX1_openPlaces_10 : decode cX1_openPlaces 10 = .ok (.iconst 1, 1) := by decide +kernel
theorem dX1_openPlaces_11 : decode cX1_openPlaces 11 = .ok (.istore_n 3, 1) := by decide +kernel
theorem dX1_openPlaces_12 : decode cX1_openPlaces 12 = .ok (.iload_n 3, 1) := by decide +kernel
theorem dX1_openPlaces_13 : decode cX1_openPlaces 13 = .ok (.aload_n 0, 1) := by decide +kernel
theorem dX1_openPlaces_14 : decode cX1_openPlaces 14 = .ok (.getfield 30, 3) := by decide +kernel
theorem dX1_openPlaces_17 : decode cX1_openPlaces 17 = .ok (.if_icmp .gt 106, 3) := by decide +kernel
theorem dX1_openPlaces_20 : decode cX1_openPlaces 20 = .ok (.iconst 0, 1) := by decide +kernel
theorem dX1_openPlaces_21 : decode cX1_openPlaces 21 = .ok (.istore 4, 2) := by decide +kernel
theorem dX1_openPlaces_23 : decode cX1_openPlaces 23 = .ok (.iload 4, 2) := by decide +kernel
theorem dX1_openPlaces_25 : decode cX1_openPlaces 25 = .ok (.aload_n 1, 1) := by decide +kernel
theorem dX1_openPlaces_26 : decode cX1_openPlaces 26 = .ok (.iload_n 2, 1) := by decide +kernel
theorem dX1_openPlaces_27 : decode cX1_openPlaces 27 = .ok (.iconst 1, 1) := by decide +kernel
theorem dX1_openPlaces_28 : decode cX1_openPlaces 28 = .ok (.isub, 1) := by decide +kernel
theorem dX1_openPlaces_29 : decode cX1_openPlaces 29 = .ok (.iload_n 3, 1) := by decide +kernel
theorem dX1_openPlaces_30 : decode cX1_openPlaces 30 = .ok (.invokevirtual 50, 3) := by decide +kernel
theorem dX1_openPlaces_33 : decode cX1_openPlaces 33 = .ok (.ifCond .eq 7, 3) := by decide +kernel
theorem dX1_openPlaces_36 : decode cX1_openPlaces 36 = .ok (.iconst 1, 1) := by decide +kernel
theorem dX1_openPlaces_37 : decode cX1_openPlaces 37 = .ok (.goto 4, 3) := by decide +kernel
theorem dX1_openPlaces_40 : decode cX1_openPlaces 40 = .ok (.iconst 0, 1) := by decide +kernel
theorem dX1_openPlaces_41 : decode cX1_openPlaces 41 = .ok (.ior, 1) := by decide +kernel
theorem dX1_openPlaces_42 : decode cX1_openPlaces 42 = .ok (.istore 4, 2) := by decide +kernel
theorem dX1_openPlaces_44 : decode cX1_openPlaces 44 = .ok (.iload 4, 2) := by decide +kernel
theorem dX1_openPlaces_46 : decode cX1_openPlaces 46 = .ok (.aload_n 1, 1) := by decide +kernel
theorem dX1_openPlaces_47 : decode cX1_openPlaces 47 = .ok (.iload_n 2, 1) := by decide +kernel
theorem dX1_openPlaces_48 : decode cX1_openPlaces 48 = .ok (.iload_n 3, 1) := by decide +kernel
theorem dX1_openPlaces_49 : decode cX1_openPlaces 49 = .ok (.invokevirtual 54, 3) := by decide +kernel
theorem dX1_openPlaces_52 : decode cX1_openPlaces 52 = .ok (.ifCond .eq 7, 3) := by decide +kernel
theorem dX1_openPlaces_55 : decode cX1_openPlaces 55 = .ok (.iconst 2, 1) := by decide +kernel
theorem dX1_openPlaces_56 : decode cX1_openPlaces 56 = .ok (.goto 4, 3) := by decide +kernel
theorem dX1_openPlaces_59 : decode cX1_openPlaces 59 = .ok (.iconst 0, 1) := by decide +kernel
theorem dX1_openPlaces_60 : decode cX1_openPlaces 60 = .ok (.ior, 1) := by decide +kernel
theorem dX1_openPlaces_61 : decode cX1_openPlaces 61 = .ok (.istore 4, 2) := by decide +kernel
theorem dX1_openPlaces_63 : decode cX1_openPlaces 63 = .ok (.iload 4, 2) := by decide +kernel
theorem dX1_openPlaces_65 : decode cX1_openPlaces 65 = .ok (.aload_n 1, 1) := by decide +kernel
theorem dX1_openPlaces_66 : decode cX1_openPlaces 66 = .ok (.iload_n 2, 1) := by decide +kernel
theorem dX1_openPlaces_67 : decode cX1_openPlaces 67 = .ok (.iload_n 3, 1) := by decide +kernel
theorem dX1_openPlaces_68 : decode cX1_openPlaces 68 = .ok (.invokevirtual 50, 3) := by decide +kernel
theorem dX1_openPlaces_71 : decode cX1_openPlaces 71 = .ok (.ifCond .eq 7, 3) := by decide +kernel
theorem dX1_openPlaces_74 : decode cX1_openPlaces 74 = .ok (.iconst 4, 1) := by decide +kernel
theorem dX1_openPlaces_75 : decode cX1_openPlaces 75 = .ok (.goto 4, 3) := by decide +kernel
theorem dX1_openPlaces_78 : decode cX1_openPlaces 78 = .ok (.iconst 0, 1) := by decide +kernel
theorem dX1_openPlaces_79 : decode cX1_openPlaces 79 = .ok (.ior, 1) := by decide +kernel
theorem dX1_openPlaces_80 : decode cX1_openPlaces 80 = .ok (.istore 4, 2) := by decide +kernel
theorem dX1_openPlaces_82 : decode cX1_openPlaces 82 = .ok (.iload 4, 2) := by decide +kernel
theorem dX1_openPlaces_84 : decode cX1_openPlaces 84 = .ok (.aload_n 1, 1) := by decide +kernel
theorem dX1_openPlaces_85 : decode cX1_openPlaces 85 = .ok (.iload_n 2, 1) := by decide +kernel
theorem dX1_openPlaces_86 : decode cX1_openPlaces 86 = .ok (.iload_n 3, 1) := by decide +kernel
theorem dX1_openPlaces_87 : decode cX1_openPlaces 87 = .ok (.iconst 1, 1) := by decide +kernel
theorem dX1_openPlaces_88 : decode cX1_openPlaces 88 = .ok (.isub, 1) := by decide +kernel
theorem dX1_openPlaces_89 : decode cX1_openPlaces 89 = .ok (.invokevirtual 54, 3) := by decide +kernel
theorem dX1_openPlaces_92 : decode cX1_openPlaces 92 = .ok (.ifCond .eq 8, 3) := by decide +kernel
theorem dX1_openPlaces_95 : decode cX1_openPlaces 95 = .ok (.bipush 8, 2) := by decide +kernel
theorem dX1_openPlaces_97 : decode cX1_openPlaces 97 = .ok (.goto 4, 3) := by decide +kernel
theorem dX1_openPlaces_100 : decode cX1_openPlaces 100 = .ok (.iconst 0, 1) := by decide +kernel
theorem dX1_openPlaces_101 : decode cX1_openPlaces 101 = .ok (.ior, 1) := by decide +kernel
theorem dX1_openPlaces_102 : decode cX1_openPlaces 102 = .ok (.istore 4, 2) := by decide +kernel
theorem dX1_openPlaces_104 : decode cX1_openPlaces 104 = .ok (.aload_n 0, 1) := by decide +kernel
theorem dX1_openPlaces_105 : decode cX1_openPlaces 105 = .ok (.getfield 18, 3) := by decide +kernel
theorem dX1_openPlaces_108 : decode cX1_openPlaces 108 = .ok (.iload_n 2, 1) := by decide +kernel
theorem dX1_openPlaces_109 : decode cX1_openPlaces 109 = .ok (.bipush 7, 2) := by decide +kernel
theorem dX1_openPlaces_111 : decode cX1_openPlaces 111 = .ok (.imul, 1) := by decide +kernel
theorem dX1_openPlaces_112 : decode cX1_openPlaces 112 = .ok (.iload_n 3, 1) := by decide +kernel
theorem dX1_openPlaces_113 : decode cX1_openPlaces 113 = .ok (.iadd, 1) := by decide +kernel
theorem dX1_openPlaces_114 : decode cX1_openPlaces 114 = .ok (.iload 4, 2) := by decide +kernel
theorem dX1_openPlaces_116 : decode cX1_openPlaces 116 = .ok (.iastore, 1) := by decide +kernel
theorem dX1_openPlaces_117 : decode cX1_openPlaces 117 = .ok (.iinc 3 1, 3) := by decide +kernel
theorem dX1_openPlaces_120 : decode cX1_openPlaces 120 = .ok (.goto (-108), 3) := by decide +kernel
theorem dX1_openPlaces_123 : decode cX1_openPlaces 123 = .ok (.iinc 2 1, 3) := by decide +kernel
theorem dX1_openPlaces_126 : decode cX1_openPlaces 126 = .ok (.goto (-124), 3) := by decide +kernel
theorem dX1_openPlaces_129 : decode cX1_openPlaces 129 = .ok (.return_, 1) := by decide +kernel
set_option maxRecDepth 20000 in
theorem ggX1_numberEnds_X1_standAtRim : GoodIn wsX1_numberEnds wsX1_standAtRim := goodIn_r _ [8, 2, 9, 10, 11, 17, 18, 19, 20, 21, 22, 23, 24, 25, 26, 27] (by decide +kernel) (by decide +kernel)
set_option maxRecDepth 20000 in
theorem gX1_numberEnds_X1_standAtRim : GoodIn wsX1_numberEnds (wsV RX1 57 RX1 yX1_standAtRim wsX1_standAtRim) := goodIn_app (goodIn_of _ (by decide +kernel)) ggX1_numberEnds_X1_standAtRim
set_option maxRecDepth 20000 in
theorem ggX1_numberEnds_X1_isOpen : GoodIn wsX1_numberEnds wsX1_isOpen := goodIn_r _ [15, 16, 9, 10, 17, 18, 19, 20, 21, 22, 23, 24, 25, 26, 27] (by decide +kernel) (by decide +kernel)
set_option maxRecDepth 20000 in
theorem gX1_numberEnds_X1_isOpen : GoodIn wsX1_numberEnds (wsV RX1 60 RX1 yX1_isOpen wsX1_isOpen) := goodIn_app (goodIn_of _ (by decide +kernel)) ggX1_numberEnds_X1_isOpen
theorem dX1_numberEnds_0 : decode cX1_numberEnds 0 = .ok (.aload_n 0, 1) := by decide +kernel
theorem dX1_numberEnds_1 : decode cX1_numberEnds 1 = .ok (.iconst 0, 1) := by decide +kernel
theorem dX1_numberEnds_2 : decode cX1_numberEnds 2 = .ok (.putfield 45, 3) := by decide +kernel
theorem dX1_numberEnds_5 : decode cX1_numberEnds 5 = .ok (.iconst 0, 1) := by decide +kernel
theorem dX1_numberEnds_6 : decode cX1_numberEnds 6 = .ok (.istore_n 1, 1) := by decide +kernel
theorem dX1_numberEnds_7 : decode cX1_numberEnds 7 = .ok (.iload_n 1, 1) := by decide +kernel
theorem dX1_numberEnds_8 : decode cX1_numberEnds 8 = .ok (.iconst 4, 1) := by decide +kernel
theorem dX1_numberEnds_9 : decode cX1_numberEnds 9 = .ok (.if_icmp .ge 94, 3) := by decide +kernel
theorem dX1_numberEnds_12 : decode cX1_numberEnds 12 = .ok (.iconst 0, 1) := by decide +kernel
theorem dX1_numberEnds_13 : decode cX1_numberEnds 13 = .ok (.istore_n 2, 1) := by decide +kernel
theorem dX1_numberEnds_14 : decode cX1_numberEnds 14 = .ok (.iload_n 2, 1) := by decide +kernel
theorem dX1_numberEnds_15 : decode cX1_numberEnds 15 = .ok (.aload_n 0, 1) := by decide +kernel
theorem dX1_numberEnds_16 : decode cX1_numberEnds 16 = .ok (.getfield 30, 3) := by decide +kernel
theorem dX1_numberEnds_19 : decode cX1_numberEnds 19 = .ok (.if_icmp .ge 78, 3) := by decide +kernel
theorem dX1_numberEnds_22 : decode cX1_numberEnds 22 = .ok (.aload_n 0, 1) := by decide +kernel
theorem dX1_numberEnds_23 : decode cX1_numberEnds 23 = .ok (.iload_n 1, 1) := by decide +kernel
theorem dX1_numberEnds_24 : decode cX1_numberEnds 24 = .ok (.iload_n 2, 1) := by decide +kernel
theorem dX1_numberEnds_25 : decode cX1_numberEnds 25 = .ok (.invokevirtual 57, 3) := by decide +kernel
theorem dX1_numberEnds_28 : decode cX1_numberEnds 28 = .ok (.aload_n 0, 1) := by decide +kernel
theorem dX1_numberEnds_29 : decode cX1_numberEnds 29 = .ok (.iload_n 1, 1) := by decide +kernel
theorem dX1_numberEnds_30 : decode cX1_numberEnds 30 = .ok (.invokevirtual 60, 3) := by decide +kernel
theorem dX1_numberEnds_33 : decode cX1_numberEnds 33 = .ok (.ifCond .eq 16, 3) := by decide +kernel
theorem dX1_numberEnds_36 : decode cX1_numberEnds 36 = .ok (.aload_n 0, 1) := by decide +kernel
theorem dX1_numberEnds_37 : decode cX1_numberEnds 37 = .ok (.getfield 45, 3) := by decide +kernel
theorem dX1_numberEnds_40 : decode cX1_numberEnds 40 = .ok (.bipush 12, 2) := by decide +kernel
theorem dX1_numberEnds_42 : decode cX1_numberEnds 42 = .ok (.if_icmp .ge 7, 3) := by decide +kernel
theorem dX1_numberEnds_45 : decode cX1_numberEnds 45 = .ok (.iconst 1, 1) := by decide +kernel
theorem dX1_numberEnds_46 : decode cX1_numberEnds 46 = .ok (.goto 4, 3) := by decide +kernel
theorem dX1_numberEnds_49 : decode cX1_numberEnds 49 = .ok (.iconst 0, 1) := by decide +kernel
theorem dX1_numberEnds_50 : decode cX1_numberEnds 50 = .ok (.istore_n 3, 1) := by decide +kernel
theorem dX1_numberEnds_51 : decode cX1_numberEnds 51 = .ok (.aload_n 0, 1) := by decide +kernel
theorem dX1_numberEnds_52 : decode cX1_numberEnds 52 = .ok (.getfield 21, 3) := by decide +kernel
theorem dX1_numberEnds_55 : decode cX1_numberEnds 55 = .ok (.iload_n 1, 1) := by decide +kernel
theorem dX1_numberEnds_56 : decode cX1_numberEnds 56 = .ok (.aload_n 0, 1) := by decide +kernel
theorem dX1_numberEnds_57 : decode cX1_numberEnds 57 = .ok (.getfield 30, 3) := by decide +kernel
theorem dX1_numberEnds_60 : decode cX1_numberEnds 60 = .ok (.imul, 1) := by decide +kernel
theorem dX1_numberEnds_61 : decode cX1_numberEnds 61 = .ok (.iload_n 2, 1) := by decide +kernel
theorem dX1_numberEnds_62 : decode cX1_numberEnds 62 = .ok (.iadd, 1) := by decide +kernel
theorem dX1_numberEnds_63 : decode cX1_numberEnds 63 = .ok (.iload_n 3, 1) := by decide +kernel
theorem dX1_numberEnds_64 : decode cX1_numberEnds 64 = .ok (.ifCond .eq 10, 3) := by decide +kernel
theorem dX1_numberEnds_67 : decode cX1_numberEnds 67 = .ok (.aload_n 0, 1) := by decide +kernel
theorem dX1_numberEnds_68 : decode cX1_numberEnds 68 = .ok (.getfield 45, 3) := by decide +kernel
theorem dX1_numberEnds_71 : decode cX1_numberEnds 71 = .ok (.goto 5, 3) := by decide +kernel
theorem dX1_numberEnds_74 : decode cX1_numberEnds 74 = .ok (.bipush (-4), 2) := by decide +kernel
theorem dX1_numberEnds_76 : decode cX1_numberEnds 76 = .ok (.iastore, 1) := by decide +kernel
theorem dX1_numberEnds_77 : decode cX1_numberEnds 77 = .ok (.iload_n 3, 1) := by decide +kernel
theorem dX1_numberEnds_78 : decode cX1_numberEnds 78 = .ok (.ifCond .eq 13, 3) := by decide +kernel
theorem dX1_numberEnds_81 : decode cX1_numberEnds 81 = .ok (.aload_n 0, 1) := by decide +kernel
theorem dX1_numberEnds_82 : decode cX1_numberEnds 82 = .ok (.dup, 1) := by decide +kernel
theorem dX1_numberEnds_83 : decode cX1_numberEnds 83 = .ok (.getfield 45, 3) := by decide +kernel
theorem dX1_numberEnds_86 : decode cX1_numberEnds 86 = .ok (.iconst 1, 1) := by decide +kernel
theorem dX1_numberEnds_87 : decode cX1_numberEnds 87 = .ok (.iadd, 1) := by decide +kernel
theorem dX1_numberEnds_88 : decode cX1_numberEnds 88 = .ok (.putfield 45, 3) := by decide +kernel
theorem dX1_numberEnds_91 : decode cX1_numberEnds 91 = .ok (.iinc 2 1, 3) := by decide +kernel
theorem dX1_numberEnds_94 : decode cX1_numberEnds 94 = .ok (.goto (-80), 3) := by decide +kernel
theorem dX1_numberEnds_97 : decode cX1_numberEnds 97 = .ok (.iinc 1 1, 3) := by decide +kernel
theorem dX1_numberEnds_100 : decode cX1_numberEnds 100 = .ok (.goto (-93), 3) := by decide +kernel
theorem dX1_numberEnds_103 : decode cX1_numberEnds 103 = .ok (.return_, 1) := by decide +kernel
theorem dX1_standAtRim_0 : decode cX1_standAtRim 0 = .ok (.aload_n 0, 1) := by decide +kernel
theorem dX1_standAtRim_1 : decode cX1_standAtRim 1 = .ok (.getfield 30, 3) := by decide +kernel
theorem dX1_standAtRim_4 : decode cX1_standAtRim 4 = .ok (.iload_n 2, 1) := by decide +kernel
theorem dX1_standAtRim_5 : decode cX1_standAtRim 5 = .ok (.isub, 1) := by decide +kernel
theorem dX1_standAtRim_6 : decode cX1_standAtRim 6 = .ok (.istore_n 3, 1) := by decide +kernel
theorem dX1_standAtRim_7 : decode cX1_standAtRim 7 = .ok (.aload_n 0, 1) := by decide +kernel
theorem dX1_standAtRim_8 : decode cX1_standAtRim 8 = .ok (.iload_n 1, 1) := by decide +kernel
theorem dX1_standAtRim_9 : decode cX1_standAtRim 9 = .ok (.ifCond .ne 7, 3) := by decide +kernel
theorem dX1_standAtRim_12 : decode cX1_standAtRim 12 = .ok (.iconst 1, 1) := by decide +kernel
theorem dX1_standAtRim_13 : decode cX1_standAtRim 13 = .ok (.goto 27, 3) := by decide +kernel
theorem dX1_standAtRim_16 : decode cX1_standAtRim 16 = .ok (.iload_n 1, 1) := by decide +kernel
theorem dX1_standAtRim_17 : decode cX1_standAtRim 17 = .ok (.iconst 1, 1) := by decide +kernel
theorem dX1_standAtRim_18 : decode cX1_standAtRim 18 = .ok (.if_icmp .ne 9, 3) := by decide +kernel
theorem dX1_standAtRim_21 : decode cX1_standAtRim 21 = .ok (.iload_n 2, 1) := by decide +kernel
theorem dX1_standAtRim_22 : decode cX1_standAtRim 22 = .ok (.iconst 1, 1) := by decide +kernel
theorem dX1_standAtRim_23 : decode cX1_standAtRim 23 = .ok (.iadd, 1) := by decide +kernel
theorem dX1_standAtRim_24 : decode cX1_standAtRim 24 = .ok (.goto 16, 3) := by decide +kernel
theorem dX1_standAtRim_27 : decode cX1_standAtRim 27 = .ok (.iload_n 1, 1) := by decide +kernel
theorem dX1_standAtRim_28 : decode cX1_standAtRim 28 = .ok (.iconst 2, 1) := by decide +kernel
theorem dX1_standAtRim_29 : decode cX1_standAtRim 29 = .ok (.if_icmp .ne 10, 3) := by decide +kernel
theorem dX1_standAtRim_32 : decode cX1_standAtRim 32 = .ok (.aload_n 0, 1) := by decide +kernel
theorem dX1_standAtRim_33 : decode cX1_standAtRim 33 = .ok (.getfield 30, 3) := by decide +kernel
theorem dX1_standAtRim_36 : decode cX1_standAtRim 36 = .ok (.goto 4, 3) := by decide +kernel
theorem dX1_standAtRim_39 : decode cX1_standAtRim 39 = .ok (.iload_n 3, 1) := by decide +kernel
theorem dX1_standAtRim_40 : decode cX1_standAtRim 40 = .ok (.putfield 64, 3) := by decide +kernel
theorem dX1_standAtRim_43 : decode cX1_standAtRim 43 = .ok (.aload_n 0, 1) := by decide +kernel
theorem dX1_standAtRim_44 : decode cX1_standAtRim 44 = .ok (.iload_n 1, 1) := by decide +kernel
theorem dX1_standAtRim_45 : decode cX1_standAtRim 45 = .ok (.ifCond .ne 9, 3) := by decide +kernel
theorem dX1_standAtRim_48 : decode cX1_standAtRim 48 = .ok (.iload_n 2, 1) := by decide +kernel
theorem dX1_standAtRim_49 : decode cX1_standAtRim 49 = .ok (.iconst 1, 1) := by decide +kernel
theorem dX1_standAtRim_50 : decode cX1_standAtRim 50 = .ok (.iadd, 1) := by decide +kernel
theorem dX1_standAtRim_51 : decode cX1_standAtRim 51 = .ok (.goto 25, 3) := by decide +kernel
theorem dX1_standAtRim_54 : decode cX1_standAtRim 54 = .ok (.iload_n 1, 1) := by decide +kernel
theorem dX1_standAtRim_55 : decode cX1_standAtRim 55 = .ok (.iconst 1, 1) := by decide +kernel
theorem dX1_standAtRim_56 : decode cX1_standAtRim 56 = .ok (.if_icmp .ne 10, 3) := by decide +kernel
theorem dX1_standAtRim_59 : decode cX1_standAtRim 59 = .ok (.aload_n 0, 1) := by decide +kernel
theorem dX1_standAtRim_60 : decode cX1_standAtRim 60 = .ok (.getfield 30, 3) := by decide +kernel
theorem dX1_standAtRim_63 : decode cX1_standAtRim 63 = .ok (.goto 13, 3) := by decide +kernel
theorem dX1_standAtRim_66 : decode cX1_standAtRim 66 = .ok (.iload_n 1, 1) := by decide +kernel
theorem dX1_standAtRim_67 : decode cX1_standAtRim 67 = .ok (.iconst 2, 1) := by decide +kernel
theorem dX1_standAtRim_68 : decode cX1_standAtRim 68 = .ok (.if_icmp .ne 7, 3) := by decide +kernel
theorem dX1_standAtRim_71 : decode cX1_standAtRim 71 = .ok (.iload_n 3, 1) := by decide +kernel
theorem dX1_standAtRim_72 : decode cX1_standAtRim 72 = .ok (.goto 4, 3) := by decide +kernel
theorem dX1_standAtRim_75 : decode cX1_standAtRim 75 = .ok (.iconst 1, 1) := by decide +kernel
theorem dX1_standAtRim_76 : decode cX1_standAtRim 76 = .ok (.putfield 67, 3) := by decide +kernel
theorem dX1_standAtRim_79 : decode cX1_standAtRim 79 = .ok (.aload_n 0, 1) := by decide +kernel
theorem dX1_standAtRim_80 : decode cX1_standAtRim 80 = .ok (.iload_n 1, 1) := by decide +kernel
theorem dX1_standAtRim_81 : decode cX1_standAtRim 81 = .ok (.putfield 70, 3) := by decide +kernel
theorem dX1_standAtRim_84 : decode cX1_standAtRim 84 = .ok (.return_, 1) := by decide +kernel
theorem dX1_rimPassed_0 : decode cX1_rimPassed 0 = .ok (.aload_n 0, 1) := by decide +kernel
theorem dX1_rimPassed_1 : decode cX1_rimPassed 1 = .ok (.getfield 64, 3) := by decide +kernel
theorem dX1_rimPassed_4 : decode cX1_rimPassed 4 = .ok (.iconst 1, 1) := by decide +kernel
theorem dX1_rimPassed_5 : decode cX1_rimPassed 5 = .ok (.if_icmp .ge 17, 3) := by decide +kernel
theorem dX1_rimPassed_8 : decode cX1_rimPassed 8 = .ok (.iconst 0, 1) := by decide +kernel
theorem dX1_rimPassed_9 : decode cX1_rimPassed 9 = .ok (.aload_n 0, 1) := by decide +kernel
theorem dX1_rimPassed_10 : decode cX1_rimPassed 10 = .ok (.getfield 30, 3) := by decide +kernel
theorem dX1_rimPassed_13 : decode cX1_rimPassed 13 = .ok (.imul, 1) := by decide +kernel
theorem dX1_rimPassed_14 : decode cX1_rimPassed 14 = .ok (.aload_n 0, 1) := by decide +kernel
theorem dX1_rimPassed_15 : decode cX1_rimPassed 15 = .ok (.getfield 67, 3) := by decide +kernel
theorem dX1_rimPassed_18 : decode cX1_rimPassed 18 = .ok (.iadd, 1) := by decide +kernel
theorem dX1_rimPassed_19 : decode cX1_rimPassed 19 = .ok (.iconst 1, 1) := by decide +kernel
theorem dX1_rimPassed_20 : decode cX1_rimPassed 20 = .ok (.isub, 1) := by decide +kernel
theorem dX1_rimPassed_21 : decode cX1_rimPassed 21 = .ok (.ireturn, 1) := by decide +kernel
theorem dX1_rimPassed_22 : decode cX1_rimPassed 22 = .ok (.aload_n 0, 1) := by decide +kernel
theorem dX1_rimPassed_23 : decode cX1_rimPassed 23 = .ok (.getfield 67, 3) := by decide +kernel
theorem dX1_rimPassed_26 : decode cX1_rimPassed 26 = .ok (.aload_n 0, 1) := by decide +kernel
theorem dX1_rimPassed_27 : decode cX1_rimPassed 27 = .ok (.getfield 30, 3) := by decide +kernel
theorem dX1_rimPassed_30 : decode cX1_rimPassed 30 = .ok (.if_icmp .le 17, 3) := by decide +kernel
theorem dX1_rimPassed_33 : decode cX1_rimPassed 33 = .ok (.iconst 1, 1) := by decide +kernel
theorem dX1_rimPassed_34 : decode cX1_rimPassed 34 = .ok (.aload_n 0, 1) := by decide +kernel
theorem dX1_rimPassed_35 : decode cX1_rimPassed 35 = .ok (.getfield 30, 3) := by decide +kernel
theorem dX1_rimPassed_38 : decode cX1_rimPassed 38 = .ok (.imul, 1) := by decide +kernel
theorem dX1_rimPassed_39 : decode cX1_rimPassed 39 = .ok (.aload_n 0, 1) := by decide +kernel
theorem dX1_rimPassed_40 : decode cX1_rimPassed 40 = .ok (.getfield 64, 3) := by decide +kernel
theorem dX1_rimPassed_43 : decode cX1_rimPassed 43 = .ok (.iadd, 1) := by decide +kernel
theorem dX1_rimPassed_44 : decode cX1_rimPassed 44 = .ok (.iconst 1, 1) := by decide +kernel
theorem dX1_rimPassed_45 : decode cX1_rimPassed 45 = .ok (.isub, 1) := by decide +kernel
theorem dX1_rimPassed_46 : decode cX1_rimPassed 46 = .ok (.ireturn, 1) := by decide +kernel
theorem dX1_rimPassed_47 : decode cX1_rimPassed 47 = .ok (.aload_n 0, 1) := by decide +kernel
theorem dX1_rimPassed_48 : decode cX1_rimPassed 48 = .ok (.getfield 64, 3) := by decide +kernel
theorem dX1_rimPassed_51 : decode cX1_rimPassed 51 = .ok (.aload_n 0, 1) := by decide +kernel
theorem dX1_rimPassed_52 : decode cX1_rimPassed 52 = .ok (.getfield 30, 3) := by decide +kernel
theorem dX1_rimPassed_55 : decode cX1_rimPassed 55 = .ok (.if_icmp .le 20, 3) := by decide +kernel
theorem dX1_rimPassed_58 : decode cX1_rimPassed 58 = .ok (.iconst 2, 1) := by decide +kernel
theorem dX1_rimPassed_59 : decode cX1_rimPassed 59 = .ok (.aload_n 0, 1) := by decide +kernel
theorem dX1_rimPassed_60 : decode cX1_rimPassed 60 = .ok (.getfield 30, 3) := by decide +kernel
theorem dX1_rimPassed_63 : decode cX1_rimPassed 63 = .ok (.imul, 1) := by decide +kernel
theorem dX1_rimPassed_64 : decode cX1_rimPassed 64 = .ok (.aload_n 0, 1) := by decide +kernel
theorem dX1_rimPassed_65 : decode cX1_rimPassed 65 = .ok (.getfield 30, 3) := by decide +kernel
theorem dX1_rimPassed_68 : decode cX1_rimPassed 68 = .ok (.iadd, 1) := by decide +kernel
theorem dX1_rimPassed_69 : decode cX1_rimPassed 69 = .ok (.aload_n 0, 1) := by decide +kernel
theorem dX1_rimPassed_70 : decode cX1_rimPassed 70 = .ok (.getfield 67, 3) := by decide +kernel
theorem dX1_rimPassed_73 : decode cX1_rimPassed 73 = .ok (.isub, 1) := by decide +kernel
theorem dX1_rimPassed_74 : decode cX1_rimPassed 74 = .ok (.ireturn, 1) := by decide +kernel
theorem dX1_rimPassed_75 : decode cX1_rimPassed 75 = .ok (.iconst 3, 1) := by decide +kernel
theorem dX1_rimPassed_76 : decode cX1_rimPassed 76 = .ok (.aload_n 0, 1) := by decide +kernel
theorem dX1_rimPassed_77 : decode cX1_rimPassed 77 = .ok (.getfield 30, 3) := by decide +kernel
theorem dX1_rimPassed_80 : decode cX1_rimPassed 80 = .ok (.imul, 1) := by decide +kernel
theorem dX1_rimPassed_81 : decode cX1_rimPassed 81 = .ok (.aload_n 0, 1) := by decide +kernel
theorem dX1_rimPassed_82 : decode cX1_rimPassed 82 = .ok (.getfield 30, 3) := by decide +kernel
theorem dX1_rimPassed_85 : decode cX1_rimPassed 85 = .ok (.iadd, 1) := by decide +kernel
theorem dX1_rimPassed_86 : decode cX1_rimPassed 86 = .ok (.aload_n 0, 1) := by decide +kernel
theorem dX1_rimPassed_87 : decode cX1_rimPassed 87 = .ok (.getfield 64, 3) := by decide +kernel
theorem dX1_rimPassed_90 : decode cX1_rimPassed 90 = .ok (.isub, 1) := by decide +kernel
theorem dX1_rimPassed_91 : decode cX1_rimPassed 91 = .ok (.ireturn, 1) := by decide +kernel
set_option maxRecDepth 20000 in
theorem ggX1_isInside_X5_isBetween : GoodIn wsX1_isInside wsX5_isBetween := goodIn_r _ [6] (by decide +kernel) (by decide +kernel)
set_option maxRecDepth 20000 in
theorem gX1_isInside_X5_isBetween_n73 : GoodIn wsX1_isInside (wsX5_isBetween) := ggX1_isInside_X5_isBetween
theorem dX1_isInside_0 : decode cX1_isInside 0 = .ok (.aload_n 0, 1) := by decide +kernel
theorem dX1_isInside_1 : decode cX1_isInside 1 = .ok (.getfield 64, 3) := by decide +kernel
theorem dX1_isInside_4 : decode cX1_isInside 4 = .ok (.iconst 1, 1) := by decide +kernel
theorem dX1_isInside_5 : decode cX1_isInside 5 = .ok (.aload_n 0, 1) := by decide +kernel
theorem dX1_isInside_6 : decode cX1_isInside 6 = .ok (.getfield 30, 3) := by decide +kernel
theorem dX1_isInside_9 : decode cX1_isInside 9 = .ok (.invokestatic 73, 3) := by decide +kernel
theorem dX1_isInside_12 : decode cX1_isInside 12 = .ok (.ifCond .eq 22, 3) := by decide +kernel
theorem dX1_isInside_15 : decode cX1_isInside 15 = .ok (.aload_n 0, 1) := by decide +kernel
theorem dX1_isInside_16 : decode cX1_isInside 16 = .ok (.getfield 67, 3) := by decide +kernel
theorem dX1_isInside_19 : decode cX1_isInside 19 = .ok (.iconst 1, 1) := by decide +kernel
theorem dX1_isInside_20 : decode cX1_isInside 20 = .ok (.aload_n 0, 1) := by decide +kernel
theorem dX1_isInside_21 : decode cX1_isInside 21 = .ok (.getfield 30, 3) := by decide +kernel
theorem dX1_isInside_24 : decode cX1_isInside 24 = .ok (.invokestatic 73, 3) := by decide +kernel
theorem dX1_isInside_27 : decode cX1_isInside 27 = .ok (.ifCond .eq 7, 3) := by decide +kernel
theorem dX1_isInside_30 : decode cX1_isInside 30 = .ok (.iconst 1, 1) := by decide +kernel
theorem dX1_isInside_31 : decode cX1_isInside 31 = .ok (.goto 4, 3) := by decide +kernel
theorem dX1_isInside_34 : decode cX1_isInside 34 = .ok (.iconst 0, 1) := by decide +kernel
theorem dX1_isInside_35 : decode cX1_isInside 35 = .ok (.ireturn, 1) := by decide +kernel
theorem dX1_isOpen_0 : decode cX1_isOpen 0 = .ok (.aload_n 0, 1) := by decide +kernel
theorem dX1_isOpen_1 : decode cX1_isOpen 1 = .ok (.getfield 18, 3) := by decide +kernel
theorem dX1_isOpen_4 : decode cX1_isOpen 4 = .ok (.aload_n 0, 1) := by decide +kernel
theorem dX1_isOpen_5 : decode cX1_isOpen 5 = .ok (.getfield 64, 3) := by decide +kernel
theorem dX1_isOpen_8 : decode cX1_isOpen 8 = .ok (.bipush 7, 2) := by decide +kernel
theorem dX1_isOpen_10 : decode cX1_isOpen 10 = .ok (.imul, 1) := by decide +kernel
theorem dX1_isOpen_11 : decode cX1_isOpen 11 = .ok (.aload_n 0, 1) := by decide +kernel
theorem dX1_isOpen_12 : decode cX1_isOpen 12 = .ok (.getfield 67, 3) := by decide +kernel
theorem dX1_isOpen_15 : decode cX1_isOpen 15 = .ok (.iadd, 1) := by decide +kernel
theorem dX1_isOpen_16 : decode cX1_isOpen 16 = .ok (.iaload, 1) := by decide +kernel
theorem dX1_isOpen_17 : decode cX1_isOpen 17 = .ok (.iload_n 1, 1) := by decide +kernel
theorem dX1_isOpen_18 : decode cX1_isOpen 18 = .ok (.ishr, 1) := by decide +kernel
theorem dX1_isOpen_19 : decode cX1_isOpen 19 = .ok (.iconst 1, 1) := by decide +kernel
theorem dX1_isOpen_20 : decode cX1_isOpen 20 = .ok (.iand, 1) := by decide +kernel
theorem dX1_isOpen_21 : decode cX1_isOpen 21 = .ok (.iconst 1, 1) := by decide +kernel
theorem dX1_isOpen_22 : decode cX1_isOpen 22 = .ok (.if_icmp .ne 7, 3) := by decide +kernel
theorem dX1_isOpen_25 : decode cX1_isOpen 25 = .ok (.iconst 1, 1) := by decide +kernel
theorem dX1_isOpen_26 : decode cX1_isOpen 26 = .ok (.goto 4, 3) := by decide +kernel
theorem dX1_isOpen_29 : decode cX1_isOpen 29 = .ok (.iconst 0, 1) := by decide +kernel
theorem dX1_isOpen_30 : decode cX1_isOpen 30 = .ok (.ireturn, 1) := by decide +kernel
set_option maxRecDepth 20000 in
theorem ggX1_followLine_X1_standAtRim : GoodIn wsX1_followLine wsX1_standAtRim := goodIn_r _ [7, 2, 8, 9, 10, 37, 38, 39, 40, 41, 42, 43, 44, 45, 46, 47] (by decide +kernel) (by decide +kernel)
set_option maxRecDepth 20000 in
theorem gX1_followLine_X1_standAtRim : GoodIn wsX1_followLine (wsV RX1 57 RX1 yX1_standAtRim wsX1_standAtRim) := goodIn_app (goodIn_of _ (by decide +kernel)) ggX1_followLine_X1_standAtRim
set_option maxRecDepth 20000 in
theorem ggX1_followLine_X1_isOpen : GoodIn wsX1_followLine wsX1_isOpen := goodIn_r _ [14, 15, 8, 9, 37, 38, 39, 40, 41, 42, 43, 44, 45, 46, 47] (by decide +kernel) (by decide +kernel)
set_option maxRecDepth 20000 in
theorem gX1_followLine_X1_isOpen : GoodIn wsX1_followLine (wsV RX1 60 RX1 yX1_isOpen wsX1_isOpen) := goodIn_app (goodIn_of _ (by decide +kernel)) ggX1_followLine_X1_isOpen
set_option maxRecDepth 20000 in
theorem ggX1_followLine_X1_isInside : GoodIn wsX1_followLine wsX1_isInside := goodIn_r _ [19, 8, 2, 9, 20, 21, 22, 37, 38, 39, 40, 41, 42, 43, 44, 45, 46, 47] (by decide +kernel) (by decide +kernel)
set_option maxRecDepth 20000 in
theorem gX1_followLine_X1_isInside : GoodIn wsX1_followLine (wsV RX1 77 RX1 yX1_isInside wsX1_isInside) := goodIn_app (goodIn_of _ (by decide +kernel)) ggX1_followLine_X1_isInside
set_option maxRecDepth 20000 in
theorem ggX1_followLine_X1_goOn : GoodIn wsX1_followLine wsX1_goOn := goodIn_r _ [26, 8, 9, 15, 10, 37, 38, 39, 40, 41, 42, 43, 44, 45, 46, 47] (by decide +kernel) (by decide +kernel)
set_option maxRecDepth 20000 in
theorem gX1_followLine_X1_goOn : GoodIn wsX1_followLine (wsV RX1 81 RX1 yX1_goOn wsX1_goOn) := goodIn_app (goodIn_of _ (by decide +kernel)) ggX1_followLine_X1_goOn
set_option maxRecDepth 20000 in
theorem ggX1_followLine_X1_rimPassed : GoodIn wsX1_followLine wsX1_rimPassed := goodIn_r _ [30, 8, 2, 9, 37, 38, 39, 40, 41, 42, 43, 44, 45, 46, 47] (by decide +kernel) (by decide +kernel)
set_option maxRecDepth 20000 in
theorem gX1_followLine_X1_rimPassed : GoodIn wsX1_followLine (wsV RX1 84 RX1 yX1_rimPassed wsX1_rimPassed) := goodIn_app (goodIn_of _ (by decide +kernel)) ggX1_followLine_X1_rimPassed
set_option maxRecDepth 20000 in
theorem ggX1_followLine_X1_join : GoodIn wsX1_followLine wsX1_join := goodIn_r _ [34, 35, 36, 37, 38, 39, 40, 41, 42, 43, 44, 45, 46, 47] (by decide +kernel) (by decide +kernel)
set_option maxRecDepth 20000 in
theorem gX1_followLine_X1_join : GoodIn wsX1_followLine (wsV RX1 88 RX1 yX1_join wsX1_join) := goodIn_app (goodIn_of _ (by decide +kernel)) ggX1_followLine_X1_join
theorem dX1_followLine_0 : decode cX1_followLine 0 = .ok (.aload_n 0, 1) := by decide +kernel
theorem dX1_followLine_1 : decode cX1_followLine 1 = .ok (.iload_n 1, 1) := by decide +kernel
theorem dX1_followLine_2 : decode cX1_followLine 2 = .ok (.iload_n 2, 1) := by decide +kernel
theorem dX1_followLine_3 : decode cX1_followLine 3 = .ok (.invokevirtual 57, 3) := by decide +kernel
theorem dX1_followLine_6 : decode cX1_followLine 6 = .ok (.aload_n 0, 1) := by decide +kernel
theorem dX1_followLine_7 : decode cX1_followLine 7 = .ok (.getfield 21, 3) := by decide +kernel
theorem dX1_followLine_10 : decode cX1_followLine 10 = .ok (.iload_n 1, 1) := by decide +kernel
theorem dX1_followLine_11 : decode cX1_followLine 11 = .ok (.aload_n 0, 1) := by decide +kernel
theorem dX1_followLine_12 : decode cX1_followLine 12 = .ok (.getfield 30, 3) := by decide +kernel
theorem dX1_followLine_15 : decode cX1_followLine 15 = .ok (.imul, 1) := by decide +kernel
theorem dX1_followLine_16 : decode cX1_followLine 16 = .ok (.iload_n 2, 1) := by decide +kernel
theorem dX1_followLine_17 : decode cX1_followLine 17 = .ok (.iadd, 1) := by decide +kernel
theorem dX1_followLine_18 : decode cX1_followLine 18 = .ok (.iaload, 1) := by decide +kernel
theorem dX1_followLine_19 : decode cX1_followLine 19 = .ok (.istore_n 3, 1) := by decide +kernel
theorem dX1_followLine_20 : decode cX1_followLine 20 = .ok (.iload_n 3, 1) := by decide +kernel
theorem dX1_followLine_21 : decode cX1_followLine 21 = .ok (.ifCond .lt 11, 3) := by decide +kernel
theorem dX1_followLine_24 : decode cX1_followLine 24 = .ok (.aload_n 0, 1) := by decide +kernel
theorem dX1_followLine_25 : decode cX1_followLine 25 = .ok (.iload_n 1, 1) := by decide +kernel
theorem dX1_followLine_26 : decode cX1_followLine 26 = .ok (.invokevirtual 60, 3) := by decide +kernel
theorem dX1_followLine_29 : decode cX1_followLine 29 = .ok (.ifCond .ne 4, 3) := by decide +kernel
theorem dX1_followLine_32 : decode cX1_followLine 32 = .ok (.return_, 1) := by decide +kernel
theorem dX1_followLine_33 : decode cX1_followLine 33 = .ok (.iconst 1, 1) := by decide +kernel
theorem dX1_followLine_34 : decode cX1_followLine 34 = .ok (.istore 4, 2) := by decide +kernel
theorem dX1_followLine_36 : decode cX1_followLine 36 = .ok (.iconst 0, 1) := by decide +kernel
theorem dX1_followLine_37 : decode cX1_followLine 37 = .ok (.istore 5, 2) := by decide +kernel
theorem dX1_followLine_39 : decode cX1_followLine 39 = .ok (.iload 5, 2) := by decide +kernel
theorem dX1_followLine_41 : decode cX1_followLine 41 = .ok (.bipush 36, 2) := by decide +kernel
theorem dX1_followLine_43 : decode cX1_followLine 43 = .ok (.if_icmp .ge 23, 3) := by decide +kernel
theorem dX1_followLine_46 : decode cX1_followLine 46 = .ok (.aload_n 0, 1) := by decide +kernel
theorem dX1_followLine_47 : decode cX1_followLine 47 = .ok (.invokevirtual 77, 3) := by decide +kernel
theorem dX1_followLine_50 : decode cX1_followLine 50 = .ok (.ifCond .eq 16, 3) := by decide +kernel
theorem dX1_followLine_53 : decode cX1_followLine 53 = .ok (.aload_n 0, 1) := by decide +kernel
theorem dX1_followLine_54 : decode cX1_followLine 54 = .ok (.invokevirtual 81, 3) := by decide +kernel
theorem dX1_followLine_57 : decode cX1_followLine 57 = .ok (.iinc 4 1, 3) := by decide +kernel
theorem dX1_followLine_60 : decode cX1_followLine 60 = .ok (.iinc 5 1, 3) := by decide +kernel
theorem dX1_followLine_63 : decode cX1_followLine 63 = .ok (.goto (-24), 3) := by decide +kernel
theorem dX1_followLine_66 : decode cX1_followLine 66 = .ok (.aload_n 0, 1) := by decide +kernel
theorem dX1_followLine_67 : decode cX1_followLine 67 = .ok (.getfield 21, 3) := by decide +kernel
theorem dX1_followLine_70 : decode cX1_followLine 70 = .ok (.aload_n 0, 1) := by decide +kernel
theorem dX1_followLine_71 : decode cX1_followLine 71 = .ok (.invokevirtual 84, 3) := by decide +kernel
theorem dX1_followLine_74 : decode cX1_followLine 74 = .ok (.iaload, 1) := by decide +kernel
theorem dX1_followLine_75 : decode cX1_followLine 75 = .ok (.istore 5, 2) := by decide +kernel
theorem dX1_followLine_77 : decode cX1_followLine 77 = .ok (.iload 5, 2) := by decide +kernel
theorem dX1_followLine_79 : decode cX1_followLine 79 = .ok (.ifCond .lt 12, 3) := by decide +kernel
theorem dX1_followLine_82 : decode cX1_followLine 82 = .ok (.aload_n 0, 1) := by decide +kernel
theorem dX1_followLine_83 : decode cX1_followLine 83 = .ok (.iload_n 3, 1) := by decide +kernel
theorem dX1_followLine_84 : decode cX1_followLine 84 = .ok (.iload 5, 2) := by decide +kernel
theorem dX1_followLine_86 : decode cX1_followLine 86 = .ok (.iload 4, 2) := by decide +kernel
theorem dX1_followLine_88 : decode cX1_followLine 88 = .ok (.invokevirtual 88, 3) := by decide +kernel
theorem dX1_followLine_91 : decode cX1_followLine 91 = .ok (.return_, 1) := by decide +kernel
theorem dX1_join_0 : decode cX1_join 0 = .ok (.aload_n 0, 1) := by decide +kernel
theorem dX1_join_1 : decode cX1_join 1 = .ok (.getfield 9, 3) := by decide +kernel
theorem dX1_join_4 : decode cX1_join 4 = .ok (.iload_n 1, 1) := by decide +kernel
theorem dX1_join_5 : decode cX1_join 5 = .ok (.iload_n 2, 1) := by decide +kernel
theorem dX1_join_6 : decode cX1_join 6 = .ok (.iastore, 1) := by decide +kernel
theorem dX1_join_7 : decode cX1_join 7 = .ok (.aload_n 0, 1) := by decide +kernel
theorem dX1_join_8 : decode cX1_join 8 = .ok (.getfield 9, 3) := by decide +kernel
theorem dX1_join_11 : decode cX1_join 11 = .ok (.iload_n 2, 1) := by decide +kernel
theorem dX1_join_12 : decode cX1_join 12 = .ok (.iload_n 1, 1) := by decide +kernel
theorem dX1_join_13 : decode cX1_join 13 = .ok (.iastore, 1) := by decide +kernel
theorem dX1_join_14 : decode cX1_join 14 = .ok (.aload_n 0, 1) := by decide +kernel
theorem dX1_join_15 : decode cX1_join 15 = .ok (.getfield 15, 3) := by decide +kernel
theorem dX1_join_18 : decode cX1_join 18 = .ok (.iload_n 1, 1) := by decide +kernel
theorem dX1_join_19 : decode cX1_join 19 = .ok (.iload_n 3, 1) := by decide +kernel
theorem dX1_join_20 : decode cX1_join 20 = .ok (.iastore, 1) := by decide +kernel
theorem dX1_join_21 : decode cX1_join 21 = .ok (.aload_n 0, 1) := by decide +kernel
theorem dX1_join_22 : decode cX1_join 22 = .ok (.getfield 15, 3) := by decide +kernel
theorem dX1_join_25 : decode cX1_join 25 = .ok (.iload_n 2, 1) := by decide +kernel
theorem dX1_join_26 : decode cX1_join 26 = .ok (.iload_n 3, 1) := by decide +kernel
theorem dX1_join_27 : decode cX1_join 27 = .ok (.iastore, 1) := by decide +kernel
theorem dX1_join_28 : decode cX1_join 28 = .ok (.return_, 1) := by decide +kernel
set_option maxRecDepth 20000 in
theorem ggX1_followRings_X1_followRing : GoodIn wsX1_followRings wsX1_followRing := goodIn_r _ [9, 10, 11, 12, 4, 2, 13, 14, 15, 8, 16, 17, 18, 19, 20, 3, 21, 22, 23, 24, 25, 26, 27, 28, 29, 30, 31, 32, 33, 34, 35, 36, 37, 38] (by decide +kernel) (by decide +kernel)
set_option maxRecDepth 20000 in
theorem gX1_followRings_X1_followRing : GoodIn wsX1_followRings (wsV RX1 98 RX1 yX1_followRing wsX1_followRing) := goodIn_app (goodIn_of _ (by decide +kernel)) ggX1_followRings_X1_followRing
theorem dX1_followRings_0 : decode cX1_followRings 0 = .ok (.aload_n 0, 1) := by decide +kernel
theorem dX1_followRings_1 : decode cX1_followRings 1 = .ok (.iconst 0, 1) := by decide +kernel
theorem dX1_followRings_2 : decode cX1_followRings 2 = .ok (.putfield 92, 3) := by decide +kernel
theorem dX1_followRings_5 : decode cX1_followRings 5 = .ok (.aload_n 0, 1) := by decide +kernel
theorem dX1_followRings_6 : decode cX1_followRings 6 = .ok (.iconst 0, 1) := by decide +kernel
theorem dX1_followRings_7 : decode cX1_followRings 7 = .ok (.putfield 95, 3) := by decide +kernel
theorem dX1_followRings_10 : decode cX1_followRings 10 = .ok (.iconst 1, 1) := by decide +kernel
theorem dX1_followRings_11 : decode cX1_followRings 11 = .ok (.istore_n 1, 1) := by decide +kernel
theorem dX1_followRings_12 : decode cX1_followRings 12 = .ok (.iload_n 1, 1) := by decide +kernel
theorem dX1_followRings_13 : decode cX1_followRings 13 = .ok (.aload_n 0, 1) := by decide +kernel
theorem dX1_followRings_14 : decode cX1_followRings 14 = .ok (.getfield 30, 3) := by decide +kernel
theorem dX1_followRings_17 : decode cX1_followRings 17 = .ok (.if_icmp .gt 55, 3) := by decide +kernel
theorem dX1_followRings_20 : decode cX1_followRings 20 = .ok (.iconst 1, 1) := by decide +kernel
theorem dX1_followRings_21 : decode cX1_followRings 21 = .ok (.istore_n 2, 1) := by decide +kernel
theorem dX1_followRings_22 : decode cX1_followRings 22 = .ok (.iload_n 2, 1) := by decide +kernel
theorem dX1_followRings_23 : decode cX1_followRings 23 = .ok (.aload_n 0, 1) := by decide +kernel
theorem dX1_followRings_24 : decode cX1_followRings 24 = .ok (.getfield 30, 3) := by decide +kernel
theorem dX1_followRings_27 : decode cX1_followRings 27 = .ok (.if_icmp .gt 39, 3) := by decide +kernel
theorem dX1_followRings_30 : decode cX1_followRings 30 = .ok (.aload_n 0, 1) := by decide +kernel
theorem dX1_followRings_31 : decode cX1_followRings 31 = .ok (.getfield 18, 3) := by decide +kernel
theorem dX1_followRings_34 : decode cX1_followRings 34 = .ok (.iload_n 1, 1) := by decide +kernel
theorem dX1_followRings_35 : decode cX1_followRings 35 = .ok (.bipush 7, 2) := by decide +kernel
theorem dX1_followRings_37 : decode cX1_followRings 37 = .ok (.imul, 1) := by decide +kernel
theorem dX1_followRings_38 : decode cX1_followRings 38 = .ok (.iload_n 2, 1) := by decide +kernel
theorem dX1_followRings_39 : decode cX1_followRings 39 = .ok (.iadd, 1) := by decide +kernel
theorem dX1_followRings_40 : decode cX1_followRings 40 = .ok (.iaload, 1) := by decide +kernel
theorem dX1_followRings_41 : decode cX1_followRings 41 = .ok (.ifCond .eq 19, 3) := by decide +kernel
theorem dX1_followRings_44 : decode cX1_followRings 44 = .ok (.aload_n 0, 1) := by decide +kernel
theorem dX1_followRings_45 : decode cX1_followRings 45 = .ok (.dup, 1) := by decide +kernel
theorem dX1_followRings_46 : decode cX1_followRings 46 = .ok (.getfield 92, 3) := by decide +kernel
theorem dX1_followRings_49 : decode cX1_followRings 49 = .ok (.iconst 1, 1) := by decide +kernel
theorem dX1_followRings_50 : decode cX1_followRings 50 = .ok (.iadd, 1) := by decide +kernel
theorem dX1_followRings_51 : decode cX1_followRings 51 = .ok (.putfield 92, 3) := by decide +kernel
theorem dX1_followRings_54 : decode cX1_followRings 54 = .ok (.aload_n 0, 1) := by decide +kernel
theorem dX1_followRings_55 : decode cX1_followRings 55 = .ok (.iload_n 1, 1) := by decide +kernel
theorem dX1_followRings_56 : decode cX1_followRings 56 = .ok (.iload_n 2, 1) := by decide +kernel
theorem dX1_followRings_57 : decode cX1_followRings 57 = .ok (.invokevirtual 98, 3) := by decide +kernel
theorem dX1_followRings_60 : decode cX1_followRings 60 = .ok (.iinc 2 1, 3) := by decide +kernel
theorem dX1_followRings_63 : decode cX1_followRings 63 = .ok (.goto (-41), 3) := by decide +kernel
theorem dX1_followRings_66 : decode cX1_followRings 66 = .ok (.iinc 1 1, 3) := by decide +kernel
theorem dX1_followRings_69 : decode cX1_followRings 69 = .ok (.goto (-57), 3) := by decide +kernel
theorem dX1_followRings_72 : decode cX1_followRings 72 = .ok (.return_, 1) := by decide +kernel
set_option maxRecDepth 20000 in
theorem ggX1_followRing_X1_isOpen : GoodIn wsX1_followRing wsX1_isOpen := goodIn_r _ [10, 4, 1, 2, 23, 24, 25, 26, 27, 28, 29, 30, 31, 32, 33] (by decide +kernel) (by decide +kernel)
set_option maxRecDepth 20000 in
theorem gX1_followRing_X1_isOpen : GoodIn wsX1_followRing (wsV RX1 60 RX1 yX1_isOpen wsX1_isOpen) := goodIn_app (goodIn_of _ (by decide +kernel)) ggX1_followRing_X1_isOpen
set_option maxRecDepth 20000 in
theorem ggX1_followRing_X1_isInside : GoodIn wsX1_followRing wsX1_isInside := goodIn_r _ [14, 1, 15, 2, 16, 17, 18, 23, 24, 25, 26, 27, 28, 29, 30, 31, 32, 33] (by decide +kernel) (by decide +kernel)
set_option maxRecDepth 20000 in
theorem gX1_followRing_X1_isInside : GoodIn wsX1_followRing (wsV RX1 77 RX1 yX1_isInside wsX1_isInside) := goodIn_app (goodIn_of _ (by decide +kernel)) ggX1_followRing_X1_isInside
set_option maxRecDepth 20000 in
theorem ggX1_followRing_X1_goOn : GoodIn wsX1_followRing wsX1_goOn := goodIn_r _ [22, 1, 2, 4, 3, 23, 24, 25, 26, 27, 28, 29, 30, 31, 32, 33] (by decide +kernel) (by decide +kernel)
set_option maxRecDepth 20000 in
theorem gX1_followRing_X1_goOn : GoodIn wsX1_followRing (wsV RX1 81 RX1 yX1_goOn wsX1_goOn) := goodIn_app (goodIn_of _ (by decide +kernel)) ggX1_followRing_X1_goOn
theorem dX1_followRing_0 : decode cX1_followRing 0 = .ok (.aload_n 0, 1) := by decide +kernel
theorem dX1_followRing_1 : decode cX1_followRing 1 = .ok (.iload_n 1, 1) := by decide +kernel
theorem dX1_followRing_2 : decode cX1_followRing 2 = .ok (.putfield 64, 3) := by decide +kernel
theorem dX1_followRing_5 : decode cX1_followRing 5 = .ok (.aload_n 0, 1) := by decide +kernel
theorem dX1_followRing_6 : decode cX1_followRing 6 = .ok (.iload_n 2, 1) := by decide +kernel
theorem dX1_followRing_7 : decode cX1_followRing 7 = .ok (.putfield 67, 3) := by decide +kernel
theorem dX1_followRing_10 : decode cX1_followRing 10 = .ok (.aload_n 0, 1) := by decide +kernel
theorem dX1_followRing_11 : decode cX1_followRing 11 = .ok (.aload_n 0, 1) := by decide +kernel
theorem dX1_followRing_12 : decode cX1_followRing 12 = .ok (.iconst 0, 1) := by decide +kernel
theorem dX1_followRing_13 : decode cX1_followRing 13 = .ok (.invokevirtual 60, 3) := by decide +kernel
theorem dX1_followRing_16 : decode cX1_followRing 16 = .ok (.ifCond .eq 7, 3) := by decide +kernel
theorem dX1_followRing_19 : decode cX1_followRing 19 = .ok (.iconst 0, 1) := by decide +kernel
theorem dX1_followRing_20 : decode cX1_followRing 20 = .ok (.goto 16, 3) := by decide +kernel
theorem dX1_followRing_23 : decode cX1_followRing 23 = .ok (.aload_n 0, 1) := by decide +kernel
theorem dX1_followRing_24 : decode cX1_followRing 24 = .ok (.iconst 1, 1) := by decide +kernel
theorem dX1_followRing_25 : decode cX1_followRing 25 = .ok (.invokevirtual 60, 3) := by decide +kernel
theorem dX1_followRing_28 : decode cX1_followRing 28 = .ok (.ifCond .eq 7, 3) := by decide +kernel
theorem dX1_followRing_31 : decode cX1_followRing 31 = .ok (.iconst 1, 1) := by decide +kernel
theorem dX1_followRing_32 : decode cX1_followRing 32 = .ok (.goto 4, 3) := by decide +kernel
theorem dX1_followRing_35 : decode cX1_followRing 35 = .ok (.iconst 2, 1) := by decide +kernel
theorem dX1_followRing_36 : decode cX1_followRing 36 = .ok (.putfield 70, 3) := by decide +kernel
theorem dX1_followRing_39 : decode cX1_followRing 39 = .ok (.iconst 0, 1) := by decide +kernel
theorem dX1_followRing_40 : decode cX1_followRing 40 = .ok (.istore_n 3, 1) := by decide +kernel
theorem dX1_followRing_41 : decode cX1_followRing 41 = .ok (.iload_n 3, 1) := by decide +kernel
theorem dX1_followRing_42 : decode cX1_followRing 42 = .ok (.bipush 36, 2) := by decide +kernel
theorem dX1_followRing_44 : decode cX1_followRing 44 = .ok (.if_icmp .ge 51, 3) := by decide +kernel
theorem dX1_followRing_47 : decode cX1_followRing 47 = .ok (.aload_n 0, 1) := by decide +kernel
theorem dX1_followRing_48 : decode cX1_followRing 48 = .ok (.invokevirtual 77, 3) := by decide +kernel
theorem dX1_followRing_51 : decode cX1_followRing 51 = .ok (.ifCond .eq 44, 3) := by decide +kernel
theorem dX1_followRing_54 : decode cX1_followRing 54 = .ok (.aload_n 0, 1) := by decide +kernel
theorem dX1_followRing_55 : decode cX1_followRing 55 = .ok (.getfield 18, 3) := by decide +kernel
theorem dX1_followRing_58 : decode cX1_followRing 58 = .ok (.aload_n 0, 1) := by decide +kernel
theorem dX1_followRing_59 : decode cX1_followRing 59 = .ok (.getfield 64, 3) := by decide +kernel
theorem dX1_followRing_62 : decode cX1_followRing 62 = .ok (.bipush 7, 2) := by decide +kernel
theorem dX1_followRing_64 : decode cX1_followRing 64 = .ok (.imul, 1) := by decide +kernel
theorem dX1_followRing_65 : decode cX1_followRing 65 = .ok (.aload_n 0, 1) := by decide +kernel
theorem dX1_followRing_66 : decode cX1_followRing 66 = .ok (.getfield 67, 3) := by decide +kernel
theorem dX1_followRing_69 : decode cX1_followRing 69 = .ok (.iadd, 1) := by decide +kernel
theorem dX1_followRing_70 : decode cX1_followRing 70 = .ok (.iaload, 1) := by decide +kernel
theorem dX1_followRing_71 : decode cX1_followRing 71 = .ok (.ifCond .ne 4, 3) := by decide +kernel
theorem dX1_followRing_74 : decode cX1_followRing 74 = .ok (.return_, 1) := by decide +kernel
theorem dX1_followRing_75 : decode cX1_followRing 75 = .ok (.aload_n 0, 1) := by decide +kernel
theorem dX1_followRing_76 : decode cX1_followRing 76 = .ok (.invokevirtual 81, 3) := by decide +kernel
theorem dX1_followRing_79 : decode cX1_followRing 79 = .ok (.aload_n 0, 1) := by decide +kernel
theorem dX1_followRing_80 : decode cX1_followRing 80 = .ok (.dup, 1) := by decide +kernel
theorem dX1_followRing_81 : decode cX1_followRing 81 = .ok (.getfield 95, 3) := by decide +kernel
theorem dX1_followRing_84 : decode cX1_followRing 84 = .ok (.iconst 1, 1) := by decide +kernel
theorem dX1_followRing_85 : decode cX1_followRing 85 = .ok (.iadd, 1) := by decide +kernel
theorem dX1_followRing_86 : decode cX1_followRing 86 = .ok (.putfield 95, 3) := by decide +kernel
theorem dX1_followRing_89 : decode cX1_followRing 89 = .ok (.iinc 3 1, 3) := by decide +kernel
theorem dX1_followRing_92 : decode cX1_followRing 92 = .ok (.goto (-51), 3) := by decide +kernel
theorem dX1_followRing_95 : decode cX1_followRing 95 = .ok (.return_, 1) := by decide +kernel
theorem dX1_goOn_0 : decode cX1_goOn 0 = .ok (.aload_n 0, 1) := by decide +kernel
theorem dX1_goOn_1 : decode cX1_goOn 1 = .ok (.getfield 64, 3) := by decide +kernel
theorem dX1_goOn_4 : decode cX1_goOn 4 = .ok (.bipush 7, 2) := by decide +kernel
theorem dX1_goOn_6 : decode cX1_goOn 6 = .ok (.imul, 1) := by decide +kernel
theorem dX1_goOn_7 : decode cX1_goOn 7 = .ok (.aload_n 0, 1) := by decide +kernel
theorem dX1_goOn_8 : decode cX1_goOn 8 = .ok (.getfield 67, 3) := by decide +kernel
theorem dX1_goOn_11 : decode cX1_goOn 11 = .ok (.iadd, 1) := by decide +kernel
theorem dX1_goOn_12 : decode cX1_goOn 12 = .ok (.istore_n 1, 1) := by decide +kernel
theorem dX1_goOn_13 : decode cX1_goOn 13 = .ok (.aload_n 0, 1) := by decide +kernel
theorem dX1_goOn_14 : decode cX1_goOn 14 = .ok (.getfield 18, 3) := by decide +kernel
theorem dX1_goOn_17 : decode cX1_goOn 17 = .ok (.iload_n 1, 1) := by decide +kernel
theorem dX1_goOn_18 : decode cX1_goOn 18 = .ok (.iaload, 1) := by decide +kernel
theorem dX1_goOn_19 : decode cX1_goOn 19 = .ok (.iconst 1, 1) := by decide +kernel
theorem dX1_goOn_20 : decode cX1_goOn 20 = .ok (.aload_n 0, 1) := by decide +kernel
theorem dX1_goOn_21 : decode cX1_goOn 21 = .ok (.getfield 70, 3) := by decide +kernel
theorem dX1_goOn_24 : decode cX1_goOn 24 = .ok (.ishl, 1) := by decide +kernel
theorem dX1_goOn_25 : decode cX1_goOn 25 = .ok (.iconst (-1), 1) := by decide +kernel
theorem dX1_goOn_26 : decode cX1_goOn 26 = .ok (.ixor, 1) := by decide +kernel
theorem dX1_goOn_27 : decode cX1_goOn 27 = .ok (.iand, 1) := by decide +kernel
theorem dX1_goOn_28 : decode cX1_goOn 28 = .ok (.istore_n 2, 1) := by decide +kernel
theorem dX1_goOn_29 : decode cX1_goOn 29 = .ok (.aload_n 0, 1) := by decide +kernel
theorem dX1_goOn_30 : decode cX1_goOn 30 = .ok (.getfield 18, 3) := by decide +kernel
theorem dX1_goOn_33 : decode cX1_goOn 33 = .ok (.iload_n 1, 1) := by decide +kernel
theorem dX1_goOn_34 : decode cX1_goOn 34 = .ok (.iconst 0, 1) := by decide +kernel
theorem dX1_goOn_35 : decode cX1_goOn 35 = .ok (.iastore, 1) := by decide +kernel
theorem dX1_goOn_36 : decode cX1_goOn 36 = .ok (.iload_n 2, 1) := by decide +kernel
theorem dX1_goOn_37 : decode cX1_goOn 37 = .ok (.iconst 1, 1) := by decide +kernel
theorem dX1_goOn_38 : decode cX1_goOn 38 = .ok (.if_icmp .ne 21, 3) := by decide +kernel
theorem dX1_goOn_41 : decode cX1_goOn 41 = .ok (.aload_n 0, 1) := by decide +kernel
theorem dX1_goOn_42 : decode cX1_goOn 42 = .ok (.dup, 1) := by decide +kernel
theorem dX1_goOn_43 : decode cX1_goOn 43 = .ok (.getfield 64, 3) := by decide +kernel
theorem dX1_goOn_46 : decode cX1_goOn 46 = .ok (.iconst 1, 1) := by decide +kernel
theorem dX1_goOn_47 : decode cX1_goOn 47 = .ok (.isub, 1) := by decide +kernel
theorem dX1_goOn_48 : decode cX1_goOn 48 = .ok (.putfield 64, 3) := by decide +kernel
theorem dX1_goOn_51 : decode cX1_goOn 51 = .ok (.aload_n 0, 1) := by decide +kernel
theorem dX1_goOn_52 : decode cX1_goOn 52 = .ok (.iconst 2, 1) := by decide +kernel
theorem dX1_goOn_53 : decode cX1_goOn 53 = .ok (.putfield 70, 3) := by decide +kernel
theorem dX1_goOn_56 : decode cX1_goOn 56 = .ok (.goto 64, 3) := by decide +kernel
theorem dX1_goOn_59 : decode cX1_goOn 59 = .ok (.iload_n 2, 1) := by decide +kernel
theorem dX1_goOn_60 : decode cX1_goOn 60 = .ok (.iconst 2, 1) := by decide +kernel
theorem dX1_goOn_61 : decode cX1_goOn 61 = .ok (.if_icmp .ne 21, 3) := by decide +kernel
theorem dX1_goOn_64 : decode cX1_goOn 64 = .ok (.aload_n 0, 1) := by decide +kernel
theorem dX1_goOn_65 : decode cX1_goOn 65 = .ok (.dup, 1) := by decide +kernel
theorem dX1_goOn_66 : decode cX1_goOn 66 = .ok (.getfield 67, 3) := by decide +kernel
theorem dX1_goOn_69 : decode cX1_goOn 69 = .ok (.iconst 1, 1) := by decide +kernel
theorem dX1_goOn_70 : decode cX1_goOn 70 = .ok (.iadd, 1) := by decide +kernel
theorem dX1_goOn_71 : decode cX1_goOn 71 = .ok (.putfield 67, 3) := by decide +kernel
theorem dX1_goOn_74 : decode cX1_goOn 74 = .ok (.aload_n 0, 1) := by decide +kernel
theorem dX1_goOn_75 : decode cX1_goOn 75 = .ok (.iconst 3, 1) := by decide +kernel
theorem dX1_goOn_76 : decode cX1_goOn 76 = .ok (.putfield 70, 3) := by decide +kernel
theorem dX1_goOn_79 : decode cX1_goOn 79 = .ok (.goto 41, 3) := by decide +kernel
theorem dX1_goOn_82 : decode cX1_goOn 82 = .ok (.iload_n 2, 1) := by decide +kernel
theorem dX1_goOn_83 : decode cX1_goOn 83 = .ok (.iconst 4, 1) := by decide +kernel
theorem dX1_goOn_84 : decode cX1_goOn 84 = .ok (.if_icmp .ne 21, 3) := by decide +kernel
theorem dX1_goOn_87 : decode cX1_goOn 87 = .ok (.aload_n 0, 1) := by decide +kernel
theorem dX1_goOn_88 : decode cX1_goOn 88 = .ok (.dup, 1) := by decide +kernel
theorem dX1_goOn_89 : decode cX1_goOn 89 = .ok (.getfield 64, 3) := by decide +kernel
theorem dX1_goOn_92 : decode cX1_goOn 92 = .ok (.iconst 1, 1) := by decide +kernel
theorem dX1_goOn_93 : decode cX1_goOn 93 = .ok (.iadd, 1) := by decide +kernel
theorem dX1_goOn_94 : decode cX1_goOn 94 = .ok (.putfield 64, 3) := by decide +kernel
theorem dX1_goOn_97 : decode cX1_goOn 97 = .ok (.aload_n 0, 1) := by decide +kernel
theorem dX1_goOn_98 : decode cX1_goOn 98 = .ok (.iconst 0, 1) := by decide +kernel
theorem dX1_goOn_99 : decode cX1_goOn 99 = .ok (.putfield 70, 3) := by decide +kernel
theorem dX1_goOn_102 : decode cX1_goOn 102 = .ok (.goto 18, 3) := by decide +kernel
theorem dX1_goOn_105 : decode cX1_goOn 105 = .ok (.aload_n 0, 1) := by decide +kernel
theorem dX1_goOn_106 : decode cX1_goOn 106 = .ok (.dup, 1) := by decide +kernel
theorem dX1_goOn_107 : decode cX1_goOn 107 = .ok (.getfield 67, 3) := by decide +kernel
theorem dX1_goOn_110 : decode cX1_goOn 110 = .ok (.iconst 1, 1) := by decide +kernel
theorem dX1_goOn_111 : decode cX1_goOn 111 = .ok (.isub, 1) := by decide +kernel
theorem dX1_goOn_112 : decode cX1_goOn 112 = .ok (.putfield 67, 3) := by decide +kernel
theorem dX1_goOn_115 : decode cX1_goOn 115 = .ok (.aload_n 0, 1) := by decide +kernel
theorem dX1_goOn_116 : decode cX1_goOn 116 = .ok (.iconst 1, 1) := by decide +kernel
theorem dX1_goOn_117 : decode cX1_goOn 117 = .ok (.putfield 70, 3) := by decide +kernel
theorem dX1_goOn_120 : decode cX1_goOn 120 = .ok (.return_, 1) := by decide +kernel
set_option maxRecDepth 20000 in
theorem ggX2_init_X3_init : GoodIn wsX2_init wsX3_init := goodIn_r _ [9, 10, 2, 3, 11, 12, 16, 17] (by decide +kernel) (by decide +kernel)
set_option maxRecDepth 20000 in
theorem gX2_init_X3_init_n17 : GoodIn wsX2_init (wsX3_init) := ggX2_init_X3_init
theorem dX2_init_0 : decode cX2_init 0 = .ok (.aload_n 0, 1) := by decide +kernel
theorem dX2_init_1 : decode cX2_init 1 = .ok (.invokespecial 3, 3) := by decide +kernel
theorem dX2_init_4 : decode cX2_init 4 = .ok (.aload_n 0, 1) := by decide +kernel
theorem dX2_init_5 : decode cX2_init 5 = .ok (.bipush 6, 2) := by decide +kernel
theorem dX2_init_7 : decode cX2_init 7 = .ok (.anewarray 9, 3) := by decide +kernel
theorem dX2_init_10 : decode cX2_init 10 = .ok (.putfield 11, 3) := by decide +kernel
theorem dX2_init_13 : decode cX2_init 13 = .ok (.iconst 0, 1) := by decide +kernel
theorem dX2_init_14 : decode cX2_init 14 = .ok (.istore_n 1, 1) := by decide +kernel
theorem dX2_init_15 : decode cX2_init 15 = .ok (.iload_n 1, 1) := by decide +kernel
theorem dX2_init_16 : decode cX2_init 16 = .ok (.bipush 6, 2) := by decide +kernel
theorem dX2_init_18 : decode cX2_init 18 = .ok (.if_icmp .ge 22, 3) := by decide +kernel
theorem dX2_init_21 : decode cX2_init 21 = .ok (.aload_n 0, 1) := by decide +kernel
theorem dX2_init_22 : decode cX2_init 22 = .ok (.getfield 11, 3) := by decide +kernel
theorem dX2_init_25 : decode cX2_init 25 = .ok (.iload_n 1, 1) := by decide +kernel
theorem dX2_init_26 : decode cX2_init 26 = .ok (.new 9, 3) := by decide +kernel
theorem dX2_init_29 : decode cX2_init 29 = .ok (.dup, 1) := by decide +kernel
theorem dX2_init_30 : decode cX2_init 30 = .ok (.invokespecial 17, 3) := by decide +kernel
theorem dX2_init_33 : decode cX2_init 33 = .ok (.aastore, 1) := by decide +kernel
theorem dX2_init_34 : decode cX2_init 34 = .ok (.iinc 1 1, 3) := by decide +kernel
theorem dX2_init_37 : decode cX2_init 37 = .ok (.goto (-22), 3) := by decide +kernel
theorem dX2_init_40 : decode cX2_init 40 = .ok (.return_, 1) := by decide +kernel
set_option maxRecDepth 20000 in
theorem ggX2_remember_X3_copy : GoodIn wsX2_remember wsX3_copy := goodIn_r _ [12, 13, 14, 15, 16, 17, 18, 22, 23] (by decide +kernel) (by decide +kernel)
set_option maxRecDepth 20000 in
theorem gX2_remember_X3_copy : GoodIn wsX2_remember (wsV RX2 22 RX3 yX3_copy wsX3_copy) := goodIn_app (goodIn_of _ (by decide +kernel)) ggX2_remember_X3_copy
theorem dX2_remember_0 : decode cX2_remember 0 = .ok (.aload_n 0, 1) := by decide +kernel
theorem dX2_remember_1 : decode cX2_remember 1 = .ok (.getfield 11, 3) := by decide +kernel
theorem dX2_remember_4 : decode cX2_remember 4 = .ok (.aload_n 0, 1) := by decide +kernel
theorem dX2_remember_5 : decode cX2_remember 5 = .ok (.getfield 18, 3) := by decide +kernel
theorem dX2_remember_8 : decode cX2_remember 8 = .ok (.aaload, 1) := by decide +kernel
theorem dX2_remember_9 : decode cX2_remember 9 = .ok (.aload_n 1, 1) := by decide +kernel
theorem dX2_remember_10 : decode cX2_remember 10 = .ok (.invokevirtual 22, 3) := by decide +kernel
theorem dX2_remember_13 : decode cX2_remember 13 = .ok (.aload_n 0, 1) := by decide +kernel
theorem dX2_remember_14 : decode cX2_remember 14 = .ok (.aload_n 0, 1) := by decide +kernel
theorem dX2_remember_15 : decode cX2_remember 15 = .ok (.getfield 18, 3) := by decide +kernel
theorem dX2_remember_18 : decode cX2_remember 18 = .ok (.iconst 1, 1) := by decide +kernel
theorem dX2_remember_19 : decode cX2_remember 19 = .ok (.iadd, 1) := by decide +kernel
theorem dX2_remember_20 : decode cX2_remember 20 = .ok (.bipush 6, 2) := by decide +kernel
theorem dX2_remember_22 : decode cX2_remember 22 = .ok (.irem, 1) := by decide +kernel
theorem dX2_remember_23 : decode cX2_remember 23 = .ok (.putfield 18, 3) := by decide +kernel
theorem dX2_remember_26 : decode cX2_remember 26 = .ok (.aload_n 0, 1) := by decide +kernel
theorem dX2_remember_27 : decode cX2_remember 27 = .ok (.aload_n 0, 1) := by decide +kernel
theorem dX2_remember_28 : decode cX2_remember 28 = .ok (.getfield 26, 3) := by decide +kernel
theorem dX2_remember_31 : decode cX2_remember 31 = .ok (.iconst 1, 1) := by decide +kernel
theorem dX2_remember_32 : decode cX2_remember 32 = .ok (.iadd, 1) := by decide +kernel
theorem dX2_remember_33 : decode cX2_remember 33 = .ok (.bipush 6, 2) := by decide +kernel
theorem dX2_remember_35 : decode cX2_remember 35 = .ok (.invokestatic 29, 3) := by decide +kernel
theorem dX2_remember_38 : decode cX2_remember 38 = .ok (.putfield 26, 3) := by decide +kernel
theorem dX2_remember_41 : decode cX2_remember 41 = .ok (.return_, 1) := by decide +kernel
set_option maxRecDepth 20000 in
theorem ggX2_giveBack_X3_copy : GoodIn wsX2_giveBack wsX3_copy := goodIn_r _ [8, 9, 10, 11, 12, 13, 14, 18, 19] (by decide +kernel) (by decide +kernel)
set_option maxRecDepth 20000 in
theorem gX2_giveBack_X3_copy : GoodIn wsX2_giveBack (wsV RX2 22 RX3 yX3_copy wsX3_copy) := goodIn_app (goodIn_of _ (by decide +kernel)) ggX2_giveBack_X3_copy
theorem dX2_giveBack_0 : decode cX2_giveBack 0 = .ok (.aload_n 0, 1) := by decide +kernel
theorem dX2_giveBack_1 : decode cX2_giveBack 1 = .ok (.getfield 26, 3) := by decide +kernel
theorem dX2_giveBack_4 : decode cX2_giveBack 4 = .ok (.ifCond .le 42, 3) := by decide +kernel
theorem dX2_giveBack_7 : decode cX2_giveBack 7 = .ok (.aload_n 0, 1) := by decide +kernel
theorem dX2_giveBack_8 : decode cX2_giveBack 8 = .ok (.aload_n 0, 1) := by decide +kernel
theorem dX2_giveBack_9 : decode cX2_giveBack 9 = .ok (.getfield 18, 3) := by decide +kernel
theorem dX2_giveBack_12 : decode cX2_giveBack 12 = .ok (.bipush 6, 2) := by decide +kernel
theorem dX2_giveBack_14 : decode cX2_giveBack 14 = .ok (.iadd, 1) := by decide +kernel
theorem dX2_giveBack_15 : decode cX2_giveBack 15 = .ok (.iconst 1, 1) := by decide +kernel
theorem dX2_giveBack_16 : decode cX2_giveBack 16 = .ok (.isub, 1) := by decide +kernel
theorem dX2_giveBack_17 : decode cX2_giveBack 17 = .ok (.bipush 6, 2) := by decide +kernel
theorem dX2_giveBack_19 : decode cX2_giveBack 19 = .ok (.irem, 1) := by decide +kernel
theorem dX2_giveBack_20 : decode cX2_giveBack 20 = .ok (.putfield 18, 3) := by decide +kernel
theorem dX2_giveBack_23 : decode cX2_giveBack 23 = .ok (.aload_n 0, 1) := by decide +kernel
theorem dX2_giveBack_24 : decode cX2_giveBack 24 = .ok (.dup, 1) := by decide +kernel
theorem dX2_giveBack_25 : decode cX2_giveBack 25 = .ok (.getfield 26, 3) := by decide +kernel
theorem dX2_giveBack_28 : decode cX2_giveBack 28 = .ok (.iconst 1, 1) := by decide +kernel
theorem dX2_giveBack_29 : decode cX2_giveBack 29 = .ok (.isub, 1) := by decide +kernel
theorem dX2_giveBack_30 : decode cX2_giveBack 30 = .ok (.putfield 26, 3) := by decide +kernel
theorem dX2_giveBack_33 : decode cX2_giveBack 33 = .ok (.aload_n 1, 1) := by decide +kernel
theorem dX2_giveBack_34 : decode cX2_giveBack 34 = .ok (.aload_n 0, 1) := by decide +kernel
theorem dX2_giveBack_35 : decode cX2_giveBack 35 = .ok (.getfield 11, 3) := by decide +kernel
theorem dX2_giveBack_38 : decode cX2_giveBack 38 = .ok (.aload_n 0, 1) := by decide +kernel
theorem dX2_giveBack_39 : decode cX2_giveBack 39 = .ok (.getfield 18, 3) := by decide +kernel
theorem dX2_giveBack_42 : decode cX2_giveBack 42 = .ok (.aaload, 1) := by decide +kernel
theorem dX2_giveBack_43 : decode cX2_giveBack 43 = .ok (.invokevirtual 22, 3) := by decide +kernel
theorem dX2_giveBack_46 : decode cX2_giveBack 46 = .ok (.return_, 1) := by decide +kernel
theorem dX2_forget_0 : decode cX2_forget 0 = .ok (.aload_n 0, 1) := by decide +kernel
theorem dX2_forget_1 : decode cX2_forget 1 = .ok (.iconst 0, 1) := by decide +kernel
theorem dX2_forget_2 : decode cX2_forget 2 = .ok (.putfield 26, 3) := by decide +kernel
theorem dX2_forget_5 : decode cX2_forget 5 = .ok (.return_, 1) := by decide +kernel
theorem dX3_init_0 : decode cX3_init 0 = .ok (.aload_n 0, 1) := by decide +kernel
theorem dX3_init_1 : decode cX3_init 1 = .ok (.invokespecial 3, 3) := by decide +kernel
theorem dX3_init_4 : decode cX3_init 4 = .ok (.aload_n 0, 1) := by decide +kernel
theorem dX3_init_5 : decode cX3_init 5 = .ok (.bipush 49, 2) := by decide +kernel
theorem dX3_init_7 : decode cX3_init 7 = .ok (.newarray .int, 2) := by decide +kernel
theorem dX3_init_9 : decode cX3_init 9 = .ok (.putfield 9, 3) := by decide +kernel
theorem dX3_init_12 : decode cX3_init 12 = .ok (.return_, 1) := by decide +kernel
theorem dX3_copy_0 : decode cX3_copy 0 = .ok (.aload_n 0, 1) := by decide +kernel
theorem dX3_copy_1 : decode cX3_copy 1 = .ok (.aload_n 1, 1) := by decide +kernel
theorem dX3_copy_2 : decode cX3_copy 2 = .ok (.getfield 15, 3) := by decide +kernel
theorem dX3_copy_5 : decode cX3_copy 5 = .ok (.putfield 15, 3) := by decide +kernel
theorem dX3_copy_8 : decode cX3_copy 8 = .ok (.aload_n 1, 1) := by decide +kernel
theorem dX3_copy_9 : decode cX3_copy 9 = .ok (.getfield 9, 3) := by decide +kernel
theorem dX3_copy_12 : decode cX3_copy 12 = .ok (.iconst 0, 1) := by decide +kernel
theorem dX3_copy_13 : decode cX3_copy 13 = .ok (.aload_n 0, 1) := by decide +kernel
theorem dX3_copy_14 : decode cX3_copy 14 = .ok (.getfield 9, 3) := by decide +kernel
theorem dX3_copy_17 : decode cX3_copy 17 = .ok (.iconst 0, 1) := by decide +kernel
theorem dX3_copy_18 : decode cX3_copy 18 = .ok (.bipush 49, 2) := by decide +kernel
theorem dX3_copy_20 : decode cX3_copy 20 = .ok (.invokestatic 19, 3) := by decide +kernel
theorem dX3_copy_23 : decode cX3_copy 23 = .ok (.return_, 1) := by decide +kernel
theorem dX3_cornerAt_0 : decode cX3_cornerAt 0 = .ok (.aload_n 0, 1) := by decide +kernel
theorem dX3_cornerAt_1 : decode cX3_cornerAt 1 = .ok (.getfield 9, 3) := by decide +kernel
theorem dX3_cornerAt_4 : decode cX3_cornerAt 4 = .ok (.iload_n 1, 1) := by decide +kernel
theorem dX3_cornerAt_5 : decode cX3_cornerAt 5 = .ok (.bipush 7, 2) := by decide +kernel
theorem dX3_cornerAt_7 : decode cX3_cornerAt 7 = .ok (.imul, 1) := by decide +kernel
theorem dX3_cornerAt_8 : decode cX3_cornerAt 8 = .ok (.iload_n 2, 1) := by decide +kernel
theorem dX3_cornerAt_9 : decode cX3_cornerAt 9 = .ok (.iadd, 1) := by decide +kernel
theorem dX3_cornerAt_10 : decode cX3_cornerAt 10 = .ok (.iaload, 1) := by decide +kernel
theorem dX3_cornerAt_11 : decode cX3_cornerAt 11 = .ok (.ireturn, 1) := by decide +kernel
theorem dX3_putCorner_0 : decode cX3_putCorner 0 = .ok (.aload_n 0, 1) := by decide +kernel
theorem dX3_putCorner_1 : decode cX3_putCorner 1 = .ok (.getfield 9, 3) := by decide +kernel
theorem dX3_putCorner_4 : decode cX3_putCorner 4 = .ok (.iload_n 1, 1) := by decide +kernel
theorem dX3_putCorner_5 : decode cX3_putCorner 5 = .ok (.bipush 7, 2) := by decide +kernel
theorem dX3_putCorner_7 : decode cX3_putCorner 7 = .ok (.imul, 1) := by decide +kernel
theorem dX3_putCorner_8 : decode cX3_putCorner 8 = .ok (.iload_n 2, 1) := by decide +kernel
theorem dX3_putCorner_9 : decode cX3_putCorner 9 = .ok (.iadd, 1) := by decide +kernel
theorem dX3_putCorner_10 : decode cX3_putCorner 10 = .ok (.iload_n 3, 1) := by decide +kernel
theorem dX3_putCorner_11 : decode cX3_putCorner 11 = .ok (.iastore, 1) := by decide +kernel
theorem dX3_putCorner_12 : decode cX3_putCorner 12 = .ok (.return_, 1) := by decide +kernel
set_option maxRecDepth 20000 in
theorem ggX3_heightAt_X3_cornerAt : GoodIn wsX3_heightAt wsX3_cornerAt := goodIn_r _ [5, 6, 7, 8] (by decide +kernel) (by decide +kernel)
set_option maxRecDepth 20000 in
theorem gX3_heightAt_X3_cornerAt : GoodIn wsX3_heightAt (wsV RX3 25 RX3 yX3_cornerAt wsX3_cornerAt) := goodIn_app (goodIn_of _ (by decide +kernel)) ggX3_heightAt_X3_cornerAt
theorem dX3_heightAt_0 : decode cX3_heightAt 0 = .ok (.iload_n 1, 1) := by decide +kernel
theorem dX3_heightAt_1 : decode cX3_heightAt 1 = .ok (.iload_n 2, 1) := by decide +kernel
theorem dX3_heightAt_2 : decode cX3_heightAt 2 = .ok (.iadd, 1) := by decide +kernel
theorem dX3_heightAt_3 : decode cX3_heightAt 3 = .ok (.iconst 2, 1) := by decide +kernel
theorem dX3_heightAt_4 : decode cX3_heightAt 4 = .ok (.aload_n 0, 1) := by decide +kernel
theorem dX3_heightAt_5 : decode cX3_heightAt 5 = .ok (.iload_n 1, 1) := by decide +kernel
theorem dX3_heightAt_6 : decode cX3_heightAt 6 = .ok (.iload_n 2, 1) := by decide +kernel
theorem dX3_heightAt_7 : decode cX3_heightAt 7 = .ok (.invokevirtual 25, 3) := by decide +kernel
theorem dX3_heightAt_10 : decode cX3_heightAt 10 = .ok (.imul, 1) := by decide +kernel
theorem dX3_heightAt_11 : decode cX3_heightAt 11 = .ok (.isub, 1) := by decide +kernel
theorem dX3_heightAt_12 : decode cX3_heightAt 12 = .ok (.ireturn, 1) := by decide +kernel
set_option maxRecDepth 20000 in
theorem ggX3_rowSum_X3_cornerAt : GoodIn wsX3_rowSum wsX3_cornerAt := goodIn_r _ [5, 6, 7, 8] (by decide +kernel) (by decide +kernel)
set_option maxRecDepth 20000 in
theorem gX3_rowSum_X3_cornerAt : GoodIn wsX3_rowSum (wsV RX3 25 RX3 yX3_cornerAt wsX3_cornerAt) := goodIn_app (goodIn_of _ (by decide +kernel)) ggX3_rowSum_X3_cornerAt
theorem dX3_rowSum_0 : decode cX3_rowSum 0 = .ok (.aload_n 0, 1) := by decide +kernel
theorem dX3_rowSum_1 : decode cX3_rowSum 1 = .ok (.iload_n 1, 1) := by decide +kernel
theorem dX3_rowSum_2 : decode cX3_rowSum 2 = .ok (.iload_n 2, 1) := by decide +kernel
theorem dX3_rowSum_3 : decode cX3_rowSum 3 = .ok (.invokevirtual 25, 3) := by decide +kernel
theorem dX3_rowSum_6 : decode cX3_rowSum 6 = .ok (.aload_n 0, 1) := by decide +kernel
theorem dX3_rowSum_7 : decode cX3_rowSum 7 = .ok (.iload_n 1, 1) := by decide +kernel
theorem dX3_rowSum_8 : decode cX3_rowSum 8 = .ok (.iconst 1, 1) := by decide +kernel
theorem dX3_rowSum_9 : decode cX3_rowSum 9 = .ok (.isub, 1) := by decide +kernel
theorem dX3_rowSum_10 : decode cX3_rowSum 10 = .ok (.iload_n 2, 1) := by decide +kernel
theorem dX3_rowSum_11 : decode cX3_rowSum 11 = .ok (.invokevirtual 25, 3) := by decide +kernel
theorem dX3_rowSum_14 : decode cX3_rowSum 14 = .ok (.isub, 1) := by decide +kernel
theorem dX3_rowSum_15 : decode cX3_rowSum 15 = .ok (.ireturn, 1) := by decide +kernel
set_option maxRecDepth 20000 in
theorem ggX3_columnSum_X3_cornerAt : GoodIn wsX3_columnSum wsX3_cornerAt := goodIn_r _ [5, 6, 7, 8] (by decide +kernel) (by decide +kernel)
set_option maxRecDepth 20000 in
theorem gX3_columnSum_X3_cornerAt : GoodIn wsX3_columnSum (wsV RX3 25 RX3 yX3_cornerAt wsX3_cornerAt) := goodIn_app (goodIn_of _ (by decide +kernel)) ggX3_columnSum_X3_cornerAt
theorem dX3_columnSum_0 : decode cX3_columnSum 0 = .ok (.aload_n 0, 1) := by decide +kernel
theorem dX3_columnSum_1 : decode cX3_columnSum 1 = .ok (.iload_n 1, 1) := by decide +kernel
theorem dX3_columnSum_2 : decode cX3_columnSum 2 = .ok (.iload_n 2, 1) := by decide +kernel
theorem dX3_columnSum_3 : decode cX3_columnSum 3 = .ok (.invokevirtual 25, 3) := by decide +kernel
theorem dX3_columnSum_6 : decode cX3_columnSum 6 = .ok (.aload_n 0, 1) := by decide +kernel
theorem dX3_columnSum_7 : decode cX3_columnSum 7 = .ok (.iload_n 1, 1) := by decide +kernel
theorem dX3_columnSum_8 : decode cX3_columnSum 8 = .ok (.iload_n 2, 1) := by decide +kernel
theorem dX3_columnSum_9 : decode cX3_columnSum 9 = .ok (.iconst 1, 1) := by decide +kernel
theorem dX3_columnSum_10 : decode cX3_columnSum 10 = .ok (.isub, 1) := by decide +kernel
theorem dX3_columnSum_11 : decode cX3_columnSum 11 = .ok (.invokevirtual 25, 3) := by decide +kernel
theorem dX3_columnSum_14 : decode cX3_columnSum 14 = .ok (.isub, 1) := by decide +kernel
theorem dX3_columnSum_15 : decode cX3_columnSum 15 = .ok (.ireturn, 1) := by decide +kernel
set_option maxRecDepth 20000 in
theorem ggX3_signAt_X3_rowSum : GoodIn wsX3_signAt wsX3_rowSum := goodIn_r _ [5, 6, 7, 8, 4, 9, 10, 11, 12] (by decide +kernel) (by decide +kernel)
set_option maxRecDepth 20000 in
theorem gX3_signAt_X3_rowSum : GoodIn wsX3_signAt (wsV RX3 29 RX3 yX3_rowSum wsX3_rowSum) := goodIn_app (goodIn_of _ (by decide +kernel)) ggX3_signAt_X3_rowSum
theorem dX3_signAt_0 : decode cX3_signAt 0 = .ok (.aload_n 0, 1) := by decide +kernel
theorem dX3_signAt_1 : decode cX3_signAt 1 = .ok (.iload_n 1, 1) := by decide +kernel
theorem dX3_signAt_2 : decode cX3_signAt 2 = .ok (.iconst 1, 1) := by decide +kernel
theorem dX3_signAt_3 : decode cX3_signAt 3 = .ok (.iadd, 1) := by decide +kernel
theorem dX3_signAt_4 : decode cX3_signAt 4 = .ok (.iload_n 2, 1) := by decide +kernel
theorem dX3_signAt_5 : decode cX3_signAt 5 = .ok (.iconst 1, 1) := by decide +kernel
theorem dX3_signAt_6 : decode cX3_signAt 6 = .ok (.iadd, 1) := by decide +kernel
theorem dX3_signAt_7 : decode cX3_signAt 7 = .ok (.invokevirtual 29, 3) := by decide +kernel
theorem dX3_signAt_10 : decode cX3_signAt 10 = .ok (.aload_n 0, 1) := by decide +kernel
theorem dX3_signAt_11 : decode cX3_signAt 11 = .ok (.iload_n 1, 1) := by decide +kernel
theorem dX3_signAt_12 : decode cX3_signAt 12 = .ok (.iconst 1, 1) := by decide +kernel
theorem dX3_signAt_13 : decode cX3_signAt 13 = .ok (.iadd, 1) := by decide +kernel
theorem dX3_signAt_14 : decode cX3_signAt 14 = .ok (.iload_n 2, 1) := by decide +kernel
theorem dX3_signAt_15 : decode cX3_signAt 15 = .ok (.invokevirtual 29, 3) := by decide +kernel
theorem dX3_signAt_18 : decode cX3_signAt 18 = .ok (.isub, 1) := by decide +kernel
theorem dX3_signAt_19 : decode cX3_signAt 19 = .ok (.ireturn, 1) := by decide +kernel
set_option maxRecDepth 20000 in
theorem ggX3_negatives_X3_signAt : GoodIn wsX3_negatives wsX3_signAt := goodIn_r _ [6, 7, 8, 9, 5, 10, 11, 12, 13, 14, 15, 16, 17] (by decide +kernel) (by decide +kernel)
set_option maxRecDepth 20000 in
theorem gX3_negatives_X3_signAt : GoodIn wsX3_negatives (wsV RX3 32 RX3 yX3_signAt wsX3_signAt) := goodIn_app (goodIn_of _ (by decide +kernel)) ggX3_negatives_X3_signAt
theorem dX3_negatives_0 : decode cX3_negatives 0 = .ok (.iconst 0, 1) := by decide +kernel
theorem dX3_negatives_1 : decode cX3_negatives 1 = .ok (.istore_n 1, 1) := by decide +kernel
theorem dX3_negatives_2 : decode cX3_negatives 2 = .ok (.iconst 0, 1) := by decide +kernel
theorem dX3_negatives_3 : decode cX3_negatives 3 = .ok (.istore_n 2, 1) := by decide +kernel
theorem dX3_negatives_4 : decode cX3_negatives 4 = .ok (.iload_n 2, 1) := by decide +kernel
theorem dX3_negatives_5 : decode cX3_negatives 5 = .ok (.aload_n 0, 1) := by decide +kernel
theorem dX3_negatives_6 : decode cX3_negatives 6 = .ok (.getfield 15, 3) := by decide +kernel
theorem dX3_negatives_9 : decode cX3_negatives 9 = .ok (.if_icmp .ge 37, 3) := by decide +kernel
theorem dX3_negatives_12 : decode cX3_negatives 12 = .ok (.iconst 0, 1) := by decide +kernel
theorem dX3_negatives_13 : decode cX3_negatives 13 = .ok (.istore_n 3, 1) := by decide +kernel
theorem dX3_negatives_14 : decode cX3_negatives 14 = .ok (.iload_n 3, 1) := by decide +kernel
theorem dX3_negatives_15 : decode cX3_negatives 15 = .ok (.aload_n 0, 1) := by decide +kernel
theorem dX3_negatives_16 : decode cX3_negatives 16 = .ok (.getfield 15, 3) := by decide +kernel
theorem dX3_negatives_19 : decode cX3_negatives 19 = .ok (.if_icmp .ge 21, 3) := by decide +kernel
theorem dX3_negatives_22 : decode cX3_negatives 22 = .ok (.aload_n 0, 1) := by decide +kernel
theorem dX3_negatives_23 : decode cX3_negatives 23 = .ok (.iload_n 2, 1) := by decide +kernel
theorem dX3_negatives_24 : decode cX3_negatives 24 = .ok (.iload_n 3, 1) := by decide +kernel
theorem dX3_negatives_25 : decode cX3_negatives 25 = .ok (.invokevirtual 32, 3) := by decide +kernel
theorem dX3_negatives_28 : decode cX3_negatives 28 = .ok (.ifCond .ge 6, 3) := by decide +kernel
theorem dX3_negatives_31 : decode cX3_negatives 31 = .ok (.iinc 1 1, 3) := by decide +kernel
theorem dX3_negatives_34 : decode cX3_negatives 34 = .ok (.iinc 3 1, 3) := by decide +kernel
theorem dX3_negatives_37 : decode cX3_negatives 37 = .ok (.goto (-23), 3) := by decide +kernel
theorem dX3_negatives_40 : decode cX3_negatives 40 = .ok (.iinc 2 1, 3) := by decide +kernel
theorem dX3_negatives_43 : decode cX3_negatives 43 = .ok (.goto (-39), 3) := by decide +kernel
theorem dX3_negatives_46 : decode cX3_negatives 46 = .ok (.iload_n 1, 1) := by decide +kernel
theorem dX3_negatives_47 : decode cX3_negatives 47 = .ok (.ireturn, 1) := by decide +kernel
set_option maxRecDepth 20000 in
theorem ggX3_inversions_X3_cornerAt : GoodIn wsX3_inversions wsX3_cornerAt := goodIn_r _ [6, 7, 16, 17] (by decide +kernel) (by decide +kernel)
set_option maxRecDepth 20000 in
theorem gX3_inversions_X3_cornerAt : GoodIn wsX3_inversions (wsV RX3 25 RX3 yX3_cornerAt wsX3_cornerAt) := goodIn_app (goodIn_of _ (by decide +kernel)) ggX3_inversions_X3_cornerAt
set_option maxRecDepth 20000 in
theorem ggX3_inversions_X3_signAt : GoodIn wsX3_inversions wsX3_signAt := goodIn_r _ [11, 12, 13, 14, 5, 15, 2, 3, 4, 6, 7, 16, 17] (by decide +kernel) (by decide +kernel)
set_option maxRecDepth 20000 in
theorem gX3_inversions_X3_signAt : GoodIn wsX3_inversions (wsV RX3 32 RX3 yX3_signAt wsX3_signAt) := goodIn_app (goodIn_of _ (by decide +kernel)) ggX3_inversions_X3_signAt
theorem dX3_inversions_0 : decode cX3_inversions 0 = .ok (.iconst 0, 1) := by decide +kernel
theorem dX3_inversions_1 : decode cX3_inversions 1 = .ok (.istore_n 1, 1) := by decide +kernel
theorem dX3_inversions_2 : decode cX3_inversions 2 = .ok (.iconst 0, 1) := by decide +kernel
theorem dX3_inversions_3 : decode cX3_inversions 3 = .ok (.istore_n 2, 1) := by decide +kernel
theorem dX3_inversions_4 : decode cX3_inversions 4 = .ok (.iload_n 2, 1) := by decide +kernel
theorem dX3_inversions_5 : decode cX3_inversions 5 = .ok (.aload_n 0, 1) := by decide +kernel
theorem dX3_inversions_6 : decode cX3_inversions 6 = .ok (.getfield 15, 3) := by decide +kernel
theorem dX3_inversions_9 : decode cX3_inversions 9 = .ok (.if_icmp .ge 49, 3) := by decide +kernel
theorem dX3_inversions_12 : decode cX3_inversions 12 = .ok (.iconst 0, 1) := by decide +kernel
theorem dX3_inversions_13 : decode cX3_inversions 13 = .ok (.istore_n 3, 1) := by decide +kernel
theorem dX3_inversions_14 : decode cX3_inversions 14 = .ok (.iload_n 3, 1) := by decide +kernel
theorem dX3_inversions_15 : decode cX3_inversions 15 = .ok (.aload_n 0, 1) := by decide +kernel
theorem dX3_inversions_16 : decode cX3_inversions 16 = .ok (.getfield 15, 3) := by decide +kernel
theorem dX3_inversions_19 : decode cX3_inversions 19 = .ok (.if_icmp .ge 33, 3) := by decide +kernel
theorem dX3_inversions_22 : decode cX3_inversions 22 = .ok (.iload_n 3, 1) := by decide +kernel
theorem dX3_inversions_23 : decode cX3_inversions 23 = .ok (.aload_n 0, 1) := by decide +kernel
theorem dX3_inversions_24 : decode cX3_inversions 24 = .ok (.iload_n 2, 1) := by decide +kernel
theorem dX3_inversions_25 : decode cX3_inversions 25 = .ok (.iconst 1, 1) := by decide +kernel
theorem dX3_inversions_26 : decode cX3_inversions 26 = .ok (.iadd, 1) := by decide +kernel
theorem dX3_inversions_27 : decode cX3_inversions 27 = .ok (.iload_n 3, 1) := by decide +kernel
theorem dX3_inversions_28 : decode cX3_inversions 28 = .ok (.invokevirtual 25, 3) := by decide +kernel
theorem dX3_inversions_31 : decode cX3_inversions 31 = .ok (.isub, 1) := by decide +kernel
theorem dX3_inversions_32 : decode cX3_inversions 32 = .ok (.istore 4, 2) := by decide +kernel
theorem dX3_inversions_34 : decode cX3_inversions 34 = .ok (.iload_n 1, 1) := by decide +kernel
theorem dX3_inversions_35 : decode cX3_inversions 35 = .ok (.aload_n 0, 1) := by decide +kernel
theorem dX3_inversions_36 : decode cX3_inversions 36 = .ok (.iload_n 2, 1) := by decide +kernel
theorem dX3_inversions_37 : decode cX3_inversions 37 = .ok (.iload_n 3, 1) := by decide +kernel
theorem dX3_inversions_38 : decode cX3_inversions 38 = .ok (.invokevirtual 32, 3) := by decide +kernel
theorem dX3_inversions_41 : decode cX3_inversions 41 = .ok (.iload 4, 2) := by decide +kernel
theorem dX3_inversions_43 : decode cX3_inversions 43 = .ok (.imul, 1) := by decide +kernel
theorem dX3_inversions_44 : decode cX3_inversions 44 = .ok (.iadd, 1) := by decide +kernel
theorem dX3_inversions_45 : decode cX3_inversions 45 = .ok (.istore_n 1, 1) := by decide +kernel
theorem dX3_inversions_46 : decode cX3_inversions 46 = .ok (.iinc 3 1, 3) := by decide +kernel
theorem dX3_inversions_49 : decode cX3_inversions 49 = .ok (.goto (-35), 3) := by decide +kernel
theorem dX3_inversions_52 : decode cX3_inversions 52 = .ok (.iinc 2 1, 3) := by decide +kernel
theorem dX3_inversions_55 : decode cX3_inversions 55 = .ok (.goto (-51), 3) := by decide +kernel
theorem dX3_inversions_58 : decode cX3_inversions 58 = .ok (.iload_n 1, 1) := by decide +kernel
theorem dX3_inversions_59 : decode cX3_inversions 59 = .ok (.ireturn, 1) := by decide +kernel
set_option maxRecDepth 20000 in
theorem ggX3_heightsTogether_X3_heightAt : GoodIn wsX3_heightsTogether wsX3_heightAt := goodIn_r _ [6, 7, 8, 9, 5, 10, 11, 12, 13] (by decide +kernel) (by decide +kernel)
set_option maxRecDepth 20000 in
theorem gX3_heightsTogether_X3_heightAt : GoodIn wsX3_heightsTogether (wsV RX3 35 RX3 yX3_heightAt wsX3_heightAt) := goodIn_app (goodIn_of _ (by decide +kernel)) ggX3_heightsTogether_X3_heightAt
theorem dX3_heightsTogether_0 : decode cX3_heightsTogether 0 = .ok (.iconst 0, 1) := by decide +kernel
theorem dX3_heightsTogether_1 : decode cX3_heightsTogether 1 = .ok (.istore_n 1, 1) := by decide +kernel
theorem dX3_heightsTogether_2 : decode cX3_heightsTogether 2 = .ok (.iconst 0, 1) := by decide +kernel
theorem dX3_heightsTogether_3 : decode cX3_heightsTogether 3 = .ok (.istore_n 2, 1) := by decide +kernel
theorem dX3_heightsTogether_4 : decode cX3_heightsTogether 4 = .ok (.iload_n 2, 1) := by decide +kernel
theorem dX3_heightsTogether_5 : decode cX3_heightsTogether 5 = .ok (.aload_n 0, 1) := by decide +kernel
theorem dX3_heightsTogether_6 : decode cX3_heightsTogether 6 = .ok (.getfield 15, 3) := by decide +kernel
theorem dX3_heightsTogether_9 : decode cX3_heightsTogether 9 = .ok (.if_icmp .gt 34, 3) := by decide +kernel
theorem dX3_heightsTogether_12 : decode cX3_heightsTogether 12 = .ok (.iconst 0, 1) := by decide +kernel
theorem dX3_heightsTogether_13 : decode cX3_heightsTogether 13 = .ok (.istore_n 3, 1) := by decide +kernel
theorem dX3_heightsTogether_14 : decode cX3_heightsTogether 14 = .ok (.iload_n 3, 1) := by decide +kernel
theorem dX3_heightsTogether_15 : decode cX3_heightsTogether 15 = .ok (.aload_n 0, 1) := by decide +kernel
theorem dX3_heightsTogether_16 : decode cX3_heightsTogether 16 = .ok (.getfield 15, 3) := by decide +kernel
theorem dX3_heightsTogether_19 : decode cX3_heightsTogether 19 = .ok (.if_icmp .gt 18, 3) := by decide +kernel
theorem dX3_heightsTogether_22 : decode cX3_heightsTogether 22 = .ok (.iload_n 1, 1) := by decide +kernel
theorem dX3_heightsTogether_23 : decode cX3_heightsTogether 23 = .ok (.aload_n 0, 1) := by decide +kernel
theorem dX3_heightsTogether_24 : decode cX3_heightsTogether 24 = .ok (.iload_n 2, 1) := by decide +kernel
theorem dX3_heightsTogether_25 : decode cX3_heightsTogether 25 = .ok (.iload_n 3, 1) := by decide +kernel
theorem dX3_heightsTogether_26 : decode cX3_heightsTogether 26 = .ok (.invokevirtual 35, 3) := by decide +kernel
theorem dX3_heightsTogether_29 : decode cX3_heightsTogether 29 = .ok (.iadd, 1) := by decide +kernel
theorem dX3_heightsTogether_30 : decode cX3_heightsTogether 30 = .ok (.istore_n 1, 1) := by decide +kernel
theorem dX3_heightsTogether_31 : decode cX3_heightsTogether 31 = .ok (.iinc 3 1, 3) := by decide +kernel
theorem dX3_heightsTogether_34 : decode cX3_heightsTogether 34 = .ok (.goto (-20), 3) := by decide +kernel
theorem dX3_heightsTogether_37 : decode cX3_heightsTogether 37 = .ok (.iinc 2 1, 3) := by decide +kernel
theorem dX3_heightsTogether_40 : decode cX3_heightsTogether 40 = .ok (.goto (-36), 3) := by decide +kernel
theorem dX3_heightsTogether_43 : decode cX3_heightsTogether 43 = .ok (.iload_n 1, 1) := by decide +kernel
theorem dX3_heightsTogether_44 : decode cX3_heightsTogether 44 = .ok (.ireturn, 1) := by decide +kernel
set_option maxRecDepth 20000 in
theorem ggX3_flipKind_X3_heightAt : GoodIn wsX3_flipKind wsX3_heightAt := goodIn_r _ [5, 6, 7, 8, 4, 9, 10, 11, 12] (by decide +kernel) (by decide +kernel)
set_option maxRecDepth 20000 in
theorem gX3_flipKind_X3_heightAt : GoodIn wsX3_flipKind (wsV RX3 35 RX3 yX3_heightAt wsX3_heightAt) := goodIn_app (goodIn_of _ (by decide +kernel)) ggX3_flipKind_X3_heightAt
theorem dX3_flipKind_0 : decode cX3_flipKind 0 = .ok (.aload_n 0, 1) := by decide +kernel
theorem dX3_flipKind_1 : decode cX3_flipKind 1 = .ok (.iload_n 1, 1) := by decide +kernel
theorem dX3_flipKind_2 : decode cX3_flipKind 2 = .ok (.iconst 1, 1) := by decide +kernel
theorem dX3_flipKind_3 : decode cX3_flipKind 3 = .ok (.isub, 1) := by decide +kernel
theorem dX3_flipKind_4 : decode cX3_flipKind 4 = .ok (.iload_n 2, 1) := by decide +kernel
theorem dX3_flipKind_5 : decode cX3_flipKind 5 = .ok (.invokevirtual 35, 3) := by decide +kernel
theorem dX3_flipKind_8 : decode cX3_flipKind 8 = .ok (.istore_n 3, 1) := by decide +kernel
theorem dX3_flipKind_9 : decode cX3_flipKind 9 = .ok (.aload_n 0, 1) := by decide +kernel
theorem dX3_flipKind_10 : decode cX3_flipKind 10 = .ok (.iload_n 1, 1) := by decide +kernel
theorem dX3_flipKind_11 : decode cX3_flipKind 11 = .ok (.iconst 1, 1) := by decide +kernel
theorem dX3_flipKind_12 : decode cX3_flipKind 12 = .ok (.iadd, 1) := by decide +kernel
theorem dX3_flipKind_13 : decode cX3_flipKind 13 = .ok (.iload_n 2, 1) := by decide +kernel
theorem dX3_flipKind_14 : decode cX3_flipKind 14 = .ok (.invokevirtual 35, 3) := by decide +kernel
theorem dX3_flipKind_17 : decode cX3_flipKind 17 = .ok (.iload_n 3, 1) := by decide +kernel
theorem dX3_flipKind_18 : decode cX3_flipKind 18 = .ok (.if_icmp .ne 27, 3) := by decide +kernel
theorem dX3_flipKind_21 : decode cX3_flipKind 21 = .ok (.aload_n 0, 1) := by decide +kernel
theorem dX3_flipKind_22 : decode cX3_flipKind 22 = .ok (.iload_n 1, 1) := by decide +kernel
theorem dX3_flipKind_23 : decode cX3_flipKind 23 = .ok (.iload_n 2, 1) := by decide +kernel
theorem dX3_flipKind_24 : decode cX3_flipKind 24 = .ok (.iconst 1, 1) := by decide +kernel
theorem dX3_flipKind_25 : decode cX3_flipKind 25 = .ok (.isub, 1) := by decide +kernel
theorem dX3_flipKind_26 : decode cX3_flipKind 26 = .ok (.invokevirtual 35, 3) := by decide +kernel
theorem dX3_flipKind_29 : decode cX3_flipKind 29 = .ok (.iload_n 3, 1) := by decide +kernel
theorem dX3_flipKind_30 : decode cX3_flipKind 30 = .ok (.if_icmp .ne 15, 3) := by decide +kernel
theorem dX3_flipKind_33 : decode cX3_flipKind 33 = .ok (.aload_n 0, 1) := by decide +kernel
theorem dX3_flipKind_34 : decode cX3_flipKind 34 = .ok (.iload_n 1, 1) := by decide +kernel
theorem dX3_flipKind_35 : decode cX3_flipKind 35 = .ok (.iload_n 2, 1) := by decide +kernel
theorem dX3_flipKind_36 : decode cX3_flipKind 36 = .ok (.iconst 1, 1) := by decide +kernel
theorem dX3_flipKind_37 : decode cX3_flipKind 37 = .ok (.iadd, 1) := by decide +kernel
theorem dX3_flipKind_38 : decode cX3_flipKind 38 = .ok (.invokevirtual 35, 3) := by decide +kernel
theorem dX3_flipKind_41 : decode cX3_flipKind 41 = .ok (.iload_n 3, 1) := by decide +kernel
theorem dX3_flipKind_42 : decode cX3_flipKind 42 = .ok (.if_icmp .eq 5, 3) := by decide +kernel
theorem dX3_flipKind_45 : decode cX3_flipKind 45 = .ok (.iconst 0, 1) := by decide +kernel
theorem dX3_flipKind_46 : decode cX3_flipKind 46 = .ok (.ireturn, 1) := by decide +kernel
theorem dX3_flipKind_47 : decode cX3_flipKind 47 = .ok (.aload_n 0, 1) := by decide +kernel
theorem dX3_flipKind_48 : decode cX3_flipKind 48 = .ok (.iload_n 1, 1) := by decide +kernel
theorem dX3_flipKind_49 : decode cX3_flipKind 49 = .ok (.iload_n 2, 1) := by decide +kernel
theorem dX3_flipKind_50 : decode cX3_flipKind 50 = .ok (.invokevirtual 35, 3) := by decide +kernel
theorem dX3_flipKind_53 : decode cX3_flipKind 53 = .ok (.iload_n 3, 1) := by decide +kernel
theorem dX3_flipKind_54 : decode cX3_flipKind 54 = .ok (.if_icmp .ge 7, 3) := by decide +kernel
theorem dX3_flipKind_57 : decode cX3_flipKind 57 = .ok (.iconst 1, 1) := by decide +kernel
theorem dX3_flipKind_58 : decode cX3_flipKind 58 = .ok (.goto 4, 3) := by decide +kernel
theorem dX3_flipKind_61 : decode cX3_flipKind 61 = .ok (.iconst 2, 1) := by decide +kernel
theorem dX3_flipKind_62 : decode cX3_flipKind 62 = .ok (.ireturn, 1) := by decide +kernel
set_option maxRecDepth 20000 in
theorem ggX3_flippable_X3_flipKind : GoodIn wsX3_flippable wsX3_flipKind := goodIn_r _ [6, 7, 8, 9, 5, 10, 11, 12, 13, 14, 15, 16, 17] (by decide +kernel) (by decide +kernel)
set_option maxRecDepth 20000 in
theorem gX3_flippable_X3_flipKind : GoodIn wsX3_flippable (wsV RX3 38 RX3 yX3_flipKind wsX3_flipKind) := goodIn_app (goodIn_of _ (by decide +kernel)) ggX3_flippable_X3_flipKind
theorem dX3_flippable_0 : decode cX3_flippable 0 = .ok (.iconst 0, 1) := by decide +kernel
theorem dX3_flippable_1 : decode cX3_flippable 1 = .ok (.istore_n 1, 1) := by decide +kernel
theorem dX3_flippable_2 : decode cX3_flippable 2 = .ok (.iconst 1, 1) := by decide +kernel
theorem dX3_flippable_3 : decode cX3_flippable 3 = .ok (.istore_n 2, 1) := by decide +kernel
theorem dX3_flippable_4 : decode cX3_flippable 4 = .ok (.iload_n 2, 1) := by decide +kernel
theorem dX3_flippable_5 : decode cX3_flippable 5 = .ok (.aload_n 0, 1) := by decide +kernel
theorem dX3_flippable_6 : decode cX3_flippable 6 = .ok (.getfield 15, 3) := by decide +kernel
theorem dX3_flippable_9 : decode cX3_flippable 9 = .ok (.if_icmp .ge 37, 3) := by decide +kernel
theorem dX3_flippable_12 : decode cX3_flippable 12 = .ok (.iconst 1, 1) := by decide +kernel
theorem dX3_flippable_13 : decode cX3_flippable 13 = .ok (.istore_n 3, 1) := by decide +kernel
theorem dX3_flippable_14 : decode cX3_flippable 14 = .ok (.iload_n 3, 1) := by decide +kernel
theorem dX3_flippable_15 : decode cX3_flippable 15 = .ok (.aload_n 0, 1) := by decide +kernel
theorem dX3_flippable_16 : decode cX3_flippable 16 = .ok (.getfield 15, 3) := by decide +kernel
theorem dX3_flippable_19 : decode cX3_flippable 19 = .ok (.if_icmp .ge 21, 3) := by decide +kernel
theorem dX3_flippable_22 : decode cX3_flippable 22 = .ok (.aload_n 0, 1) := by decide +kernel
theorem dX3_flippable_23 : decode cX3_flippable 23 = .ok (.iload_n 2, 1) := by decide +kernel
theorem dX3_flippable_24 : decode cX3_flippable 24 = .ok (.iload_n 3, 1) := by decide +kernel
theorem dX3_flippable_25 : decode cX3_flippable 25 = .ok (.invokevirtual 38, 3) := by decide +kernel
theorem dX3_flippable_28 : decode cX3_flippable 28 = .ok (.ifCond .eq 6, 3) := by decide +kernel
theorem dX3_flippable_31 : decode cX3_flippable 31 = .ok (.iinc 1 1, 3) := by decide +kernel
theorem dX3_flippable_34 : decode cX3_flippable 34 = .ok (.iinc 3 1, 3) := by decide +kernel
theorem dX3_flippable_37 : decode cX3_flippable 37 = .ok (.goto (-23), 3) := by decide +kernel
theorem dX3_flippable_40 : decode cX3_flippable 40 = .ok (.iinc 2 1, 3) := by decide +kernel
theorem dX3_flippable_43 : decode cX3_flippable 43 = .ok (.goto (-39), 3) := by decide +kernel
theorem dX3_flippable_46 : decode cX3_flippable 46 = .ok (.iload_n 1, 1) := by decide +kernel
theorem dX3_flippable_47 : decode cX3_flippable 47 = .ok (.ireturn, 1) := by decide +kernel
set_option maxRecDepth 20000 in
theorem ggX3_flipAt_X3_flipKind : GoodIn wsX3_flipAt wsX3_flipKind := goodIn_r _ [5, 6, 7, 8, 4, 9, 10, 11, 12, 13, 14, 19, 20] (by decide +kernel) (by decide +kernel)
set_option maxRecDepth 20000 in
theorem gX3_flipAt_X3_flipKind : GoodIn wsX3_flipAt (wsV RX3 38 RX3 yX3_flipKind wsX3_flipKind) := goodIn_app (goodIn_of _ (by decide +kernel)) ggX3_flipAt_X3_flipKind
set_option maxRecDepth 20000 in
theorem ggX3_flipAt_X3_cornerAt : GoodIn wsX3_flipAt wsX3_cornerAt := goodIn_r _ [13, 14, 19, 20] (by decide +kernel) (by decide +kernel)
set_option maxRecDepth 20000 in
theorem gX3_flipAt_X3_cornerAt : GoodIn wsX3_flipAt (wsV RX3 25 RX3 yX3_cornerAt wsX3_cornerAt) := goodIn_app (goodIn_of _ (by decide +kernel)) ggX3_flipAt_X3_cornerAt
set_option maxRecDepth 20000 in
theorem ggX3_flipAt_X3_putCorner : GoodIn wsX3_flipAt wsX3_putCorner := goodIn_r _ [18, 14, 19, 20] (by decide +kernel) (by decide +kernel)
set_option maxRecDepth 20000 in
theorem gX3_flipAt_X3_putCorner : GoodIn wsX3_flipAt (wsV RX3 41 RX3 yX3_putCorner wsX3_putCorner) := goodIn_app (goodIn_of _ (by decide +kernel)) ggX3_flipAt_X3_putCorner
theorem dX3_flipAt_0 : decode cX3_flipAt 0 = .ok (.aload_n 0, 1) := by decide +kernel
theorem dX3_flipAt_1 : decode cX3_flipAt 1 = .ok (.iload_n 1, 1) := by decide +kernel
theorem dX3_flipAt_2 : decode cX3_flipAt 2 = .ok (.iload_n 2, 1) := by decide +kernel
theorem dX3_flipAt_3 : decode cX3_flipAt 3 = .ok (.invokevirtual 38, 3) := by decide +kernel
theorem dX3_flipAt_6 : decode cX3_flipAt 6 = .ok (.iconst 1, 1) := by decide +kernel
theorem dX3_flipAt_7 : decode cX3_flipAt 7 = .ok (.if_icmp .ne 7, 3) := by decide +kernel
theorem dX3_flipAt_10 : decode cX3_flipAt 10 = .ok (.iconst (-1), 1) := by decide +kernel
theorem dX3_flipAt_11 : decode cX3_flipAt 11 = .ok (.goto 4, 3) := by decide +kernel
theorem dX3_flipAt_14 : decode cX3_flipAt 14 = .ok (.iconst 1, 1) := by decide +kernel
theorem dX3_flipAt_15 : decode cX3_flipAt 15 = .ok (.istore_n 3, 1) := by decide +kernel
theorem dX3_flipAt_16 : decode cX3_flipAt 16 = .ok (.aload_n 0, 1) := by decide +kernel
theorem dX3_flipAt_17 : decode cX3_flipAt 17 = .ok (.iload_n 1, 1) := by decide +kernel
theorem dX3_flipAt_18 : decode cX3_flipAt 18 = .ok (.iload_n 2, 1) := by decide +kernel
theorem dX3_flipAt_19 : decode cX3_flipAt 19 = .ok (.aload_n 0, 1) := by decide +kernel
theorem dX3_flipAt_20 : decode cX3_flipAt 20 = .ok (.iload_n 1, 1) := by decide +kernel
theorem dX3_flipAt_21 : decode cX3_flipAt 21 = .ok (.iload_n 2, 1) := by decide +kernel
theorem dX3_flipAt_22 : decode cX3_flipAt 22 = .ok (.invokevirtual 25, 3) := by decide +kernel
theorem dX3_flipAt_25 : decode cX3_flipAt 25 = .ok (.iload_n 3, 1) := by decide +kernel
theorem dX3_flipAt_26 : decode cX3_flipAt 26 = .ok (.iadd, 1) := by decide +kernel
theorem dX3_flipAt_27 : decode cX3_flipAt 27 = .ok (.invokevirtual 41, 3) := by decide +kernel
theorem dX3_flipAt_30 : decode cX3_flipAt 30 = .ok (.return_, 1) := by decide +kernel
set_option maxRecDepth 20000 in
theorem ggX3_gyrateOnce_X3_flipAll : GoodIn wsX3_gyrateOnce wsX3_flipAll := goodIn_r _ [5, 6, 7, 8, 9, 4, 10, 11, 12, 13, 14, 15, 16, 17, 18, 19, 20, 21, 22, 23, 24, 25, 26, 27, 28, 29] (by decide +kernel) (by decide +kernel)
set_option maxRecDepth 20000 in
theorem gX3_gyrateOnce_X3_flipAll : GoodIn wsX3_gyrateOnce (wsV RX3 45 RX3 yX3_flipAll wsX3_flipAll) := goodIn_app (goodIn_of _ (by decide +kernel)) ggX3_gyrateOnce_X3_flipAll
theorem dX3_gyrateOnce_0 : decode cX3_gyrateOnce 0 = .ok (.aload_n 0, 1) := by decide +kernel
theorem dX3_gyrateOnce_1 : decode cX3_gyrateOnce 1 = .ok (.iconst 0, 1) := by decide +kernel
theorem dX3_gyrateOnce_2 : decode cX3_gyrateOnce 2 = .ok (.invokevirtual 45, 3) := by decide +kernel
theorem dX3_gyrateOnce_5 : decode cX3_gyrateOnce 5 = .ok (.aload_n 0, 1) := by decide +kernel
theorem dX3_gyrateOnce_6 : decode cX3_gyrateOnce 6 = .ok (.iconst 1, 1) := by decide +kernel
theorem dX3_gyrateOnce_7 : decode cX3_gyrateOnce 7 = .ok (.invokevirtual 45, 3) := by decide +kernel
theorem dX3_gyrateOnce_10 : decode cX3_gyrateOnce 10 = .ok (.iadd, 1) := by decide +kernel
theorem dX3_gyrateOnce_11 : decode cX3_gyrateOnce 11 = .ok (.ireturn, 1) := by decide +kernel
set_option maxRecDepth 20000 in
theorem ggX3_flipAll_X3_flipKind : GoodIn wsX3_flipAll wsX3_flipKind := goodIn_r _ [6, 7, 8, 9, 5, 10, 11, 12, 13, 14, 15, 24, 25] (by decide +kernel) (by decide +kernel)
set_option maxRecDepth 20000 in
theorem gX3_flipAll_X3_flipKind : GoodIn wsX3_flipAll (wsV RX3 38 RX3 yX3_flipKind wsX3_flipKind) := goodIn_app (goodIn_of _ (by decide +kernel)) ggX3_flipAll_X3_flipKind
set_option maxRecDepth 20000 in
theorem ggX3_flipAll_X3_flipAt : GoodIn wsX3_flipAll wsX3_flipAt := goodIn_r _ [19, 2, 3, 4, 5, 6, 7, 8, 9, 10, 11, 12, 13, 14, 15, 20, 21, 22, 23, 24, 25] (by decide +kernel) (by decide +kernel)
set_option maxRecDepth 20000 in
theorem gX3_flipAll_X3_flipAt : GoodIn wsX3_flipAll (wsV RX3 49 RX3 yX3_flipAt wsX3_flipAt) := goodIn_app (goodIn_of _ (by decide +kernel)) ggX3_flipAll_X3_flipAt
theorem dX3_flipAll_0 : decode cX3_flipAll 0 = .ok (.iconst 0, 1) := by decide +kernel
theorem dX3_flipAll_1 : decode cX3_flipAll 1 = .ok (.istore_n 2, 1) := by decide +kernel
theorem dX3_flipAll_2 : decode cX3_flipAll 2 = .ok (.iconst 1, 1) := by decide +kernel
theorem dX3_flipAll_3 : decode cX3_flipAll 3 = .ok (.istore_n 3, 1) := by decide +kernel
theorem dX3_flipAll_4 : decode cX3_flipAll 4 = .ok (.iload_n 3, 1) := by decide +kernel
theorem dX3_flipAll_5 : decode cX3_flipAll 5 = .ok (.aload_n 0, 1) := by decide +kernel
theorem dX3_flipAll_6 : decode cX3_flipAll 6 = .ok (.getfield 15, 3) := by decide +kernel
theorem dX3_flipAll_9 : decode cX3_flipAll 9 = .ok (.if_icmp .ge 57, 3) := by decide +kernel
theorem dX3_flipAll_12 : decode cX3_flipAll 12 = .ok (.iconst 1, 1) := by decide +kernel
theorem dX3_flipAll_13 : decode cX3_flipAll 13 = .ok (.istore 4, 2) := by decide +kernel
theorem dX3_flipAll_15 : decode cX3_flipAll 15 = .ok (.iload 4, 2) := by decide +kernel
theorem dX3_flipAll_17 : decode cX3_flipAll 17 = .ok (.aload_n 0, 1) := by decide +kernel
theorem dX3_flipAll_18 : decode cX3_flipAll 18 = .ok (.getfield 15, 3) := by decide +kernel
theorem dX3_flipAll_21 : decode cX3_flipAll 21 = .ok (.if_icmp .ge 39, 3) := by decide +kernel
theorem dX3_flipAll_24 : decode cX3_flipAll 24 = .ok (.iload_n 3, 1) := by decide +kernel
theorem dX3_flipAll_25 : decode cX3_flipAll 25 = .ok (.iload 4, 2) := by decide +kernel
theorem dX3_flipAll_27 : decode cX3_flipAll 27 = .ok (.iadd, 1) := by decide +kernel
theorem dX3_flipAll_28 : decode cX3_flipAll 28 = .ok (.iconst 2, 1) := by decide +kernel
theorem dX3_flipAll_29 : decode cX3_flipAll 29 = .ok (.irem, 1) := by decide +kernel
theorem dX3_flipAll_30 : decode cX3_flipAll 30 = .ok (.iload_n 1, 1) := by decide +kernel
theorem dX3_flipAll_31 : decode cX3_flipAll 31 = .ok (.if_icmp .ne 23, 3) := by decide +kernel
theorem dX3_flipAll_34 : decode cX3_flipAll 34 = .ok (.aload_n 0, 1) := by decide +kernel
theorem dX3_flipAll_35 : decode cX3_flipAll 35 = .ok (.iload_n 3, 1) := by decide +kernel
theorem dX3_flipAll_36 : decode cX3_flipAll 36 = .ok (.iload 4, 2) := by decide +kernel
theorem dX3_flipAll_38 : decode cX3_flipAll 38 = .ok (.invokevirtual 38, 3) := by decide +kernel
theorem dX3_flipAll_41 : decode cX3_flipAll 41 = .ok (.ifCond .eq 13, 3) := by decide +kernel
theorem dX3_flipAll_44 : decode cX3_flipAll 44 = .ok (.aload_n 0, 1) := by decide +kernel
theorem dX3_flipAll_45 : decode cX3_flipAll 45 = .ok (.iload_n 3, 1) := by decide +kernel
theorem dX3_flipAll_46 : decode cX3_flipAll 46 = .ok (.iload 4, 2) := by decide +kernel
theorem dX3_flipAll_48 : decode cX3_flipAll 48 = .ok (.invokevirtual 49, 3) := by decide +kernel
theorem dX3_flipAll_51 : decode cX3_flipAll 51 = .ok (.iinc 2 1, 3) := by decide +kernel
theorem dX3_flipAll_54 : decode cX3_flipAll 54 = .ok (.iinc 4 1, 3) := by decide +kernel
theorem dX3_flipAll_57 : decode cX3_flipAll 57 = .ok (.goto (-42), 3) := by decide +kernel
theorem dX3_flipAll_60 : decode cX3_flipAll 60 = .ok (.iinc 3 1, 3) := by decide +kernel
theorem dX3_flipAll_63 : decode cX3_flipAll 63 = .ok (.goto (-59), 3) := by decide +kernel
theorem dX3_flipAll_66 : decode cX3_flipAll 66 = .ok (.iload_n 2, 1) := by decide +kernel
theorem dX3_flipAll_67 : decode cX3_flipAll 67 = .ok (.ireturn, 1) := by decide +kernel
set_option maxRecDepth 20000 in
theorem ggX3_distance_X3_cornerAt : GoodIn wsX3_distance wsX3_cornerAt := goodIn_r _ [10, 11, 12, 13] (by decide +kernel) (by decide +kernel)
set_option maxRecDepth 20000 in
theorem gX3_distance_X3_cornerAt : GoodIn wsX3_distance (wsV RX3 25 RX3 yX3_cornerAt wsX3_cornerAt) := goodIn_app (goodIn_of _ (by decide +kernel)) ggX3_distance_X3_cornerAt
theorem dX3_distance_0 : decode cX3_distance 0 = .ok (.iconst 0, 1) := by decide +kernel
theorem dX3_distance_1 : decode cX3_distance 1 = .ok (.istore_n 2, 1) := by decide +kernel
theorem dX3_distance_2 : decode cX3_distance 2 = .ok (.iconst 1, 1) := by decide +kernel
theorem dX3_distance_3 : decode cX3_distance 3 = .ok (.istore_n 3, 1) := by decide +kernel
theorem dX3_distance_4 : decode cX3_distance 4 = .ok (.iload_n 3, 1) := by decide +kernel
theorem dX3_distance_5 : decode cX3_distance 5 = .ok (.aload_n 0, 1) := by decide +kernel
theorem dX3_distance_6 : decode cX3_distance 6 = .ok (.getfield 15, 3) := by decide +kernel
theorem dX3_distance_9 : decode cX3_distance 9 = .ok (.if_icmp .ge 48, 3) := by decide +kernel
theorem dX3_distance_12 : decode cX3_distance 12 = .ok (.iconst 1, 1) := by decide +kernel
theorem dX3_distance_13 : decode cX3_distance 13 = .ok (.istore 4, 2) := by decide +kernel
theorem dX3_distance_15 : decode cX3_distance 15 = .ok (.iload 4, 2) := by decide +kernel
theorem dX3_distance_17 : decode cX3_distance 17 = .ok (.aload_n 0, 1) := by decide +kernel
theorem dX3_distance_18 : decode cX3_distance 18 = .ok (.getfield 15, 3) := by decide +kernel
theorem dX3_distance_21 : decode cX3_distance 21 = .ok (.if_icmp .ge 30, 3) := by decide +kernel
theorem dX3_distance_24 : decode cX3_distance 24 = .ok (.iload_n 2, 1) := by decide +kernel
theorem dX3_distance_25 : decode cX3_distance 25 = .ok (.aload_n 0, 1) := by decide +kernel
theorem dX3_distance_26 : decode cX3_distance 26 = .ok (.iload_n 3, 1) := by decide +kernel
theorem dX3_distance_27 : decode cX3_distance 27 = .ok (.iload 4, 2) := by decide +kernel
theorem dX3_distance_29 : decode cX3_distance 29 = .ok (.invokevirtual 25, 3) := by decide +kernel
theorem dX3_distance_32 : decode cX3_distance 32 = .ok (.aload_n 1, 1) := by decide +kernel
theorem dX3_distance_33 : decode cX3_distance 33 = .ok (.iload_n 3, 1) := by decide +kernel
theorem dX3_distance_34 : decode cX3_distance 34 = .ok (.iload 4, 2) := by decide +kernel
theorem dX3_distance_36 : decode cX3_distance 36 = .ok (.invokevirtual 25, 3) := by decide +kernel
theorem dX3_distance_39 : decode cX3_distance 39 = .ok (.isub, 1) := by decide +kernel
theorem dX3_distance_40 : decode cX3_distance 40 = .ok (.invokestatic 53, 3) := by decide +kernel
theorem dX3_distance_43 : decode cX3_distance 43 = .ok (.iadd, 1) := by decide +kernel
theorem dX3_distance_44 : decode cX3_distance 44 = .ok (.istore_n 2, 1) := by decide +kernel
theorem dX3_distance_45 : decode cX3_distance 45 = .ok (.iinc 4 1, 3) := by decide +kernel
theorem dX3_distance_48 : decode cX3_distance 48 = .ok (.goto (-33), 3) := by decide +kernel
theorem dX3_distance_51 : decode cX3_distance 51 = .ok (.iinc 3 1, 3) := by decide +kernel
theorem dX3_distance_54 : decode cX3_distance 54 = .ok (.goto (-50), 3) := by decide +kernel
theorem dX3_distance_57 : decode cX3_distance 57 = .ok (.iload_n 2, 1) := by decide +kernel
theorem dX3_distance_58 : decode cX3_distance 58 = .ok (.ireturn, 1) := by decide +kernel
set_option maxRecDepth 20000 in
theorem ggX3_wayTo_X3_heightAt : GoodIn wsX3_wayTo wsX3_heightAt := goodIn_r _ [5, 6, 7, 8, 4, 9, 10, 11, 12] (by decide +kernel) (by decide +kernel)
set_option maxRecDepth 20000 in
theorem gX3_wayTo_X3_heightAt : GoodIn wsX3_wayTo (wsV RX3 35 RX3 yX3_heightAt wsX3_heightAt) := goodIn_app (goodIn_of _ (by decide +kernel)) ggX3_wayTo_X3_heightAt
theorem dX3_wayTo_0 : decode cX3_wayTo 0 = .ok (.aload_n 1, 1) := by decide +kernel
theorem dX3_wayTo_1 : decode cX3_wayTo 1 = .ok (.iload_n 2, 1) := by decide +kernel
theorem dX3_wayTo_2 : decode cX3_wayTo 2 = .ok (.iload_n 3, 1) := by decide +kernel
theorem dX3_wayTo_3 : decode cX3_wayTo 3 = .ok (.invokevirtual 35, 3) := by decide +kernel
theorem dX3_wayTo_6 : decode cX3_wayTo 6 = .ok (.aload_n 0, 1) := by decide +kernel
theorem dX3_wayTo_7 : decode cX3_wayTo 7 = .ok (.iload_n 2, 1) := by decide +kernel
theorem dX3_wayTo_8 : decode cX3_wayTo 8 = .ok (.iload_n 3, 1) := by decide +kernel
theorem dX3_wayTo_9 : decode cX3_wayTo 9 = .ok (.invokevirtual 35, 3) := by decide +kernel
theorem dX3_wayTo_12 : decode cX3_wayTo 12 = .ok (.isub, 1) := by decide +kernel
theorem dX3_wayTo_13 : decode cX3_wayTo 13 = .ok (.istore 4, 2) := by decide +kernel
theorem dX3_wayTo_15 : decode cX3_wayTo 15 = .ok (.iload 4, 2) := by decide +kernel
theorem dX3_wayTo_17 : decode cX3_wayTo 17 = .ok (.ifCond .le 7, 3) := by decide +kernel
theorem dX3_wayTo_20 : decode cX3_wayTo 20 = .ok (.iconst 1, 1) := by decide +kernel
theorem dX3_wayTo_21 : decode cX3_wayTo 21 = .ok (.goto 13, 3) := by decide +kernel
theorem dX3_wayTo_24 : decode cX3_wayTo 24 = .ok (.iload 4, 2) := by decide +kernel
theorem dX3_wayTo_26 : decode cX3_wayTo 26 = .ok (.ifCond .ge 7, 3) := by decide +kernel
theorem dX3_wayTo_29 : decode cX3_wayTo 29 = .ok (.iconst 2, 1) := by decide +kernel
theorem dX3_wayTo_30 : decode cX3_wayTo 30 = .ok (.goto 4, 3) := by decide +kernel
theorem dX3_wayTo_33 : decode cX3_wayTo 33 = .ok (.iconst 0, 1) := by decide +kernel
theorem dX3_wayTo_34 : decode cX3_wayTo 34 = .ok (.ireturn, 1) := by decide +kernel
set_option maxRecDepth 20000 in
theorem ggX3_comesNearer_X3_flipKind : GoodIn wsX3_comesNearer wsX3_flipKind := goodIn_r _ [5, 6, 7, 8, 4, 9, 10, 11, 12, 13, 14, 19, 20] (by decide +kernel) (by decide +kernel)
set_option maxRecDepth 20000 in
theorem gX3_comesNearer_X3_flipKind : GoodIn wsX3_comesNearer (wsV RX3 38 RX3 yX3_flipKind wsX3_flipKind) := goodIn_app (goodIn_of _ (by decide +kernel)) ggX3_comesNearer_X3_flipKind
set_option maxRecDepth 20000 in
theorem ggX3_comesNearer_X3_wayTo : GoodIn wsX3_comesNearer wsX3_wayTo := goodIn_r _ [18, 6, 7, 8, 4, 9, 10, 11, 12, 13, 14, 19, 20] (by decide +kernel) (by decide +kernel)
set_option maxRecDepth 20000 in
theorem gX3_comesNearer_X3_wayTo : GoodIn wsX3_comesNearer (wsV RX3 58 RX3 yX3_wayTo wsX3_wayTo) := goodIn_app (goodIn_of _ (by decide +kernel)) ggX3_comesNearer_X3_wayTo
theorem dX3_comesNearer_0 : decode cX3_comesNearer 0 = .ok (.aload_n 0, 1) := by decide +kernel
theorem dX3_comesNearer_1 : decode cX3_comesNearer 1 = .ok (.iload_n 1, 1) := by decide +kernel
theorem dX3_comesNearer_2 : decode cX3_comesNearer 2 = .ok (.iload_n 2, 1) := by decide +kernel
theorem dX3_comesNearer_3 : decode cX3_comesNearer 3 = .ok (.invokevirtual 38, 3) := by decide +kernel
theorem dX3_comesNearer_6 : decode cX3_comesNearer 6 = .ok (.istore 4, 2) := by decide +kernel
theorem dX3_comesNearer_8 : decode cX3_comesNearer 8 = .ok (.iload 4, 2) := by decide +kernel
theorem dX3_comesNearer_10 : decode cX3_comesNearer 10 = .ok (.ifCond .eq 19, 3) := by decide +kernel
theorem dX3_comesNearer_13 : decode cX3_comesNearer 13 = .ok (.iload 4, 2) := by decide +kernel
theorem dX3_comesNearer_15 : decode cX3_comesNearer 15 = .ok (.aload_n 0, 1) := by decide +kernel
theorem dX3_comesNearer_16 : decode cX3_comesNearer 16 = .ok (.aload_n 3, 1) := by decide +kernel
theorem dX3_comesNearer_17 : decode cX3_comesNearer 17 = .ok (.iload_n 1, 1) := by decide +kernel
theorem dX3_comesNearer_18 : decode cX3_comesNearer 18 = .ok (.iload_n 2, 1) := by decide +kernel
theorem dX3_comesNearer_19 : decode cX3_comesNearer 19 = .ok (.invokevirtual 58, 3) := by decide +kernel
theorem dX3_comesNearer_22 : decode cX3_comesNearer 22 = .ok (.if_icmp .ne 7, 3) := by decide +kernel
theorem dX3_comesNearer_25 : decode cX3_comesNearer 25 = .ok (.iconst 1, 1) := by decide +kernel
theorem dX3_comesNearer_26 : decode cX3_comesNearer 26 = .ok (.goto 4, 3) := by decide +kernel
theorem dX3_comesNearer_29 : decode cX3_comesNearer 29 = .ok (.iconst 0, 1) := by decide +kernel
theorem dX3_comesNearer_30 : decode cX3_comesNearer 30 = .ok (.ireturn, 1) := by decide +kernel
set_option maxRecDepth 20000 in
theorem ggX3_takeHeights_X3_wayTo : GoodIn wsX3_takeHeights wsX3_wayTo := goodIn_r _ [6, 7, 8, 9, 5, 10, 11, 12, 13, 14, 15, 20, 21] (by decide +kernel) (by decide +kernel)
set_option maxRecDepth 20000 in
theorem gX3_takeHeights_X3_wayTo : GoodIn wsX3_takeHeights (wsV RX3 58 RX3 yX3_wayTo wsX3_wayTo) := goodIn_app (goodIn_of _ (by decide +kernel)) ggX3_takeHeights_X3_wayTo
set_option maxRecDepth 20000 in
theorem ggX3_takeHeights_X3_cornerAt : GoodIn wsX3_takeHeights wsX3_cornerAt := goodIn_r _ [14, 15, 20, 21] (by decide +kernel) (by decide +kernel)
set_option maxRecDepth 20000 in
theorem gX3_takeHeights_X3_cornerAt : GoodIn wsX3_takeHeights (wsV RX3 25 RX3 yX3_cornerAt wsX3_cornerAt) := goodIn_app (goodIn_of _ (by decide +kernel)) ggX3_takeHeights_X3_cornerAt
set_option maxRecDepth 20000 in
theorem ggX3_takeHeights_X3_putCorner : GoodIn wsX3_takeHeights wsX3_putCorner := goodIn_r _ [19, 15, 20, 21] (by decide +kernel) (by decide +kernel)
set_option maxRecDepth 20000 in
theorem gX3_takeHeights_X3_putCorner : GoodIn wsX3_takeHeights (wsV RX3 41 RX3 yX3_putCorner wsX3_putCorner) := goodIn_app (goodIn_of _ (by decide +kernel)) ggX3_takeHeights_X3_putCorner
theorem dX3_takeHeights_0 : decode cX3_takeHeights 0 = .ok (.iconst 0, 1) := by decide +kernel
theorem dX3_takeHeights_1 : decode cX3_takeHeights 1 = .ok (.istore_n 3, 1) := by decide +kernel
theorem dX3_takeHeights_2 : decode cX3_takeHeights 2 = .ok (.iconst 1, 1) := by decide +kernel
theorem dX3_takeHeights_3 : decode cX3_takeHeights 3 = .ok (.istore 4, 2) := by decide +kernel
theorem dX3_takeHeights_5 : decode cX3_takeHeights 5 = .ok (.iload 4, 2) := by decide +kernel
theorem dX3_takeHeights_7 : decode cX3_takeHeights 7 = .ok (.aload_n 0, 1) := by decide +kernel
theorem dX3_takeHeights_8 : decode cX3_takeHeights 8 = .ok (.getfield 15, 3) := by decide +kernel
theorem dX3_takeHeights_11 : decode cX3_takeHeights 11 = .ok (.if_icmp .ge 59, 3) := by decide +kernel
theorem dX3_takeHeights_14 : decode cX3_takeHeights 14 = .ok (.iconst 1, 1) := by decide +kernel
theorem dX3_takeHeights_15 : decode cX3_takeHeights 15 = .ok (.istore 5, 2) := by decide +kernel
theorem dX3_takeHeights_17 : decode cX3_takeHeights 17 = .ok (.iload 5, 2) := by decide +kernel
theorem dX3_takeHeights_19 : decode cX3_takeHeights 19 = .ok (.aload_n 0, 1) := by decide +kernel
theorem dX3_takeHeights_20 : decode cX3_takeHeights 20 = .ok (.getfield 15, 3) := by decide +kernel
theorem dX3_takeHeights_23 : decode cX3_takeHeights 23 = .ok (.if_icmp .ge 41, 3) := by decide +kernel
theorem dX3_takeHeights_26 : decode cX3_takeHeights 26 = .ok (.aload_n 0, 1) := by decide +kernel
theorem dX3_takeHeights_27 : decode cX3_takeHeights 27 = .ok (.aload_n 2, 1) := by decide +kernel
theorem dX3_takeHeights_28 : decode cX3_takeHeights 28 = .ok (.iload 4, 2) := by decide +kernel
theorem dX3_takeHeights_30 : decode cX3_takeHeights 30 = .ok (.iload 5, 2) := by decide +kernel
theorem dX3_takeHeights_32 : decode cX3_takeHeights 32 = .ok (.invokevirtual 58, 3) := by decide +kernel
theorem dX3_takeHeights_35 : decode cX3_takeHeights 35 = .ok (.iload_n 1, 1) := by decide +kernel
theorem dX3_takeHeights_36 : decode cX3_takeHeights 36 = .ok (.if_icmp .ne 22, 3) := by decide +kernel
theorem dX3_takeHeights_39 : decode cX3_takeHeights 39 = .ok (.aload_n 0, 1) := by decide +kernel
theorem dX3_takeHeights_40 : decode cX3_takeHeights 40 = .ok (.iload 4, 2) := by decide +kernel
theorem dX3_takeHeights_42 : decode cX3_takeHeights 42 = .ok (.iload 5, 2) := by decide +kernel
theorem dX3_takeHeights_44 : decode cX3_takeHeights 44 = .ok (.aload_n 2, 1) := by decide +kernel
theorem dX3_takeHeights_45 : decode cX3_takeHeights 45 = .ok (.iload 4, 2) := by decide +kernel
theorem dX3_takeHeights_47 : decode cX3_takeHeights 47 = .ok (.iload 5, 2) := by decide +kernel
theorem dX3_takeHeights_49 : decode cX3_takeHeights 49 = .ok (.invokevirtual 25, 3) := by decide +kernel
theorem dX3_takeHeights_52 : decode cX3_takeHeights 52 = .ok (.invokevirtual 41, 3) := by decide +kernel
theorem dX3_takeHeights_55 : decode cX3_takeHeights 55 = .ok (.iinc 3 1, 3) := by decide +kernel
theorem dX3_takeHeights_58 : decode cX3_takeHeights 58 = .ok (.iinc 5 1, 3) := by decide +kernel
theorem dX3_takeHeights_61 : decode cX3_takeHeights 61 = .ok (.goto (-44), 3) := by decide +kernel
theorem dX3_takeHeights_64 : decode cX3_takeHeights 64 = .ok (.iinc 4 1, 3) := by decide +kernel
theorem dX3_takeHeights_67 : decode cX3_takeHeights 67 = .ok (.goto (-62), 3) := by decide +kernel
theorem dX3_takeHeights_70 : decode cX3_takeHeights 70 = .ok (.iload_n 3, 1) := by decide +kernel
theorem dX3_takeHeights_71 : decode cX3_takeHeights 71 = .ok (.ireturn, 1) := by decide +kernel
set_option maxRecDepth 20000 in
theorem ggX3_putTurned_X3_turnedSign : GoodIn wsX3_putTurned wsX3_turnedSign := goodIn_r _ [6, 1, 7, 8, 9, 5, 10, 11, 12, 13, 14, 15, 16, 17, 18, 19, 24, 25] (by decide +kernel) (by decide +kernel)
set_option maxRecDepth 20000 in
theorem gX3_putTurned_X3_turnedSign : GoodIn wsX3_putTurned (wsV RX3 62 RX3 yX3_turnedSign wsX3_turnedSign) := goodIn_app (goodIn_of _ (by decide +kernel)) ggX3_putTurned_X3_turnedSign
set_option maxRecDepth 20000 in
theorem ggX3_putTurned_X3_cornerAt : GoodIn wsX3_putTurned wsX3_cornerAt := goodIn_r _ [18, 19, 24, 25] (by decide +kernel) (by decide +kernel)
set_option maxRecDepth 20000 in
theorem gX3_putTurned_X3_cornerAt : GoodIn wsX3_putTurned (wsV RX3 25 RX3 yX3_cornerAt wsX3_cornerAt) := goodIn_app (goodIn_of _ (by decide +kernel)) ggX3_putTurned_X3_cornerAt
set_option maxRecDepth 20000 in
theorem ggX3_putTurned_X3_putCorner : GoodIn wsX3_putTurned wsX3_putCorner := goodIn_r _ [23, 19, 24, 25] (by decide +kernel) (by decide +kernel)
set_option maxRecDepth 20000 in
theorem gX3_putTurned_X3_putCorner : GoodIn wsX3_putTurned (wsV RX3 41 RX3 yX3_putCorner wsX3_putCorner) := goodIn_app (goodIn_of _ (by decide +kernel)) ggX3_putTurned_X3_putCorner
theorem dX3_putTurned_0 : decode cX3_putTurned 0 = .ok (.iconst 0, 1) := by decide +kernel
theorem dX3_putTurned_1 : decode cX3_putTurned 1 = .ok (.istore_n 3, 1) := by decide +kernel
theorem dX3_putTurned_2 : decode cX3_putTurned 2 = .ok (.iload_n 3, 1) := by decide +kernel
theorem dX3_putTurned_3 : decode cX3_putTurned 3 = .ok (.aload_n 0, 1) := by decide +kernel
theorem dX3_putTurned_4 : decode cX3_putTurned 4 = .ok (.getfield 15, 3) := by decide +kernel
theorem dX3_putTurned_7 : decode cX3_putTurned 7 = .ok (.if_icmp .ge 66, 3) := by decide +kernel
theorem dX3_putTurned_10 : decode cX3_putTurned 10 = .ok (.iconst 0, 1) := by decide +kernel
theorem dX3_putTurned_11 : decode cX3_putTurned 11 = .ok (.istore 4, 2) := by decide +kernel
theorem dX3_putTurned_13 : decode cX3_putTurned 13 = .ok (.iconst 0, 1) := by decide +kernel
theorem dX3_putTurned_14 : decode cX3_putTurned 14 = .ok (.istore 5, 2) := by decide +kernel
theorem dX3_putTurned_16 : decode cX3_putTurned 16 = .ok (.iload 5, 2) := by decide +kernel
theorem dX3_putTurned_18 : decode cX3_putTurned 18 = .ok (.aload_n 0, 1) := by decide +kernel
theorem dX3_putTurned_19 : decode cX3_putTurned 19 = .ok (.getfield 15, 3) := by decide +kernel
theorem dX3_putTurned_22 : decode cX3_putTurned 22 = .ok (.if_icmp .ge 45, 3) := by decide +kernel
theorem dX3_putTurned_25 : decode cX3_putTurned 25 = .ok (.iload 4, 2) := by decide +kernel
theorem dX3_putTurned_27 : decode cX3_putTurned 27 = .ok (.aload_n 2, 1) := by decide +kernel
theorem dX3_putTurned_28 : decode cX3_putTurned 28 = .ok (.iload_n 1, 1) := by decide +kernel
theorem dX3_putTurned_29 : decode cX3_putTurned 29 = .ok (.iload_n 3, 1) := by decide +kernel
theorem dX3_putTurned_30 : decode cX3_putTurned 30 = .ok (.iload 5, 2) := by decide +kernel
theorem dX3_putTurned_32 : decode cX3_putTurned 32 = .ok (.invokevirtual 62, 3) := by decide +kernel
theorem dX3_putTurned_35 : decode cX3_putTurned 35 = .ok (.iadd, 1) := by decide +kernel
theorem dX3_putTurned_36 : decode cX3_putTurned 36 = .ok (.istore 4, 2) := by decide +kernel
theorem dX3_putTurned_38 : decode cX3_putTurned 38 = .ok (.aload_n 0, 1) := by decide +kernel
theorem dX3_putTurned_39 : decode cX3_putTurned 39 = .ok (.iload_n 3, 1) := by decide +kernel
theorem dX3_putTurned_40 : decode cX3_putTurned 40 = .ok (.iconst 1, 1) := by decide +kernel
theorem dX3_putTurned_41 : decode cX3_putTurned 41 = .ok (.iadd, 1) := by decide +kernel
theorem dX3_putTurned_42 : decode cX3_putTurned 42 = .ok (.iload 5, 2) := by decide +kernel
theorem dX3_putTurned_44 : decode cX3_putTurned 44 = .ok (.iconst 1, 1) := by decide +kernel
theorem dX3_putTurned_45 : decode cX3_putTurned 45 = .ok (.iadd, 1) := by decide +kernel
theorem dX3_putTurned_46 : decode cX3_putTurned 46 = .ok (.aload_n 0, 1) := by decide +kernel
theorem dX3_putTurned_47 : decode cX3_putTurned 47 = .ok (.iload_n 3, 1) := by decide +kernel
theorem dX3_putTurned_48 : decode cX3_putTurned 48 = .ok (.iload 5, 2) := by decide +kernel
theorem dX3_putTurned_50 : decode cX3_putTurned 50 = .ok (.iconst 1, 1) := by decide +kernel
theorem dX3_putTurned_51 : decode cX3_putTurned 51 = .ok (.iadd, 1) := by decide +kernel
theorem dX3_putTurned_52 : decode cX3_putTurned 52 = .ok (.invokevirtual 25, 3) := by decide +kernel
theorem dX3_putTurned_55 : decode cX3_putTurned 55 = .ok (.iload 4, 2) := by decide +kernel
theorem dX3_putTurned_57 : decode cX3_putTurned 57 = .ok (.iadd, 1) := by decide +kernel
theorem dX3_putTurned_58 : decode cX3_putTurned 58 = .ok (.invokevirtual 41, 3) := by decide +kernel
theorem dX3_putTurned_61 : decode cX3_putTurned 61 = .ok (.iinc 5 1, 3) := by decide +kernel
theorem dX3_putTurned_64 : decode cX3_putTurned 64 = .ok (.goto (-48), 3) := by decide +kernel
theorem dX3_putTurned_67 : decode cX3_putTurned 67 = .ok (.iinc 3 1, 3) := by decide +kernel
theorem dX3_putTurned_70 : decode cX3_putTurned 70 = .ok (.goto (-68), 3) := by decide +kernel
theorem dX3_putTurned_73 : decode cX3_putTurned 73 = .ok (.return_, 1) := by decide +kernel
set_option maxRecDepth 20000 in
theorem ggX3_turnedSign_X3_signAt : GoodIn wsX3_turnedSign wsX3_signAt := goodIn_r _ [6, 7, 8, 9, 5, 10, 11, 12, 13, 14, 15, 16, 17] (by decide +kernel) (by decide +kernel)
set_option maxRecDepth 20000 in
theorem gX3_turnedSign_X3_signAt : GoodIn wsX3_turnedSign (wsV RX3 32 RX3 yX3_signAt wsX3_signAt) := goodIn_app (goodIn_of _ (by decide +kernel)) ggX3_turnedSign_X3_signAt
theorem dX3_turnedSign_0 : decode cX3_turnedSign 0 = .ok (.aload_n 0, 1) := by decide +kernel
theorem dX3_turnedSign_1 : decode cX3_turnedSign 1 = .ok (.getfield 15, 3) := by decide +kernel
theorem dX3_turnedSign_4 : decode cX3_turnedSign 4 = .ok (.iconst 1, 1) := by decide +kernel
theorem dX3_turnedSign_5 : decode cX3_turnedSign 5 = .ok (.isub, 1) := by decide +kernel
theorem dX3_turnedSign_6 : decode cX3_turnedSign 6 = .ok (.istore 4, 2) := by decide +kernel
theorem dX3_turnedSign_8 : decode cX3_turnedSign 8 = .ok (.iload_n 1, 1) := by decide +kernel
theorem dX3_turnedSign_9 : decode cX3_turnedSign 9 = .ok (.tableswitch 88 1 5 #[35, 45, 58, 68, 78], 35) := by decide +kernel
theorem dX3_turnedSign_44 : decode cX3_turnedSign 44 = .ok (.aload_n 0, 1) := by decide +kernel
theorem dX3_turnedSign_45 : decode cX3_turnedSign 45 = .ok (.iload 4, 2) := by decide +kernel
theorem dX3_turnedSign_47 : decode cX3_turnedSign 47 = .ok (.iload_n 3, 1) := by decide +kernel
theorem dX3_turnedSign_48 : decode cX3_turnedSign 48 = .ok (.isub, 1) := by decide +kernel
theorem dX3_turnedSign_49 : decode cX3_turnedSign 49 = .ok (.iload_n 2, 1) := by decide +kernel
theorem dX3_turnedSign_50 : decode cX3_turnedSign 50 = .ok (.invokevirtual 32, 3) := by decide +kernel
theorem dX3_turnedSign_53 : decode cX3_turnedSign 53 = .ok (.ireturn, 1) := by decide +kernel
theorem dX3_turnedSign_54 : decode cX3_turnedSign 54 = .ok (.aload_n 0, 1) := by decide +kernel
theorem dX3_turnedSign_55 : decode cX3_turnedSign 55 = .ok (.iload 4, 2) := by decide +kernel
theorem dX3_turnedSign_57 : decode cX3_turnedSign 57 = .ok (.iload_n 2, 1) := by decide +kernel
theorem dX3_turnedSign_58 : decode cX3_turnedSign 58 = .ok (.isub, 1) := by decide +kernel
theorem dX3_turnedSign_59 : decode cX3_turnedSign 59 = .ok (.iload 4, 2) := by decide +kernel
theorem dX3_turnedSign_61 : decode cX3_turnedSign 61 = .ok (.iload_n 3, 1) := by decide +kernel
theorem dX3_turnedSign_62 : decode cX3_turnedSign 62 = .ok (.isub, 1) := by decide +kernel
theorem dX3_turnedSign_63 : decode cX3_turnedSign 63 = .ok (.invokevirtual 32, 3) := by decide +kernel
theorem dX3_turnedSign_66 : decode cX3_turnedSign 66 = .ok (.ireturn, 1) := by decide +kernel
theorem dX3_turnedSign_67 : decode cX3_turnedSign 67 = .ok (.aload_n 0, 1) := by decide +kernel
theorem dX3_turnedSign_68 : decode cX3_turnedSign 68 = .ok (.iload_n 3, 1) := by decide +kernel
theorem dX3_turnedSign_69 : decode cX3_turnedSign 69 = .ok (.iload 4, 2) := by decide +kernel
theorem dX3_turnedSign_71 : decode cX3_turnedSign 71 = .ok (.iload_n 2, 1) := by decide +kernel
theorem dX3_turnedSign_72 : decode cX3_turnedSign 72 = .ok (.isub, 1) := by decide +kernel
theorem dX3_turnedSign_73 : decode cX3_turnedSign 73 = .ok (.invokevirtual 32, 3) := by decide +kernel
theorem dX3_turnedSign_76 : decode cX3_turnedSign 76 = .ok (.ireturn, 1) := by decide +kernel
theorem dX3_turnedSign_77 : decode cX3_turnedSign 77 = .ok (.aload_n 0, 1) := by decide +kernel
theorem dX3_turnedSign_78 : decode cX3_turnedSign 78 = .ok (.iload_n 2, 1) := by decide +kernel
theorem dX3_turnedSign_79 : decode cX3_turnedSign 79 = .ok (.iload 4, 2) := by decide +kernel
theorem dX3_turnedSign_81 : decode cX3_turnedSign 81 = .ok (.iload_n 3, 1) := by decide +kernel
theorem dX3_turnedSign_82 : decode cX3_turnedSign 82 = .ok (.isub, 1) := by decide +kernel
theorem dX3_turnedSign_83 : decode cX3_turnedSign 83 = .ok (.invokevirtual 32, 3) := by decide +kernel
theorem dX3_turnedSign_86 : decode cX3_turnedSign 86 = .ok (.ireturn, 1) := by decide +kernel
theorem dX3_turnedSign_87 : decode cX3_turnedSign 87 = .ok (.aload_n 0, 1) := by decide +kernel
theorem dX3_turnedSign_88 : decode cX3_turnedSign 88 = .ok (.iload 4, 2) := by decide +kernel
theorem dX3_turnedSign_90 : decode cX3_turnedSign 90 = .ok (.iload_n 2, 1) := by decide +kernel
theorem dX3_turnedSign_91 : decode cX3_turnedSign 91 = .ok (.isub, 1) := by decide +kernel
theorem dX3_turnedSign_92 : decode cX3_turnedSign 92 = .ok (.iload_n 3, 1) := by decide +kernel
theorem dX3_turnedSign_93 : decode cX3_turnedSign 93 = .ok (.invokevirtual 32, 3) := by decide +kernel
theorem dX3_turnedSign_96 : decode cX3_turnedSign 96 = .ok (.ireturn, 1) := by decide +kernel
theorem dX3_turnedSign_97 : decode cX3_turnedSign 97 = .ok (.aload_n 0, 1) := by decide +kernel
theorem dX3_turnedSign_98 : decode cX3_turnedSign 98 = .ok (.iload_n 3, 1) := by decide +kernel
theorem dX3_turnedSign_99 : decode cX3_turnedSign 99 = .ok (.iload_n 2, 1) := by decide +kernel
theorem dX3_turnedSign_100 : decode cX3_turnedSign 100 = .ok (.invokevirtual 32, 3) := by decide +kernel
theorem dX3_turnedSign_103 : decode cX3_turnedSign 103 = .ok (.ireturn, 1) := by decide +kernel
set_option maxRecDepth 20000 in
theorem ggX3_unlikeSigns_X3_signAt : GoodIn wsX3_unlikeSigns wsX3_signAt := goodIn_r _ [6, 7, 8, 9, 5, 10, 11, 12, 13, 14, 15, 16, 17] (by decide +kernel) (by decide +kernel)
set_option maxRecDepth 20000 in
theorem gX3_unlikeSigns_X3_signAt : GoodIn wsX3_unlikeSigns (wsV RX3 32 RX3 yX3_signAt wsX3_signAt) := goodIn_app (goodIn_of _ (by decide +kernel)) ggX3_unlikeSigns_X3_signAt
theorem dX3_unlikeSigns_0 : decode cX3_unlikeSigns 0 = .ok (.iconst 0, 1) := by decide +kernel
theorem dX3_unlikeSigns_1 : decode cX3_unlikeSigns 1 = .ok (.istore_n 2, 1) := by decide +kernel
theorem dX3_unlikeSigns_2 : decode cX3_unlikeSigns 2 = .ok (.iconst 0, 1) := by decide +kernel
theorem dX3_unlikeSigns_3 : decode cX3_unlikeSigns 3 = .ok (.istore_n 3, 1) := by decide +kernel
theorem dX3_unlikeSigns_4 : decode cX3_unlikeSigns 4 = .ok (.iload_n 3, 1) := by decide +kernel
theorem dX3_unlikeSigns_5 : decode cX3_unlikeSigns 5 = .ok (.aload_n 0, 1) := by decide +kernel
theorem dX3_unlikeSigns_6 : decode cX3_unlikeSigns 6 = .ok (.getfield 15, 3) := by decide +kernel
theorem dX3_unlikeSigns_9 : decode cX3_unlikeSigns 9 = .ok (.if_icmp .ge 47, 3) := by decide +kernel
theorem dX3_unlikeSigns_12 : decode cX3_unlikeSigns 12 = .ok (.iconst 0, 1) := by decide +kernel
theorem dX3_unlikeSigns_13 : decode cX3_unlikeSigns 13 = .ok (.istore 4, 2) := by decide +kernel
theorem dX3_unlikeSigns_15 : decode cX3_unlikeSigns 15 = .ok (.iload 4, 2) := by decide +kernel
theorem dX3_unlikeSigns_17 : decode cX3_unlikeSigns 17 = .ok (.aload_n 0, 1) := by decide +kernel
theorem dX3_unlikeSigns_18 : decode cX3_unlikeSigns 18 = .ok (.getfield 15, 3) := by decide +kernel
theorem dX3_unlikeSigns_21 : decode cX3_unlikeSigns 21 = .ok (.if_icmp .ge 29, 3) := by decide +kernel
theorem dX3_unlikeSigns_24 : decode cX3_unlikeSigns 24 = .ok (.aload_n 0, 1) := by decide +kernel
theorem dX3_unlikeSigns_25 : decode cX3_unlikeSigns 25 = .ok (.iload_n 3, 1) := by decide +kernel
theorem dX3_unlikeSigns_26 : decode cX3_unlikeSigns 26 = .ok (.iload 4, 2) := by decide +kernel
theorem dX3_unlikeSigns_28 : decode cX3_unlikeSigns 28 = .ok (.invokevirtual 32, 3) := by decide +kernel
theorem dX3_unlikeSigns_31 : decode cX3_unlikeSigns 31 = .ok (.aload_n 1, 1) := by decide +kernel
theorem dX3_unlikeSigns_32 : decode cX3_unlikeSigns 32 = .ok (.iload_n 3, 1) := by decide +kernel
theorem dX3_unlikeSigns_33 : decode cX3_unlikeSigns 33 = .ok (.iload 4, 2) := by decide +kernel
theorem dX3_unlikeSigns_35 : decode cX3_unlikeSigns 35 = .ok (.invokevirtual 32, 3) := by decide +kernel
theorem dX3_unlikeSigns_38 : decode cX3_unlikeSigns 38 = .ok (.if_icmp .eq 6, 3) := by decide +kernel
theorem dX3_unlikeSigns_41 : decode cX3_unlikeSigns 41 = .ok (.iinc 2 1, 3) := by decide +kernel
theorem dX3_unlikeSigns_44 : decode cX3_unlikeSigns 44 = .ok (.iinc 4 1, 3) := by decide +kernel
theorem dX3_unlikeSigns_47 : decode cX3_unlikeSigns 47 = .ok (.goto (-32), 3) := by decide +kernel
theorem dX3_unlikeSigns_50 : decode cX3_unlikeSigns 50 = .ok (.iinc 3 1, 3) := by decide +kernel
theorem dX3_unlikeSigns_53 : decode cX3_unlikeSigns 53 = .ok (.goto (-49), 3) := by decide +kernel
theorem dX3_unlikeSigns_56 : decode cX3_unlikeSigns 56 = .ok (.iload_n 2, 1) := by decide +kernel
theorem dX3_unlikeSigns_57 : decode cX3_unlikeSigns 57 = .ok (.ireturn, 1) := by decide +kernel
set_option maxRecDepth 20000 in
theorem ggX3_isDrawnAcross_X3_rowSum : GoodIn wsX3_isDrawnAcross wsX3_rowSum := goodIn_r _ [5, 6, 7, 8, 4, 9, 10, 11, 12] (by decide +kernel) (by decide +kernel)
set_option maxRecDepth 20000 in
theorem gX3_isDrawnAcross_X3_rowSum : GoodIn wsX3_isDrawnAcross (wsV RX3 29 RX3 yX3_rowSum wsX3_rowSum) := goodIn_app (goodIn_of _ (by decide +kernel)) ggX3_isDrawnAcross_X3_rowSum
theorem dX3_isDrawnAcross_0 : decode cX3_isDrawnAcross 0 = .ok (.aload_n 0, 1) := by decide +kernel
theorem dX3_isDrawnAcross_1 : decode cX3_isDrawnAcross 1 = .ok (.iload_n 1, 1) := by decide +kernel
theorem dX3_isDrawnAcross_2 : decode cX3_isDrawnAcross 2 = .ok (.iload_n 2, 1) := by decide +kernel
theorem dX3_isDrawnAcross_3 : decode cX3_isDrawnAcross 3 = .ok (.invokevirtual 29, 3) := by decide +kernel
theorem dX3_isDrawnAcross_6 : decode cX3_isDrawnAcross 6 = .ok (.iload_n 1, 1) := by decide +kernel
theorem dX3_isDrawnAcross_7 : decode cX3_isDrawnAcross 7 = .ok (.iadd, 1) := by decide +kernel
theorem dX3_isDrawnAcross_8 : decode cX3_isDrawnAcross 8 = .ok (.iload_n 2, 1) := by decide +kernel
theorem dX3_isDrawnAcross_9 : decode cX3_isDrawnAcross 9 = .ok (.iadd, 1) := by decide +kernel
theorem dX3_isDrawnAcross_10 : decode cX3_isDrawnAcross 10 = .ok (.iconst 2, 1) := by decide +kernel
theorem dX3_isDrawnAcross_11 : decode cX3_isDrawnAcross 11 = .ok (.irem, 1) := by decide +kernel
theorem dX3_isDrawnAcross_12 : decode cX3_isDrawnAcross 12 = .ok (.ifCond .ne 7, 3) := by decide +kernel
theorem dX3_isDrawnAcross_15 : decode cX3_isDrawnAcross 15 = .ok (.iconst 1, 1) := by decide +kernel
theorem dX3_isDrawnAcross_16 : decode cX3_isDrawnAcross 16 = .ok (.goto 4, 3) := by decide +kernel
theorem dX3_isDrawnAcross_19 : decode cX3_isDrawnAcross 19 = .ok (.iconst 0, 1) := by decide +kernel
theorem dX3_isDrawnAcross_20 : decode cX3_isDrawnAcross 20 = .ok (.ireturn, 1) := by decide +kernel
set_option maxRecDepth 20000 in
theorem ggX3_isDrawnDown_X3_columnSum : GoodIn wsX3_isDrawnDown wsX3_columnSum := goodIn_r _ [5, 6, 7, 8, 4, 9, 10, 11, 12] (by decide +kernel) (by decide +kernel)
set_option maxRecDepth 20000 in
theorem gX3_isDrawnDown_X3_columnSum : GoodIn wsX3_isDrawnDown (wsV RX3 66 RX3 yX3_columnSum wsX3_columnSum) := goodIn_app (goodIn_of _ (by decide +kernel)) ggX3_isDrawnDown_X3_columnSum
theorem dX3_isDrawnDown_0 : decode cX3_isDrawnDown 0 = .ok (.aload_n 0, 1) := by decide +kernel
theorem dX3_isDrawnDown_1 : decode cX3_isDrawnDown 1 = .ok (.iload_n 1, 1) := by decide +kernel
theorem dX3_isDrawnDown_2 : decode cX3_isDrawnDown 2 = .ok (.iload_n 2, 1) := by decide +kernel
theorem dX3_isDrawnDown_3 : decode cX3_isDrawnDown 3 = .ok (.invokevirtual 66, 3) := by decide +kernel
theorem dX3_isDrawnDown_6 : decode cX3_isDrawnDown 6 = .ok (.iload_n 1, 1) := by decide +kernel
theorem dX3_isDrawnDown_7 : decode cX3_isDrawnDown 7 = .ok (.iadd, 1) := by decide +kernel
theorem dX3_isDrawnDown_8 : decode cX3_isDrawnDown 8 = .ok (.iload_n 2, 1) := by decide +kernel
theorem dX3_isDrawnDown_9 : decode cX3_isDrawnDown 9 = .ok (.iadd, 1) := by decide +kernel
theorem dX3_isDrawnDown_10 : decode cX3_isDrawnDown 10 = .ok (.iconst 2, 1) := by decide +kernel
theorem dX3_isDrawnDown_11 : decode cX3_isDrawnDown 11 = .ok (.irem, 1) := by decide +kernel
theorem dX3_isDrawnDown_12 : decode cX3_isDrawnDown 12 = .ok (.ifCond .eq 7, 3) := by decide +kernel
theorem dX3_isDrawnDown_15 : decode cX3_isDrawnDown 15 = .ok (.iconst 1, 1) := by decide +kernel
theorem dX3_isDrawnDown_16 : decode cX3_isDrawnDown 16 = .ok (.goto 4, 3) := by decide +kernel
theorem dX3_isDrawnDown_19 : decode cX3_isDrawnDown 19 = .ok (.iconst 0, 1) := by decide +kernel
theorem dX3_isDrawnDown_20 : decode cX3_isDrawnDown 20 = .ok (.ireturn, 1) := by decide +kernel
set_option maxRecDepth 20000 in
theorem ggX3_drawnEdges_X3_isDrawnAcross : GoodIn wsX3_drawnEdges wsX3_isDrawnAcross := goodIn_r _ [6, 7, 8, 9, 5, 10, 11, 12, 13, 14, 15, 24, 25] (by decide +kernel) (by decide +kernel)
set_option maxRecDepth 20000 in
theorem gX3_drawnEdges_X3_isDrawnAcross : GoodIn wsX3_drawnEdges (wsV RX3 69 RX3 yX3_isDrawnAcross wsX3_isDrawnAcross) := goodIn_app (goodIn_of _ (by decide +kernel)) ggX3_drawnEdges_X3_isDrawnAcross
set_option maxRecDepth 20000 in
theorem ggX3_drawnEdges_X3_isDrawnDown : GoodIn wsX3_drawnEdges wsX3_isDrawnDown := goodIn_r _ [19, 20, 21, 22, 5, 23, 11, 12, 13, 14, 15, 24, 25] (by decide +kernel) (by decide +kernel)
set_option maxRecDepth 20000 in
theorem gX3_drawnEdges_X3_isDrawnDown : GoodIn wsX3_drawnEdges (wsV RX3 73 RX3 yX3_isDrawnDown wsX3_isDrawnDown) := goodIn_app (goodIn_of _ (by decide +kernel)) ggX3_drawnEdges_X3_isDrawnDown
theorem dX3_drawnEdges_0 : decode cX3_drawnEdges 0 = .ok (.iconst 0, 1) := by decide +kernel
theorem dX3_drawnEdges_1 : decode cX3_drawnEdges 1 = .ok (.istore_n 1, 1) := by decide +kernel
theorem dX3_drawnEdges_2 : decode cX3_drawnEdges 2 = .ok (.iconst 0, 1) := by decide +kernel
theorem dX3_drawnEdges_3 : decode cX3_drawnEdges 3 = .ok (.istore_n 2, 1) := by decide +kernel
theorem dX3_drawnEdges_4 : decode cX3_drawnEdges 4 = .ok (.iload_n 2, 1) := by decide +kernel
theorem dX3_drawnEdges_5 : decode cX3_drawnEdges 5 = .ok (.aload_n 0, 1) := by decide +kernel
theorem dX3_drawnEdges_6 : decode cX3_drawnEdges 6 = .ok (.getfield 15, 3) := by decide +kernel
theorem dX3_drawnEdges_9 : decode cX3_drawnEdges 9 = .ok (.if_icmp .gt 49, 3) := by decide +kernel
theorem dX3_drawnEdges_12 : decode cX3_drawnEdges 12 = .ok (.iconst 1, 1) := by decide +kernel
theorem dX3_drawnEdges_13 : decode cX3_drawnEdges 13 = .ok (.istore_n 3, 1) := by decide +kernel
theorem dX3_drawnEdges_14 : decode cX3_drawnEdges 14 = .ok (.iload_n 3, 1) := by decide +kernel
theorem dX3_drawnEdges_15 : decode cX3_drawnEdges 15 = .ok (.aload_n 0, 1) := by decide +kernel
theorem dX3_drawnEdges_16 : decode cX3_drawnEdges 16 = .ok (.getfield 15, 3) := by decide +kernel
theorem dX3_drawnEdges_19 : decode cX3_drawnEdges 19 = .ok (.if_icmp .gt 33, 3) := by decide +kernel
theorem dX3_drawnEdges_22 : decode cX3_drawnEdges 22 = .ok (.aload_n 0, 1) := by decide +kernel
theorem dX3_drawnEdges_23 : decode cX3_drawnEdges 23 = .ok (.iload_n 3, 1) := by decide +kernel
theorem dX3_drawnEdges_24 : decode cX3_drawnEdges 24 = .ok (.iload_n 2, 1) := by decide +kernel
theorem dX3_drawnEdges_25 : decode cX3_drawnEdges 25 = .ok (.invokevirtual 69, 3) := by decide +kernel
theorem dX3_drawnEdges_28 : decode cX3_drawnEdges 28 = .ok (.ifCond .eq 6, 3) := by decide +kernel
theorem dX3_drawnEdges_31 : decode cX3_drawnEdges 31 = .ok (.iinc 1 1, 3) := by decide +kernel
theorem dX3_drawnEdges_34 : decode cX3_drawnEdges 34 = .ok (.aload_n 0, 1) := by decide +kernel
theorem dX3_drawnEdges_35 : decode cX3_drawnEdges 35 = .ok (.iload_n 2, 1) := by decide +kernel
theorem dX3_drawnEdges_36 : decode cX3_drawnEdges 36 = .ok (.iload_n 3, 1) := by decide +kernel
theorem dX3_drawnEdges_37 : decode cX3_drawnEdges 37 = .ok (.invokevirtual 73, 3) := by decide +kernel
theorem dX3_drawnEdges_40 : decode cX3_drawnEdges 40 = .ok (.ifCond .eq 6, 3) := by decide +kernel
theorem dX3_drawnEdges_43 : decode cX3_drawnEdges 43 = .ok (.iinc 1 1, 3) := by decide +kernel
theorem dX3_drawnEdges_46 : decode cX3_drawnEdges 46 = .ok (.iinc 3 1, 3) := by decide +kernel
theorem dX3_drawnEdges_49 : decode cX3_drawnEdges 49 = .ok (.goto (-35), 3) := by decide +kernel
theorem dX3_drawnEdges_52 : decode cX3_drawnEdges 52 = .ok (.iinc 2 1, 3) := by decide +kernel
theorem dX3_drawnEdges_55 : decode cX3_drawnEdges 55 = .ok (.goto (-51), 3) := by decide +kernel
theorem dX3_drawnEdges_58 : decode cX3_drawnEdges 58 = .ok (.iload_n 1, 1) := by decide +kernel
theorem dX3_drawnEdges_59 : decode cX3_drawnEdges 59 = .ok (.ireturn, 1) := by decide +kernel
set_option maxRecDepth 20000 in
theorem ggX3_fullColumns_X3_columnSum : GoodIn wsX3_fullColumns wsX3_columnSum := goodIn_r _ [6, 7, 8, 9, 5, 10, 11, 12, 13] (by decide +kernel) (by decide +kernel)
set_option maxRecDepth 20000 in
theorem gX3_fullColumns_X3_columnSum : GoodIn wsX3_fullColumns (wsV RX3 66 RX3 yX3_columnSum wsX3_columnSum) := goodIn_app (goodIn_of _ (by decide +kernel)) ggX3_fullColumns_X3_columnSum
theorem dX3_fullColumns_0 : decode cX3_fullColumns 0 = .ok (.iconst 0, 1) := by decide +kernel
theorem dX3_fullColumns_1 : decode cX3_fullColumns 1 = .ok (.istore_n 2, 1) := by decide +kernel
theorem dX3_fullColumns_2 : decode cX3_fullColumns 2 = .ok (.iconst 1, 1) := by decide +kernel
theorem dX3_fullColumns_3 : decode cX3_fullColumns 3 = .ok (.istore_n 3, 1) := by decide +kernel
theorem dX3_fullColumns_4 : decode cX3_fullColumns 4 = .ok (.iload_n 3, 1) := by decide +kernel
theorem dX3_fullColumns_5 : decode cX3_fullColumns 5 = .ok (.aload_n 0, 1) := by decide +kernel
theorem dX3_fullColumns_6 : decode cX3_fullColumns 6 = .ok (.getfield 15, 3) := by decide +kernel
theorem dX3_fullColumns_9 : decode cX3_fullColumns 9 = .ok (.if_icmp .gt 20, 3) := by decide +kernel
theorem dX3_fullColumns_12 : decode cX3_fullColumns 12 = .ok (.iconst 2, 1) := by decide +kernel
theorem dX3_fullColumns_13 : decode cX3_fullColumns 13 = .ok (.iload_n 2, 1) := by decide +kernel
theorem dX3_fullColumns_14 : decode cX3_fullColumns 14 = .ok (.imul, 1) := by decide +kernel
theorem dX3_fullColumns_15 : decode cX3_fullColumns 15 = .ok (.aload_n 0, 1) := by decide +kernel
theorem dX3_fullColumns_16 : decode cX3_fullColumns 16 = .ok (.iload_n 1, 1) := by decide +kernel
theorem dX3_fullColumns_17 : decode cX3_fullColumns 17 = .ok (.iload_n 3, 1) := by decide +kernel
theorem dX3_fullColumns_18 : decode cX3_fullColumns 18 = .ok (.invokevirtual 66, 3) := by decide +kernel
theorem dX3_fullColumns_21 : decode cX3_fullColumns 21 = .ok (.iadd, 1) := by decide +kernel
theorem dX3_fullColumns_22 : decode cX3_fullColumns 22 = .ok (.istore_n 2, 1) := by decide +kernel
theorem dX3_fullColumns_23 : decode cX3_fullColumns 23 = .ok (.iinc 3 1, 3) := by decide +kernel
theorem dX3_fullColumns_26 : decode cX3_fullColumns 26 = .ok (.goto (-22), 3) := by decide +kernel
theorem dX3_fullColumns_29 : decode cX3_fullColumns 29 = .ok (.iload_n 2, 1) := by decide +kernel
theorem dX3_fullColumns_30 : decode cX3_fullColumns 30 = .ok (.ireturn, 1) := by decide +kernel
set_option maxRecDepth 20000 in
theorem ggX3_putFullColumns_X3_cornerAt : GoodIn wsX3_putFullColumns wsX3_cornerAt := goodIn_r _ [6, 7, 12, 13] (by decide +kernel) (by decide +kernel)
set_option maxRecDepth 20000 in
theorem gX3_putFullColumns_X3_cornerAt : GoodIn wsX3_putFullColumns (wsV RX3 25 RX3 yX3_cornerAt wsX3_cornerAt) := goodIn_app (goodIn_of _ (by decide +kernel)) ggX3_putFullColumns_X3_cornerAt
set_option maxRecDepth 20000 in
theorem ggX3_putFullColumns_X3_putCorner : GoodIn wsX3_putFullColumns wsX3_putCorner := goodIn_r _ [11, 7, 12, 13] (by decide +kernel) (by decide +kernel)
set_option maxRecDepth 20000 in
theorem gX3_putFullColumns_X3_putCorner : GoodIn wsX3_putFullColumns (wsV RX3 41 RX3 yX3_putCorner wsX3_putCorner) := goodIn_app (goodIn_of _ (by decide +kernel)) ggX3_putFullColumns_X3_putCorner
theorem dX3_putFullColumns_0 : decode cX3_putFullColumns 0 = .ok (.iconst 1, 1) := by decide +kernel
theorem dX3_putFullColumns_1 : decode cX3_putFullColumns 1 = .ok (.istore_n 3, 1) := by decide +kernel
theorem dX3_putFullColumns_2 : decode cX3_putFullColumns 2 = .ok (.iload_n 3, 1) := by decide +kernel
theorem dX3_putFullColumns_3 : decode cX3_putFullColumns 3 = .ok (.aload_n 0, 1) := by decide +kernel
theorem dX3_putFullColumns_4 : decode cX3_putFullColumns 4 = .ok (.getfield 15, 3) := by decide +kernel
theorem dX3_putFullColumns_7 : decode cX3_putFullColumns 7 = .ok (.if_icmp .gt 38, 3) := by decide +kernel
theorem dX3_putFullColumns_10 : decode cX3_putFullColumns 10 = .ok (.iload_n 2, 1) := by decide +kernel
theorem dX3_putFullColumns_11 : decode cX3_putFullColumns 11 = .ok (.aload_n 0, 1) := by decide +kernel
theorem dX3_putFullColumns_12 : decode cX3_putFullColumns 12 = .ok (.getfield 15, 3) := by decide +kernel
theorem dX3_putFullColumns_15 : decode cX3_putFullColumns 15 = .ok (.iload_n 3, 1) := by decide +kernel
theorem dX3_putFullColumns_16 : decode cX3_putFullColumns 16 = .ok (.isub, 1) := by decide +kernel
theorem dX3_putFullColumns_17 : decode cX3_putFullColumns 17 = .ok (.ishr, 1) := by decide +kernel
theorem dX3_putFullColumns_18 : decode cX3_putFullColumns 18 = .ok (.iconst 1, 1) := by decide +kernel
theorem dX3_putFullColumns_19 : decode cX3_putFullColumns 19 = .ok (.iand, 1) := by decide +kernel
theorem dX3_putFullColumns_20 : decode cX3_putFullColumns 20 = .ok (.istore 4, 2) := by decide +kernel
theorem dX3_putFullColumns_22 : decode cX3_putFullColumns 22 = .ok (.aload_n 0, 1) := by decide +kernel
theorem dX3_putFullColumns_23 : decode cX3_putFullColumns 23 = .ok (.iload_n 1, 1) := by decide +kernel
theorem dX3_putFullColumns_24 : decode cX3_putFullColumns 24 = .ok (.iload_n 3, 1) := by decide +kernel
theorem dX3_putFullColumns_25 : decode cX3_putFullColumns 25 = .ok (.aload_n 0, 1) := by decide +kernel
theorem dX3_putFullColumns_26 : decode cX3_putFullColumns 26 = .ok (.iload_n 1, 1) := by decide +kernel
theorem dX3_putFullColumns_27 : decode cX3_putFullColumns 27 = .ok (.iload_n 3, 1) := by decide +kernel
theorem dX3_putFullColumns_28 : decode cX3_putFullColumns 28 = .ok (.iconst 1, 1) := by decide +kernel
theorem dX3_putFullColumns_29 : decode cX3_putFullColumns 29 = .ok (.isub, 1) := by decide +kernel
theorem dX3_putFullColumns_30 : decode cX3_putFullColumns 30 = .ok (.invokevirtual 25, 3) := by decide +kernel
theorem dX3_putFullColumns_33 : decode cX3_putFullColumns 33 = .ok (.iload 4, 2) := by decide +kernel
theorem dX3_putFullColumns_35 : decode cX3_putFullColumns 35 = .ok (.iadd, 1) := by decide +kernel
theorem dX3_putFullColumns_36 : decode cX3_putFullColumns 36 = .ok (.invokevirtual 41, 3) := by decide +kernel
theorem dX3_putFullColumns_39 : decode cX3_putFullColumns 39 = .ok (.iinc 3 1, 3) := by decide +kernel
theorem dX3_putFullColumns_42 : decode cX3_putFullColumns 42 = .ok (.goto (-40), 3) := by decide +kernel
theorem dX3_putFullColumns_45 : decode cX3_putFullColumns 45 = .ok (.return_, 1) := by decide +kernel
set_option maxRecDepth 20000 in
theorem ggX4_init_X3_init : GoodIn wsX4_init wsX3_init := goodIn_r _ [11, 12, 2, 3, 13, 14, 21, 22] (by decide +kernel) (by decide +kernel)
set_option maxRecDepth 20000 in
theorem gX4_init_X3_init_n17 : GoodIn wsX4_init (wsX3_init) := ggX4_init_X3_init
theorem dX4_init_0 : decode cX4_init 0 = .ok (.aload_n 0, 1) := by decide +kernel
theorem dX4_init_1 : decode cX4_init 1 = .ok (.invokespecial 3, 3) := by decide +kernel
theorem dX4_init_4 : decode cX4_init 4 = .ok (.aload_n 0, 1) := by decide +kernel
theorem dX4_init_5 : decode cX4_init 5 = .ok (.sipush 200, 3) := by decide +kernel
theorem dX4_init_8 : decode cX4_init 8 = .ok (.newarray .char, 2) := by decide +kernel
theorem dX4_init_10 : decode cX4_init 10 = .ok (.putfield 9, 3) := by decide +kernel
theorem dX4_init_13 : decode cX4_init 13 = .ok (.aload_n 0, 1) := by decide +kernel
theorem dX4_init_14 : decode cX4_init 14 = .ok (.new 15, 3) := by decide +kernel
theorem dX4_init_17 : decode cX4_init 17 = .ok (.dup, 1) := by decide +kernel
theorem dX4_init_18 : decode cX4_init 18 = .ok (.invokespecial 17, 3) := by decide +kernel
theorem dX4_init_21 : decode cX4_init 21 = .ok (.putfield 18, 3) := by decide +kernel
theorem dX4_init_24 : decode cX4_init 24 = .ok (.return_, 1) := by decide +kernel
theorem dX4_add_0 : decode cX4_add 0 = .ok (.aload_n 0, 1) := by decide +kernel
theorem dX4_add_1 : decode cX4_add 1 = .ok (.getfield 22, 3) := by decide +kernel
theorem dX4_add_4 : decode cX4_add 4 = .ok (.sipush 200, 3) := by decide +kernel
theorem dX4_add_7 : decode cX4_add 7 = .ok (.if_icmp .ge 23, 3) := by decide +kernel
theorem dX4_add_10 : decode cX4_add 10 = .ok (.aload_n 0, 1) := by decide +kernel
theorem dX4_add_11 : decode cX4_add 11 = .ok (.getfield 9, 3) := by decide +kernel
theorem dX4_add_14 : decode cX4_add 14 = .ok (.aload_n 0, 1) := by decide +kernel
theorem dX4_add_15 : decode cX4_add 15 = .ok (.getfield 22, 3) := by decide +kernel
theorem dX4_add_18 : decode cX4_add 18 = .ok (.iload_n 1, 1) := by decide +kernel
theorem dX4_add_19 : decode cX4_add 19 = .ok (.castore, 1) := by decide +kernel
theorem dX4_add_20 : decode cX4_add 20 = .ok (.aload_n 0, 1) := by decide +kernel
theorem dX4_add_21 : decode cX4_add 21 = .ok (.dup, 1) := by decide +kernel
theorem dX4_add_22 : decode cX4_add 22 = .ok (.getfield 22, 3) := by decide +kernel
theorem dX4_add_25 : decode cX4_add 25 = .ok (.iconst 1, 1) := by decide +kernel
theorem dX4_add_26 : decode cX4_add 26 = .ok (.iadd, 1) := by decide +kernel
theorem dX4_add_27 : decode cX4_add 27 = .ok (.putfield 22, 3) := by decide +kernel
theorem dX4_add_30 : decode cX4_add 30 = .ok (.return_, 1) := by decide +kernel
set_option maxRecDepth 20000 in
theorem ggX4_firstFault_X4_startRow : GoodIn wsX4_firstFault wsX4_startRow := goodIn_r _ [10, 11, 12, 47, 48, 49, 50, 51, 52] (by decide +kernel) (by decide +kernel)
set_option maxRecDepth 20000 in
theorem gX4_firstFault_X4_startRow : GoodIn wsX4_firstFault (wsV RX4 32 RX4 yX4_startRow wsX4_startRow) := goodIn_app (goodIn_of _ (by decide +kernel)) ggX4_firstFault_X4_startRow
set_option maxRecDepth 20000 in
theorem ggX4_firstFault_X4_canStand : GoodIn wsX4_firstFault wsX4_canStand := goodIn_r _ [16, 17, 18, 19, 9, 20, 1, 2, 3, 21, 22, 23, 24, 11, 12, 6, 7, 8, 10, 25, 26, 27, 28, 29, 30, 31, 32, 33, 34, 35, 36, 37, 38, 39, 40, 41, 42, 43, 44, 45, 46, 47, 48, 49, 50, 51, 52, 53, 54] (by decide +kernel) (by decide +kernel)
set_option maxRecDepth 20000 in
theorem gX4_firstFault_X4_canStand : GoodIn wsX4_firstFault (wsV RX4 35 RX4 yX4_canStand wsX4_canStand) := goodIn_app (goodIn_of _ (by decide +kernel)) ggX4_firstFault_X4_canStand
set_option maxRecDepth 20000 in
theorem ggX4_firstFault_X4_isWhole : GoodIn wsX4_firstFault wsX4_isWhole := goodIn_r _ [20, 1, 2, 3, 47, 48, 49, 50, 51, 52, 53, 54] (by decide +kernel) (by decide +kernel)
set_option maxRecDepth 20000 in
theorem gX4_firstFault_X4_isWhole : GoodIn wsX4_firstFault (wsV RX4 39 RX4 yX4_isWhole wsX4_isWhole) := goodIn_app (goodIn_of _ (by decide +kernel)) ggX4_firstFault_X4_isWhole
theorem dX4_firstFault_0 : decode cX4_firstFault 0 = .ok (.aload_n 0, 1) := by decide +kernel
theorem dX4_firstFault_1 : decode cX4_firstFault 1 = .ok (.getfield 18, 3) := by decide +kernel
theorem dX4_firstFault_4 : decode cX4_firstFault 4 = .ok (.iconst 0, 1) := by decide +kernel
theorem dX4_firstFault_5 : decode cX4_firstFault 5 = .ok (.putfield 26, 3) := by decide +kernel
theorem dX4_firstFault_8 : decode cX4_firstFault 8 = .ok (.aload_n 0, 1) := by decide +kernel
theorem dX4_firstFault_9 : decode cX4_firstFault 9 = .ok (.iconst 0, 1) := by decide +kernel
theorem dX4_firstFault_10 : decode cX4_firstFault 10 = .ok (.putfield 29, 3) := by decide +kernel
theorem dX4_firstFault_13 : decode cX4_firstFault 13 = .ok (.aload_n 0, 1) := by decide +kernel
theorem dX4_firstFault_14 : decode cX4_firstFault 14 = .ok (.invokevirtual 32, 3) := by decide +kernel
theorem dX4_firstFault_17 : decode cX4_firstFault 17 = .ok (.iconst 0, 1) := by decide +kernel
theorem dX4_firstFault_18 : decode cX4_firstFault 18 = .ok (.istore_n 1, 1) := by decide +kernel
theorem dX4_firstFault_19 : decode cX4_firstFault 19 = .ok (.iload_n 1, 1) := by decide +kernel
theorem dX4_firstFault_20 : decode cX4_firstFault 20 = .ok (.aload_n 0, 1) := by decide +kernel
theorem dX4_firstFault_21 : decode cX4_firstFault 21 = .ok (.getfield 22, 3) := by decide +kernel
theorem dX4_firstFault_24 : decode cX4_firstFault 24 = .ok (.if_icmp .ge 24, 3) := by decide +kernel
theorem dX4_firstFault_27 : decode cX4_firstFault 27 = .ok (.aload_n 0, 1) := by decide +kernel
theorem dX4_firstFault_28 : decode cX4_firstFault 28 = .ok (.aload_n 0, 1) := by decide +kernel
theorem dX4_firstFault_29 : decode cX4_firstFault 29 = .ok (.getfield 9, 3) := by decide +kernel
theorem dX4_firstFault_32 : decode cX4_firstFault 32 = .ok (.iload_n 1, 1) := by decide +kernel
theorem dX4_firstFault_33 : decode cX4_firstFault 33 = .ok (.caload, 1) := by decide +kernel
theorem dX4_firstFault_34 : decode cX4_firstFault 34 = .ok (.invokevirtual 35, 3) := by decide +kernel
theorem dX4_firstFault_37 : decode cX4_firstFault 37 = .ok (.ifCond .ne 5, 3) := by decide +kernel
theorem dX4_firstFault_40 : decode cX4_firstFault 40 = .ok (.iload_n 1, 1) := by decide +kernel
theorem dX4_firstFault_41 : decode cX4_firstFault 41 = .ok (.ireturn, 1) := by decide +kernel
theorem dX4_firstFault_42 : decode cX4_firstFault 42 = .ok (.iinc 1 1, 3) := by decide +kernel
theorem dX4_firstFault_45 : decode cX4_firstFault 45 = .ok (.goto (-26), 3) := by decide +kernel
theorem dX4_firstFault_48 : decode cX4_firstFault 48 = .ok (.aload_n 0, 1) := by decide +kernel
theorem dX4_firstFault_49 : decode cX4_firstFault 49 = .ok (.invokevirtual 39, 3) := by decide +kernel
theorem dX4_firstFault_52 : decode cX4_firstFault 52 = .ok (.ifCond .eq 8, 3) := by decide +kernel
theorem dX4_firstFault_55 : decode cX4_firstFault 55 = .ok (.bipush (-4), 2) := by decide +kernel
theorem dX4_firstFault_57 : decode cX4_firstFault 57 = .ok (.goto 7, 3) := by decide +kernel
theorem dX4_firstFault_60 : decode cX4_firstFault 60 = .ok (.aload_n 0, 1) := by decide +kernel
theorem dX4_firstFault_61 : decode cX4_firstFault 61 = .ok (.getfield 22, 3) := by decide +kernel
theorem dX4_firstFault_64 : decode cX4_firstFault 64 = .ok (.ireturn, 1) := by decide +kernel
theorem dX4_startRow_0 : decode cX4_startRow 0 = .ok (.aload_n 0, 1) := by decide +kernel
theorem dX4_startRow_1 : decode cX4_startRow 1 = .ok (.iconst 0, 1) := by decide +kernel
theorem dX4_startRow_2 : decode cX4_startRow 2 = .ok (.putfield 43, 3) := by decide +kernel
theorem dX4_startRow_5 : decode cX4_startRow 5 = .ok (.aload_n 0, 1) := by decide +kernel
theorem dX4_startRow_6 : decode cX4_startRow 6 = .ok (.iconst 0, 1) := by decide +kernel
theorem dX4_startRow_7 : decode cX4_startRow 7 = .ok (.putfield 46, 3) := by decide +kernel
theorem dX4_startRow_10 : decode cX4_startRow 10 = .ok (.return_, 1) := by decide +kernel
theorem dX4_isWhole_0 : decode cX4_isWhole 0 = .ok (.aload_n 0, 1) := by decide +kernel
theorem dX4_isWhole_1 : decode cX4_isWhole 1 = .ok (.getfield 18, 3) := by decide +kernel
theorem dX4_isWhole_4 : decode cX4_isWhole 4 = .ok (.getfield 26, 3) := by decide +kernel
theorem dX4_isWhole_7 : decode cX4_isWhole 7 = .ok (.ifCond .le 21, 3) := by decide +kernel
theorem dX4_isWhole_10 : decode cX4_isWhole 10 = .ok (.aload_n 0, 1) := by decide +kernel
theorem dX4_isWhole_11 : decode cX4_isWhole 11 = .ok (.getfield 29, 3) := by decide +kernel
theorem dX4_isWhole_14 : decode cX4_isWhole 14 = .ok (.aload_n 0, 1) := by decide +kernel
theorem dX4_isWhole_15 : decode cX4_isWhole 15 = .ok (.getfield 18, 3) := by decide +kernel
theorem dX4_isWhole_18 : decode cX4_isWhole 18 = .ok (.getfield 26, 3) := by decide +kernel
theorem dX4_isWhole_21 : decode cX4_isWhole 21 = .ok (.if_icmp .ne 7, 3) := by decide +kernel
theorem dX4_isWhole_24 : decode cX4_isWhole 24 = .ok (.iconst 1, 1) := by decide +kernel
theorem dX4_isWhole_25 : decode cX4_isWhole 25 = .ok (.goto 4, 3) := by decide +kernel
theorem dX4_isWhole_28 : decode cX4_isWhole 28 = .ok (.iconst 0, 1) := by decide +kernel
theorem dX4_isWhole_29 : decode cX4_isWhole 29 = .ok (.ireturn, 1) := by decide +kernel
set_option maxRecDepth 20000 in
theorem ggX4_canStand_X4_isWhole : GoodIn wsX4_canStand wsX4_isWhole := goodIn_r _ [5, 6, 7, 8, 41, 42, 43, 44, 45, 46, 47, 48] (by decide +kernel) (by decide +kernel)
set_option maxRecDepth 20000 in
theorem gX4_canStand_X4_isWhole : GoodIn wsX4_canStand (wsV RX4 39 RX4 yX4_isWhole wsX4_isWhole) := goodIn_app (goodIn_of _ (by decide +kernel)) ggX4_canStand_X4_isWhole
set_option maxRecDepth 20000 in
theorem ggX4_canStand_X4_canEndRow : GoodIn wsX4_canStand wsX4_canEndRow := goodIn_r _ [12, 13, 6, 7, 14, 8, 15, 16, 17, 4, 18, 41, 42, 43, 44, 45, 46, 47, 48] (by decide +kernel) (by decide +kernel)
set_option maxRecDepth 20000 in
theorem gX4_canStand_X4_canEndRow : GoodIn wsX4_canStand (wsV RX4 49 RX4 yX4_canEndRow wsX4_canEndRow) := goodIn_app (goodIn_of _ (by decide +kernel)) ggX4_canStand_X4_canEndRow
set_option maxRecDepth 20000 in
theorem ggX4_canStand_X4_canPut : GoodIn wsX4_canStand wsX4_canPut := goodIn_r _ [22, 6, 7, 13, 14, 8, 23, 24, 25, 26, 27, 28, 29, 30, 31, 32, 33, 34, 35, 36, 37, 38, 39, 40, 41, 42, 43, 44, 45, 46, 47, 48] (by decide +kernel) (by decide +kernel)
set_option maxRecDepth 20000 in
theorem gX4_canStand_X4_canPut : GoodIn wsX4_canStand (wsV RX4 52 RX4 yX4_canPut wsX4_canPut) := goodIn_app (goodIn_of _ (by decide +kernel)) ggX4_canStand_X4_canPut
theorem dX4_canStand_0 : decode cX4_canStand 0 = .ok (.aload_n 0, 1) := by decide +kernel
theorem dX4_canStand_1 : decode cX4_canStand 1 = .ok (.invokevirtual 39, 3) := by decide +kernel
theorem dX4_canStand_4 : decode cX4_canStand 4 = .ok (.ifCond .eq 5, 3) := by decide +kernel
theorem dX4_canStand_7 : decode cX4_canStand 7 = .ok (.iconst 0, 1) := by decide +kernel
theorem dX4_canStand_8 : decode cX4_canStand 8 = .ok (.ireturn, 1) := by decide +kernel
theorem dX4_canStand_9 : decode cX4_canStand 9 = .ok (.iload_n 1, 1) := by decide +kernel
theorem dX4_canStand_10 : decode cX4_canStand 10 = .ok (.bipush 59, 2) := by decide +kernel
theorem dX4_canStand_12 : decode cX4_canStand 12 = .ok (.if_icmp .ne 8, 3) := by decide +kernel
theorem dX4_canStand_15 : decode cX4_canStand 15 = .ok (.aload_n 0, 1) := by decide +kernel
theorem dX4_canStand_16 : decode cX4_canStand 16 = .ok (.invokevirtual 49, 3) := by decide +kernel
theorem dX4_canStand_19 : decode cX4_canStand 19 = .ok (.ireturn, 1) := by decide +kernel
theorem dX4_canStand_20 : decode cX4_canStand 20 = .ok (.iload_n 1, 1) := by decide +kernel
theorem dX4_canStand_21 : decode cX4_canStand 21 = .ok (.bipush 48, 2) := by decide +kernel
theorem dX4_canStand_23 : decode cX4_canStand 23 = .ok (.if_icmp .ne 9, 3) := by decide +kernel
theorem dX4_canStand_26 : decode cX4_canStand 26 = .ok (.aload_n 0, 1) := by decide +kernel
theorem dX4_canStand_27 : decode cX4_canStand 27 = .ok (.iconst 0, 1) := by decide +kernel
theorem dX4_canStand_28 : decode cX4_canStand 28 = .ok (.invokevirtual 52, 3) := by decide +kernel
theorem dX4_canStand_31 : decode cX4_canStand 31 = .ok (.ireturn, 1) := by decide +kernel
theorem dX4_canStand_32 : decode cX4_canStand 32 = .ok (.iload_n 1, 1) := by decide +kernel
theorem dX4_canStand_33 : decode cX4_canStand 33 = .ok (.bipush 43, 2) := by decide +kernel
theorem dX4_canStand_35 : decode cX4_canStand 35 = .ok (.if_icmp .ne 11, 3) := by decide +kernel
theorem dX4_canStand_38 : decode cX4_canStand 38 = .ok (.aload_n 0, 1) := by decide +kernel
theorem dX4_canStand_39 : decode cX4_canStand 39 = .ok (.iconst 1, 1) := by decide +kernel
theorem dX4_canStand_40 : decode cX4_canStand 40 = .ok (.invokevirtual 52, 3) := by decide +kernel
theorem dX4_canStand_43 : decode cX4_canStand 43 = .ok (.ifCond .ne 17, 3) := by decide +kernel
theorem dX4_canStand_46 : decode cX4_canStand 46 = .ok (.iload_n 1, 1) := by decide +kernel
theorem dX4_canStand_47 : decode cX4_canStand 47 = .ok (.bipush 45, 2) := by decide +kernel
theorem dX4_canStand_49 : decode cX4_canStand 49 = .ok (.if_icmp .ne 15, 3) := by decide +kernel
theorem dX4_canStand_52 : decode cX4_canStand 52 = .ok (.aload_n 0, 1) := by decide +kernel
theorem dX4_canStand_53 : decode cX4_canStand 53 = .ok (.iconst (-1), 1) := by decide +kernel
theorem dX4_canStand_54 : decode cX4_canStand 54 = .ok (.invokevirtual 52, 3) := by decide +kernel
theorem dX4_canStand_57 : decode cX4_canStand 57 = .ok (.ifCond .eq 7, 3) := by decide +kernel
theorem dX4_canStand_60 : decode cX4_canStand 60 = .ok (.iconst 1, 1) := by decide +kernel
theorem dX4_canStand_61 : decode cX4_canStand 61 = .ok (.goto 4, 3) := by decide +kernel
theorem dX4_canStand_64 : decode cX4_canStand 64 = .ok (.iconst 0, 1) := by decide +kernel
theorem dX4_canStand_65 : decode cX4_canStand 65 = .ok (.ireturn, 1) := by decide +kernel
set_option maxRecDepth 20000 in
theorem ggX4_canPut_X3_cornerAt : GoodIn wsX4_canPut wsX3_cornerAt := goodIn_r _ [10, 11, 30, 31] (by decide +kernel) (by decide +kernel)
set_option maxRecDepth 20000 in
theorem gX4_canPut_X3_cornerAt : GoodIn wsX4_canPut (wsV RX4 56 RX3 yX3_cornerAt wsX3_cornerAt) := goodIn_app (goodIn_of _ (by decide +kernel)) ggX4_canPut_X3_cornerAt
set_option maxRecDepth 20000 in
theorem ggX4_canPut_X3_putCorner : GoodIn wsX4_canPut wsX3_putCorner := goodIn_r _ [15, 11, 30, 31] (by decide +kernel) (by decide +kernel)
set_option maxRecDepth 20000 in
theorem gX4_canPut_X3_putCorner : GoodIn wsX4_canPut (wsV RX4 60 RX3 yX3_putCorner wsX3_putCorner) := goodIn_app (goodIn_of _ (by decide +kernel)) ggX4_canPut_X3_putCorner
set_option maxRecDepth 20000 in
theorem ggX4_canPut_X5_isBetween : GoodIn wsX4_canPut wsX5_isBetween := goodIn_r _ [18] (by decide +kernel) (by decide +kernel)
set_option maxRecDepth 20000 in
theorem gX4_canPut_X5_isBetween_n64 : GoodIn wsX4_canPut (wsX5_isBetween) := ggX4_canPut_X5_isBetween
set_option maxRecDepth 20000 in
theorem ggX4_canPut_X3_columnSum : GoodIn wsX4_canPut wsX3_columnSum := goodIn_r _ [22, 23, 7, 8, 9, 10, 11, 30, 31] (by decide +kernel) (by decide +kernel)
set_option maxRecDepth 20000 in
theorem gX4_canPut_X3_columnSum : GoodIn wsX4_canPut (wsV RX4 68 RX3 yX3_columnSum wsX3_columnSum) := goodIn_app (goodIn_of _ (by decide +kernel)) ggX4_canPut_X3_columnSum
theorem dX4_canPut_0 : decode cX4_canPut 0 = .ok (.aload_n 0, 1) := by decide +kernel
theorem dX4_canPut_1 : decode cX4_canPut 1 = .ok (.getfield 18, 3) := by decide +kernel
theorem dX4_canPut_4 : decode cX4_canPut 4 = .ok (.getfield 26, 3) := by decide +kernel
theorem dX4_canPut_7 : decode cX4_canPut 7 = .ok (.ifCond .le 13, 3) := by decide +kernel
theorem dX4_canPut_10 : decode cX4_canPut 10 = .ok (.aload_n 0, 1) := by decide +kernel
theorem dX4_canPut_11 : decode cX4_canPut 11 = .ok (.getfield 18, 3) := by decide +kernel
theorem dX4_canPut_14 : decode cX4_canPut 14 = .ok (.getfield 26, 3) := by decide +kernel
theorem dX4_canPut_17 : decode cX4_canPut 17 = .ok (.goto 5, 3) := by decide +kernel
theorem dX4_canPut_20 : decode cX4_canPut 20 = .ok (.bipush 6, 2) := by decide +kernel
theorem dX4_canPut_22 : decode cX4_canPut 22 = .ok (.istore_n 2, 1) := by decide +kernel
theorem dX4_canPut_23 : decode cX4_canPut 23 = .ok (.aload_n 0, 1) := by decide +kernel
theorem dX4_canPut_24 : decode cX4_canPut 24 = .ok (.getfield 43, 3) := by decide +kernel
theorem dX4_canPut_27 : decode cX4_canPut 27 = .ok (.iload_n 2, 1) := by decide +kernel
theorem dX4_canPut_28 : decode cX4_canPut 28 = .ok (.if_icmp .lt 5, 3) := by decide +kernel
theorem dX4_canPut_31 : decode cX4_canPut 31 = .ok (.iconst 0, 1) := by decide +kernel
theorem dX4_canPut_32 : decode cX4_canPut 32 = .ok (.ireturn, 1) := by decide +kernel
theorem dX4_canPut_33 : decode cX4_canPut 33 = .ok (.aload_n 0, 1) := by decide +kernel
theorem dX4_canPut_34 : decode cX4_canPut 34 = .ok (.dup, 1) := by decide +kernel
theorem dX4_canPut_35 : decode cX4_canPut 35 = .ok (.getfield 46, 3) := by decide +kernel
theorem dX4_canPut_38 : decode cX4_canPut 38 = .ok (.iload_n 1, 1) := by decide +kernel
theorem dX4_canPut_39 : decode cX4_canPut 39 = .ok (.iadd, 1) := by decide +kernel
theorem dX4_canPut_40 : decode cX4_canPut 40 = .ok (.putfield 46, 3) := by decide +kernel
theorem dX4_canPut_43 : decode cX4_canPut 43 = .ok (.aload_n 0, 1) := by decide +kernel
theorem dX4_canPut_44 : decode cX4_canPut 44 = .ok (.dup, 1) := by decide +kernel
theorem dX4_canPut_45 : decode cX4_canPut 45 = .ok (.getfield 43, 3) := by decide +kernel
theorem dX4_canPut_48 : decode cX4_canPut 48 = .ok (.iconst 1, 1) := by decide +kernel
theorem dX4_canPut_49 : decode cX4_canPut 49 = .ok (.iadd, 1) := by decide +kernel
theorem dX4_canPut_50 : decode cX4_canPut 50 = .ok (.putfield 43, 3) := by decide +kernel
theorem dX4_canPut_53 : decode cX4_canPut 53 = .ok (.aload_n 0, 1) := by decide +kernel
theorem dX4_canPut_54 : decode cX4_canPut 54 = .ok (.getfield 29, 3) := by decide +kernel
theorem dX4_canPut_57 : decode cX4_canPut 57 = .ok (.iconst 1, 1) := by decide +kernel
theorem dX4_canPut_58 : decode cX4_canPut 58 = .ok (.iadd, 1) := by decide +kernel
theorem dX4_canPut_59 : decode cX4_canPut 59 = .ok (.istore_n 3, 1) := by decide +kernel
theorem dX4_canPut_60 : decode cX4_canPut 60 = .ok (.aload_n 0, 1) := by decide +kernel
theorem dX4_canPut_61 : decode cX4_canPut 61 = .ok (.getfield 18, 3) := by decide +kernel
theorem dX4_canPut_64 : decode cX4_canPut 64 = .ok (.iload_n 3, 1) := by decide +kernel
theorem dX4_canPut_65 : decode cX4_canPut 65 = .ok (.aload_n 0, 1) := by decide +kernel
theorem dX4_canPut_66 : decode cX4_canPut 66 = .ok (.getfield 43, 3) := by decide +kernel
theorem dX4_canPut_69 : decode cX4_canPut 69 = .ok (.aload_n 0, 1) := by decide +kernel
theorem dX4_canPut_70 : decode cX4_canPut 70 = .ok (.getfield 18, 3) := by decide +kernel
theorem dX4_canPut_73 : decode cX4_canPut 73 = .ok (.iload_n 3, 1) := by decide +kernel
theorem dX4_canPut_74 : decode cX4_canPut 74 = .ok (.iconst 1, 1) := by decide +kernel
theorem dX4_canPut_75 : decode cX4_canPut 75 = .ok (.isub, 1) := by decide +kernel
theorem dX4_canPut_76 : decode cX4_canPut 76 = .ok (.aload_n 0, 1) := by decide +kernel
theorem dX4_canPut_77 : decode cX4_canPut 77 = .ok (.getfield 43, 3) := by decide +kernel
theorem dX4_canPut_80 : decode cX4_canPut 80 = .ok (.invokevirtual 56, 3) := by decide +kernel
theorem dX4_canPut_83 : decode cX4_canPut 83 = .ok (.aload_n 0, 1) := by decide +kernel
theorem dX4_canPut_84 : decode cX4_canPut 84 = .ok (.getfield 46, 3) := by decide +kernel
theorem dX4_canPut_87 : decode cX4_canPut 87 = .ok (.iadd, 1) := by decide +kernel
theorem dX4_canPut_88 : decode cX4_canPut 88 = .ok (.invokevirtual 60, 3) := by decide +kernel
theorem dX4_canPut_91 : decode cX4_canPut 91 = .ok (.aload_n 0, 1) := by decide +kernel
theorem dX4_canPut_92 : decode cX4_canPut 92 = .ok (.getfield 46, 3) := by decide +kernel
theorem dX4_canPut_95 : decode cX4_canPut 95 = .ok (.iconst 0, 1) := by decide +kernel
theorem dX4_canPut_96 : decode cX4_canPut 96 = .ok (.iconst 1, 1) := by decide +kernel
theorem dX4_canPut_97 : decode cX4_canPut 97 = .ok (.invokestatic 64, 3) := by decide +kernel
theorem dX4_canPut_100 : decode cX4_canPut 100 = .ok (.ifCond .eq 27, 3) := by decide +kernel
theorem dX4_canPut_103 : decode cX4_canPut 103 = .ok (.aload_n 0, 1) := by decide +kernel
theorem dX4_canPut_104 : decode cX4_canPut 104 = .ok (.getfield 18, 3) := by decide +kernel
theorem dX4_canPut_107 : decode cX4_canPut 107 = .ok (.iload_n 3, 1) := by decide +kernel
theorem dX4_canPut_108 : decode cX4_canPut 108 = .ok (.aload_n 0, 1) := by decide +kernel
theorem dX4_canPut_109 : decode cX4_canPut 109 = .ok (.getfield 43, 3) := by decide +kernel
theorem dX4_canPut_112 : decode cX4_canPut 112 = .ok (.invokevirtual 68, 3) := by decide +kernel
theorem dX4_canPut_115 : decode cX4_canPut 115 = .ok (.iconst 0, 1) := by decide +kernel
theorem dX4_canPut_116 : decode cX4_canPut 116 = .ok (.iconst 1, 1) := by decide +kernel
theorem dX4_canPut_117 : decode cX4_canPut 117 = .ok (.invokestatic 64, 3) := by decide +kernel
theorem dX4_canPut_120 : decode cX4_canPut 120 = .ok (.ifCond .eq 7, 3) := by decide +kernel
theorem dX4_canPut_123 : decode cX4_canPut 123 = .ok (.iconst 1, 1) := by decide +kernel
theorem dX4_canPut_124 : decode cX4_canPut 124 = .ok (.goto 4, 3) := by decide +kernel
theorem dX4_canPut_127 : decode cX4_canPut 127 = .ok (.iconst 0, 1) := by decide +kernel
theorem dX4_canPut_128 : decode cX4_canPut 128 = .ok (.ireturn, 1) := by decide +kernel
set_option maxRecDepth 20000 in
theorem ggX4_canEndRow_X4_startRow : GoodIn wsX4_canEndRow wsX4_startRow := goodIn_r _ [10, 1, 4, 11, 12, 13, 14, 15, 16] (by decide +kernel) (by decide +kernel)
set_option maxRecDepth 20000 in
theorem gX4_canEndRow_X4_startRow : GoodIn wsX4_canEndRow (wsV RX4 32 RX4 yX4_startRow wsX4_startRow) := goodIn_app (goodIn_of _ (by decide +kernel)) ggX4_canEndRow_X4_startRow
theorem dX4_canEndRow_0 : decode cX4_canEndRow 0 = .ok (.aload_n 0, 1) := by decide +kernel
theorem dX4_canEndRow_1 : decode cX4_canEndRow 1 = .ok (.getfield 43, 3) := by decide +kernel
theorem dX4_canEndRow_4 : decode cX4_canEndRow 4 = .ok (.ifCond .eq 25, 3) := by decide +kernel
theorem dX4_canEndRow_7 : decode cX4_canEndRow 7 = .ok (.aload_n 0, 1) := by decide +kernel
theorem dX4_canEndRow_8 : decode cX4_canEndRow 8 = .ok (.getfield 43, 3) := by decide +kernel
theorem dX4_canEndRow_11 : decode cX4_canEndRow 11 = .ok (.aload_n 0, 1) := by decide +kernel
theorem dX4_canEndRow_12 : decode cX4_canEndRow 12 = .ok (.getfield 18, 3) := by decide +kernel
theorem dX4_canEndRow_15 : decode cX4_canEndRow 15 = .ok (.getfield 26, 3) := by decide +kernel
theorem dX4_canEndRow_18 : decode cX4_canEndRow 18 = .ok (.if_icmp .lt 11, 3) := by decide +kernel
theorem dX4_canEndRow_21 : decode cX4_canEndRow 21 = .ok (.aload_n 0, 1) := by decide +kernel
theorem dX4_canEndRow_22 : decode cX4_canEndRow 22 = .ok (.getfield 46, 3) := by decide +kernel
theorem dX4_canEndRow_25 : decode cX4_canEndRow 25 = .ok (.iconst 1, 1) := by decide +kernel
theorem dX4_canEndRow_26 : decode cX4_canEndRow 26 = .ok (.if_icmp .eq 5, 3) := by decide +kernel
theorem dX4_canEndRow_29 : decode cX4_canEndRow 29 = .ok (.iconst 0, 1) := by decide +kernel
theorem dX4_canEndRow_30 : decode cX4_canEndRow 30 = .ok (.ireturn, 1) := by decide +kernel
theorem dX4_canEndRow_31 : decode cX4_canEndRow 31 = .ok (.aload_n 0, 1) := by decide +kernel
theorem dX4_canEndRow_32 : decode cX4_canEndRow 32 = .ok (.getfield 18, 3) := by decide +kernel
theorem dX4_canEndRow_35 : decode cX4_canEndRow 35 = .ok (.aload_n 0, 1) := by decide +kernel
theorem dX4_canEndRow_36 : decode cX4_canEndRow 36 = .ok (.getfield 43, 3) := by decide +kernel
theorem dX4_canEndRow_39 : decode cX4_canEndRow 39 = .ok (.putfield 26, 3) := by decide +kernel
theorem dX4_canEndRow_42 : decode cX4_canEndRow 42 = .ok (.aload_n 0, 1) := by decide +kernel
theorem dX4_canEndRow_43 : decode cX4_canEndRow 43 = .ok (.dup, 1) := by decide +kernel
theorem dX4_canEndRow_44 : decode cX4_canEndRow 44 = .ok (.getfield 29, 3) := by decide +kernel
theorem dX4_canEndRow_47 : decode cX4_canEndRow 47 = .ok (.iconst 1, 1) := by decide +kernel
theorem dX4_canEndRow_48 : decode cX4_canEndRow 48 = .ok (.iadd, 1) := by decide +kernel
theorem dX4_canEndRow_49 : decode cX4_canEndRow 49 = .ok (.putfield 29, 3) := by decide +kernel
theorem dX4_canEndRow_52 : decode cX4_canEndRow 52 = .ok (.aload_n 0, 1) := by decide +kernel
theorem dX4_canEndRow_53 : decode cX4_canEndRow 53 = .ok (.invokevirtual 32, 3) := by decide +kernel
theorem dX4_canEndRow_56 : decode cX4_canEndRow 56 = .ok (.iconst 1, 1) := by decide +kernel
theorem dX4_canEndRow_57 : decode cX4_canEndRow 57 = .ok (.ireturn, 1) := by decide +kernel
set_option maxRecDepth 20000 in
theorem ggX5_init_X4_init : GoodIn wsX5_init wsX4_init := goodIn_r _ [29, 30, 2, 3, 31, 32, 33, 9, 10, 34, 35, 36, 37, 38, 39, 170, 171, 172, 173, 174, 175, 183, 184] (by decide +kernel) (by decide +kernel)
set_option maxRecDepth 20000 in
theorem gX5_init_X4_init_n11 : GoodIn wsX5_init (wsX4_init) := ggX5_init_X4_init
set_option maxRecDepth 20000 in
theorem ggX5_init_X3_init : GoodIn wsX5_init wsX3_init := goodIn_r _ [36, 37, 2, 3, 38, 39, 183, 184] (by decide +kernel) (by decide +kernel)
set_option maxRecDepth 20000 in
theorem gX5_init_X3_init_n18 : GoodIn wsX5_init (wsX3_init) := ggX5_init_X3_init
set_option maxRecDepth 20000 in
theorem ggX5_init_X2_init : GoodIn wsX5_init wsX2_init := goodIn_r _ [42, 43, 2, 3, 44, 45, 9, 10, 35, 36, 37, 38, 39, 185, 186, 187, 183, 184] (by decide +kernel) (by decide +kernel)
set_option maxRecDepth 20000 in
theorem gX5_init_X2_init : GoodIn wsX5_init (wsX2_init) := ggX5_init_X2_init
set_option maxRecDepth 20000 in
theorem ggX5_init_X1_init : GoodIn wsX5_init wsX1_init := goodIn_r _ [47, 48, 2, 3, 38, 49, 50, 51, 52, 188, 189, 190, 191, 192, 193, 194, 195, 196, 197, 198] (by decide +kernel) (by decide +kernel)
set_option maxRecDepth 20000 in
theorem gX5_init_X1_init_n38 : GoodIn wsX5_init (wsX1_init) := ggX5_init_X1_init
set_option maxRecDepth 20000 in
theorem ggX5_init_X0_init : GoodIn wsX5_init wsX0_init := goodIn_r _ [55, 56, 2, 3, 38, 57, 58, 59, 60, 61, 62, 199, 200, 201, 202, 203, 204, 205] (by decide +kernel) (by decide +kernel)
set_option maxRecDepth 20000 in
theorem gX5_init_X0_init : GoodIn wsX5_init (wsX0_init) := ggX5_init_X0_init
set_option maxRecDepth 20000 in
theorem ggX5_init_J0_length_8abf5 : GoodIn wsX5_init wsJ0_length_8abf5 := goodIn_r _ [67, 68, 69, 70, 71, 66, 72, 73, 74] (by decide +kernel) (by decide +kernel)
set_option maxRecDepth 20000 in
theorem gX5_init_J0_length_8abf5 : GoodIn wsX5_init (wsV RX5 54 RJ0 yJ0_length_8abf5 wsJ0_length_8abf5) := goodIn_app (goodIn_of _ (by decide +kernel)) ggX5_init_J0_length_8abf5
set_option maxRecDepth 20000 in
theorem ggX5_init_J0_charAt_5068e : GoodIn wsX5_init wsJ0_charAt_5068e := goodIn_r _ [78, 68, 79, 80, 81, 66, 82, 73, 74, 83, 84, 85, 86, 87, 88, 89, 90, 91, 92, 93, 94, 95, 96, 97, 98, 99, 100, 101, 102, 103, 104, 105, 106, 107, 108, 109, 110, 111] (by decide +kernel) (by decide +kernel)
set_option maxRecDepth 20000 in
theorem gX5_init_J0_charAt_5068e : GoodIn wsX5_init (wsV RX5 60 RJ0 yJ0_charAt_5068e wsJ0_charAt_5068e) := goodIn_app (goodIn_of _ (by decide +kernel)) ggX5_init_J0_charAt_5068e
set_option maxRecDepth 20000 in
theorem ggX5_init_X4_add : GoodIn wsX5_init wsX4_add := goodIn_r _ [115, 116, 32, 170, 171, 172, 173, 174, 175] (by decide +kernel) (by decide +kernel)
set_option maxRecDepth 20000 in
theorem gX5_init_X4_add : GoodIn wsX5_init (wsV RX5 64 RX4 yX4_add wsX4_add) := goodIn_app (goodIn_of _ (by decide +kernel)) ggX5_init_X4_add
set_option maxRecDepth 20000 in
theorem ggX5_init_X4_firstFault : GoodIn wsX5_init wsX4_firstFault := goodIn_r _ [120, 34, 121, 122, 116, 32, 123, 124, 125, 6, 126, 127, 128, 129, 130, 131, 132, 133, 134, 135, 136, 137, 138, 139, 140, 141, 142, 143, 144, 145, 146, 147, 10, 148, 39, 149, 150, 151, 152, 153, 154, 155, 156, 157, 158, 159, 160, 170, 171, 172, 173, 174, 175, 183, 184] (by decide +kernel) (by decide +kernel)
set_option maxRecDepth 20000 in
theorem gX5_init_X4_firstFault : GoodIn wsX5_init (wsV RX5 68 RX4 yX4_firstFault wsX4_firstFault) := goodIn_app (goodIn_of _ (by decide +kernel)) ggX5_init_X4_firstFault
set_option maxRecDepth 20000 in
theorem ggX5_init_X3_copy : GoodIn wsX5_init wsX3_copy := goodIn_r _ [164, 165, 39, 166, 167, 168, 169, 183, 184] (by decide +kernel) (by decide +kernel)
set_option maxRecDepth 20000 in
theorem gX5_init_X3_copy : GoodIn wsX5_init (wsV RX5 74 RX3 yX3_copy wsX3_copy) := goodIn_app (goodIn_of _ (by decide +kernel)) ggX5_init_X3_copy
theorem dX5_init_0 : decode cX5_init 0 = .ok (.aload_n 0, 1) := by decide +kernel
theorem dX5_init_1 : decode cX5_init 1 = .ok (.invokespecial 3, 3) := by decide +kernel
theorem dX5_init_4 : decode cX5_init 4 = .ok (.aload_n 0, 1) := by decide +kernel
theorem dX5_init_5 : decode cX5_init 5 = .ok (.new 9, 3) := by decide +kernel
theorem dX5_init_8 : decode cX5_init 8 = .ok (.dup, 1) := by decide +kernel
theorem dX5_init_9 : decode cX5_init 9 = .ok (.invokespecial 11, 3) := by decide +kernel
theorem dX5_init_12 : decode cX5_init 12 = .ok (.putfield 12, 3) := by decide +kernel
theorem dX5_init_15 : decode cX5_init 15 = .ok (.aload_n 0, 1) := by decide +kernel
theorem dX5_init_16 : decode cX5_init 16 = .ok (.new 16, 3) := by decide +kernel
theorem dX5_init_19 : decode cX5_init 19 = .ok (.dup, 1) := by decide +kernel
theorem dX5_init_20 : decode cX5_init 20 = .ok (.invokespecial 18, 3) := by decide +kernel
theorem dX5_init_23 : decode cX5_init 23 = .ok (.putfield 19, 3) := by decide +kernel
theorem dX5_init_26 : decode cX5_init 26 = .ok (.aload_n 0, 1) := by decide +kernel
theorem dX5_init_27 : decode cX5_init 27 = .ok (.new 16, 3) := by decide +kernel
theorem dX5_init_30 : decode cX5_init 30 = .ok (.dup, 1) := by decide +kernel
theorem dX5_init_31 : decode cX5_init 31 = .ok (.invokespecial 18, 3) := by decide +kernel
theorem dX5_init_34 : decode cX5_init 34 = .ok (.putfield 23, 3) := by decide +kernel
theorem dX5_init_37 : decode cX5_init 37 = .ok (.aload_n 0, 1) := by decide +kernel
theorem dX5_init_38 : decode cX5_init 38 = .ok (.new 16, 3) := by decide +kernel
theorem dX5_init_41 : decode cX5_init 41 = .ok (.dup, 1) := by decide +kernel
theorem dX5_init_42 : decode cX5_init 42 = .ok (.invokespecial 18, 3) := by decide +kernel
theorem dX5_init_45 : decode cX5_init 45 = .ok (.putfield 26, 3) := by decide +kernel
theorem dX5_init_48 : decode cX5_init 48 = .ok (.aload_n 0, 1) := by decide +kernel
theorem dX5_init_49 : decode cX5_init 49 = .ok (.new 29, 3) := by decide +kernel
theorem dX5_init_52 : decode cX5_init 52 = .ok (.dup, 1) := by decide +kernel
theorem dX5_init_53 : decode cX5_init 53 = .ok (.invokespecial 31, 3) := by decide +kernel
theorem dX5_init_56 : decode cX5_init 56 = .ok (.putfield 32, 3) := by decide +kernel
theorem dX5_init_59 : decode cX5_init 59 = .ok (.aload_n 0, 1) := by decide +kernel
theorem dX5_init_60 : decode cX5_init 60 = .ok (.new 36, 3) := by decide +kernel
theorem dX5_init_63 : decode cX5_init 63 = .ok (.dup, 1) := by decide +kernel
theorem dX5_init_64 : decode cX5_init 64 = .ok (.invokespecial 38, 3) := by decide +kernel
theorem dX5_init_67 : decode cX5_init 67 = .ok (.putfield 39, 3) := by decide +kernel
theorem dX5_init_70 : decode cX5_init 70 = .ok (.aload_n 0, 1) := by decide +kernel
theorem dX5_init_71 : decode cX5_init 71 = .ok (.bipush 6, 2) := by decide +kernel
theorem dX5_init_73 : decode cX5_init 73 = .ok (.anewarray 43, 3) := by decide +kernel
theorem dX5_init_76 : decode cX5_init 76 = .ok (.putfield 45, 3) := by decide +kernel
theorem dX5_init_79 : decode cX5_init 79 = .ok (.iconst 1, 1) := by decide +kernel
theorem dX5_init_80 : decode cX5_init 80 = .ok (.istore_n 1, 1) := by decide +kernel
theorem dX5_init_81 : decode cX5_init 81 = .ok (.iload_n 1, 1) := by decide +kernel
theorem dX5_init_82 : decode cX5_init 82 = .ok (.bipush 6, 2) := by decide +kernel
theorem dX5_init_84 : decode cX5_init 84 = .ok (.if_icmp .gt 25, 3) := by decide +kernel
theorem dX5_init_87 : decode cX5_init 87 = .ok (.aload_n 0, 1) := by decide +kernel
theorem dX5_init_88 : decode cX5_init 88 = .ok (.getfield 45, 3) := by decide +kernel
theorem dX5_init_91 : decode cX5_init 91 = .ok (.iload_n 1, 1) := by decide +kernel
theorem dX5_init_92 : decode cX5_init 92 = .ok (.iconst 1, 1) := by decide +kernel
theorem dX5_init_93 : decode cX5_init 93 = .ok (.isub, 1) := by decide +kernel
theorem dX5_init_94 : decode cX5_init 94 = .ok (.new 43, 3) := by decide +kernel
theorem dX5_init_97 : decode cX5_init 97 = .ok (.dup, 1) := by decide +kernel
theorem dX5_init_98 : decode cX5_init 98 = .ok (.iload_n 1, 1) := by decide +kernel
theorem dX5_init_99 : decode cX5_init 99 = .ok (.invokespecial 49, 3) := by decide +kernel
theorem dX5_init_102 : decode cX5_init 102 = .ok (.aastore, 1) := by decide +kernel
theorem dX5_init_103 : decode cX5_init 103 = .ok (.iinc 1 1, 3) := by decide +kernel
theorem dX5_init_106 : decode cX5_init 106 = .ok (.goto (-25), 3) := by decide +kernel
theorem dX5_init_109 : decode cX5_init 109 = .ok (.iconst 0, 1) := by decide +kernel
theorem dX5_init_110 : decode cX5_init 110 = .ok (.istore_n 1, 1) := by decide +kernel
theorem dX5_init_111 : decode cX5_init 111 = .ok (.iload_n 1, 1) := by decide +kernel
theorem dX5_init_112 : decode cX5_init 112 = .ok (.ldc 52, 2) := by decide +kernel
theorem dX5_init_114 : decode cX5_init 114 = .ok (.invokevirtual 54, 3) := by decide +kernel
theorem dX5_init_117 : decode cX5_init 117 = .ok (.if_icmp .ge 22, 3) := by decide +kernel
theorem dX5_init_120 : decode cX5_init 120 = .ok (.aload_n 0, 1) := by decide +kernel
theorem dX5_init_121 : decode cX5_init 121 = .ok (.getfield 12, 3) := by decide +kernel
theorem dX5_init_124 : decode cX5_init 124 = .ok (.ldc 52, 2) := by decide +kernel
theorem dX5_init_126 : decode cX5_init 126 = .ok (.iload_n 1, 1) := by decide +kernel
theorem dX5_init_127 : decode cX5_init 127 = .ok (.invokevirtual 60, 3) := by decide +kernel
theorem dX5_init_130 : decode cX5_init 130 = .ok (.invokevirtual 64, 3) := by decide +kernel
theorem dX5_init_133 : decode cX5_init 133 = .ok (.iinc 1 1, 3) := by decide +kernel
theorem dX5_init_136 : decode cX5_init 136 = .ok (.goto (-25), 3) := by decide +kernel
theorem dX5_init_139 : decode cX5_init 139 = .ok (.aload_n 0, 1) := by decide +kernel
theorem dX5_init_140 : decode cX5_init 140 = .ok (.getfield 12, 3) := by decide +kernel
theorem dX5_init_143 : decode cX5_init 143 = .ok (.invokevirtual 68, 3) := by decide +kernel
theorem dX5_init_146 : decode cX5_init 146 = .ok (.pop, 1) := by decide +kernel
theorem dX5_init_147 : decode cX5_init 147 = .ok (.aload_n 0, 1) := by decide +kernel
theorem dX5_init_148 : decode cX5_init 148 = .ok (.getfield 19, 3) := by decide +kernel
theorem dX5_init_151 : decode cX5_init 151 = .ok (.aload_n 0, 1) := by decide +kernel
theorem dX5_init_152 : decode cX5_init 152 = .ok (.getfield 12, 3) := by decide +kernel
theorem dX5_init_155 : decode cX5_init 155 = .ok (.getfield 71, 3) := by decide +kernel
theorem dX5_init_158 : decode cX5_init 158 = .ok (.invokevirtual 74, 3) := by decide +kernel
theorem dX5_init_161 : decode cX5_init 161 = .ok (.aload_n 0, 1) := by decide +kernel
theorem dX5_init_162 : decode cX5_init 162 = .ok (.getfield 12, 3) := by decide +kernel
theorem dX5_init_165 : decode cX5_init 165 = .ok (.iconst 0, 1) := by decide +kernel
theorem dX5_init_166 : decode cX5_init 166 = .ok (.putfield 78, 3) := by decide +kernel
theorem dX5_init_169 : decode cX5_init 169 = .ok (.return_, 1) := by decide +kernel
set_option maxRecDepth 20000 in
theorem ggX5_write_X4_add : GoodIn wsX5_write wsX4_add := goodIn_r _ [7, 8, 9, 17, 18, 19, 20, 21, 22] (by decide +kernel) (by decide +kernel)
set_option maxRecDepth 20000 in
theorem gX5_write_X4_add : GoodIn wsX5_write (wsV RX5 64 RX4 yX4_add wsX4_add) := goodIn_app (goodIn_of _ (by decide +kernel)) ggX5_write_X4_add
theorem dX5_write_0 : decode cX5_write 0 = .ok (.iload_n 1, 1) := by decide +kernel
theorem dX5_write_1 : decode cX5_write 1 = .ok (.bipush 32, 2) := by decide +kernel
theorem dX5_write_3 : decode cX5_write 3 = .ok (.if_icmp .lt 9, 3) := by decide +kernel
theorem dX5_write_6 : decode cX5_write 6 = .ok (.iload_n 1, 1) := by decide +kernel
theorem dX5_write_7 : decode cX5_write 7 = .ok (.bipush 126, 2) := by decide +kernel
theorem dX5_write_9 : decode cX5_write 9 = .ok (.if_icmp .le 5, 3) := by decide +kernel
theorem dX5_write_12 : decode cX5_write 12 = .ok (.iconst (-1), 1) := by decide +kernel
theorem dX5_write_13 : decode cX5_write 13 = .ok (.ireturn, 1) := by decide +kernel
theorem dX5_write_14 : decode cX5_write 14 = .ok (.aload_n 0, 1) := by decide +kernel
theorem dX5_write_15 : decode cX5_write 15 = .ok (.getfield 12, 3) := by decide +kernel
theorem dX5_write_18 : decode cX5_write 18 = .ok (.getfield 78, 3) := by decide +kernel
theorem dX5_write_21 : decode cX5_write 21 = .ok (.sipush 200, 3) := by decide +kernel
theorem dX5_write_24 : decode cX5_write 24 = .ok (.if_icmp .lt 6, 3) := by decide +kernel
theorem dX5_write_27 : decode cX5_write 27 = .ok (.bipush (-3), 2) := by decide +kernel
theorem dX5_write_29 : decode cX5_write 29 = .ok (.ireturn, 1) := by decide +kernel
theorem dX5_write_30 : decode cX5_write 30 = .ok (.aload_n 0, 1) := by decide +kernel
theorem dX5_write_31 : decode cX5_write 31 = .ok (.getfield 12, 3) := by decide +kernel
theorem dX5_write_34 : decode cX5_write 34 = .ok (.iload_n 1, 1) := by decide +kernel
theorem dX5_write_35 : decode cX5_write 35 = .ok (.i2c, 1) := by decide +kernel
theorem dX5_write_36 : decode cX5_write 36 = .ok (.invokevirtual 64, 3) := by decide +kernel
theorem dX5_write_39 : decode cX5_write 39 = .ok (.aload_n 0, 1) := by decide +kernel
theorem dX5_write_40 : decode cX5_write 40 = .ok (.getfield 12, 3) := by decide +kernel
theorem dX5_write_43 : decode cX5_write 43 = .ok (.getfield 78, 3) := by decide +kernel
theorem dX5_write_46 : decode cX5_write 46 = .ok (.ireturn, 1) := by decide +kernel
theorem dX5_wipe_0 : decode cX5_wipe 0 = .ok (.aload_n 0, 1) := by decide +kernel
theorem dX5_wipe_1 : decode cX5_wipe 1 = .ok (.getfield 12, 3) := by decide +kernel
theorem dX5_wipe_4 : decode cX5_wipe 4 = .ok (.getfield 78, 3) := by decide +kernel
theorem dX5_wipe_7 : decode cX5_wipe 7 = .ok (.istore_n 1, 1) := by decide +kernel
theorem dX5_wipe_8 : decode cX5_wipe 8 = .ok (.aload_n 0, 1) := by decide +kernel
theorem dX5_wipe_9 : decode cX5_wipe 9 = .ok (.getfield 12, 3) := by decide +kernel
theorem dX5_wipe_12 : decode cX5_wipe 12 = .ok (.iconst 0, 1) := by decide +kernel
theorem dX5_wipe_13 : decode cX5_wipe 13 = .ok (.putfield 78, 3) := by decide +kernel
theorem dX5_wipe_16 : decode cX5_wipe 16 = .ok (.iload_n 1, 1) := by decide +kernel
theorem dX5_wipe_17 : decode cX5_wipe 17 = .ok (.ireturn, 1) := by decide +kernel
set_option maxRecDepth 20000 in
theorem ggX5_fault_X4_firstFault : GoodIn wsX5_fault wsX4_firstFault := goodIn_r _ [6, 7, 8, 9, 10, 11, 12, 13, 14, 5, 15, 16, 17, 18, 19, 20, 21, 22, 23, 24, 25, 26, 27, 28, 29, 30, 31, 32, 33, 34, 35, 36, 37, 38, 39, 40, 41, 42, 43, 44, 45, 46, 47, 48, 49, 50, 51, 59, 60, 61, 62, 63, 64, 65, 66] (by decide +kernel) (by decide +kernel)
set_option maxRecDepth 20000 in
theorem gX5_fault_X4_firstFault : GoodIn wsX5_fault (wsV RX5 68 RX4 yX4_firstFault wsX4_firstFault) := goodIn_app (goodIn_of _ (by decide +kernel)) ggX5_fault_X4_firstFault
theorem dX5_fault_0 : decode cX5_fault 0 = .ok (.aload_n 0, 1) := by decide +kernel
theorem dX5_fault_1 : decode cX5_fault 1 = .ok (.getfield 12, 3) := by decide +kernel
theorem dX5_fault_4 : decode cX5_fault 4 = .ok (.invokevirtual 68, 3) := by decide +kernel
theorem dX5_fault_7 : decode cX5_fault 7 = .ok (.ireturn, 1) := by decide +kernel
set_option maxRecDepth 20000 in
theorem ggX5_lay_X4_firstFault : GoodIn wsX5_lay wsX4_firstFault := goodIn_r _ [10, 11, 12, 13, 14, 15, 16, 17, 18, 9, 19, 20, 21, 22, 23, 24, 25, 26, 27, 28, 29, 30, 31, 32, 33, 34, 35, 36, 37, 38, 39, 40, 41, 42, 43, 44, 45, 46, 47, 48, 49, 50, 51, 52, 53, 54, 55, 78, 79, 80, 81, 82, 83, 84, 85] (by decide +kernel) (by decide +kernel)
set_option maxRecDepth 20000 in
theorem gX5_lay_X4_firstFault : GoodIn wsX5_lay (wsV RX5 68 RX4 yX4_firstFault wsX4_firstFault) := goodIn_app (goodIn_of _ (by decide +kernel)) ggX5_lay_X4_firstFault
set_option maxRecDepth 20000 in
theorem ggX5_lay_X3_copy : GoodIn wsX5_lay wsX3_copy := goodIn_r _ [59, 60, 43, 61, 62, 63, 64, 84, 85] (by decide +kernel) (by decide +kernel)
set_option maxRecDepth 20000 in
theorem gX5_lay_X3_copy : GoodIn wsX5_lay (wsV RX5 74 RX3 yX3_copy wsX3_copy) := goodIn_app (goodIn_of _ (by decide +kernel)) ggX5_lay_X3_copy
set_option maxRecDepth 20000 in
theorem ggX5_lay_X2_forget : GoodIn wsX5_lay wsX2_forget := goodIn_r _ [69, 70, 86, 87, 88] (by decide +kernel) (by decide +kernel)
set_option maxRecDepth 20000 in
theorem gX5_lay_X2_forget : GoodIn wsX5_lay (wsV RX5 81 RX2 yX2_forget wsX2_forget) := goodIn_app (goodIn_of _ (by decide +kernel)) ggX5_lay_X2_forget
theorem dX5_lay_0 : decode cX5_lay 0 = .ok (.aload_n 0, 1) := by decide +kernel
theorem dX5_lay_1 : decode cX5_lay 1 = .ok (.getfield 12, 3) := by decide +kernel
theorem dX5_lay_4 : decode cX5_lay 4 = .ok (.invokevirtual 68, 3) := by decide +kernel
theorem dX5_lay_7 : decode cX5_lay 7 = .ok (.bipush (-4), 2) := by decide +kernel
theorem dX5_lay_9 : decode cX5_lay 9 = .ok (.if_icmp .eq 6, 3) := by decide +kernel
theorem dX5_lay_12 : decode cX5_lay 12 = .ok (.bipush (-2), 2) := by decide +kernel
theorem dX5_lay_14 : decode cX5_lay 14 = .ok (.ireturn, 1) := by decide +kernel
theorem dX5_lay_15 : decode cX5_lay 15 = .ok (.aload_n 0, 1) := by decide +kernel
theorem dX5_lay_16 : decode cX5_lay 16 = .ok (.getfield 19, 3) := by decide +kernel
theorem dX5_lay_19 : decode cX5_lay 19 = .ok (.aload_n 0, 1) := by decide +kernel
theorem dX5_lay_20 : decode cX5_lay 20 = .ok (.getfield 12, 3) := by decide +kernel
theorem dX5_lay_23 : decode cX5_lay 23 = .ok (.getfield 71, 3) := by decide +kernel
theorem dX5_lay_26 : decode cX5_lay 26 = .ok (.invokevirtual 74, 3) := by decide +kernel
theorem dX5_lay_29 : decode cX5_lay 29 = .ok (.aload_n 0, 1) := by decide +kernel
theorem dX5_lay_30 : decode cX5_lay 30 = .ok (.getfield 32, 3) := by decide +kernel
theorem dX5_lay_33 : decode cX5_lay 33 = .ok (.invokevirtual 81, 3) := by decide +kernel
theorem dX5_lay_36 : decode cX5_lay 36 = .ok (.aload_n 0, 1) := by decide +kernel
theorem dX5_lay_37 : decode cX5_lay 37 = .ok (.getfield 19, 3) := by decide +kernel
theorem dX5_lay_40 : decode cX5_lay 40 = .ok (.getfield 84, 3) := by decide +kernel
theorem dX5_lay_43 : decode cX5_lay 43 = .ok (.ireturn, 1) := by decide +kernel
set_option maxRecDepth 20000 in
theorem ggX5_take_X5_isSize : GoodIn wsX5_take wsX5_isSize := goodIn_r _ [7, 8, 9, 6, 10] (by decide +kernel) (by decide +kernel)
set_option maxRecDepth 20000 in
theorem gX5_take_X5_isSize : GoodIn wsX5_take (va_wsS RX5 87 yX5_isSize wsX5_isSize) := goodIn_app (goodIn_of _ (by decide +kernel)) ggX5_take_X5_isSize
set_option maxRecDepth 20000 in
theorem ggX5_take_X0_total : GoodIn wsX5_take wsX0_total := goodIn_r _ [15, 16, 17, 18, 19, 14, 20, 21, 22, 23, 24, 25, 26, 27, 28, 29, 30, 31, 32, 33, 34, 35, 36, 37, 38, 86, 87, 88, 89, 90, 91, 92] (by decide +kernel) (by decide +kernel)
set_option maxRecDepth 20000 in
theorem gX5_take_X0_total : GoodIn wsX5_take (wsV RX5 91 RX0 yX0_total wsX0_total) := goodIn_app (goodIn_of _ (by decide +kernel)) ggX5_take_X0_total
set_option maxRecDepth 20000 in
theorem ggX5_take_X2_remember : GoodIn wsX5_take wsX2_remember := goodIn_r _ [43, 44, 45, 46, 47, 48, 49, 50, 51, 52, 53, 54, 55, 56, 57, 58, 59, 60, 61, 93, 94, 95, 96, 97] (by decide +kernel) (by decide +kernel)
set_option maxRecDepth 20000 in
theorem gX5_take_X2_remember : GoodIn wsX5_take (wsV RX5 94 RX2 yX2_remember wsX2_remember) := goodIn_app (goodIn_of _ (by decide +kernel)) ggX5_take_X2_remember
set_option maxRecDepth 20000 in
theorem ggX5_take_X0_put : GoodIn wsX5_take wsX0_put := goodIn_r _ [65, 23, 66, 22, 16, 17, 18, 19, 14, 20, 21, 24, 25, 26, 27, 28, 29, 30, 31, 32, 33, 34, 35, 36, 37, 38, 67, 68, 69, 54, 70, 56, 71, 72, 73, 74, 57, 75, 76, 77, 78, 86, 87, 88, 89, 90, 91, 92, 96, 97] (by decide +kernel) (by decide +kernel)
set_option maxRecDepth 20000 in
theorem gX5_take_X0_put : GoodIn wsX5_take (wsV RX5 97 RX0 yX0_put wsX0_put) := goodIn_app (goodIn_of _ (by decide +kernel)) ggX5_take_X0_put
theorem dX5_take_0 : decode cX5_take 0 = .ok (.iload_n 1, 1) := by decide +kernel
theorem dX5_take_1 : decode cX5_take 1 = .ok (.invokestatic 87, 3) := by decide +kernel
theorem dX5_take_4 : decode cX5_take 4 = .ok (.ifCond .ne 5, 3) := by decide +kernel
theorem dX5_take_7 : decode cX5_take 7 = .ok (.iconst (-1), 1) := by decide +kernel
theorem dX5_take_8 : decode cX5_take 8 = .ok (.ireturn, 1) := by decide +kernel
theorem dX5_take_9 : decode cX5_take 9 = .ok (.aload_n 0, 1) := by decide +kernel
theorem dX5_take_10 : decode cX5_take 10 = .ok (.getfield 45, 3) := by decide +kernel
theorem dX5_take_13 : decode cX5_take 13 = .ok (.iload_n 1, 1) := by decide +kernel
theorem dX5_take_14 : decode cX5_take 14 = .ok (.iconst 1, 1) := by decide +kernel
theorem dX5_take_15 : decode cX5_take 15 = .ok (.isub, 1) := by decide +kernel
theorem dX5_take_16 : decode cX5_take 16 = .ok (.aaload, 1) := by decide +kernel
theorem dX5_take_17 : decode cX5_take 17 = .ok (.astore_n 3, 1) := by decide +kernel
theorem dX5_take_18 : decode cX5_take 18 = .ok (.iload_n 2, 1) := by decide +kernel
theorem dX5_take_19 : decode cX5_take 19 = .ok (.ifCond .lt 11, 3) := by decide +kernel
theorem dX5_take_22 : decode cX5_take 22 = .ok (.iload_n 2, 1) := by decide +kernel
theorem dX5_take_23 : decode cX5_take 23 = .ok (.aload_n 3, 1) := by decide +kernel
theorem dX5_take_24 : decode cX5_take 24 = .ok (.invokevirtual 91, 3) := by decide +kernel
theorem dX5_take_27 : decode cX5_take 27 = .ok (.if_icmp .lt 6, 3) := by decide +kernel
theorem dX5_take_30 : decode cX5_take 30 = .ok (.bipush (-4), 2) := by decide +kernel
theorem dX5_take_32 : decode cX5_take 32 = .ok (.ireturn, 1) := by decide +kernel
theorem dX5_take_33 : decode cX5_take 33 = .ok (.aload_n 0, 1) := by decide +kernel
theorem dX5_take_34 : decode cX5_take 34 = .ok (.getfield 32, 3) := by decide +kernel
theorem dX5_take_37 : decode cX5_take 37 = .ok (.aload_n 0, 1) := by decide +kernel
theorem dX5_take_38 : decode cX5_take 38 = .ok (.getfield 19, 3) := by decide +kernel
theorem dX5_take_41 : decode cX5_take 41 = .ok (.invokevirtual 94, 3) := by decide +kernel
theorem dX5_take_44 : decode cX5_take 44 = .ok (.aload_n 3, 1) := by decide +kernel
theorem dX5_take_45 : decode cX5_take 45 = .ok (.iload_n 2, 1) := by decide +kernel
theorem dX5_take_46 : decode cX5_take 46 = .ok (.aload_n 0, 1) := by decide +kernel
theorem dX5_take_47 : decode cX5_take 47 = .ok (.getfield 19, 3) := by decide +kernel
theorem dX5_take_50 : decode cX5_take 50 = .ok (.invokevirtual 97, 3) := by decide +kernel
theorem dX5_take_53 : decode cX5_take 53 = .ok (.iload_n 1, 1) := by decide +kernel
theorem dX5_take_54 : decode cX5_take 54 = .ok (.ireturn, 1) := by decide +kernel
set_option maxRecDepth 20000 in
theorem ggX5_undo_X2_giveBack : GoodIn wsX5_undo wsX2_giveBack := goodIn_r _ [8, 9, 10, 11, 12, 13, 14, 15, 16, 17, 18, 19, 20, 21, 22, 30, 31, 32, 33, 34] (by decide +kernel) (by decide +kernel)
set_option maxRecDepth 20000 in
theorem gX5_undo_X2_giveBack : GoodIn wsX5_undo (wsV RX5 104 RX2 yX2_giveBack wsX2_giveBack) := goodIn_app (goodIn_of _ (by decide +kernel)) ggX5_undo_X2_giveBack
theorem dX5_undo_0 : decode cX5_undo 0 = .ok (.aload_n 0, 1) := by decide +kernel
theorem dX5_undo_1 : decode cX5_undo 1 = .ok (.getfield 32, 3) := by decide +kernel
theorem dX5_undo_4 : decode cX5_undo 4 = .ok (.getfield 101, 3) := by decide +kernel
theorem dX5_undo_7 : decode cX5_undo 7 = .ok (.ifCond .ne 6, 3) := by decide +kernel
theorem dX5_undo_10 : decode cX5_undo 10 = .ok (.bipush (-2), 2) := by decide +kernel
theorem dX5_undo_12 : decode cX5_undo 12 = .ok (.ireturn, 1) := by decide +kernel
theorem dX5_undo_13 : decode cX5_undo 13 = .ok (.aload_n 0, 1) := by decide +kernel
theorem dX5_undo_14 : decode cX5_undo 14 = .ok (.getfield 32, 3) := by decide +kernel
theorem dX5_undo_17 : decode cX5_undo 17 = .ok (.aload_n 0, 1) := by decide +kernel
theorem dX5_undo_18 : decode cX5_undo 18 = .ok (.getfield 19, 3) := by decide +kernel
theorem dX5_undo_21 : decode cX5_undo 21 = .ok (.invokevirtual 104, 3) := by decide +kernel
theorem dX5_undo_24 : decode cX5_undo 24 = .ok (.aload_n 0, 1) := by decide +kernel
theorem dX5_undo_25 : decode cX5_undo 25 = .ok (.getfield 32, 3) := by decide +kernel
theorem dX5_undo_28 : decode cX5_undo 28 = .ok (.getfield 101, 3) := by decide +kernel
theorem dX5_undo_31 : decode cX5_undo 31 = .ok (.ireturn, 1) := by decide +kernel
set_option maxRecDepth 20000 in
theorem ggX5_keep_X3_copy : GoodIn wsX5_keep wsX3_copy := goodIn_r _ [8, 9, 10, 11, 12, 13, 14, 22, 23] (by decide +kernel) (by decide +kernel)
set_option maxRecDepth 20000 in
theorem gX5_keep_X3_copy : GoodIn wsX5_keep (wsV RX5 74 RX3 yX3_copy wsX3_copy) := goodIn_app (goodIn_of _ (by decide +kernel)) ggX5_keep_X3_copy
theorem dX5_keep_0 : decode cX5_keep 0 = .ok (.aload_n 0, 1) := by decide +kernel
theorem dX5_keep_1 : decode cX5_keep 1 = .ok (.getfield 23, 3) := by decide +kernel
theorem dX5_keep_4 : decode cX5_keep 4 = .ok (.aload_n 0, 1) := by decide +kernel
theorem dX5_keep_5 : decode cX5_keep 5 = .ok (.getfield 19, 3) := by decide +kernel
theorem dX5_keep_8 : decode cX5_keep 8 = .ok (.invokevirtual 74, 3) := by decide +kernel
theorem dX5_keep_11 : decode cX5_keep 11 = .ok (.aload_n 0, 1) := by decide +kernel
theorem dX5_keep_12 : decode cX5_keep 12 = .ok (.getfield 23, 3) := by decide +kernel
theorem dX5_keep_15 : decode cX5_keep 15 = .ok (.getfield 84, 3) := by decide +kernel
theorem dX5_keep_18 : decode cX5_keep 18 = .ok (.ireturn, 1) := by decide +kernel
set_option maxRecDepth 20000 in
theorem ggX5_sign_X5_isBetween : GoodIn wsX5_sign wsX5_isBetween := goodIn_r _ [6] (by decide +kernel) (by decide +kernel)
set_option maxRecDepth 20000 in
theorem gX5_sign_X5_isBetween : GoodIn wsX5_sign (va_wsS RX5 107 yX5_isBetween wsX5_isBetween) := goodIn_app (goodIn_of _ (by decide +kernel)) ggX5_sign_X5_isBetween
set_option maxRecDepth 20000 in
theorem ggX5_sign_X3_signAt : GoodIn wsX5_sign wsX3_signAt := goodIn_r _ [11, 12, 13, 14, 10, 15, 16, 17, 18, 19, 20, 28, 29] (by decide +kernel) (by decide +kernel)
set_option maxRecDepth 20000 in
theorem gX5_sign_X3_signAt : GoodIn wsX5_sign (wsV RX5 111 RX3 yX3_signAt wsX3_signAt) := goodIn_app (goodIn_of _ (by decide +kernel)) ggX5_sign_X3_signAt
theorem dX5_sign_0 : decode cX5_sign 0 = .ok (.iload_n 1, 1) := by decide +kernel
theorem dX5_sign_1 : decode cX5_sign 1 = .ok (.iconst 0, 1) := by decide +kernel
theorem dX5_sign_2 : decode cX5_sign 2 = .ok (.aload_n 0, 1) := by decide +kernel
theorem dX5_sign_3 : decode cX5_sign 3 = .ok (.getfield 19, 3) := by decide +kernel
theorem dX5_sign_6 : decode cX5_sign 6 = .ok (.getfield 84, 3) := by decide +kernel
theorem dX5_sign_9 : decode cX5_sign 9 = .ok (.iconst 1, 1) := by decide +kernel
theorem dX5_sign_10 : decode cX5_sign 10 = .ok (.isub, 1) := by decide +kernel
theorem dX5_sign_11 : decode cX5_sign 11 = .ok (.invokestatic 107, 3) := by decide +kernel
theorem dX5_sign_14 : decode cX5_sign 14 = .ok (.ifCond .eq 20, 3) := by decide +kernel
theorem dX5_sign_17 : decode cX5_sign 17 = .ok (.iload_n 2, 1) := by decide +kernel
theorem dX5_sign_18 : decode cX5_sign 18 = .ok (.iconst 0, 1) := by decide +kernel
theorem dX5_sign_19 : decode cX5_sign 19 = .ok (.aload_n 0, 1) := by decide +kernel
theorem dX5_sign_20 : decode cX5_sign 20 = .ok (.getfield 19, 3) := by decide +kernel
theorem dX5_sign_23 : decode cX5_sign 23 = .ok (.getfield 84, 3) := by decide +kernel
theorem dX5_sign_26 : decode cX5_sign 26 = .ok (.iconst 1, 1) := by decide +kernel
theorem dX5_sign_27 : decode cX5_sign 27 = .ok (.isub, 1) := by decide +kernel
theorem dX5_sign_28 : decode cX5_sign 28 = .ok (.invokestatic 107, 3) := by decide +kernel
theorem dX5_sign_31 : decode cX5_sign 31 = .ok (.ifCond .ne 5, 3) := by decide +kernel
theorem dX5_sign_34 : decode cX5_sign 34 = .ok (.iconst (-1), 1) := by decide +kernel
theorem dX5_sign_35 : decode cX5_sign 35 = .ok (.ireturn, 1) := by decide +kernel
theorem dX5_sign_36 : decode cX5_sign 36 = .ok (.bipush 100, 2) := by decide +kernel
theorem dX5_sign_38 : decode cX5_sign 38 = .ok (.aload_n 0, 1) := by decide +kernel
theorem dX5_sign_39 : decode cX5_sign 39 = .ok (.getfield 19, 3) := by decide +kernel
theorem dX5_sign_42 : decode cX5_sign 42 = .ok (.iload_n 1, 1) := by decide +kernel
theorem dX5_sign_43 : decode cX5_sign 43 = .ok (.iload_n 2, 1) := by decide +kernel
theorem dX5_sign_44 : decode cX5_sign 44 = .ok (.invokevirtual 111, 3) := by decide +kernel
theorem dX5_sign_47 : decode cX5_sign 47 = .ok (.iadd, 1) := by decide +kernel
theorem dX5_sign_48 : decode cX5_sign 48 = .ok (.ireturn, 1) := by decide +kernel
set_option maxRecDepth 20000 in
theorem ggX5_corner_X5_isCorner : GoodIn wsX5_corner wsX5_isCorner := goodIn_r _ [6, 1, 7, 8, 9, 5, 10, 17, 18, 19, 20, 21, 22, 23, 24, 25] (by decide +kernel) (by decide +kernel)
set_option maxRecDepth 20000 in
theorem gX5_corner_X5_isCorner : GoodIn wsX5_corner (wsV RX5 115 RX5 yX5_isCorner wsX5_isCorner) := goodIn_app (goodIn_of _ (by decide +kernel)) ggX5_corner_X5_isCorner
set_option maxRecDepth 20000 in
theorem ggX5_corner_X3_cornerAt : GoodIn wsX5_corner wsX3_cornerAt := goodIn_r _ [15, 16, 24, 25] (by decide +kernel) (by decide +kernel)
set_option maxRecDepth 20000 in
theorem gX5_corner_X3_cornerAt : GoodIn wsX5_corner (wsV RX5 119 RX3 yX3_cornerAt wsX3_cornerAt) := goodIn_app (goodIn_of _ (by decide +kernel)) ggX5_corner_X3_cornerAt
theorem dX5_corner_0 : decode cX5_corner 0 = .ok (.aload_n 0, 1) := by decide +kernel
theorem dX5_corner_1 : decode cX5_corner 1 = .ok (.iload_n 1, 1) := by decide +kernel
theorem dX5_corner_2 : decode cX5_corner 2 = .ok (.iload_n 2, 1) := by decide +kernel
theorem dX5_corner_3 : decode cX5_corner 3 = .ok (.invokevirtual 115, 3) := by decide +kernel
theorem dX5_corner_6 : decode cX5_corner 6 = .ok (.ifCond .eq 15, 3) := by decide +kernel
theorem dX5_corner_9 : decode cX5_corner 9 = .ok (.aload_n 0, 1) := by decide +kernel
theorem dX5_corner_10 : decode cX5_corner 10 = .ok (.getfield 19, 3) := by decide +kernel
theorem dX5_corner_13 : decode cX5_corner 13 = .ok (.iload_n 1, 1) := by decide +kernel
theorem dX5_corner_14 : decode cX5_corner 14 = .ok (.iload_n 2, 1) := by decide +kernel
theorem dX5_corner_15 : decode cX5_corner 15 = .ok (.invokevirtual 119, 3) := by decide +kernel
theorem dX5_corner_18 : decode cX5_corner 18 = .ok (.goto 4, 3) := by decide +kernel
theorem dX5_corner_21 : decode cX5_corner 21 = .ok (.iconst (-1), 1) := by decide +kernel
theorem dX5_corner_22 : decode cX5_corner 22 = .ok (.ireturn, 1) := by decide +kernel
set_option maxRecDepth 20000 in
theorem ggX5_height_X5_isCorner : GoodIn wsX5_height wsX5_isCorner := goodIn_r _ [6, 1, 7, 8, 9, 5, 10, 21, 22, 23, 24, 25, 26, 27, 28, 29] (by decide +kernel) (by decide +kernel)
set_option maxRecDepth 20000 in
theorem gX5_height_X5_isCorner : GoodIn wsX5_height (wsV RX5 115 RX5 yX5_isCorner wsX5_isCorner) := goodIn_app (goodIn_of _ (by decide +kernel)) ggX5_height_X5_isCorner
set_option maxRecDepth 20000 in
theorem ggX5_height_X3_heightAt : GoodIn wsX5_height wsX3_heightAt := goodIn_r _ [15, 16, 17, 18, 14, 19, 20, 28, 29] (by decide +kernel) (by decide +kernel)
set_option maxRecDepth 20000 in
theorem gX5_height_X3_heightAt : GoodIn wsX5_height (wsV RX5 122 RX3 yX3_heightAt wsX3_heightAt) := goodIn_app (goodIn_of _ (by decide +kernel)) ggX5_height_X3_heightAt
theorem dX5_height_0 : decode cX5_height 0 = .ok (.aload_n 0, 1) := by decide +kernel
theorem dX5_height_1 : decode cX5_height 1 = .ok (.iload_n 1, 1) := by decide +kernel
theorem dX5_height_2 : decode cX5_height 2 = .ok (.iload_n 2, 1) := by decide +kernel
theorem dX5_height_3 : decode cX5_height 3 = .ok (.invokevirtual 115, 3) := by decide +kernel
theorem dX5_height_6 : decode cX5_height 6 = .ok (.ifCond .eq 15, 3) := by decide +kernel
theorem dX5_height_9 : decode cX5_height 9 = .ok (.aload_n 0, 1) := by decide +kernel
theorem dX5_height_10 : decode cX5_height 10 = .ok (.getfield 19, 3) := by decide +kernel
theorem dX5_height_13 : decode cX5_height 13 = .ok (.iload_n 1, 1) := by decide +kernel
theorem dX5_height_14 : decode cX5_height 14 = .ok (.iload_n 2, 1) := by decide +kernel
theorem dX5_height_15 : decode cX5_height 15 = .ok (.invokevirtual 122, 3) := by decide +kernel
theorem dX5_height_18 : decode cX5_height 18 = .ok (.goto 4, 3) := by decide +kernel
theorem dX5_height_21 : decode cX5_height 21 = .ok (.iconst (-1), 1) := by decide +kernel
theorem dX5_height_22 : decode cX5_height 22 = .ok (.ireturn, 1) := by decide +kernel
set_option maxRecDepth 20000 in
theorem ggX5_may_X5_isInner : GoodIn wsX5_may wsX5_isInner := goodIn_r _ [6, 1, 7, 8, 9, 5, 10, 25, 26, 27, 28, 29, 30, 31, 32, 33] (by decide +kernel) (by decide +kernel)
set_option maxRecDepth 20000 in
theorem gX5_may_X5_isInner : GoodIn wsX5_may (wsV RX5 125 RX5 yX5_isInner wsX5_isInner) := goodIn_app (goodIn_of _ (by decide +kernel)) ggX5_may_X5_isInner
set_option maxRecDepth 20000 in
theorem ggX5_may_X3_flipKind : GoodIn wsX5_may wsX3_flipKind := goodIn_r _ [15, 16, 17, 18, 14, 19, 20, 21, 22, 23, 24, 32, 33] (by decide +kernel) (by decide +kernel)
set_option maxRecDepth 20000 in
theorem gX5_may_X3_flipKind : GoodIn wsX5_may (wsV RX5 128 RX3 yX3_flipKind wsX3_flipKind) := goodIn_app (goodIn_of _ (by decide +kernel)) ggX5_may_X3_flipKind
theorem dX5_may_0 : decode cX5_may 0 = .ok (.aload_n 0, 1) := by decide +kernel
theorem dX5_may_1 : decode cX5_may 1 = .ok (.iload_n 1, 1) := by decide +kernel
theorem dX5_may_2 : decode cX5_may 2 = .ok (.iload_n 2, 1) := by decide +kernel
theorem dX5_may_3 : decode cX5_may 3 = .ok (.invokevirtual 125, 3) := by decide +kernel
theorem dX5_may_6 : decode cX5_may 6 = .ok (.ifCond .eq 15, 3) := by decide +kernel
theorem dX5_may_9 : decode cX5_may 9 = .ok (.aload_n 0, 1) := by decide +kernel
theorem dX5_may_10 : decode cX5_may 10 = .ok (.getfield 19, 3) := by decide +kernel
theorem dX5_may_13 : decode cX5_may 13 = .ok (.iload_n 1, 1) := by decide +kernel
theorem dX5_may_14 : decode cX5_may 14 = .ok (.iload_n 2, 1) := by decide +kernel
theorem dX5_may_15 : decode cX5_may 15 = .ok (.invokevirtual 128, 3) := by decide +kernel
theorem dX5_may_18 : decode cX5_may 18 = .ok (.goto 4, 3) := by decide +kernel
theorem dX5_may_21 : decode cX5_may 21 = .ok (.iconst (-1), 1) := by decide +kernel
theorem dX5_may_22 : decode cX5_may 22 = .ok (.ireturn, 1) := by decide +kernel
set_option maxRecDepth 20000 in
theorem ggX5_count_X3_negatives : GoodIn wsX5_count wsX3_negatives := goodIn_r _ [15, 16, 17, 18, 19, 14, 20, 21, 22, 23, 24, 25, 26, 27, 28, 29, 139, 140] (by decide +kernel) (by decide +kernel)
set_option maxRecDepth 20000 in
theorem gX5_count_X3_negatives : GoodIn wsX5_count (wsV RX5 131 RX3 yX3_negatives wsX3_negatives) := goodIn_app (goodIn_of _ (by decide +kernel)) ggX5_count_X3_negatives
set_option maxRecDepth 20000 in
theorem ggX5_count_X3_flippable : GoodIn wsX5_count wsX3_flippable := goodIn_r _ [33, 16, 34, 35, 36, 14, 37, 38, 39, 40, 41, 25, 26, 27, 28, 29, 139, 140] (by decide +kernel) (by decide +kernel)
set_option maxRecDepth 20000 in
theorem gX5_count_X3_flippable : GoodIn wsX5_count (wsV RX5 134 RX3 yX3_flippable wsX3_flippable) := goodIn_app (goodIn_of _ (by decide +kernel)) ggX5_count_X3_flippable
set_option maxRecDepth 20000 in
theorem ggX5_count_X3_inversions : GoodIn wsX5_count wsX3_inversions := goodIn_r _ [45, 16, 25, 26, 27, 14, 28, 29, 17, 18, 19, 20, 21, 22, 23, 24, 139, 140] (by decide +kernel) (by decide +kernel)
set_option maxRecDepth 20000 in
theorem gX5_count_X3_inversions : GoodIn wsX5_count (wsV RX5 137 RX3 yX3_inversions wsX3_inversions) := goodIn_app (goodIn_of _ (by decide +kernel)) ggX5_count_X3_inversions
set_option maxRecDepth 20000 in
theorem ggX5_count_X3_heightsTogether : GoodIn wsX5_count wsX3_heightsTogether := goodIn_r _ [49, 16, 38, 39, 40, 14, 41, 25, 26, 27, 28, 29, 139, 140] (by decide +kernel) (by decide +kernel)
set_option maxRecDepth 20000 in
theorem gX5_count_X3_heightsTogether : GoodIn wsX5_count (wsV RX5 140 RX3 yX3_heightsTogether wsX3_heightsTogether) := goodIn_app (goodIn_of _ (by decide +kernel)) ggX5_count_X3_heightsTogether
set_option maxRecDepth 20000 in
theorem ggX5_count_X3_drawnEdges : GoodIn wsX5_count wsX3_drawnEdges := goodIn_r _ [53, 16, 54, 55, 56, 14, 57, 21, 22, 23, 24, 25, 26, 27, 28, 29, 58, 59, 60, 61, 62, 63, 64, 65, 139, 140] (by decide +kernel) (by decide +kernel)
set_option maxRecDepth 20000 in
theorem gX5_count_X3_drawnEdges : GoodIn wsX5_count (wsV RX5 143 RX3 yX3_drawnEdges wsX3_drawnEdges) := goodIn_app (goodIn_of _ (by decide +kernel)) ggX5_count_X3_drawnEdges
set_option maxRecDepth 20000 in
theorem ggX5_count_X1_trace : GoodIn wsX5_count wsX1_trace := goodIn_r _ [70, 71, 72, 73, 74, 75, 69, 76, 77, 78, 59, 60, 14, 61, 62, 63, 64, 65, 25, 26, 27, 28, 29, 79, 55, 56, 57, 21, 22, 23, 24, 80, 81, 82, 83, 84, 85, 86, 87, 88, 89, 90, 91, 92, 93, 94, 95, 96, 97, 98, 99, 100, 101, 102, 103, 104, 105, 106, 107, 108, 109, 110, 111, 112, 113, 114, 115, 116, 117, 118, 119, 120, 121, 122, 123, 124, 125, 126, 127, 128, 129, 130, 131, 139, 140, 150, 151, 152, 153, 154, 155, 156, 157, 158, 159, 160] (by decide +kernel) (by decide +kernel)
set_option maxRecDepth 20000 in
theorem gX5_count_X1_trace : GoodIn wsX5_count (wsV RX5 146 RX1 yX1_trace wsX1_trace) := goodIn_app (goodIn_of _ (by decide +kernel)) ggX5_count_X1_trace
theorem dX5_count_0 : decode cX5_count 0 = .ok (.iload_n 1, 1) := by decide +kernel
theorem dX5_count_1 : decode cX5_count 1 = .ok (.tableswitch 189 0 11 #[63, 71, 79, 87, 95, 103, 111, 119, 127, 143, 151, 170], 63) := by decide +kernel
theorem dX5_count_64 : decode cX5_count 64 = .ok (.aload_n 0, 1) := by decide +kernel
theorem dX5_count_65 : decode cX5_count 65 = .ok (.getfield 19, 3) := by decide +kernel
theorem dX5_count_68 : decode cX5_count 68 = .ok (.getfield 84, 3) := by decide +kernel
theorem dX5_count_71 : decode cX5_count 71 = .ok (.ireturn, 1) := by decide +kernel
theorem dX5_count_72 : decode cX5_count 72 = .ok (.aload_n 0, 1) := by decide +kernel
theorem dX5_count_73 : decode cX5_count 73 = .ok (.getfield 19, 3) := by decide +kernel
theorem dX5_count_76 : decode cX5_count 76 = .ok (.invokevirtual 131, 3) := by decide +kernel
theorem dX5_count_79 : decode cX5_count 79 = .ok (.ireturn, 1) := by decide +kernel
theorem dX5_count_80 : decode cX5_count 80 = .ok (.aload_n 0, 1) := by decide +kernel
theorem dX5_count_81 : decode cX5_count 81 = .ok (.getfield 19, 3) := by decide +kernel
theorem dX5_count_84 : decode cX5_count 84 = .ok (.invokevirtual 134, 3) := by decide +kernel
theorem dX5_count_87 : decode cX5_count 87 = .ok (.ireturn, 1) := by decide +kernel
theorem dX5_count_88 : decode cX5_count 88 = .ok (.aload_n 0, 1) := by decide +kernel
theorem dX5_count_89 : decode cX5_count 89 = .ok (.getfield 19, 3) := by decide +kernel
theorem dX5_count_92 : decode cX5_count 92 = .ok (.invokevirtual 137, 3) := by decide +kernel
theorem dX5_count_95 : decode cX5_count 95 = .ok (.ireturn, 1) := by decide +kernel
theorem dX5_count_96 : decode cX5_count 96 = .ok (.aload_n 0, 1) := by decide +kernel
theorem dX5_count_97 : decode cX5_count 97 = .ok (.getfield 19, 3) := by decide +kernel
theorem dX5_count_100 : decode cX5_count 100 = .ok (.invokevirtual 140, 3) := by decide +kernel
theorem dX5_count_103 : decode cX5_count 103 = .ok (.ireturn, 1) := by decide +kernel
theorem dX5_count_104 : decode cX5_count 104 = .ok (.aload_n 0, 1) := by decide +kernel
theorem dX5_count_105 : decode cX5_count 105 = .ok (.getfield 32, 3) := by decide +kernel
theorem dX5_count_108 : decode cX5_count 108 = .ok (.getfield 101, 3) := by decide +kernel
theorem dX5_count_111 : decode cX5_count 111 = .ok (.ireturn, 1) := by decide +kernel
theorem dX5_count_112 : decode cX5_count 112 = .ok (.aload_n 0, 1) := by decide +kernel
theorem dX5_count_113 : decode cX5_count 113 = .ok (.getfield 12, 3) := by decide +kernel
theorem dX5_count_116 : decode cX5_count 116 = .ok (.getfield 78, 3) := by decide +kernel
theorem dX5_count_119 : decode cX5_count 119 = .ok (.ireturn, 1) := by decide +kernel
theorem dX5_count_120 : decode cX5_count 120 = .ok (.aload_n 0, 1) := by decide +kernel
theorem dX5_count_121 : decode cX5_count 121 = .ok (.getfield 23, 3) := by decide +kernel
theorem dX5_count_124 : decode cX5_count 124 = .ok (.getfield 84, 3) := by decide +kernel
theorem dX5_count_127 : decode cX5_count 127 = .ok (.ireturn, 1) := by decide +kernel
theorem dX5_count_128 : decode cX5_count 128 = .ok (.aload_n 0, 1) := by decide +kernel
theorem dX5_count_129 : decode cX5_count 129 = .ok (.getfield 19, 3) := by decide +kernel
theorem dX5_count_132 : decode cX5_count 132 = .ok (.invokevirtual 131, 3) := by decide +kernel
theorem dX5_count_135 : decode cX5_count 135 = .ok (.ifCond .ne 7, 3) := by decide +kernel
theorem dX5_count_138 : decode cX5_count 138 = .ok (.iconst 1, 1) := by decide +kernel
theorem dX5_count_139 : decode cX5_count 139 = .ok (.goto 4, 3) := by decide +kernel
theorem dX5_count_142 : decode cX5_count 142 = .ok (.iconst 0, 1) := by decide +kernel
theorem dX5_count_143 : decode cX5_count 143 = .ok (.ireturn, 1) := by decide +kernel
theorem dX5_count_144 : decode cX5_count 144 = .ok (.aload_n 0, 1) := by decide +kernel
theorem dX5_count_145 : decode cX5_count 145 = .ok (.getfield 19, 3) := by decide +kernel
theorem dX5_count_148 : decode cX5_count 148 = .ok (.invokevirtual 143, 3) := by decide +kernel
theorem dX5_count_151 : decode cX5_count 151 = .ok (.ireturn, 1) := by decide +kernel
theorem dX5_count_152 : decode cX5_count 152 = .ok (.aload_n 0, 1) := by decide +kernel
theorem dX5_count_153 : decode cX5_count 153 = .ok (.getfield 39, 3) := by decide +kernel
theorem dX5_count_156 : decode cX5_count 156 = .ok (.aload_n 0, 1) := by decide +kernel
theorem dX5_count_157 : decode cX5_count 157 = .ok (.getfield 19, 3) := by decide +kernel
theorem dX5_count_160 : decode cX5_count 160 = .ok (.invokevirtual 146, 3) := by decide +kernel
theorem dX5_count_163 : decode cX5_count 163 = .ok (.aload_n 0, 1) := by decide +kernel
theorem dX5_count_164 : decode cX5_count 164 = .ok (.getfield 39, 3) := by decide +kernel
theorem dX5_count_167 : decode cX5_count 167 = .ok (.getfield 149, 3) := by decide +kernel
theorem dX5_count_170 : decode cX5_count 170 = .ok (.ireturn, 1) := by decide +kernel
theorem dX5_count_171 : decode cX5_count 171 = .ok (.aload_n 0, 1) := by decide +kernel
theorem dX5_count_172 : decode cX5_count 172 = .ok (.getfield 39, 3) := by decide +kernel
theorem dX5_count_175 : decode cX5_count 175 = .ok (.aload_n 0, 1) := by decide +kernel
theorem dX5_count_176 : decode cX5_count 176 = .ok (.getfield 19, 3) := by decide +kernel
theorem dX5_count_179 : decode cX5_count 179 = .ok (.invokevirtual 146, 3) := by decide +kernel
theorem dX5_count_182 : decode cX5_count 182 = .ok (.aload_n 0, 1) := by decide +kernel
theorem dX5_count_183 : decode cX5_count 183 = .ok (.getfield 39, 3) := by decide +kernel
theorem dX5_count_186 : decode cX5_count 186 = .ok (.getfield 152, 3) := by decide +kernel
theorem dX5_count_189 : decode cX5_count 189 = .ok (.ireturn, 1) := by decide +kernel
theorem dX5_count_190 : decode cX5_count 190 = .ok (.iconst (-1), 1) := by decide +kernel
theorem dX5_count_191 : decode cX5_count 191 = .ok (.ireturn, 1) := by decide +kernel
set_option maxRecDepth 20000 in
theorem ggX5_flip_X5_isInner : GoodIn wsX5_flip wsX5_isInner := goodIn_r _ [7, 1, 8, 9, 10, 6, 11, 57, 58, 59, 60, 61, 62, 63, 64, 65] (by decide +kernel) (by decide +kernel)
set_option maxRecDepth 20000 in
theorem gX5_flip_X5_isInner : GoodIn wsX5_flip (wsV RX5 125 RX5 yX5_isInner wsX5_isInner) := goodIn_app (goodIn_of _ (by decide +kernel)) ggX5_flip_X5_isInner
set_option maxRecDepth 20000 in
theorem ggX5_flip_X3_flipKind : GoodIn wsX5_flip wsX3_flipKind := goodIn_r _ [16, 17, 18, 19, 15, 20, 21, 22, 23, 24, 25, 64, 65] (by decide +kernel) (by decide +kernel)
set_option maxRecDepth 20000 in
theorem gX5_flip_X3_flipKind : GoodIn wsX5_flip (wsV RX5 128 RX3 yX3_flipKind wsX3_flipKind) := goodIn_app (goodIn_of _ (by decide +kernel)) ggX5_flip_X3_flipKind
set_option maxRecDepth 20000 in
theorem ggX5_flip_X2_remember : GoodIn wsX5_flip wsX2_remember := goodIn_r _ [30, 31, 32, 33, 34, 35, 36, 37, 38, 39, 40, 15, 41, 42, 25, 43, 44, 45, 46, 66, 67, 68, 64, 65] (by decide +kernel) (by decide +kernel)
set_option maxRecDepth 20000 in
theorem gX5_flip_X2_remember : GoodIn wsX5_flip (wsV RX5 94 RX2 yX2_remember wsX2_remember) := goodIn_app (goodIn_of _ (by decide +kernel)) ggX5_flip_X2_remember
set_option maxRecDepth 20000 in
theorem ggX5_flip_X3_flipAt : GoodIn wsX5_flip wsX3_flipAt := goodIn_r _ [50, 51, 13, 14, 15, 16, 17, 18, 19, 20, 21, 22, 23, 24, 25, 52, 53, 54, 55, 64, 65] (by decide +kernel) (by decide +kernel)
set_option maxRecDepth 20000 in
theorem gX5_flip_X3_flipAt : GoodIn wsX5_flip (wsV RX5 155 RX3 yX3_flipAt wsX3_flipAt) := goodIn_app (goodIn_of _ (by decide +kernel)) ggX5_flip_X3_flipAt
set_option maxRecDepth 20000 in
theorem ggX5_flip_X3_heightAt : GoodIn wsX5_flip wsX3_heightAt := goodIn_r _ [20, 21, 22, 23, 15, 24, 25, 64, 65] (by decide +kernel) (by decide +kernel)
set_option maxRecDepth 20000 in
theorem gX5_flip_X3_heightAt : GoodIn wsX5_flip (wsV RX5 122 RX3 yX3_heightAt wsX3_heightAt) := goodIn_app (goodIn_of _ (by decide +kernel)) ggX5_flip_X3_heightAt
theorem dX5_flip_0 : decode cX5_flip 0 = .ok (.aload_n 0, 1) := by decide +kernel
theorem dX5_flip_1 : decode cX5_flip 1 = .ok (.iload_n 1, 1) := by decide +kernel
theorem dX5_flip_2 : decode cX5_flip 2 = .ok (.iload_n 2, 1) := by decide +kernel
theorem dX5_flip_3 : decode cX5_flip 3 = .ok (.invokevirtual 125, 3) := by decide +kernel
theorem dX5_flip_6 : decode cX5_flip 6 = .ok (.ifCond .ne 5, 3) := by decide +kernel
theorem dX5_flip_9 : decode cX5_flip 9 = .ok (.iconst (-1), 1) := by decide +kernel
theorem dX5_flip_10 : decode cX5_flip 10 = .ok (.ireturn, 1) := by decide +kernel
theorem dX5_flip_11 : decode cX5_flip 11 = .ok (.aload_n 0, 1) := by decide +kernel
theorem dX5_flip_12 : decode cX5_flip 12 = .ok (.getfield 19, 3) := by decide +kernel
theorem dX5_flip_15 : decode cX5_flip 15 = .ok (.iload_n 1, 1) := by decide +kernel
theorem dX5_flip_16 : decode cX5_flip 16 = .ok (.iload_n 2, 1) := by decide +kernel
theorem dX5_flip_17 : decode cX5_flip 17 = .ok (.invokevirtual 128, 3) := by decide +kernel
theorem dX5_flip_20 : decode cX5_flip 20 = .ok (.ifCond .ne 6, 3) := by decide +kernel
theorem dX5_flip_23 : decode cX5_flip 23 = .ok (.bipush (-2), 2) := by decide +kernel
theorem dX5_flip_25 : decode cX5_flip 25 = .ok (.ireturn, 1) := by decide +kernel
theorem dX5_flip_26 : decode cX5_flip 26 = .ok (.aload_n 0, 1) := by decide +kernel
theorem dX5_flip_27 : decode cX5_flip 27 = .ok (.getfield 32, 3) := by decide +kernel
theorem dX5_flip_30 : decode cX5_flip 30 = .ok (.aload_n 0, 1) := by decide +kernel
theorem dX5_flip_31 : decode cX5_flip 31 = .ok (.getfield 19, 3) := by decide +kernel
theorem dX5_flip_34 : decode cX5_flip 34 = .ok (.invokevirtual 94, 3) := by decide +kernel
theorem dX5_flip_37 : decode cX5_flip 37 = .ok (.aload_n 0, 1) := by decide +kernel
theorem dX5_flip_38 : decode cX5_flip 38 = .ok (.getfield 19, 3) := by decide +kernel
theorem dX5_flip_41 : decode cX5_flip 41 = .ok (.iload_n 1, 1) := by decide +kernel
theorem dX5_flip_42 : decode cX5_flip 42 = .ok (.iload_n 2, 1) := by decide +kernel
theorem dX5_flip_43 : decode cX5_flip 43 = .ok (.invokevirtual 155, 3) := by decide +kernel
theorem dX5_flip_46 : decode cX5_flip 46 = .ok (.aload_n 0, 1) := by decide +kernel
theorem dX5_flip_47 : decode cX5_flip 47 = .ok (.getfield 19, 3) := by decide +kernel
theorem dX5_flip_50 : decode cX5_flip 50 = .ok (.iload_n 1, 1) := by decide +kernel
theorem dX5_flip_51 : decode cX5_flip 51 = .ok (.iload_n 2, 1) := by decide +kernel
theorem dX5_flip_52 : decode cX5_flip 52 = .ok (.invokevirtual 122, 3) := by decide +kernel
theorem dX5_flip_55 : decode cX5_flip 55 = .ok (.ireturn, 1) := by decide +kernel
set_option maxRecDepth 20000 in
theorem ggX5_gyrate_X5_isBetween : GoodIn wsX5_gyrate wsX5_isBetween := goodIn_r _ [6] (by decide +kernel) (by decide +kernel)
set_option maxRecDepth 20000 in
theorem gX5_gyrate_X5_isBetween : GoodIn wsX5_gyrate (va_wsS RX5 107 yX5_isBetween wsX5_isBetween) := goodIn_app (goodIn_of _ (by decide +kernel)) ggX5_gyrate_X5_isBetween
set_option maxRecDepth 20000 in
theorem ggX5_gyrate_X2_remember : GoodIn wsX5_gyrate wsX2_remember := goodIn_r _ [11, 12, 13, 14, 15, 16, 17, 18, 19, 20, 21, 22, 23, 24, 25, 26, 27, 28, 29, 65, 66, 67, 68, 69] (by decide +kernel) (by decide +kernel)
set_option maxRecDepth 20000 in
theorem gX5_gyrate_X2_remember : GoodIn wsX5_gyrate (wsV RX5 94 RX2 yX2_remember wsX2_remember) := goodIn_app (goodIn_of _ (by decide +kernel)) ggX5_gyrate_X2_remember
set_option maxRecDepth 20000 in
theorem ggX5_gyrate_X3_gyrateOnce : GoodIn wsX5_gyrate wsX3_gyrateOnce := goodIn_r _ [33, 34, 35, 36, 22, 37, 24, 38, 39, 40, 41, 42, 43, 44, 45, 46, 47, 48, 49, 25, 50, 51, 52, 53, 54, 55, 56, 57, 68, 69] (by decide +kernel) (by decide +kernel)
set_option maxRecDepth 20000 in
theorem gX5_gyrate_X3_gyrateOnce : GoodIn wsX5_gyrate (wsV RX5 159 RX3 yX3_gyrateOnce wsX3_gyrateOnce) := goodIn_app (goodIn_of _ (by decide +kernel)) ggX5_gyrate_X3_gyrateOnce
theorem dX5_gyrate_0 : decode cX5_gyrate 0 = .ok (.iload_n 1, 1) := by decide +kernel
theorem dX5_gyrate_1 : decode cX5_gyrate 1 = .ok (.iconst 1, 1) := by decide +kernel
theorem dX5_gyrate_2 : decode cX5_gyrate 2 = .ok (.bipush 100, 2) := by decide +kernel
theorem dX5_gyrate_4 : decode cX5_gyrate 4 = .ok (.invokestatic 107, 3) := by decide +kernel
theorem dX5_gyrate_7 : decode cX5_gyrate 7 = .ok (.ifCond .ne 5, 3) := by decide +kernel
theorem dX5_gyrate_10 : decode cX5_gyrate 10 = .ok (.iconst (-1), 1) := by decide +kernel
theorem dX5_gyrate_11 : decode cX5_gyrate 11 = .ok (.ireturn, 1) := by decide +kernel
theorem dX5_gyrate_12 : decode cX5_gyrate 12 = .ok (.aload_n 0, 1) := by decide +kernel
theorem dX5_gyrate_13 : decode cX5_gyrate 13 = .ok (.getfield 32, 3) := by decide +kernel
theorem dX5_gyrate_16 : decode cX5_gyrate 16 = .ok (.aload_n 0, 1) := by decide +kernel
theorem dX5_gyrate_17 : decode cX5_gyrate 17 = .ok (.getfield 19, 3) := by decide +kernel
theorem dX5_gyrate_20 : decode cX5_gyrate 20 = .ok (.invokevirtual 94, 3) := by decide +kernel
theorem dX5_gyrate_23 : decode cX5_gyrate 23 = .ok (.iconst 0, 1) := by decide +kernel
theorem dX5_gyrate_24 : decode cX5_gyrate 24 = .ok (.istore_n 2, 1) := by decide +kernel
theorem dX5_gyrate_25 : decode cX5_gyrate 25 = .ok (.iconst 0, 1) := by decide +kernel
theorem dX5_gyrate_26 : decode cX5_gyrate 26 = .ok (.istore_n 3, 1) := by decide +kernel
theorem dX5_gyrate_27 : decode cX5_gyrate 27 = .ok (.iload_n 3, 1) := by decide +kernel
theorem dX5_gyrate_28 : decode cX5_gyrate 28 = .ok (.iload_n 1, 1) := by decide +kernel
theorem dX5_gyrate_29 : decode cX5_gyrate 29 = .ok (.if_icmp .ge 19, 3) := by decide +kernel
theorem dX5_gyrate_32 : decode cX5_gyrate 32 = .ok (.iload_n 2, 1) := by decide +kernel
theorem dX5_gyrate_33 : decode cX5_gyrate 33 = .ok (.aload_n 0, 1) := by decide +kernel
theorem dX5_gyrate_34 : decode cX5_gyrate 34 = .ok (.getfield 19, 3) := by decide +kernel
theorem dX5_gyrate_37 : decode cX5_gyrate 37 = .ok (.invokevirtual 159, 3) := by decide +kernel
theorem dX5_gyrate_40 : decode cX5_gyrate 40 = .ok (.iadd, 1) := by decide +kernel
theorem dX5_gyrate_41 : decode cX5_gyrate 41 = .ok (.istore_n 2, 1) := by decide +kernel
theorem dX5_gyrate_42 : decode cX5_gyrate 42 = .ok (.iinc 3 1, 3) := by decide +kernel
theorem dX5_gyrate_45 : decode cX5_gyrate 45 = .ok (.goto (-18), 3) := by decide +kernel
theorem dX5_gyrate_48 : decode cX5_gyrate 48 = .ok (.iload_n 2, 1) := by decide +kernel
theorem dX5_gyrate_49 : decode cX5_gyrate 49 = .ok (.ireturn, 1) := by decide +kernel
set_option maxRecDepth 20000 in
theorem ggX5_orbit_X3_copy : GoodIn wsX5_orbit wsX3_copy := goodIn_r _ [7, 8, 9, 10, 11, 12, 13, 57, 58] (by decide +kernel) (by decide +kernel)
set_option maxRecDepth 20000 in
theorem gX5_orbit_X3_copy : GoodIn wsX5_orbit (wsV RX5 74 RX3 yX3_copy wsX3_copy) := goodIn_app (goodIn_of _ (by decide +kernel)) ggX5_orbit_X3_copy
set_option maxRecDepth 20000 in
theorem ggX5_orbit_X3_gyrateOnce : GoodIn wsX5_orbit wsX3_gyrateOnce := goodIn_r _ [17, 18, 19, 20, 6, 21, 8, 22, 23, 24, 25, 26, 27, 28, 29, 30, 31, 32, 33, 9, 34, 35, 36, 37, 38, 39, 40, 41, 57, 58] (by decide +kernel) (by decide +kernel)
set_option maxRecDepth 20000 in
theorem gX5_orbit_X3_gyrateOnce : GoodIn wsX5_orbit (wsV RX5 159 RX3 yX3_gyrateOnce wsX3_gyrateOnce) := goodIn_app (goodIn_of _ (by decide +kernel)) ggX5_orbit_X3_gyrateOnce
set_option maxRecDepth 20000 in
theorem ggX5_orbit_X3_distance : GoodIn wsX5_orbit wsX3_distance := goodIn_r _ [45, 8, 46, 47, 48, 49, 30, 31, 32, 6, 33, 9, 57, 58] (by decide +kernel) (by decide +kernel)
set_option maxRecDepth 20000 in
theorem gX5_orbit_X3_distance : GoodIn wsX5_orbit (wsV RX5 162 RX3 yX3_distance wsX3_distance) := goodIn_app (goodIn_of _ (by decide +kernel)) ggX5_orbit_X3_distance
theorem dX5_orbit_0 : decode cX5_orbit 0 = .ok (.aload_n 0, 1) := by decide +kernel
theorem dX5_orbit_1 : decode cX5_orbit 1 = .ok (.getfield 26, 3) := by decide +kernel
theorem dX5_orbit_4 : decode cX5_orbit 4 = .ok (.aload_n 0, 1) := by decide +kernel
theorem dX5_orbit_5 : decode cX5_orbit 5 = .ok (.getfield 19, 3) := by decide +kernel
theorem dX5_orbit_8 : decode cX5_orbit 8 = .ok (.invokevirtual 74, 3) := by decide +kernel
theorem dX5_orbit_11 : decode cX5_orbit 11 = .ok (.iconst 1, 1) := by decide +kernel
theorem dX5_orbit_12 : decode cX5_orbit 12 = .ok (.istore_n 1, 1) := by decide +kernel
theorem dX5_orbit_13 : decode cX5_orbit 13 = .ok (.iload_n 1, 1) := by decide +kernel
theorem dX5_orbit_14 : decode cX5_orbit 14 = .ok (.sipush 7436, 3) := by decide +kernel
theorem dX5_orbit_17 : decode cX5_orbit 17 = .ok (.if_icmp .ge 33, 3) := by decide +kernel
theorem dX5_orbit_20 : decode cX5_orbit 20 = .ok (.aload_n 0, 1) := by decide +kernel
theorem dX5_orbit_21 : decode cX5_orbit 21 = .ok (.getfield 26, 3) := by decide +kernel
theorem dX5_orbit_24 : decode cX5_orbit 24 = .ok (.invokevirtual 159, 3) := by decide +kernel
theorem dX5_orbit_27 : decode cX5_orbit 27 = .ok (.pop, 1) := by decide +kernel
theorem dX5_orbit_28 : decode cX5_orbit 28 = .ok (.aload_n 0, 1) := by decide +kernel
theorem dX5_orbit_29 : decode cX5_orbit 29 = .ok (.getfield 26, 3) := by decide +kernel
theorem dX5_orbit_32 : decode cX5_orbit 32 = .ok (.aload_n 0, 1) := by decide +kernel
theorem dX5_orbit_33 : decode cX5_orbit 33 = .ok (.getfield 19, 3) := by decide +kernel
theorem dX5_orbit_36 : decode cX5_orbit 36 = .ok (.invokevirtual 162, 3) := by decide +kernel
theorem dX5_orbit_39 : decode cX5_orbit 39 = .ok (.ifCond .ne 5, 3) := by decide +kernel
theorem dX5_orbit_42 : decode cX5_orbit 42 = .ok (.iload_n 1, 1) := by decide +kernel
theorem dX5_orbit_43 : decode cX5_orbit 43 = .ok (.ireturn, 1) := by decide +kernel
theorem dX5_orbit_44 : decode cX5_orbit 44 = .ok (.iinc 1 1, 3) := by decide +kernel
theorem dX5_orbit_47 : decode cX5_orbit 47 = .ok (.goto (-34), 3) := by decide +kernel
theorem dX5_orbit_50 : decode cX5_orbit 50 = .ok (.sipush 7436, 3) := by decide +kernel
theorem dX5_orbit_53 : decode cX5_orbit 53 = .ok (.ireturn, 1) := by decide +kernel
set_option maxRecDepth 20000 in
theorem ggX5_apart_X5_hasLikeOther : GoodIn wsX5_apart wsX5_hasLikeOther := goodIn_r _ [7, 2, 8, 1, 24, 25, 26, 27, 28, 29, 30, 31, 32] (by decide +kernel) (by decide +kernel)
set_option maxRecDepth 20000 in
theorem gX5_apart_X5_hasLikeOther : GoodIn wsX5_apart (wsV RX5 166 RX5 yX5_hasLikeOther wsX5_hasLikeOther) := goodIn_app (goodIn_of _ (by decide +kernel)) ggX5_apart_X5_hasLikeOther
set_option maxRecDepth 20000 in
theorem ggX5_apart_X3_distance : GoodIn wsX5_apart wsX3_distance := goodIn_r _ [13, 14, 15, 16, 17, 18, 19, 20, 21, 12, 22, 23, 31, 32] (by decide +kernel) (by decide +kernel)
set_option maxRecDepth 20000 in
theorem gX5_apart_X3_distance : GoodIn wsX5_apart (wsV RX5 162 RX3 yX3_distance wsX3_distance) := goodIn_app (goodIn_of _ (by decide +kernel)) ggX5_apart_X3_distance
theorem dX5_apart_0 : decode cX5_apart 0 = .ok (.aload_n 0, 1) := by decide +kernel
theorem dX5_apart_1 : decode cX5_apart 1 = .ok (.invokevirtual 166, 3) := by decide +kernel
theorem dX5_apart_4 : decode cX5_apart 4 = .ok (.ifCond .eq 17, 3) := by decide +kernel
theorem dX5_apart_7 : decode cX5_apart 7 = .ok (.aload_n 0, 1) := by decide +kernel
theorem dX5_apart_8 : decode cX5_apart 8 = .ok (.getfield 19, 3) := by decide +kernel
theorem dX5_apart_11 : decode cX5_apart 11 = .ok (.aload_n 0, 1) := by decide +kernel
theorem dX5_apart_12 : decode cX5_apart 12 = .ok (.getfield 23, 3) := by decide +kernel
theorem dX5_apart_15 : decode cX5_apart 15 = .ok (.invokevirtual 162, 3) := by decide +kernel
theorem dX5_apart_18 : decode cX5_apart 18 = .ok (.goto 5, 3) := by decide +kernel
theorem dX5_apart_21 : decode cX5_apart 21 = .ok (.bipush (-2), 2) := by decide +kernel
theorem dX5_apart_23 : decode cX5_apart 23 = .ok (.ireturn, 1) := by decide +kernel
set_option maxRecDepth 20000 in
theorem ggX5_next_X5_hasLikeOther : GoodIn wsX5_next wsX5_hasLikeOther := goodIn_r _ [8, 3, 2, 1, 31, 32, 33, 34, 35, 36, 37, 38, 39] (by decide +kernel) (by decide +kernel)
set_option maxRecDepth 20000 in
theorem gX5_next_X5_hasLikeOther : GoodIn wsX5_next (wsV RX5 166 RX5 yX5_hasLikeOther wsX5_hasLikeOther) := goodIn_app (goodIn_of _ (by decide +kernel)) ggX5_next_X5_hasLikeOther
set_option maxRecDepth 20000 in
theorem ggX5_next_X3_comesNearer : GoodIn wsX5_next wsX3_comesNearer := goodIn_r _ [13, 14, 15, 16, 12, 17, 18, 19, 20, 21, 22, 23, 24, 25, 26, 27, 28, 29, 30, 38, 39] (by decide +kernel) (by decide +kernel)
set_option maxRecDepth 20000 in
theorem gX5_next_X3_comesNearer : GoodIn wsX5_next (wsV RX5 170 RX3 yX3_comesNearer wsX3_comesNearer) := goodIn_app (goodIn_of _ (by decide +kernel)) ggX5_next_X3_comesNearer
theorem dX5_next_0 : decode cX5_next 0 = .ok (.aload_n 0, 1) := by decide +kernel
theorem dX5_next_1 : decode cX5_next 1 = .ok (.invokevirtual 166, 3) := by decide +kernel
theorem dX5_next_4 : decode cX5_next 4 = .ok (.ifCond .ne 6, 3) := by decide +kernel
theorem dX5_next_7 : decode cX5_next 7 = .ok (.bipush (-2), 2) := by decide +kernel
theorem dX5_next_9 : decode cX5_next 9 = .ok (.ireturn, 1) := by decide +kernel
theorem dX5_next_10 : decode cX5_next 10 = .ok (.iconst 1, 1) := by decide +kernel
theorem dX5_next_11 : decode cX5_next 11 = .ok (.istore_n 1, 1) := by decide +kernel
theorem dX5_next_12 : decode cX5_next 12 = .ok (.iload_n 1, 1) := by decide +kernel
theorem dX5_next_13 : decode cX5_next 13 = .ok (.aload_n 0, 1) := by decide +kernel
theorem dX5_next_14 : decode cX5_next 14 = .ok (.getfield 19, 3) := by decide +kernel
theorem dX5_next_17 : decode cX5_next 17 = .ok (.getfield 84, 3) := by decide +kernel
theorem dX5_next_20 : decode cX5_next 20 = .ok (.if_icmp .ge 51, 3) := by decide +kernel
theorem dX5_next_23 : decode cX5_next 23 = .ok (.iconst 1, 1) := by decide +kernel
theorem dX5_next_24 : decode cX5_next 24 = .ok (.istore_n 2, 1) := by decide +kernel
theorem dX5_next_25 : decode cX5_next 25 = .ok (.iload_n 2, 1) := by decide +kernel
theorem dX5_next_26 : decode cX5_next 26 = .ok (.aload_n 0, 1) := by decide +kernel
theorem dX5_next_27 : decode cX5_next 27 = .ok (.getfield 19, 3) := by decide +kernel
theorem dX5_next_30 : decode cX5_next 30 = .ok (.getfield 84, 3) := by decide +kernel
theorem dX5_next_33 : decode cX5_next 33 = .ok (.if_icmp .ge 32, 3) := by decide +kernel
theorem dX5_next_36 : decode cX5_next 36 = .ok (.aload_n 0, 1) := by decide +kernel
theorem dX5_next_37 : decode cX5_next 37 = .ok (.getfield 19, 3) := by decide +kernel
theorem dX5_next_40 : decode cX5_next 40 = .ok (.iload_n 1, 1) := by decide +kernel
theorem dX5_next_41 : decode cX5_next 41 = .ok (.iload_n 2, 1) := by decide +kernel
theorem dX5_next_42 : decode cX5_next 42 = .ok (.aload_n 0, 1) := by decide +kernel
theorem dX5_next_43 : decode cX5_next 43 = .ok (.getfield 23, 3) := by decide +kernel
theorem dX5_next_46 : decode cX5_next 46 = .ok (.invokevirtual 170, 3) := by decide +kernel
theorem dX5_next_49 : decode cX5_next 49 = .ok (.ifCond .eq 10, 3) := by decide +kernel
theorem dX5_next_52 : decode cX5_next 52 = .ok (.bipush 10, 2) := by decide +kernel
theorem dX5_next_54 : decode cX5_next 54 = .ok (.iload_n 1, 1) := by decide +kernel
theorem dX5_next_55 : decode cX5_next 55 = .ok (.imul, 1) := by decide +kernel
theorem dX5_next_56 : decode cX5_next 56 = .ok (.iload_n 2, 1) := by decide +kernel
theorem dX5_next_57 : decode cX5_next 57 = .ok (.iadd, 1) := by decide +kernel
theorem dX5_next_58 : decode cX5_next 58 = .ok (.ireturn, 1) := by decide +kernel
theorem dX5_next_59 : decode cX5_next 59 = .ok (.iinc 2 1, 3) := by decide +kernel
theorem dX5_next_62 : decode cX5_next 62 = .ok (.goto (-37), 3) := by decide +kernel
theorem dX5_next_65 : decode cX5_next 65 = .ok (.iinc 1 1, 3) := by decide +kernel
theorem dX5_next_68 : decode cX5_next 68 = .ok (.goto (-56), 3) := by decide +kernel
theorem dX5_next_71 : decode cX5_next 71 = .ok (.bipush (-4), 2) := by decide +kernel
theorem dX5_next_73 : decode cX5_next 73 = .ok (.ireturn, 1) := by decide +kernel
set_option maxRecDepth 20000 in
theorem ggX5_both_X5_isBetween : GoodIn wsX5_both wsX5_isBetween := goodIn_r _ [7] (by decide +kernel) (by decide +kernel)
set_option maxRecDepth 20000 in
theorem gX5_both_X5_isBetween : GoodIn wsX5_both (va_wsS RX5 107 yX5_isBetween wsX5_isBetween) := goodIn_app (goodIn_of _ (by decide +kernel)) ggX5_both_X5_isBetween
set_option maxRecDepth 20000 in
theorem ggX5_both_X5_hasLikeOther : GoodIn wsX5_both wsX5_hasLikeOther := goodIn_r _ [11, 3, 12, 2, 56, 57, 58, 59, 60, 61, 62, 63, 64] (by decide +kernel) (by decide +kernel)
set_option maxRecDepth 20000 in
theorem gX5_both_X5_hasLikeOther : GoodIn wsX5_both (wsV RX5 166 RX5 yX5_hasLikeOther wsX5_hasLikeOther) := goodIn_app (goodIn_of _ (by decide +kernel)) ggX5_both_X5_hasLikeOther
set_option maxRecDepth 20000 in
theorem ggX5_both_X2_remember : GoodIn wsX5_both wsX2_remember := goodIn_r _ [17, 18, 19, 20, 21, 22, 23, 24, 25, 26, 27, 28, 29, 30, 31, 32, 33, 34, 35, 65, 66, 67, 63, 64] (by decide +kernel) (by decide +kernel)
set_option maxRecDepth 20000 in
theorem gX5_both_X2_remember : GoodIn wsX5_both (wsV RX5 94 RX2 yX2_remember wsX2_remember) := goodIn_app (goodIn_of _ (by decide +kernel)) ggX5_both_X2_remember
set_option maxRecDepth 20000 in
theorem ggX5_both_X3_takeHeights : GoodIn wsX5_both wsX3_takeHeights := goodIn_r _ [39, 30, 40, 41, 42, 28, 43, 44, 45, 46, 47, 48, 49, 50, 51, 31, 52, 53, 54, 55, 63, 64] (by decide +kernel) (by decide +kernel)
set_option maxRecDepth 20000 in
theorem gX5_both_X3_takeHeights : GoodIn wsX5_both (wsV RX5 174 RX3 yX3_takeHeights wsX3_takeHeights) := goodIn_app (goodIn_of _ (by decide +kernel)) ggX5_both_X3_takeHeights
theorem dX5_both_0 : decode cX5_both 0 = .ok (.iload_n 1, 1) := by decide +kernel
theorem dX5_both_1 : decode cX5_both 1 = .ok (.iconst 0, 1) := by decide +kernel
theorem dX5_both_2 : decode cX5_both 2 = .ok (.iconst 1, 1) := by decide +kernel
theorem dX5_both_3 : decode cX5_both 3 = .ok (.invokestatic 107, 3) := by decide +kernel
theorem dX5_both_6 : decode cX5_both 6 = .ok (.ifCond .ne 5, 3) := by decide +kernel
theorem dX5_both_9 : decode cX5_both 9 = .ok (.iconst (-1), 1) := by decide +kernel
theorem dX5_both_10 : decode cX5_both 10 = .ok (.ireturn, 1) := by decide +kernel
theorem dX5_both_11 : decode cX5_both 11 = .ok (.aload_n 0, 1) := by decide +kernel
theorem dX5_both_12 : decode cX5_both 12 = .ok (.invokevirtual 166, 3) := by decide +kernel
theorem dX5_both_15 : decode cX5_both 15 = .ok (.ifCond .ne 6, 3) := by decide +kernel
theorem dX5_both_18 : decode cX5_both 18 = .ok (.bipush (-2), 2) := by decide +kernel
theorem dX5_both_20 : decode cX5_both 20 = .ok (.ireturn, 1) := by decide +kernel
theorem dX5_both_21 : decode cX5_both 21 = .ok (.aload_n 0, 1) := by decide +kernel
theorem dX5_both_22 : decode cX5_both 22 = .ok (.getfield 32, 3) := by decide +kernel
theorem dX5_both_25 : decode cX5_both 25 = .ok (.aload_n 0, 1) := by decide +kernel
theorem dX5_both_26 : decode cX5_both 26 = .ok (.getfield 19, 3) := by decide +kernel
theorem dX5_both_29 : decode cX5_both 29 = .ok (.invokevirtual 94, 3) := by decide +kernel
theorem dX5_both_32 : decode cX5_both 32 = .ok (.aload_n 0, 1) := by decide +kernel
theorem dX5_both_33 : decode cX5_both 33 = .ok (.getfield 19, 3) := by decide +kernel
theorem dX5_both_36 : decode cX5_both 36 = .ok (.iload_n 1, 1) := by decide +kernel
theorem dX5_both_37 : decode cX5_both 37 = .ok (.ifCond .ne 7, 3) := by decide +kernel
theorem dX5_both_40 : decode cX5_both 40 = .ok (.iconst 2, 1) := by decide +kernel
theorem dX5_both_41 : decode cX5_both 41 = .ok (.goto 4, 3) := by decide +kernel
theorem dX5_both_44 : decode cX5_both 44 = .ok (.iconst 1, 1) := by decide +kernel
theorem dX5_both_45 : decode cX5_both 45 = .ok (.aload_n 0, 1) := by decide +kernel
theorem dX5_both_46 : decode cX5_both 46 = .ok (.getfield 23, 3) := by decide +kernel
theorem dX5_both_49 : decode cX5_both 49 = .ok (.invokevirtual 174, 3) := by decide +kernel
theorem dX5_both_52 : decode cX5_both 52 = .ok (.ireturn, 1) := by decide +kernel
set_option maxRecDepth 20000 in
theorem ggX5_turn_X5_isBetween : GoodIn wsX5_turn wsX5_isBetween := goodIn_r _ [7] (by decide +kernel) (by decide +kernel)
set_option maxRecDepth 20000 in
theorem gX5_turn_X5_isBetween : GoodIn wsX5_turn (va_wsS RX5 107 yX5_isBetween wsX5_isBetween) := goodIn_app (goodIn_of _ (by decide +kernel)) ggX5_turn_X5_isBetween
set_option maxRecDepth 20000 in
theorem ggX5_turn_X2_remember : GoodIn wsX5_turn wsX2_remember := goodIn_r _ [12, 13, 14, 15, 16, 17, 18, 19, 20, 21, 22, 23, 24, 25, 26, 27, 28, 29, 30, 67, 68, 69, 70, 71] (by decide +kernel) (by decide +kernel)
set_option maxRecDepth 20000 in
theorem gX5_turn_X2_remember : GoodIn wsX5_turn (wsV RX5 94 RX2 yX2_remember wsX2_remember) := goodIn_app (goodIn_of _ (by decide +kernel)) ggX5_turn_X2_remember
set_option maxRecDepth 20000 in
theorem ggX5_turn_X3_copy : GoodIn wsX5_turn wsX3_copy := goodIn_r _ [24, 25, 26, 27, 28, 29, 30, 70, 71] (by decide +kernel) (by decide +kernel)
set_option maxRecDepth 20000 in
theorem gX5_turn_X3_copy : GoodIn wsX5_turn (wsV RX5 74 RX3 yX3_copy wsX3_copy) := goodIn_app (goodIn_of _ (by decide +kernel)) ggX5_turn_X3_copy
set_option maxRecDepth 20000 in
theorem ggX5_turn_X3_putTurned : GoodIn wsX5_turn wsX3_putTurned := goodIn_r _ [35, 25, 36, 37, 38, 23, 39, 40, 41, 42, 43, 44, 45, 46, 47, 48, 49, 50, 51, 26, 52, 53, 54, 55, 70, 71] (by decide +kernel) (by decide +kernel)
set_option maxRecDepth 20000 in
theorem gX5_turn_X3_putTurned : GoodIn wsX5_turn (wsV RX5 178 RX3 yX3_putTurned wsX3_putTurned) := goodIn_app (goodIn_of _ (by decide +kernel)) ggX5_turn_X3_putTurned
set_option maxRecDepth 20000 in
theorem ggX5_turn_X3_unlikeSigns : GoodIn wsX5_turn wsX3_unlikeSigns := goodIn_r _ [59, 25, 40, 41, 42, 23, 43, 44, 45, 46, 47, 48, 49, 50, 51, 26, 70, 71] (by decide +kernel) (by decide +kernel)
set_option maxRecDepth 20000 in
theorem gX5_turn_X3_unlikeSigns : GoodIn wsX5_turn (wsV RX5 181 RX3 yX3_unlikeSigns wsX3_unlikeSigns) := goodIn_app (goodIn_of _ (by decide +kernel)) ggX5_turn_X3_unlikeSigns
theorem dX5_turn_0 : decode cX5_turn 0 = .ok (.iload_n 1, 1) := by decide +kernel
theorem dX5_turn_1 : decode cX5_turn 1 = .ok (.iconst 1, 1) := by decide +kernel
theorem dX5_turn_2 : decode cX5_turn 2 = .ok (.bipush 6, 2) := by decide +kernel
theorem dX5_turn_4 : decode cX5_turn 4 = .ok (.invokestatic 107, 3) := by decide +kernel
theorem dX5_turn_7 : decode cX5_turn 7 = .ok (.ifCond .ne 5, 3) := by decide +kernel
theorem dX5_turn_10 : decode cX5_turn 10 = .ok (.iconst (-1), 1) := by decide +kernel
theorem dX5_turn_11 : decode cX5_turn 11 = .ok (.ireturn, 1) := by decide +kernel
theorem dX5_turn_12 : decode cX5_turn 12 = .ok (.aload_n 0, 1) := by decide +kernel
theorem dX5_turn_13 : decode cX5_turn 13 = .ok (.getfield 32, 3) := by decide +kernel
theorem dX5_turn_16 : decode cX5_turn 16 = .ok (.aload_n 0, 1) := by decide +kernel
theorem dX5_turn_17 : decode cX5_turn 17 = .ok (.getfield 19, 3) := by decide +kernel
theorem dX5_turn_20 : decode cX5_turn 20 = .ok (.invokevirtual 94, 3) := by decide +kernel
theorem dX5_turn_23 : decode cX5_turn 23 = .ok (.aload_n 0, 1) := by decide +kernel
theorem dX5_turn_24 : decode cX5_turn 24 = .ok (.getfield 26, 3) := by decide +kernel
theorem dX5_turn_27 : decode cX5_turn 27 = .ok (.aload_n 0, 1) := by decide +kernel
theorem dX5_turn_28 : decode cX5_turn 28 = .ok (.getfield 19, 3) := by decide +kernel
theorem dX5_turn_31 : decode cX5_turn 31 = .ok (.invokevirtual 74, 3) := by decide +kernel
theorem dX5_turn_34 : decode cX5_turn 34 = .ok (.aload_n 0, 1) := by decide +kernel
theorem dX5_turn_35 : decode cX5_turn 35 = .ok (.getfield 19, 3) := by decide +kernel
theorem dX5_turn_38 : decode cX5_turn 38 = .ok (.iload_n 1, 1) := by decide +kernel
theorem dX5_turn_39 : decode cX5_turn 39 = .ok (.aload_n 0, 1) := by decide +kernel
theorem dX5_turn_40 : decode cX5_turn 40 = .ok (.getfield 26, 3) := by decide +kernel
theorem dX5_turn_43 : decode cX5_turn 43 = .ok (.invokevirtual 178, 3) := by decide +kernel
theorem dX5_turn_46 : decode cX5_turn 46 = .ok (.aload_n 0, 1) := by decide +kernel
theorem dX5_turn_47 : decode cX5_turn 47 = .ok (.getfield 19, 3) := by decide +kernel
theorem dX5_turn_50 : decode cX5_turn 50 = .ok (.aload_n 0, 1) := by decide +kernel
theorem dX5_turn_51 : decode cX5_turn 51 = .ok (.getfield 26, 3) := by decide +kernel
theorem dX5_turn_54 : decode cX5_turn 54 = .ok (.invokevirtual 181, 3) := by decide +kernel
theorem dX5_turn_57 : decode cX5_turn 57 = .ok (.ireturn, 1) := by decide +kernel
set_option maxRecDepth 20000 in
theorem ggX5_across_X5_isBetween : GoodIn wsX5_across wsX5_isBetween := goodIn_r _ [6] (by decide +kernel) (by decide +kernel)
set_option maxRecDepth 20000 in
theorem gX5_across_X5_isBetween : GoodIn wsX5_across (va_wsS RX5 107 yX5_isBetween wsX5_isBetween) := goodIn_app (goodIn_of _ (by decide +kernel)) ggX5_across_X5_isBetween
set_option maxRecDepth 20000 in
theorem ggX5_across_X3_isDrawnAcross : GoodIn wsX5_across wsX3_isDrawnAcross := goodIn_r _ [11, 12, 13, 14, 10, 15, 16, 17, 18, 19, 20, 28, 29] (by decide +kernel) (by decide +kernel)
set_option maxRecDepth 20000 in
theorem gX5_across_X3_isDrawnAcross : GoodIn wsX5_across (wsV RX5 184 RX3 yX3_isDrawnAcross wsX3_isDrawnAcross) := goodIn_app (goodIn_of _ (by decide +kernel)) ggX5_across_X3_isDrawnAcross
theorem dX5_across_0 : decode cX5_across 0 = .ok (.iload_n 1, 1) := by decide +kernel
theorem dX5_across_1 : decode cX5_across 1 = .ok (.iconst 1, 1) := by decide +kernel
theorem dX5_across_2 : decode cX5_across 2 = .ok (.aload_n 0, 1) := by decide +kernel
theorem dX5_across_3 : decode cX5_across 3 = .ok (.getfield 19, 3) := by decide +kernel
theorem dX5_across_6 : decode cX5_across 6 = .ok (.getfield 84, 3) := by decide +kernel
theorem dX5_across_9 : decode cX5_across 9 = .ok (.invokestatic 107, 3) := by decide +kernel
theorem dX5_across_12 : decode cX5_across 12 = .ok (.ifCond .eq 18, 3) := by decide +kernel
theorem dX5_across_15 : decode cX5_across 15 = .ok (.iload_n 2, 1) := by decide +kernel
theorem dX5_across_16 : decode cX5_across 16 = .ok (.iconst 0, 1) := by decide +kernel
theorem dX5_across_17 : decode cX5_across 17 = .ok (.aload_n 0, 1) := by decide +kernel
theorem dX5_across_18 : decode cX5_across 18 = .ok (.getfield 19, 3) := by decide +kernel
theorem dX5_across_21 : decode cX5_across 21 = .ok (.getfield 84, 3) := by decide +kernel
theorem dX5_across_24 : decode cX5_across 24 = .ok (.invokestatic 107, 3) := by decide +kernel
theorem dX5_across_27 : decode cX5_across 27 = .ok (.ifCond .ne 5, 3) := by decide +kernel
theorem dX5_across_30 : decode cX5_across 30 = .ok (.iconst (-1), 1) := by decide +kernel
theorem dX5_across_31 : decode cX5_across 31 = .ok (.ireturn, 1) := by decide +kernel
theorem dX5_across_32 : decode cX5_across 32 = .ok (.aload_n 0, 1) := by decide +kernel
theorem dX5_across_33 : decode cX5_across 33 = .ok (.getfield 19, 3) := by decide +kernel
theorem dX5_across_36 : decode cX5_across 36 = .ok (.iload_n 1, 1) := by decide +kernel
theorem dX5_across_37 : decode cX5_across 37 = .ok (.iload_n 2, 1) := by decide +kernel
theorem dX5_across_38 : decode cX5_across 38 = .ok (.invokevirtual 184, 3) := by decide +kernel
theorem dX5_across_41 : decode cX5_across 41 = .ok (.ifCond .eq 7, 3) := by decide +kernel
theorem dX5_across_44 : decode cX5_across 44 = .ok (.iconst 1, 1) := by decide +kernel
theorem dX5_across_45 : decode cX5_across 45 = .ok (.goto 4, 3) := by decide +kernel
theorem dX5_across_48 : decode cX5_across 48 = .ok (.iconst 0, 1) := by decide +kernel
theorem dX5_across_49 : decode cX5_across 49 = .ok (.ireturn, 1) := by decide +kernel
set_option maxRecDepth 20000 in
theorem ggX5_down_X5_isBetween : GoodIn wsX5_down wsX5_isBetween := goodIn_r _ [6] (by decide +kernel) (by decide +kernel)
set_option maxRecDepth 20000 in
theorem gX5_down_X5_isBetween : GoodIn wsX5_down (va_wsS RX5 107 yX5_isBetween wsX5_isBetween) := goodIn_app (goodIn_of _ (by decide +kernel)) ggX5_down_X5_isBetween
set_option maxRecDepth 20000 in
theorem ggX5_down_X3_isDrawnDown : GoodIn wsX5_down wsX3_isDrawnDown := goodIn_r _ [11, 12, 13, 14, 10, 15, 16, 17, 18, 19, 20, 28, 29] (by decide +kernel) (by decide +kernel)
set_option maxRecDepth 20000 in
theorem gX5_down_X3_isDrawnDown : GoodIn wsX5_down (wsV RX5 187 RX3 yX3_isDrawnDown wsX3_isDrawnDown) := goodIn_app (goodIn_of _ (by decide +kernel)) ggX5_down_X3_isDrawnDown
theorem dX5_down_0 : decode cX5_down 0 = .ok (.iload_n 1, 1) := by decide +kernel
theorem dX5_down_1 : decode cX5_down 1 = .ok (.iconst 0, 1) := by decide +kernel
theorem dX5_down_2 : decode cX5_down 2 = .ok (.aload_n 0, 1) := by decide +kernel
theorem dX5_down_3 : decode cX5_down 3 = .ok (.getfield 19, 3) := by decide +kernel
theorem dX5_down_6 : decode cX5_down 6 = .ok (.getfield 84, 3) := by decide +kernel
theorem dX5_down_9 : decode cX5_down 9 = .ok (.invokestatic 107, 3) := by decide +kernel
theorem dX5_down_12 : decode cX5_down 12 = .ok (.ifCond .eq 18, 3) := by decide +kernel
theorem dX5_down_15 : decode cX5_down 15 = .ok (.iload_n 2, 1) := by decide +kernel
theorem dX5_down_16 : decode cX5_down 16 = .ok (.iconst 1, 1) := by decide +kernel
theorem dX5_down_17 : decode cX5_down 17 = .ok (.aload_n 0, 1) := by decide +kernel
theorem dX5_down_18 : decode cX5_down 18 = .ok (.getfield 19, 3) := by decide +kernel
theorem dX5_down_21 : decode cX5_down 21 = .ok (.getfield 84, 3) := by decide +kernel
theorem dX5_down_24 : decode cX5_down 24 = .ok (.invokestatic 107, 3) := by decide +kernel
theorem dX5_down_27 : decode cX5_down 27 = .ok (.ifCond .ne 5, 3) := by decide +kernel
theorem dX5_down_30 : decode cX5_down 30 = .ok (.iconst (-1), 1) := by decide +kernel
theorem dX5_down_31 : decode cX5_down 31 = .ok (.ireturn, 1) := by decide +kernel
theorem dX5_down_32 : decode cX5_down 32 = .ok (.aload_n 0, 1) := by decide +kernel
theorem dX5_down_33 : decode cX5_down 33 = .ok (.getfield 19, 3) := by decide +kernel
theorem dX5_down_36 : decode cX5_down 36 = .ok (.iload_n 1, 1) := by decide +kernel
theorem dX5_down_37 : decode cX5_down 37 = .ok (.iload_n 2, 1) := by decide +kernel
theorem dX5_down_38 : decode cX5_down 38 = .ok (.invokevirtual 187, 3) := by decide +kernel
theorem dX5_down_41 : decode cX5_down 41 = .ok (.ifCond .eq 7, 3) := by decide +kernel
theorem dX5_down_44 : decode cX5_down 44 = .ok (.iconst 1, 1) := by decide +kernel
theorem dX5_down_45 : decode cX5_down 45 = .ok (.goto 4, 3) := by decide +kernel
theorem dX5_down_48 : decode cX5_down 48 = .ok (.iconst 0, 1) := by decide +kernel
theorem dX5_down_49 : decode cX5_down 49 = .ok (.ireturn, 1) := by decide +kernel
set_option maxRecDepth 20000 in
theorem ggX5_partner_X5_isBetween : GoodIn wsX5_partner wsX5_isBetween := goodIn_r _ [8] (by decide +kernel) (by decide +kernel)
set_option maxRecDepth 20000 in
theorem gX5_partner_X5_isBetween : GoodIn wsX5_partner (va_wsS RX5 107 yX5_isBetween wsX5_isBetween) := goodIn_app (goodIn_of _ (by decide +kernel)) ggX5_partner_X5_isBetween
set_option maxRecDepth 20000 in
theorem ggX5_partner_X1_trace : GoodIn wsX5_partner wsX1_trace := goodIn_r _ [13, 14, 15, 16, 17, 18, 12, 19, 20, 21, 22, 23, 24, 25, 26, 27, 28, 29, 30, 31, 32, 33, 34, 35, 36, 37, 38, 39, 40, 41, 42, 43, 44, 45, 46, 47, 48, 49, 50, 51, 52, 53, 54, 55, 56, 57, 58, 59, 60, 61, 62, 63, 64, 65, 66, 67, 6, 7, 8, 68, 69, 70, 71, 72, 73, 74, 75, 76, 77, 78, 79, 80, 81, 82, 83, 84, 85, 86, 87, 88, 89, 90, 91, 99, 100, 101, 102, 103, 104, 105, 106, 107, 108, 109, 110, 111] (by decide +kernel) (by decide +kernel)
set_option maxRecDepth 20000 in
theorem gX5_partner_X1_trace : GoodIn wsX5_partner (wsV RX5 146 RX1 yX1_trace wsX1_trace) := goodIn_app (goodIn_of _ (by decide +kernel)) ggX5_partner_X1_trace
theorem dX5_partner_0 : decode cX5_partner 0 = .ok (.iload_n 1, 1) := by decide +kernel
theorem dX5_partner_1 : decode cX5_partner 1 = .ok (.iconst 0, 1) := by decide +kernel
theorem dX5_partner_2 : decode cX5_partner 2 = .ok (.iconst 2, 1) := by decide +kernel
theorem dX5_partner_3 : decode cX5_partner 3 = .ok (.aload_n 0, 1) := by decide +kernel
theorem dX5_partner_4 : decode cX5_partner 4 = .ok (.getfield 19, 3) := by decide +kernel
theorem dX5_partner_7 : decode cX5_partner 7 = .ok (.getfield 84, 3) := by decide +kernel
theorem dX5_partner_10 : decode cX5_partner 10 = .ok (.imul, 1) := by decide +kernel
theorem dX5_partner_11 : decode cX5_partner 11 = .ok (.iconst 1, 1) := by decide +kernel
theorem dX5_partner_12 : decode cX5_partner 12 = .ok (.isub, 1) := by decide +kernel
theorem dX5_partner_13 : decode cX5_partner 13 = .ok (.invokestatic 107, 3) := by decide +kernel
theorem dX5_partner_16 : decode cX5_partner 16 = .ok (.ifCond .ne 5, 3) := by decide +kernel
theorem dX5_partner_19 : decode cX5_partner 19 = .ok (.iconst (-1), 1) := by decide +kernel
theorem dX5_partner_20 : decode cX5_partner 20 = .ok (.ireturn, 1) := by decide +kernel
theorem dX5_partner_21 : decode cX5_partner 21 = .ok (.aload_n 0, 1) := by decide +kernel
theorem dX5_partner_22 : decode cX5_partner 22 = .ok (.getfield 39, 3) := by decide +kernel
theorem dX5_partner_25 : decode cX5_partner 25 = .ok (.aload_n 0, 1) := by decide +kernel
theorem dX5_partner_26 : decode cX5_partner 26 = .ok (.getfield 19, 3) := by decide +kernel
theorem dX5_partner_29 : decode cX5_partner 29 = .ok (.invokevirtual 146, 3) := by decide +kernel
theorem dX5_partner_32 : decode cX5_partner 32 = .ok (.aload_n 0, 1) := by decide +kernel
theorem dX5_partner_33 : decode cX5_partner 33 = .ok (.getfield 39, 3) := by decide +kernel
theorem dX5_partner_36 : decode cX5_partner 36 = .ok (.getfield 190, 3) := by decide +kernel
theorem dX5_partner_39 : decode cX5_partner 39 = .ok (.iload_n 1, 1) := by decide +kernel
theorem dX5_partner_40 : decode cX5_partner 40 = .ok (.iaload, 1) := by decide +kernel
theorem dX5_partner_41 : decode cX5_partner 41 = .ok (.ireturn, 1) := by decide +kernel
set_option maxRecDepth 20000 in
theorem ggX5_line_X5_isBetween : GoodIn wsX5_line wsX5_isBetween := goodIn_r _ [8] (by decide +kernel) (by decide +kernel)
set_option maxRecDepth 20000 in
theorem gX5_line_X5_isBetween : GoodIn wsX5_line (va_wsS RX5 107 yX5_isBetween wsX5_isBetween) := goodIn_app (goodIn_of _ (by decide +kernel)) ggX5_line_X5_isBetween
set_option maxRecDepth 20000 in
theorem ggX5_line_X1_trace : GoodIn wsX5_line wsX1_trace := goodIn_r _ [13, 14, 15, 16, 17, 18, 12, 19, 20, 21, 22, 23, 24, 25, 26, 27, 28, 29, 30, 31, 32, 33, 34, 35, 36, 37, 38, 39, 40, 41, 42, 43, 44, 45, 46, 47, 48, 49, 50, 51, 52, 53, 54, 55, 56, 57, 58, 59, 60, 61, 62, 63, 64, 65, 66, 67, 6, 7, 8, 68, 69, 70, 71, 72, 73, 74, 75, 76, 77, 78, 79, 80, 81, 82, 83, 84, 85, 86, 87, 88, 89, 90, 91, 99, 100, 101, 102, 103, 104, 105, 106, 107, 108, 109, 110, 111] (by decide +kernel) (by decide +kernel)
set_option maxRecDepth 20000 in
theorem gX5_line_X1_trace : GoodIn wsX5_line (wsV RX5 146 RX1 yX1_trace wsX1_trace) := goodIn_app (goodIn_of _ (by decide +kernel)) ggX5_line_X1_trace
theorem dX5_line_0 : decode cX5_line 0 = .ok (.iload_n 1, 1) := by decide +kernel
theorem dX5_line_1 : decode cX5_line 1 = .ok (.iconst 0, 1) := by decide +kernel
theorem dX5_line_2 : decode cX5_line 2 = .ok (.iconst 2, 1) := by decide +kernel
theorem dX5_line_3 : decode cX5_line 3 = .ok (.aload_n 0, 1) := by decide +kernel
theorem dX5_line_4 : decode cX5_line 4 = .ok (.getfield 19, 3) := by decide +kernel
theorem dX5_line_7 : decode cX5_line 7 = .ok (.getfield 84, 3) := by decide +kernel
theorem dX5_line_10 : decode cX5_line 10 = .ok (.imul, 1) := by decide +kernel
theorem dX5_line_11 : decode cX5_line 11 = .ok (.iconst 1, 1) := by decide +kernel
theorem dX5_line_12 : decode cX5_line 12 = .ok (.isub, 1) := by decide +kernel
theorem dX5_line_13 : decode cX5_line 13 = .ok (.invokestatic 107, 3) := by decide +kernel
theorem dX5_line_16 : decode cX5_line 16 = .ok (.ifCond .ne 5, 3) := by decide +kernel
theorem dX5_line_19 : decode cX5_line 19 = .ok (.iconst (-1), 1) := by decide +kernel
theorem dX5_line_20 : decode cX5_line 20 = .ok (.ireturn, 1) := by decide +kernel
theorem dX5_line_21 : decode cX5_line 21 = .ok (.aload_n 0, 1) := by decide +kernel
theorem dX5_line_22 : decode cX5_line 22 = .ok (.getfield 39, 3) := by decide +kernel
theorem dX5_line_25 : decode cX5_line 25 = .ok (.aload_n 0, 1) := by decide +kernel
theorem dX5_line_26 : decode cX5_line 26 = .ok (.getfield 19, 3) := by decide +kernel
theorem dX5_line_29 : decode cX5_line 29 = .ok (.invokevirtual 146, 3) := by decide +kernel
theorem dX5_line_32 : decode cX5_line 32 = .ok (.aload_n 0, 1) := by decide +kernel
theorem dX5_line_33 : decode cX5_line 33 = .ok (.getfield 39, 3) := by decide +kernel
theorem dX5_line_36 : decode cX5_line 36 = .ok (.getfield 194, 3) := by decide +kernel
theorem dX5_line_39 : decode cX5_line 39 = .ok (.iload_n 1, 1) := by decide +kernel
theorem dX5_line_40 : decode cX5_line 40 = .ok (.iaload, 1) := by decide +kernel
theorem dX5_line_41 : decode cX5_line 41 = .ok (.ireturn, 1) := by decide +kernel
set_option maxRecDepth 20000 in
theorem ggX5_rank_X0_rankOf : GoodIn wsX5_rank wsX0_rankOf := goodIn_r _ [8, 9, 10, 11, 12, 7, 13, 14, 15, 16, 17, 18, 19, 20, 21, 22, 23, 24, 25, 26, 27, 28, 29, 30, 31, 32, 33, 34, 35, 36, 37, 38, 39, 40, 41, 42, 43, 44, 45, 46, 56, 57, 58, 59, 60, 61, 62, 54, 55] (by decide +kernel) (by decide +kernel)
set_option maxRecDepth 20000 in
theorem gX5_rank_X0_rankOf : GoodIn wsX5_rank (wsV RX5 197 RX0 yX0_rankOf wsX0_rankOf) := goodIn_app (goodIn_of _ (by decide +kernel)) ggX5_rank_X0_rankOf
theorem dX5_rank_0 : decode cX5_rank 0 = .ok (.aload_n 0, 1) := by decide +kernel
theorem dX5_rank_1 : decode cX5_rank 1 = .ok (.getfield 45, 3) := by decide +kernel
theorem dX5_rank_4 : decode cX5_rank 4 = .ok (.aload_n 0, 1) := by decide +kernel
theorem dX5_rank_5 : decode cX5_rank 5 = .ok (.getfield 19, 3) := by decide +kernel
theorem dX5_rank_8 : decode cX5_rank 8 = .ok (.getfield 84, 3) := by decide +kernel
theorem dX5_rank_11 : decode cX5_rank 11 = .ok (.iconst 1, 1) := by decide +kernel
theorem dX5_rank_12 : decode cX5_rank 12 = .ok (.isub, 1) := by decide +kernel
theorem dX5_rank_13 : decode cX5_rank 13 = .ok (.aaload, 1) := by decide +kernel
theorem dX5_rank_14 : decode cX5_rank 14 = .ok (.aload_n 0, 1) := by decide +kernel
theorem dX5_rank_15 : decode cX5_rank 15 = .ok (.getfield 19, 3) := by decide +kernel
theorem dX5_rank_18 : decode cX5_rank 18 = .ok (.invokevirtual 197, 3) := by decide +kernel
theorem dX5_rank_21 : decode cX5_rank 21 = .ok (.ireturn, 1) := by decide +kernel
set_option maxRecDepth 20000 in
theorem ggX5_many_X5_isSize : GoodIn wsX5_many wsX5_isSize := goodIn_r _ [5, 6, 7, 4, 8] (by decide +kernel) (by decide +kernel)
set_option maxRecDepth 20000 in
theorem gX5_many_X5_isSize : GoodIn wsX5_many (va_wsS RX5 87 yX5_isSize wsX5_isSize) := goodIn_app (goodIn_of _ (by decide +kernel)) ggX5_many_X5_isSize
set_option maxRecDepth 20000 in
theorem ggX5_many_X5_isBetween : GoodIn wsX5_many wsX5_isBetween := goodIn_r _ [8] (by decide +kernel) (by decide +kernel)
set_option maxRecDepth 20000 in
theorem gX5_many_X5_isBetween : GoodIn wsX5_many (va_wsS RX5 107 yX5_isBetween wsX5_isBetween) := goodIn_app (goodIn_of _ (by decide +kernel)) ggX5_many_X5_isBetween
set_option maxRecDepth 20000 in
theorem ggX5_many_X0_total : GoodIn wsX5_many wsX0_total := goodIn_r _ [13, 14, 15, 16, 17, 12, 18, 19, 20, 21, 22, 23, 24, 25, 26, 27, 28, 29, 30, 31, 32, 33, 34, 35, 36, 48, 49, 50, 51, 52, 53, 54] (by decide +kernel) (by decide +kernel)
set_option maxRecDepth 20000 in
theorem gX5_many_X0_total : GoodIn wsX5_many (wsV RX5 91 RX0 yX0_total wsX0_total) := goodIn_app (goodIn_of _ (by decide +kernel)) ggX5_many_X0_total
set_option maxRecDepth 20000 in
theorem ggX5_many_X0_withFirstOne : GoodIn wsX5_many wsX0_withFirstOne := goodIn_r _ [40, 14, 21, 15, 16, 17, 12, 18, 19, 20, 22, 23, 24, 25, 26, 27, 28, 29, 30, 31, 32, 33, 34, 35, 36, 48, 49, 50, 51, 52, 53, 54] (by decide +kernel) (by decide +kernel)
set_option maxRecDepth 20000 in
theorem gX5_many_X0_withFirstOne : GoodIn wsX5_many (wsV RX5 200 RX0 yX0_withFirstOne wsX0_withFirstOne) := goodIn_app (goodIn_of _ (by decide +kernel)) ggX5_many_X0_withFirstOne
theorem dX5_many_0 : decode cX5_many 0 = .ok (.iload_n 1, 1) := by decide +kernel
theorem dX5_many_1 : decode cX5_many 1 = .ok (.invokestatic 87, 3) := by decide +kernel
theorem dX5_many_4 : decode cX5_many 4 = .ok (.ifCond .eq 14, 3) := by decide +kernel
theorem dX5_many_7 : decode cX5_many 7 = .ok (.iload_n 2, 1) := by decide +kernel
theorem dX5_many_8 : decode cX5_many 8 = .ok (.iconst (-1), 1) := by decide +kernel
theorem dX5_many_9 : decode cX5_many 9 = .ok (.iload_n 1, 1) := by decide +kernel
theorem dX5_many_10 : decode cX5_many 10 = .ok (.iconst 1, 1) := by decide +kernel
theorem dX5_many_11 : decode cX5_many 11 = .ok (.isub, 1) := by decide +kernel
theorem dX5_many_12 : decode cX5_many 12 = .ok (.invokestatic 107, 3) := by decide +kernel
theorem dX5_many_15 : decode cX5_many 15 = .ok (.ifCond .ne 5, 3) := by decide +kernel
theorem dX5_many_18 : decode cX5_many 18 = .ok (.iconst (-1), 1) := by decide +kernel
theorem dX5_many_19 : decode cX5_many 19 = .ok (.ireturn, 1) := by decide +kernel
theorem dX5_many_20 : decode cX5_many 20 = .ok (.aload_n 0, 1) := by decide +kernel
theorem dX5_many_21 : decode cX5_many 21 = .ok (.getfield 45, 3) := by decide +kernel
theorem dX5_many_24 : decode cX5_many 24 = .ok (.iload_n 1, 1) := by decide +kernel
theorem dX5_many_25 : decode cX5_many 25 = .ok (.iconst 1, 1) := by decide +kernel
theorem dX5_many_26 : decode cX5_many 26 = .ok (.isub, 1) := by decide +kernel
theorem dX5_many_27 : decode cX5_many 27 = .ok (.aaload, 1) := by decide +kernel
theorem dX5_many_28 : decode cX5_many 28 = .ok (.astore_n 3, 1) := by decide +kernel
theorem dX5_many_29 : decode cX5_many 29 = .ok (.iload_n 2, 1) := by decide +kernel
theorem dX5_many_30 : decode cX5_many 30 = .ok (.ifCond .ge 10, 3) := by decide +kernel
theorem dX5_many_33 : decode cX5_many 33 = .ok (.aload_n 3, 1) := by decide +kernel
theorem dX5_many_34 : decode cX5_many 34 = .ok (.invokevirtual 91, 3) := by decide +kernel
theorem dX5_many_37 : decode cX5_many 37 = .ok (.goto 8, 3) := by decide +kernel
theorem dX5_many_40 : decode cX5_many 40 = .ok (.aload_n 3, 1) := by decide +kernel
theorem dX5_many_41 : decode cX5_many 41 = .ok (.iload_n 2, 1) := by decide +kernel
theorem dX5_many_42 : decode cX5_many 42 = .ok (.invokevirtual 200, 3) := by decide +kernel
theorem dX5_many_45 : decode cX5_many 45 = .ok (.ireturn, 1) := by decide +kernel
set_option maxRecDepth 20000 in
theorem ggX5_alike_X0_sortByPartners : GoodIn wsX5_alike wsX0_sortByPartners := goodIn_r _ [11, 12, 13, 14, 15, 10, 16, 17, 18, 19, 20, 21, 22, 23, 24, 25, 26, 27, 28, 29, 30, 31, 32, 33, 34, 35, 36, 37, 38, 39, 40, 41, 42, 43, 44, 45, 46, 47, 48, 49, 50, 51, 52, 53, 54, 55, 56, 57, 58, 59, 60, 61, 62, 63, 64, 65, 66, 67, 68, 69, 70, 71, 72, 73, 74, 75, 76, 77, 78, 79, 80, 81, 82, 83, 84, 85, 86, 87, 88, 89, 90, 91, 92, 93, 94, 95, 96, 97, 98, 99, 100, 101, 102, 103, 104, 105, 106, 107, 108, 109, 110, 111, 112, 113, 114, 115, 116, 117, 118, 119, 120, 121, 122, 123, 124, 125, 126, 127, 128, 129, 130, 131, 132, 133, 134, 135, 136, 137, 138, 139, 140, 141, 142, 143, 144, 145, 146, 147, 148, 149, 150, 151, 152, 153, 154, 168, 169, 170, 171, 172, 173, 174, 166, 167, 175, 176, 177, 178, 179, 180, 181, 182, 183, 184, 185] (by decide +kernel) (by decide +kernel)
set_option maxRecDepth 20000 in
theorem gX5_alike_X0_sortByPartners : GoodIn wsX5_alike (wsV RX5 204 RX0 yX0_sortByPartners wsX0_sortByPartners) := goodIn_app (goodIn_of _ (by decide +kernel)) ggX5_alike_X0_sortByPartners
set_option maxRecDepth 20000 in
theorem ggX5_alike_X1_trace : GoodIn wsX5_alike wsX1_trace := goodIn_r _ [64, 65, 66, 67, 68, 69, 63, 70, 71, 72, 73, 74, 48, 75, 76, 77, 78, 79, 51, 52, 53, 54, 55, 80, 81, 82, 83, 84, 85, 86, 87, 88, 89, 90, 91, 92, 93, 94, 95, 96, 97, 98, 99, 100, 101, 102, 103, 104, 105, 106, 107, 108, 109, 110, 111, 112, 113, 114, 115, 116, 117, 118, 119, 120, 121, 122, 123, 124, 125, 126, 127, 128, 129, 130, 131, 132, 133, 134, 135, 136, 137, 138, 139, 166, 167, 175, 176, 177, 178, 179, 180, 181, 182, 183, 184, 185] (by decide +kernel) (by decide +kernel)
set_option maxRecDepth 20000 in
theorem gX5_alike_X1_trace : GoodIn wsX5_alike (wsV RX5 146 RX1 yX1_trace wsX1_trace) := goodIn_app (goodIn_of _ (by decide +kernel)) ggX5_alike_X1_trace
set_option maxRecDepth 20000 in
theorem ggX5_alike_X1_partnersCode : GoodIn wsX5_alike wsX1_partnersCode := goodIn_r _ [143, 92, 144, 128, 175, 176, 177, 178, 179, 180, 181, 182, 183, 184, 185] (by decide +kernel) (by decide +kernel)
set_option maxRecDepth 20000 in
theorem gX5_alike_X1_partnersCode : GoodIn wsX5_alike (wsV RX5 208 RX1 yX1_partnersCode wsX1_partnersCode) := goodIn_app (goodIn_of _ (by decide +kernel)) ggX5_alike_X1_partnersCode
set_option maxRecDepth 20000 in
theorem ggX5_alike_X0_wayOf : GoodIn wsX5_alike wsX0_wayOf := goodIn_r _ [154, 12, 149, 168, 169, 170, 171, 172, 173, 174] (by decide +kernel) (by decide +kernel)
set_option maxRecDepth 20000 in
theorem gX5_alike_X0_wayOf : GoodIn wsX5_alike (wsV RX5 212 RX0 yX0_wayOf wsX0_wayOf) := goodIn_app (goodIn_of _ (by decide +kernel)) ggX5_alike_X0_wayOf
set_option maxRecDepth 20000 in
theorem ggX5_alike_X5_isBetween : GoodIn wsX5_alike wsX5_isBetween := goodIn_r _ [115] (by decide +kernel) (by decide +kernel)
set_option maxRecDepth 20000 in
theorem gX5_alike_X5_isBetween : GoodIn wsX5_alike (va_wsS RX5 107 yX5_isBetween wsX5_isBetween) := goodIn_app (goodIn_of _ (by decide +kernel)) ggX5_alike_X5_isBetween
theorem dX5_alike_0 : decode cX5_alike 0 = .ok (.aload_n 0, 1) := by decide +kernel
theorem dX5_alike_1 : decode cX5_alike 1 = .ok (.getfield 19, 3) := by decide +kernel
theorem dX5_alike_4 : decode cX5_alike 4 = .ok (.getfield 84, 3) := by decide +kernel
theorem dX5_alike_7 : decode cX5_alike 7 = .ok (.iconst 5, 1) := by decide +kernel
theorem dX5_alike_8 : decode cX5_alike 8 = .ok (.if_icmp .le 6, 3) := by decide +kernel
theorem dX5_alike_11 : decode cX5_alike 11 = .ok (.bipush (-2), 2) := by decide +kernel
theorem dX5_alike_13 : decode cX5_alike 13 = .ok (.ireturn, 1) := by decide +kernel
theorem dX5_alike_14 : decode cX5_alike 14 = .ok (.aload_n 0, 1) := by decide +kernel
theorem dX5_alike_15 : decode cX5_alike 15 = .ok (.getfield 45, 3) := by decide +kernel
theorem dX5_alike_18 : decode cX5_alike 18 = .ok (.aload_n 0, 1) := by decide +kernel
theorem dX5_alike_19 : decode cX5_alike 19 = .ok (.getfield 19, 3) := by decide +kernel
theorem dX5_alike_22 : decode cX5_alike 22 = .ok (.getfield 84, 3) := by decide +kernel
theorem dX5_alike_25 : decode cX5_alike 25 = .ok (.iconst 1, 1) := by decide +kernel
theorem dX5_alike_26 : decode cX5_alike 26 = .ok (.isub, 1) := by decide +kernel
theorem dX5_alike_27 : decode cX5_alike 27 = .ok (.aaload, 1) := by decide +kernel
theorem dX5_alike_28 : decode cX5_alike 28 = .ok (.astore_n 1, 1) := by decide +kernel
theorem dX5_alike_29 : decode cX5_alike 29 = .ok (.aload_n 1, 1) := by decide +kernel
theorem dX5_alike_30 : decode cX5_alike 30 = .ok (.aload_n 0, 1) := by decide +kernel
theorem dX5_alike_31 : decode cX5_alike 31 = .ok (.getfield 39, 3) := by decide +kernel
theorem dX5_alike_34 : decode cX5_alike 34 = .ok (.aload_n 0, 1) := by decide +kernel
theorem dX5_alike_35 : decode cX5_alike 35 = .ok (.getfield 26, 3) := by decide +kernel
theorem dX5_alike_38 : decode cX5_alike 38 = .ok (.invokevirtual 204, 3) := by decide +kernel
theorem dX5_alike_41 : decode cX5_alike 41 = .ok (.aload_n 0, 1) := by decide +kernel
theorem dX5_alike_42 : decode cX5_alike 42 = .ok (.getfield 39, 3) := by decide +kernel
theorem dX5_alike_45 : decode cX5_alike 45 = .ok (.aload_n 0, 1) := by decide +kernel
theorem dX5_alike_46 : decode cX5_alike 46 = .ok (.getfield 19, 3) := by decide +kernel
theorem dX5_alike_49 : decode cX5_alike 49 = .ok (.invokevirtual 146, 3) := by decide +kernel
theorem dX5_alike_52 : decode cX5_alike 52 = .ok (.aload_n 1, 1) := by decide +kernel
theorem dX5_alike_53 : decode cX5_alike 53 = .ok (.aload_n 0, 1) := by decide +kernel
theorem dX5_alike_54 : decode cX5_alike 54 = .ok (.getfield 39, 3) := by decide +kernel
theorem dX5_alike_57 : decode cX5_alike 57 = .ok (.invokevirtual 208, 3) := by decide +kernel
theorem dX5_alike_60 : decode cX5_alike 60 = .ok (.invokevirtual 212, 3) := by decide +kernel
theorem dX5_alike_63 : decode cX5_alike 63 = .ok (.istore_n 2, 1) := by decide +kernel
theorem dX5_alike_64 : decode cX5_alike 64 = .ok (.iload_n 2, 1) := by decide +kernel
theorem dX5_alike_65 : decode cX5_alike 65 = .ok (.iconst 0, 1) := by decide +kernel
theorem dX5_alike_66 : decode cX5_alike 66 = .ok (.bipush 41, 2) := by decide +kernel
theorem dX5_alike_68 : decode cX5_alike 68 = .ok (.invokestatic 107, 3) := by decide +kernel
theorem dX5_alike_71 : decode cX5_alike 71 = .ok (.ifCond .eq 12, 3) := by decide +kernel
theorem dX5_alike_74 : decode cX5_alike 74 = .ok (.aload_n 1, 1) := by decide +kernel
theorem dX5_alike_75 : decode cX5_alike 75 = .ok (.getfield 216, 3) := by decide +kernel
theorem dX5_alike_78 : decode cX5_alike 78 = .ok (.iload_n 2, 1) := by decide +kernel
theorem dX5_alike_79 : decode cX5_alike 79 = .ok (.iaload, 1) := by decide +kernel
theorem dX5_alike_80 : decode cX5_alike 80 = .ok (.goto 4, 3) := by decide +kernel
theorem dX5_alike_83 : decode cX5_alike 83 = .ok (.iconst 0, 1) := by decide +kernel
theorem dX5_alike_84 : decode cX5_alike 84 = .ok (.ireturn, 1) := by decide +kernel
set_option maxRecDepth 20000 in
theorem ggX5_ways_X5_isBetween : GoodIn wsX5_ways wsX5_isBetween := goodIn_r _ [9] (by decide +kernel) (by decide +kernel)
set_option maxRecDepth 20000 in
theorem gX5_ways_X5_isBetween : GoodIn wsX5_ways (va_wsS RX5 107 yX5_isBetween wsX5_isBetween) := goodIn_app (goodIn_of _ (by decide +kernel)) ggX5_ways_X5_isBetween
set_option maxRecDepth 20000 in
theorem ggX5_ways_X0_sortByPartners : GoodIn wsX5_ways wsX0_sortByPartners := goodIn_r _ [14, 15, 16, 17, 18, 13, 19, 20, 21, 22, 23, 24, 25, 26, 27, 28, 29, 30, 31, 32, 33, 34, 35, 36, 37, 38, 39, 40, 41, 42, 43, 44, 45, 46, 47, 48, 49, 50, 51, 52, 53, 54, 55, 56, 57, 58, 59, 60, 61, 62, 63, 64, 65, 66, 67, 68, 69, 70, 71, 72, 73, 74, 75, 76, 77, 78, 79, 80, 81, 82, 83, 84, 85, 86, 87, 88, 89, 90, 91, 92, 93, 94, 95, 96, 97, 98, 99, 100, 101, 102, 103, 104, 105, 106, 107, 108, 109, 110, 111, 112, 113, 114, 115, 7, 8, 9, 116, 117, 118, 119, 120, 121, 122, 123, 124, 125, 126, 127, 128, 129, 130, 131, 132, 133, 134, 135, 136, 137, 138, 139, 140, 141, 142, 143, 144, 145, 146, 147, 148, 149, 150, 151, 152, 153, 154, 162, 163, 164, 165, 166, 167, 168, 169, 170, 171, 172, 173, 174, 175, 176, 177, 178, 179, 180, 181] (by decide +kernel) (by decide +kernel)
set_option maxRecDepth 20000 in
theorem gX5_ways_X0_sortByPartners : GoodIn wsX5_ways (wsV RX5 204 RX0 yX0_sortByPartners wsX0_sortByPartners) := goodIn_app (goodIn_of _ (by decide +kernel)) ggX5_ways_X0_sortByPartners
theorem dX5_ways_0 : decode cX5_ways 0 = .ok (.iload_n 1, 1) := by decide +kernel
theorem dX5_ways_1 : decode cX5_ways 1 = .ok (.iconst 1, 1) := by decide +kernel
theorem dX5_ways_2 : decode cX5_ways 2 = .ok (.iconst 5, 1) := by decide +kernel
theorem dX5_ways_3 : decode cX5_ways 3 = .ok (.invokestatic 107, 3) := by decide +kernel
theorem dX5_ways_6 : decode cX5_ways 6 = .ok (.ifCond .eq 8, 3) := by decide +kernel
theorem dX5_ways_9 : decode cX5_ways 9 = .ok (.iload_n 2, 1) := by decide +kernel
theorem dX5_ways_10 : decode cX5_ways 10 = .ok (.iconst (-1), 1) := by decide +kernel
theorem dX5_ways_11 : decode cX5_ways 11 = .ok (.if_icmp .ge 5, 3) := by decide +kernel
theorem dX5_ways_14 : decode cX5_ways 14 = .ok (.iconst (-1), 1) := by decide +kernel
theorem dX5_ways_15 : decode cX5_ways 15 = .ok (.ireturn, 1) := by decide +kernel
theorem dX5_ways_16 : decode cX5_ways 16 = .ok (.aload_n 0, 1) := by decide +kernel
theorem dX5_ways_17 : decode cX5_ways 17 = .ok (.getfield 45, 3) := by decide +kernel
theorem dX5_ways_20 : decode cX5_ways 20 = .ok (.iload_n 1, 1) := by decide +kernel
theorem dX5_ways_21 : decode cX5_ways 21 = .ok (.iconst 1, 1) := by decide +kernel
theorem dX5_ways_22 : decode cX5_ways 22 = .ok (.isub, 1) := by decide +kernel
theorem dX5_ways_23 : decode cX5_ways 23 = .ok (.aaload, 1) := by decide +kernel
theorem dX5_ways_24 : decode cX5_ways 24 = .ok (.astore_n 3, 1) := by decide +kernel
theorem dX5_ways_25 : decode cX5_ways 25 = .ok (.aload_n 3, 1) := by decide +kernel
theorem dX5_ways_26 : decode cX5_ways 26 = .ok (.aload_n 0, 1) := by decide +kernel
theorem dX5_ways_27 : decode cX5_ways 27 = .ok (.getfield 39, 3) := by decide +kernel
theorem dX5_ways_30 : decode cX5_ways 30 = .ok (.aload_n 0, 1) := by decide +kernel
theorem dX5_ways_31 : decode cX5_ways 31 = .ok (.getfield 26, 3) := by decide +kernel
theorem dX5_ways_34 : decode cX5_ways 34 = .ok (.invokevirtual 204, 3) := by decide +kernel
theorem dX5_ways_37 : decode cX5_ways 37 = .ok (.iload_n 2, 1) := by decide +kernel
theorem dX5_ways_38 : decode cX5_ways 38 = .ok (.iconst (-1), 1) := by decide +kernel
theorem dX5_ways_39 : decode cX5_ways 39 = .ok (.if_icmp .ne 8, 3) := by decide +kernel
theorem dX5_ways_42 : decode cX5_ways 42 = .ok (.aload_n 3, 1) := by decide +kernel
theorem dX5_ways_43 : decode cX5_ways 43 = .ok (.getfield 219, 3) := by decide +kernel
theorem dX5_ways_46 : decode cX5_ways 46 = .ok (.ireturn, 1) := by decide +kernel
theorem dX5_ways_47 : decode cX5_ways 47 = .ok (.iload_n 2, 1) := by decide +kernel
theorem dX5_ways_48 : decode cX5_ways 48 = .ok (.aload_n 3, 1) := by decide +kernel
theorem dX5_ways_49 : decode cX5_ways 49 = .ok (.getfield 219, 3) := by decide +kernel
theorem dX5_ways_52 : decode cX5_ways 52 = .ok (.if_icmp .ge 12, 3) := by decide +kernel
theorem dX5_ways_55 : decode cX5_ways 55 = .ok (.aload_n 3, 1) := by decide +kernel
theorem dX5_ways_56 : decode cX5_ways 56 = .ok (.getfield 216, 3) := by decide +kernel
theorem dX5_ways_59 : decode cX5_ways 59 = .ok (.iload_n 2, 1) := by decide +kernel
theorem dX5_ways_60 : decode cX5_ways 60 = .ok (.iaload, 1) := by decide +kernel
theorem dX5_ways_61 : decode cX5_ways 61 = .ok (.goto 5, 3) := by decide +kernel
theorem dX5_ways_64 : decode cX5_ways 64 = .ok (.bipush (-4), 2) := by decide +kernel
theorem dX5_ways_66 : decode cX5_ways 66 = .ok (.ireturn, 1) := by decide +kernel
theorem dX5_isBetween_0 : decode cX5_isBetween 0 = .ok (.iload_n 0, 1) := by decide +kernel
theorem dX5_isBetween_1 : decode cX5_isBetween 1 = .ok (.iload_n 1, 1) := by decide +kernel
theorem dX5_isBetween_2 : decode cX5_isBetween 2 = .ok (.if_icmp .lt 12, 3) := by decide +kernel
theorem dX5_isBetween_5 : decode cX5_isBetween 5 = .ok (.iload_n 0, 1) := by decide +kernel
theorem dX5_isBetween_6 : decode cX5_isBetween 6 = .ok (.iload_n 2, 1) := by decide +kernel
theorem dX5_isBetween_7 : decode cX5_isBetween 7 = .ok (.if_icmp .gt 7, 3) := by decide +kernel
theorem dX5_isBetween_10 : decode cX5_isBetween 10 = .ok (.iconst 1, 1) := by decide +kernel
theorem dX5_isBetween_11 : decode cX5_isBetween 11 = .ok (.goto 4, 3) := by decide +kernel
theorem dX5_isBetween_14 : decode cX5_isBetween 14 = .ok (.iconst 0, 1) := by decide +kernel
theorem dX5_isBetween_15 : decode cX5_isBetween 15 = .ok (.ireturn, 1) := by decide +kernel
set_option maxRecDepth 20000 in
theorem ggX5_isSize_X5_isBetween : GoodIn wsX5_isSize wsX5_isBetween := goodIn_r _ [4] (by decide +kernel) (by decide +kernel)
set_option maxRecDepth 20000 in
theorem gX5_isSize_X5_isBetween : GoodIn wsX5_isSize (va_wsS RX5 107 yX5_isBetween wsX5_isBetween) := goodIn_app (goodIn_of _ (by decide +kernel)) ggX5_isSize_X5_isBetween
theorem dX5_isSize_0 : decode cX5_isSize 0 = .ok (.iload_n 0, 1) := by decide +kernel
theorem dX5_isSize_1 : decode cX5_isSize 1 = .ok (.iconst 1, 1) := by decide +kernel
theorem dX5_isSize_2 : decode cX5_isSize 2 = .ok (.bipush 6, 2) := by decide +kernel
theorem dX5_isSize_4 : decode cX5_isSize 4 = .ok (.invokestatic 107, 3) := by decide +kernel
theorem dX5_isSize_7 : decode cX5_isSize 7 = .ok (.ireturn, 1) := by decide +kernel
set_option maxRecDepth 20000 in
theorem ggX5_isCorner_X5_isBetween : GoodIn wsX5_isCorner wsX5_isBetween := goodIn_r _ [6] (by decide +kernel) (by decide +kernel)
set_option maxRecDepth 20000 in
theorem gX5_isCorner_X5_isBetween : GoodIn wsX5_isCorner (va_wsS RX5 107 yX5_isBetween wsX5_isBetween) := goodIn_app (goodIn_of _ (by decide +kernel)) ggX5_isCorner_X5_isBetween
theorem dX5_isCorner_0 : decode cX5_isCorner 0 = .ok (.iload_n 1, 1) := by decide +kernel
theorem dX5_isCorner_1 : decode cX5_isCorner 1 = .ok (.iconst 0, 1) := by decide +kernel
theorem dX5_isCorner_2 : decode cX5_isCorner 2 = .ok (.aload_n 0, 1) := by decide +kernel
theorem dX5_isCorner_3 : decode cX5_isCorner 3 = .ok (.getfield 19, 3) := by decide +kernel
theorem dX5_isCorner_6 : decode cX5_isCorner 6 = .ok (.getfield 84, 3) := by decide +kernel
theorem dX5_isCorner_9 : decode cX5_isCorner 9 = .ok (.invokestatic 107, 3) := by decide +kernel
theorem dX5_isCorner_12 : decode cX5_isCorner 12 = .ok (.ifCond .eq 22, 3) := by decide +kernel
theorem dX5_isCorner_15 : decode cX5_isCorner 15 = .ok (.iload_n 2, 1) := by decide +kernel
theorem dX5_isCorner_16 : decode cX5_isCorner 16 = .ok (.iconst 0, 1) := by decide +kernel
theorem dX5_isCorner_17 : decode cX5_isCorner 17 = .ok (.aload_n 0, 1) := by decide +kernel
theorem dX5_isCorner_18 : decode cX5_isCorner 18 = .ok (.getfield 19, 3) := by decide +kernel
theorem dX5_isCorner_21 : decode cX5_isCorner 21 = .ok (.getfield 84, 3) := by decide +kernel
theorem dX5_isCorner_24 : decode cX5_isCorner 24 = .ok (.invokestatic 107, 3) := by decide +kernel
theorem dX5_isCorner_27 : decode cX5_isCorner 27 = .ok (.ifCond .eq 7, 3) := by decide +kernel
theorem dX5_isCorner_30 : decode cX5_isCorner 30 = .ok (.iconst 1, 1) := by decide +kernel
theorem dX5_isCorner_31 : decode cX5_isCorner 31 = .ok (.goto 4, 3) := by decide +kernel
theorem dX5_isCorner_34 : decode cX5_isCorner 34 = .ok (.iconst 0, 1) := by decide +kernel
theorem dX5_isCorner_35 : decode cX5_isCorner 35 = .ok (.ireturn, 1) := by decide +kernel
set_option maxRecDepth 20000 in
theorem ggX5_isInner_X5_isBetween : GoodIn wsX5_isInner wsX5_isBetween := goodIn_r _ [6] (by decide +kernel) (by decide +kernel)
set_option maxRecDepth 20000 in
theorem gX5_isInner_X5_isBetween : GoodIn wsX5_isInner (va_wsS RX5 107 yX5_isBetween wsX5_isBetween) := goodIn_app (goodIn_of _ (by decide +kernel)) ggX5_isInner_X5_isBetween
theorem dX5_isInner_0 : decode cX5_isInner 0 = .ok (.iload_n 1, 1) := by decide +kernel
theorem dX5_isInner_1 : decode cX5_isInner 1 = .ok (.iconst 1, 1) := by decide +kernel
theorem dX5_isInner_2 : decode cX5_isInner 2 = .ok (.aload_n 0, 1) := by decide +kernel
theorem dX5_isInner_3 : decode cX5_isInner 3 = .ok (.getfield 19, 3) := by decide +kernel
theorem dX5_isInner_6 : decode cX5_isInner 6 = .ok (.getfield 84, 3) := by decide +kernel
theorem dX5_isInner_9 : decode cX5_isInner 9 = .ok (.iconst 1, 1) := by decide +kernel
theorem dX5_isInner_10 : decode cX5_isInner 10 = .ok (.isub, 1) := by decide +kernel
theorem dX5_isInner_11 : decode cX5_isInner 11 = .ok (.invokestatic 107, 3) := by decide +kernel
theorem dX5_isInner_14 : decode cX5_isInner 14 = .ok (.ifCond .eq 24, 3) := by decide +kernel
theorem dX5_isInner_17 : decode cX5_isInner 17 = .ok (.iload_n 2, 1) := by decide +kernel
theorem dX5_isInner_18 : decode cX5_isInner 18 = .ok (.iconst 1, 1) := by decide +kernel
theorem dX5_isInner_19 : decode cX5_isInner 19 = .ok (.aload_n 0, 1) := by decide +kernel
theorem dX5_isInner_20 : decode cX5_isInner 20 = .ok (.getfield 19, 3) := by decide +kernel
theorem dX5_isInner_23 : decode cX5_isInner 23 = .ok (.getfield 84, 3) := by decide +kernel
theorem dX5_isInner_26 : decode cX5_isInner 26 = .ok (.iconst 1, 1) := by decide +kernel
theorem dX5_isInner_27 : decode cX5_isInner 27 = .ok (.isub, 1) := by decide +kernel
theorem dX5_isInner_28 : decode cX5_isInner 28 = .ok (.invokestatic 107, 3) := by decide +kernel
theorem dX5_isInner_31 : decode cX5_isInner 31 = .ok (.ifCond .eq 7, 3) := by decide +kernel
theorem dX5_isInner_34 : decode cX5_isInner 34 = .ok (.iconst 1, 1) := by decide +kernel
theorem dX5_isInner_35 : decode cX5_isInner 35 = .ok (.goto 4, 3) := by decide +kernel
theorem dX5_isInner_38 : decode cX5_isInner 38 = .ok (.iconst 0, 1) := by decide +kernel
theorem dX5_isInner_39 : decode cX5_isInner 39 = .ok (.ireturn, 1) := by decide +kernel
theorem dX5_hasLikeOther_0 : decode cX5_hasLikeOther 0 = .ok (.aload_n 0, 1) := by decide +kernel
theorem dX5_hasLikeOther_1 : decode cX5_hasLikeOther 1 = .ok (.getfield 23, 3) := by decide +kernel
theorem dX5_hasLikeOther_4 : decode cX5_hasLikeOther 4 = .ok (.getfield 84, 3) := by decide +kernel
theorem dX5_hasLikeOther_7 : decode cX5_hasLikeOther 7 = .ok (.aload_n 0, 1) := by decide +kernel
theorem dX5_hasLikeOther_8 : decode cX5_hasLikeOther 8 = .ok (.getfield 19, 3) := by decide +kernel
theorem dX5_hasLikeOther_11 : decode cX5_hasLikeOther 11 = .ok (.getfield 84, 3) := by decide +kernel
theorem dX5_hasLikeOther_14 : decode cX5_hasLikeOther 14 = .ok (.if_icmp .ne 7, 3) := by decide +kernel
theorem dX5_hasLikeOther_17 : decode cX5_hasLikeOther 17 = .ok (.iconst 1, 1) := by decide +kernel
theorem dX5_hasLikeOther_18 : decode cX5_hasLikeOther 18 = .ok (.goto 4, 3) := by decide +kernel
theorem dX5_hasLikeOther_21 : decode cX5_hasLikeOther 21 = .ok (.iconst 0, 1) := by decide +kernel
theorem dX5_hasLikeOther_22 : decode cX5_hasLikeOther 22 = .ok (.ireturn, 1) := by decide +kernel
theorem dX6_init_0 : decode cX6_init 0 = .ok (.aload_n 0, 1) := by decide +kernel
theorem dX6_init_1 : decode cX6_init 1 = .ok (.invokespecial 1, 3) := by decide +kernel
theorem dX6_init_4 : decode cX6_init 4 = .ok (.aload_n 0, 1) := by decide +kernel
theorem dX6_init_5 : decode cX6_init 5 = .ok (.sipush 200, 3) := by decide +kernel
theorem dX6_init_8 : decode cX6_init 8 = .ok (.newarray .int, 2) := by decide +kernel
theorem dX6_init_10 : decode cX6_init 10 = .ok (.putfield 7, 3) := by decide +kernel
theorem dX6_init_13 : decode cX6_init 13 = .ok (.aload_n 0, 1) := by decide +kernel
theorem dX6_init_14 : decode cX6_init 14 = .ok (.bipush 36, 2) := by decide +kernel
theorem dX6_init_16 : decode cX6_init 16 = .ok (.newarray .int, 2) := by decide +kernel
theorem dX6_init_18 : decode cX6_init 18 = .ok (.putfield 13, 3) := by decide +kernel
theorem dX6_init_21 : decode cX6_init 21 = .ok (.aload_n 0, 1) := by decide +kernel
theorem dX6_init_22 : decode cX6_init 22 = .ok (.bipush 36, 2) := by decide +kernel
theorem dX6_init_24 : decode cX6_init 24 = .ok (.newarray .int, 2) := by decide +kernel
theorem dX6_init_26 : decode cX6_init 26 = .ok (.putfield 16, 3) := by decide +kernel
theorem dX6_init_29 : decode cX6_init 29 = .ok (.aload_n 0, 1) := by decide +kernel
theorem dX6_init_30 : decode cX6_init 30 = .ok (.sipush 222, 3) := by decide +kernel
theorem dX6_init_33 : decode cX6_init 33 = .ok (.newarray .int, 2) := by decide +kernel
theorem dX6_init_35 : decode cX6_init 35 = .ok (.putfield 19, 3) := by decide +kernel
theorem dX6_init_38 : decode cX6_init 38 = .ok (.aload_n 0, 1) := by decide +kernel
theorem dX6_init_39 : decode cX6_init 39 = .ok (.bipush 36, 2) := by decide +kernel
theorem dX6_init_41 : decode cX6_init 41 = .ok (.newarray .int, 2) := by decide +kernel
theorem dX6_init_43 : decode cX6_init 43 = .ok (.putfield 22, 3) := by decide +kernel
theorem dX6_init_46 : decode cX6_init 46 = .ok (.aload_n 0, 1) := by decide +kernel
theorem dX6_init_47 : decode cX6_init 47 = .ok (.bipush 36, 2) := by decide +kernel
theorem dX6_init_49 : decode cX6_init 49 = .ok (.newarray .int, 2) := by decide +kernel
theorem dX6_init_51 : decode cX6_init 51 = .ok (.putfield 25, 3) := by decide +kernel
theorem dX6_init_54 : decode cX6_init 54 = .ok (.aload_n 0, 1) := by decide +kernel
theorem dX6_init_55 : decode cX6_init 55 = .ok (.bipush 49, 2) := by decide +kernel
theorem dX6_init_57 : decode cX6_init 57 = .ok (.newarray .int, 2) := by decide +kernel
theorem dX6_init_59 : decode cX6_init 59 = .ok (.putfield 28, 3) := by decide +kernel
theorem dX6_init_62 : decode cX6_init 62 = .ok (.aload_n 0, 1) := by decide +kernel
theorem dX6_init_63 : decode cX6_init 63 = .ok (.bipush 12, 2) := by decide +kernel
theorem dX6_init_65 : decode cX6_init 65 = .ok (.newarray .int, 2) := by decide +kernel
theorem dX6_init_67 : decode cX6_init 67 = .ok (.putfield 31, 3) := by decide +kernel
theorem dX6_init_70 : decode cX6_init 70 = .ok (.aload_n 0, 1) := by decide +kernel
theorem dX6_init_71 : decode cX6_init 71 = .ok (.bipush 12, 2) := by decide +kernel
theorem dX6_init_73 : decode cX6_init 73 = .ok (.newarray .int, 2) := by decide +kernel
theorem dX6_init_75 : decode cX6_init 75 = .ok (.putfield 34, 3) := by decide +kernel
theorem dX6_init_78 : decode cX6_init 78 = .ok (.aload_n 0, 1) := by decide +kernel
theorem dX6_init_79 : decode cX6_init 79 = .ok (.bipush 12, 2) := by decide +kernel
theorem dX6_init_81 : decode cX6_init 81 = .ok (.newarray .int, 2) := by decide +kernel
theorem dX6_init_83 : decode cX6_init 83 = .ok (.putfield 37, 3) := by decide +kernel
theorem dX6_init_86 : decode cX6_init 86 = .ok (.aload_n 0, 1) := by decide +kernel
theorem dX6_init_87 : decode cX6_init 87 = .ok (.bipush 36, 2) := by decide +kernel
theorem dX6_init_89 : decode cX6_init 89 = .ok (.newarray .boolean, 2) := by decide +kernel
theorem dX6_init_91 : decode cX6_init 91 = .ok (.putfield 40, 3) := by decide +kernel
theorem dX6_init_94 : decode cX6_init 94 = .ok (.aload_n 0, 1) := by decide +kernel
theorem dX6_init_95 : decode cX6_init 95 = .ok (.sipush 448, 3) := by decide +kernel
theorem dX6_init_98 : decode cX6_init 98 = .ok (.newarray .int, 2) := by decide +kernel
theorem dX6_init_100 : decode cX6_init 100 = .ok (.putfield 44, 3) := by decide +kernel
theorem dX6_init_103 : decode cX6_init 103 = .ok (.aload_n 0, 1) := by decide +kernel
theorem dX6_init_104 : decode cX6_init 104 = .ok (.sipush 429, 3) := by decide +kernel
theorem dX6_init_107 : decode cX6_init 107 = .ok (.newarray .long, 2) := by decide +kernel
theorem dX6_init_109 : decode cX6_init 109 = .ok (.putfield 47, 3) := by decide +kernel
theorem dX6_init_112 : decode cX6_init 112 = .ok (.aload_n 0, 1) := by decide +kernel
theorem dX6_init_113 : decode cX6_init 113 = .ok (.sipush 429, 3) := by decide +kernel
theorem dX6_init_116 : decode cX6_init 116 = .ok (.newarray .int, 2) := by decide +kernel
theorem dX6_init_118 : decode cX6_init 118 = .ok (.putfield 51, 3) := by decide +kernel
theorem dX6_init_121 : decode cX6_init 121 = .ok (.aload_n 0, 1) := by decide +kernel
theorem dX6_init_122 : decode cX6_init 122 = .ok (.iconst 3, 1) := by decide +kernel
theorem dX6_init_123 : decode cX6_init 123 = .ok (.putfield 54, 3) := by decide +kernel
theorem dX6_init_126 : decode cX6_init 126 = .ok (.aload_n 0, 1) := by decide +kernel
theorem dX6_init_127 : decode cX6_init 127 = .ok (.getfield 13, 3) := by decide +kernel
theorem dX6_init_130 : decode cX6_init 130 = .ok (.iconst 1, 1) := by decide +kernel
theorem dX6_init_131 : decode cX6_init 131 = .ok (.iconst 1, 1) := by decide +kernel
theorem dX6_init_132 : decode cX6_init 132 = .ok (.iastore, 1) := by decide +kernel
theorem dX6_init_133 : decode cX6_init 133 = .ok (.aload_n 0, 1) := by decide +kernel
theorem dX6_init_134 : decode cX6_init 134 = .ok (.getfield 13, 3) := by decide +kernel
theorem dX6_init_137 : decode cX6_init 137 = .ok (.bipush 6, 2) := by decide +kernel
theorem dX6_init_139 : decode cX6_init 139 = .ok (.iconst 1, 1) := by decide +kernel
theorem dX6_init_140 : decode cX6_init 140 = .ok (.iastore, 1) := by decide +kernel
theorem dX6_init_141 : decode cX6_init 141 = .ok (.aload_n 0, 1) := by decide +kernel
theorem dX6_init_142 : decode cX6_init 142 = .ok (.getfield 13, 3) := by decide +kernel
theorem dX6_init_145 : decode cX6_init 145 = .ok (.bipush 7, 2) := by decide +kernel
theorem dX6_init_147 : decode cX6_init 147 = .ok (.iconst (-1), 1) := by decide +kernel
theorem dX6_init_148 : decode cX6_init 148 = .ok (.iastore, 1) := by decide +kernel
theorem dX6_init_149 : decode cX6_init 149 = .ok (.aload_n 0, 1) := by decide +kernel
theorem dX6_init_150 : decode cX6_init 150 = .ok (.getfield 13, 3) := by decide +kernel
theorem dX6_init_153 : decode cX6_init 153 = .ok (.bipush 8, 2) := by decide +kernel
theorem dX6_init_155 : decode cX6_init 155 = .ok (.iconst 1, 1) := by decide +kernel
theorem dX6_init_156 : decode cX6_init 156 = .ok (.iastore, 1) := by decide +kernel
theorem dX6_init_157 : decode cX6_init 157 = .ok (.aload_n 0, 1) := by decide +kernel
theorem dX6_init_158 : decode cX6_init 158 = .ok (.getfield 13, 3) := by decide +kernel
theorem dX6_init_161 : decode cX6_init 161 = .ok (.bipush 13, 2) := by decide +kernel
theorem dX6_init_163 : decode cX6_init 163 = .ok (.iconst 1, 1) := by decide +kernel
theorem dX6_init_164 : decode cX6_init 164 = .ok (.iastore, 1) := by decide +kernel
theorem dX6_init_165 : decode cX6_init 165 = .ok (.return_, 1) := by decide +kernel
theorem dX6_in_0 : decode cX6_in 0 = .ok (.lload_n 0, 1) := by decide +kernel
theorem dX6_in_1 : decode cX6_in 1 = .ok (.lload_n 2, 1) := by decide +kernel
theorem dX6_in_2 : decode cX6_in 2 = .ok (.lcmp, 1) := by decide +kernel
theorem dX6_in_3 : decode cX6_in 3 = .ok (.ifCond .lt 14, 3) := by decide +kernel
theorem dX6_in_6 : decode cX6_in 6 = .ok (.lload_n 0, 1) := by decide +kernel
theorem dX6_in_7 : decode cX6_in 7 = .ok (.lload 4, 2) := by decide +kernel
theorem dX6_in_9 : decode cX6_in 9 = .ok (.lcmp, 1) := by decide +kernel
theorem dX6_in_10 : decode cX6_in 10 = .ok (.ifCond .gt 7, 3) := by decide +kernel
theorem dX6_in_13 : decode cX6_in 13 = .ok (.iconst 1, 1) := by decide +kernel
theorem dX6_in_14 : decode cX6_in 14 = .ok (.goto 4, 3) := by decide +kernel
theorem dX6_in_17 : decode cX6_in 17 = .ok (.iconst 0, 1) := by decide +kernel
theorem dX6_in_18 : decode cX6_in 18 = .ok (.ireturn, 1) := by decide +kernel
set_option maxRecDepth 20000 in
theorem ggX6_write_X6_in : GoodIn wsX6_write wsX6_in := goodIn_r _ [8] (by decide +kernel) (by decide +kernel)
set_option maxRecDepth 20000 in
theorem gX6_write_X6_in : GoodIn wsX6_write (va_wsS RX6 62 yX6_in wsX6_in) := goodIn_app (goodIn_of _ (by decide +kernel)) ggX6_write_X6_in
theorem dX6_write_0 : decode cX6_write 0 = .ok (.iload_n 1, 1) := by decide +kernel
theorem dX6_write_1 : decode cX6_write 1 = .ok (.i2l, 1) := by decide +kernel
theorem dX6_write_2 : decode cX6_write 2 = .ok (.ldc2_w 58, 3) := by decide +kernel
theorem dX6_write_5 : decode cX6_write 5 = .ok (.ldc2_w 60, 3) := by decide +kernel
theorem dX6_write_8 : decode cX6_write 8 = .ok (.invokestatic 62, 3) := by decide +kernel
theorem dX6_write_11 : decode cX6_write 11 = .ok (.ifCond .ne 5, 3) := by decide +kernel
theorem dX6_write_14 : decode cX6_write 14 = .ok (.iconst (-1), 1) := by decide +kernel
theorem dX6_write_15 : decode cX6_write 15 = .ok (.ireturn, 1) := by decide +kernel
theorem dX6_write_16 : decode cX6_write 16 = .ok (.aload_n 0, 1) := by decide +kernel
theorem dX6_write_17 : decode cX6_write 17 = .ok (.getfield 66, 3) := by decide +kernel
theorem dX6_write_20 : decode cX6_write 20 = .ok (.sipush 200, 3) := by decide +kernel
theorem dX6_write_23 : decode cX6_write 23 = .ok (.if_icmp .ne 6, 3) := by decide +kernel
theorem dX6_write_26 : decode cX6_write 26 = .ok (.bipush (-3), 2) := by decide +kernel
theorem dX6_write_28 : decode cX6_write 28 = .ok (.ireturn, 1) := by decide +kernel
theorem dX6_write_29 : decode cX6_write 29 = .ok (.aload_n 0, 1) := by decide +kernel
theorem dX6_write_30 : decode cX6_write 30 = .ok (.getfield 7, 3) := by decide +kernel
theorem dX6_write_33 : decode cX6_write 33 = .ok (.aload_n 0, 1) := by decide +kernel
theorem dX6_write_34 : decode cX6_write 34 = .ok (.getfield 66, 3) := by decide +kernel
theorem dX6_write_37 : decode cX6_write 37 = .ok (.iload_n 1, 1) := by decide +kernel
theorem dX6_write_38 : decode cX6_write 38 = .ok (.iastore, 1) := by decide +kernel
theorem dX6_write_39 : decode cX6_write 39 = .ok (.aload_n 0, 1) := by decide +kernel
theorem dX6_write_40 : decode cX6_write 40 = .ok (.dup, 1) := by decide +kernel
theorem dX6_write_41 : decode cX6_write 41 = .ok (.getfield 66, 3) := by decide +kernel
theorem dX6_write_44 : decode cX6_write 44 = .ok (.iconst 1, 1) := by decide +kernel
theorem dX6_write_45 : decode cX6_write 45 = .ok (.iadd, 1) := by decide +kernel
theorem dX6_write_46 : decode cX6_write 46 = .ok (.putfield 66, 3) := by decide +kernel
theorem dX6_write_49 : decode cX6_write 49 = .ok (.aload_n 0, 1) := by decide +kernel
theorem dX6_write_50 : decode cX6_write 50 = .ok (.getfield 66, 3) := by decide +kernel
theorem dX6_write_53 : decode cX6_write 53 = .ok (.ireturn, 1) := by decide +kernel
theorem dX6_wipe_0 : decode cX6_wipe 0 = .ok (.aload_n 0, 1) := by decide +kernel
theorem dX6_wipe_1 : decode cX6_wipe 1 = .ok (.getfield 66, 3) := by decide +kernel
theorem dX6_wipe_4 : decode cX6_wipe 4 = .ok (.istore_n 1, 1) := by decide +kernel
theorem dX6_wipe_5 : decode cX6_wipe 5 = .ok (.aload_n 0, 1) := by decide +kernel
theorem dX6_wipe_6 : decode cX6_wipe 6 = .ok (.iconst 0, 1) := by decide +kernel
theorem dX6_wipe_7 : decode cX6_wipe 7 = .ok (.putfield 66, 3) := by decide +kernel
theorem dX6_wipe_10 : decode cX6_wipe 10 = .ok (.iload_n 1, 1) := by decide +kernel
theorem dX6_wipe_11 : decode cX6_wipe 11 = .ok (.ireturn, 1) := by decide +kernel
set_option maxRecDepth 20000 in
theorem ggX6_fault_X6_in : GoodIn wsX6_fault wsX6_in := goodIn_r _ [8] (by decide +kernel) (by decide +kernel)
set_option maxRecDepth 20000 in
theorem gX6_fault_X6_in : GoodIn wsX6_fault (va_wsS RX6 62 yX6_in wsX6_in) := goodIn_app (goodIn_of _ (by decide +kernel)) ggX6_fault_X6_in
theorem dX6_fault_0 : decode cX6_fault 0 = .ok (.aload_n 0, 1) := by decide +kernel
theorem dX6_fault_1 : decode cX6_fault 1 = .ok (.iconst 0, 1) := by decide +kernel
theorem dX6_fault_2 : decode cX6_fault 2 = .ok (.putfield 69, 3) := by decide +kernel
theorem dX6_fault_5 : decode cX6_fault 5 = .ok (.iconst 0, 1) := by decide +kernel
theorem dX6_fault_6 : decode cX6_fault 6 = .ok (.istore_n 1, 1) := by decide +kernel
theorem dX6_fault_7 : decode cX6_fault 7 = .ok (.iconst 0, 1) := by decide +kernel
theorem dX6_fault_8 : decode cX6_fault 8 = .ok (.istore_n 2, 1) := by decide +kernel
theorem dX6_fault_9 : decode cX6_fault 9 = .ok (.iconst 0, 1) := by decide +kernel
theorem dX6_fault_10 : decode cX6_fault 10 = .ok (.istore_n 3, 1) := by decide +kernel
theorem dX6_fault_11 : decode cX6_fault 11 = .ok (.iconst 0, 1) := by decide +kernel
theorem dX6_fault_12 : decode cX6_fault 12 = .ok (.istore 4, 2) := by decide +kernel
theorem dX6_fault_14 : decode cX6_fault 14 = .ok (.iconst 0, 1) := by decide +kernel
theorem dX6_fault_15 : decode cX6_fault 15 = .ok (.istore 5, 2) := by decide +kernel
theorem dX6_fault_17 : decode cX6_fault 17 = .ok (.iload 5, 2) := by decide +kernel
theorem dX6_fault_19 : decode cX6_fault 19 = .ok (.aload_n 0, 1) := by decide +kernel
theorem dX6_fault_20 : decode cX6_fault 20 = .ok (.getfield 66, 3) := by decide +kernel
theorem dX6_fault_23 : decode cX6_fault 23 = .ok (.if_icmp .ge 256, 3) := by decide +kernel
theorem dX6_fault_26 : decode cX6_fault 26 = .ok (.aload_n 0, 1) := by decide +kernel
theorem dX6_fault_27 : decode cX6_fault 27 = .ok (.getfield 7, 3) := by decide +kernel
theorem dX6_fault_30 : decode cX6_fault 30 = .ok (.iload 5, 2) := by decide +kernel
theorem dX6_fault_32 : decode cX6_fault 32 = .ok (.iaload, 1) := by decide +kernel
theorem dX6_fault_33 : decode cX6_fault 33 = .ok (.istore 6, 2) := by decide +kernel
theorem dX6_fault_35 : decode cX6_fault 35 = .ok (.iload 6, 2) := by decide +kernel
theorem dX6_fault_37 : decode cX6_fault 37 = .ok (.bipush 59, 2) := by decide +kernel
theorem dX6_fault_39 : decode cX6_fault 39 = .ok (.if_icmp .ne 7, 3) := by decide +kernel
theorem dX6_fault_42 : decode cX6_fault 42 = .ok (.iconst 1, 1) := by decide +kernel
theorem dX6_fault_43 : decode cX6_fault 43 = .ok (.goto 4, 3) := by decide +kernel
theorem dX6_fault_46 : decode cX6_fault 46 = .ok (.iconst 0, 1) := by decide +kernel
theorem dX6_fault_47 : decode cX6_fault 47 = .ok (.istore 7, 2) := by decide +kernel
theorem dX6_fault_49 : decode cX6_fault 49 = .ok (.iload 7, 2) := by decide +kernel
theorem dX6_fault_51 : decode cX6_fault 51 = .ok (.ifCond .ne 24, 3) := by decide +kernel
theorem dX6_fault_54 : decode cX6_fault 54 = .ok (.iload 6, 2) := by decide +kernel
theorem dX6_fault_56 : decode cX6_fault 56 = .ok (.bipush 43, 2) := by decide +kernel
theorem dX6_fault_58 : decode cX6_fault 58 = .ok (.if_icmp .eq 17, 3) := by decide +kernel
theorem dX6_fault_61 : decode cX6_fault 61 = .ok (.iload 6, 2) := by decide +kernel
theorem dX6_fault_63 : decode cX6_fault 63 = .ok (.bipush 45, 2) := by decide +kernel
theorem dX6_fault_65 : decode cX6_fault 65 = .ok (.if_icmp .eq 10, 3) := by decide +kernel
theorem dX6_fault_68 : decode cX6_fault 68 = .ok (.iload 6, 2) := by decide +kernel
theorem dX6_fault_70 : decode cX6_fault 70 = .ok (.bipush 48, 2) := by decide +kernel
theorem dX6_fault_72 : decode cX6_fault 72 = .ok (.if_icmp .ne 18, 3) := by decide +kernel
theorem dX6_fault_75 : decode cX6_fault 75 = .ok (.aload_n 0, 1) := by decide +kernel
theorem dX6_fault_76 : decode cX6_fault 76 = .ok (.getfield 69, 3) := by decide +kernel
theorem dX6_fault_79 : decode cX6_fault 79 = .ok (.ifCond .le 14, 3) := by decide +kernel
theorem dX6_fault_82 : decode cX6_fault 82 = .ok (.iload_n 1, 1) := by decide +kernel
theorem dX6_fault_83 : decode cX6_fault 83 = .ok (.aload_n 0, 1) := by decide +kernel
theorem dX6_fault_84 : decode cX6_fault 84 = .ok (.getfield 69, 3) := by decide +kernel
theorem dX6_fault_87 : decode cX6_fault 87 = .ok (.if_icmp .ne 6, 3) := by decide +kernel
theorem dX6_fault_90 : decode cX6_fault 90 = .ok (.iload 5, 2) := by decide +kernel
theorem dX6_fault_92 : decode cX6_fault 92 = .ok (.ireturn, 1) := by decide +kernel
theorem dX6_fault_93 : decode cX6_fault 93 = .ok (.aload_n 0, 1) := by decide +kernel
theorem dX6_fault_94 : decode cX6_fault 94 = .ok (.getfield 69, 3) := by decide +kernel
theorem dX6_fault_97 : decode cX6_fault 97 = .ok (.ifCond .le 10, 3) := by decide +kernel
theorem dX6_fault_100 : decode cX6_fault 100 = .ok (.aload_n 0, 1) := by decide +kernel
theorem dX6_fault_101 : decode cX6_fault 101 = .ok (.getfield 69, 3) := by decide +kernel
theorem dX6_fault_104 : decode cX6_fault 104 = .ok (.goto 5, 3) := by decide +kernel
theorem dX6_fault_107 : decode cX6_fault 107 = .ok (.bipush 6, 2) := by decide +kernel
theorem dX6_fault_109 : decode cX6_fault 109 = .ok (.istore 8, 2) := by decide +kernel
theorem dX6_fault_111 : decode cX6_fault 111 = .ok (.iload 7, 2) := by decide +kernel
theorem dX6_fault_113 : decode cX6_fault 113 = .ok (.ifCond .eq 45, 3) := by decide +kernel
theorem dX6_fault_116 : decode cX6_fault 116 = .ok (.iload_n 2, 1) := by decide +kernel
theorem dX6_fault_117 : decode cX6_fault 117 = .ok (.ifCond .eq 23, 3) := by decide +kernel
theorem dX6_fault_120 : decode cX6_fault 120 = .ok (.aload_n 0, 1) := by decide +kernel
theorem dX6_fault_121 : decode cX6_fault 121 = .ok (.getfield 69, 3) := by decide +kernel
theorem dX6_fault_124 : decode cX6_fault 124 = .ok (.ifCond .le 11, 3) := by decide +kernel
theorem dX6_fault_127 : decode cX6_fault 127 = .ok (.iload_n 2, 1) := by decide +kernel
theorem dX6_fault_128 : decode cX6_fault 128 = .ok (.aload_n 0, 1) := by decide +kernel
theorem dX6_fault_129 : decode cX6_fault 129 = .ok (.getfield 69, 3) := by decide +kernel
theorem dX6_fault_132 : decode cX6_fault 132 = .ok (.if_icmp .lt 8, 3) := by decide +kernel
theorem dX6_fault_135 : decode cX6_fault 135 = .ok (.iload_n 3, 1) := by decide +kernel
theorem dX6_fault_136 : decode cX6_fault 136 = .ok (.iconst 1, 1) := by decide +kernel
theorem dX6_fault_137 : decode cX6_fault 137 = .ok (.if_icmp .eq 6, 3) := by decide +kernel
theorem dX6_fault_140 : decode cX6_fault 140 = .ok (.iload 5, 2) := by decide +kernel
theorem dX6_fault_142 : decode cX6_fault 142 = .ok (.ireturn, 1) := by decide +kernel
theorem dX6_fault_143 : decode cX6_fault 143 = .ok (.aload_n 0, 1) := by decide +kernel
theorem dX6_fault_144 : decode cX6_fault 144 = .ok (.iload_n 2, 1) := by decide +kernel
theorem dX6_fault_145 : decode cX6_fault 145 = .ok (.putfield 69, 3) := by decide +kernel
theorem dX6_fault_148 : decode cX6_fault 148 = .ok (.iinc 1 1, 3) := by decide +kernel
theorem dX6_fault_151 : decode cX6_fault 151 = .ok (.iconst 0, 1) := by decide +kernel
theorem dX6_fault_152 : decode cX6_fault 152 = .ok (.istore_n 2, 1) := by decide +kernel
theorem dX6_fault_153 : decode cX6_fault 153 = .ok (.iconst 0, 1) := by decide +kernel
theorem dX6_fault_154 : decode cX6_fault 154 = .ok (.istore_n 3, 1) := by decide +kernel
theorem dX6_fault_155 : decode cX6_fault 155 = .ok (.goto 118, 3) := by decide +kernel
theorem dX6_fault_158 : decode cX6_fault 158 = .ok (.iload 6, 2) := by decide +kernel
theorem dX6_fault_160 : decode cX6_fault 160 = .ok (.bipush 43, 2) := by decide +kernel
theorem dX6_fault_162 : decode cX6_fault 162 = .ok (.if_icmp .ne 7, 3) := by decide +kernel
theorem dX6_fault_165 : decode cX6_fault 165 = .ok (.iconst 1, 1) := by decide +kernel
theorem dX6_fault_166 : decode cX6_fault 166 = .ok (.goto 15, 3) := by decide +kernel
theorem dX6_fault_169 : decode cX6_fault 169 = .ok (.iload 6, 2) := by decide +kernel
theorem dX6_fault_171 : decode cX6_fault 171 = .ok (.bipush 45, 2) := by decide +kernel
theorem dX6_fault_173 : decode cX6_fault 173 = .ok (.if_icmp .ne 7, 3) := by decide +kernel
theorem dX6_fault_176 : decode cX6_fault 176 = .ok (.iconst (-1), 1) := by decide +kernel
theorem dX6_fault_177 : decode cX6_fault 177 = .ok (.goto 4, 3) := by decide +kernel
theorem dX6_fault_180 : decode cX6_fault 180 = .ok (.iconst 0, 1) := by decide +kernel
theorem dX6_fault_181 : decode cX6_fault 181 = .ok (.istore 9, 2) := by decide +kernel
theorem dX6_fault_183 : decode cX6_fault 183 = .ok (.iload 4, 2) := by decide +kernel
theorem dX6_fault_185 : decode cX6_fault 185 = .ok (.iload_n 2, 1) := by decide +kernel
theorem dX6_fault_186 : decode cX6_fault 186 = .ok (.ishr, 1) := by decide +kernel
theorem dX6_fault_187 : decode cX6_fault 187 = .ok (.iconst 1, 1) := by decide +kernel
theorem dX6_fault_188 : decode cX6_fault 188 = .ok (.iand, 1) := by decide +kernel
theorem dX6_fault_189 : decode cX6_fault 189 = .ok (.iload 9, 2) := by decide +kernel
theorem dX6_fault_191 : decode cX6_fault 191 = .ok (.iadd, 1) := by decide +kernel
theorem dX6_fault_192 : decode cX6_fault 192 = .ok (.istore 10, 2) := by decide +kernel
theorem dX6_fault_194 : decode cX6_fault 194 = .ok (.iload_n 2, 1) := by decide +kernel
theorem dX6_fault_195 : decode cX6_fault 195 = .ok (.iload 8, 2) := by decide +kernel
theorem dX6_fault_197 : decode cX6_fault 197 = .ok (.if_icmp .eq 27, 3) := by decide +kernel
theorem dX6_fault_200 : decode cX6_fault 200 = .ok (.iload_n 3, 1) := by decide +kernel
theorem dX6_fault_201 : decode cX6_fault 201 = .ok (.iload 9, 2) := by decide +kernel
theorem dX6_fault_203 : decode cX6_fault 203 = .ok (.iadd, 1) := by decide +kernel
theorem dX6_fault_204 : decode cX6_fault 204 = .ok (.i2l, 1) := by decide +kernel
theorem dX6_fault_205 : decode cX6_fault 205 = .ok (.lconst 0, 1) := by decide +kernel
theorem dX6_fault_206 : decode cX6_fault 206 = .ok (.lconst 1, 1) := by decide +kernel
theorem dX6_fault_207 : decode cX6_fault 207 = .ok (.invokestatic 62, 3) := by decide +kernel
theorem dX6_fault_210 : decode cX6_fault 210 = .ok (.ifCond .eq 14, 3) := by decide +kernel
theorem dX6_fault_213 : decode cX6_fault 213 = .ok (.iload 10, 2) := by decide +kernel
theorem dX6_fault_215 : decode cX6_fault 215 = .ok (.i2l, 1) := by decide +kernel
theorem dX6_fault_216 : decode cX6_fault 216 = .ok (.lconst 0, 1) := by decide +kernel
theorem dX6_fault_217 : decode cX6_fault 217 = .ok (.lconst 1, 1) := by decide +kernel
theorem dX6_fault_218 : decode cX6_fault 218 = .ok (.invokestatic 62, 3) := by decide +kernel
theorem dX6_fault_221 : decode cX6_fault 221 = .ok (.ifCond .ne 6, 3) := by decide +kernel
theorem dX6_fault_224 : decode cX6_fault 224 = .ok (.iload 5, 2) := by decide +kernel
theorem dX6_fault_226 : decode cX6_fault 226 = .ok (.ireturn, 1) := by decide +kernel
theorem dX6_fault_227 : decode cX6_fault 227 = .ok (.iload_n 3, 1) := by decide +kernel
theorem dX6_fault_228 : decode cX6_fault 228 = .ok (.iload 9, 2) := by decide +kernel
theorem dX6_fault_230 : decode cX6_fault 230 = .ok (.iadd, 1) := by decide +kernel
theorem dX6_fault_231 : decode cX6_fault 231 = .ok (.istore_n 3, 1) := by decide +kernel
theorem dX6_fault_232 : decode cX6_fault 232 = .ok (.iload 10, 2) := by decide +kernel
theorem dX6_fault_234 : decode cX6_fault 234 = .ok (.iconst 1, 1) := by decide +kernel
theorem dX6_fault_235 : decode cX6_fault 235 = .ok (.if_icmp .ne 12, 3) := by decide +kernel
theorem dX6_fault_238 : decode cX6_fault 238 = .ok (.iload 4, 2) := by decide +kernel
theorem dX6_fault_240 : decode cX6_fault 240 = .ok (.iconst 1, 1) := by decide +kernel
theorem dX6_fault_241 : decode cX6_fault 241 = .ok (.iload_n 2, 1) := by decide +kernel
theorem dX6_fault_242 : decode cX6_fault 242 = .ok (.ishl, 1) := by decide +kernel
theorem dX6_fault_243 : decode cX6_fault 243 = .ok (.ior, 1) := by decide +kernel
theorem dX6_fault_244 : decode cX6_fault 244 = .ok (.goto 11, 3) := by decide +kernel
theorem dX6_fault_247 : decode cX6_fault 247 = .ok (.iload 4, 2) := by decide +kernel
theorem dX6_fault_249 : decode cX6_fault 249 = .ok (.iconst 1, 1) := by decide +kernel
theorem dX6_fault_250 : decode cX6_fault 250 = .ok (.iload_n 2, 1) := by decide +kernel
theorem dX6_fault_251 : decode cX6_fault 251 = .ok (.ishl, 1) := by decide +kernel
theorem dX6_fault_252 : decode cX6_fault 252 = .ok (.iconst (-1), 1) := by decide +kernel
theorem dX6_fault_253 : decode cX6_fault 253 = .ok (.ixor, 1) := by decide +kernel
theorem dX6_fault_254 : decode cX6_fault 254 = .ok (.iand, 1) := by decide +kernel
theorem dX6_fault_255 : decode cX6_fault 255 = .ok (.istore 4, 2) := by decide +kernel
theorem dX6_fault_257 : decode cX6_fault 257 = .ok (.aload_n 0, 1) := by decide +kernel
theorem dX6_fault_258 : decode cX6_fault 258 = .ok (.getfield 22, 3) := by decide +kernel
theorem dX6_fault_261 : decode cX6_fault 261 = .ok (.bipush 6, 2) := by decide +kernel
theorem dX6_fault_263 : decode cX6_fault 263 = .ok (.iload_n 1, 1) := by decide +kernel
theorem dX6_fault_264 : decode cX6_fault 264 = .ok (.imul, 1) := by decide +kernel
theorem dX6_fault_265 : decode cX6_fault 265 = .ok (.iload_n 2, 1) := by decide +kernel
theorem dX6_fault_266 : decode cX6_fault 266 = .ok (.iadd, 1) := by decide +kernel
theorem dX6_fault_267 : decode cX6_fault 267 = .ok (.iload 9, 2) := by decide +kernel
theorem dX6_fault_269 : decode cX6_fault 269 = .ok (.iastore, 1) := by decide +kernel
theorem dX6_fault_270 : decode cX6_fault 270 = .ok (.iinc 2 1, 3) := by decide +kernel
theorem dX6_fault_273 : decode cX6_fault 273 = .ok (.iinc 5 1, 3) := by decide +kernel
theorem dX6_fault_276 : decode cX6_fault 276 = .ok (.goto (-259), 3) := by decide +kernel
theorem dX6_fault_279 : decode cX6_fault 279 = .ok (.aload_n 0, 1) := by decide +kernel
theorem dX6_fault_280 : decode cX6_fault 280 = .ok (.getfield 69, 3) := by decide +kernel
theorem dX6_fault_283 : decode cX6_fault 283 = .ok (.ifCond .le 16, 3) := by decide +kernel
theorem dX6_fault_286 : decode cX6_fault 286 = .ok (.iload_n 1, 1) := by decide +kernel
theorem dX6_fault_287 : decode cX6_fault 287 = .ok (.aload_n 0, 1) := by decide +kernel
theorem dX6_fault_288 : decode cX6_fault 288 = .ok (.getfield 69, 3) := by decide +kernel
theorem dX6_fault_291 : decode cX6_fault 291 = .ok (.if_icmp .ne 8, 3) := by decide +kernel
theorem dX6_fault_294 : decode cX6_fault 294 = .ok (.bipush (-4), 2) := by decide +kernel
theorem dX6_fault_296 : decode cX6_fault 296 = .ok (.goto 7, 3) := by decide +kernel
theorem dX6_fault_299 : decode cX6_fault 299 = .ok (.aload_n 0, 1) := by decide +kernel
theorem dX6_fault_300 : decode cX6_fault 300 = .ok (.getfield 66, 3) := by decide +kernel
theorem dX6_fault_303 : decode cX6_fault 303 = .ok (.ireturn, 1) := by decide +kernel
set_option maxRecDepth 20000 in
theorem ggX6_lay_X6_fault : GoodIn wsX6_lay wsX6_fault := goodIn_r _ [10, 1, 11, 12, 3, 13, 14, 9, 15, 19, 20, 21, 22, 23, 24, 25, 26, 27, 28, 29, 30, 31, 32, 33, 34, 35, 36, 37, 38, 39, 40, 41] (by decide +kernel) (by decide +kernel)
set_option maxRecDepth 20000 in
theorem gX6_lay_X6_fault : GoodIn wsX6_lay (wsV RX6 72 RX6 yX6_fault wsX6_fault) := goodIn_app (goodIn_of _ (by decide +kernel)) ggX6_lay_X6_fault
set_option maxRecDepth 20000 in
theorem ggX6_lay_X6_copy : GoodIn wsX6_lay wsX6_copy := goodIn_r _ [18] (by decide +kernel) (by decide +kernel)
set_option maxRecDepth 20000 in
theorem gX6_lay_X6_copy : GoodIn wsX6_lay (va_wsS RX6 76 yX6_copy wsX6_copy) := goodIn_app (goodIn_of _ (by decide +kernel)) ggX6_lay_X6_copy
theorem dX6_lay_0 : decode cX6_lay 0 = .ok (.aload_n 0, 1) := by decide +kernel
theorem dX6_lay_1 : decode cX6_lay 1 = .ok (.invokevirtual 72, 3) := by decide +kernel
theorem dX6_lay_4 : decode cX6_lay 4 = .ok (.bipush (-4), 2) := by decide +kernel
theorem dX6_lay_6 : decode cX6_lay 6 = .ok (.if_icmp .eq 6, 3) := by decide +kernel
theorem dX6_lay_9 : decode cX6_lay 9 = .ok (.bipush (-2), 2) := by decide +kernel
theorem dX6_lay_11 : decode cX6_lay 11 = .ok (.ireturn, 1) := by decide +kernel
theorem dX6_lay_12 : decode cX6_lay 12 = .ok (.aload_n 0, 1) := by decide +kernel
theorem dX6_lay_13 : decode cX6_lay 13 = .ok (.aload_n 0, 1) := by decide +kernel
theorem dX6_lay_14 : decode cX6_lay 14 = .ok (.getfield 69, 3) := by decide +kernel
theorem dX6_lay_17 : decode cX6_lay 17 = .ok (.putfield 54, 3) := by decide +kernel
theorem dX6_lay_20 : decode cX6_lay 20 = .ok (.aload_n 0, 1) := by decide +kernel
theorem dX6_lay_21 : decode cX6_lay 21 = .ok (.getfield 22, 3) := by decide +kernel
theorem dX6_lay_24 : decode cX6_lay 24 = .ok (.aload_n 0, 1) := by decide +kernel
theorem dX6_lay_25 : decode cX6_lay 25 = .ok (.getfield 13, 3) := by decide +kernel
theorem dX6_lay_28 : decode cX6_lay 28 = .ok (.invokestatic 76, 3) := by decide +kernel
theorem dX6_lay_31 : decode cX6_lay 31 = .ok (.aload_n 0, 1) := by decide +kernel
theorem dX6_lay_32 : decode cX6_lay 32 = .ok (.iconst 0, 1) := by decide +kernel
theorem dX6_lay_33 : decode cX6_lay 33 = .ok (.putfield 80, 3) := by decide +kernel
theorem dX6_lay_36 : decode cX6_lay 36 = .ok (.aload_n 0, 1) := by decide +kernel
theorem dX6_lay_37 : decode cX6_lay 37 = .ok (.getfield 54, 3) := by decide +kernel
theorem dX6_lay_40 : decode cX6_lay 40 = .ok (.ireturn, 1) := by decide +kernel
theorem dX6_copy_0 : decode cX6_copy 0 = .ok (.iconst 0, 1) := by decide +kernel
theorem dX6_copy_1 : decode cX6_copy 1 = .ok (.istore_n 2, 1) := by decide +kernel
theorem dX6_copy_2 : decode cX6_copy 2 = .ok (.iload_n 2, 1) := by decide +kernel
theorem dX6_copy_3 : decode cX6_copy 3 = .ok (.bipush 36, 2) := by decide +kernel
theorem dX6_copy_5 : decode cX6_copy 5 = .ok (.if_icmp .ge 15, 3) := by decide +kernel
theorem dX6_copy_8 : decode cX6_copy 8 = .ok (.aload_n 1, 1) := by decide +kernel
theorem dX6_copy_9 : decode cX6_copy 9 = .ok (.iload_n 2, 1) := by decide +kernel
theorem dX6_copy_10 : decode cX6_copy 10 = .ok (.aload_n 0, 1) := by decide +kernel
theorem dX6_copy_11 : decode cX6_copy 11 = .ok (.iload_n 2, 1) := by decide +kernel
theorem dX6_copy_12 : decode cX6_copy 12 = .ok (.iaload, 1) := by decide +kernel
theorem dX6_copy_13 : decode cX6_copy 13 = .ok (.iastore, 1) := by decide +kernel
theorem dX6_copy_14 : decode cX6_copy 14 = .ok (.iinc 2 1, 3) := by decide +kernel
theorem dX6_copy_17 : decode cX6_copy 17 = .ok (.goto (-15), 3) := by decide +kernel
theorem dX6_copy_20 : decode cX6_copy 20 = .ok (.return_, 1) := by decide +kernel
theorem dX6_note_0 : decode cX6_note 0 = .ok (.aload_n 0, 1) := by decide +kernel
theorem dX6_note_1 : decode cX6_note 1 = .ok (.getfield 80, 3) := by decide +kernel
theorem dX6_note_4 : decode cX6_note 4 = .ok (.bipush 6, 2) := by decide +kernel
theorem dX6_note_6 : decode cX6_note 6 = .ok (.if_icmp .ne 43, 3) := by decide +kernel
theorem dX6_note_9 : decode cX6_note 9 = .ok (.iconst 0, 1) := by decide +kernel
theorem dX6_note_10 : decode cX6_note 10 = .ok (.istore_n 1, 1) := by decide +kernel
theorem dX6_note_11 : decode cX6_note 11 = .ok (.iload_n 1, 1) := by decide +kernel
theorem dX6_note_12 : decode cX6_note 12 = .ok (.sipush 185, 3) := by decide +kernel
theorem dX6_note_15 : decode cX6_note 15 = .ok (.if_icmp .ge 24, 3) := by decide +kernel
theorem dX6_note_18 : decode cX6_note 18 = .ok (.aload_n 0, 1) := by decide +kernel
theorem dX6_note_19 : decode cX6_note 19 = .ok (.getfield 19, 3) := by decide +kernel
theorem dX6_note_22 : decode cX6_note 22 = .ok (.iload_n 1, 1) := by decide +kernel
theorem dX6_note_23 : decode cX6_note 23 = .ok (.aload_n 0, 1) := by decide +kernel
theorem dX6_note_24 : decode cX6_note 24 = .ok (.getfield 19, 3) := by decide +kernel
theorem dX6_note_27 : decode cX6_note 27 = .ok (.bipush 37, 2) := by decide +kernel
theorem dX6_note_29 : decode cX6_note 29 = .ok (.iload_n 1, 1) := by decide +kernel
theorem dX6_note_30 : decode cX6_note 30 = .ok (.iadd, 1) := by decide +kernel
theorem dX6_note_31 : decode cX6_note 31 = .ok (.iaload, 1) := by decide +kernel
theorem dX6_note_32 : decode cX6_note 32 = .ok (.iastore, 1) := by decide +kernel
theorem dX6_note_33 : decode cX6_note 33 = .ok (.iinc 1 1, 3) := by decide +kernel
theorem dX6_note_36 : decode cX6_note 36 = .ok (.goto (-25), 3) := by decide +kernel
theorem dX6_note_39 : decode cX6_note 39 = .ok (.aload_n 0, 1) := by decide +kernel
theorem dX6_note_40 : decode cX6_note 40 = .ok (.dup, 1) := by decide +kernel
theorem dX6_note_41 : decode cX6_note 41 = .ok (.getfield 80, 3) := by decide +kernel
theorem dX6_note_44 : decode cX6_note 44 = .ok (.iconst 1, 1) := by decide +kernel
theorem dX6_note_45 : decode cX6_note 45 = .ok (.isub, 1) := by decide +kernel
theorem dX6_note_46 : decode cX6_note 46 = .ok (.putfield 80, 3) := by decide +kernel
theorem dX6_note_49 : decode cX6_note 49 = .ok (.aload_n 0, 1) := by decide +kernel
theorem dX6_note_50 : decode cX6_note 50 = .ok (.getfield 19, 3) := by decide +kernel
theorem dX6_note_53 : decode cX6_note 53 = .ok (.bipush 37, 2) := by decide +kernel
theorem dX6_note_55 : decode cX6_note 55 = .ok (.aload_n 0, 1) := by decide +kernel
theorem dX6_note_56 : decode cX6_note 56 = .ok (.getfield 80, 3) := by decide +kernel
theorem dX6_note_59 : decode cX6_note 59 = .ok (.imul, 1) := by decide +kernel
theorem dX6_note_60 : decode cX6_note 60 = .ok (.aload_n 0, 1) := by decide +kernel
theorem dX6_note_61 : decode cX6_note 61 = .ok (.getfield 54, 3) := by decide +kernel
theorem dX6_note_64 : decode cX6_note 64 = .ok (.iastore, 1) := by decide +kernel
theorem dX6_note_65 : decode cX6_note 65 = .ok (.iconst 0, 1) := by decide +kernel
theorem dX6_note_66 : decode cX6_note 66 = .ok (.istore_n 1, 1) := by decide +kernel
theorem dX6_note_67 : decode cX6_note 67 = .ok (.iload_n 1, 1) := by decide +kernel
theorem dX6_note_68 : decode cX6_note 68 = .ok (.bipush 36, 2) := by decide +kernel
theorem dX6_note_70 : decode cX6_note 70 = .ok (.if_icmp .ge 31, 3) := by decide +kernel
theorem dX6_note_73 : decode cX6_note 73 = .ok (.aload_n 0, 1) := by decide +kernel
theorem dX6_note_74 : decode cX6_note 74 = .ok (.getfield 19, 3) := by decide +kernel
theorem dX6_note_77 : decode cX6_note 77 = .ok (.bipush 37, 2) := by decide +kernel
theorem dX6_note_79 : decode cX6_note 79 = .ok (.aload_n 0, 1) := by decide +kernel
theorem dX6_note_80 : decode cX6_note 80 = .ok (.getfield 80, 3) := by decide +kernel
theorem dX6_note_83 : decode cX6_note 83 = .ok (.imul, 1) := by decide +kernel
theorem dX6_note_84 : decode cX6_note 84 = .ok (.iconst 1, 1) := by decide +kernel
theorem dX6_note_85 : decode cX6_note 85 = .ok (.iadd, 1) := by decide +kernel
theorem dX6_note_86 : decode cX6_note 86 = .ok (.iload_n 1, 1) := by decide +kernel
theorem dX6_note_87 : decode cX6_note 87 = .ok (.iadd, 1) := by decide +kernel
theorem dX6_note_88 : decode cX6_note 88 = .ok (.aload_n 0, 1) := by decide +kernel
theorem dX6_note_89 : decode cX6_note 89 = .ok (.getfield 13, 3) := by decide +kernel
theorem dX6_note_92 : decode cX6_note 92 = .ok (.iload_n 1, 1) := by decide +kernel
theorem dX6_note_93 : decode cX6_note 93 = .ok (.iaload, 1) := by decide +kernel
theorem dX6_note_94 : decode cX6_note 94 = .ok (.iastore, 1) := by decide +kernel
theorem dX6_note_95 : decode cX6_note 95 = .ok (.iinc 1 1, 3) := by decide +kernel
theorem dX6_note_98 : decode cX6_note 98 = .ok (.goto (-31), 3) := by decide +kernel
theorem dX6_note_101 : decode cX6_note 101 = .ok (.aload_n 0, 1) := by decide +kernel
theorem dX6_note_102 : decode cX6_note 102 = .ok (.dup, 1) := by decide +kernel
theorem dX6_note_103 : decode cX6_note 103 = .ok (.getfield 80, 3) := by decide +kernel
theorem dX6_note_106 : decode cX6_note 106 = .ok (.iconst 1, 1) := by decide +kernel
theorem dX6_note_107 : decode cX6_note 107 = .ok (.iadd, 1) := by decide +kernel
theorem dX6_note_108 : decode cX6_note 108 = .ok (.putfield 80, 3) := by decide +kernel
theorem dX6_note_111 : decode cX6_note 111 = .ok (.return_, 1) := by decide +kernel
theorem dX6_undo_0 : decode cX6_undo 0 = .ok (.aload_n 0, 1) := by decide +kernel
theorem dX6_undo_1 : decode cX6_undo 1 = .ok (.getfield 80, 3) := by decide +kernel
theorem dX6_undo_4 : decode cX6_undo 4 = .ok (.ifCond .ne 6, 3) := by decide +kernel
theorem dX6_undo_7 : decode cX6_undo 7 = .ok (.bipush (-2), 2) := by decide +kernel
theorem dX6_undo_9 : decode cX6_undo 9 = .ok (.ireturn, 1) := by decide +kernel
theorem dX6_undo_10 : decode cX6_undo 10 = .ok (.aload_n 0, 1) := by decide +kernel
theorem dX6_undo_11 : decode cX6_undo 11 = .ok (.dup, 1) := by decide +kernel
theorem dX6_undo_12 : decode cX6_undo 12 = .ok (.getfield 80, 3) := by decide +kernel
theorem dX6_undo_15 : decode cX6_undo 15 = .ok (.iconst 1, 1) := by decide +kernel
theorem dX6_undo_16 : decode cX6_undo 16 = .ok (.isub, 1) := by decide +kernel
theorem dX6_undo_17 : decode cX6_undo 17 = .ok (.putfield 80, 3) := by decide +kernel
theorem dX6_undo_20 : decode cX6_undo 20 = .ok (.aload_n 0, 1) := by decide +kernel
theorem dX6_undo_21 : decode cX6_undo 21 = .ok (.aload_n 0, 1) := by decide +kernel
theorem dX6_undo_22 : decode cX6_undo 22 = .ok (.getfield 19, 3) := by decide +kernel
theorem dX6_undo_25 : decode cX6_undo 25 = .ok (.bipush 37, 2) := by decide +kernel
theorem dX6_undo_27 : decode cX6_undo 27 = .ok (.aload_n 0, 1) := by decide +kernel
theorem dX6_undo_28 : decode cX6_undo 28 = .ok (.getfield 80, 3) := by decide +kernel
theorem dX6_undo_31 : decode cX6_undo 31 = .ok (.imul, 1) := by decide +kernel
theorem dX6_undo_32 : decode cX6_undo 32 = .ok (.iaload, 1) := by decide +kernel
theorem dX6_undo_33 : decode cX6_undo 33 = .ok (.putfield 54, 3) := by decide +kernel
theorem dX6_undo_36 : decode cX6_undo 36 = .ok (.iconst 0, 1) := by decide +kernel
theorem dX6_undo_37 : decode cX6_undo 37 = .ok (.istore_n 1, 1) := by decide +kernel
theorem dX6_undo_38 : decode cX6_undo 38 = .ok (.iload_n 1, 1) := by decide +kernel
theorem dX6_undo_39 : decode cX6_undo 39 = .ok (.bipush 36, 2) := by decide +kernel
theorem dX6_undo_41 : decode cX6_undo 41 = .ok (.if_icmp .ge 31, 3) := by decide +kernel
theorem dX6_undo_44 : decode cX6_undo 44 = .ok (.aload_n 0, 1) := by decide +kernel
theorem dX6_undo_45 : decode cX6_undo 45 = .ok (.getfield 13, 3) := by decide +kernel
theorem dX6_undo_48 : decode cX6_undo 48 = .ok (.iload_n 1, 1) := by decide +kernel
theorem dX6_undo_49 : decode cX6_undo 49 = .ok (.aload_n 0, 1) := by decide +kernel
theorem dX6_undo_50 : decode cX6_undo 50 = .ok (.getfield 19, 3) := by decide +kernel
theorem dX6_undo_53 : decode cX6_undo 53 = .ok (.bipush 37, 2) := by decide +kernel
theorem dX6_undo_55 : decode cX6_undo 55 = .ok (.aload_n 0, 1) := by decide +kernel
theorem dX6_undo_56 : decode cX6_undo 56 = .ok (.getfield 80, 3) := by decide +kernel
theorem dX6_undo_59 : decode cX6_undo 59 = .ok (.imul, 1) := by decide +kernel
theorem dX6_undo_60 : decode cX6_undo 60 = .ok (.iconst 1, 1) := by decide +kernel
theorem dX6_undo_61 : decode cX6_undo 61 = .ok (.iadd, 1) := by decide +kernel
theorem dX6_undo_62 : decode cX6_undo 62 = .ok (.iload_n 1, 1) := by decide +kernel
theorem dX6_undo_63 : decode cX6_undo 63 = .ok (.iadd, 1) := by decide +kernel
theorem dX6_undo_64 : decode cX6_undo 64 = .ok (.iaload, 1) := by decide +kernel
theorem dX6_undo_65 : decode cX6_undo 65 = .ok (.iastore, 1) := by decide +kernel
theorem dX6_undo_66 : decode cX6_undo 66 = .ok (.iinc 1 1, 3) := by decide +kernel
theorem dX6_undo_69 : decode cX6_undo 69 = .ok (.goto (-31), 3) := by decide +kernel
theorem dX6_undo_72 : decode cX6_undo 72 = .ok (.aload_n 0, 1) := by decide +kernel
theorem dX6_undo_73 : decode cX6_undo 73 = .ok (.getfield 80, 3) := by decide +kernel
theorem dX6_undo_76 : decode cX6_undo 76 = .ok (.ireturn, 1) := by decide +kernel
set_option maxRecDepth 20000 in
theorem ggX6_keep_X6_copy : GoodIn wsX6_keep wsX6_copy := goodIn_r _ [8] (by decide +kernel) (by decide +kernel)
set_option maxRecDepth 20000 in
theorem gX6_keep_X6_copy : GoodIn wsX6_keep (va_wsS RX6 76 yX6_copy wsX6_copy) := goodIn_app (goodIn_of _ (by decide +kernel)) ggX6_keep_X6_copy
theorem dX6_keep_0 : decode cX6_keep 0 = .ok (.aload_n 0, 1) := by decide +kernel
theorem dX6_keep_1 : decode cX6_keep 1 = .ok (.aload_n 0, 1) := by decide +kernel
theorem dX6_keep_2 : decode cX6_keep 2 = .ok (.getfield 54, 3) := by decide +kernel
theorem dX6_keep_5 : decode cX6_keep 5 = .ok (.putfield 83, 3) := by decide +kernel
theorem dX6_keep_8 : decode cX6_keep 8 = .ok (.aload_n 0, 1) := by decide +kernel
theorem dX6_keep_9 : decode cX6_keep 9 = .ok (.getfield 13, 3) := by decide +kernel
theorem dX6_keep_12 : decode cX6_keep 12 = .ok (.aload_n 0, 1) := by decide +kernel
theorem dX6_keep_13 : decode cX6_keep 13 = .ok (.getfield 16, 3) := by decide +kernel
theorem dX6_keep_16 : decode cX6_keep 16 = .ok (.invokestatic 76, 3) := by decide +kernel
theorem dX6_keep_19 : decode cX6_keep 19 = .ok (.aload_n 0, 1) := by decide +kernel
theorem dX6_keep_20 : decode cX6_keep 20 = .ok (.getfield 54, 3) := by decide +kernel
theorem dX6_keep_23 : decode cX6_keep 23 = .ok (.ireturn, 1) := by decide +kernel
set_option maxRecDepth 20000 in
theorem ggX6_sign_X6_in : GoodIn wsX6_sign wsX6_in := goodIn_r _ [6] (by decide +kernel) (by decide +kernel)
set_option maxRecDepth 20000 in
theorem gX6_sign_X6_in : GoodIn wsX6_sign (va_wsS RX6 62 yX6_in wsX6_in) := goodIn_app (goodIn_of _ (by decide +kernel)) ggX6_sign_X6_in
theorem dX6_sign_0 : decode cX6_sign 0 = .ok (.iload_n 1, 1) := by decide +kernel
theorem dX6_sign_1 : decode cX6_sign 1 = .ok (.i2l, 1) := by decide +kernel
theorem dX6_sign_2 : decode cX6_sign 2 = .ok (.lconst 0, 1) := by decide +kernel
theorem dX6_sign_3 : decode cX6_sign 3 = .ok (.aload_n 0, 1) := by decide +kernel
theorem dX6_sign_4 : decode cX6_sign 4 = .ok (.getfield 54, 3) := by decide +kernel
theorem dX6_sign_7 : decode cX6_sign 7 = .ok (.iconst 1, 1) := by decide +kernel
theorem dX6_sign_8 : decode cX6_sign 8 = .ok (.isub, 1) := by decide +kernel
theorem dX6_sign_9 : decode cX6_sign 9 = .ok (.i2l, 1) := by decide +kernel
theorem dX6_sign_10 : decode cX6_sign 10 = .ok (.invokestatic 62, 3) := by decide +kernel
theorem dX6_sign_13 : decode cX6_sign 13 = .ok (.ifCond .eq 36, 3) := by decide +kernel
theorem dX6_sign_16 : decode cX6_sign 16 = .ok (.iload_n 2, 1) := by decide +kernel
theorem dX6_sign_17 : decode cX6_sign 17 = .ok (.i2l, 1) := by decide +kernel
theorem dX6_sign_18 : decode cX6_sign 18 = .ok (.lconst 0, 1) := by decide +kernel
theorem dX6_sign_19 : decode cX6_sign 19 = .ok (.aload_n 0, 1) := by decide +kernel
theorem dX6_sign_20 : decode cX6_sign 20 = .ok (.getfield 54, 3) := by decide +kernel
theorem dX6_sign_23 : decode cX6_sign 23 = .ok (.iconst 1, 1) := by decide +kernel
theorem dX6_sign_24 : decode cX6_sign 24 = .ok (.isub, 1) := by decide +kernel
theorem dX6_sign_25 : decode cX6_sign 25 = .ok (.i2l, 1) := by decide +kernel
theorem dX6_sign_26 : decode cX6_sign 26 = .ok (.invokestatic 62, 3) := by decide +kernel
theorem dX6_sign_29 : decode cX6_sign 29 = .ok (.ifCond .eq 20, 3) := by decide +kernel
theorem dX6_sign_32 : decode cX6_sign 32 = .ok (.aload_n 0, 1) := by decide +kernel
theorem dX6_sign_33 : decode cX6_sign 33 = .ok (.getfield 13, 3) := by decide +kernel
theorem dX6_sign_36 : decode cX6_sign 36 = .ok (.bipush 6, 2) := by decide +kernel
theorem dX6_sign_38 : decode cX6_sign 38 = .ok (.iload_n 1, 1) := by decide +kernel
theorem dX6_sign_39 : decode cX6_sign 39 = .ok (.imul, 1) := by decide +kernel
theorem dX6_sign_40 : decode cX6_sign 40 = .ok (.iload_n 2, 1) := by decide +kernel
theorem dX6_sign_41 : decode cX6_sign 41 = .ok (.iadd, 1) := by decide +kernel
theorem dX6_sign_42 : decode cX6_sign 42 = .ok (.iaload, 1) := by decide +kernel
theorem dX6_sign_43 : decode cX6_sign 43 = .ok (.bipush 100, 2) := by decide +kernel
theorem dX6_sign_45 : decode cX6_sign 45 = .ok (.iadd, 1) := by decide +kernel
theorem dX6_sign_46 : decode cX6_sign 46 = .ok (.goto 4, 3) := by decide +kernel
theorem dX6_sign_49 : decode cX6_sign 49 = .ok (.iconst (-1), 1) := by decide +kernel
theorem dX6_sign_50 : decode cX6_sign 50 = .ok (.ireturn, 1) := by decide +kernel
theorem dX6_cornerOf_0 : decode cX6_cornerOf 0 = .ok (.iconst 0, 1) := by decide +kernel
theorem dX6_cornerOf_1 : decode cX6_cornerOf 1 = .ok (.istore_n 3, 1) := by decide +kernel
theorem dX6_cornerOf_2 : decode cX6_cornerOf 2 = .ok (.iconst 0, 1) := by decide +kernel
theorem dX6_cornerOf_3 : decode cX6_cornerOf 3 = .ok (.istore 4, 2) := by decide +kernel
theorem dX6_cornerOf_5 : decode cX6_cornerOf 5 = .ok (.iload 4, 2) := by decide +kernel
theorem dX6_cornerOf_7 : decode cX6_cornerOf 7 = .ok (.iload_n 1, 1) := by decide +kernel
theorem dX6_cornerOf_8 : decode cX6_cornerOf 8 = .ok (.if_icmp .ge 37, 3) := by decide +kernel
theorem dX6_cornerOf_11 : decode cX6_cornerOf 11 = .ok (.iconst 0, 1) := by decide +kernel
theorem dX6_cornerOf_12 : decode cX6_cornerOf 12 = .ok (.istore 5, 2) := by decide +kernel
theorem dX6_cornerOf_14 : decode cX6_cornerOf 14 = .ok (.iload 5, 2) := by decide +kernel
theorem dX6_cornerOf_16 : decode cX6_cornerOf 16 = .ok (.iload_n 2, 1) := by decide +kernel
theorem dX6_cornerOf_17 : decode cX6_cornerOf 17 = .ok (.if_icmp .ge 22, 3) := by decide +kernel
theorem dX6_cornerOf_20 : decode cX6_cornerOf 20 = .ok (.iload_n 3, 1) := by decide +kernel
theorem dX6_cornerOf_21 : decode cX6_cornerOf 21 = .ok (.aload_n 0, 1) := by decide +kernel
theorem dX6_cornerOf_22 : decode cX6_cornerOf 22 = .ok (.bipush 6, 2) := by decide +kernel
theorem dX6_cornerOf_24 : decode cX6_cornerOf 24 = .ok (.iload 4, 2) := by decide +kernel
theorem dX6_cornerOf_26 : decode cX6_cornerOf 26 = .ok (.imul, 1) := by decide +kernel
theorem dX6_cornerOf_27 : decode cX6_cornerOf 27 = .ok (.iload 5, 2) := by decide +kernel
theorem dX6_cornerOf_29 : decode cX6_cornerOf 29 = .ok (.iadd, 1) := by decide +kernel
theorem dX6_cornerOf_30 : decode cX6_cornerOf 30 = .ok (.iaload, 1) := by decide +kernel
theorem dX6_cornerOf_31 : decode cX6_cornerOf 31 = .ok (.iadd, 1) := by decide +kernel
theorem dX6_cornerOf_32 : decode cX6_cornerOf 32 = .ok (.istore_n 3, 1) := by decide +kernel
theorem dX6_cornerOf_33 : decode cX6_cornerOf 33 = .ok (.iinc 5 1, 3) := by decide +kernel
theorem dX6_cornerOf_36 : decode cX6_cornerOf 36 = .ok (.goto (-22), 3) := by decide +kernel
theorem dX6_cornerOf_39 : decode cX6_cornerOf 39 = .ok (.iinc 4 1, 3) := by decide +kernel
theorem dX6_cornerOf_42 : decode cX6_cornerOf 42 = .ok (.goto (-37), 3) := by decide +kernel
theorem dX6_cornerOf_45 : decode cX6_cornerOf 45 = .ok (.iload_n 3, 1) := by decide +kernel
theorem dX6_cornerOf_46 : decode cX6_cornerOf 46 = .ok (.ireturn, 1) := by decide +kernel
set_option maxRecDepth 20000 in
theorem ggX6_heightOf_X6_cornerOf : GoodIn wsX6_heightOf wsX6_cornerOf := goodIn_r _ [4] (by decide +kernel) (by decide +kernel)
set_option maxRecDepth 20000 in
theorem gX6_heightOf_X6_cornerOf : GoodIn wsX6_heightOf (va_wsS RX6 86 yX6_cornerOf wsX6_cornerOf) := goodIn_app (goodIn_of _ (by decide +kernel)) ggX6_heightOf_X6_cornerOf
theorem dX6_heightOf_0 : decode cX6_heightOf 0 = .ok (.iload_n 1, 1) := by decide +kernel
theorem dX6_heightOf_1 : decode cX6_heightOf 1 = .ok (.iload_n 2, 1) := by decide +kernel
theorem dX6_heightOf_2 : decode cX6_heightOf 2 = .ok (.iadd, 1) := by decide +kernel
theorem dX6_heightOf_3 : decode cX6_heightOf 3 = .ok (.iconst 2, 1) := by decide +kernel
theorem dX6_heightOf_4 : decode cX6_heightOf 4 = .ok (.aload_n 0, 1) := by decide +kernel
theorem dX6_heightOf_5 : decode cX6_heightOf 5 = .ok (.iload_n 1, 1) := by decide +kernel
theorem dX6_heightOf_6 : decode cX6_heightOf 6 = .ok (.iload_n 2, 1) := by decide +kernel
theorem dX6_heightOf_7 : decode cX6_heightOf 7 = .ok (.invokestatic 86, 3) := by decide +kernel
theorem dX6_heightOf_10 : decode cX6_heightOf 10 = .ok (.imul, 1) := by decide +kernel
theorem dX6_heightOf_11 : decode cX6_heightOf 11 = .ok (.isub, 1) := by decide +kernel
theorem dX6_heightOf_12 : decode cX6_heightOf 12 = .ok (.ireturn, 1) := by decide +kernel
set_option maxRecDepth 20000 in
theorem ggX6_isCorner_X6_in : GoodIn wsX6_isCorner wsX6_in := goodIn_r _ [5] (by decide +kernel) (by decide +kernel)
set_option maxRecDepth 20000 in
theorem gX6_isCorner_X6_in : GoodIn wsX6_isCorner (va_wsS RX6 62 yX6_in wsX6_in) := goodIn_app (goodIn_of _ (by decide +kernel)) ggX6_isCorner_X6_in
theorem dX6_isCorner_0 : decode cX6_isCorner 0 = .ok (.iload_n 1, 1) := by decide +kernel
theorem dX6_isCorner_1 : decode cX6_isCorner 1 = .ok (.i2l, 1) := by decide +kernel
theorem dX6_isCorner_2 : decode cX6_isCorner 2 = .ok (.lconst 0, 1) := by decide +kernel
theorem dX6_isCorner_3 : decode cX6_isCorner 3 = .ok (.aload_n 0, 1) := by decide +kernel
theorem dX6_isCorner_4 : decode cX6_isCorner 4 = .ok (.getfield 54, 3) := by decide +kernel
theorem dX6_isCorner_7 : decode cX6_isCorner 7 = .ok (.i2l, 1) := by decide +kernel
theorem dX6_isCorner_8 : decode cX6_isCorner 8 = .ok (.invokestatic 62, 3) := by decide +kernel
theorem dX6_isCorner_11 : decode cX6_isCorner 11 = .ok (.ifCond .eq 21, 3) := by decide +kernel
theorem dX6_isCorner_14 : decode cX6_isCorner 14 = .ok (.iload_n 2, 1) := by decide +kernel
theorem dX6_isCorner_15 : decode cX6_isCorner 15 = .ok (.i2l, 1) := by decide +kernel
theorem dX6_isCorner_16 : decode cX6_isCorner 16 = .ok (.lconst 0, 1) := by decide +kernel
theorem dX6_isCorner_17 : decode cX6_isCorner 17 = .ok (.aload_n 0, 1) := by decide +kernel
theorem dX6_isCorner_18 : decode cX6_isCorner 18 = .ok (.getfield 54, 3) := by decide +kernel
theorem dX6_isCorner_21 : decode cX6_isCorner 21 = .ok (.i2l, 1) := by decide +kernel
theorem dX6_isCorner_22 : decode cX6_isCorner 22 = .ok (.invokestatic 62, 3) := by decide +kernel
theorem dX6_isCorner_25 : decode cX6_isCorner 25 = .ok (.ifCond .eq 7, 3) := by decide +kernel
theorem dX6_isCorner_28 : decode cX6_isCorner 28 = .ok (.iconst 1, 1) := by decide +kernel
theorem dX6_isCorner_29 : decode cX6_isCorner 29 = .ok (.goto 4, 3) := by decide +kernel
theorem dX6_isCorner_32 : decode cX6_isCorner 32 = .ok (.iconst 0, 1) := by decide +kernel
theorem dX6_isCorner_33 : decode cX6_isCorner 33 = .ok (.ireturn, 1) := by decide +kernel
set_option maxRecDepth 20000 in
theorem ggX6_corner_X6_isCorner : GoodIn wsX6_corner wsX6_isCorner := goodIn_r _ [6, 7, 8, 9, 5, 10, 14, 15, 16, 17, 18, 19, 20, 21, 22, 23, 24, 25, 26, 27, 28, 29, 30, 31, 32, 33, 34, 35, 36] (by decide +kernel) (by decide +kernel)
set_option maxRecDepth 20000 in
theorem gX6_corner_X6_isCorner : GoodIn wsX6_corner (wsV RX6 90 RX6 yX6_isCorner wsX6_isCorner) := goodIn_app (goodIn_of _ (by decide +kernel)) ggX6_corner_X6_isCorner
set_option maxRecDepth 20000 in
theorem ggX6_corner_X6_cornerOf : GoodIn wsX6_corner wsX6_cornerOf := goodIn_r _ [13] (by decide +kernel) (by decide +kernel)
set_option maxRecDepth 20000 in
theorem gX6_corner_X6_cornerOf : GoodIn wsX6_corner (va_wsS RX6 86 yX6_cornerOf wsX6_cornerOf) := goodIn_app (goodIn_of _ (by decide +kernel)) ggX6_corner_X6_cornerOf
theorem dX6_corner_0 : decode cX6_corner 0 = .ok (.aload_n 0, 1) := by decide +kernel
theorem dX6_corner_1 : decode cX6_corner 1 = .ok (.iload_n 1, 1) := by decide +kernel
theorem dX6_corner_2 : decode cX6_corner 2 = .ok (.iload_n 2, 1) := by decide +kernel
theorem dX6_corner_3 : decode cX6_corner 3 = .ok (.invokevirtual 90, 3) := by decide +kernel
theorem dX6_corner_6 : decode cX6_corner 6 = .ok (.ifCond .eq 15, 3) := by decide +kernel
theorem dX6_corner_9 : decode cX6_corner 9 = .ok (.aload_n 0, 1) := by decide +kernel
theorem dX6_corner_10 : decode cX6_corner 10 = .ok (.getfield 13, 3) := by decide +kernel
theorem dX6_corner_13 : decode cX6_corner 13 = .ok (.iload_n 1, 1) := by decide +kernel
theorem dX6_corner_14 : decode cX6_corner 14 = .ok (.iload_n 2, 1) := by decide +kernel
theorem dX6_corner_15 : decode cX6_corner 15 = .ok (.invokestatic 86, 3) := by decide +kernel
theorem dX6_corner_18 : decode cX6_corner 18 = .ok (.goto 4, 3) := by decide +kernel
theorem dX6_corner_21 : decode cX6_corner 21 = .ok (.iconst (-1), 1) := by decide +kernel
theorem dX6_corner_22 : decode cX6_corner 22 = .ok (.ireturn, 1) := by decide +kernel
set_option maxRecDepth 20000 in
theorem ggX6_height_X6_isCorner : GoodIn wsX6_height wsX6_isCorner := goodIn_r _ [6, 7, 8, 9, 5, 10, 17, 18, 19, 20, 21, 22, 23, 24, 25, 26, 27, 28, 29, 30, 31, 32, 33, 34, 35, 36, 37, 38, 39] (by decide +kernel) (by decide +kernel)
set_option maxRecDepth 20000 in
theorem gX6_height_X6_isCorner : GoodIn wsX6_height (wsV RX6 90 RX6 yX6_isCorner wsX6_isCorner) := goodIn_app (goodIn_of _ (by decide +kernel)) ggX6_height_X6_isCorner
set_option maxRecDepth 20000 in
theorem ggX6_height_X6_heightOf : GoodIn wsX6_height wsX6_heightOf := goodIn_r _ [13, 14, 15, 5, 16] (by decide +kernel) (by decide +kernel)
set_option maxRecDepth 20000 in
theorem gX6_height_X6_heightOf : GoodIn wsX6_height (va_wsS RX6 94 yX6_heightOf wsX6_heightOf) := goodIn_app (goodIn_of _ (by decide +kernel)) ggX6_height_X6_heightOf
theorem dX6_height_0 : decode cX6_height 0 = .ok (.aload_n 0, 1) := by decide +kernel
theorem dX6_height_1 : decode cX6_height 1 = .ok (.iload_n 1, 1) := by decide +kernel
theorem dX6_height_2 : decode cX6_height 2 = .ok (.iload_n 2, 1) := by decide +kernel
theorem dX6_height_3 : decode cX6_height 3 = .ok (.invokevirtual 90, 3) := by decide +kernel
theorem dX6_height_6 : decode cX6_height 6 = .ok (.ifCond .eq 15, 3) := by decide +kernel
theorem dX6_height_9 : decode cX6_height 9 = .ok (.aload_n 0, 1) := by decide +kernel
theorem dX6_height_10 : decode cX6_height 10 = .ok (.getfield 13, 3) := by decide +kernel
theorem dX6_height_13 : decode cX6_height 13 = .ok (.iload_n 1, 1) := by decide +kernel
theorem dX6_height_14 : decode cX6_height 14 = .ok (.iload_n 2, 1) := by decide +kernel
theorem dX6_height_15 : decode cX6_height 15 = .ok (.invokestatic 94, 3) := by decide +kernel
theorem dX6_height_18 : decode cX6_height 18 = .ok (.goto 4, 3) := by decide +kernel
theorem dX6_height_21 : decode cX6_height 21 = .ok (.iconst (-1), 1) := by decide +kernel
theorem dX6_height_22 : decode cX6_height 22 = .ok (.ireturn, 1) := by decide +kernel
set_option maxRecDepth 20000 in
theorem ggX6_mayBe_X6_heightOf : GoodIn wsX6_mayBe wsX6_heightOf := goodIn_r _ [4, 5, 6, 3, 7] (by decide +kernel) (by decide +kernel)
set_option maxRecDepth 20000 in
theorem gX6_mayBe_X6_heightOf : GoodIn wsX6_mayBe (va_wsS RX6 94 yX6_heightOf wsX6_heightOf) := goodIn_app (goodIn_of _ (by decide +kernel)) ggX6_mayBe_X6_heightOf
theorem dX6_mayBe_0 : decode cX6_mayBe 0 = .ok (.aload_n 0, 1) := by decide +kernel
theorem dX6_mayBe_1 : decode cX6_mayBe 1 = .ok (.iload_n 1, 1) := by decide +kernel
theorem dX6_mayBe_2 : decode cX6_mayBe 2 = .ok (.iload_n 2, 1) := by decide +kernel
theorem dX6_mayBe_3 : decode cX6_mayBe 3 = .ok (.invokestatic 94, 3) := by decide +kernel
theorem dX6_mayBe_6 : decode cX6_mayBe 6 = .ok (.istore_n 3, 1) := by decide +kernel
theorem dX6_mayBe_7 : decode cX6_mayBe 7 = .ok (.aload_n 0, 1) := by decide +kernel
theorem dX6_mayBe_8 : decode cX6_mayBe 8 = .ok (.iload_n 1, 1) := by decide +kernel
theorem dX6_mayBe_9 : decode cX6_mayBe 9 = .ok (.iconst 1, 1) := by decide +kernel
theorem dX6_mayBe_10 : decode cX6_mayBe 10 = .ok (.isub, 1) := by decide +kernel
theorem dX6_mayBe_11 : decode cX6_mayBe 11 = .ok (.iload_n 2, 1) := by decide +kernel
theorem dX6_mayBe_12 : decode cX6_mayBe 12 = .ok (.invokestatic 94, 3) := by decide +kernel
theorem dX6_mayBe_15 : decode cX6_mayBe 15 = .ok (.istore 4, 2) := by decide +kernel
theorem dX6_mayBe_17 : decode cX6_mayBe 17 = .ok (.iload 4, 2) := by decide +kernel
theorem dX6_mayBe_19 : decode cX6_mayBe 19 = .ok (.aload_n 0, 1) := by decide +kernel
theorem dX6_mayBe_20 : decode cX6_mayBe 20 = .ok (.iload_n 1, 1) := by decide +kernel
theorem dX6_mayBe_21 : decode cX6_mayBe 21 = .ok (.iconst 1, 1) := by decide +kernel
theorem dX6_mayBe_22 : decode cX6_mayBe 22 = .ok (.iadd, 1) := by decide +kernel
theorem dX6_mayBe_23 : decode cX6_mayBe 23 = .ok (.iload_n 2, 1) := by decide +kernel
theorem dX6_mayBe_24 : decode cX6_mayBe 24 = .ok (.invokestatic 94, 3) := by decide +kernel
theorem dX6_mayBe_27 : decode cX6_mayBe 27 = .ok (.if_icmp .ne 33, 3) := by decide +kernel
theorem dX6_mayBe_30 : decode cX6_mayBe 30 = .ok (.iload 4, 2) := by decide +kernel
theorem dX6_mayBe_32 : decode cX6_mayBe 32 = .ok (.aload_n 0, 1) := by decide +kernel
theorem dX6_mayBe_33 : decode cX6_mayBe 33 = .ok (.iload_n 1, 1) := by decide +kernel
theorem dX6_mayBe_34 : decode cX6_mayBe 34 = .ok (.iload_n 2, 1) := by decide +kernel
theorem dX6_mayBe_35 : decode cX6_mayBe 35 = .ok (.iconst 1, 1) := by decide +kernel
theorem dX6_mayBe_36 : decode cX6_mayBe 36 = .ok (.isub, 1) := by decide +kernel
theorem dX6_mayBe_37 : decode cX6_mayBe 37 = .ok (.invokestatic 94, 3) := by decide +kernel
theorem dX6_mayBe_40 : decode cX6_mayBe 40 = .ok (.if_icmp .ne 20, 3) := by decide +kernel
theorem dX6_mayBe_43 : decode cX6_mayBe 43 = .ok (.iload 4, 2) := by decide +kernel
theorem dX6_mayBe_45 : decode cX6_mayBe 45 = .ok (.aload_n 0, 1) := by decide +kernel
theorem dX6_mayBe_46 : decode cX6_mayBe 46 = .ok (.iload_n 1, 1) := by decide +kernel
theorem dX6_mayBe_47 : decode cX6_mayBe 47 = .ok (.iload_n 2, 1) := by decide +kernel
theorem dX6_mayBe_48 : decode cX6_mayBe 48 = .ok (.iconst 1, 1) := by decide +kernel
theorem dX6_mayBe_49 : decode cX6_mayBe 49 = .ok (.iadd, 1) := by decide +kernel
theorem dX6_mayBe_50 : decode cX6_mayBe 50 = .ok (.invokestatic 94, 3) := by decide +kernel
theorem dX6_mayBe_53 : decode cX6_mayBe 53 = .ok (.if_icmp .ne 7, 3) := by decide +kernel
theorem dX6_mayBe_56 : decode cX6_mayBe 56 = .ok (.iconst 1, 1) := by decide +kernel
theorem dX6_mayBe_57 : decode cX6_mayBe 57 = .ok (.goto 4, 3) := by decide +kernel
theorem dX6_mayBe_60 : decode cX6_mayBe 60 = .ok (.iconst 0, 1) := by decide +kernel
theorem dX6_mayBe_61 : decode cX6_mayBe 61 = .ok (.istore 5, 2) := by decide +kernel
theorem dX6_mayBe_63 : decode cX6_mayBe 63 = .ok (.iload 5, 2) := by decide +kernel
theorem dX6_mayBe_65 : decode cX6_mayBe 65 = .ok (.ifCond .ne 7, 3) := by decide +kernel
theorem dX6_mayBe_68 : decode cX6_mayBe 68 = .ok (.iconst 0, 1) := by decide +kernel
theorem dX6_mayBe_69 : decode cX6_mayBe 69 = .ok (.goto 14, 3) := by decide +kernel
theorem dX6_mayBe_72 : decode cX6_mayBe 72 = .ok (.iload_n 3, 1) := by decide +kernel
theorem dX6_mayBe_73 : decode cX6_mayBe 73 = .ok (.iload 4, 2) := by decide +kernel
theorem dX6_mayBe_75 : decode cX6_mayBe 75 = .ok (.if_icmp .ge 7, 3) := by decide +kernel
theorem dX6_mayBe_78 : decode cX6_mayBe 78 = .ok (.iconst 1, 1) := by decide +kernel
theorem dX6_mayBe_79 : decode cX6_mayBe 79 = .ok (.goto 4, 3) := by decide +kernel
theorem dX6_mayBe_82 : decode cX6_mayBe 82 = .ok (.iconst 2, 1) := by decide +kernel
theorem dX6_mayBe_83 : decode cX6_mayBe 83 = .ok (.ireturn, 1) := by decide +kernel
set_option maxRecDepth 20000 in
theorem ggX6_isInner_X6_in : GoodIn wsX6_isInner wsX6_in := goodIn_r _ [5] (by decide +kernel) (by decide +kernel)
set_option maxRecDepth 20000 in
theorem gX6_isInner_X6_in : GoodIn wsX6_isInner (va_wsS RX6 62 yX6_in wsX6_in) := goodIn_app (goodIn_of _ (by decide +kernel)) ggX6_isInner_X6_in
theorem dX6_isInner_0 : decode cX6_isInner 0 = .ok (.iload_n 1, 1) := by decide +kernel
theorem dX6_isInner_1 : decode cX6_isInner 1 = .ok (.i2l, 1) := by decide +kernel
theorem dX6_isInner_2 : decode cX6_isInner 2 = .ok (.lconst 1, 1) := by decide +kernel
theorem dX6_isInner_3 : decode cX6_isInner 3 = .ok (.aload_n 0, 1) := by decide +kernel
theorem dX6_isInner_4 : decode cX6_isInner 4 = .ok (.getfield 54, 3) := by decide +kernel
theorem dX6_isInner_7 : decode cX6_isInner 7 = .ok (.iconst 1, 1) := by decide +kernel
theorem dX6_isInner_8 : decode cX6_isInner 8 = .ok (.isub, 1) := by decide +kernel
theorem dX6_isInner_9 : decode cX6_isInner 9 = .ok (.i2l, 1) := by decide +kernel
theorem dX6_isInner_10 : decode cX6_isInner 10 = .ok (.invokestatic 62, 3) := by decide +kernel
theorem dX6_isInner_13 : decode cX6_isInner 13 = .ok (.ifCond .eq 23, 3) := by decide +kernel
theorem dX6_isInner_16 : decode cX6_isInner 16 = .ok (.iload_n 2, 1) := by decide +kernel
theorem dX6_isInner_17 : decode cX6_isInner 17 = .ok (.i2l, 1) := by decide +kernel
theorem dX6_isInner_18 : decode cX6_isInner 18 = .ok (.lconst 1, 1) := by decide +kernel
theorem dX6_isInner_19 : decode cX6_isInner 19 = .ok (.aload_n 0, 1) := by decide +kernel
theorem dX6_isInner_20 : decode cX6_isInner 20 = .ok (.getfield 54, 3) := by decide +kernel
theorem dX6_isInner_23 : decode cX6_isInner 23 = .ok (.iconst 1, 1) := by decide +kernel
theorem dX6_isInner_24 : decode cX6_isInner 24 = .ok (.isub, 1) := by decide +kernel
theorem dX6_isInner_25 : decode cX6_isInner 25 = .ok (.i2l, 1) := by decide +kernel
theorem dX6_isInner_26 : decode cX6_isInner 26 = .ok (.invokestatic 62, 3) := by decide +kernel
theorem dX6_isInner_29 : decode cX6_isInner 29 = .ok (.ifCond .eq 7, 3) := by decide +kernel
theorem dX6_isInner_32 : decode cX6_isInner 32 = .ok (.iconst 1, 1) := by decide +kernel
theorem dX6_isInner_33 : decode cX6_isInner 33 = .ok (.goto 4, 3) := by decide +kernel
theorem dX6_isInner_36 : decode cX6_isInner 36 = .ok (.iconst 0, 1) := by decide +kernel
theorem dX6_isInner_37 : decode cX6_isInner 37 = .ok (.ireturn, 1) := by decide +kernel
set_option maxRecDepth 20000 in
theorem ggX6_may_X6_isInner : GoodIn wsX6_may wsX6_isInner := goodIn_r _ [6, 7, 8, 9, 5, 10, 20, 21, 22, 23, 24, 25, 26, 27, 28, 29, 30, 31, 32, 33, 34, 35, 36, 37, 38, 39, 40, 41, 42] (by decide +kernel) (by decide +kernel)
set_option maxRecDepth 20000 in
theorem gX6_may_X6_isInner : GoodIn wsX6_may (wsV RX6 97 RX6 yX6_isInner wsX6_isInner) := goodIn_app (goodIn_of _ (by decide +kernel)) ggX6_may_X6_isInner
set_option maxRecDepth 20000 in
theorem ggX6_may_X6_mayBe : GoodIn wsX6_may wsX6_mayBe := goodIn_r _ [13, 14, 15, 5, 16, 17, 18, 19] (by decide +kernel) (by decide +kernel)
set_option maxRecDepth 20000 in
theorem gX6_may_X6_mayBe : GoodIn wsX6_may (va_wsS RX6 100 yX6_mayBe wsX6_mayBe) := goodIn_app (goodIn_of _ (by decide +kernel)) ggX6_may_X6_mayBe
theorem dX6_may_0 : decode cX6_may 0 = .ok (.aload_n 0, 1) := by decide +kernel
theorem dX6_may_1 : decode cX6_may 1 = .ok (.iload_n 1, 1) := by decide +kernel
theorem dX6_may_2 : decode cX6_may 2 = .ok (.iload_n 2, 1) := by decide +kernel
theorem dX6_may_3 : decode cX6_may 3 = .ok (.invokevirtual 97, 3) := by decide +kernel
theorem dX6_may_6 : decode cX6_may 6 = .ok (.ifCond .eq 15, 3) := by decide +kernel
theorem dX6_may_9 : decode cX6_may 9 = .ok (.aload_n 0, 1) := by decide +kernel
theorem dX6_may_10 : decode cX6_may 10 = .ok (.getfield 13, 3) := by decide +kernel
theorem dX6_may_13 : decode cX6_may 13 = .ok (.iload_n 1, 1) := by decide +kernel
theorem dX6_may_14 : decode cX6_may 14 = .ok (.iload_n 2, 1) := by decide +kernel
theorem dX6_may_15 : decode cX6_may 15 = .ok (.invokestatic 100, 3) := by decide +kernel
theorem dX6_may_18 : decode cX6_may 18 = .ok (.goto 4, 3) := by decide +kernel
theorem dX6_may_21 : decode cX6_may 21 = .ok (.iconst (-1), 1) := by decide +kernel
theorem dX6_may_22 : decode cX6_may 22 = .ok (.ireturn, 1) := by decide +kernel
set_option maxRecDepth 20000 in
theorem ggX6_flips_X6_mayBe : GoodIn wsX6_flips wsX6_mayBe := goodIn_r _ [4, 5, 6, 3, 7, 8, 9, 10] (by decide +kernel) (by decide +kernel)
set_option maxRecDepth 20000 in
theorem gX6_flips_X6_mayBe : GoodIn wsX6_flips (va_wsS RX6 100 yX6_mayBe wsX6_mayBe) := goodIn_app (goodIn_of _ (by decide +kernel)) ggX6_flips_X6_mayBe
theorem dX6_flips_0 : decode cX6_flips 0 = .ok (.aload_n 0, 1) := by decide +kernel
theorem dX6_flips_1 : decode cX6_flips 1 = .ok (.iload_n 1, 1) := by decide +kernel
theorem dX6_flips_2 : decode cX6_flips 2 = .ok (.iload_n 2, 1) := by decide +kernel
theorem dX6_flips_3 : decode cX6_flips 3 = .ok (.invokestatic 100, 3) := by decide +kernel
theorem dX6_flips_6 : decode cX6_flips 6 = .ok (.istore_n 3, 1) := by decide +kernel
theorem dX6_flips_7 : decode cX6_flips 7 = .ok (.iload_n 3, 1) := by decide +kernel
theorem dX6_flips_8 : decode cX6_flips 8 = .ok (.iconst 2, 1) := by decide +kernel
theorem dX6_flips_9 : decode cX6_flips 9 = .ok (.if_icmp .ne 7, 3) := by decide +kernel
theorem dX6_flips_12 : decode cX6_flips 12 = .ok (.iconst 1, 1) := by decide +kernel
theorem dX6_flips_13 : decode cX6_flips 13 = .ok (.goto 4, 3) := by decide +kernel
theorem dX6_flips_16 : decode cX6_flips 16 = .ok (.iconst (-1), 1) := by decide +kernel
theorem dX6_flips_17 : decode cX6_flips 17 = .ok (.istore 4, 2) := by decide +kernel
theorem dX6_flips_19 : decode cX6_flips 19 = .ok (.iload_n 3, 1) := by decide +kernel
theorem dX6_flips_20 : decode cX6_flips 20 = .ok (.ifCond .ne 5, 3) := by decide +kernel
theorem dX6_flips_23 : decode cX6_flips 23 = .ok (.iconst 0, 1) := by decide +kernel
theorem dX6_flips_24 : decode cX6_flips 24 = .ok (.ireturn, 1) := by decide +kernel
theorem dX6_flips_25 : decode cX6_flips 25 = .ok (.aload_n 0, 1) := by decide +kernel
theorem dX6_flips_26 : decode cX6_flips 26 = .ok (.bipush 6, 2) := by decide +kernel
theorem dX6_flips_28 : decode cX6_flips 28 = .ok (.iload_n 1, 1) := by decide +kernel
theorem dX6_flips_29 : decode cX6_flips 29 = .ok (.iconst 1, 1) := by decide +kernel
theorem dX6_flips_30 : decode cX6_flips 30 = .ok (.isub, 1) := by decide +kernel
theorem dX6_flips_31 : decode cX6_flips 31 = .ok (.imul, 1) := by decide +kernel
theorem dX6_flips_32 : decode cX6_flips 32 = .ok (.iload_n 2, 1) := by decide +kernel
theorem dX6_flips_33 : decode cX6_flips 33 = .ok (.iadd, 1) := by decide +kernel
theorem dX6_flips_34 : decode cX6_flips 34 = .ok (.iconst 1, 1) := by decide +kernel
theorem dX6_flips_35 : decode cX6_flips 35 = .ok (.isub, 1) := by decide +kernel
theorem dX6_flips_36 : decode cX6_flips 36 = .ok (.dup2, 1) := by decide +kernel
theorem dX6_flips_37 : decode cX6_flips 37 = .ok (.iaload, 1) := by decide +kernel
theorem dX6_flips_38 : decode cX6_flips 38 = .ok (.iload 4, 2) := by decide +kernel
theorem dX6_flips_40 : decode cX6_flips 40 = .ok (.iadd, 1) := by decide +kernel
theorem dX6_flips_41 : decode cX6_flips 41 = .ok (.iastore, 1) := by decide +kernel
theorem dX6_flips_42 : decode cX6_flips 42 = .ok (.aload_n 0, 1) := by decide +kernel
theorem dX6_flips_43 : decode cX6_flips 43 = .ok (.bipush 6, 2) := by decide +kernel
theorem dX6_flips_45 : decode cX6_flips 45 = .ok (.iload_n 1, 1) := by decide +kernel
theorem dX6_flips_46 : decode cX6_flips 46 = .ok (.iconst 1, 1) := by decide +kernel
theorem dX6_flips_47 : decode cX6_flips 47 = .ok (.isub, 1) := by decide +kernel
theorem dX6_flips_48 : decode cX6_flips 48 = .ok (.imul, 1) := by decide +kernel
theorem dX6_flips_49 : decode cX6_flips 49 = .ok (.iload_n 2, 1) := by decide +kernel
theorem dX6_flips_50 : decode cX6_flips 50 = .ok (.iadd, 1) := by decide +kernel
theorem dX6_flips_51 : decode cX6_flips 51 = .ok (.dup2, 1) := by decide +kernel
theorem dX6_flips_52 : decode cX6_flips 52 = .ok (.iaload, 1) := by decide +kernel
theorem dX6_flips_53 : decode cX6_flips 53 = .ok (.iload 4, 2) := by decide +kernel
theorem dX6_flips_55 : decode cX6_flips 55 = .ok (.isub, 1) := by decide +kernel
theorem dX6_flips_56 : decode cX6_flips 56 = .ok (.iastore, 1) := by decide +kernel
theorem dX6_flips_57 : decode cX6_flips 57 = .ok (.aload_n 0, 1) := by decide +kernel
theorem dX6_flips_58 : decode cX6_flips 58 = .ok (.bipush 6, 2) := by decide +kernel
theorem dX6_flips_60 : decode cX6_flips 60 = .ok (.iload_n 1, 1) := by decide +kernel
theorem dX6_flips_61 : decode cX6_flips 61 = .ok (.imul, 1) := by decide +kernel
theorem dX6_flips_62 : decode cX6_flips 62 = .ok (.iload_n 2, 1) := by decide +kernel
theorem dX6_flips_63 : decode cX6_flips 63 = .ok (.iadd, 1) := by decide +kernel
theorem dX6_flips_64 : decode cX6_flips 64 = .ok (.iconst 1, 1) := by decide +kernel
theorem dX6_flips_65 : decode cX6_flips 65 = .ok (.isub, 1) := by decide +kernel
theorem dX6_flips_66 : decode cX6_flips 66 = .ok (.dup2, 1) := by decide +kernel
theorem dX6_flips_67 : decode cX6_flips 67 = .ok (.iaload, 1) := by decide +kernel
theorem dX6_flips_68 : decode cX6_flips 68 = .ok (.iload 4, 2) := by decide +kernel
theorem dX6_flips_70 : decode cX6_flips 70 = .ok (.isub, 1) := by decide +kernel
theorem dX6_flips_71 : decode cX6_flips 71 = .ok (.iastore, 1) := by decide +kernel
theorem dX6_flips_72 : decode cX6_flips 72 = .ok (.aload_n 0, 1) := by decide +kernel
theorem dX6_flips_73 : decode cX6_flips 73 = .ok (.bipush 6, 2) := by decide +kernel
theorem dX6_flips_75 : decode cX6_flips 75 = .ok (.iload_n 1, 1) := by decide +kernel
theorem dX6_flips_76 : decode cX6_flips 76 = .ok (.imul, 1) := by decide +kernel
theorem dX6_flips_77 : decode cX6_flips 77 = .ok (.iload_n 2, 1) := by decide +kernel
theorem dX6_flips_78 : decode cX6_flips 78 = .ok (.iadd, 1) := by decide +kernel
theorem dX6_flips_79 : decode cX6_flips 79 = .ok (.dup2, 1) := by decide +kernel
theorem dX6_flips_80 : decode cX6_flips 80 = .ok (.iaload, 1) := by decide +kernel
theorem dX6_flips_81 : decode cX6_flips 81 = .ok (.iload 4, 2) := by decide +kernel
theorem dX6_flips_83 : decode cX6_flips 83 = .ok (.iadd, 1) := by decide +kernel
theorem dX6_flips_84 : decode cX6_flips 84 = .ok (.iastore, 1) := by decide +kernel
theorem dX6_flips_85 : decode cX6_flips 85 = .ok (.iconst 1, 1) := by decide +kernel
theorem dX6_flips_86 : decode cX6_flips 86 = .ok (.ireturn, 1) := by decide +kernel
set_option maxRecDepth 20000 in
theorem ggX6_flip_X6_isInner : GoodIn wsX6_flip wsX6_isInner := goodIn_r _ [6, 7, 8, 9, 5, 10, 29, 30, 31, 32, 33, 34, 35, 36, 37, 38, 39, 40, 41, 42, 43, 44, 45, 46, 47, 48, 49, 50, 51] (by decide +kernel) (by decide +kernel)
set_option maxRecDepth 20000 in
theorem gX6_flip_X6_isInner : GoodIn wsX6_flip (wsV RX6 97 RX6 yX6_isInner wsX6_isInner) := goodIn_app (goodIn_of _ (by decide +kernel)) ggX6_flip_X6_isInner
set_option maxRecDepth 20000 in
theorem ggX6_flip_X6_mayBe : GoodIn wsX6_flip wsX6_mayBe := goodIn_r _ [13, 14, 15, 5, 16, 17, 18, 19] (by decide +kernel) (by decide +kernel)
set_option maxRecDepth 20000 in
theorem gX6_flip_X6_mayBe : GoodIn wsX6_flip (va_wsS RX6 100 yX6_mayBe wsX6_mayBe) := goodIn_app (goodIn_of _ (by decide +kernel)) ggX6_flip_X6_mayBe
set_option maxRecDepth 20000 in
theorem ggX6_flip_X6_note : GoodIn wsX6_flip wsX6_note := goodIn_r _ [23, 24, 25, 7, 1, 29, 30, 31, 32, 33, 34, 35, 36, 37, 38, 39, 40, 41, 42, 43, 44, 45, 46, 47, 48, 49, 50, 51] (by decide +kernel) (by decide +kernel)
set_option maxRecDepth 20000 in
theorem gX6_flip_X6_note : GoodIn wsX6_flip (wsV RX6 103 RX6 yX6_note wsX6_note) := goodIn_app (goodIn_of _ (by decide +kernel)) ggX6_flip_X6_note
set_option maxRecDepth 20000 in
theorem ggX6_flip_X6_flips : GoodIn wsX6_flip wsX6_flips := goodIn_r _ [28, 11, 12, 5, 13, 14, 15, 16, 17, 18, 19] (by decide +kernel) (by decide +kernel)
set_option maxRecDepth 20000 in
theorem gX6_flip_X6_flips : GoodIn wsX6_flip (va_wsS RX6 106 yX6_flips wsX6_flips) := goodIn_app (goodIn_of _ (by decide +kernel)) ggX6_flip_X6_flips
set_option maxRecDepth 20000 in
theorem ggX6_flip_X6_heightOf : GoodIn wsX6_flip wsX6_heightOf := goodIn_r _ [16, 17, 18, 5, 19] (by decide +kernel) (by decide +kernel)
set_option maxRecDepth 20000 in
theorem gX6_flip_X6_heightOf : GoodIn wsX6_flip (va_wsS RX6 94 yX6_heightOf wsX6_heightOf) := goodIn_app (goodIn_of _ (by decide +kernel)) ggX6_flip_X6_heightOf
theorem dX6_flip_0 : decode cX6_flip 0 = .ok (.aload_n 0, 1) := by decide +kernel
theorem dX6_flip_1 : decode cX6_flip 1 = .ok (.iload_n 1, 1) := by decide +kernel
theorem dX6_flip_2 : decode cX6_flip 2 = .ok (.iload_n 2, 1) := by decide +kernel
theorem dX6_flip_3 : decode cX6_flip 3 = .ok (.invokevirtual 97, 3) := by decide +kernel
theorem dX6_flip_6 : decode cX6_flip 6 = .ok (.ifCond .ne 5, 3) := by decide +kernel
theorem dX6_flip_9 : decode cX6_flip 9 = .ok (.iconst (-1), 1) := by decide +kernel
theorem dX6_flip_10 : decode cX6_flip 10 = .ok (.ireturn, 1) := by decide +kernel
theorem dX6_flip_11 : decode cX6_flip 11 = .ok (.aload_n 0, 1) := by decide +kernel
theorem dX6_flip_12 : decode cX6_flip 12 = .ok (.getfield 13, 3) := by decide +kernel
theorem dX6_flip_15 : decode cX6_flip 15 = .ok (.iload_n 1, 1) := by decide +kernel
theorem dX6_flip_16 : decode cX6_flip 16 = .ok (.iload_n 2, 1) := by decide +kernel
theorem dX6_flip_17 : decode cX6_flip 17 = .ok (.invokestatic 100, 3) := by decide +kernel
theorem dX6_flip_20 : decode cX6_flip 20 = .ok (.ifCond .ne 6, 3) := by decide +kernel
theorem dX6_flip_23 : decode cX6_flip 23 = .ok (.bipush (-2), 2) := by decide +kernel
theorem dX6_flip_25 : decode cX6_flip 25 = .ok (.ireturn, 1) := by decide +kernel
theorem dX6_flip_26 : decode cX6_flip 26 = .ok (.aload_n 0, 1) := by decide +kernel
theorem dX6_flip_27 : decode cX6_flip 27 = .ok (.invokevirtual 103, 3) := by decide +kernel
theorem dX6_flip_30 : decode cX6_flip 30 = .ok (.aload_n 0, 1) := by decide +kernel
theorem dX6_flip_31 : decode cX6_flip 31 = .ok (.getfield 13, 3) := by decide +kernel
theorem dX6_flip_34 : decode cX6_flip 34 = .ok (.iload_n 1, 1) := by decide +kernel
theorem dX6_flip_35 : decode cX6_flip 35 = .ok (.iload_n 2, 1) := by decide +kernel
theorem dX6_flip_36 : decode cX6_flip 36 = .ok (.invokestatic 106, 3) := by decide +kernel
theorem dX6_flip_39 : decode cX6_flip 39 = .ok (.pop, 1) := by decide +kernel
theorem dX6_flip_40 : decode cX6_flip 40 = .ok (.aload_n 0, 1) := by decide +kernel
theorem dX6_flip_41 : decode cX6_flip 41 = .ok (.getfield 13, 3) := by decide +kernel
theorem dX6_flip_44 : decode cX6_flip 44 = .ok (.iload_n 1, 1) := by decide +kernel
theorem dX6_flip_45 : decode cX6_flip 45 = .ok (.iload_n 2, 1) := by decide +kernel
theorem dX6_flip_46 : decode cX6_flip 46 = .ok (.invokestatic 94, 3) := by decide +kernel
theorem dX6_flip_49 : decode cX6_flip 49 = .ok (.ireturn, 1) := by decide +kernel
set_option maxRecDepth 20000 in
theorem ggX6_gyrates_X6_flips : GoodIn wsX6_gyrates wsX6_flips := goodIn_r _ [5, 6, 7, 4, 8, 9, 10, 11, 12, 13, 14] (by decide +kernel) (by decide +kernel)
set_option maxRecDepth 20000 in
theorem gX6_gyrates_X6_flips : GoodIn wsX6_gyrates (va_wsS RX6 106 yX6_flips wsX6_flips) := goodIn_app (goodIn_of _ (by decide +kernel)) ggX6_gyrates_X6_flips
theorem dX6_gyrates_0 : decode cX6_gyrates 0 = .ok (.iconst 0, 1) := by decide +kernel
theorem dX6_gyrates_1 : decode cX6_gyrates 1 = .ok (.istore_n 2, 1) := by decide +kernel
theorem dX6_gyrates_2 : decode cX6_gyrates 2 = .ok (.iconst 0, 1) := by decide +kernel
theorem dX6_gyrates_3 : decode cX6_gyrates 3 = .ok (.istore_n 3, 1) := by decide +kernel
theorem dX6_gyrates_4 : decode cX6_gyrates 4 = .ok (.iload_n 3, 1) := by decide +kernel
theorem dX6_gyrates_5 : decode cX6_gyrates 5 = .ok (.iconst 2, 1) := by decide +kernel
theorem dX6_gyrates_6 : decode cX6_gyrates 6 = .ok (.if_icmp .ge 75, 3) := by decide +kernel
theorem dX6_gyrates_9 : decode cX6_gyrates 9 = .ok (.iconst 1, 1) := by decide +kernel
theorem dX6_gyrates_10 : decode cX6_gyrates 10 = .ok (.istore 4, 2) := by decide +kernel
theorem dX6_gyrates_12 : decode cX6_gyrates 12 = .ok (.iload 4, 2) := by decide +kernel
theorem dX6_gyrates_14 : decode cX6_gyrates 14 = .ok (.aload_n 0, 1) := by decide +kernel
theorem dX6_gyrates_15 : decode cX6_gyrates 15 = .ok (.getfield 54, 3) := by decide +kernel
theorem dX6_gyrates_18 : decode cX6_gyrates 18 = .ok (.if_icmp .ge 57, 3) := by decide +kernel
theorem dX6_gyrates_21 : decode cX6_gyrates 21 = .ok (.iconst 1, 1) := by decide +kernel
theorem dX6_gyrates_22 : decode cX6_gyrates 22 = .ok (.istore 5, 2) := by decide +kernel
theorem dX6_gyrates_24 : decode cX6_gyrates 24 = .ok (.iload 5, 2) := by decide +kernel
theorem dX6_gyrates_26 : decode cX6_gyrates 26 = .ok (.aload_n 0, 1) := by decide +kernel
theorem dX6_gyrates_27 : decode cX6_gyrates 27 = .ok (.getfield 54, 3) := by decide +kernel
theorem dX6_gyrates_30 : decode cX6_gyrates 30 = .ok (.if_icmp .ge 39, 3) := by decide +kernel
theorem dX6_gyrates_33 : decode cX6_gyrates 33 = .ok (.iload_n 2, 1) := by decide +kernel
theorem dX6_gyrates_34 : decode cX6_gyrates 34 = .ok (.iload 4, 2) := by decide +kernel
theorem dX6_gyrates_36 : decode cX6_gyrates 36 = .ok (.iload 5, 2) := by decide +kernel
theorem dX6_gyrates_38 : decode cX6_gyrates 38 = .ok (.iadd, 1) := by decide +kernel
theorem dX6_gyrates_39 : decode cX6_gyrates 39 = .ok (.iconst 2, 1) := by decide +kernel
theorem dX6_gyrates_40 : decode cX6_gyrates 40 = .ok (.irem, 1) := by decide +kernel
theorem dX6_gyrates_41 : decode cX6_gyrates 41 = .ok (.iload_n 3, 1) := by decide +kernel
theorem dX6_gyrates_42 : decode cX6_gyrates 42 = .ok (.if_icmp .ne 18, 3) := by decide +kernel
theorem dX6_gyrates_45 : decode cX6_gyrates 45 = .ok (.aload_n 1, 1) := by decide +kernel
theorem dX6_gyrates_46 : decode cX6_gyrates 46 = .ok (.iload 4, 2) := by decide +kernel
theorem dX6_gyrates_48 : decode cX6_gyrates 48 = .ok (.iload 5, 2) := by decide +kernel
theorem dX6_gyrates_50 : decode cX6_gyrates 50 = .ok (.invokestatic 106, 3) := by decide +kernel
theorem dX6_gyrates_53 : decode cX6_gyrates 53 = .ok (.ifCond .eq 7, 3) := by decide +kernel
theorem dX6_gyrates_56 : decode cX6_gyrates 56 = .ok (.iconst 1, 1) := by decide +kernel
theorem dX6_gyrates_57 : decode cX6_gyrates 57 = .ok (.goto 4, 3) := by decide +kernel
theorem dX6_gyrates_60 : decode cX6_gyrates 60 = .ok (.iconst 0, 1) := by decide +kernel
theorem dX6_gyrates_61 : decode cX6_gyrates 61 = .ok (.iadd, 1) := by decide +kernel
theorem dX6_gyrates_62 : decode cX6_gyrates 62 = .ok (.istore_n 2, 1) := by decide +kernel
theorem dX6_gyrates_63 : decode cX6_gyrates 63 = .ok (.iinc 5 1, 3) := by decide +kernel
theorem dX6_gyrates_66 : decode cX6_gyrates 66 = .ok (.goto (-42), 3) := by decide +kernel
theorem dX6_gyrates_69 : decode cX6_gyrates 69 = .ok (.iinc 4 1, 3) := by decide +kernel
theorem dX6_gyrates_72 : decode cX6_gyrates 72 = .ok (.goto (-60), 3) := by decide +kernel
theorem dX6_gyrates_75 : decode cX6_gyrates 75 = .ok (.iinc 3 1, 3) := by decide +kernel
theorem dX6_gyrates_78 : decode cX6_gyrates 78 = .ok (.goto (-74), 3) := by decide +kernel
theorem dX6_gyrates_81 : decode cX6_gyrates 81 = .ok (.iload_n 2, 1) := by decide +kernel
theorem dX6_gyrates_82 : decode cX6_gyrates 82 = .ok (.ireturn, 1) := by decide +kernel
set_option maxRecDepth 20000 in
theorem ggX6_gyrate_X6_in : GoodIn wsX6_gyrate wsX6_in := goodIn_r _ [6] (by decide +kernel) (by decide +kernel)
set_option maxRecDepth 20000 in
theorem gX6_gyrate_X6_in : GoodIn wsX6_gyrate (va_wsS RX6 62 yX6_in wsX6_in) := goodIn_app (goodIn_of _ (by decide +kernel)) ggX6_gyrate_X6_in
set_option maxRecDepth 20000 in
theorem ggX6_gyrate_X6_note : GoodIn wsX6_gyrate wsX6_note := goodIn_r _ [10, 11, 12, 13, 2, 30, 31, 32, 33, 34, 35, 36, 37, 38, 39, 40, 41, 42, 43, 44, 45, 46, 47, 48, 49, 50, 51, 52] (by decide +kernel) (by decide +kernel)
set_option maxRecDepth 20000 in
theorem gX6_gyrate_X6_note : GoodIn wsX6_gyrate (wsV RX6 103 RX6 yX6_note wsX6_note) := goodIn_app (goodIn_of _ (by decide +kernel)) ggX6_gyrate_X6_note
set_option maxRecDepth 20000 in
theorem ggX6_gyrate_X6_gyrates : GoodIn wsX6_gyrate wsX6_gyrates := goodIn_r _ [17, 13, 18, 19, 5, 20, 21, 22, 23, 24, 25, 26, 27, 28, 29, 30, 31, 32, 33, 34, 35, 36, 37, 38, 39, 40, 41, 42, 43, 44, 45, 46, 47, 48, 49, 50, 51, 52] (by decide +kernel) (by decide +kernel)
set_option maxRecDepth 20000 in
theorem gX6_gyrate_X6_gyrates : GoodIn wsX6_gyrate (wsV RX6 112 RX6 yX6_gyrates wsX6_gyrates) := goodIn_app (goodIn_of _ (by decide +kernel)) ggX6_gyrate_X6_gyrates
theorem dX6_gyrate_0 : decode cX6_gyrate 0 = .ok (.iload_n 1, 1) := by decide +kernel
theorem dX6_gyrate_1 : decode cX6_gyrate 1 = .ok (.i2l, 1) := by decide +kernel
theorem dX6_gyrate_2 : decode cX6_gyrate 2 = .ok (.lconst 1, 1) := by decide +kernel
theorem dX6_gyrate_3 : decode cX6_gyrate 3 = .ok (.ldc2_w 110, 3) := by decide +kernel
theorem dX6_gyrate_6 : decode cX6_gyrate 6 = .ok (.invokestatic 62, 3) := by decide +kernel
theorem dX6_gyrate_9 : decode cX6_gyrate 9 = .ok (.ifCond .ne 5, 3) := by decide +kernel
theorem dX6_gyrate_12 : decode cX6_gyrate 12 = .ok (.iconst (-1), 1) := by decide +kernel
theorem dX6_gyrate_13 : decode cX6_gyrate 13 = .ok (.ireturn, 1) := by decide +kernel
theorem dX6_gyrate_14 : decode cX6_gyrate 14 = .ok (.aload_n 0, 1) := by decide +kernel
theorem dX6_gyrate_15 : decode cX6_gyrate 15 = .ok (.invokevirtual 103, 3) := by decide +kernel
theorem dX6_gyrate_18 : decode cX6_gyrate 18 = .ok (.iconst 0, 1) := by decide +kernel
theorem dX6_gyrate_19 : decode cX6_gyrate 19 = .ok (.istore_n 2, 1) := by decide +kernel
theorem dX6_gyrate_20 : decode cX6_gyrate 20 = .ok (.iconst 0, 1) := by decide +kernel
theorem dX6_gyrate_21 : decode cX6_gyrate 21 = .ok (.istore_n 3, 1) := by decide +kernel
theorem dX6_gyrate_22 : decode cX6_gyrate 22 = .ok (.iload_n 3, 1) := by decide +kernel
theorem dX6_gyrate_23 : decode cX6_gyrate 23 = .ok (.iload_n 1, 1) := by decide +kernel
theorem dX6_gyrate_24 : decode cX6_gyrate 24 = .ok (.if_icmp .ge 20, 3) := by decide +kernel
theorem dX6_gyrate_27 : decode cX6_gyrate 27 = .ok (.iload_n 2, 1) := by decide +kernel
theorem dX6_gyrate_28 : decode cX6_gyrate 28 = .ok (.aload_n 0, 1) := by decide +kernel
theorem dX6_gyrate_29 : decode cX6_gyrate 29 = .ok (.aload_n 0, 1) := by decide +kernel
theorem dX6_gyrate_30 : decode cX6_gyrate 30 = .ok (.getfield 13, 3) := by decide +kernel
theorem dX6_gyrate_33 : decode cX6_gyrate 33 = .ok (.invokevirtual 112, 3) := by decide +kernel
theorem dX6_gyrate_36 : decode cX6_gyrate 36 = .ok (.iadd, 1) := by decide +kernel
theorem dX6_gyrate_37 : decode cX6_gyrate 37 = .ok (.istore_n 2, 1) := by decide +kernel
theorem dX6_gyrate_38 : decode cX6_gyrate 38 = .ok (.iinc 3 1, 3) := by decide +kernel
theorem dX6_gyrate_41 : decode cX6_gyrate 41 = .ok (.goto (-19), 3) := by decide +kernel
theorem dX6_gyrate_44 : decode cX6_gyrate 44 = .ok (.iload_n 2, 1) := by decide +kernel
theorem dX6_gyrate_45 : decode cX6_gyrate 45 = .ok (.ireturn, 1) := by decide +kernel
theorem dX6_isOwn_0 : decode cX6_isOwn 0 = .ok (.iconst 1, 1) := by decide +kernel
theorem dX6_isOwn_1 : decode cX6_isOwn 1 = .ok (.istore_n 2, 1) := by decide +kernel
theorem dX6_isOwn_2 : decode cX6_isOwn 2 = .ok (.iconst 0, 1) := by decide +kernel
theorem dX6_isOwn_3 : decode cX6_isOwn 3 = .ok (.istore_n 3, 1) := by decide +kernel
theorem dX6_isOwn_4 : decode cX6_isOwn 4 = .ok (.iload_n 3, 1) := by decide +kernel
theorem dX6_isOwn_5 : decode cX6_isOwn 5 = .ok (.aload_n 0, 1) := by decide +kernel
theorem dX6_isOwn_6 : decode cX6_isOwn 6 = .ok (.getfield 54, 3) := by decide +kernel
theorem dX6_isOwn_9 : decode cX6_isOwn 9 = .ok (.if_icmp .ge 61, 3) := by decide +kernel
theorem dX6_isOwn_12 : decode cX6_isOwn 12 = .ok (.iconst 0, 1) := by decide +kernel
theorem dX6_isOwn_13 : decode cX6_isOwn 13 = .ok (.istore 4, 2) := by decide +kernel
theorem dX6_isOwn_15 : decode cX6_isOwn 15 = .ok (.iload 4, 2) := by decide +kernel
theorem dX6_isOwn_17 : decode cX6_isOwn 17 = .ok (.aload_n 0, 1) := by decide +kernel
theorem dX6_isOwn_18 : decode cX6_isOwn 18 = .ok (.getfield 54, 3) := by decide +kernel
theorem dX6_isOwn_21 : decode cX6_isOwn 21 = .ok (.if_icmp .ge 43, 3) := by decide +kernel
theorem dX6_isOwn_24 : decode cX6_isOwn 24 = .ok (.iload_n 2, 1) := by decide +kernel
theorem dX6_isOwn_25 : decode cX6_isOwn 25 = .ok (.ifCond .eq 31, 3) := by decide +kernel
theorem dX6_isOwn_28 : decode cX6_isOwn 28 = .ok (.aload_n 1, 1) := by decide +kernel
theorem dX6_isOwn_29 : decode cX6_isOwn 29 = .ok (.bipush 6, 2) := by decide +kernel
theorem dX6_isOwn_31 : decode cX6_isOwn 31 = .ok (.iload_n 3, 1) := by decide +kernel
theorem dX6_isOwn_32 : decode cX6_isOwn 32 = .ok (.imul, 1) := by decide +kernel
theorem dX6_isOwn_33 : decode cX6_isOwn 33 = .ok (.iload 4, 2) := by decide +kernel
theorem dX6_isOwn_35 : decode cX6_isOwn 35 = .ok (.iadd, 1) := by decide +kernel
theorem dX6_isOwn_36 : decode cX6_isOwn 36 = .ok (.iaload, 1) := by decide +kernel
theorem dX6_isOwn_37 : decode cX6_isOwn 37 = .ok (.aload_n 0, 1) := by decide +kernel
theorem dX6_isOwn_38 : decode cX6_isOwn 38 = .ok (.getfield 13, 3) := by decide +kernel
theorem dX6_isOwn_41 : decode cX6_isOwn 41 = .ok (.bipush 6, 2) := by decide +kernel
theorem dX6_isOwn_43 : decode cX6_isOwn 43 = .ok (.iload_n 3, 1) := by decide +kernel
theorem dX6_isOwn_44 : decode cX6_isOwn 44 = .ok (.imul, 1) := by decide +kernel
theorem dX6_isOwn_45 : decode cX6_isOwn 45 = .ok (.iload 4, 2) := by decide +kernel
theorem dX6_isOwn_47 : decode cX6_isOwn 47 = .ok (.iadd, 1) := by decide +kernel
theorem dX6_isOwn_48 : decode cX6_isOwn 48 = .ok (.iaload, 1) := by decide +kernel
theorem dX6_isOwn_49 : decode cX6_isOwn 49 = .ok (.if_icmp .ne 7, 3) := by decide +kernel
theorem dX6_isOwn_52 : decode cX6_isOwn 52 = .ok (.iconst 1, 1) := by decide +kernel
theorem dX6_isOwn_53 : decode cX6_isOwn 53 = .ok (.goto 4, 3) := by decide +kernel
theorem dX6_isOwn_56 : decode cX6_isOwn 56 = .ok (.iconst 0, 1) := by decide +kernel
theorem dX6_isOwn_57 : decode cX6_isOwn 57 = .ok (.istore_n 2, 1) := by decide +kernel
theorem dX6_isOwn_58 : decode cX6_isOwn 58 = .ok (.iinc 4 1, 3) := by decide +kernel
theorem dX6_isOwn_61 : decode cX6_isOwn 61 = .ok (.goto (-46), 3) := by decide +kernel
theorem dX6_isOwn_64 : decode cX6_isOwn 64 = .ok (.iinc 3 1, 3) := by decide +kernel
theorem dX6_isOwn_67 : decode cX6_isOwn 67 = .ok (.goto (-63), 3) := by decide +kernel
theorem dX6_isOwn_70 : decode cX6_isOwn 70 = .ok (.iload_n 2, 1) := by decide +kernel
theorem dX6_isOwn_71 : decode cX6_isOwn 71 = .ok (.ireturn, 1) := by decide +kernel
set_option maxRecDepth 20000 in
theorem ggX6_orbit_X6_copy : GoodIn wsX6_orbit wsX6_copy := goodIn_r _ [6] (by decide +kernel) (by decide +kernel)
set_option maxRecDepth 20000 in
theorem gX6_orbit_X6_copy : GoodIn wsX6_orbit (va_wsS RX6 76 yX6_copy wsX6_copy) := goodIn_app (goodIn_of _ (by decide +kernel)) ggX6_orbit_X6_copy
set_option maxRecDepth 20000 in
theorem ggX6_orbit_X6_gyrates : GoodIn wsX6_orbit wsX6_gyrates := goodIn_r _ [10, 11, 12, 13, 5, 14, 15, 16, 17, 18, 19, 20, 21, 22, 23, 28, 29, 30, 31, 32, 33, 34, 35, 36, 37, 38, 39, 40, 41, 42, 43, 44, 45, 46, 47, 48, 49, 50] (by decide +kernel) (by decide +kernel)
set_option maxRecDepth 20000 in
theorem gX6_orbit_X6_gyrates : GoodIn wsX6_orbit (wsV RX6 112 RX6 yX6_gyrates wsX6_gyrates) := goodIn_app (goodIn_of _ (by decide +kernel)) ggX6_orbit_X6_gyrates
set_option maxRecDepth 20000 in
theorem ggX6_orbit_X6_isOwn : GoodIn wsX6_orbit wsX6_isOwn := goodIn_r _ [27, 11, 1, 28, 29, 30, 31, 32, 33, 34, 35, 36, 37, 38, 39, 40, 41, 42, 43, 44, 45, 46, 47, 48, 49, 50] (by decide +kernel) (by decide +kernel)
set_option maxRecDepth 20000 in
theorem gX6_orbit_X6_isOwn : GoodIn wsX6_orbit (wsV RX6 116 RX6 yX6_isOwn wsX6_isOwn) := goodIn_app (goodIn_of _ (by decide +kernel)) ggX6_orbit_X6_isOwn
theorem dX6_orbit_0 : decode cX6_orbit 0 = .ok (.aload_n 0, 1) := by decide +kernel
theorem dX6_orbit_1 : decode cX6_orbit 1 = .ok (.getfield 13, 3) := by decide +kernel
theorem dX6_orbit_4 : decode cX6_orbit 4 = .ok (.aload_n 0, 1) := by decide +kernel
theorem dX6_orbit_5 : decode cX6_orbit 5 = .ok (.getfield 25, 3) := by decide +kernel
theorem dX6_orbit_8 : decode cX6_orbit 8 = .ok (.invokestatic 76, 3) := by decide +kernel
theorem dX6_orbit_11 : decode cX6_orbit 11 = .ok (.iconst 0, 1) := by decide +kernel
theorem dX6_orbit_12 : decode cX6_orbit 12 = .ok (.istore_n 1, 1) := by decide +kernel
theorem dX6_orbit_13 : decode cX6_orbit 13 = .ok (.iconst 1, 1) := by decide +kernel
theorem dX6_orbit_14 : decode cX6_orbit 14 = .ok (.istore_n 2, 1) := by decide +kernel
theorem dX6_orbit_15 : decode cX6_orbit 15 = .ok (.iload_n 2, 1) := by decide +kernel
theorem dX6_orbit_16 : decode cX6_orbit 16 = .ok (.ifCond .eq 35, 3) := by decide +kernel
theorem dX6_orbit_19 : decode cX6_orbit 19 = .ok (.aload_n 0, 1) := by decide +kernel
theorem dX6_orbit_20 : decode cX6_orbit 20 = .ok (.aload_n 0, 1) := by decide +kernel
theorem dX6_orbit_21 : decode cX6_orbit 21 = .ok (.getfield 25, 3) := by decide +kernel
theorem dX6_orbit_24 : decode cX6_orbit 24 = .ok (.invokevirtual 112, 3) := by decide +kernel
theorem dX6_orbit_27 : decode cX6_orbit 27 = .ok (.pop, 1) := by decide +kernel
theorem dX6_orbit_28 : decode cX6_orbit 28 = .ok (.iinc 1 1, 3) := by decide +kernel
theorem dX6_orbit_31 : decode cX6_orbit 31 = .ok (.aload_n 0, 1) := by decide +kernel
theorem dX6_orbit_32 : decode cX6_orbit 32 = .ok (.aload_n 0, 1) := by decide +kernel
theorem dX6_orbit_33 : decode cX6_orbit 33 = .ok (.getfield 25, 3) := by decide +kernel
theorem dX6_orbit_36 : decode cX6_orbit 36 = .ok (.invokevirtual 116, 3) := by decide +kernel
theorem dX6_orbit_39 : decode cX6_orbit 39 = .ok (.ifCond .ne 7, 3) := by decide +kernel
theorem dX6_orbit_42 : decode cX6_orbit 42 = .ok (.iconst 1, 1) := by decide +kernel
theorem dX6_orbit_43 : decode cX6_orbit 43 = .ok (.goto 4, 3) := by decide +kernel
theorem dX6_orbit_46 : decode cX6_orbit 46 = .ok (.iconst 0, 1) := by decide +kernel
theorem dX6_orbit_47 : decode cX6_orbit 47 = .ok (.istore_n 2, 1) := by decide +kernel
theorem dX6_orbit_48 : decode cX6_orbit 48 = .ok (.goto (-33), 3) := by decide +kernel
theorem dX6_orbit_51 : decode cX6_orbit 51 = .ok (.iload_n 1, 1) := by decide +kernel
theorem dX6_orbit_52 : decode cX6_orbit 52 = .ok (.ireturn, 1) := by decide +kernel
theorem dX6_far_0 : decode cX6_far 0 = .ok (.iload_n 0, 1) := by decide +kernel
theorem dX6_far_1 : decode cX6_far 1 = .ok (.ifCond .ge 8, 3) := by decide +kernel
theorem dX6_far_4 : decode cX6_far 4 = .ok (.iload_n 0, 1) := by decide +kernel
theorem dX6_far_5 : decode cX6_far 5 = .ok (.ineg, 1) := by decide +kernel
theorem dX6_far_6 : decode cX6_far 6 = .ok (.goto 4, 3) := by decide +kernel
theorem dX6_far_9 : decode cX6_far 9 = .ok (.iload_n 0, 1) := by decide +kernel
theorem dX6_far_10 : decode cX6_far 10 = .ok (.ireturn, 1) := by decide +kernel
set_option maxRecDepth 20000 in
theorem ggX6_apart_X6_heightOf : GoodIn wsX6_apart wsX6_heightOf := goodIn_r _ [8, 9, 10, 7, 11] (by decide +kernel) (by decide +kernel)
set_option maxRecDepth 20000 in
theorem gX6_apart_X6_heightOf : GoodIn wsX6_apart (va_wsS RX6 94 yX6_heightOf wsX6_heightOf) := goodIn_app (goodIn_of _ (by decide +kernel)) ggX6_apart_X6_heightOf
set_option maxRecDepth 20000 in
theorem ggX6_apart_X6_far : GoodIn wsX6_apart wsX6_far := goodIn_r _ [14] (by decide +kernel) (by decide +kernel)
set_option maxRecDepth 20000 in
theorem gX6_apart_X6_far : GoodIn wsX6_apart (va_wsS RX6 120 yX6_far wsX6_far) := goodIn_app (goodIn_of _ (by decide +kernel)) ggX6_apart_X6_far
theorem dX6_apart_0 : decode cX6_apart 0 = .ok (.aload_n 0, 1) := by decide +kernel
theorem dX6_apart_1 : decode cX6_apart 1 = .ok (.getfield 83, 3) := by decide +kernel
theorem dX6_apart_4 : decode cX6_apart 4 = .ok (.aload_n 0, 1) := by decide +kernel
theorem dX6_apart_5 : decode cX6_apart 5 = .ok (.getfield 54, 3) := by decide +kernel
theorem dX6_apart_8 : decode cX6_apart 8 = .ok (.if_icmp .eq 6, 3) := by decide +kernel
theorem dX6_apart_11 : decode cX6_apart 11 = .ok (.bipush (-2), 2) := by decide +kernel
theorem dX6_apart_13 : decode cX6_apart 13 = .ok (.ireturn, 1) := by decide +kernel
theorem dX6_apart_14 : decode cX6_apart 14 = .ok (.iconst 0, 1) := by decide +kernel
theorem dX6_apart_15 : decode cX6_apart 15 = .ok (.istore_n 1, 1) := by decide +kernel
theorem dX6_apart_16 : decode cX6_apart 16 = .ok (.iconst 0, 1) := by decide +kernel
theorem dX6_apart_17 : decode cX6_apart 17 = .ok (.istore_n 2, 1) := by decide +kernel
theorem dX6_apart_18 : decode cX6_apart 18 = .ok (.iload_n 2, 1) := by decide +kernel
theorem dX6_apart_19 : decode cX6_apart 19 = .ok (.aload_n 0, 1) := by decide +kernel
theorem dX6_apart_20 : decode cX6_apart 20 = .ok (.getfield 54, 3) := by decide +kernel
theorem dX6_apart_23 : decode cX6_apart 23 = .ok (.if_icmp .gt 50, 3) := by decide +kernel
theorem dX6_apart_26 : decode cX6_apart 26 = .ok (.iconst 0, 1) := by decide +kernel
theorem dX6_apart_27 : decode cX6_apart 27 = .ok (.istore_n 3, 1) := by decide +kernel
theorem dX6_apart_28 : decode cX6_apart 28 = .ok (.iload_n 3, 1) := by decide +kernel
theorem dX6_apart_29 : decode cX6_apart 29 = .ok (.aload_n 0, 1) := by decide +kernel
theorem dX6_apart_30 : decode cX6_apart 30 = .ok (.getfield 54, 3) := by decide +kernel
theorem dX6_apart_33 : decode cX6_apart 33 = .ok (.if_icmp .gt 34, 3) := by decide +kernel
theorem dX6_apart_36 : decode cX6_apart 36 = .ok (.iload_n 1, 1) := by decide +kernel
theorem dX6_apart_37 : decode cX6_apart 37 = .ok (.aload_n 0, 1) := by decide +kernel
theorem dX6_apart_38 : decode cX6_apart 38 = .ok (.getfield 13, 3) := by decide +kernel
theorem dX6_apart_41 : decode cX6_apart 41 = .ok (.iload_n 2, 1) := by decide +kernel
theorem dX6_apart_42 : decode cX6_apart 42 = .ok (.iload_n 3, 1) := by decide +kernel
theorem dX6_apart_43 : decode cX6_apart 43 = .ok (.invokestatic 94, 3) := by decide +kernel
theorem dX6_apart_46 : decode cX6_apart 46 = .ok (.aload_n 0, 1) := by decide +kernel
theorem dX6_apart_47 : decode cX6_apart 47 = .ok (.getfield 16, 3) := by decide +kernel
theorem dX6_apart_50 : decode cX6_apart 50 = .ok (.iload_n 2, 1) := by decide +kernel
theorem dX6_apart_51 : decode cX6_apart 51 = .ok (.iload_n 3, 1) := by decide +kernel
theorem dX6_apart_52 : decode cX6_apart 52 = .ok (.invokestatic 94, 3) := by decide +kernel
theorem dX6_apart_55 : decode cX6_apart 55 = .ok (.isub, 1) := by decide +kernel
theorem dX6_apart_56 : decode cX6_apart 56 = .ok (.invokestatic 120, 3) := by decide +kernel
theorem dX6_apart_59 : decode cX6_apart 59 = .ok (.iadd, 1) := by decide +kernel
theorem dX6_apart_60 : decode cX6_apart 60 = .ok (.istore_n 1, 1) := by decide +kernel
theorem dX6_apart_61 : decode cX6_apart 61 = .ok (.iinc 3 1, 3) := by decide +kernel
theorem dX6_apart_64 : decode cX6_apart 64 = .ok (.goto (-36), 3) := by decide +kernel
theorem dX6_apart_67 : decode cX6_apart 67 = .ok (.iinc 2 1, 3) := by decide +kernel
theorem dX6_apart_70 : decode cX6_apart 70 = .ok (.goto (-52), 3) := by decide +kernel
theorem dX6_apart_73 : decode cX6_apart 73 = .ok (.iload_n 1, 1) := by decide +kernel
theorem dX6_apart_74 : decode cX6_apart 74 = .ok (.iconst 2, 1) := by decide +kernel
theorem dX6_apart_75 : decode cX6_apart 75 = .ok (.idiv, 1) := by decide +kernel
theorem dX6_apart_76 : decode cX6_apart 76 = .ok (.ireturn, 1) := by decide +kernel
set_option maxRecDepth 20000 in
theorem ggX6_next_X6_heightOf : GoodIn wsX6_next wsX6_heightOf := goodIn_r _ [8, 9, 10, 7, 11] (by decide +kernel) (by decide +kernel)
set_option maxRecDepth 20000 in
theorem gX6_next_X6_heightOf : GoodIn wsX6_next (va_wsS RX6 94 yX6_heightOf wsX6_heightOf) := goodIn_app (goodIn_of _ (by decide +kernel)) ggX6_next_X6_heightOf
set_option maxRecDepth 20000 in
theorem ggX6_next_X6_mayBe : GoodIn wsX6_next wsX6_mayBe := goodIn_r _ [14, 5, 6, 7, 8, 9, 10, 11] (by decide +kernel) (by decide +kernel)
set_option maxRecDepth 20000 in
theorem gX6_next_X6_mayBe : GoodIn wsX6_next (va_wsS RX6 100 yX6_mayBe wsX6_mayBe) := goodIn_app (goodIn_of _ (by decide +kernel)) ggX6_next_X6_mayBe
theorem dX6_next_0 : decode cX6_next 0 = .ok (.aload_n 0, 1) := by decide +kernel
theorem dX6_next_1 : decode cX6_next 1 = .ok (.getfield 83, 3) := by decide +kernel
theorem dX6_next_4 : decode cX6_next 4 = .ok (.aload_n 0, 1) := by decide +kernel
theorem dX6_next_5 : decode cX6_next 5 = .ok (.getfield 54, 3) := by decide +kernel
theorem dX6_next_8 : decode cX6_next 8 = .ok (.if_icmp .eq 6, 3) := by decide +kernel
theorem dX6_next_11 : decode cX6_next 11 = .ok (.bipush (-2), 2) := by decide +kernel
theorem dX6_next_13 : decode cX6_next 13 = .ok (.ireturn, 1) := by decide +kernel
theorem dX6_next_14 : decode cX6_next 14 = .ok (.iconst 1, 1) := by decide +kernel
theorem dX6_next_15 : decode cX6_next 15 = .ok (.istore_n 1, 1) := by decide +kernel
theorem dX6_next_16 : decode cX6_next 16 = .ok (.iload_n 1, 1) := by decide +kernel
theorem dX6_next_17 : decode cX6_next 17 = .ok (.aload_n 0, 1) := by decide +kernel
theorem dX6_next_18 : decode cX6_next 18 = .ok (.getfield 54, 3) := by decide +kernel
theorem dX6_next_21 : decode cX6_next 21 = .ok (.if_icmp .ge 83, 3) := by decide +kernel
theorem dX6_next_24 : decode cX6_next 24 = .ok (.iconst 1, 1) := by decide +kernel
theorem dX6_next_25 : decode cX6_next 25 = .ok (.istore_n 2, 1) := by decide +kernel
theorem dX6_next_26 : decode cX6_next 26 = .ok (.iload_n 2, 1) := by decide +kernel
theorem dX6_next_27 : decode cX6_next 27 = .ok (.aload_n 0, 1) := by decide +kernel
theorem dX6_next_28 : decode cX6_next 28 = .ok (.getfield 54, 3) := by decide +kernel
theorem dX6_next_31 : decode cX6_next 31 = .ok (.if_icmp .ge 67, 3) := by decide +kernel
theorem dX6_next_34 : decode cX6_next 34 = .ok (.aload_n 0, 1) := by decide +kernel
theorem dX6_next_35 : decode cX6_next 35 = .ok (.getfield 16, 3) := by decide +kernel
theorem dX6_next_38 : decode cX6_next 38 = .ok (.iload_n 1, 1) := by decide +kernel
theorem dX6_next_39 : decode cX6_next 39 = .ok (.iload_n 2, 1) := by decide +kernel
theorem dX6_next_40 : decode cX6_next 40 = .ok (.invokestatic 94, 3) := by decide +kernel
theorem dX6_next_43 : decode cX6_next 43 = .ok (.aload_n 0, 1) := by decide +kernel
theorem dX6_next_44 : decode cX6_next 44 = .ok (.getfield 13, 3) := by decide +kernel
theorem dX6_next_47 : decode cX6_next 47 = .ok (.iload_n 1, 1) := by decide +kernel
theorem dX6_next_48 : decode cX6_next 48 = .ok (.iload_n 2, 1) := by decide +kernel
theorem dX6_next_49 : decode cX6_next 49 = .ok (.invokestatic 94, 3) := by decide +kernel
theorem dX6_next_52 : decode cX6_next 52 = .ok (.isub, 1) := by decide +kernel
theorem dX6_next_53 : decode cX6_next 53 = .ok (.istore_n 3, 1) := by decide +kernel
theorem dX6_next_54 : decode cX6_next 54 = .ok (.aload_n 0, 1) := by decide +kernel
theorem dX6_next_55 : decode cX6_next 55 = .ok (.getfield 13, 3) := by decide +kernel
theorem dX6_next_58 : decode cX6_next 58 = .ok (.iload_n 1, 1) := by decide +kernel
theorem dX6_next_59 : decode cX6_next 59 = .ok (.iload_n 2, 1) := by decide +kernel
theorem dX6_next_60 : decode cX6_next 60 = .ok (.invokestatic 100, 3) := by decide +kernel
theorem dX6_next_63 : decode cX6_next 63 = .ok (.istore 4, 2) := by decide +kernel
theorem dX6_next_65 : decode cX6_next 65 = .ok (.iload 4, 2) := by decide +kernel
theorem dX6_next_67 : decode cX6_next 67 = .ok (.iconst 1, 1) := by decide +kernel
theorem dX6_next_68 : decode cX6_next 68 = .ok (.if_icmp .ne 7, 3) := by decide +kernel
theorem dX6_next_71 : decode cX6_next 71 = .ok (.iload_n 3, 1) := by decide +kernel
theorem dX6_next_72 : decode cX6_next 72 = .ok (.ifCond .gt 13, 3) := by decide +kernel
theorem dX6_next_75 : decode cX6_next 75 = .ok (.iload 4, 2) := by decide +kernel
theorem dX6_next_77 : decode cX6_next 77 = .ok (.iconst 2, 1) := by decide +kernel
theorem dX6_next_78 : decode cX6_next 78 = .ok (.if_icmp .ne 14, 3) := by decide +kernel
theorem dX6_next_81 : decode cX6_next 81 = .ok (.iload_n 3, 1) := by decide +kernel
theorem dX6_next_82 : decode cX6_next 82 = .ok (.ifCond .ge 10, 3) := by decide +kernel
theorem dX6_next_85 : decode cX6_next 85 = .ok (.bipush 10, 2) := by decide +kernel
theorem dX6_next_87 : decode cX6_next 87 = .ok (.iload_n 1, 1) := by decide +kernel
theorem dX6_next_88 : decode cX6_next 88 = .ok (.imul, 1) := by decide +kernel
theorem dX6_next_89 : decode cX6_next 89 = .ok (.iload_n 2, 1) := by decide +kernel
theorem dX6_next_90 : decode cX6_next 90 = .ok (.iadd, 1) := by decide +kernel
theorem dX6_next_91 : decode cX6_next 91 = .ok (.ireturn, 1) := by decide +kernel
theorem dX6_next_92 : decode cX6_next 92 = .ok (.iinc 2 1, 3) := by decide +kernel
theorem dX6_next_95 : decode cX6_next 95 = .ok (.goto (-69), 3) := by decide +kernel
theorem dX6_next_98 : decode cX6_next 98 = .ok (.iinc 1 1, 3) := by decide +kernel
theorem dX6_next_101 : decode cX6_next 101 = .ok (.goto (-85), 3) := by decide +kernel
theorem dX6_next_104 : decode cX6_next 104 = .ok (.bipush (-4), 2) := by decide +kernel
theorem dX6_next_106 : decode cX6_next 106 = .ok (.ireturn, 1) := by decide +kernel
set_option maxRecDepth 20000 in
theorem ggX6_both_X6_in : GoodIn wsX6_both wsX6_in := goodIn_r _ [9] (by decide +kernel) (by decide +kernel)
set_option maxRecDepth 20000 in
theorem gX6_both_X6_in : GoodIn wsX6_both (va_wsS RX6 62 yX6_in wsX6_in) := goodIn_app (goodIn_of _ (by decide +kernel)) ggX6_both_X6_in
set_option maxRecDepth 20000 in
theorem ggX6_both_X6_heightOf : GoodIn wsX6_both wsX6_heightOf := goodIn_r _ [12, 13, 14, 8, 15] (by decide +kernel) (by decide +kernel)
set_option maxRecDepth 20000 in
theorem gX6_both_X6_heightOf : GoodIn wsX6_both (va_wsS RX6 94 yX6_heightOf wsX6_heightOf) := goodIn_app (goodIn_of _ (by decide +kernel)) ggX6_both_X6_heightOf
set_option maxRecDepth 20000 in
theorem ggX6_both_X6_note : GoodIn wsX6_both wsX6_note := goodIn_r _ [19, 20, 21, 2, 3, 22, 23, 24, 25, 26, 27, 28, 29, 30, 31, 32, 33, 34, 35, 36, 37, 38, 39, 40, 41, 42, 43, 44] (by decide +kernel) (by decide +kernel)
set_option maxRecDepth 20000 in
theorem gX6_both_X6_note : GoodIn wsX6_both (wsV RX6 103 RX6 yX6_note wsX6_note) := goodIn_app (goodIn_of _ (by decide +kernel)) ggX6_both_X6_note
theorem dX6_both_0 : decode cX6_both 0 = .ok (.iload_n 1, 1) := by decide +kernel
theorem dX6_both_1 : decode cX6_both 1 = .ok (.i2l, 1) := by decide +kernel
theorem dX6_both_2 : decode cX6_both 2 = .ok (.lconst 0, 1) := by decide +kernel
theorem dX6_both_3 : decode cX6_both 3 = .ok (.lconst 1, 1) := by decide +kernel
theorem dX6_both_4 : decode cX6_both 4 = .ok (.invokestatic 62, 3) := by decide +kernel
theorem dX6_both_7 : decode cX6_both 7 = .ok (.ifCond .ne 5, 3) := by decide +kernel
theorem dX6_both_10 : decode cX6_both 10 = .ok (.iconst (-1), 1) := by decide +kernel
theorem dX6_both_11 : decode cX6_both 11 = .ok (.ireturn, 1) := by decide +kernel
theorem dX6_both_12 : decode cX6_both 12 = .ok (.aload_n 0, 1) := by decide +kernel
theorem dX6_both_13 : decode cX6_both 13 = .ok (.getfield 83, 3) := by decide +kernel
theorem dX6_both_16 : decode cX6_both 16 = .ok (.aload_n 0, 1) := by decide +kernel
theorem dX6_both_17 : decode cX6_both 17 = .ok (.getfield 54, 3) := by decide +kernel
theorem dX6_both_20 : decode cX6_both 20 = .ok (.if_icmp .eq 6, 3) := by decide +kernel
theorem dX6_both_23 : decode cX6_both 23 = .ok (.bipush (-2), 2) := by decide +kernel
theorem dX6_both_25 : decode cX6_both 25 = .ok (.ireturn, 1) := by decide +kernel
theorem dX6_both_26 : decode cX6_both 26 = .ok (.iconst 0, 1) := by decide +kernel
theorem dX6_both_27 : decode cX6_both 27 = .ok (.istore_n 2, 1) := by decide +kernel
theorem dX6_both_28 : decode cX6_both 28 = .ok (.iconst 0, 1) := by decide +kernel
theorem dX6_both_29 : decode cX6_both 29 = .ok (.istore_n 3, 1) := by decide +kernel
theorem dX6_both_30 : decode cX6_both 30 = .ok (.iload_n 3, 1) := by decide +kernel
theorem dX6_both_31 : decode cX6_both 31 = .ok (.aload_n 0, 1) := by decide +kernel
theorem dX6_both_32 : decode cX6_both 32 = .ok (.getfield 54, 3) := by decide +kernel
theorem dX6_both_35 : decode cX6_both 35 = .ok (.if_icmp .gt 128, 3) := by decide +kernel
theorem dX6_both_38 : decode cX6_both 38 = .ok (.iconst 0, 1) := by decide +kernel
theorem dX6_both_39 : decode cX6_both 39 = .ok (.istore 4, 2) := by decide +kernel
theorem dX6_both_41 : decode cX6_both 41 = .ok (.iload 4, 2) := by decide +kernel
theorem dX6_both_43 : decode cX6_both 43 = .ok (.aload_n 0, 1) := by decide +kernel
theorem dX6_both_44 : decode cX6_both 44 = .ok (.getfield 54, 3) := by decide +kernel
theorem dX6_both_47 : decode cX6_both 47 = .ok (.if_icmp .gt 110, 3) := by decide +kernel
theorem dX6_both_50 : decode cX6_both 50 = .ok (.aload_n 0, 1) := by decide +kernel
theorem dX6_both_51 : decode cX6_both 51 = .ok (.getfield 13, 3) := by decide +kernel
theorem dX6_both_54 : decode cX6_both 54 = .ok (.iload_n 3, 1) := by decide +kernel
theorem dX6_both_55 : decode cX6_both 55 = .ok (.iload 4, 2) := by decide +kernel
theorem dX6_both_57 : decode cX6_both 57 = .ok (.invokestatic 94, 3) := by decide +kernel
theorem dX6_both_60 : decode cX6_both 60 = .ok (.istore 5, 2) := by decide +kernel
theorem dX6_both_62 : decode cX6_both 62 = .ok (.aload_n 0, 1) := by decide +kernel
theorem dX6_both_63 : decode cX6_both 63 = .ok (.getfield 16, 3) := by decide +kernel
theorem dX6_both_66 : decode cX6_both 66 = .ok (.iload_n 3, 1) := by decide +kernel
theorem dX6_both_67 : decode cX6_both 67 = .ok (.iload 4, 2) := by decide +kernel
theorem dX6_both_69 : decode cX6_both 69 = .ok (.invokestatic 94, 3) := by decide +kernel
theorem dX6_both_72 : decode cX6_both 72 = .ok (.istore 6, 2) := by decide +kernel
theorem dX6_both_74 : decode cX6_both 74 = .ok (.iload_n 1, 1) := by decide +kernel
theorem dX6_both_75 : decode cX6_both 75 = .ok (.ifCond .ne 18, 3) := by decide +kernel
theorem dX6_both_78 : decode cX6_both 78 = .ok (.iload 6, 2) := by decide +kernel
theorem dX6_both_80 : decode cX6_both 80 = .ok (.iload 5, 2) := by decide +kernel
theorem dX6_both_82 : decode cX6_both 82 = .ok (.if_icmp .ge 7, 3) := by decide +kernel
theorem dX6_both_85 : decode cX6_both 85 = .ok (.iconst 1, 1) := by decide +kernel
theorem dX6_both_86 : decode cX6_both 86 = .ok (.goto 19, 3) := by decide +kernel
theorem dX6_both_89 : decode cX6_both 89 = .ok (.iconst 0, 1) := by decide +kernel
theorem dX6_both_90 : decode cX6_both 90 = .ok (.goto 15, 3) := by decide +kernel
theorem dX6_both_93 : decode cX6_both 93 = .ok (.iload 6, 2) := by decide +kernel
theorem dX6_both_95 : decode cX6_both 95 = .ok (.iload 5, 2) := by decide +kernel
theorem dX6_both_97 : decode cX6_both 97 = .ok (.if_icmp .le 7, 3) := by decide +kernel
theorem dX6_both_100 : decode cX6_both 100 = .ok (.iconst 1, 1) := by decide +kernel
theorem dX6_both_101 : decode cX6_both 101 = .ok (.goto 4, 3) := by decide +kernel
theorem dX6_both_104 : decode cX6_both 104 = .ok (.iconst 0, 1) := by decide +kernel
theorem dX6_both_105 : decode cX6_both 105 = .ok (.istore 7, 2) := by decide +kernel
theorem dX6_both_107 : decode cX6_both 107 = .ok (.iload_n 2, 1) := by decide +kernel
theorem dX6_both_108 : decode cX6_both 108 = .ok (.iload 7, 2) := by decide +kernel
theorem dX6_both_110 : decode cX6_both 110 = .ok (.ifCond .eq 7, 3) := by decide +kernel
theorem dX6_both_113 : decode cX6_both 113 = .ok (.iconst 1, 1) := by decide +kernel
theorem dX6_both_114 : decode cX6_both 114 = .ok (.goto 4, 3) := by decide +kernel
theorem dX6_both_117 : decode cX6_both 117 = .ok (.iconst 0, 1) := by decide +kernel
theorem dX6_both_118 : decode cX6_both 118 = .ok (.iadd, 1) := by decide +kernel
theorem dX6_both_119 : decode cX6_both 119 = .ok (.istore_n 2, 1) := by decide +kernel
theorem dX6_both_120 : decode cX6_both 120 = .ok (.aload_n 0, 1) := by decide +kernel
theorem dX6_both_121 : decode cX6_both 121 = .ok (.getfield 28, 3) := by decide +kernel
theorem dX6_both_124 : decode cX6_both 124 = .ok (.bipush 7, 2) := by decide +kernel
theorem dX6_both_126 : decode cX6_both 126 = .ok (.iload_n 3, 1) := by decide +kernel
theorem dX6_both_127 : decode cX6_both 127 = .ok (.imul, 1) := by decide +kernel
theorem dX6_both_128 : decode cX6_both 128 = .ok (.iload 4, 2) := by decide +kernel
theorem dX6_both_130 : decode cX6_both 130 = .ok (.iadd, 1) := by decide +kernel
theorem dX6_both_131 : decode cX6_both 131 = .ok (.iload_n 3, 1) := by decide +kernel
theorem dX6_both_132 : decode cX6_both 132 = .ok (.iload 4, 2) := by decide +kernel
theorem dX6_both_134 : decode cX6_both 134 = .ok (.iadd, 1) := by decide +kernel
theorem dX6_both_135 : decode cX6_both 135 = .ok (.iload 7, 2) := by decide +kernel
theorem dX6_both_137 : decode cX6_both 137 = .ok (.ifCond .eq 8, 3) := by decide +kernel
theorem dX6_both_140 : decode cX6_both 140 = .ok (.iload 6, 2) := by decide +kernel
theorem dX6_both_142 : decode cX6_both 142 = .ok (.goto 5, 3) := by decide +kernel
theorem dX6_both_145 : decode cX6_both 145 = .ok (.iload 5, 2) := by decide +kernel
theorem dX6_both_147 : decode cX6_both 147 = .ok (.isub, 1) := by decide +kernel
theorem dX6_both_148 : decode cX6_both 148 = .ok (.iconst 2, 1) := by decide +kernel
theorem dX6_both_149 : decode cX6_both 149 = .ok (.idiv, 1) := by decide +kernel
theorem dX6_both_150 : decode cX6_both 150 = .ok (.iastore, 1) := by decide +kernel
theorem dX6_both_151 : decode cX6_both 151 = .ok (.iinc 4 1, 3) := by decide +kernel
theorem dX6_both_154 : decode cX6_both 154 = .ok (.goto (-113), 3) := by decide +kernel
theorem dX6_both_157 : decode cX6_both 157 = .ok (.iinc 3 1, 3) := by decide +kernel
theorem dX6_both_160 : decode cX6_both 160 = .ok (.goto (-130), 3) := by decide +kernel
theorem dX6_both_163 : decode cX6_both 163 = .ok (.aload_n 0, 1) := by decide +kernel
theorem dX6_both_164 : decode cX6_both 164 = .ok (.invokevirtual 103, 3) := by decide +kernel
theorem dX6_both_167 : decode cX6_both 167 = .ok (.iconst 0, 1) := by decide +kernel
theorem dX6_both_168 : decode cX6_both 168 = .ok (.istore_n 3, 1) := by decide +kernel
theorem dX6_both_169 : decode cX6_both 169 = .ok (.iload_n 3, 1) := by decide +kernel
theorem dX6_both_170 : decode cX6_both 170 = .ok (.aload_n 0, 1) := by decide +kernel
theorem dX6_both_171 : decode cX6_both 171 = .ok (.getfield 54, 3) := by decide +kernel
theorem dX6_both_174 : decode cX6_both 174 = .ok (.if_icmp .ge 98, 3) := by decide +kernel
theorem dX6_both_177 : decode cX6_both 177 = .ok (.iconst 0, 1) := by decide +kernel
theorem dX6_both_178 : decode cX6_both 178 = .ok (.istore 4, 2) := by decide +kernel
theorem dX6_both_180 : decode cX6_both 180 = .ok (.iload 4, 2) := by decide +kernel
theorem dX6_both_182 : decode cX6_both 182 = .ok (.aload_n 0, 1) := by decide +kernel
theorem dX6_both_183 : decode cX6_both 183 = .ok (.getfield 54, 3) := by decide +kernel
theorem dX6_both_186 : decode cX6_both 186 = .ok (.if_icmp .ge 80, 3) := by decide +kernel
theorem dX6_both_189 : decode cX6_both 189 = .ok (.aload_n 0, 1) := by decide +kernel
theorem dX6_both_190 : decode cX6_both 190 = .ok (.getfield 13, 3) := by decide +kernel
theorem dX6_both_193 : decode cX6_both 193 = .ok (.bipush 6, 2) := by decide +kernel
theorem dX6_both_195 : decode cX6_both 195 = .ok (.iload_n 3, 1) := by decide +kernel
theorem dX6_both_196 : decode cX6_both 196 = .ok (.imul, 1) := by decide +kernel
theorem dX6_both_197 : decode cX6_both 197 = .ok (.iload 4, 2) := by decide +kernel
theorem dX6_both_199 : decode cX6_both 199 = .ok (.iadd, 1) := by decide +kernel
theorem dX6_both_200 : decode cX6_both 200 = .ok (.aload_n 0, 1) := by decide +kernel
theorem dX6_both_201 : decode cX6_both 201 = .ok (.getfield 28, 3) := by decide +kernel
theorem dX6_both_204 : decode cX6_both 204 = .ok (.bipush 7, 2) := by decide +kernel
theorem dX6_both_206 : decode cX6_both 206 = .ok (.iload_n 3, 1) := by decide +kernel
theorem dX6_both_207 : decode cX6_both 207 = .ok (.imul, 1) := by decide +kernel
theorem dX6_both_208 : decode cX6_both 208 = .ok (.bipush 8, 2) := by decide +kernel
theorem dX6_both_210 : decode cX6_both 210 = .ok (.iadd, 1) := by decide +kernel
theorem dX6_both_211 : decode cX6_both 211 = .ok (.iload 4, 2) := by decide +kernel
theorem dX6_both_213 : decode cX6_both 213 = .ok (.iadd, 1) := by decide +kernel
theorem dX6_both_214 : decode cX6_both 214 = .ok (.iaload, 1) := by decide +kernel
theorem dX6_both_215 : decode cX6_both 215 = .ok (.aload_n 0, 1) := by decide +kernel
theorem dX6_both_216 : decode cX6_both 216 = .ok (.getfield 28, 3) := by decide +kernel
theorem dX6_both_219 : decode cX6_both 219 = .ok (.bipush 7, 2) := by decide +kernel
theorem dX6_both_221 : decode cX6_both 221 = .ok (.iload_n 3, 1) := by decide +kernel
theorem dX6_both_222 : decode cX6_both 222 = .ok (.imul, 1) := by decide +kernel
theorem dX6_both_223 : decode cX6_both 223 = .ok (.bipush 7, 2) := by decide +kernel
theorem dX6_both_225 : decode cX6_both 225 = .ok (.iadd, 1) := by decide +kernel
theorem dX6_both_226 : decode cX6_both 226 = .ok (.iload 4, 2) := by decide +kernel
theorem dX6_both_228 : decode cX6_both 228 = .ok (.iadd, 1) := by decide +kernel
theorem dX6_both_229 : decode cX6_both 229 = .ok (.iaload, 1) := by decide +kernel
theorem dX6_both_230 : decode cX6_both 230 = .ok (.isub, 1) := by decide +kernel
theorem dX6_both_231 : decode cX6_both 231 = .ok (.aload_n 0, 1) := by decide +kernel
theorem dX6_both_232 : decode cX6_both 232 = .ok (.getfield 28, 3) := by decide +kernel
theorem dX6_both_235 : decode cX6_both 235 = .ok (.bipush 7, 2) := by decide +kernel
theorem dX6_both_237 : decode cX6_both 237 = .ok (.iload_n 3, 1) := by decide +kernel
theorem dX6_both_238 : decode cX6_both 238 = .ok (.imul, 1) := by decide +kernel
theorem dX6_both_239 : decode cX6_both 239 = .ok (.iconst 1, 1) := by decide +kernel
theorem dX6_both_240 : decode cX6_both 240 = .ok (.iadd, 1) := by decide +kernel
theorem dX6_both_241 : decode cX6_both 241 = .ok (.iload 4, 2) := by decide +kernel
theorem dX6_both_243 : decode cX6_both 243 = .ok (.iadd, 1) := by decide +kernel
theorem dX6_both_244 : decode cX6_both 244 = .ok (.iaload, 1) := by decide +kernel
theorem dX6_both_245 : decode cX6_both 245 = .ok (.isub, 1) := by decide +kernel
theorem dX6_both_246 : decode cX6_both 246 = .ok (.aload_n 0, 1) := by decide +kernel
theorem dX6_both_247 : decode cX6_both 247 = .ok (.getfield 28, 3) := by decide +kernel
theorem dX6_both_250 : decode cX6_both 250 = .ok (.bipush 7, 2) := by decide +kernel
theorem dX6_both_252 : decode cX6_both 252 = .ok (.iload_n 3, 1) := by decide +kernel
theorem dX6_both_253 : decode cX6_both 253 = .ok (.imul, 1) := by decide +kernel
theorem dX6_both_254 : decode cX6_both 254 = .ok (.iload 4, 2) := by decide +kernel
theorem dX6_both_256 : decode cX6_both 256 = .ok (.iadd, 1) := by decide +kernel
theorem dX6_both_257 : decode cX6_both 257 = .ok (.iaload, 1) := by decide +kernel
theorem dX6_both_258 : decode cX6_both 258 = .ok (.iadd, 1) := by decide +kernel
theorem dX6_both_259 : decode cX6_both 259 = .ok (.iastore, 1) := by decide +kernel
theorem dX6_both_260 : decode cX6_both 260 = .ok (.iinc 4 1, 3) := by decide +kernel
theorem dX6_both_263 : decode cX6_both 263 = .ok (.goto (-83), 3) := by decide +kernel
theorem dX6_both_266 : decode cX6_both 266 = .ok (.iinc 3 1, 3) := by decide +kernel
theorem dX6_both_269 : decode cX6_both 269 = .ok (.goto (-100), 3) := by decide +kernel
theorem dX6_both_272 : decode cX6_both 272 = .ok (.iload_n 2, 1) := by decide +kernel
theorem dX6_both_273 : decode cX6_both 273 = .ok (.ireturn, 1) := by decide +kernel
set_option maxRecDepth 20000 in
theorem ggX6_turn_X6_in : GoodIn wsX6_turn wsX6_in := goodIn_r _ [8] (by decide +kernel) (by decide +kernel)
set_option maxRecDepth 20000 in
theorem gX6_turn_X6_in : GoodIn wsX6_turn (va_wsS RX6 62 yX6_in wsX6_in) := goodIn_app (goodIn_of _ (by decide +kernel)) ggX6_turn_X6_in
set_option maxRecDepth 20000 in
theorem ggX6_turn_X6_note : GoodIn wsX6_turn wsX6_note := goodIn_r _ [12, 13, 14, 4, 2, 18, 19, 20, 21, 22, 23, 24, 25, 26, 27, 28, 29, 30, 31, 32, 33, 34, 35, 36, 37, 38, 39, 40] (by decide +kernel) (by decide +kernel)
set_option maxRecDepth 20000 in
theorem gX6_turn_X6_note : GoodIn wsX6_turn (wsV RX6 103 RX6 yX6_note wsX6_note) := goodIn_app (goodIn_of _ (by decide +kernel)) ggX6_turn_X6_note
set_option maxRecDepth 20000 in
theorem ggX6_turn_X6_copy : GoodIn wsX6_turn wsX6_copy := goodIn_r _ [17] (by decide +kernel) (by decide +kernel)
set_option maxRecDepth 20000 in
theorem gX6_turn_X6_copy : GoodIn wsX6_turn (va_wsS RX6 76 yX6_copy wsX6_copy) := goodIn_app (goodIn_of _ (by decide +kernel)) ggX6_turn_X6_copy
theorem dX6_turn_0 : decode cX6_turn 0 = .ok (.iload_n 1, 1) := by decide +kernel
theorem dX6_turn_1 : decode cX6_turn 1 = .ok (.i2l, 1) := by decide +kernel
theorem dX6_turn_2 : decode cX6_turn 2 = .ok (.lconst 1, 1) := by decide +kernel
theorem dX6_turn_3 : decode cX6_turn 3 = .ok (.ldc2_w 124, 3) := by decide +kernel
theorem dX6_turn_6 : decode cX6_turn 6 = .ok (.invokestatic 62, 3) := by decide +kernel
theorem dX6_turn_9 : decode cX6_turn 9 = .ok (.ifCond .ne 5, 3) := by decide +kernel
theorem dX6_turn_12 : decode cX6_turn 12 = .ok (.iconst (-1), 1) := by decide +kernel
theorem dX6_turn_13 : decode cX6_turn 13 = .ok (.ireturn, 1) := by decide +kernel
theorem dX6_turn_14 : decode cX6_turn 14 = .ok (.aload_n 0, 1) := by decide +kernel
theorem dX6_turn_15 : decode cX6_turn 15 = .ok (.invokevirtual 103, 3) := by decide +kernel
theorem dX6_turn_18 : decode cX6_turn 18 = .ok (.aload_n 0, 1) := by decide +kernel
theorem dX6_turn_19 : decode cX6_turn 19 = .ok (.getfield 13, 3) := by decide +kernel
theorem dX6_turn_22 : decode cX6_turn 22 = .ok (.aload_n 0, 1) := by decide +kernel
theorem dX6_turn_23 : decode cX6_turn 23 = .ok (.getfield 25, 3) := by decide +kernel
theorem dX6_turn_26 : decode cX6_turn 26 = .ok (.invokestatic 76, 3) := by decide +kernel
theorem dX6_turn_29 : decode cX6_turn 29 = .ok (.iconst 0, 1) := by decide +kernel
theorem dX6_turn_30 : decode cX6_turn 30 = .ok (.istore_n 2, 1) := by decide +kernel
theorem dX6_turn_31 : decode cX6_turn 31 = .ok (.aload_n 0, 1) := by decide +kernel
theorem dX6_turn_32 : decode cX6_turn 32 = .ok (.getfield 54, 3) := by decide +kernel
theorem dX6_turn_35 : decode cX6_turn 35 = .ok (.iconst 1, 1) := by decide +kernel
theorem dX6_turn_36 : decode cX6_turn 36 = .ok (.isub, 1) := by decide +kernel
theorem dX6_turn_37 : decode cX6_turn 37 = .ok (.istore_n 3, 1) := by decide +kernel
theorem dX6_turn_38 : decode cX6_turn 38 = .ok (.iconst 0, 1) := by decide +kernel
theorem dX6_turn_39 : decode cX6_turn 39 = .ok (.istore 4, 2) := by decide +kernel
theorem dX6_turn_41 : decode cX6_turn 41 = .ok (.iload 4, 2) := by decide +kernel
theorem dX6_turn_43 : decode cX6_turn 43 = .ok (.aload_n 0, 1) := by decide +kernel
theorem dX6_turn_44 : decode cX6_turn 44 = .ok (.getfield 54, 3) := by decide +kernel
theorem dX6_turn_47 : decode cX6_turn 47 = .ok (.if_icmp .ge 180, 3) := by decide +kernel
theorem dX6_turn_50 : decode cX6_turn 50 = .ok (.iconst 0, 1) := by decide +kernel
theorem dX6_turn_51 : decode cX6_turn 51 = .ok (.istore 5, 2) := by decide +kernel
theorem dX6_turn_53 : decode cX6_turn 53 = .ok (.iload 5, 2) := by decide +kernel
theorem dX6_turn_55 : decode cX6_turn 55 = .ok (.aload_n 0, 1) := by decide +kernel
theorem dX6_turn_56 : decode cX6_turn 56 = .ok (.getfield 54, 3) := by decide +kernel
theorem dX6_turn_59 : decode cX6_turn 59 = .ok (.if_icmp .ge 162, 3) := by decide +kernel
theorem dX6_turn_62 : decode cX6_turn 62 = .ok (.iload_n 1, 1) := by decide +kernel
theorem dX6_turn_63 : decode cX6_turn 63 = .ok (.iconst 1, 1) := by decide +kernel
theorem dX6_turn_64 : decode cX6_turn 64 = .ok (.if_icmp .ne 16, 3) := by decide +kernel
theorem dX6_turn_67 : decode cX6_turn 67 = .ok (.bipush 6, 2) := by decide +kernel
theorem dX6_turn_69 : decode cX6_turn 69 = .ok (.iload_n 3, 1) := by decide +kernel
theorem dX6_turn_70 : decode cX6_turn 70 = .ok (.iload 5, 2) := by decide +kernel
theorem dX6_turn_72 : decode cX6_turn 72 = .ok (.isub, 1) := by decide +kernel
theorem dX6_turn_73 : decode cX6_turn 73 = .ok (.imul, 1) := by decide +kernel
theorem dX6_turn_74 : decode cX6_turn 74 = .ok (.iload 4, 2) := by decide +kernel
theorem dX6_turn_76 : decode cX6_turn 76 = .ok (.iadd, 1) := by decide +kernel
theorem dX6_turn_77 : decode cX6_turn 77 = .ok (.goto 85, 3) := by decide +kernel
theorem dX6_turn_80 : decode cX6_turn 80 = .ok (.iload_n 1, 1) := by decide +kernel
theorem dX6_turn_81 : decode cX6_turn 81 = .ok (.iconst 2, 1) := by decide +kernel
theorem dX6_turn_82 : decode cX6_turn 82 = .ok (.if_icmp .ne 18, 3) := by decide +kernel
theorem dX6_turn_85 : decode cX6_turn 85 = .ok (.bipush 6, 2) := by decide +kernel
theorem dX6_turn_87 : decode cX6_turn 87 = .ok (.iload_n 3, 1) := by decide +kernel
theorem dX6_turn_88 : decode cX6_turn 88 = .ok (.iload 4, 2) := by decide +kernel
theorem dX6_turn_90 : decode cX6_turn 90 = .ok (.isub, 1) := by decide +kernel
theorem dX6_turn_91 : decode cX6_turn 91 = .ok (.imul, 1) := by decide +kernel
theorem dX6_turn_92 : decode cX6_turn 92 = .ok (.iload_n 3, 1) := by decide +kernel
theorem dX6_turn_93 : decode cX6_turn 93 = .ok (.iadd, 1) := by decide +kernel
theorem dX6_turn_94 : decode cX6_turn 94 = .ok (.iload 5, 2) := by decide +kernel
theorem dX6_turn_96 : decode cX6_turn 96 = .ok (.isub, 1) := by decide +kernel
theorem dX6_turn_97 : decode cX6_turn 97 = .ok (.goto 65, 3) := by decide +kernel
theorem dX6_turn_100 : decode cX6_turn 100 = .ok (.iload_n 1, 1) := by decide +kernel
theorem dX6_turn_101 : decode cX6_turn 101 = .ok (.iconst 3, 1) := by decide +kernel
theorem dX6_turn_102 : decode cX6_turn 102 = .ok (.if_icmp .ne 16, 3) := by decide +kernel
theorem dX6_turn_105 : decode cX6_turn 105 = .ok (.bipush 6, 2) := by decide +kernel
theorem dX6_turn_107 : decode cX6_turn 107 = .ok (.iload 5, 2) := by decide +kernel
theorem dX6_turn_109 : decode cX6_turn 109 = .ok (.imul, 1) := by decide +kernel
theorem dX6_turn_110 : decode cX6_turn 110 = .ok (.iload_n 3, 1) := by decide +kernel
theorem dX6_turn_111 : decode cX6_turn 111 = .ok (.iadd, 1) := by decide +kernel
theorem dX6_turn_112 : decode cX6_turn 112 = .ok (.iload 4, 2) := by decide +kernel
theorem dX6_turn_114 : decode cX6_turn 114 = .ok (.isub, 1) := by decide +kernel
theorem dX6_turn_115 : decode cX6_turn 115 = .ok (.goto 47, 3) := by decide +kernel
theorem dX6_turn_118 : decode cX6_turn 118 = .ok (.iload_n 1, 1) := by decide +kernel
theorem dX6_turn_119 : decode cX6_turn 119 = .ok (.iconst 4, 1) := by decide +kernel
theorem dX6_turn_120 : decode cX6_turn 120 = .ok (.if_icmp .ne 16, 3) := by decide +kernel
theorem dX6_turn_123 : decode cX6_turn 123 = .ok (.bipush 6, 2) := by decide +kernel
theorem dX6_turn_125 : decode cX6_turn 125 = .ok (.iload 4, 2) := by decide +kernel
theorem dX6_turn_127 : decode cX6_turn 127 = .ok (.imul, 1) := by decide +kernel
theorem dX6_turn_128 : decode cX6_turn 128 = .ok (.iload_n 3, 1) := by decide +kernel
theorem dX6_turn_129 : decode cX6_turn 129 = .ok (.iadd, 1) := by decide +kernel
theorem dX6_turn_130 : decode cX6_turn 130 = .ok (.iload 5, 2) := by decide +kernel
theorem dX6_turn_132 : decode cX6_turn 132 = .ok (.isub, 1) := by decide +kernel
theorem dX6_turn_133 : decode cX6_turn 133 = .ok (.goto 29, 3) := by decide +kernel
theorem dX6_turn_136 : decode cX6_turn 136 = .ok (.iload_n 1, 1) := by decide +kernel
theorem dX6_turn_137 : decode cX6_turn 137 = .ok (.iconst 5, 1) := by decide +kernel
theorem dX6_turn_138 : decode cX6_turn 138 = .ok (.if_icmp .ne 16, 3) := by decide +kernel
theorem dX6_turn_141 : decode cX6_turn 141 = .ok (.bipush 6, 2) := by decide +kernel
theorem dX6_turn_143 : decode cX6_turn 143 = .ok (.iload_n 3, 1) := by decide +kernel
theorem dX6_turn_144 : decode cX6_turn 144 = .ok (.iload 4, 2) := by decide +kernel
theorem dX6_turn_146 : decode cX6_turn 146 = .ok (.isub, 1) := by decide +kernel
theorem dX6_turn_147 : decode cX6_turn 147 = .ok (.imul, 1) := by decide +kernel
theorem dX6_turn_148 : decode cX6_turn 148 = .ok (.iload 5, 2) := by decide +kernel
theorem dX6_turn_150 : decode cX6_turn 150 = .ok (.iadd, 1) := by decide +kernel
theorem dX6_turn_151 : decode cX6_turn 151 = .ok (.goto 11, 3) := by decide +kernel
theorem dX6_turn_154 : decode cX6_turn 154 = .ok (.bipush 6, 2) := by decide +kernel
theorem dX6_turn_156 : decode cX6_turn 156 = .ok (.iload 5, 2) := by decide +kernel
theorem dX6_turn_158 : decode cX6_turn 158 = .ok (.imul, 1) := by decide +kernel
theorem dX6_turn_159 : decode cX6_turn 159 = .ok (.iload 4, 2) := by decide +kernel
theorem dX6_turn_161 : decode cX6_turn 161 = .ok (.iadd, 1) := by decide +kernel
theorem dX6_turn_162 : decode cX6_turn 162 = .ok (.istore 6, 2) := by decide +kernel
theorem dX6_turn_164 : decode cX6_turn 164 = .ok (.iload_n 2, 1) := by decide +kernel
theorem dX6_turn_165 : decode cX6_turn 165 = .ok (.aload_n 0, 1) := by decide +kernel
theorem dX6_turn_166 : decode cX6_turn 166 = .ok (.getfield 25, 3) := by decide +kernel
theorem dX6_turn_169 : decode cX6_turn 169 = .ok (.iload 6, 2) := by decide +kernel
theorem dX6_turn_171 : decode cX6_turn 171 = .ok (.iaload, 1) := by decide +kernel
theorem dX6_turn_172 : decode cX6_turn 172 = .ok (.aload_n 0, 1) := by decide +kernel
theorem dX6_turn_173 : decode cX6_turn 173 = .ok (.getfield 13, 3) := by decide +kernel
theorem dX6_turn_176 : decode cX6_turn 176 = .ok (.bipush 6, 2) := by decide +kernel
theorem dX6_turn_178 : decode cX6_turn 178 = .ok (.iload 4, 2) := by decide +kernel
theorem dX6_turn_180 : decode cX6_turn 180 = .ok (.imul, 1) := by decide +kernel
theorem dX6_turn_181 : decode cX6_turn 181 = .ok (.iload 5, 2) := by decide +kernel
theorem dX6_turn_183 : decode cX6_turn 183 = .ok (.iadd, 1) := by decide +kernel
theorem dX6_turn_184 : decode cX6_turn 184 = .ok (.iaload, 1) := by decide +kernel
theorem dX6_turn_185 : decode cX6_turn 185 = .ok (.if_icmp .eq 7, 3) := by decide +kernel
theorem dX6_turn_188 : decode cX6_turn 188 = .ok (.iconst 1, 1) := by decide +kernel
theorem dX6_turn_189 : decode cX6_turn 189 = .ok (.goto 4, 3) := by decide +kernel
theorem dX6_turn_192 : decode cX6_turn 192 = .ok (.iconst 0, 1) := by decide +kernel
theorem dX6_turn_193 : decode cX6_turn 193 = .ok (.iadd, 1) := by decide +kernel
theorem dX6_turn_194 : decode cX6_turn 194 = .ok (.istore_n 2, 1) := by decide +kernel
theorem dX6_turn_195 : decode cX6_turn 195 = .ok (.aload_n 0, 1) := by decide +kernel
theorem dX6_turn_196 : decode cX6_turn 196 = .ok (.getfield 13, 3) := by decide +kernel
theorem dX6_turn_199 : decode cX6_turn 199 = .ok (.bipush 6, 2) := by decide +kernel
theorem dX6_turn_201 : decode cX6_turn 201 = .ok (.iload 4, 2) := by decide +kernel
theorem dX6_turn_203 : decode cX6_turn 203 = .ok (.imul, 1) := by decide +kernel
theorem dX6_turn_204 : decode cX6_turn 204 = .ok (.iload 5, 2) := by decide +kernel
theorem dX6_turn_206 : decode cX6_turn 206 = .ok (.iadd, 1) := by decide +kernel
theorem dX6_turn_207 : decode cX6_turn 207 = .ok (.aload_n 0, 1) := by decide +kernel
theorem dX6_turn_208 : decode cX6_turn 208 = .ok (.getfield 25, 3) := by decide +kernel
theorem dX6_turn_211 : decode cX6_turn 211 = .ok (.iload 6, 2) := by decide +kernel
theorem dX6_turn_213 : decode cX6_turn 213 = .ok (.iaload, 1) := by decide +kernel
theorem dX6_turn_214 : decode cX6_turn 214 = .ok (.iastore, 1) := by decide +kernel
theorem dX6_turn_215 : decode cX6_turn 215 = .ok (.iinc 5 1, 3) := by decide +kernel
theorem dX6_turn_218 : decode cX6_turn 218 = .ok (.goto (-165), 3) := by decide +kernel
theorem dX6_turn_221 : decode cX6_turn 221 = .ok (.iinc 4 1, 3) := by decide +kernel
theorem dX6_turn_224 : decode cX6_turn 224 = .ok (.goto (-183), 3) := by decide +kernel
theorem dX6_turn_227 : decode cX6_turn 227 = .ok (.iload_n 2, 1) := by decide +kernel
theorem dX6_turn_228 : decode cX6_turn 228 = .ok (.ireturn, 1) := by decide +kernel
theorem dX6_isAcross_0 : decode cX6_isAcross 0 = .ok (.iload_n 1, 1) := by decide +kernel
theorem dX6_isAcross_1 : decode cX6_isAcross 1 = .ok (.iload_n 2, 1) := by decide +kernel
theorem dX6_isAcross_2 : decode cX6_isAcross 2 = .ok (.iadd, 1) := by decide +kernel
theorem dX6_isAcross_3 : decode cX6_isAcross 3 = .ok (.istore_n 3, 1) := by decide +kernel
theorem dX6_isAcross_4 : decode cX6_isAcross 4 = .ok (.iconst 0, 1) := by decide +kernel
theorem dX6_isAcross_5 : decode cX6_isAcross 5 = .ok (.istore 4, 2) := by decide +kernel
theorem dX6_isAcross_7 : decode cX6_isAcross 7 = .ok (.iload 4, 2) := by decide +kernel
theorem dX6_isAcross_9 : decode cX6_isAcross 9 = .ok (.iload_n 2, 1) := by decide +kernel
theorem dX6_isAcross_10 : decode cX6_isAcross 10 = .ok (.if_icmp .ge 23, 3) := by decide +kernel
theorem dX6_isAcross_13 : decode cX6_isAcross 13 = .ok (.iload_n 3, 1) := by decide +kernel
theorem dX6_isAcross_14 : decode cX6_isAcross 14 = .ok (.aload_n 0, 1) := by decide +kernel
theorem dX6_isAcross_15 : decode cX6_isAcross 15 = .ok (.bipush 6, 2) := by decide +kernel
theorem dX6_isAcross_17 : decode cX6_isAcross 17 = .ok (.iload_n 1, 1) := by decide +kernel
theorem dX6_isAcross_18 : decode cX6_isAcross 18 = .ok (.iconst 1, 1) := by decide +kernel
theorem dX6_isAcross_19 : decode cX6_isAcross 19 = .ok (.isub, 1) := by decide +kernel
theorem dX6_isAcross_20 : decode cX6_isAcross 20 = .ok (.imul, 1) := by decide +kernel
theorem dX6_isAcross_21 : decode cX6_isAcross 21 = .ok (.iload 4, 2) := by decide +kernel
theorem dX6_isAcross_23 : decode cX6_isAcross 23 = .ok (.iadd, 1) := by decide +kernel
theorem dX6_isAcross_24 : decode cX6_isAcross 24 = .ok (.iaload, 1) := by decide +kernel
theorem dX6_isAcross_25 : decode cX6_isAcross 25 = .ok (.iadd, 1) := by decide +kernel
theorem dX6_isAcross_26 : decode cX6_isAcross 26 = .ok (.istore_n 3, 1) := by decide +kernel
theorem dX6_isAcross_27 : decode cX6_isAcross 27 = .ok (.iinc 4 1, 3) := by decide +kernel
theorem dX6_isAcross_30 : decode cX6_isAcross 30 = .ok (.goto (-23), 3) := by decide +kernel
theorem dX6_isAcross_33 : decode cX6_isAcross 33 = .ok (.iload_n 3, 1) := by decide +kernel
theorem dX6_isAcross_34 : decode cX6_isAcross 34 = .ok (.iconst 2, 1) := by decide +kernel
theorem dX6_isAcross_35 : decode cX6_isAcross 35 = .ok (.irem, 1) := by decide +kernel
theorem dX6_isAcross_36 : decode cX6_isAcross 36 = .ok (.ifCond .ne 7, 3) := by decide +kernel
theorem dX6_isAcross_39 : decode cX6_isAcross 39 = .ok (.iconst 1, 1) := by decide +kernel
theorem dX6_isAcross_40 : decode cX6_isAcross 40 = .ok (.goto 4, 3) := by decide +kernel
theorem dX6_isAcross_43 : decode cX6_isAcross 43 = .ok (.iconst 0, 1) := by decide +kernel
theorem dX6_isAcross_44 : decode cX6_isAcross 44 = .ok (.ireturn, 1) := by decide +kernel
theorem dX6_isDown_0 : decode cX6_isDown 0 = .ok (.iload_n 1, 1) := by decide +kernel
theorem dX6_isDown_1 : decode cX6_isDown 1 = .ok (.iload_n 2, 1) := by decide +kernel
theorem dX6_isDown_2 : decode cX6_isDown 2 = .ok (.iadd, 1) := by decide +kernel
theorem dX6_isDown_3 : decode cX6_isDown 3 = .ok (.istore_n 3, 1) := by decide +kernel
theorem dX6_isDown_4 : decode cX6_isDown 4 = .ok (.iconst 0, 1) := by decide +kernel
theorem dX6_isDown_5 : decode cX6_isDown 5 = .ok (.istore 4, 2) := by decide +kernel
theorem dX6_isDown_7 : decode cX6_isDown 7 = .ok (.iload 4, 2) := by decide +kernel
theorem dX6_isDown_9 : decode cX6_isDown 9 = .ok (.iload_n 1, 1) := by decide +kernel
theorem dX6_isDown_10 : decode cX6_isDown 10 = .ok (.if_icmp .ge 23, 3) := by decide +kernel
theorem dX6_isDown_13 : decode cX6_isDown 13 = .ok (.iload_n 3, 1) := by decide +kernel
theorem dX6_isDown_14 : decode cX6_isDown 14 = .ok (.aload_n 0, 1) := by decide +kernel
theorem dX6_isDown_15 : decode cX6_isDown 15 = .ok (.bipush 6, 2) := by decide +kernel
theorem dX6_isDown_17 : decode cX6_isDown 17 = .ok (.iload 4, 2) := by decide +kernel
theorem dX6_isDown_19 : decode cX6_isDown 19 = .ok (.imul, 1) := by decide +kernel
theorem dX6_isDown_20 : decode cX6_isDown 20 = .ok (.iload_n 2, 1) := by decide +kernel
theorem dX6_isDown_21 : decode cX6_isDown 21 = .ok (.iadd, 1) := by decide +kernel
theorem dX6_isDown_22 : decode cX6_isDown 22 = .ok (.iconst 1, 1) := by decide +kernel
theorem dX6_isDown_23 : decode cX6_isDown 23 = .ok (.isub, 1) := by decide +kernel
theorem dX6_isDown_24 : decode cX6_isDown 24 = .ok (.iaload, 1) := by decide +kernel
theorem dX6_isDown_25 : decode cX6_isDown 25 = .ok (.iadd, 1) := by decide +kernel
theorem dX6_isDown_26 : decode cX6_isDown 26 = .ok (.istore_n 3, 1) := by decide +kernel
theorem dX6_isDown_27 : decode cX6_isDown 27 = .ok (.iinc 4 1, 3) := by decide +kernel
theorem dX6_isDown_30 : decode cX6_isDown 30 = .ok (.goto (-23), 3) := by decide +kernel
theorem dX6_isDown_33 : decode cX6_isDown 33 = .ok (.iload_n 3, 1) := by decide +kernel
theorem dX6_isDown_34 : decode cX6_isDown 34 = .ok (.iconst 2, 1) := by decide +kernel
theorem dX6_isDown_35 : decode cX6_isDown 35 = .ok (.irem, 1) := by decide +kernel
theorem dX6_isDown_36 : decode cX6_isDown 36 = .ok (.ifCond .eq 7, 3) := by decide +kernel
theorem dX6_isDown_39 : decode cX6_isDown 39 = .ok (.iconst 1, 1) := by decide +kernel
theorem dX6_isDown_40 : decode cX6_isDown 40 = .ok (.goto 4, 3) := by decide +kernel
theorem dX6_isDown_43 : decode cX6_isDown 43 = .ok (.iconst 0, 1) := by decide +kernel
theorem dX6_isDown_44 : decode cX6_isDown 44 = .ok (.ireturn, 1) := by decide +kernel
set_option maxRecDepth 20000 in
theorem ggX6_across_X6_in : GoodIn wsX6_across wsX6_in := goodIn_r _ [6] (by decide +kernel) (by decide +kernel)
set_option maxRecDepth 20000 in
theorem gX6_across_X6_in : GoodIn wsX6_across (va_wsS RX6 62 yX6_in wsX6_in) := goodIn_app (goodIn_of _ (by decide +kernel)) ggX6_across_X6_in
set_option maxRecDepth 20000 in
theorem ggX6_across_X6_isAcross : GoodIn wsX6_across wsX6_isAcross := goodIn_r _ [9] (by decide +kernel) (by decide +kernel)
set_option maxRecDepth 20000 in
theorem gX6_across_X6_isAcross : GoodIn wsX6_across (va_wsS RX6 126 yX6_isAcross wsX6_isAcross) := goodIn_app (goodIn_of _ (by decide +kernel)) ggX6_across_X6_isAcross
theorem dX6_across_0 : decode cX6_across 0 = .ok (.iload_n 1, 1) := by decide +kernel
theorem dX6_across_1 : decode cX6_across 1 = .ok (.i2l, 1) := by decide +kernel
theorem dX6_across_2 : decode cX6_across 2 = .ok (.lconst 1, 1) := by decide +kernel
theorem dX6_across_3 : decode cX6_across 3 = .ok (.aload_n 0, 1) := by decide +kernel
theorem dX6_across_4 : decode cX6_across 4 = .ok (.getfield 54, 3) := by decide +kernel
theorem dX6_across_7 : decode cX6_across 7 = .ok (.i2l, 1) := by decide +kernel
theorem dX6_across_8 : decode cX6_across 8 = .ok (.invokestatic 62, 3) := by decide +kernel
theorem dX6_across_11 : decode cX6_across 11 = .ok (.ifCond .eq 17, 3) := by decide +kernel
theorem dX6_across_14 : decode cX6_across 14 = .ok (.iload_n 2, 1) := by decide +kernel
theorem dX6_across_15 : decode cX6_across 15 = .ok (.i2l, 1) := by decide +kernel
theorem dX6_across_16 : decode cX6_across 16 = .ok (.lconst 0, 1) := by decide +kernel
theorem dX6_across_17 : decode cX6_across 17 = .ok (.aload_n 0, 1) := by decide +kernel
theorem dX6_across_18 : decode cX6_across 18 = .ok (.getfield 54, 3) := by decide +kernel
theorem dX6_across_21 : decode cX6_across 21 = .ok (.i2l, 1) := by decide +kernel
theorem dX6_across_22 : decode cX6_across 22 = .ok (.invokestatic 62, 3) := by decide +kernel
theorem dX6_across_25 : decode cX6_across 25 = .ok (.ifCond .ne 5, 3) := by decide +kernel
theorem dX6_across_28 : decode cX6_across 28 = .ok (.iconst (-1), 1) := by decide +kernel
theorem dX6_across_29 : decode cX6_across 29 = .ok (.ireturn, 1) := by decide +kernel
theorem dX6_across_30 : decode cX6_across 30 = .ok (.aload_n 0, 1) := by decide +kernel
theorem dX6_across_31 : decode cX6_across 31 = .ok (.getfield 13, 3) := by decide +kernel
theorem dX6_across_34 : decode cX6_across 34 = .ok (.iload_n 1, 1) := by decide +kernel
theorem dX6_across_35 : decode cX6_across 35 = .ok (.iload_n 2, 1) := by decide +kernel
theorem dX6_across_36 : decode cX6_across 36 = .ok (.invokestatic 126, 3) := by decide +kernel
theorem dX6_across_39 : decode cX6_across 39 = .ok (.ifCond .eq 7, 3) := by decide +kernel
theorem dX6_across_42 : decode cX6_across 42 = .ok (.iconst 1, 1) := by decide +kernel
theorem dX6_across_43 : decode cX6_across 43 = .ok (.goto 4, 3) := by decide +kernel
theorem dX6_across_46 : decode cX6_across 46 = .ok (.iconst 0, 1) := by decide +kernel
theorem dX6_across_47 : decode cX6_across 47 = .ok (.ireturn, 1) := by decide +kernel
set_option maxRecDepth 20000 in
theorem ggX6_down_X6_in : GoodIn wsX6_down wsX6_in := goodIn_r _ [6] (by decide +kernel) (by decide +kernel)
set_option maxRecDepth 20000 in
theorem gX6_down_X6_in : GoodIn wsX6_down (va_wsS RX6 62 yX6_in wsX6_in) := goodIn_app (goodIn_of _ (by decide +kernel)) ggX6_down_X6_in
set_option maxRecDepth 20000 in
theorem ggX6_down_X6_isDown : GoodIn wsX6_down wsX6_isDown := goodIn_r _ [9] (by decide +kernel) (by decide +kernel)
set_option maxRecDepth 20000 in
theorem gX6_down_X6_isDown : GoodIn wsX6_down (va_wsS RX6 129 yX6_isDown wsX6_isDown) := goodIn_app (goodIn_of _ (by decide +kernel)) ggX6_down_X6_isDown
theorem dX6_down_0 : decode cX6_down 0 = .ok (.iload_n 1, 1) := by decide +kernel
theorem dX6_down_1 : decode cX6_down 1 = .ok (.i2l, 1) := by decide +kernel
theorem dX6_down_2 : decode cX6_down 2 = .ok (.lconst 0, 1) := by decide +kernel
theorem dX6_down_3 : decode cX6_down 3 = .ok (.aload_n 0, 1) := by decide +kernel
theorem dX6_down_4 : decode cX6_down 4 = .ok (.getfield 54, 3) := by decide +kernel
theorem dX6_down_7 : decode cX6_down 7 = .ok (.i2l, 1) := by decide +kernel
theorem dX6_down_8 : decode cX6_down 8 = .ok (.invokestatic 62, 3) := by decide +kernel
theorem dX6_down_11 : decode cX6_down 11 = .ok (.ifCond .eq 17, 3) := by decide +kernel
theorem dX6_down_14 : decode cX6_down 14 = .ok (.iload_n 2, 1) := by decide +kernel
theorem dX6_down_15 : decode cX6_down 15 = .ok (.i2l, 1) := by decide +kernel
theorem dX6_down_16 : decode cX6_down 16 = .ok (.lconst 1, 1) := by decide +kernel
theorem dX6_down_17 : decode cX6_down 17 = .ok (.aload_n 0, 1) := by decide +kernel
theorem dX6_down_18 : decode cX6_down 18 = .ok (.getfield 54, 3) := by decide +kernel
theorem dX6_down_21 : decode cX6_down 21 = .ok (.i2l, 1) := by decide +kernel
theorem dX6_down_22 : decode cX6_down 22 = .ok (.invokestatic 62, 3) := by decide +kernel
theorem dX6_down_25 : decode cX6_down 25 = .ok (.ifCond .ne 5, 3) := by decide +kernel
theorem dX6_down_28 : decode cX6_down 28 = .ok (.iconst (-1), 1) := by decide +kernel
theorem dX6_down_29 : decode cX6_down 29 = .ok (.ireturn, 1) := by decide +kernel
theorem dX6_down_30 : decode cX6_down 30 = .ok (.aload_n 0, 1) := by decide +kernel
theorem dX6_down_31 : decode cX6_down 31 = .ok (.getfield 13, 3) := by decide +kernel
theorem dX6_down_34 : decode cX6_down 34 = .ok (.iload_n 1, 1) := by decide +kernel
theorem dX6_down_35 : decode cX6_down 35 = .ok (.iload_n 2, 1) := by decide +kernel
theorem dX6_down_36 : decode cX6_down 36 = .ok (.invokestatic 129, 3) := by decide +kernel
theorem dX6_down_39 : decode cX6_down 39 = .ok (.ifCond .eq 7, 3) := by decide +kernel
theorem dX6_down_42 : decode cX6_down 42 = .ok (.iconst 1, 1) := by decide +kernel
theorem dX6_down_43 : decode cX6_down 43 = .ok (.goto 4, 3) := by decide +kernel
theorem dX6_down_46 : decode cX6_down 46 = .ok (.iconst 0, 1) := by decide +kernel
theorem dX6_down_47 : decode cX6_down 47 = .ok (.ireturn, 1) := by decide +kernel
set_option maxRecDepth 20000 in
theorem ggX6_isDrawn_X6_isDown : GoodIn wsX6_isDrawn wsX6_isDown := goodIn_r _ [4] (by decide +kernel) (by decide +kernel)
set_option maxRecDepth 20000 in
theorem gX6_isDrawn_X6_isDown : GoodIn wsX6_isDrawn (va_wsS RX6 129 yX6_isDown wsX6_isDown) := goodIn_app (goodIn_of _ (by decide +kernel)) ggX6_isDrawn_X6_isDown
set_option maxRecDepth 20000 in
theorem ggX6_isDrawn_X6_isAcross : GoodIn wsX6_isDrawn wsX6_isAcross := goodIn_r _ [7] (by decide +kernel) (by decide +kernel)
set_option maxRecDepth 20000 in
theorem gX6_isDrawn_X6_isAcross : GoodIn wsX6_isDrawn (va_wsS RX6 126 yX6_isAcross wsX6_isAcross) := goodIn_app (goodIn_of _ (by decide +kernel)) ggX6_isDrawn_X6_isAcross
theorem dX6_isDrawn_0 : decode cX6_isDrawn 0 = .ok (.iload_n 3, 1) := by decide +kernel
theorem dX6_isDrawn_1 : decode cX6_isDrawn 1 = .ok (.ifCond .ne 14, 3) := by decide +kernel
theorem dX6_isDrawn_4 : decode cX6_isDrawn 4 = .ok (.aload_n 0, 1) := by decide +kernel
theorem dX6_isDrawn_5 : decode cX6_isDrawn 5 = .ok (.iload_n 1, 1) := by decide +kernel
theorem dX6_isDrawn_6 : decode cX6_isDrawn 6 = .ok (.iconst 1, 1) := by decide +kernel
theorem dX6_isDrawn_7 : decode cX6_isDrawn 7 = .ok (.isub, 1) := by decide +kernel
theorem dX6_isDrawn_8 : decode cX6_isDrawn 8 = .ok (.iload_n 2, 1) := by decide +kernel
theorem dX6_isDrawn_9 : decode cX6_isDrawn 9 = .ok (.invokestatic 129, 3) := by decide +kernel
theorem dX6_isDrawn_12 : decode cX6_isDrawn 12 = .ok (.goto 39, 3) := by decide +kernel
theorem dX6_isDrawn_15 : decode cX6_isDrawn 15 = .ok (.iload_n 3, 1) := by decide +kernel
theorem dX6_isDrawn_16 : decode cX6_isDrawn 16 = .ok (.iconst 1, 1) := by decide +kernel
theorem dX6_isDrawn_17 : decode cX6_isDrawn 17 = .ok (.if_icmp .ne 12, 3) := by decide +kernel
theorem dX6_isDrawn_20 : decode cX6_isDrawn 20 = .ok (.aload_n 0, 1) := by decide +kernel
theorem dX6_isDrawn_21 : decode cX6_isDrawn 21 = .ok (.iload_n 1, 1) := by decide +kernel
theorem dX6_isDrawn_22 : decode cX6_isDrawn 22 = .ok (.iload_n 2, 1) := by decide +kernel
theorem dX6_isDrawn_23 : decode cX6_isDrawn 23 = .ok (.invokestatic 126, 3) := by decide +kernel
theorem dX6_isDrawn_26 : decode cX6_isDrawn 26 = .ok (.goto 25, 3) := by decide +kernel
theorem dX6_isDrawn_29 : decode cX6_isDrawn 29 = .ok (.iload_n 3, 1) := by decide +kernel
theorem dX6_isDrawn_30 : decode cX6_isDrawn 30 = .ok (.iconst 2, 1) := by decide +kernel
theorem dX6_isDrawn_31 : decode cX6_isDrawn 31 = .ok (.if_icmp .ne 12, 3) := by decide +kernel
theorem dX6_isDrawn_34 : decode cX6_isDrawn 34 = .ok (.aload_n 0, 1) := by decide +kernel
theorem dX6_isDrawn_35 : decode cX6_isDrawn 35 = .ok (.iload_n 1, 1) := by decide +kernel
theorem dX6_isDrawn_36 : decode cX6_isDrawn 36 = .ok (.iload_n 2, 1) := by decide +kernel
theorem dX6_isDrawn_37 : decode cX6_isDrawn 37 = .ok (.invokestatic 129, 3) := by decide +kernel
theorem dX6_isDrawn_40 : decode cX6_isDrawn 40 = .ok (.goto 11, 3) := by decide +kernel
theorem dX6_isDrawn_43 : decode cX6_isDrawn 43 = .ok (.aload_n 0, 1) := by decide +kernel
theorem dX6_isDrawn_44 : decode cX6_isDrawn 44 = .ok (.iload_n 1, 1) := by decide +kernel
theorem dX6_isDrawn_45 : decode cX6_isDrawn 45 = .ok (.iload_n 2, 1) := by decide +kernel
theorem dX6_isDrawn_46 : decode cX6_isDrawn 46 = .ok (.iconst 1, 1) := by decide +kernel
theorem dX6_isDrawn_47 : decode cX6_isDrawn 47 = .ok (.isub, 1) := by decide +kernel
theorem dX6_isDrawn_48 : decode cX6_isDrawn 48 = .ok (.invokestatic 126, 3) := by decide +kernel
theorem dX6_isDrawn_51 : decode cX6_isDrawn 51 = .ok (.ireturn, 1) := by decide +kernel
set_option maxRecDepth 20000 in
theorem ggX6_findEnds_X6_isDrawn : GoodIn wsX6_findEnds wsX6_isDrawn := goodIn_r _ [7, 8, 9, 6, 10, 11, 12, 13] (by decide +kernel) (by decide +kernel)
set_option maxRecDepth 20000 in
theorem gX6_findEnds_X6_isDrawn : GoodIn wsX6_findEnds (va_wsS RX6 132 yX6_isDrawn wsX6_isDrawn) := goodIn_app (goodIn_of _ (by decide +kernel)) ggX6_findEnds_X6_isDrawn
theorem dX6_findEnds_0 : decode cX6_findEnds 0 = .ok (.iconst 0, 1) := by decide +kernel
theorem dX6_findEnds_1 : decode cX6_findEnds 1 = .ok (.istore_n 3, 1) := by decide +kernel
theorem dX6_findEnds_2 : decode cX6_findEnds 2 = .ok (.iconst 0, 1) := by decide +kernel
theorem dX6_findEnds_3 : decode cX6_findEnds 3 = .ok (.istore 4, 2) := by decide +kernel
theorem dX6_findEnds_5 : decode cX6_findEnds 5 = .ok (.iload 4, 2) := by decide +kernel
theorem dX6_findEnds_7 : decode cX6_findEnds 7 = .ok (.iconst 4, 1) := by decide +kernel
theorem dX6_findEnds_8 : decode cX6_findEnds 8 = .ok (.iload_n 2, 1) := by decide +kernel
theorem dX6_findEnds_9 : decode cX6_findEnds 9 = .ok (.imul, 1) := by decide +kernel
theorem dX6_findEnds_10 : decode cX6_findEnds 10 = .ok (.if_icmp .ge 137, 3) := by decide +kernel
theorem dX6_findEnds_13 : decode cX6_findEnds 13 = .ok (.iload 4, 2) := by decide +kernel
theorem dX6_findEnds_15 : decode cX6_findEnds 15 = .ok (.iload_n 2, 1) := by decide +kernel
theorem dX6_findEnds_16 : decode cX6_findEnds 16 = .ok (.idiv, 1) := by decide +kernel
theorem dX6_findEnds_17 : decode cX6_findEnds 17 = .ok (.istore 5, 2) := by decide +kernel
theorem dX6_findEnds_19 : decode cX6_findEnds 19 = .ok (.iload 4, 2) := by decide +kernel
theorem dX6_findEnds_21 : decode cX6_findEnds 21 = .ok (.iload_n 2, 1) := by decide +kernel
theorem dX6_findEnds_22 : decode cX6_findEnds 22 = .ok (.irem, 1) := by decide +kernel
theorem dX6_findEnds_23 : decode cX6_findEnds 23 = .ok (.istore 6, 2) := by decide +kernel
theorem dX6_findEnds_25 : decode cX6_findEnds 25 = .ok (.iload 5, 2) := by decide +kernel
theorem dX6_findEnds_27 : decode cX6_findEnds 27 = .ok (.ifCond .ne 7, 3) := by decide +kernel
theorem dX6_findEnds_30 : decode cX6_findEnds 30 = .ok (.iconst 1, 1) := by decide +kernel
theorem dX6_findEnds_31 : decode cX6_findEnds 31 = .ok (.goto 30, 3) := by decide +kernel
theorem dX6_findEnds_34 : decode cX6_findEnds 34 = .ok (.iload 5, 2) := by decide +kernel
theorem dX6_findEnds_36 : decode cX6_findEnds 36 = .ok (.iconst 1, 1) := by decide +kernel
theorem dX6_findEnds_37 : decode cX6_findEnds 37 = .ok (.if_icmp .ne 10, 3) := by decide +kernel
theorem dX6_findEnds_40 : decode cX6_findEnds 40 = .ok (.iload 6, 2) := by decide +kernel
theorem dX6_findEnds_42 : decode cX6_findEnds 42 = .ok (.iconst 1, 1) := by decide +kernel
theorem dX6_findEnds_43 : decode cX6_findEnds 43 = .ok (.iadd, 1) := by decide +kernel
theorem dX6_findEnds_44 : decode cX6_findEnds 44 = .ok (.goto 17, 3) := by decide +kernel
theorem dX6_findEnds_47 : decode cX6_findEnds 47 = .ok (.iload 5, 2) := by decide +kernel
theorem dX6_findEnds_49 : decode cX6_findEnds 49 = .ok (.iconst 2, 1) := by decide +kernel
theorem dX6_findEnds_50 : decode cX6_findEnds 50 = .ok (.if_icmp .ne 7, 3) := by decide +kernel
theorem dX6_findEnds_53 : decode cX6_findEnds 53 = .ok (.iload_n 2, 1) := by decide +kernel
theorem dX6_findEnds_54 : decode cX6_findEnds 54 = .ok (.goto 7, 3) := by decide +kernel
theorem dX6_findEnds_57 : decode cX6_findEnds 57 = .ok (.iload_n 2, 1) := by decide +kernel
theorem dX6_findEnds_58 : decode cX6_findEnds 58 = .ok (.iload 6, 2) := by decide +kernel
theorem dX6_findEnds_60 : decode cX6_findEnds 60 = .ok (.isub, 1) := by decide +kernel
theorem dX6_findEnds_61 : decode cX6_findEnds 61 = .ok (.istore 7, 2) := by decide +kernel
theorem dX6_findEnds_63 : decode cX6_findEnds 63 = .ok (.iload 5, 2) := by decide +kernel
theorem dX6_findEnds_65 : decode cX6_findEnds 65 = .ok (.ifCond .ne 10, 3) := by decide +kernel
theorem dX6_findEnds_68 : decode cX6_findEnds 68 = .ok (.iload 6, 2) := by decide +kernel
theorem dX6_findEnds_70 : decode cX6_findEnds 70 = .ok (.iconst 1, 1) := by decide +kernel
theorem dX6_findEnds_71 : decode cX6_findEnds 71 = .ok (.iadd, 1) := by decide +kernel
theorem dX6_findEnds_72 : decode cX6_findEnds 72 = .ok (.goto 27, 3) := by decide +kernel
theorem dX6_findEnds_75 : decode cX6_findEnds 75 = .ok (.iload 5, 2) := by decide +kernel
theorem dX6_findEnds_77 : decode cX6_findEnds 77 = .ok (.iconst 1, 1) := by decide +kernel
theorem dX6_findEnds_78 : decode cX6_findEnds 78 = .ok (.if_icmp .ne 7, 3) := by decide +kernel
theorem dX6_findEnds_81 : decode cX6_findEnds 81 = .ok (.iload_n 2, 1) := by decide +kernel
theorem dX6_findEnds_82 : decode cX6_findEnds 82 = .ok (.goto 17, 3) := by decide +kernel
theorem dX6_findEnds_85 : decode cX6_findEnds 85 = .ok (.iload 5, 2) := by decide +kernel
theorem dX6_findEnds_87 : decode cX6_findEnds 87 = .ok (.iconst 2, 1) := by decide +kernel
theorem dX6_findEnds_88 : decode cX6_findEnds 88 = .ok (.if_icmp .ne 10, 3) := by decide +kernel
theorem dX6_findEnds_91 : decode cX6_findEnds 91 = .ok (.iload_n 2, 1) := by decide +kernel
theorem dX6_findEnds_92 : decode cX6_findEnds 92 = .ok (.iload 6, 2) := by decide +kernel
theorem dX6_findEnds_94 : decode cX6_findEnds 94 = .ok (.isub, 1) := by decide +kernel
theorem dX6_findEnds_95 : decode cX6_findEnds 95 = .ok (.goto 4, 3) := by decide +kernel
theorem dX6_findEnds_98 : decode cX6_findEnds 98 = .ok (.iconst 1, 1) := by decide +kernel
theorem dX6_findEnds_99 : decode cX6_findEnds 99 = .ok (.istore 8, 2) := by decide +kernel
theorem dX6_findEnds_101 : decode cX6_findEnds 101 = .ok (.aload_n 1, 1) := by decide +kernel
theorem dX6_findEnds_102 : decode cX6_findEnds 102 = .ok (.iload 7, 2) := by decide +kernel
theorem dX6_findEnds_104 : decode cX6_findEnds 104 = .ok (.iload 8, 2) := by decide +kernel
theorem dX6_findEnds_106 : decode cX6_findEnds 106 = .ok (.iload 5, 2) := by decide +kernel
theorem dX6_findEnds_108 : decode cX6_findEnds 108 = .ok (.invokestatic 132, 3) := by decide +kernel
theorem dX6_findEnds_111 : decode cX6_findEnds 111 = .ok (.ifCond .eq 30, 3) := by decide +kernel
theorem dX6_findEnds_114 : decode cX6_findEnds 114 = .ok (.aload_n 0, 1) := by decide +kernel
theorem dX6_findEnds_115 : decode cX6_findEnds 115 = .ok (.getfield 31, 3) := by decide +kernel
theorem dX6_findEnds_118 : decode cX6_findEnds 118 = .ok (.iload_n 3, 1) := by decide +kernel
theorem dX6_findEnds_119 : decode cX6_findEnds 119 = .ok (.iload 7, 2) := by decide +kernel
theorem dX6_findEnds_121 : decode cX6_findEnds 121 = .ok (.iastore, 1) := by decide +kernel
theorem dX6_findEnds_122 : decode cX6_findEnds 122 = .ok (.aload_n 0, 1) := by decide +kernel
theorem dX6_findEnds_123 : decode cX6_findEnds 123 = .ok (.getfield 34, 3) := by decide +kernel
theorem dX6_findEnds_126 : decode cX6_findEnds 126 = .ok (.iload_n 3, 1) := by decide +kernel
theorem dX6_findEnds_127 : decode cX6_findEnds 127 = .ok (.iload 8, 2) := by decide +kernel
theorem dX6_findEnds_129 : decode cX6_findEnds 129 = .ok (.iastore, 1) := by decide +kernel
theorem dX6_findEnds_130 : decode cX6_findEnds 130 = .ok (.aload_n 0, 1) := by decide +kernel
theorem dX6_findEnds_131 : decode cX6_findEnds 131 = .ok (.getfield 37, 3) := by decide +kernel
theorem dX6_findEnds_134 : decode cX6_findEnds 134 = .ok (.iload_n 3, 1) := by decide +kernel
theorem dX6_findEnds_135 : decode cX6_findEnds 135 = .ok (.iload 5, 2) := by decide +kernel
theorem dX6_findEnds_137 : decode cX6_findEnds 137 = .ok (.iastore, 1) := by decide +kernel
theorem dX6_findEnds_138 : decode cX6_findEnds 138 = .ok (.iinc 3 1, 3) := by decide +kernel
theorem dX6_findEnds_141 : decode cX6_findEnds 141 = .ok (.iinc 4 1, 3) := by decide +kernel
theorem dX6_findEnds_144 : decode cX6_findEnds 144 = .ok (.goto (-139), 3) := by decide +kernel
theorem dX6_findEnds_147 : decode cX6_findEnds 147 = .ok (.return_, 1) := by decide +kernel
set_option maxRecDepth 20000 in
theorem ggX6_goesOn_X6_isDrawn : GoodIn wsX6_goesOn wsX6_isDrawn := goodIn_r _ [9, 10, 11, 8, 12, 13, 14, 15] (by decide +kernel) (by decide +kernel)
set_option maxRecDepth 20000 in
theorem gX6_goesOn_X6_isDrawn : GoodIn wsX6_goesOn (va_wsS RX6 132 yX6_isDrawn wsX6_isDrawn) := goodIn_app (goodIn_of _ (by decide +kernel)) ggX6_goesOn_X6_isDrawn
set_option maxRecDepth 20000 in
theorem ggX6_goesOn_X6_in : GoodIn wsX6_goesOn wsX6_in := goodIn_r _ [18] (by decide +kernel) (by decide +kernel)
set_option maxRecDepth 20000 in
theorem gX6_goesOn_X6_in : GoodIn wsX6_goesOn (va_wsS RX6 62 yX6_in wsX6_in) := goodIn_app (goodIn_of _ (by decide +kernel)) ggX6_goesOn_X6_in
theorem dX6_goesOn_0 : decode cX6_goesOn 0 = .ok (.iconst 0, 1) := by decide +kernel
theorem dX6_goesOn_1 : decode cX6_goesOn 1 = .ok (.istore_n 3, 1) := by decide +kernel
theorem dX6_goesOn_2 : decode cX6_goesOn 2 = .ok (.iload_n 3, 1) := by decide +kernel
theorem dX6_goesOn_3 : decode cX6_goesOn 3 = .ok (.aload_n 0, 1) := by decide +kernel
theorem dX6_goesOn_4 : decode cX6_goesOn 4 = .ok (.getfield 136, 3) := by decide +kernel
theorem dX6_goesOn_7 : decode cX6_goesOn 7 = .ok (.if_icmp .eq 19, 3) := by decide +kernel
theorem dX6_goesOn_10 : decode cX6_goesOn 10 = .ok (.aload_n 1, 1) := by decide +kernel
theorem dX6_goesOn_11 : decode cX6_goesOn 11 = .ok (.aload_n 0, 1) := by decide +kernel
theorem dX6_goesOn_12 : decode cX6_goesOn 12 = .ok (.getfield 139, 3) := by decide +kernel
theorem dX6_goesOn_15 : decode cX6_goesOn 15 = .ok (.aload_n 0, 1) := by decide +kernel
theorem dX6_goesOn_16 : decode cX6_goesOn 16 = .ok (.getfield 142, 3) := by decide +kernel
theorem dX6_goesOn_19 : decode cX6_goesOn 19 = .ok (.iload_n 3, 1) := by decide +kernel
theorem dX6_goesOn_20 : decode cX6_goesOn 20 = .ok (.invokestatic 132, 3) := by decide +kernel
theorem dX6_goesOn_23 : decode cX6_goesOn 23 = .ok (.ifCond .ne 9, 3) := by decide +kernel
theorem dX6_goesOn_26 : decode cX6_goesOn 26 = .ok (.iinc 3 1, 3) := by decide +kernel
theorem dX6_goesOn_29 : decode cX6_goesOn 29 = .ok (.goto (-27), 3) := by decide +kernel
theorem dX6_goesOn_32 : decode cX6_goesOn 32 = .ok (.aload_n 0, 1) := by decide +kernel
theorem dX6_goesOn_33 : decode cX6_goesOn 33 = .ok (.getfield 40, 3) := by decide +kernel
theorem dX6_goesOn_36 : decode cX6_goesOn 36 = .ok (.bipush 6, 2) := by decide +kernel
theorem dX6_goesOn_38 : decode cX6_goesOn 38 = .ok (.aload_n 0, 1) := by decide +kernel
theorem dX6_goesOn_39 : decode cX6_goesOn 39 = .ok (.getfield 139, 3) := by decide +kernel
theorem dX6_goesOn_42 : decode cX6_goesOn 42 = .ok (.iconst 1, 1) := by decide +kernel
theorem dX6_goesOn_43 : decode cX6_goesOn 43 = .ok (.isub, 1) := by decide +kernel
theorem dX6_goesOn_44 : decode cX6_goesOn 44 = .ok (.imul, 1) := by decide +kernel
theorem dX6_goesOn_45 : decode cX6_goesOn 45 = .ok (.aload_n 0, 1) := by decide +kernel
theorem dX6_goesOn_46 : decode cX6_goesOn 46 = .ok (.getfield 142, 3) := by decide +kernel
theorem dX6_goesOn_49 : decode cX6_goesOn 49 = .ok (.iadd, 1) := by decide +kernel
theorem dX6_goesOn_50 : decode cX6_goesOn 50 = .ok (.iconst 1, 1) := by decide +kernel
theorem dX6_goesOn_51 : decode cX6_goesOn 51 = .ok (.isub, 1) := by decide +kernel
theorem dX6_goesOn_52 : decode cX6_goesOn 52 = .ok (.iconst 1, 1) := by decide +kernel
theorem dX6_goesOn_53 : decode cX6_goesOn 53 = .ok (.bastore, 1) := by decide +kernel
theorem dX6_goesOn_54 : decode cX6_goesOn 54 = .ok (.aload_n 0, 1) := by decide +kernel
theorem dX6_goesOn_55 : decode cX6_goesOn 55 = .ok (.getfield 139, 3) := by decide +kernel
theorem dX6_goesOn_58 : decode cX6_goesOn 58 = .ok (.iload_n 3, 1) := by decide +kernel
theorem dX6_goesOn_59 : decode cX6_goesOn 59 = .ok (.iconst 2, 1) := by decide +kernel
theorem dX6_goesOn_60 : decode cX6_goesOn 60 = .ok (.if_icmp .ne 7, 3) := by decide +kernel
theorem dX6_goesOn_63 : decode cX6_goesOn 63 = .ok (.iconst 1, 1) := by decide +kernel
theorem dX6_goesOn_64 : decode cX6_goesOn 64 = .ok (.goto 12, 3) := by decide +kernel
theorem dX6_goesOn_67 : decode cX6_goesOn 67 = .ok (.iload_n 3, 1) := by decide +kernel
theorem dX6_goesOn_68 : decode cX6_goesOn 68 = .ok (.ifCond .ne 7, 3) := by decide +kernel
theorem dX6_goesOn_71 : decode cX6_goesOn 71 = .ok (.iconst (-1), 1) := by decide +kernel
theorem dX6_goesOn_72 : decode cX6_goesOn 72 = .ok (.goto 4, 3) := by decide +kernel
theorem dX6_goesOn_75 : decode cX6_goesOn 75 = .ok (.iconst 0, 1) := by decide +kernel
theorem dX6_goesOn_76 : decode cX6_goesOn 76 = .ok (.iadd, 1) := by decide +kernel
theorem dX6_goesOn_77 : decode cX6_goesOn 77 = .ok (.istore 4, 2) := by decide +kernel
theorem dX6_goesOn_79 : decode cX6_goesOn 79 = .ok (.aload_n 0, 1) := by decide +kernel
theorem dX6_goesOn_80 : decode cX6_goesOn 80 = .ok (.getfield 142, 3) := by decide +kernel
theorem dX6_goesOn_83 : decode cX6_goesOn 83 = .ok (.iload_n 3, 1) := by decide +kernel
theorem dX6_goesOn_84 : decode cX6_goesOn 84 = .ok (.iconst 1, 1) := by decide +kernel
theorem dX6_goesOn_85 : decode cX6_goesOn 85 = .ok (.if_icmp .ne 7, 3) := by decide +kernel
theorem dX6_goesOn_88 : decode cX6_goesOn 88 = .ok (.iconst 1, 1) := by decide +kernel
theorem dX6_goesOn_89 : decode cX6_goesOn 89 = .ok (.goto 13, 3) := by decide +kernel
theorem dX6_goesOn_92 : decode cX6_goesOn 92 = .ok (.iload_n 3, 1) := by decide +kernel
theorem dX6_goesOn_93 : decode cX6_goesOn 93 = .ok (.iconst 3, 1) := by decide +kernel
theorem dX6_goesOn_94 : decode cX6_goesOn 94 = .ok (.if_icmp .ne 7, 3) := by decide +kernel
theorem dX6_goesOn_97 : decode cX6_goesOn 97 = .ok (.iconst (-1), 1) := by decide +kernel
theorem dX6_goesOn_98 : decode cX6_goesOn 98 = .ok (.goto 4, 3) := by decide +kernel
theorem dX6_goesOn_101 : decode cX6_goesOn 101 = .ok (.iconst 0, 1) := by decide +kernel
theorem dX6_goesOn_102 : decode cX6_goesOn 102 = .ok (.iadd, 1) := by decide +kernel
theorem dX6_goesOn_103 : decode cX6_goesOn 103 = .ok (.istore 5, 2) := by decide +kernel
theorem dX6_goesOn_105 : decode cX6_goesOn 105 = .ok (.aload_n 0, 1) := by decide +kernel
theorem dX6_goesOn_106 : decode cX6_goesOn 106 = .ok (.dup, 1) := by decide +kernel
theorem dX6_goesOn_107 : decode cX6_goesOn 107 = .ok (.getfield 145, 3) := by decide +kernel
theorem dX6_goesOn_110 : decode cX6_goesOn 110 = .ok (.iconst 1, 1) := by decide +kernel
theorem dX6_goesOn_111 : decode cX6_goesOn 111 = .ok (.iadd, 1) := by decide +kernel
theorem dX6_goesOn_112 : decode cX6_goesOn 112 = .ok (.putfield 145, 3) := by decide +kernel
theorem dX6_goesOn_115 : decode cX6_goesOn 115 = .ok (.iload 4, 2) := by decide +kernel
theorem dX6_goesOn_117 : decode cX6_goesOn 117 = .ok (.i2l, 1) := by decide +kernel
theorem dX6_goesOn_118 : decode cX6_goesOn 118 = .ok (.lconst 1, 1) := by decide +kernel
theorem dX6_goesOn_119 : decode cX6_goesOn 119 = .ok (.iload_n 2, 1) := by decide +kernel
theorem dX6_goesOn_120 : decode cX6_goesOn 120 = .ok (.i2l, 1) := by decide +kernel
theorem dX6_goesOn_121 : decode cX6_goesOn 121 = .ok (.invokestatic 62, 3) := by decide +kernel
theorem dX6_goesOn_124 : decode cX6_goesOn 124 = .ok (.ifCond .eq 15, 3) := by decide +kernel
theorem dX6_goesOn_127 : decode cX6_goesOn 127 = .ok (.iload 5, 2) := by decide +kernel
theorem dX6_goesOn_129 : decode cX6_goesOn 129 = .ok (.i2l, 1) := by decide +kernel
theorem dX6_goesOn_130 : decode cX6_goesOn 130 = .ok (.lconst 1, 1) := by decide +kernel
theorem dX6_goesOn_131 : decode cX6_goesOn 131 = .ok (.iload_n 2, 1) := by decide +kernel
theorem dX6_goesOn_132 : decode cX6_goesOn 132 = .ok (.i2l, 1) := by decide +kernel
theorem dX6_goesOn_133 : decode cX6_goesOn 133 = .ok (.invokestatic 62, 3) := by decide +kernel
theorem dX6_goesOn_136 : decode cX6_goesOn 136 = .ok (.ifCond .ne 10, 3) := by decide +kernel
theorem dX6_goesOn_139 : decode cX6_goesOn 139 = .ok (.aload_n 0, 1) := by decide +kernel
theorem dX6_goesOn_140 : decode cX6_goesOn 140 = .ok (.iload_n 3, 1) := by decide +kernel
theorem dX6_goesOn_141 : decode cX6_goesOn 141 = .ok (.putfield 136, 3) := by decide +kernel
theorem dX6_goesOn_144 : decode cX6_goesOn 144 = .ok (.iconst 0, 1) := by decide +kernel
theorem dX6_goesOn_145 : decode cX6_goesOn 145 = .ok (.ireturn, 1) := by decide +kernel
theorem dX6_goesOn_146 : decode cX6_goesOn 146 = .ok (.aload_n 0, 1) := by decide +kernel
theorem dX6_goesOn_147 : decode cX6_goesOn 147 = .ok (.iload 4, 2) := by decide +kernel
theorem dX6_goesOn_149 : decode cX6_goesOn 149 = .ok (.putfield 139, 3) := by decide +kernel
theorem dX6_goesOn_152 : decode cX6_goesOn 152 = .ok (.aload_n 0, 1) := by decide +kernel
theorem dX6_goesOn_153 : decode cX6_goesOn 153 = .ok (.iload 5, 2) := by decide +kernel
theorem dX6_goesOn_155 : decode cX6_goesOn 155 = .ok (.putfield 142, 3) := by decide +kernel
theorem dX6_goesOn_158 : decode cX6_goesOn 158 = .ok (.aload_n 0, 1) := by decide +kernel
theorem dX6_goesOn_159 : decode cX6_goesOn 159 = .ok (.iload_n 3, 1) := by decide +kernel
theorem dX6_goesOn_160 : decode cX6_goesOn 160 = .ok (.iconst 2, 1) := by decide +kernel
theorem dX6_goesOn_161 : decode cX6_goesOn 161 = .ok (.iadd, 1) := by decide +kernel
theorem dX6_goesOn_162 : decode cX6_goesOn 162 = .ok (.iconst 4, 1) := by decide +kernel
theorem dX6_goesOn_163 : decode cX6_goesOn 163 = .ok (.irem, 1) := by decide +kernel
theorem dX6_goesOn_164 : decode cX6_goesOn 164 = .ok (.putfield 136, 3) := by decide +kernel
theorem dX6_goesOn_167 : decode cX6_goesOn 167 = .ok (.iconst 1, 1) := by decide +kernel
theorem dX6_goesOn_168 : decode cX6_goesOn 168 = .ok (.ireturn, 1) := by decide +kernel
set_option maxRecDepth 20000 in
theorem ggX6_goes_X6_goesOn : GoodIn wsX6_goes wsX6_goesOn := goodIn_r _ [12, 6, 2, 4, 13, 7, 14, 15, 11, 16, 17, 18, 19, 20, 21, 22, 23, 24, 25, 26, 27, 28, 29, 30, 31, 32, 33, 34, 35, 36, 37, 38, 39, 40, 41, 42, 43, 44, 45, 46, 47, 48] (by decide +kernel) (by decide +kernel)
set_option maxRecDepth 20000 in
theorem gX6_goes_X6_goesOn : GoodIn wsX6_goes (wsV RX6 148 RX6 yX6_goesOn wsX6_goesOn) := goodIn_app (goodIn_of _ (by decide +kernel)) ggX6_goes_X6_goesOn
theorem dX6_goes_0 : decode cX6_goes 0 = .ok (.aload_n 0, 1) := by decide +kernel
theorem dX6_goes_1 : decode cX6_goes 1 = .ok (.aload_n 0, 1) := by decide +kernel
theorem dX6_goes_2 : decode cX6_goes 2 = .ok (.getfield 31, 3) := by decide +kernel
theorem dX6_goes_5 : decode cX6_goes 5 = .ok (.iload_n 3, 1) := by decide +kernel
theorem dX6_goes_6 : decode cX6_goes 6 = .ok (.iaload, 1) := by decide +kernel
theorem dX6_goes_7 : decode cX6_goes 7 = .ok (.putfield 139, 3) := by decide +kernel
theorem dX6_goes_10 : decode cX6_goes 10 = .ok (.aload_n 0, 1) := by decide +kernel
theorem dX6_goes_11 : decode cX6_goes 11 = .ok (.aload_n 0, 1) := by decide +kernel
theorem dX6_goes_12 : decode cX6_goes 12 = .ok (.getfield 34, 3) := by decide +kernel
theorem dX6_goes_15 : decode cX6_goes 15 = .ok (.iload_n 3, 1) := by decide +kernel
theorem dX6_goes_16 : decode cX6_goes 16 = .ok (.iaload, 1) := by decide +kernel
theorem dX6_goes_17 : decode cX6_goes 17 = .ok (.putfield 142, 3) := by decide +kernel
theorem dX6_goes_20 : decode cX6_goes 20 = .ok (.aload_n 0, 1) := by decide +kernel
theorem dX6_goes_21 : decode cX6_goes 21 = .ok (.aload_n 0, 1) := by decide +kernel
theorem dX6_goes_22 : decode cX6_goes 22 = .ok (.getfield 37, 3) := by decide +kernel
theorem dX6_goes_25 : decode cX6_goes 25 = .ok (.iload_n 3, 1) := by decide +kernel
theorem dX6_goes_26 : decode cX6_goes 26 = .ok (.iaload, 1) := by decide +kernel
theorem dX6_goes_27 : decode cX6_goes 27 = .ok (.putfield 136, 3) := by decide +kernel
theorem dX6_goes_30 : decode cX6_goes 30 = .ok (.aload_n 0, 1) := by decide +kernel
theorem dX6_goes_31 : decode cX6_goes 31 = .ok (.iconst 1, 1) := by decide +kernel
theorem dX6_goes_32 : decode cX6_goes 32 = .ok (.putfield 145, 3) := by decide +kernel
theorem dX6_goes_35 : decode cX6_goes 35 = .ok (.iconst 1, 1) := by decide +kernel
theorem dX6_goes_36 : decode cX6_goes 36 = .ok (.istore 4, 2) := by decide +kernel
theorem dX6_goes_38 : decode cX6_goes 38 = .ok (.iload 4, 2) := by decide +kernel
theorem dX6_goes_40 : decode cX6_goes 40 = .ok (.ifCond .eq 14, 3) := by decide +kernel
theorem dX6_goes_43 : decode cX6_goes 43 = .ok (.aload_n 0, 1) := by decide +kernel
theorem dX6_goes_44 : decode cX6_goes 44 = .ok (.aload_n 1, 1) := by decide +kernel
theorem dX6_goes_45 : decode cX6_goes 45 = .ok (.iload_n 2, 1) := by decide +kernel
theorem dX6_goes_46 : decode cX6_goes 46 = .ok (.invokevirtual 148, 3) := by decide +kernel
theorem dX6_goes_49 : decode cX6_goes 49 = .ok (.istore 4, 2) := by decide +kernel
theorem dX6_goes_51 : decode cX6_goes 51 = .ok (.goto (-13), 3) := by decide +kernel
theorem dX6_goes_54 : decode cX6_goes 54 = .ok (.iconst 0, 1) := by decide +kernel
theorem dX6_goes_55 : decode cX6_goes 55 = .ok (.istore 5, 2) := by decide +kernel
theorem dX6_goes_57 : decode cX6_goes 57 = .ok (.aload_n 0, 1) := by decide +kernel
theorem dX6_goes_58 : decode cX6_goes 58 = .ok (.getfield 31, 3) := by decide +kernel
theorem dX6_goes_61 : decode cX6_goes 61 = .ok (.iload 5, 2) := by decide +kernel
theorem dX6_goes_63 : decode cX6_goes 63 = .ok (.iaload, 1) := by decide +kernel
theorem dX6_goes_64 : decode cX6_goes 64 = .ok (.aload_n 0, 1) := by decide +kernel
theorem dX6_goes_65 : decode cX6_goes 65 = .ok (.getfield 139, 3) := by decide +kernel
theorem dX6_goes_68 : decode cX6_goes 68 = .ok (.if_icmp .ne 31, 3) := by decide +kernel
theorem dX6_goes_71 : decode cX6_goes 71 = .ok (.aload_n 0, 1) := by decide +kernel
theorem dX6_goes_72 : decode cX6_goes 72 = .ok (.getfield 34, 3) := by decide +kernel
theorem dX6_goes_75 : decode cX6_goes 75 = .ok (.iload 5, 2) := by decide +kernel
theorem dX6_goes_77 : decode cX6_goes 77 = .ok (.iaload, 1) := by decide +kernel
theorem dX6_goes_78 : decode cX6_goes 78 = .ok (.aload_n 0, 1) := by decide +kernel
theorem dX6_goes_79 : decode cX6_goes 79 = .ok (.getfield 142, 3) := by decide +kernel
theorem dX6_goes_82 : decode cX6_goes 82 = .ok (.if_icmp .ne 17, 3) := by decide +kernel
theorem dX6_goes_85 : decode cX6_goes 85 = .ok (.aload_n 0, 1) := by decide +kernel
theorem dX6_goes_86 : decode cX6_goes 86 = .ok (.getfield 37, 3) := by decide +kernel
theorem dX6_goes_89 : decode cX6_goes 89 = .ok (.iload 5, 2) := by decide +kernel
theorem dX6_goes_91 : decode cX6_goes 91 = .ok (.iaload, 1) := by decide +kernel
theorem dX6_goes_92 : decode cX6_goes 92 = .ok (.aload_n 0, 1) := by decide +kernel
theorem dX6_goes_93 : decode cX6_goes 93 = .ok (.getfield 136, 3) := by decide +kernel
theorem dX6_goes_96 : decode cX6_goes 96 = .ok (.if_icmp .eq 9, 3) := by decide +kernel
theorem dX6_goes_99 : decode cX6_goes 99 = .ok (.iinc 5 1, 3) := by decide +kernel
theorem dX6_goes_102 : decode cX6_goes 102 = .ok (.goto (-45), 3) := by decide +kernel
theorem dX6_goes_105 : decode cX6_goes 105 = .ok (.iload 5, 2) := by decide +kernel
theorem dX6_goes_107 : decode cX6_goes 107 = .ok (.ireturn, 1) := by decide +kernel
set_option maxRecDepth 20000 in
theorem ggX6_isEnd_X6_in : GoodIn wsX6_isEnd wsX6_in := goodIn_r _ [5] (by decide +kernel) (by decide +kernel)
set_option maxRecDepth 20000 in
theorem gX6_isEnd_X6_in : GoodIn wsX6_isEnd (va_wsS RX6 62 yX6_in wsX6_in) := goodIn_app (goodIn_of _ (by decide +kernel)) ggX6_isEnd_X6_in
theorem dX6_isEnd_0 : decode cX6_isEnd 0 = .ok (.iload_n 1, 1) := by decide +kernel
theorem dX6_isEnd_1 : decode cX6_isEnd 1 = .ok (.i2l, 1) := by decide +kernel
theorem dX6_isEnd_2 : decode cX6_isEnd 2 = .ok (.lconst 0, 1) := by decide +kernel
theorem dX6_isEnd_3 : decode cX6_isEnd 3 = .ok (.iconst 2, 1) := by decide +kernel
theorem dX6_isEnd_4 : decode cX6_isEnd 4 = .ok (.aload_n 0, 1) := by decide +kernel
theorem dX6_isEnd_5 : decode cX6_isEnd 5 = .ok (.getfield 54, 3) := by decide +kernel
theorem dX6_isEnd_8 : decode cX6_isEnd 8 = .ok (.imul, 1) := by decide +kernel
theorem dX6_isEnd_9 : decode cX6_isEnd 9 = .ok (.iconst 1, 1) := by decide +kernel
theorem dX6_isEnd_10 : decode cX6_isEnd 10 = .ok (.isub, 1) := by decide +kernel
theorem dX6_isEnd_11 : decode cX6_isEnd 11 = .ok (.i2l, 1) := by decide +kernel
theorem dX6_isEnd_12 : decode cX6_isEnd 12 = .ok (.invokestatic 62, 3) := by decide +kernel
theorem dX6_isEnd_15 : decode cX6_isEnd 15 = .ok (.ireturn, 1) := by decide +kernel
set_option maxRecDepth 20000 in
theorem ggX6_partner_X6_isEnd : GoodIn wsX6_partner wsX6_isEnd := goodIn_r _ [7, 2, 8, 9, 6, 10, 40, 41, 42, 43, 44, 45, 46, 47, 48, 49, 50, 51, 52, 53, 54, 55, 56, 57, 58, 59, 60, 61, 62] (by decide +kernel) (by decide +kernel)
set_option maxRecDepth 20000 in
theorem gX6_partner_X6_isEnd : GoodIn wsX6_partner (wsV RX6 152 RX6 yX6_isEnd wsX6_isEnd) := goodIn_app (goodIn_of _ (by decide +kernel)) ggX6_partner_X6_isEnd
set_option maxRecDepth 20000 in
theorem ggX6_partner_X6_findEnds : GoodIn wsX6_partner wsX6_findEnds := goodIn_r _ [14, 15, 16, 17, 18, 19, 6, 20, 21, 22, 23, 24, 25, 26, 40, 41, 42, 43, 44, 45, 46, 47, 48, 49, 50, 51, 52, 53, 54, 55, 56, 57, 58, 59, 60, 61, 62] (by decide +kernel) (by decide +kernel)
set_option maxRecDepth 20000 in
theorem gX6_partner_X6_findEnds : GoodIn wsX6_partner (wsV RX6 156 RX6 yX6_findEnds wsX6_findEnds) := goodIn_app (goodIn_of _ (by decide +kernel)) ggX6_partner_X6_findEnds
set_option maxRecDepth 20000 in
theorem ggX6_partner_X6_goes : GoodIn wsX6_partner wsX6_goes := goodIn_r _ [30, 15, 31, 16, 32, 17, 33, 34, 35, 36, 37, 6, 38, 39, 18, 19, 20, 21, 22, 23, 24, 25, 26, 8, 9, 10, 40, 41, 42, 43, 44, 45, 46, 47, 48, 49, 50, 51, 52, 53, 54, 55, 56, 57, 58, 59, 60, 61, 62] (by decide +kernel) (by decide +kernel)
set_option maxRecDepth 20000 in
theorem gX6_partner_X6_goes : GoodIn wsX6_partner (wsV RX6 160 RX6 yX6_goes wsX6_goes) := goodIn_app (goodIn_of _ (by decide +kernel)) ggX6_partner_X6_goes
theorem dX6_partner_0 : decode cX6_partner 0 = .ok (.aload_n 0, 1) := by decide +kernel
theorem dX6_partner_1 : decode cX6_partner 1 = .ok (.iload_n 1, 1) := by decide +kernel
theorem dX6_partner_2 : decode cX6_partner 2 = .ok (.invokevirtual 152, 3) := by decide +kernel
theorem dX6_partner_5 : decode cX6_partner 5 = .ok (.ifCond .ne 5, 3) := by decide +kernel
theorem dX6_partner_8 : decode cX6_partner 8 = .ok (.iconst (-1), 1) := by decide +kernel
theorem dX6_partner_9 : decode cX6_partner 9 = .ok (.ireturn, 1) := by decide +kernel
theorem dX6_partner_10 : decode cX6_partner 10 = .ok (.aload_n 0, 1) := by decide +kernel
theorem dX6_partner_11 : decode cX6_partner 11 = .ok (.aload_n 0, 1) := by decide +kernel
theorem dX6_partner_12 : decode cX6_partner 12 = .ok (.getfield 13, 3) := by decide +kernel
theorem dX6_partner_15 : decode cX6_partner 15 = .ok (.aload_n 0, 1) := by decide +kernel
theorem dX6_partner_16 : decode cX6_partner 16 = .ok (.getfield 54, 3) := by decide +kernel
theorem dX6_partner_19 : decode cX6_partner 19 = .ok (.invokevirtual 156, 3) := by decide +kernel
theorem dX6_partner_22 : decode cX6_partner 22 = .ok (.aload_n 0, 1) := by decide +kernel
theorem dX6_partner_23 : decode cX6_partner 23 = .ok (.aload_n 0, 1) := by decide +kernel
theorem dX6_partner_24 : decode cX6_partner 24 = .ok (.getfield 13, 3) := by decide +kernel
theorem dX6_partner_27 : decode cX6_partner 27 = .ok (.aload_n 0, 1) := by decide +kernel
theorem dX6_partner_28 : decode cX6_partner 28 = .ok (.getfield 54, 3) := by decide +kernel
theorem dX6_partner_31 : decode cX6_partner 31 = .ok (.iload_n 1, 1) := by decide +kernel
theorem dX6_partner_32 : decode cX6_partner 32 = .ok (.invokevirtual 160, 3) := by decide +kernel
theorem dX6_partner_35 : decode cX6_partner 35 = .ok (.ireturn, 1) := by decide +kernel
set_option maxRecDepth 20000 in
theorem ggX6_line_X6_isEnd : GoodIn wsX6_line wsX6_isEnd := goodIn_r _ [8, 2, 9, 10, 7, 11, 40, 41, 42, 43, 44, 45, 46, 47, 48, 49, 50, 51, 52, 53, 54, 55, 56, 57, 58, 59, 60, 61, 62] (by decide +kernel) (by decide +kernel)
set_option maxRecDepth 20000 in
theorem gX6_line_X6_isEnd : GoodIn wsX6_line (wsV RX6 152 RX6 yX6_isEnd wsX6_isEnd) := goodIn_app (goodIn_of _ (by decide +kernel)) ggX6_line_X6_isEnd
set_option maxRecDepth 20000 in
theorem ggX6_line_X6_findEnds : GoodIn wsX6_line wsX6_findEnds := goodIn_r _ [15, 16, 17, 18, 19, 20, 7, 21, 22, 23, 24, 25, 26, 27, 40, 41, 42, 43, 44, 45, 46, 47, 48, 49, 50, 51, 52, 53, 54, 55, 56, 57, 58, 59, 60, 61, 62] (by decide +kernel) (by decide +kernel)
set_option maxRecDepth 20000 in
theorem gX6_line_X6_findEnds : GoodIn wsX6_line (wsV RX6 156 RX6 yX6_findEnds wsX6_findEnds) := goodIn_app (goodIn_of _ (by decide +kernel)) ggX6_line_X6_findEnds
set_option maxRecDepth 20000 in
theorem ggX6_line_X6_goes : GoodIn wsX6_line wsX6_goes := goodIn_r _ [31, 16, 32, 17, 33, 18, 34, 3, 35, 36, 37, 7, 38, 39, 19, 20, 21, 22, 23, 24, 25, 26, 27, 9, 10, 11, 40, 41, 42, 43, 44, 45, 46, 47, 48, 49, 50, 51, 52, 53, 54, 55, 56, 57, 58, 59, 60, 61, 62] (by decide +kernel) (by decide +kernel)
set_option maxRecDepth 20000 in
theorem gX6_line_X6_goes : GoodIn wsX6_line (wsV RX6 160 RX6 yX6_goes wsX6_goes) := goodIn_app (goodIn_of _ (by decide +kernel)) ggX6_line_X6_goes
theorem dX6_line_0 : decode cX6_line 0 = .ok (.aload_n 0, 1) := by decide +kernel
theorem dX6_line_1 : decode cX6_line 1 = .ok (.iload_n 1, 1) := by decide +kernel
theorem dX6_line_2 : decode cX6_line 2 = .ok (.invokevirtual 152, 3) := by decide +kernel
theorem dX6_line_5 : decode cX6_line 5 = .ok (.ifCond .ne 5, 3) := by decide +kernel
theorem dX6_line_8 : decode cX6_line 8 = .ok (.iconst (-1), 1) := by decide +kernel
theorem dX6_line_9 : decode cX6_line 9 = .ok (.ireturn, 1) := by decide +kernel
theorem dX6_line_10 : decode cX6_line 10 = .ok (.aload_n 0, 1) := by decide +kernel
theorem dX6_line_11 : decode cX6_line 11 = .ok (.aload_n 0, 1) := by decide +kernel
theorem dX6_line_12 : decode cX6_line 12 = .ok (.getfield 13, 3) := by decide +kernel
theorem dX6_line_15 : decode cX6_line 15 = .ok (.aload_n 0, 1) := by decide +kernel
theorem dX6_line_16 : decode cX6_line 16 = .ok (.getfield 54, 3) := by decide +kernel
theorem dX6_line_19 : decode cX6_line 19 = .ok (.invokevirtual 156, 3) := by decide +kernel
theorem dX6_line_22 : decode cX6_line 22 = .ok (.aload_n 0, 1) := by decide +kernel
theorem dX6_line_23 : decode cX6_line 23 = .ok (.aload_n 0, 1) := by decide +kernel
theorem dX6_line_24 : decode cX6_line 24 = .ok (.getfield 13, 3) := by decide +kernel
theorem dX6_line_27 : decode cX6_line 27 = .ok (.aload_n 0, 1) := by decide +kernel
theorem dX6_line_28 : decode cX6_line 28 = .ok (.getfield 54, 3) := by decide +kernel
theorem dX6_line_31 : decode cX6_line 31 = .ok (.iload_n 1, 1) := by decide +kernel
theorem dX6_line_32 : decode cX6_line 32 = .ok (.invokevirtual 160, 3) := by decide +kernel
theorem dX6_line_35 : decode cX6_line 35 = .ok (.pop, 1) := by decide +kernel
theorem dX6_line_36 : decode cX6_line 36 = .ok (.aload_n 0, 1) := by decide +kernel
theorem dX6_line_37 : decode cX6_line 37 = .ok (.getfield 145, 3) := by decide +kernel
theorem dX6_line_40 : decode cX6_line 40 = .ok (.ireturn, 1) := by decide +kernel
set_option maxRecDepth 20000 in
theorem ggX6_drawn_X6_isAcross : GoodIn wsX6_drawn wsX6_isAcross := goodIn_r _ [6] (by decide +kernel) (by decide +kernel)
set_option maxRecDepth 20000 in
theorem gX6_drawn_X6_isAcross : GoodIn wsX6_drawn (va_wsS RX6 126 yX6_isAcross wsX6_isAcross) := goodIn_app (goodIn_of _ (by decide +kernel)) ggX6_drawn_X6_isAcross
set_option maxRecDepth 20000 in
theorem ggX6_drawn_X6_isDown : GoodIn wsX6_drawn wsX6_isDown := goodIn_r _ [9] (by decide +kernel) (by decide +kernel)
set_option maxRecDepth 20000 in
theorem gX6_drawn_X6_isDown : GoodIn wsX6_drawn (va_wsS RX6 129 yX6_isDown wsX6_isDown) := goodIn_app (goodIn_of _ (by decide +kernel)) ggX6_drawn_X6_isDown
theorem dX6_drawn_0 : decode cX6_drawn 0 = .ok (.iconst 0, 1) := by decide +kernel
theorem dX6_drawn_1 : decode cX6_drawn 1 = .ok (.istore_n 1, 1) := by decide +kernel
theorem dX6_drawn_2 : decode cX6_drawn 2 = .ok (.iconst 1, 1) := by decide +kernel
theorem dX6_drawn_3 : decode cX6_drawn 3 = .ok (.istore_n 2, 1) := by decide +kernel
theorem dX6_drawn_4 : decode cX6_drawn 4 = .ok (.iload_n 2, 1) := by decide +kernel
theorem dX6_drawn_5 : decode cX6_drawn 5 = .ok (.aload_n 0, 1) := by decide +kernel
theorem dX6_drawn_6 : decode cX6_drawn 6 = .ok (.getfield 54, 3) := by decide +kernel
theorem dX6_drawn_9 : decode cX6_drawn 9 = .ok (.if_icmp .gt 63, 3) := by decide +kernel
theorem dX6_drawn_12 : decode cX6_drawn 12 = .ok (.iconst 0, 1) := by decide +kernel
theorem dX6_drawn_13 : decode cX6_drawn 13 = .ok (.istore_n 3, 1) := by decide +kernel
theorem dX6_drawn_14 : decode cX6_drawn 14 = .ok (.iload_n 3, 1) := by decide +kernel
theorem dX6_drawn_15 : decode cX6_drawn 15 = .ok (.aload_n 0, 1) := by decide +kernel
theorem dX6_drawn_16 : decode cX6_drawn 16 = .ok (.getfield 54, 3) := by decide +kernel
theorem dX6_drawn_19 : decode cX6_drawn 19 = .ok (.if_icmp .gt 47, 3) := by decide +kernel
theorem dX6_drawn_22 : decode cX6_drawn 22 = .ok (.iload_n 1, 1) := by decide +kernel
theorem dX6_drawn_23 : decode cX6_drawn 23 = .ok (.aload_n 0, 1) := by decide +kernel
theorem dX6_drawn_24 : decode cX6_drawn 24 = .ok (.getfield 13, 3) := by decide +kernel
theorem dX6_drawn_27 : decode cX6_drawn 27 = .ok (.iload_n 2, 1) := by decide +kernel
theorem dX6_drawn_28 : decode cX6_drawn 28 = .ok (.iload_n 3, 1) := by decide +kernel
theorem dX6_drawn_29 : decode cX6_drawn 29 = .ok (.invokestatic 126, 3) := by decide +kernel
theorem dX6_drawn_32 : decode cX6_drawn 32 = .ok (.ifCond .eq 7, 3) := by decide +kernel
theorem dX6_drawn_35 : decode cX6_drawn 35 = .ok (.iconst 1, 1) := by decide +kernel
theorem dX6_drawn_36 : decode cX6_drawn 36 = .ok (.goto 4, 3) := by decide +kernel
theorem dX6_drawn_39 : decode cX6_drawn 39 = .ok (.iconst 0, 1) := by decide +kernel
theorem dX6_drawn_40 : decode cX6_drawn 40 = .ok (.aload_n 0, 1) := by decide +kernel
theorem dX6_drawn_41 : decode cX6_drawn 41 = .ok (.getfield 13, 3) := by decide +kernel
theorem dX6_drawn_44 : decode cX6_drawn 44 = .ok (.iload_n 3, 1) := by decide +kernel
theorem dX6_drawn_45 : decode cX6_drawn 45 = .ok (.iload_n 2, 1) := by decide +kernel
theorem dX6_drawn_46 : decode cX6_drawn 46 = .ok (.invokestatic 129, 3) := by decide +kernel
theorem dX6_drawn_49 : decode cX6_drawn 49 = .ok (.ifCond .eq 7, 3) := by decide +kernel
theorem dX6_drawn_52 : decode cX6_drawn 52 = .ok (.iconst 1, 1) := by decide +kernel
theorem dX6_drawn_53 : decode cX6_drawn 53 = .ok (.goto 4, 3) := by decide +kernel
theorem dX6_drawn_56 : decode cX6_drawn 56 = .ok (.iconst 0, 1) := by decide +kernel
theorem dX6_drawn_57 : decode cX6_drawn 57 = .ok (.iadd, 1) := by decide +kernel
theorem dX6_drawn_58 : decode cX6_drawn 58 = .ok (.iadd, 1) := by decide +kernel
theorem dX6_drawn_59 : decode cX6_drawn 59 = .ok (.istore_n 1, 1) := by decide +kernel
theorem dX6_drawn_60 : decode cX6_drawn 60 = .ok (.iinc 3 1, 3) := by decide +kernel
theorem dX6_drawn_63 : decode cX6_drawn 63 = .ok (.goto (-49), 3) := by decide +kernel
theorem dX6_drawn_66 : decode cX6_drawn 66 = .ok (.iinc 2 1, 3) := by decide +kernel
theorem dX6_drawn_69 : decode cX6_drawn 69 = .ok (.goto (-65), 3) := by decide +kernel
theorem dX6_drawn_72 : decode cX6_drawn 72 = .ok (.iload_n 1, 1) := by decide +kernel
theorem dX6_drawn_73 : decode cX6_drawn 73 = .ok (.ireturn, 1) := by decide +kernel
set_option maxRecDepth 20000 in
theorem ggX6_rings_X6_findEnds : GoodIn wsX6_rings wsX6_findEnds := goodIn_r _ [8, 9, 10, 11, 12, 13, 7, 14, 15, 16, 17, 18, 19, 20, 40, 41, 42, 43, 44, 45, 46, 47, 48, 49, 50, 51, 52, 53, 54, 55, 56, 57, 58, 59, 60, 61, 62] (by decide +kernel) (by decide +kernel)
set_option maxRecDepth 20000 in
theorem gX6_rings_X6_findEnds : GoodIn wsX6_rings (wsV RX6 156 RX6 yX6_findEnds wsX6_findEnds) := goodIn_app (goodIn_of _ (by decide +kernel)) ggX6_rings_X6_findEnds
set_option maxRecDepth 20000 in
theorem ggX6_rings_X6_goes : GoodIn wsX6_rings wsX6_goes := goodIn_r _ [24, 9, 25, 10, 26, 11, 27, 28, 29, 30, 31, 7, 32, 3, 12, 13, 14, 15, 16, 17, 18, 19, 20, 33, 34, 35, 40, 41, 42, 43, 44, 45, 46, 47, 48, 49, 50, 51, 52, 53, 54, 55, 56, 57, 58, 59, 60, 61, 62] (by decide +kernel) (by decide +kernel)
set_option maxRecDepth 20000 in
theorem gX6_rings_X6_goes : GoodIn wsX6_rings (wsV RX6 160 RX6 yX6_goes wsX6_goes) := goodIn_app (goodIn_of _ (by decide +kernel)) ggX6_rings_X6_goes
set_option maxRecDepth 20000 in
theorem ggX6_rings_X6_ring : GoodIn wsX6_rings wsX6_ring := goodIn_r _ [39, 25, 26, 27, 1, 28, 2, 12, 13, 7, 14, 15, 16, 17, 18, 19, 20, 29, 30, 31, 32, 3, 33, 34, 35, 40, 41, 42, 43, 44, 45, 46, 47, 48, 49, 50, 51, 52, 53, 54, 55, 56, 57, 58, 59, 60, 61, 62] (by decide +kernel) (by decide +kernel)
set_option maxRecDepth 20000 in
theorem gX6_rings_X6_ring : GoodIn wsX6_rings (wsV RX6 163 RX6 yX6_ring wsX6_ring) := goodIn_app (goodIn_of _ (by decide +kernel)) ggX6_rings_X6_ring
theorem dX6_rings_0 : decode cX6_rings 0 = .ok (.aload_n 0, 1) := by decide +kernel
theorem dX6_rings_1 : decode cX6_rings 1 = .ok (.aload_n 0, 1) := by decide +kernel
theorem dX6_rings_2 : decode cX6_rings 2 = .ok (.getfield 13, 3) := by decide +kernel
theorem dX6_rings_5 : decode cX6_rings 5 = .ok (.aload_n 0, 1) := by decide +kernel
theorem dX6_rings_6 : decode cX6_rings 6 = .ok (.getfield 54, 3) := by decide +kernel
theorem dX6_rings_9 : decode cX6_rings 9 = .ok (.invokevirtual 156, 3) := by decide +kernel
theorem dX6_rings_12 : decode cX6_rings 12 = .ok (.iconst 0, 1) := by decide +kernel
theorem dX6_rings_13 : decode cX6_rings 13 = .ok (.istore_n 2, 1) := by decide +kernel
theorem dX6_rings_14 : decode cX6_rings 14 = .ok (.iload_n 2, 1) := by decide +kernel
theorem dX6_rings_15 : decode cX6_rings 15 = .ok (.bipush 36, 2) := by decide +kernel
theorem dX6_rings_17 : decode cX6_rings 17 = .ok (.if_icmp .ge 16, 3) := by decide +kernel
theorem dX6_rings_20 : decode cX6_rings 20 = .ok (.aload_n 0, 1) := by decide +kernel
theorem dX6_rings_21 : decode cX6_rings 21 = .ok (.getfield 40, 3) := by decide +kernel
theorem dX6_rings_24 : decode cX6_rings 24 = .ok (.iload_n 2, 1) := by decide +kernel
theorem dX6_rings_25 : decode cX6_rings 25 = .ok (.iconst 0, 1) := by decide +kernel
theorem dX6_rings_26 : decode cX6_rings 26 = .ok (.bastore, 1) := by decide +kernel
theorem dX6_rings_27 : decode cX6_rings 27 = .ok (.iinc 2 1, 3) := by decide +kernel
theorem dX6_rings_30 : decode cX6_rings 30 = .ok (.goto (-16), 3) := by decide +kernel
theorem dX6_rings_33 : decode cX6_rings 33 = .ok (.iconst 0, 1) := by decide +kernel
theorem dX6_rings_34 : decode cX6_rings 34 = .ok (.istore_n 2, 1) := by decide +kernel
theorem dX6_rings_35 : decode cX6_rings 35 = .ok (.iload_n 2, 1) := by decide +kernel
theorem dX6_rings_36 : decode cX6_rings 36 = .ok (.iconst 2, 1) := by decide +kernel
theorem dX6_rings_37 : decode cX6_rings 37 = .ok (.aload_n 0, 1) := by decide +kernel
theorem dX6_rings_38 : decode cX6_rings 38 = .ok (.getfield 54, 3) := by decide +kernel
theorem dX6_rings_41 : decode cX6_rings 41 = .ok (.imul, 1) := by decide +kernel
theorem dX6_rings_42 : decode cX6_rings 42 = .ok (.if_icmp .ge 23, 3) := by decide +kernel
theorem dX6_rings_45 : decode cX6_rings 45 = .ok (.aload_n 0, 1) := by decide +kernel
theorem dX6_rings_46 : decode cX6_rings 46 = .ok (.aload_n 0, 1) := by decide +kernel
theorem dX6_rings_47 : decode cX6_rings 47 = .ok (.getfield 13, 3) := by decide +kernel
theorem dX6_rings_50 : decode cX6_rings 50 = .ok (.aload_n 0, 1) := by decide +kernel
theorem dX6_rings_51 : decode cX6_rings 51 = .ok (.getfield 54, 3) := by decide +kernel
theorem dX6_rings_54 : decode cX6_rings 54 = .ok (.iload_n 2, 1) := by decide +kernel
theorem dX6_rings_55 : decode cX6_rings 55 = .ok (.invokevirtual 160, 3) := by decide +kernel
theorem dX6_rings_58 : decode cX6_rings 58 = .ok (.pop, 1) := by decide +kernel
theorem dX6_rings_59 : decode cX6_rings 59 = .ok (.iinc 2 1, 3) := by decide +kernel
theorem dX6_rings_62 : decode cX6_rings 62 = .ok (.goto (-27), 3) := by decide +kernel
theorem dX6_rings_65 : decode cX6_rings 65 = .ok (.iconst 0, 1) := by decide +kernel
theorem dX6_rings_66 : decode cX6_rings 66 = .ok (.istore_n 2, 1) := by decide +kernel
theorem dX6_rings_67 : decode cX6_rings 67 = .ok (.iconst 0, 1) := by decide +kernel
theorem dX6_rings_68 : decode cX6_rings 68 = .ok (.istore_n 3, 1) := by decide +kernel
theorem dX6_rings_69 : decode cX6_rings 69 = .ok (.iconst 1, 1) := by decide +kernel
theorem dX6_rings_70 : decode cX6_rings 70 = .ok (.istore 4, 2) := by decide +kernel
theorem dX6_rings_72 : decode cX6_rings 72 = .ok (.iload 4, 2) := by decide +kernel
theorem dX6_rings_74 : decode cX6_rings 74 = .ok (.aload_n 0, 1) := by decide +kernel
theorem dX6_rings_75 : decode cX6_rings 75 = .ok (.getfield 54, 3) := by decide +kernel
theorem dX6_rings_78 : decode cX6_rings 78 = .ok (.if_icmp .gt 61, 3) := by decide +kernel
theorem dX6_rings_81 : decode cX6_rings 81 = .ok (.iconst 1, 1) := by decide +kernel
theorem dX6_rings_82 : decode cX6_rings 82 = .ok (.istore 5, 2) := by decide +kernel
theorem dX6_rings_84 : decode cX6_rings 84 = .ok (.iload 5, 2) := by decide +kernel
theorem dX6_rings_86 : decode cX6_rings 86 = .ok (.aload_n 0, 1) := by decide +kernel
theorem dX6_rings_87 : decode cX6_rings 87 = .ok (.getfield 54, 3) := by decide +kernel
theorem dX6_rings_90 : decode cX6_rings 90 = .ok (.if_icmp .gt 43, 3) := by decide +kernel
theorem dX6_rings_93 : decode cX6_rings 93 = .ok (.aload_n 0, 1) := by decide +kernel
theorem dX6_rings_94 : decode cX6_rings 94 = .ok (.getfield 40, 3) := by decide +kernel
theorem dX6_rings_97 : decode cX6_rings 97 = .ok (.bipush 6, 2) := by decide +kernel
theorem dX6_rings_99 : decode cX6_rings 99 = .ok (.iload 4, 2) := by decide +kernel
theorem dX6_rings_101 : decode cX6_rings 101 = .ok (.iconst 1, 1) := by decide +kernel
theorem dX6_rings_102 : decode cX6_rings 102 = .ok (.isub, 1) := by decide +kernel
theorem dX6_rings_103 : decode cX6_rings 103 = .ok (.imul, 1) := by decide +kernel
theorem dX6_rings_104 : decode cX6_rings 104 = .ok (.iload 5, 2) := by decide +kernel
theorem dX6_rings_106 : decode cX6_rings 106 = .ok (.iadd, 1) := by decide +kernel
theorem dX6_rings_107 : decode cX6_rings 107 = .ok (.iconst 1, 1) := by decide +kernel
theorem dX6_rings_108 : decode cX6_rings 108 = .ok (.isub, 1) := by decide +kernel
theorem dX6_rings_109 : decode cX6_rings 109 = .ok (.baload, 1) := by decide +kernel
theorem dX6_rings_110 : decode cX6_rings 110 = .ok (.ifCond .ne 17, 3) := by decide +kernel
theorem dX6_rings_113 : decode cX6_rings 113 = .ok (.iload_n 2, 1) := by decide +kernel
theorem dX6_rings_114 : decode cX6_rings 114 = .ok (.aload_n 0, 1) := by decide +kernel
theorem dX6_rings_115 : decode cX6_rings 115 = .ok (.iload 4, 2) := by decide +kernel
theorem dX6_rings_117 : decode cX6_rings 117 = .ok (.iload 5, 2) := by decide +kernel
theorem dX6_rings_119 : decode cX6_rings 119 = .ok (.invokevirtual 163, 3) := by decide +kernel
theorem dX6_rings_122 : decode cX6_rings 122 = .ok (.iadd, 1) := by decide +kernel
theorem dX6_rings_123 : decode cX6_rings 123 = .ok (.istore_n 2, 1) := by decide +kernel
theorem dX6_rings_124 : decode cX6_rings 124 = .ok (.iinc 3 1, 3) := by decide +kernel
theorem dX6_rings_127 : decode cX6_rings 127 = .ok (.iinc 5 1, 3) := by decide +kernel
theorem dX6_rings_130 : decode cX6_rings 130 = .ok (.goto (-46), 3) := by decide +kernel
theorem dX6_rings_133 : decode cX6_rings 133 = .ok (.iinc 4 1, 3) := by decide +kernel
theorem dX6_rings_136 : decode cX6_rings 136 = .ok (.goto (-64), 3) := by decide +kernel
theorem dX6_rings_139 : decode cX6_rings 139 = .ok (.iload_n 1, 1) := by decide +kernel
theorem dX6_rings_140 : decode cX6_rings 140 = .ok (.ifCond .ne 7, 3) := by decide +kernel
theorem dX6_rings_143 : decode cX6_rings 143 = .ok (.iload_n 2, 1) := by decide +kernel
theorem dX6_rings_144 : decode cX6_rings 144 = .ok (.goto 4, 3) := by decide +kernel
theorem dX6_rings_147 : decode cX6_rings 147 = .ok (.iload_n 3, 1) := by decide +kernel
theorem dX6_rings_148 : decode cX6_rings 148 = .ok (.ireturn, 1) := by decide +kernel
set_option maxRecDepth 20000 in
theorem ggX6_ring_X6_isDrawn : GoodIn wsX6_ring wsX6_isDrawn := goodIn_r _ [10, 11, 12, 9, 13, 14, 15, 16] (by decide +kernel) (by decide +kernel)
set_option maxRecDepth 20000 in
theorem gX6_ring_X6_isDrawn : GoodIn wsX6_ring (va_wsS RX6 132 yX6_isDrawn wsX6_isDrawn) := goodIn_app (goodIn_of _ (by decide +kernel)) ggX6_ring_X6_isDrawn
set_option maxRecDepth 20000 in
theorem ggX6_ring_X6_goesOn : GoodIn wsX6_ring wsX6_goesOn := goodIn_r _ [20, 3, 1, 2, 21, 5, 7, 8, 9, 10, 11, 12, 13, 14, 15, 16, 22, 23, 24, 25, 26, 27, 28, 29, 30, 31, 32, 33, 34, 35, 36, 37, 38, 39, 40, 41, 42, 43, 44, 45, 46, 47] (by decide +kernel) (by decide +kernel)
set_option maxRecDepth 20000 in
theorem gX6_ring_X6_goesOn : GoodIn wsX6_ring (wsV RX6 148 RX6 yX6_goesOn wsX6_goesOn) := goodIn_app (goodIn_of _ (by decide +kernel)) ggX6_ring_X6_goesOn
theorem dX6_ring_0 : decode cX6_ring 0 = .ok (.aload_n 0, 1) := by decide +kernel
theorem dX6_ring_1 : decode cX6_ring 1 = .ok (.iload_n 1, 1) := by decide +kernel
theorem dX6_ring_2 : decode cX6_ring 2 = .ok (.putfield 139, 3) := by decide +kernel
theorem dX6_ring_5 : decode cX6_ring 5 = .ok (.aload_n 0, 1) := by decide +kernel
theorem dX6_ring_6 : decode cX6_ring 6 = .ok (.iload_n 2, 1) := by decide +kernel
theorem dX6_ring_7 : decode cX6_ring 7 = .ok (.putfield 142, 3) := by decide +kernel
theorem dX6_ring_10 : decode cX6_ring 10 = .ok (.aload_n 0, 1) := by decide +kernel
theorem dX6_ring_11 : decode cX6_ring 11 = .ok (.iconst 0, 1) := by decide +kernel
theorem dX6_ring_12 : decode cX6_ring 12 = .ok (.putfield 136, 3) := by decide +kernel
theorem dX6_ring_15 : decode cX6_ring 15 = .ok (.aload_n 0, 1) := by decide +kernel
theorem dX6_ring_16 : decode cX6_ring 16 = .ok (.getfield 13, 3) := by decide +kernel
theorem dX6_ring_19 : decode cX6_ring 19 = .ok (.iload_n 1, 1) := by decide +kernel
theorem dX6_ring_20 : decode cX6_ring 20 = .ok (.iload_n 2, 1) := by decide +kernel
theorem dX6_ring_21 : decode cX6_ring 21 = .ok (.aload_n 0, 1) := by decide +kernel
theorem dX6_ring_22 : decode cX6_ring 22 = .ok (.getfield 136, 3) := by decide +kernel
theorem dX6_ring_25 : decode cX6_ring 25 = .ok (.invokestatic 132, 3) := by decide +kernel
theorem dX6_ring_28 : decode cX6_ring 28 = .ok (.ifCond .ne 16, 3) := by decide +kernel
theorem dX6_ring_31 : decode cX6_ring 31 = .ok (.aload_n 0, 1) := by decide +kernel
theorem dX6_ring_32 : decode cX6_ring 32 = .ok (.dup, 1) := by decide +kernel
theorem dX6_ring_33 : decode cX6_ring 33 = .ok (.getfield 136, 3) := by decide +kernel
theorem dX6_ring_36 : decode cX6_ring 36 = .ok (.iconst 1, 1) := by decide +kernel
theorem dX6_ring_37 : decode cX6_ring 37 = .ok (.iadd, 1) := by decide +kernel
theorem dX6_ring_38 : decode cX6_ring 38 = .ok (.putfield 136, 3) := by decide +kernel
theorem dX6_ring_41 : decode cX6_ring 41 = .ok (.goto (-26), 3) := by decide +kernel
theorem dX6_ring_44 : decode cX6_ring 44 = .ok (.aload_n 0, 1) := by decide +kernel
theorem dX6_ring_45 : decode cX6_ring 45 = .ok (.iconst 0, 1) := by decide +kernel
theorem dX6_ring_46 : decode cX6_ring 46 = .ok (.putfield 145, 3) := by decide +kernel
theorem dX6_ring_49 : decode cX6_ring 49 = .ok (.iconst 1, 1) := by decide +kernel
theorem dX6_ring_50 : decode cX6_ring 50 = .ok (.istore_n 3, 1) := by decide +kernel
theorem dX6_ring_51 : decode cX6_ring 51 = .ok (.iload_n 3, 1) := by decide +kernel
theorem dX6_ring_52 : decode cX6_ring 52 = .ok (.ifCond .eq 41, 3) := by decide +kernel
theorem dX6_ring_55 : decode cX6_ring 55 = .ok (.aload_n 0, 1) := by decide +kernel
theorem dX6_ring_56 : decode cX6_ring 56 = .ok (.aload_n 0, 1) := by decide +kernel
theorem dX6_ring_57 : decode cX6_ring 57 = .ok (.getfield 13, 3) := by decide +kernel
theorem dX6_ring_60 : decode cX6_ring 60 = .ok (.aload_n 0, 1) := by decide +kernel
theorem dX6_ring_61 : decode cX6_ring 61 = .ok (.getfield 54, 3) := by decide +kernel
theorem dX6_ring_64 : decode cX6_ring 64 = .ok (.invokevirtual 148, 3) := by decide +kernel
theorem dX6_ring_67 : decode cX6_ring 67 = .ok (.pop, 1) := by decide +kernel
theorem dX6_ring_68 : decode cX6_ring 68 = .ok (.aload_n 0, 1) := by decide +kernel
theorem dX6_ring_69 : decode cX6_ring 69 = .ok (.getfield 139, 3) := by decide +kernel
theorem dX6_ring_72 : decode cX6_ring 72 = .ok (.iload_n 1, 1) := by decide +kernel
theorem dX6_ring_73 : decode cX6_ring 73 = .ok (.if_icmp .ne 11, 3) := by decide +kernel
theorem dX6_ring_76 : decode cX6_ring 76 = .ok (.aload_n 0, 1) := by decide +kernel
theorem dX6_ring_77 : decode cX6_ring 77 = .ok (.getfield 142, 3) := by decide +kernel
theorem dX6_ring_80 : decode cX6_ring 80 = .ok (.iload_n 2, 1) := by decide +kernel
theorem dX6_ring_81 : decode cX6_ring 81 = .ok (.if_icmp .eq 7, 3) := by decide +kernel
theorem dX6_ring_84 : decode cX6_ring 84 = .ok (.iconst 1, 1) := by decide +kernel
theorem dX6_ring_85 : decode cX6_ring 85 = .ok (.goto 4, 3) := by decide +kernel
theorem dX6_ring_88 : decode cX6_ring 88 = .ok (.iconst 0, 1) := by decide +kernel
theorem dX6_ring_89 : decode cX6_ring 89 = .ok (.istore_n 3, 1) := by decide +kernel
theorem dX6_ring_90 : decode cX6_ring 90 = .ok (.goto (-39), 3) := by decide +kernel
theorem dX6_ring_93 : decode cX6_ring 93 = .ok (.aload_n 0, 1) := by decide +kernel
theorem dX6_ring_94 : decode cX6_ring 94 = .ok (.getfield 145, 3) := by decide +kernel
theorem dX6_ring_97 : decode cX6_ring 97 = .ok (.ireturn, 1) := by decide +kernel
theorem dX6_signOf_0 : decode cX6_signOf 0 = .ok (.iload_n 1, 1) := by decide +kernel
theorem dX6_signOf_1 : decode cX6_signOf 1 = .ok (.iload_n 2, 1) := by decide +kernel
theorem dX6_signOf_2 : decode cX6_signOf 2 = .ok (.ishr, 1) := by decide +kernel
theorem dX6_signOf_3 : decode cX6_signOf 3 = .ok (.iconst 1, 1) := by decide +kernel
theorem dX6_signOf_4 : decode cX6_signOf 4 = .ok (.iand, 1) := by decide +kernel
theorem dX6_signOf_5 : decode cX6_signOf 5 = .ok (.iload_n 0, 1) := by decide +kernel
theorem dX6_signOf_6 : decode cX6_signOf 6 = .ok (.iload_n 2, 1) := by decide +kernel
theorem dX6_signOf_7 : decode cX6_signOf 7 = .ok (.ishr, 1) := by decide +kernel
theorem dX6_signOf_8 : decode cX6_signOf 8 = .ok (.iconst 1, 1) := by decide +kernel
theorem dX6_signOf_9 : decode cX6_signOf 9 = .ok (.iand, 1) := by decide +kernel
theorem dX6_signOf_10 : decode cX6_signOf 10 = .ok (.isub, 1) := by decide +kernel
theorem dX6_signOf_11 : decode cX6_signOf 11 = .ok (.ireturn, 1) := by decide +kernel
set_option maxRecDepth 20000 in
theorem ggX6_leads_X6_signOf : GoodIn wsX6_leads wsX6_signOf := goodIn_r _ [4] (by decide +kernel) (by decide +kernel)
set_option maxRecDepth 20000 in
theorem gX6_leads_X6_signOf : GoodIn wsX6_leads (va_wsS RX6 167 yX6_signOf wsX6_signOf) := goodIn_app (goodIn_of _ (by decide +kernel)) ggX6_leads_X6_signOf
set_option maxRecDepth 20000 in
theorem ggX6_leads_X6_in : GoodIn wsX6_leads wsX6_in := goodIn_r _ [7] (by decide +kernel) (by decide +kernel)
set_option maxRecDepth 20000 in
theorem gX6_leads_X6_in : GoodIn wsX6_leads (va_wsS RX6 62 yX6_in wsX6_in) := goodIn_app (goodIn_of _ (by decide +kernel)) ggX6_leads_X6_in
theorem dX6_leads_0 : decode cX6_leads 0 = .ok (.iconst 0, 1) := by decide +kernel
theorem dX6_leads_1 : decode cX6_leads 1 = .ok (.istore_n 3, 1) := by decide +kernel
theorem dX6_leads_2 : decode cX6_leads 2 = .ok (.iconst 1, 1) := by decide +kernel
theorem dX6_leads_3 : decode cX6_leads 3 = .ok (.istore 4, 2) := by decide +kernel
theorem dX6_leads_5 : decode cX6_leads 5 = .ok (.iconst 0, 1) := by decide +kernel
theorem dX6_leads_6 : decode cX6_leads 6 = .ok (.istore 5, 2) := by decide +kernel
theorem dX6_leads_8 : decode cX6_leads 8 = .ok (.iload 5, 2) := by decide +kernel
theorem dX6_leads_10 : decode cX6_leads 10 = .ok (.iload_n 0, 1) := by decide +kernel
theorem dX6_leads_11 : decode cX6_leads 11 = .ok (.if_icmp .ge 41, 3) := by decide +kernel
theorem dX6_leads_14 : decode cX6_leads 14 = .ok (.iload_n 3, 1) := by decide +kernel
theorem dX6_leads_15 : decode cX6_leads 15 = .ok (.iload_n 1, 1) := by decide +kernel
theorem dX6_leads_16 : decode cX6_leads 16 = .ok (.iload_n 2, 1) := by decide +kernel
theorem dX6_leads_17 : decode cX6_leads 17 = .ok (.iload 5, 2) := by decide +kernel
theorem dX6_leads_19 : decode cX6_leads 19 = .ok (.invokestatic 167, 3) := by decide +kernel
theorem dX6_leads_22 : decode cX6_leads 22 = .ok (.iadd, 1) := by decide +kernel
theorem dX6_leads_23 : decode cX6_leads 23 = .ok (.istore_n 3, 1) := by decide +kernel
theorem dX6_leads_24 : decode cX6_leads 24 = .ok (.iload 4, 2) := by decide +kernel
theorem dX6_leads_26 : decode cX6_leads 26 = .ok (.ifCond .eq 17, 3) := by decide +kernel
theorem dX6_leads_29 : decode cX6_leads 29 = .ok (.iload_n 3, 1) := by decide +kernel
theorem dX6_leads_30 : decode cX6_leads 30 = .ok (.i2l, 1) := by decide +kernel
theorem dX6_leads_31 : decode cX6_leads 31 = .ok (.lconst 0, 1) := by decide +kernel
theorem dX6_leads_32 : decode cX6_leads 32 = .ok (.lconst 1, 1) := by decide +kernel
theorem dX6_leads_33 : decode cX6_leads 33 = .ok (.invokestatic 62, 3) := by decide +kernel
theorem dX6_leads_36 : decode cX6_leads 36 = .ok (.ifCond .eq 7, 3) := by decide +kernel
theorem dX6_leads_39 : decode cX6_leads 39 = .ok (.iconst 1, 1) := by decide +kernel
theorem dX6_leads_40 : decode cX6_leads 40 = .ok (.goto 4, 3) := by decide +kernel
theorem dX6_leads_43 : decode cX6_leads 43 = .ok (.iconst 0, 1) := by decide +kernel
theorem dX6_leads_44 : decode cX6_leads 44 = .ok (.istore 4, 2) := by decide +kernel
theorem dX6_leads_46 : decode cX6_leads 46 = .ok (.iinc 5 1, 3) := by decide +kernel
theorem dX6_leads_49 : decode cX6_leads 49 = .ok (.goto (-41), 3) := by decide +kernel
theorem dX6_leads_52 : decode cX6_leads 52 = .ok (.iload 4, 2) := by decide +kernel
theorem dX6_leads_54 : decode cX6_leads 54 = .ok (.ifCond .eq 12, 3) := by decide +kernel
theorem dX6_leads_57 : decode cX6_leads 57 = .ok (.iload_n 3, 1) := by decide +kernel
theorem dX6_leads_58 : decode cX6_leads 58 = .ok (.iconst 1, 1) := by decide +kernel
theorem dX6_leads_59 : decode cX6_leads 59 = .ok (.if_icmp .ne 7, 3) := by decide +kernel
theorem dX6_leads_62 : decode cX6_leads 62 = .ok (.iconst 1, 1) := by decide +kernel
theorem dX6_leads_63 : decode cX6_leads 63 = .ok (.goto 4, 3) := by decide +kernel
theorem dX6_leads_66 : decode cX6_leads 66 = .ok (.iconst 0, 1) := by decide +kernel
theorem dX6_leads_67 : decode cX6_leads 67 = .ok (.ireturn, 1) := by decide +kernel
set_option maxRecDepth 20000 in
theorem ggX6_findWays_X6_leads : GoodIn wsX6_findWays wsX6_leads := goodIn_r _ [5, 6, 7, 4, 8, 9, 10, 11] (by decide +kernel) (by decide +kernel)
set_option maxRecDepth 20000 in
theorem gX6_findWays_X6_leads : GoodIn wsX6_findWays (va_wsS RX6 171 yX6_leads wsX6_leads) := goodIn_app (goodIn_of _ (by decide +kernel)) ggX6_findWays_X6_leads
theorem dX6_findWays_0 : decode cX6_findWays 0 = .ok (.iconst 0, 1) := by decide +kernel
theorem dX6_findWays_1 : decode cX6_findWays 1 = .ok (.istore_n 2, 1) := by decide +kernel
theorem dX6_findWays_2 : decode cX6_findWays 2 = .ok (.iload_n 2, 1) := by decide +kernel
theorem dX6_findWays_3 : decode cX6_findWays 3 = .ok (.bipush 64, 2) := by decide +kernel
theorem dX6_findWays_5 : decode cX6_findWays 5 = .ok (.if_icmp .ge 34, 3) := by decide +kernel
theorem dX6_findWays_8 : decode cX6_findWays 8 = .ok (.aload_n 0, 1) := by decide +kernel
theorem dX6_findWays_9 : decode cX6_findWays 9 = .ok (.getfield 44, 3) := by decide +kernel
theorem dX6_findWays_12 : decode cX6_findWays 12 = .ok (.bipush 64, 2) := by decide +kernel
theorem dX6_findWays_14 : decode cX6_findWays 14 = .ok (.iload_n 1, 1) := by decide +kernel
theorem dX6_findWays_15 : decode cX6_findWays 15 = .ok (.imul, 1) := by decide +kernel
theorem dX6_findWays_16 : decode cX6_findWays 16 = .ok (.iload_n 2, 1) := by decide +kernel
theorem dX6_findWays_17 : decode cX6_findWays 17 = .ok (.iadd, 1) := by decide +kernel
theorem dX6_findWays_18 : decode cX6_findWays 18 = .ok (.iload_n 2, 1) := by decide +kernel
theorem dX6_findWays_19 : decode cX6_findWays 19 = .ok (.iconst 1, 1) := by decide +kernel
theorem dX6_findWays_20 : decode cX6_findWays 20 = .ok (.iload_n 1, 1) := by decide +kernel
theorem dX6_findWays_21 : decode cX6_findWays 21 = .ok (.ishl, 1) := by decide +kernel
theorem dX6_findWays_22 : decode cX6_findWays 22 = .ok (.iconst 1, 1) := by decide +kernel
theorem dX6_findWays_23 : decode cX6_findWays 23 = .ok (.isub, 1) := by decide +kernel
theorem dX6_findWays_24 : decode cX6_findWays 24 = .ok (.if_icmp .ne 7, 3) := by decide +kernel
theorem dX6_findWays_27 : decode cX6_findWays 27 = .ok (.iconst 1, 1) := by decide +kernel
theorem dX6_findWays_28 : decode cX6_findWays 28 = .ok (.goto 4, 3) := by decide +kernel
theorem dX6_findWays_31 : decode cX6_findWays 31 = .ok (.iconst 0, 1) := by decide +kernel
theorem dX6_findWays_32 : decode cX6_findWays 32 = .ok (.iastore, 1) := by decide +kernel
theorem dX6_findWays_33 : decode cX6_findWays 33 = .ok (.iinc 2 1, 3) := by decide +kernel
theorem dX6_findWays_36 : decode cX6_findWays 36 = .ok (.goto (-34), 3) := by decide +kernel
theorem dX6_findWays_39 : decode cX6_findWays 39 = .ok (.iload_n 1, 1) := by decide +kernel
theorem dX6_findWays_40 : decode cX6_findWays 40 = .ok (.iconst 1, 1) := by decide +kernel
theorem dX6_findWays_41 : decode cX6_findWays 41 = .ok (.isub, 1) := by decide +kernel
theorem dX6_findWays_42 : decode cX6_findWays 42 = .ok (.istore_n 2, 1) := by decide +kernel
theorem dX6_findWays_43 : decode cX6_findWays 43 = .ok (.iload_n 2, 1) := by decide +kernel
theorem dX6_findWays_44 : decode cX6_findWays 44 = .ok (.ifCond .lt 112, 3) := by decide +kernel
theorem dX6_findWays_47 : decode cX6_findWays 47 = .ok (.iconst 0, 1) := by decide +kernel
theorem dX6_findWays_48 : decode cX6_findWays 48 = .ok (.istore_n 3, 1) := by decide +kernel
theorem dX6_findWays_49 : decode cX6_findWays 49 = .ok (.iload_n 3, 1) := by decide +kernel
theorem dX6_findWays_50 : decode cX6_findWays 50 = .ok (.iconst 1, 1) := by decide +kernel
theorem dX6_findWays_51 : decode cX6_findWays 51 = .ok (.iload_n 1, 1) := by decide +kernel
theorem dX6_findWays_52 : decode cX6_findWays 52 = .ok (.ishl, 1) := by decide +kernel
theorem dX6_findWays_53 : decode cX6_findWays 53 = .ok (.if_icmp .ge 97, 3) := by decide +kernel
theorem dX6_findWays_56 : decode cX6_findWays 56 = .ok (.aload_n 0, 1) := by decide +kernel
theorem dX6_findWays_57 : decode cX6_findWays 57 = .ok (.getfield 44, 3) := by decide +kernel
theorem dX6_findWays_60 : decode cX6_findWays 60 = .ok (.bipush 64, 2) := by decide +kernel
theorem dX6_findWays_62 : decode cX6_findWays 62 = .ok (.iload_n 2, 1) := by decide +kernel
theorem dX6_findWays_63 : decode cX6_findWays 63 = .ok (.imul, 1) := by decide +kernel
theorem dX6_findWays_64 : decode cX6_findWays 64 = .ok (.iload_n 3, 1) := by decide +kernel
theorem dX6_findWays_65 : decode cX6_findWays 65 = .ok (.iadd, 1) := by decide +kernel
theorem dX6_findWays_66 : decode cX6_findWays 66 = .ok (.iconst 0, 1) := by decide +kernel
theorem dX6_findWays_67 : decode cX6_findWays 67 = .ok (.iastore, 1) := by decide +kernel
theorem dX6_findWays_68 : decode cX6_findWays 68 = .ok (.iconst 0, 1) := by decide +kernel
theorem dX6_findWays_69 : decode cX6_findWays 69 = .ok (.istore 4, 2) := by decide +kernel
theorem dX6_findWays_71 : decode cX6_findWays 71 = .ok (.iload 4, 2) := by decide +kernel
theorem dX6_findWays_73 : decode cX6_findWays 73 = .ok (.iconst 1, 1) := by decide +kernel
theorem dX6_findWays_74 : decode cX6_findWays 74 = .ok (.iload_n 1, 1) := by decide +kernel
theorem dX6_findWays_75 : decode cX6_findWays 75 = .ok (.ishl, 1) := by decide +kernel
theorem dX6_findWays_76 : decode cX6_findWays 76 = .ok (.if_icmp .ge 68, 3) := by decide +kernel
theorem dX6_findWays_79 : decode cX6_findWays 79 = .ok (.aload_n 0, 1) := by decide +kernel
theorem dX6_findWays_80 : decode cX6_findWays 80 = .ok (.getfield 44, 3) := by decide +kernel
theorem dX6_findWays_83 : decode cX6_findWays 83 = .ok (.bipush 64, 2) := by decide +kernel
theorem dX6_findWays_85 : decode cX6_findWays 85 = .ok (.iload_n 2, 1) := by decide +kernel
theorem dX6_findWays_86 : decode cX6_findWays 86 = .ok (.imul, 1) := by decide +kernel
theorem dX6_findWays_87 : decode cX6_findWays 87 = .ok (.iload_n 3, 1) := by decide +kernel
theorem dX6_findWays_88 : decode cX6_findWays 88 = .ok (.iadd, 1) := by decide +kernel
theorem dX6_findWays_89 : decode cX6_findWays 89 = .ok (.dup2, 1) := by decide +kernel
theorem dX6_findWays_90 : decode cX6_findWays 90 = .ok (.iaload, 1) := by decide +kernel
theorem dX6_findWays_91 : decode cX6_findWays 91 = .ok (.aload_n 0, 1) := by decide +kernel
theorem dX6_findWays_92 : decode cX6_findWays 92 = .ok (.getfield 44, 3) := by decide +kernel
theorem dX6_findWays_95 : decode cX6_findWays 95 = .ok (.bipush 64, 2) := by decide +kernel
theorem dX6_findWays_97 : decode cX6_findWays 97 = .ok (.iload_n 2, 1) := by decide +kernel
theorem dX6_findWays_98 : decode cX6_findWays 98 = .ok (.iconst 1, 1) := by decide +kernel
theorem dX6_findWays_99 : decode cX6_findWays 99 = .ok (.iadd, 1) := by decide +kernel
theorem dX6_findWays_100 : decode cX6_findWays 100 = .ok (.imul, 1) := by decide +kernel
theorem dX6_findWays_101 : decode cX6_findWays 101 = .ok (.iload 4, 2) := by decide +kernel
theorem dX6_findWays_103 : decode cX6_findWays 103 = .ok (.iadd, 1) := by decide +kernel
theorem dX6_findWays_104 : decode cX6_findWays 104 = .ok (.iaload, 1) := by decide +kernel
theorem dX6_findWays_105 : decode cX6_findWays 105 = .ok (.ifCond .le 30, 3) := by decide +kernel
theorem dX6_findWays_108 : decode cX6_findWays 108 = .ok (.iload_n 1, 1) := by decide +kernel
theorem dX6_findWays_109 : decode cX6_findWays 109 = .ok (.iload_n 3, 1) := by decide +kernel
theorem dX6_findWays_110 : decode cX6_findWays 110 = .ok (.iload 4, 2) := by decide +kernel
theorem dX6_findWays_112 : decode cX6_findWays 112 = .ok (.invokestatic 171, 3) := by decide +kernel
theorem dX6_findWays_115 : decode cX6_findWays 115 = .ok (.ifCond .eq 20, 3) := by decide +kernel
theorem dX6_findWays_118 : decode cX6_findWays 118 = .ok (.aload_n 0, 1) := by decide +kernel
theorem dX6_findWays_119 : decode cX6_findWays 119 = .ok (.getfield 44, 3) := by decide +kernel
theorem dX6_findWays_122 : decode cX6_findWays 122 = .ok (.bipush 64, 2) := by decide +kernel
theorem dX6_findWays_124 : decode cX6_findWays 124 = .ok (.iload_n 2, 1) := by decide +kernel
theorem dX6_findWays_125 : decode cX6_findWays 125 = .ok (.iconst 1, 1) := by decide +kernel
theorem dX6_findWays_126 : decode cX6_findWays 126 = .ok (.iadd, 1) := by decide +kernel
theorem dX6_findWays_127 : decode cX6_findWays 127 = .ok (.imul, 1) := by decide +kernel
theorem dX6_findWays_128 : decode cX6_findWays 128 = .ok (.iload 4, 2) := by decide +kernel
theorem dX6_findWays_130 : decode cX6_findWays 130 = .ok (.iadd, 1) := by decide +kernel
theorem dX6_findWays_131 : decode cX6_findWays 131 = .ok (.iaload, 1) := by decide +kernel
theorem dX6_findWays_132 : decode cX6_findWays 132 = .ok (.goto 4, 3) := by decide +kernel
theorem dX6_findWays_135 : decode cX6_findWays 135 = .ok (.iconst 0, 1) := by decide +kernel
theorem dX6_findWays_136 : decode cX6_findWays 136 = .ok (.iadd, 1) := by decide +kernel
theorem dX6_findWays_137 : decode cX6_findWays 137 = .ok (.iastore, 1) := by decide +kernel
theorem dX6_findWays_138 : decode cX6_findWays 138 = .ok (.iinc 4 1, 3) := by decide +kernel
theorem dX6_findWays_141 : decode cX6_findWays 141 = .ok (.goto (-70), 3) := by decide +kernel
theorem dX6_findWays_144 : decode cX6_findWays 144 = .ok (.iinc 3 1, 3) := by decide +kernel
theorem dX6_findWays_147 : decode cX6_findWays 147 = .ok (.goto (-98), 3) := by decide +kernel
theorem dX6_findWays_150 : decode cX6_findWays 150 = .ok (.iinc 2 (-1), 3) := by decide +kernel
theorem dX6_findWays_153 : decode cX6_findWays 153 = .ok (.goto (-110), 3) := by decide +kernel
theorem dX6_findWays_156 : decode cX6_findWays 156 = .ok (.aload_n 0, 1) := by decide +kernel
theorem dX6_findWays_157 : decode cX6_findWays 157 = .ok (.getfield 44, 3) := by decide +kernel
theorem dX6_findWays_160 : decode cX6_findWays 160 = .ok (.iconst 0, 1) := by decide +kernel
theorem dX6_findWays_161 : decode cX6_findWays 161 = .ok (.iaload, 1) := by decide +kernel
theorem dX6_findWays_162 : decode cX6_findWays 162 = .ok (.ireturn, 1) := by decide +kernel
set_option maxRecDepth 20000 in
theorem ggX6_isAhead_X6_signOf : GoodIn wsX6_isAhead wsX6_signOf := goodIn_r _ [4] (by decide +kernel) (by decide +kernel)
set_option maxRecDepth 20000 in
theorem gX6_isAhead_X6_signOf : GoodIn wsX6_isAhead (va_wsS RX6 167 yX6_signOf wsX6_signOf) := goodIn_app (goodIn_of _ (by decide +kernel)) ggX6_isAhead_X6_signOf
theorem dX6_isAhead_0 : decode cX6_isAhead 0 = .ok (.iconst 0, 1) := by decide +kernel
theorem dX6_isAhead_1 : decode cX6_isAhead 1 = .ok (.istore_n 3, 1) := by decide +kernel
theorem dX6_isAhead_2 : decode cX6_isAhead 2 = .ok (.iload_n 3, 1) := by decide +kernel
theorem dX6_isAhead_3 : decode cX6_isAhead 3 = .ok (.bipush 6, 2) := by decide +kernel
theorem dX6_isAhead_5 : decode cX6_isAhead 5 = .ok (.if_icmp .ge 24, 3) := by decide +kernel
theorem dX6_isAhead_8 : decode cX6_isAhead 8 = .ok (.iload_n 0, 1) := by decide +kernel
theorem dX6_isAhead_9 : decode cX6_isAhead 9 = .ok (.iload_n 1, 1) := by decide +kernel
theorem dX6_isAhead_10 : decode cX6_isAhead 10 = .ok (.iload_n 3, 1) := by decide +kernel
theorem dX6_isAhead_11 : decode cX6_isAhead 11 = .ok (.invokestatic 167, 3) := by decide +kernel
theorem dX6_isAhead_14 : decode cX6_isAhead 14 = .ok (.iload_n 0, 1) := by decide +kernel
theorem dX6_isAhead_15 : decode cX6_isAhead 15 = .ok (.iload_n 2, 1) := by decide +kernel
theorem dX6_isAhead_16 : decode cX6_isAhead 16 = .ok (.iload_n 3, 1) := by decide +kernel
theorem dX6_isAhead_17 : decode cX6_isAhead 17 = .ok (.invokestatic 167, 3) := by decide +kernel
theorem dX6_isAhead_20 : decode cX6_isAhead 20 = .ok (.if_icmp .ne 9, 3) := by decide +kernel
theorem dX6_isAhead_23 : decode cX6_isAhead 23 = .ok (.iinc 3 1, 3) := by decide +kernel
theorem dX6_isAhead_26 : decode cX6_isAhead 26 = .ok (.goto (-24), 3) := by decide +kernel
theorem dX6_isAhead_29 : decode cX6_isAhead 29 = .ok (.iload_n 3, 1) := by decide +kernel
theorem dX6_isAhead_30 : decode cX6_isAhead 30 = .ok (.bipush 6, 2) := by decide +kernel
theorem dX6_isAhead_32 : decode cX6_isAhead 32 = .ok (.if_icmp .ge 22, 3) := by decide +kernel
theorem dX6_isAhead_35 : decode cX6_isAhead 35 = .ok (.iload_n 0, 1) := by decide +kernel
theorem dX6_isAhead_36 : decode cX6_isAhead 36 = .ok (.iload_n 1, 1) := by decide +kernel
theorem dX6_isAhead_37 : decode cX6_isAhead 37 = .ok (.iload_n 3, 1) := by decide +kernel
theorem dX6_isAhead_38 : decode cX6_isAhead 38 = .ok (.invokestatic 167, 3) := by decide +kernel
theorem dX6_isAhead_41 : decode cX6_isAhead 41 = .ok (.iload_n 0, 1) := by decide +kernel
theorem dX6_isAhead_42 : decode cX6_isAhead 42 = .ok (.iload_n 2, 1) := by decide +kernel
theorem dX6_isAhead_43 : decode cX6_isAhead 43 = .ok (.iload_n 3, 1) := by decide +kernel
theorem dX6_isAhead_44 : decode cX6_isAhead 44 = .ok (.invokestatic 167, 3) := by decide +kernel
theorem dX6_isAhead_47 : decode cX6_isAhead 47 = .ok (.if_icmp .le 7, 3) := by decide +kernel
theorem dX6_isAhead_50 : decode cX6_isAhead 50 = .ok (.iconst 1, 1) := by decide +kernel
theorem dX6_isAhead_51 : decode cX6_isAhead 51 = .ok (.goto 4, 3) := by decide +kernel
theorem dX6_isAhead_54 : decode cX6_isAhead 54 = .ok (.iconst 0, 1) := by decide +kernel
theorem dX6_isAhead_55 : decode cX6_isAhead 55 = .ok (.ireturn, 1) := by decide +kernel
set_option maxRecDepth 20000 in
theorem ggX6_aheadOf_X6_leads : GoodIn wsX6_aheadOf wsX6_leads := goodIn_r _ [5, 6, 7, 4, 8, 9, 10, 11] (by decide +kernel) (by decide +kernel)
set_option maxRecDepth 20000 in
theorem gX6_aheadOf_X6_leads : GoodIn wsX6_aheadOf (va_wsS RX6 171 yX6_leads wsX6_leads) := goodIn_app (goodIn_of _ (by decide +kernel)) ggX6_aheadOf_X6_leads
set_option maxRecDepth 20000 in
theorem ggX6_aheadOf_X6_isAhead : GoodIn wsX6_aheadOf wsX6_isAhead := goodIn_r _ [14, 6, 7, 4, 8] (by decide +kernel) (by decide +kernel)
set_option maxRecDepth 20000 in
theorem gX6_aheadOf_X6_isAhead : GoodIn wsX6_aheadOf (va_wsS RX6 175 yX6_isAhead wsX6_isAhead) := goodIn_app (goodIn_of _ (by decide +kernel)) ggX6_aheadOf_X6_isAhead
theorem dX6_aheadOf_0 : decode cX6_aheadOf 0 = .ok (.iconst 0, 1) := by decide +kernel
theorem dX6_aheadOf_1 : decode cX6_aheadOf 1 = .ok (.istore 5, 2) := by decide +kernel
theorem dX6_aheadOf_3 : decode cX6_aheadOf 3 = .ok (.iconst 0, 1) := by decide +kernel
theorem dX6_aheadOf_4 : decode cX6_aheadOf 4 = .ok (.istore 6, 2) := by decide +kernel
theorem dX6_aheadOf_6 : decode cX6_aheadOf 6 = .ok (.iload 6, 2) := by decide +kernel
theorem dX6_aheadOf_8 : decode cX6_aheadOf 8 = .ok (.iconst 1, 1) := by decide +kernel
theorem dX6_aheadOf_9 : decode cX6_aheadOf 9 = .ok (.iload_n 1, 1) := by decide +kernel
theorem dX6_aheadOf_10 : decode cX6_aheadOf 10 = .ok (.ishl, 1) := by decide +kernel
theorem dX6_aheadOf_11 : decode cX6_aheadOf 11 = .ok (.if_icmp .ge 53, 3) := by decide +kernel
theorem dX6_aheadOf_14 : decode cX6_aheadOf 14 = .ok (.iload 5, 2) := by decide +kernel
theorem dX6_aheadOf_16 : decode cX6_aheadOf 16 = .ok (.iload_n 1, 1) := by decide +kernel
theorem dX6_aheadOf_17 : decode cX6_aheadOf 17 = .ok (.iload_n 3, 1) := by decide +kernel
theorem dX6_aheadOf_18 : decode cX6_aheadOf 18 = .ok (.iload 6, 2) := by decide +kernel
theorem dX6_aheadOf_20 : decode cX6_aheadOf 20 = .ok (.invokestatic 171, 3) := by decide +kernel
theorem dX6_aheadOf_23 : decode cX6_aheadOf 23 = .ok (.ifCond .eq 31, 3) := by decide +kernel
theorem dX6_aheadOf_26 : decode cX6_aheadOf 26 = .ok (.iload_n 3, 1) := by decide +kernel
theorem dX6_aheadOf_27 : decode cX6_aheadOf 27 = .ok (.iload 6, 2) := by decide +kernel
theorem dX6_aheadOf_29 : decode cX6_aheadOf 29 = .ok (.iload 4, 2) := by decide +kernel
theorem dX6_aheadOf_31 : decode cX6_aheadOf 31 = .ok (.invokestatic 175, 3) := by decide +kernel
theorem dX6_aheadOf_34 : decode cX6_aheadOf 34 = .ok (.ifCond .eq 20, 3) := by decide +kernel
theorem dX6_aheadOf_37 : decode cX6_aheadOf 37 = .ok (.aload_n 0, 1) := by decide +kernel
theorem dX6_aheadOf_38 : decode cX6_aheadOf 38 = .ok (.getfield 44, 3) := by decide +kernel
theorem dX6_aheadOf_41 : decode cX6_aheadOf 41 = .ok (.bipush 64, 2) := by decide +kernel
theorem dX6_aheadOf_43 : decode cX6_aheadOf 43 = .ok (.iload_n 2, 1) := by decide +kernel
theorem dX6_aheadOf_44 : decode cX6_aheadOf 44 = .ok (.iconst 1, 1) := by decide +kernel
theorem dX6_aheadOf_45 : decode cX6_aheadOf 45 = .ok (.iadd, 1) := by decide +kernel
theorem dX6_aheadOf_46 : decode cX6_aheadOf 46 = .ok (.imul, 1) := by decide +kernel
theorem dX6_aheadOf_47 : decode cX6_aheadOf 47 = .ok (.iload 6, 2) := by decide +kernel
theorem dX6_aheadOf_49 : decode cX6_aheadOf 49 = .ok (.iadd, 1) := by decide +kernel
theorem dX6_aheadOf_50 : decode cX6_aheadOf 50 = .ok (.iaload, 1) := by decide +kernel
theorem dX6_aheadOf_51 : decode cX6_aheadOf 51 = .ok (.goto 4, 3) := by decide +kernel
theorem dX6_aheadOf_54 : decode cX6_aheadOf 54 = .ok (.iconst 0, 1) := by decide +kernel
theorem dX6_aheadOf_55 : decode cX6_aheadOf 55 = .ok (.iadd, 1) := by decide +kernel
theorem dX6_aheadOf_56 : decode cX6_aheadOf 56 = .ok (.istore 5, 2) := by decide +kernel
theorem dX6_aheadOf_58 : decode cX6_aheadOf 58 = .ok (.iinc 6 1, 3) := by decide +kernel
theorem dX6_aheadOf_61 : decode cX6_aheadOf 61 = .ok (.goto (-55), 3) := by decide +kernel
theorem dX6_aheadOf_64 : decode cX6_aheadOf 64 = .ok (.iload 5, 2) := by decide +kernel
theorem dX6_aheadOf_66 : decode cX6_aheadOf 66 = .ok (.ireturn, 1) := by decide +kernel
set_option maxRecDepth 20000 in
theorem ggX6_rank_X6_findWays : GoodIn wsX6_rank wsX6_findWays := goodIn_r _ [7, 8, 9, 10, 6, 11, 12, 13, 14, 15, 16, 17, 25, 26, 27, 28, 29, 30, 31, 32, 33, 34, 35, 36, 37, 38, 39, 40, 41, 42, 43, 44, 45, 46, 47] (by decide +kernel) (by decide +kernel)
set_option maxRecDepth 20000 in
theorem gX6_rank_X6_findWays : GoodIn wsX6_rank (wsV RX6 178 RX6 yX6_findWays wsX6_findWays) := goodIn_app (goodIn_of _ (by decide +kernel)) ggX6_rank_X6_findWays
set_option maxRecDepth 20000 in
theorem ggX6_rank_X6_aheadOf : GoodIn wsX6_rank wsX6_aheadOf := goodIn_r _ [21, 8, 9, 10, 6, 11, 12, 13, 14, 15, 16, 17, 22, 23, 24, 25, 26, 27, 28, 29, 30, 31, 32, 33, 34, 35, 36, 37, 38, 39, 40, 41, 42, 43, 44, 45, 46, 47] (by decide +kernel) (by decide +kernel)
set_option maxRecDepth 20000 in
theorem gX6_rank_X6_aheadOf : GoodIn wsX6_rank (wsV RX6 181 RX6 yX6_aheadOf wsX6_aheadOf) := goodIn_app (goodIn_of _ (by decide +kernel)) ggX6_rank_X6_aheadOf
theorem dX6_rank_0 : decode cX6_rank 0 = .ok (.aload_n 0, 1) := by decide +kernel
theorem dX6_rank_1 : decode cX6_rank 1 = .ok (.aload_n 0, 1) := by decide +kernel
theorem dX6_rank_2 : decode cX6_rank 2 = .ok (.getfield 54, 3) := by decide +kernel
theorem dX6_rank_5 : decode cX6_rank 5 = .ok (.invokevirtual 178, 3) := by decide +kernel
theorem dX6_rank_8 : decode cX6_rank 8 = .ok (.pop, 1) := by decide +kernel
theorem dX6_rank_9 : decode cX6_rank 9 = .ok (.iconst 0, 1) := by decide +kernel
theorem dX6_rank_10 : decode cX6_rank 10 = .ok (.istore_n 1, 1) := by decide +kernel
theorem dX6_rank_11 : decode cX6_rank 11 = .ok (.iconst 0, 1) := by decide +kernel
theorem dX6_rank_12 : decode cX6_rank 12 = .ok (.istore_n 2, 1) := by decide +kernel
theorem dX6_rank_13 : decode cX6_rank 13 = .ok (.iconst 0, 1) := by decide +kernel
theorem dX6_rank_14 : decode cX6_rank 14 = .ok (.istore_n 3, 1) := by decide +kernel
theorem dX6_rank_15 : decode cX6_rank 15 = .ok (.iload_n 3, 1) := by decide +kernel
theorem dX6_rank_16 : decode cX6_rank 16 = .ok (.aload_n 0, 1) := by decide +kernel
theorem dX6_rank_17 : decode cX6_rank 17 = .ok (.getfield 54, 3) := by decide +kernel
theorem dX6_rank_20 : decode cX6_rank 20 = .ok (.if_icmp .ge 100, 3) := by decide +kernel
theorem dX6_rank_23 : decode cX6_rank 23 = .ok (.iload_n 2, 1) := by decide +kernel
theorem dX6_rank_24 : decode cX6_rank 24 = .ok (.istore 4, 2) := by decide +kernel
theorem dX6_rank_26 : decode cX6_rank 26 = .ok (.iconst 0, 1) := by decide +kernel
theorem dX6_rank_27 : decode cX6_rank 27 = .ok (.istore 5, 2) := by decide +kernel
theorem dX6_rank_29 : decode cX6_rank 29 = .ok (.iload 5, 2) := by decide +kernel
theorem dX6_rank_31 : decode cX6_rank 31 = .ok (.aload_n 0, 1) := by decide +kernel
theorem dX6_rank_32 : decode cX6_rank 32 = .ok (.getfield 54, 3) := by decide +kernel
theorem dX6_rank_35 : decode cX6_rank 35 = .ok (.if_icmp .ge 61, 3) := by decide +kernel
theorem dX6_rank_38 : decode cX6_rank 38 = .ok (.aload_n 0, 1) := by decide +kernel
theorem dX6_rank_39 : decode cX6_rank 39 = .ok (.getfield 13, 3) := by decide +kernel
theorem dX6_rank_42 : decode cX6_rank 42 = .ok (.bipush 6, 2) := by decide +kernel
theorem dX6_rank_44 : decode cX6_rank 44 = .ok (.iload_n 3, 1) := by decide +kernel
theorem dX6_rank_45 : decode cX6_rank 45 = .ok (.imul, 1) := by decide +kernel
theorem dX6_rank_46 : decode cX6_rank 46 = .ok (.iload 5, 2) := by decide +kernel
theorem dX6_rank_48 : decode cX6_rank 48 = .ok (.iadd, 1) := by decide +kernel
theorem dX6_rank_49 : decode cX6_rank 49 = .ok (.iaload, 1) := by decide +kernel
theorem dX6_rank_50 : decode cX6_rank 50 = .ok (.istore 6, 2) := by decide +kernel
theorem dX6_rank_52 : decode cX6_rank 52 = .ok (.iload 6, 2) := by decide +kernel
theorem dX6_rank_54 : decode cX6_rank 54 = .ok (.iconst 1, 1) := by decide +kernel
theorem dX6_rank_55 : decode cX6_rank 55 = .ok (.if_icmp .ne 13, 3) := by decide +kernel
theorem dX6_rank_58 : decode cX6_rank 58 = .ok (.iload 4, 2) := by decide +kernel
theorem dX6_rank_60 : decode cX6_rank 60 = .ok (.iconst 1, 1) := by decide +kernel
theorem dX6_rank_61 : decode cX6_rank 61 = .ok (.iload 5, 2) := by decide +kernel
theorem dX6_rank_63 : decode cX6_rank 63 = .ok (.ishl, 1) := by decide +kernel
theorem dX6_rank_64 : decode cX6_rank 64 = .ok (.ior, 1) := by decide +kernel
theorem dX6_rank_65 : decode cX6_rank 65 = .ok (.goto 23, 3) := by decide +kernel
theorem dX6_rank_68 : decode cX6_rank 68 = .ok (.iload 6, 2) := by decide +kernel
theorem dX6_rank_70 : decode cX6_rank 70 = .ok (.iconst (-1), 1) := by decide +kernel
theorem dX6_rank_71 : decode cX6_rank 71 = .ok (.if_icmp .ne 15, 3) := by decide +kernel
theorem dX6_rank_74 : decode cX6_rank 74 = .ok (.iload 4, 2) := by decide +kernel
theorem dX6_rank_76 : decode cX6_rank 76 = .ok (.iconst 1, 1) := by decide +kernel
theorem dX6_rank_77 : decode cX6_rank 77 = .ok (.iload 5, 2) := by decide +kernel
theorem dX6_rank_79 : decode cX6_rank 79 = .ok (.ishl, 1) := by decide +kernel
theorem dX6_rank_80 : decode cX6_rank 80 = .ok (.iconst (-1), 1) := by decide +kernel
theorem dX6_rank_81 : decode cX6_rank 81 = .ok (.ixor, 1) := by decide +kernel
theorem dX6_rank_82 : decode cX6_rank 82 = .ok (.iand, 1) := by decide +kernel
theorem dX6_rank_83 : decode cX6_rank 83 = .ok (.goto 5, 3) := by decide +kernel
theorem dX6_rank_86 : decode cX6_rank 86 = .ok (.iload 4, 2) := by decide +kernel
theorem dX6_rank_88 : decode cX6_rank 88 = .ok (.istore 4, 2) := by decide +kernel
theorem dX6_rank_90 : decode cX6_rank 90 = .ok (.iinc 5 1, 3) := by decide +kernel
theorem dX6_rank_93 : decode cX6_rank 93 = .ok (.goto (-64), 3) := by decide +kernel
theorem dX6_rank_96 : decode cX6_rank 96 = .ok (.iload_n 1, 1) := by decide +kernel
theorem dX6_rank_97 : decode cX6_rank 97 = .ok (.aload_n 0, 1) := by decide +kernel
theorem dX6_rank_98 : decode cX6_rank 98 = .ok (.aload_n 0, 1) := by decide +kernel
theorem dX6_rank_99 : decode cX6_rank 99 = .ok (.getfield 54, 3) := by decide +kernel
theorem dX6_rank_102 : decode cX6_rank 102 = .ok (.iload_n 3, 1) := by decide +kernel
theorem dX6_rank_103 : decode cX6_rank 103 = .ok (.iload_n 2, 1) := by decide +kernel
theorem dX6_rank_104 : decode cX6_rank 104 = .ok (.iload 4, 2) := by decide +kernel
theorem dX6_rank_106 : decode cX6_rank 106 = .ok (.invokevirtual 181, 3) := by decide +kernel
theorem dX6_rank_109 : decode cX6_rank 109 = .ok (.iadd, 1) := by decide +kernel
theorem dX6_rank_110 : decode cX6_rank 110 = .ok (.istore_n 1, 1) := by decide +kernel
theorem dX6_rank_111 : decode cX6_rank 111 = .ok (.iload 4, 2) := by decide +kernel
theorem dX6_rank_113 : decode cX6_rank 113 = .ok (.istore_n 2, 1) := by decide +kernel
theorem dX6_rank_114 : decode cX6_rank 114 = .ok (.iinc 3 1, 3) := by decide +kernel
theorem dX6_rank_117 : decode cX6_rank 117 = .ok (.goto (-102), 3) := by decide +kernel
theorem dX6_rank_120 : decode cX6_rank 120 = .ok (.iload_n 1, 1) := by decide +kernel
theorem dX6_rank_121 : decode cX6_rank 121 = .ok (.ireturn, 1) := by decide +kernel
set_option maxRecDepth 20000 in
theorem ggX6_unrank_X6_isRow : GoodIn wsX6_unrank wsX6_isRow := goodIn_r _ [5, 6, 7, 8, 4, 9, 10, 11, 12, 13, 14, 15, 16, 17, 18, 19, 20, 21, 22, 23, 24, 25, 26, 27, 28, 29, 30, 31, 32, 33, 34, 35, 36, 37, 38, 39, 40, 41, 42, 43, 44, 45] (by decide +kernel) (by decide +kernel)
set_option maxRecDepth 20000 in
theorem gX6_unrank_X6_isRow : GoodIn wsX6_unrank (wsV RX6 185 RX6 yX6_isRow wsX6_isRow) := goodIn_app (goodIn_of _ (by decide +kernel)) ggX6_unrank_X6_isRow
set_option maxRecDepth 20000 in
theorem ggX6_unrank_X6_aheadOf : GoodIn wsX6_unrank wsX6_aheadOf := goodIn_r _ [19, 6, 7, 8, 4, 9, 10, 11, 12, 13, 14, 15, 20, 21, 22, 23, 24, 25, 26, 27, 28, 29, 30, 31, 32, 33, 34, 35, 36, 37, 38, 39, 40, 41, 42, 43, 44, 45] (by decide +kernel) (by decide +kernel)
set_option maxRecDepth 20000 in
theorem gX6_unrank_X6_aheadOf : GoodIn wsX6_unrank (wsV RX6 181 RX6 yX6_aheadOf wsX6_aheadOf) := goodIn_app (goodIn_of _ (by decide +kernel)) ggX6_unrank_X6_aheadOf
set_option maxRecDepth 20000 in
theorem ggX6_unrank_X6_signOf : GoodIn wsX6_unrank wsX6_signOf := goodIn_r _ [12] (by decide +kernel) (by decide +kernel)
set_option maxRecDepth 20000 in
theorem gX6_unrank_X6_signOf : GoodIn wsX6_unrank (va_wsS RX6 167 yX6_signOf wsX6_signOf) := goodIn_app (goodIn_of _ (by decide +kernel)) ggX6_unrank_X6_signOf
theorem dX6_unrank_0 : decode cX6_unrank 0 = .ok (.iload_n 2, 1) := by decide +kernel
theorem dX6_unrank_1 : decode cX6_unrank 1 = .ok (.istore 4, 2) := by decide +kernel
theorem dX6_unrank_3 : decode cX6_unrank 3 = .ok (.iconst 0, 1) := by decide +kernel
theorem dX6_unrank_4 : decode cX6_unrank 4 = .ok (.istore 5, 2) := by decide +kernel
theorem dX6_unrank_6 : decode cX6_unrank 6 = .ok (.iconst 0, 1) := by decide +kernel
theorem dX6_unrank_7 : decode cX6_unrank 7 = .ok (.istore 6, 2) := by decide +kernel
theorem dX6_unrank_9 : decode cX6_unrank 9 = .ok (.iload 6, 2) := by decide +kernel
theorem dX6_unrank_11 : decode cX6_unrank 11 = .ok (.iload_n 1, 1) := by decide +kernel
theorem dX6_unrank_12 : decode cX6_unrank 12 = .ok (.if_icmp .ge 88, 3) := by decide +kernel
theorem dX6_unrank_15 : decode cX6_unrank 15 = .ok (.iconst 0, 1) := by decide +kernel
theorem dX6_unrank_16 : decode cX6_unrank 16 = .ok (.istore 7, 2) := by decide +kernel
theorem dX6_unrank_18 : decode cX6_unrank 18 = .ok (.aload_n 0, 1) := by decide +kernel
theorem dX6_unrank_19 : decode cX6_unrank 19 = .ok (.iload_n 1, 1) := by decide +kernel
theorem dX6_unrank_20 : decode cX6_unrank 20 = .ok (.iload 6, 2) := by decide +kernel
theorem dX6_unrank_22 : decode cX6_unrank 22 = .ok (.iload 5, 2) := by decide +kernel
theorem dX6_unrank_24 : decode cX6_unrank 24 = .ok (.iload 7, 2) := by decide +kernel
theorem dX6_unrank_26 : decode cX6_unrank 26 = .ok (.iload 4, 2) := by decide +kernel
theorem dX6_unrank_28 : decode cX6_unrank 28 = .ok (.invokevirtual 185, 3) := by decide +kernel
theorem dX6_unrank_31 : decode cX6_unrank 31 = .ok (.ifCond .ne 9, 3) := by decide +kernel
theorem dX6_unrank_34 : decode cX6_unrank 34 = .ok (.iinc 7 1, 3) := by decide +kernel
theorem dX6_unrank_37 : decode cX6_unrank 37 = .ok (.goto (-19), 3) := by decide +kernel
theorem dX6_unrank_40 : decode cX6_unrank 40 = .ok (.iload 4, 2) := by decide +kernel
theorem dX6_unrank_42 : decode cX6_unrank 42 = .ok (.aload_n 0, 1) := by decide +kernel
theorem dX6_unrank_43 : decode cX6_unrank 43 = .ok (.iload_n 1, 1) := by decide +kernel
theorem dX6_unrank_44 : decode cX6_unrank 44 = .ok (.iload 6, 2) := by decide +kernel
theorem dX6_unrank_46 : decode cX6_unrank 46 = .ok (.iload 5, 2) := by decide +kernel
theorem dX6_unrank_48 : decode cX6_unrank 48 = .ok (.iload 7, 2) := by decide +kernel
theorem dX6_unrank_50 : decode cX6_unrank 50 = .ok (.invokevirtual 181, 3) := by decide +kernel
theorem dX6_unrank_53 : decode cX6_unrank 53 = .ok (.isub, 1) := by decide +kernel
theorem dX6_unrank_54 : decode cX6_unrank 54 = .ok (.istore 4, 2) := by decide +kernel
theorem dX6_unrank_56 : decode cX6_unrank 56 = .ok (.iconst 0, 1) := by decide +kernel
theorem dX6_unrank_57 : decode cX6_unrank 57 = .ok (.istore 8, 2) := by decide +kernel
theorem dX6_unrank_59 : decode cX6_unrank 59 = .ok (.iload 8, 2) := by decide +kernel
theorem dX6_unrank_61 : decode cX6_unrank 61 = .ok (.iload_n 1, 1) := by decide +kernel
theorem dX6_unrank_62 : decode cX6_unrank 62 = .ok (.if_icmp .ge 28, 3) := by decide +kernel
theorem dX6_unrank_65 : decode cX6_unrank 65 = .ok (.aload_n 3, 1) := by decide +kernel
theorem dX6_unrank_66 : decode cX6_unrank 66 = .ok (.bipush 6, 2) := by decide +kernel
theorem dX6_unrank_68 : decode cX6_unrank 68 = .ok (.iload 6, 2) := by decide +kernel
theorem dX6_unrank_70 : decode cX6_unrank 70 = .ok (.imul, 1) := by decide +kernel
theorem dX6_unrank_71 : decode cX6_unrank 71 = .ok (.iload 8, 2) := by decide +kernel
theorem dX6_unrank_73 : decode cX6_unrank 73 = .ok (.iadd, 1) := by decide +kernel
theorem dX6_unrank_74 : decode cX6_unrank 74 = .ok (.iload 5, 2) := by decide +kernel
theorem dX6_unrank_76 : decode cX6_unrank 76 = .ok (.iload 7, 2) := by decide +kernel
theorem dX6_unrank_78 : decode cX6_unrank 78 = .ok (.iload 8, 2) := by decide +kernel
theorem dX6_unrank_80 : decode cX6_unrank 80 = .ok (.invokestatic 167, 3) := by decide +kernel
theorem dX6_unrank_83 : decode cX6_unrank 83 = .ok (.iastore, 1) := by decide +kernel
theorem dX6_unrank_84 : decode cX6_unrank 84 = .ok (.iinc 8 1, 3) := by decide +kernel
theorem dX6_unrank_87 : decode cX6_unrank 87 = .ok (.goto (-28), 3) := by decide +kernel
theorem dX6_unrank_90 : decode cX6_unrank 90 = .ok (.iload 7, 2) := by decide +kernel
theorem dX6_unrank_92 : decode cX6_unrank 92 = .ok (.istore 5, 2) := by decide +kernel
theorem dX6_unrank_94 : decode cX6_unrank 94 = .ok (.iinc 6 1, 3) := by decide +kernel
theorem dX6_unrank_97 : decode cX6_unrank 97 = .ok (.goto (-88), 3) := by decide +kernel
theorem dX6_unrank_100 : decode cX6_unrank 100 = .ok (.return_, 1) := by decide +kernel
set_option maxRecDepth 20000 in
theorem ggX6_isRow_X6_leads : GoodIn wsX6_isRow wsX6_leads := goodIn_r _ [5, 6, 7, 4, 8, 9, 10, 11] (by decide +kernel) (by decide +kernel)
set_option maxRecDepth 20000 in
theorem gX6_isRow_X6_leads : GoodIn wsX6_isRow (va_wsS RX6 171 yX6_leads wsX6_leads) := goodIn_app (goodIn_of _ (by decide +kernel)) ggX6_isRow_X6_leads
set_option maxRecDepth 20000 in
theorem ggX6_isRow_X6_aheadOf : GoodIn wsX6_isRow wsX6_aheadOf := goodIn_r _ [15, 1, 2, 3, 4, 5, 6, 7, 8, 9, 10, 11, 16, 17, 18, 19, 20, 21, 22, 23, 24, 25, 26, 27, 28, 29, 30, 31, 32, 33, 34, 35, 36, 37, 38, 39, 40, 41] (by decide +kernel) (by decide +kernel)
set_option maxRecDepth 20000 in
theorem gX6_isRow_X6_aheadOf : GoodIn wsX6_isRow (wsV RX6 181 RX6 yX6_aheadOf wsX6_aheadOf) := goodIn_app (goodIn_of _ (by decide +kernel)) ggX6_isRow_X6_aheadOf
set_option maxRecDepth 20000 in
theorem ggX6_isRow_X6_in : GoodIn wsX6_isRow wsX6_in := goodIn_r _ [11] (by decide +kernel) (by decide +kernel)
set_option maxRecDepth 20000 in
theorem gX6_isRow_X6_in : GoodIn wsX6_isRow (va_wsS RX6 62 yX6_in wsX6_in) := goodIn_app (goodIn_of _ (by decide +kernel)) ggX6_isRow_X6_in
theorem dX6_isRow_0 : decode cX6_isRow 0 = .ok (.iload_n 1, 1) := by decide +kernel
theorem dX6_isRow_1 : decode cX6_isRow 1 = .ok (.iload_n 3, 1) := by decide +kernel
theorem dX6_isRow_2 : decode cX6_isRow 2 = .ok (.iload 4, 2) := by decide +kernel
theorem dX6_isRow_4 : decode cX6_isRow 4 = .ok (.invokestatic 171, 3) := by decide +kernel
theorem dX6_isRow_7 : decode cX6_isRow 7 = .ok (.ifCond .eq 20, 3) := by decide +kernel
theorem dX6_isRow_10 : decode cX6_isRow 10 = .ok (.aload_n 0, 1) := by decide +kernel
theorem dX6_isRow_11 : decode cX6_isRow 11 = .ok (.getfield 44, 3) := by decide +kernel
theorem dX6_isRow_14 : decode cX6_isRow 14 = .ok (.bipush 64, 2) := by decide +kernel
theorem dX6_isRow_16 : decode cX6_isRow 16 = .ok (.iload_n 2, 1) := by decide +kernel
theorem dX6_isRow_17 : decode cX6_isRow 17 = .ok (.iconst 1, 1) := by decide +kernel
theorem dX6_isRow_18 : decode cX6_isRow 18 = .ok (.iadd, 1) := by decide +kernel
theorem dX6_isRow_19 : decode cX6_isRow 19 = .ok (.imul, 1) := by decide +kernel
theorem dX6_isRow_20 : decode cX6_isRow 20 = .ok (.iload 4, 2) := by decide +kernel
theorem dX6_isRow_22 : decode cX6_isRow 22 = .ok (.iadd, 1) := by decide +kernel
theorem dX6_isRow_23 : decode cX6_isRow 23 = .ok (.iaload, 1) := by decide +kernel
theorem dX6_isRow_24 : decode cX6_isRow 24 = .ok (.ifCond .ne 5, 3) := by decide +kernel
theorem dX6_isRow_27 : decode cX6_isRow 27 = .ok (.iconst 0, 1) := by decide +kernel
theorem dX6_isRow_28 : decode cX6_isRow 28 = .ok (.ireturn, 1) := by decide +kernel
theorem dX6_isRow_29 : decode cX6_isRow 29 = .ok (.aload_n 0, 1) := by decide +kernel
theorem dX6_isRow_30 : decode cX6_isRow 30 = .ok (.iload_n 1, 1) := by decide +kernel
theorem dX6_isRow_31 : decode cX6_isRow 31 = .ok (.iload_n 2, 1) := by decide +kernel
theorem dX6_isRow_32 : decode cX6_isRow 32 = .ok (.iload_n 3, 1) := by decide +kernel
theorem dX6_isRow_33 : decode cX6_isRow 33 = .ok (.iload 4, 2) := by decide +kernel
theorem dX6_isRow_35 : decode cX6_isRow 35 = .ok (.invokevirtual 181, 3) := by decide +kernel
theorem dX6_isRow_38 : decode cX6_isRow 38 = .ok (.istore 6, 2) := by decide +kernel
theorem dX6_isRow_40 : decode cX6_isRow 40 = .ok (.iload 5, 2) := by decide +kernel
theorem dX6_isRow_42 : decode cX6_isRow 42 = .ok (.i2l, 1) := by decide +kernel
theorem dX6_isRow_43 : decode cX6_isRow 43 = .ok (.iload 6, 2) := by decide +kernel
theorem dX6_isRow_45 : decode cX6_isRow 45 = .ok (.i2l, 1) := by decide +kernel
theorem dX6_isRow_46 : decode cX6_isRow 46 = .ok (.iload 6, 2) := by decide +kernel
theorem dX6_isRow_48 : decode cX6_isRow 48 = .ok (.aload_n 0, 1) := by decide +kernel
theorem dX6_isRow_49 : decode cX6_isRow 49 = .ok (.getfield 44, 3) := by decide +kernel
theorem dX6_isRow_52 : decode cX6_isRow 52 = .ok (.bipush 64, 2) := by decide +kernel
theorem dX6_isRow_54 : decode cX6_isRow 54 = .ok (.iload_n 2, 1) := by decide +kernel
theorem dX6_isRow_55 : decode cX6_isRow 55 = .ok (.iconst 1, 1) := by decide +kernel
theorem dX6_isRow_56 : decode cX6_isRow 56 = .ok (.iadd, 1) := by decide +kernel
theorem dX6_isRow_57 : decode cX6_isRow 57 = .ok (.imul, 1) := by decide +kernel
theorem dX6_isRow_58 : decode cX6_isRow 58 = .ok (.iload 4, 2) := by decide +kernel
theorem dX6_isRow_60 : decode cX6_isRow 60 = .ok (.iadd, 1) := by decide +kernel
theorem dX6_isRow_61 : decode cX6_isRow 61 = .ok (.iaload, 1) := by decide +kernel
theorem dX6_isRow_62 : decode cX6_isRow 62 = .ok (.iadd, 1) := by decide +kernel
theorem dX6_isRow_63 : decode cX6_isRow 63 = .ok (.iconst 1, 1) := by decide +kernel
theorem dX6_isRow_64 : decode cX6_isRow 64 = .ok (.isub, 1) := by decide +kernel
theorem dX6_isRow_65 : decode cX6_isRow 65 = .ok (.i2l, 1) := by decide +kernel
theorem dX6_isRow_66 : decode cX6_isRow 66 = .ok (.invokestatic 62, 3) := by decide +kernel
theorem dX6_isRow_69 : decode cX6_isRow 69 = .ok (.ireturn, 1) := by decide +kernel
set_option maxRecDepth 20000 in
theorem ggX6_take_X6_in : GoodIn wsX6_take wsX6_in := goodIn_r _ [7] (by decide +kernel) (by decide +kernel)
set_option maxRecDepth 20000 in
theorem gX6_take_X6_in : GoodIn wsX6_take (va_wsS RX6 62 yX6_in wsX6_in) := goodIn_app (goodIn_of _ (by decide +kernel)) ggX6_take_X6_in
set_option maxRecDepth 20000 in
theorem ggX6_take_X6_findWays : GoodIn wsX6_take wsX6_findWays := goodIn_r _ [11, 12, 13, 14, 6, 15, 16, 17, 18, 4, 5, 7, 40, 41, 42, 43, 44, 45, 46, 47, 48, 49, 50, 51, 52, 53, 54, 55, 56, 57, 58, 59, 60, 61, 62] (by decide +kernel) (by decide +kernel)
set_option maxRecDepth 20000 in
theorem gX6_take_X6_findWays : GoodIn wsX6_take (wsV RX6 178 RX6 yX6_findWays wsX6_findWays) := goodIn_app (goodIn_of _ (by decide +kernel)) ggX6_take_X6_findWays
set_option maxRecDepth 20000 in
theorem ggX6_take_X6_note : GoodIn wsX6_take wsX6_note := goodIn_r _ [22, 23, 24, 2, 3, 40, 41, 42, 43, 44, 45, 46, 47, 48, 49, 50, 51, 52, 53, 54, 55, 56, 57, 58, 59, 60, 61, 62] (by decide +kernel) (by decide +kernel)
set_option maxRecDepth 20000 in
theorem gX6_take_X6_note : GoodIn wsX6_take (wsV RX6 103 RX6 yX6_note wsX6_note) := goodIn_app (goodIn_of _ (by decide +kernel)) ggX6_take_X6_note
set_option maxRecDepth 20000 in
theorem ggX6_take_X6_unrank : GoodIn wsX6_take wsX6_unrank := goodIn_r _ [28, 29, 30, 31, 6, 32, 12, 13, 14, 15, 16, 17, 18, 4, 5, 7, 33, 34, 35, 36, 37, 38, 39, 40, 41, 42, 43, 44, 45, 46, 47, 48, 49, 50, 51, 52, 53, 54, 55, 56, 57, 58, 59, 60, 61, 62] (by decide +kernel) (by decide +kernel)
set_option maxRecDepth 20000 in
theorem gX6_take_X6_unrank : GoodIn wsX6_take (wsV RX6 189 RX6 yX6_unrank wsX6_unrank) := goodIn_app (goodIn_of _ (by decide +kernel)) ggX6_take_X6_unrank
theorem dX6_take_0 : decode cX6_take 0 = .ok (.iload_n 1, 1) := by decide +kernel
theorem dX6_take_1 : decode cX6_take 1 = .ok (.i2l, 1) := by decide +kernel
theorem dX6_take_2 : decode cX6_take 2 = .ok (.lconst 1, 1) := by decide +kernel
theorem dX6_take_3 : decode cX6_take 3 = .ok (.ldc2_w 124, 3) := by decide +kernel
theorem dX6_take_6 : decode cX6_take 6 = .ok (.invokestatic 62, 3) := by decide +kernel
theorem dX6_take_9 : decode cX6_take 9 = .ok (.ifCond .ne 5, 3) := by decide +kernel
theorem dX6_take_12 : decode cX6_take 12 = .ok (.iconst (-1), 1) := by decide +kernel
theorem dX6_take_13 : decode cX6_take 13 = .ok (.ireturn, 1) := by decide +kernel
theorem dX6_take_14 : decode cX6_take 14 = .ok (.iload_n 2, 1) := by decide +kernel
theorem dX6_take_15 : decode cX6_take 15 = .ok (.i2l, 1) := by decide +kernel
theorem dX6_take_16 : decode cX6_take 16 = .ok (.lconst 0, 1) := by decide +kernel
theorem dX6_take_17 : decode cX6_take 17 = .ok (.aload_n 0, 1) := by decide +kernel
theorem dX6_take_18 : decode cX6_take 18 = .ok (.iload_n 1, 1) := by decide +kernel
theorem dX6_take_19 : decode cX6_take 19 = .ok (.invokevirtual 178, 3) := by decide +kernel
theorem dX6_take_22 : decode cX6_take 22 = .ok (.iconst 1, 1) := by decide +kernel
theorem dX6_take_23 : decode cX6_take 23 = .ok (.isub, 1) := by decide +kernel
theorem dX6_take_24 : decode cX6_take 24 = .ok (.i2l, 1) := by decide +kernel
theorem dX6_take_25 : decode cX6_take 25 = .ok (.invokestatic 62, 3) := by decide +kernel
theorem dX6_take_28 : decode cX6_take 28 = .ok (.ifCond .ne 6, 3) := by decide +kernel
theorem dX6_take_31 : decode cX6_take 31 = .ok (.bipush (-4), 2) := by decide +kernel
theorem dX6_take_33 : decode cX6_take 33 = .ok (.ireturn, 1) := by decide +kernel
theorem dX6_take_34 : decode cX6_take 34 = .ok (.aload_n 0, 1) := by decide +kernel
theorem dX6_take_35 : decode cX6_take 35 = .ok (.invokevirtual 103, 3) := by decide +kernel
theorem dX6_take_38 : decode cX6_take 38 = .ok (.aload_n 0, 1) := by decide +kernel
theorem dX6_take_39 : decode cX6_take 39 = .ok (.iload_n 1, 1) := by decide +kernel
theorem dX6_take_40 : decode cX6_take 40 = .ok (.putfield 54, 3) := by decide +kernel
theorem dX6_take_43 : decode cX6_take 43 = .ok (.aload_n 0, 1) := by decide +kernel
theorem dX6_take_44 : decode cX6_take 44 = .ok (.iload_n 1, 1) := by decide +kernel
theorem dX6_take_45 : decode cX6_take 45 = .ok (.iload_n 2, 1) := by decide +kernel
theorem dX6_take_46 : decode cX6_take 46 = .ok (.aload_n 0, 1) := by decide +kernel
theorem dX6_take_47 : decode cX6_take 47 = .ok (.getfield 13, 3) := by decide +kernel
theorem dX6_take_50 : decode cX6_take 50 = .ok (.invokevirtual 189, 3) := by decide +kernel
theorem dX6_take_53 : decode cX6_take 53 = .ok (.iload_n 1, 1) := by decide +kernel
theorem dX6_take_54 : decode cX6_take 54 = .ok (.ireturn, 1) := by decide +kernel
set_option maxRecDepth 20000 in
theorem ggX6_many_X6_in : GoodIn wsX6_many wsX6_in := goodIn_r _ [7] (by decide +kernel) (by decide +kernel)
set_option maxRecDepth 20000 in
theorem gX6_many_X6_in : GoodIn wsX6_many (va_wsS RX6 62 yX6_in wsX6_in) := goodIn_app (goodIn_of _ (by decide +kernel)) ggX6_many_X6_in
set_option maxRecDepth 20000 in
theorem ggX6_many_X6_findWays : GoodIn wsX6_many wsX6_findWays := goodIn_r _ [11, 3, 12, 13, 6, 14, 15, 16, 17, 4, 5, 7, 18, 19, 20, 21, 22, 23, 24, 25, 26, 27, 28, 29, 30, 31, 32, 33, 34, 35, 36, 37, 38, 39, 40] (by decide +kernel) (by decide +kernel)
set_option maxRecDepth 20000 in
theorem gX6_many_X6_findWays : GoodIn wsX6_many (wsV RX6 178 RX6 yX6_findWays wsX6_findWays) := goodIn_app (goodIn_of _ (by decide +kernel)) ggX6_many_X6_findWays
theorem dX6_many_0 : decode cX6_many 0 = .ok (.iload_n 1, 1) := by decide +kernel
theorem dX6_many_1 : decode cX6_many 1 = .ok (.i2l, 1) := by decide +kernel
theorem dX6_many_2 : decode cX6_many 2 = .ok (.lconst 1, 1) := by decide +kernel
theorem dX6_many_3 : decode cX6_many 3 = .ok (.ldc2_w 124, 3) := by decide +kernel
theorem dX6_many_6 : decode cX6_many 6 = .ok (.invokestatic 62, 3) := by decide +kernel
theorem dX6_many_9 : decode cX6_many 9 = .ok (.ifCond .eq 18, 3) := by decide +kernel
theorem dX6_many_12 : decode cX6_many 12 = .ok (.iload_n 2, 1) := by decide +kernel
theorem dX6_many_13 : decode cX6_many 13 = .ok (.i2l, 1) := by decide +kernel
theorem dX6_many_14 : decode cX6_many 14 = .ok (.ldc2_w 193, 3) := by decide +kernel
theorem dX6_many_17 : decode cX6_many 17 = .ok (.iload_n 1, 1) := by decide +kernel
theorem dX6_many_18 : decode cX6_many 18 = .ok (.iconst 1, 1) := by decide +kernel
theorem dX6_many_19 : decode cX6_many 19 = .ok (.isub, 1) := by decide +kernel
theorem dX6_many_20 : decode cX6_many 20 = .ok (.i2l, 1) := by decide +kernel
theorem dX6_many_21 : decode cX6_many 21 = .ok (.invokestatic 62, 3) := by decide +kernel
theorem dX6_many_24 : decode cX6_many 24 = .ok (.ifCond .ne 5, 3) := by decide +kernel
theorem dX6_many_27 : decode cX6_many 27 = .ok (.iconst (-1), 1) := by decide +kernel
theorem dX6_many_28 : decode cX6_many 28 = .ok (.ireturn, 1) := by decide +kernel
theorem dX6_many_29 : decode cX6_many 29 = .ok (.aload_n 0, 1) := by decide +kernel
theorem dX6_many_30 : decode cX6_many 30 = .ok (.iload_n 1, 1) := by decide +kernel
theorem dX6_many_31 : decode cX6_many 31 = .ok (.invokevirtual 178, 3) := by decide +kernel
theorem dX6_many_34 : decode cX6_many 34 = .ok (.istore_n 3, 1) := by decide +kernel
theorem dX6_many_35 : decode cX6_many 35 = .ok (.iload_n 2, 1) := by decide +kernel
theorem dX6_many_36 : decode cX6_many 36 = .ok (.ifCond .ge 7, 3) := by decide +kernel
theorem dX6_many_39 : decode cX6_many 39 = .ok (.iload_n 3, 1) := by decide +kernel
theorem dX6_many_40 : decode cX6_many 40 = .ok (.goto 14, 3) := by decide +kernel
theorem dX6_many_43 : decode cX6_many 43 = .ok (.aload_n 0, 1) := by decide +kernel
theorem dX6_many_44 : decode cX6_many 44 = .ok (.getfield 44, 3) := by decide +kernel
theorem dX6_many_47 : decode cX6_many 47 = .ok (.bipush 64, 2) := by decide +kernel
theorem dX6_many_49 : decode cX6_many 49 = .ok (.iconst 1, 1) := by decide +kernel
theorem dX6_many_50 : decode cX6_many 50 = .ok (.iload_n 2, 1) := by decide +kernel
theorem dX6_many_51 : decode cX6_many 51 = .ok (.ishl, 1) := by decide +kernel
theorem dX6_many_52 : decode cX6_many 52 = .ok (.iadd, 1) := by decide +kernel
theorem dX6_many_53 : decode cX6_many 53 = .ok (.iaload, 1) := by decide +kernel
theorem dX6_many_54 : decode cX6_many 54 = .ok (.ireturn, 1) := by decide +kernel
set_option maxRecDepth 20000 in
theorem ggX6_partners_X6_findEnds : GoodIn wsX6_partners wsX6_findEnds := goodIn_r _ [6, 7, 8, 9, 10, 11, 5, 12, 13, 14, 15, 16, 17, 18, 35, 36, 37, 38, 39, 40, 41, 42, 43, 44, 45, 46, 47, 48, 49, 50, 51, 52, 53, 54, 55, 56, 57] (by decide +kernel) (by decide +kernel)
set_option maxRecDepth 20000 in
theorem gX6_partners_X6_findEnds : GoodIn wsX6_partners (wsV RX6 156 RX6 yX6_findEnds wsX6_findEnds) := goodIn_app (goodIn_of _ (by decide +kernel)) ggX6_partners_X6_findEnds
set_option maxRecDepth 20000 in
theorem ggX6_partners_X6_goes : GoodIn wsX6_partners wsX6_goes := goodIn_r _ [22, 7, 23, 8, 24, 9, 25, 26, 27, 28, 29, 5, 30, 31, 10, 11, 12, 13, 14, 15, 16, 17, 18, 32, 33, 34, 35, 36, 37, 38, 39, 40, 41, 42, 43, 44, 45, 46, 47, 48, 49, 50, 51, 52, 53, 54, 55, 56, 57] (by decide +kernel) (by decide +kernel)
set_option maxRecDepth 20000 in
theorem gX6_partners_X6_goes : GoodIn wsX6_partners (wsV RX6 160 RX6 yX6_goes wsX6_goes) := goodIn_app (goodIn_of _ (by decide +kernel)) ggX6_partners_X6_goes
theorem dX6_partners_0 : decode cX6_partners 0 = .ok (.aload_n 0, 1) := by decide +kernel
theorem dX6_partners_1 : decode cX6_partners 1 = .ok (.aload_n 1, 1) := by decide +kernel
theorem dX6_partners_2 : decode cX6_partners 2 = .ok (.iload_n 2, 1) := by decide +kernel
theorem dX6_partners_3 : decode cX6_partners 3 = .ok (.invokevirtual 156, 3) := by decide +kernel
theorem dX6_partners_6 : decode cX6_partners 6 = .ok (.lconst 0, 1) := by decide +kernel
theorem dX6_partners_7 : decode cX6_partners 7 = .ok (.lstore_n 3, 1) := by decide +kernel
theorem dX6_partners_8 : decode cX6_partners 8 = .ok (.iconst 0, 1) := by decide +kernel
theorem dX6_partners_9 : decode cX6_partners 9 = .ok (.istore 5, 2) := by decide +kernel
theorem dX6_partners_11 : decode cX6_partners 11 = .ok (.iload 5, 2) := by decide +kernel
theorem dX6_partners_13 : decode cX6_partners 13 = .ok (.iconst 2, 1) := by decide +kernel
theorem dX6_partners_14 : decode cX6_partners 14 = .ok (.iload_n 2, 1) := by decide +kernel
theorem dX6_partners_15 : decode cX6_partners 15 = .ok (.imul, 1) := by decide +kernel
theorem dX6_partners_16 : decode cX6_partners 16 = .ok (.if_icmp .ge 25, 3) := by decide +kernel
theorem dX6_partners_19 : decode cX6_partners 19 = .ok (.ldc2_w 195, 3) := by decide +kernel
theorem dX6_partners_22 : decode cX6_partners 22 = .ok (.lload_n 3, 1) := by decide +kernel
theorem dX6_partners_23 : decode cX6_partners 23 = .ok (.lmul, 1) := by decide +kernel
theorem dX6_partners_24 : decode cX6_partners 24 = .ok (.aload_n 0, 1) := by decide +kernel
theorem dX6_partners_25 : decode cX6_partners 25 = .ok (.aload_n 1, 1) := by decide +kernel
theorem dX6_partners_26 : decode cX6_partners 26 = .ok (.iload_n 2, 1) := by decide +kernel
theorem dX6_partners_27 : decode cX6_partners 27 = .ok (.iload 5, 2) := by decide +kernel
theorem dX6_partners_29 : decode cX6_partners 29 = .ok (.invokevirtual 160, 3) := by decide +kernel
theorem dX6_partners_32 : decode cX6_partners 32 = .ok (.i2l, 1) := by decide +kernel
theorem dX6_partners_33 : decode cX6_partners 33 = .ok (.ladd, 1) := by decide +kernel
theorem dX6_partners_34 : decode cX6_partners 34 = .ok (.lstore_n 3, 1) := by decide +kernel
theorem dX6_partners_35 : decode cX6_partners 35 = .ok (.iinc 5 1, 3) := by decide +kernel
theorem dX6_partners_38 : decode cX6_partners 38 = .ok (.goto (-27), 3) := by decide +kernel
theorem dX6_partners_41 : decode cX6_partners 41 = .ok (.lload_n 3, 1) := by decide +kernel
theorem dX6_partners_42 : decode cX6_partners 42 = .ok (.lreturn, 1) := by decide +kernel
set_option maxRecDepth 20000 in
theorem ggX6_alike_X6_partners : GoodIn wsX6_alike wsX6_partners := goodIn_r _ [8, 9, 10, 11, 12, 7, 13, 14, 15, 16, 17, 18, 19, 20, 21, 22, 23, 24, 25, 26, 27, 28, 29, 30, 31, 32, 33, 34, 35, 36, 37, 38, 39, 40, 41, 68, 69, 70, 71, 72, 73, 74, 75, 76, 77, 78, 79, 80, 81, 82, 83, 84, 85, 86, 87, 88, 89, 90] (by decide +kernel) (by decide +kernel)
set_option maxRecDepth 20000 in
theorem gX6_alike_X6_partners : GoodIn wsX6_alike (wsV RX6 197 RX6 yX6_partners wsX6_partners) := goodIn_app (goodIn_of _ (by decide +kernel)) ggX6_alike_X6_partners
set_option maxRecDepth 20000 in
theorem ggX6_alike_X6_findWays : GoodIn wsX6_alike wsX6_findWays := goodIn_r _ [45, 46, 47, 48, 7, 49, 50, 51, 52, 39, 40, 41, 68, 69, 70, 71, 72, 73, 74, 75, 76, 77, 78, 79, 80, 81, 82, 83, 84, 85, 86, 87, 88, 89, 90] (by decide +kernel) (by decide +kernel)
set_option maxRecDepth 20000 in
theorem gX6_alike_X6_findWays : GoodIn wsX6_alike (wsV RX6 178 RX6 yX6_findWays wsX6_findWays) := goodIn_app (goodIn_of _ (by decide +kernel)) ggX6_alike_X6_findWays
set_option maxRecDepth 20000 in
theorem ggX6_alike_X6_unrank : GoodIn wsX6_alike wsX6_unrank := goodIn_r _ [56, 57, 58, 59, 7, 60, 46, 47, 48, 49, 50, 51, 52, 39, 40, 41, 61, 62, 63, 64, 65, 66, 67, 68, 69, 70, 71, 72, 73, 74, 75, 76, 77, 78, 79, 80, 81, 82, 83, 84, 85, 86, 87, 88, 89, 90] (by decide +kernel) (by decide +kernel)
set_option maxRecDepth 20000 in
theorem gX6_alike_X6_unrank : GoodIn wsX6_alike (wsV RX6 189 RX6 yX6_unrank wsX6_unrank) := goodIn_app (goodIn_of _ (by decide +kernel)) ggX6_alike_X6_unrank
theorem dX6_alike_0 : decode cX6_alike 0 = .ok (.aload_n 0, 1) := by decide +kernel
theorem dX6_alike_1 : decode cX6_alike 1 = .ok (.getfield 54, 3) := by decide +kernel
theorem dX6_alike_4 : decode cX6_alike 4 = .ok (.bipush 6, 2) := by decide +kernel
theorem dX6_alike_6 : decode cX6_alike 6 = .ok (.if_icmp .ne 6, 3) := by decide +kernel
theorem dX6_alike_9 : decode cX6_alike 9 = .ok (.bipush (-2), 2) := by decide +kernel
theorem dX6_alike_11 : decode cX6_alike 11 = .ok (.ireturn, 1) := by decide +kernel
theorem dX6_alike_12 : decode cX6_alike 12 = .ok (.aload_n 0, 1) := by decide +kernel
theorem dX6_alike_13 : decode cX6_alike 13 = .ok (.aload_n 0, 1) := by decide +kernel
theorem dX6_alike_14 : decode cX6_alike 14 = .ok (.getfield 13, 3) := by decide +kernel
theorem dX6_alike_17 : decode cX6_alike 17 = .ok (.aload_n 0, 1) := by decide +kernel
theorem dX6_alike_18 : decode cX6_alike 18 = .ok (.getfield 54, 3) := by decide +kernel
theorem dX6_alike_21 : decode cX6_alike 21 = .ok (.invokevirtual 197, 3) := by decide +kernel
theorem dX6_alike_24 : decode cX6_alike 24 = .ok (.lstore_n 1, 1) := by decide +kernel
theorem dX6_alike_25 : decode cX6_alike 25 = .ok (.aload_n 0, 1) := by decide +kernel
theorem dX6_alike_26 : decode cX6_alike 26 = .ok (.aload_n 0, 1) := by decide +kernel
theorem dX6_alike_27 : decode cX6_alike 27 = .ok (.getfield 54, 3) := by decide +kernel
theorem dX6_alike_30 : decode cX6_alike 30 = .ok (.invokevirtual 178, 3) := by decide +kernel
theorem dX6_alike_33 : decode cX6_alike 33 = .ok (.istore_n 3, 1) := by decide +kernel
theorem dX6_alike_34 : decode cX6_alike 34 = .ok (.iconst 0, 1) := by decide +kernel
theorem dX6_alike_35 : decode cX6_alike 35 = .ok (.istore 4, 2) := by decide +kernel
theorem dX6_alike_37 : decode cX6_alike 37 = .ok (.iconst 0, 1) := by decide +kernel
theorem dX6_alike_38 : decode cX6_alike 38 = .ok (.istore 5, 2) := by decide +kernel
theorem dX6_alike_40 : decode cX6_alike 40 = .ok (.iload 5, 2) := by decide +kernel
theorem dX6_alike_42 : decode cX6_alike 42 = .ok (.iload_n 3, 1) := by decide +kernel
theorem dX6_alike_43 : decode cX6_alike 43 = .ok (.if_icmp .ge 50, 3) := by decide +kernel
theorem dX6_alike_46 : decode cX6_alike 46 = .ok (.aload_n 0, 1) := by decide +kernel
theorem dX6_alike_47 : decode cX6_alike 47 = .ok (.aload_n 0, 1) := by decide +kernel
theorem dX6_alike_48 : decode cX6_alike 48 = .ok (.getfield 54, 3) := by decide +kernel
theorem dX6_alike_51 : decode cX6_alike 51 = .ok (.iload 5, 2) := by decide +kernel
theorem dX6_alike_53 : decode cX6_alike 53 = .ok (.aload_n 0, 1) := by decide +kernel
theorem dX6_alike_54 : decode cX6_alike 54 = .ok (.getfield 25, 3) := by decide +kernel
theorem dX6_alike_57 : decode cX6_alike 57 = .ok (.invokevirtual 189, 3) := by decide +kernel
theorem dX6_alike_60 : decode cX6_alike 60 = .ok (.iload 4, 2) := by decide +kernel
theorem dX6_alike_62 : decode cX6_alike 62 = .ok (.aload_n 0, 1) := by decide +kernel
theorem dX6_alike_63 : decode cX6_alike 63 = .ok (.aload_n 0, 1) := by decide +kernel
theorem dX6_alike_64 : decode cX6_alike 64 = .ok (.getfield 25, 3) := by decide +kernel
theorem dX6_alike_67 : decode cX6_alike 67 = .ok (.aload_n 0, 1) := by decide +kernel
theorem dX6_alike_68 : decode cX6_alike 68 = .ok (.getfield 54, 3) := by decide +kernel
theorem dX6_alike_71 : decode cX6_alike 71 = .ok (.invokevirtual 197, 3) := by decide +kernel
theorem dX6_alike_74 : decode cX6_alike 74 = .ok (.lload_n 1, 1) := by decide +kernel
theorem dX6_alike_75 : decode cX6_alike 75 = .ok (.lcmp, 1) := by decide +kernel
theorem dX6_alike_76 : decode cX6_alike 76 = .ok (.ifCond .ne 7, 3) := by decide +kernel
theorem dX6_alike_79 : decode cX6_alike 79 = .ok (.iconst 1, 1) := by decide +kernel
theorem dX6_alike_80 : decode cX6_alike 80 = .ok (.goto 4, 3) := by decide +kernel
theorem dX6_alike_83 : decode cX6_alike 83 = .ok (.iconst 0, 1) := by decide +kernel
theorem dX6_alike_84 : decode cX6_alike 84 = .ok (.iadd, 1) := by decide +kernel
theorem dX6_alike_85 : decode cX6_alike 85 = .ok (.istore 4, 2) := by decide +kernel
theorem dX6_alike_87 : decode cX6_alike 87 = .ok (.iinc 5 1, 3) := by decide +kernel
theorem dX6_alike_90 : decode cX6_alike 90 = .ok (.goto (-50), 3) := by decide +kernel
theorem dX6_alike_93 : decode cX6_alike 93 = .ok (.iload 4, 2) := by decide +kernel
theorem dX6_alike_95 : decode cX6_alike 95 = .ok (.ireturn, 1) := by decide +kernel
set_option maxRecDepth 20000 in
theorem ggX6_ways_X6_in : GoodIn wsX6_ways wsX6_in := goodIn_r _ [8] (by decide +kernel) (by decide +kernel)
set_option maxRecDepth 20000 in
theorem gX6_ways_X6_in : GoodIn wsX6_ways (va_wsS RX6 62 yX6_in wsX6_in) := goodIn_app (goodIn_of _ (by decide +kernel)) ggX6_ways_X6_in
set_option maxRecDepth 20000 in
theorem ggX6_ways_X6_findWays : GoodIn wsX6_ways wsX6_findWays := goodIn_r _ [12, 13, 14, 15, 7, 16, 17, 18, 19, 5, 6, 8, 69, 70, 71, 72, 73, 74, 75, 76, 77, 78, 79, 80, 81, 82, 83, 84, 85, 86, 87, 88, 89, 90, 91] (by decide +kernel) (by decide +kernel)
set_option maxRecDepth 20000 in
theorem gX6_ways_X6_findWays : GoodIn wsX6_ways (wsV RX6 178 RX6 yX6_findWays wsX6_findWays) := goodIn_app (goodIn_of _ (by decide +kernel)) ggX6_ways_X6_findWays
set_option maxRecDepth 20000 in
theorem ggX6_ways_X6_unrank : GoodIn wsX6_ways wsX6_unrank := goodIn_r _ [23, 24, 25, 26, 7, 27, 13, 14, 15, 16, 17, 18, 19, 5, 6, 8, 28, 29, 30, 31, 32, 33, 34, 69, 70, 71, 72, 73, 74, 75, 76, 77, 78, 79, 80, 81, 82, 83, 84, 85, 86, 87, 88, 89, 90, 91] (by decide +kernel) (by decide +kernel)
set_option maxRecDepth 20000 in
theorem gX6_ways_X6_unrank : GoodIn wsX6_ways (wsV RX6 189 RX6 yX6_unrank wsX6_unrank) := goodIn_app (goodIn_of _ (by decide +kernel)) ggX6_ways_X6_unrank
set_option maxRecDepth 20000 in
theorem ggX6_ways_X6_partners : GoodIn wsX6_ways wsX6_partners := goodIn_r _ [38, 39, 40, 41, 42, 7, 43, 44, 45, 46, 47, 48, 49, 50, 51, 52, 53, 54, 55, 56, 57, 58, 59, 60, 61, 62, 63, 64, 65, 66, 67, 68, 5, 6, 8, 69, 70, 71, 72, 73, 74, 75, 76, 77, 78, 79, 80, 81, 82, 83, 84, 85, 86, 87, 88, 89, 90, 91] (by decide +kernel) (by decide +kernel)
set_option maxRecDepth 20000 in
theorem gX6_ways_X6_partners : GoodIn wsX6_ways (wsV RX6 197 RX6 yX6_partners wsX6_partners) := goodIn_app (goodIn_of _ (by decide +kernel)) ggX6_ways_X6_partners
theorem dX6_ways_0 : decode cX6_ways 0 = .ok (.iload_n 1, 1) := by decide +kernel
theorem dX6_ways_1 : decode cX6_ways 1 = .ok (.i2l, 1) := by decide +kernel
theorem dX6_ways_2 : decode cX6_ways 2 = .ok (.lconst 1, 1) := by decide +kernel
theorem dX6_ways_3 : decode cX6_ways 3 = .ok (.ldc2_w 201, 3) := by decide +kernel
theorem dX6_ways_6 : decode cX6_ways 6 = .ok (.invokestatic 62, 3) := by decide +kernel
theorem dX6_ways_9 : decode cX6_ways 9 = .ok (.ifCond .eq 8, 3) := by decide +kernel
theorem dX6_ways_12 : decode cX6_ways 12 = .ok (.iload_n 2, 1) := by decide +kernel
theorem dX6_ways_13 : decode cX6_ways 13 = .ok (.iconst (-1), 1) := by decide +kernel
theorem dX6_ways_14 : decode cX6_ways 14 = .ok (.if_icmp .ge 5, 3) := by decide +kernel
theorem dX6_ways_17 : decode cX6_ways 17 = .ok (.iconst (-1), 1) := by decide +kernel
theorem dX6_ways_18 : decode cX6_ways 18 = .ok (.ireturn, 1) := by decide +kernel
theorem dX6_ways_19 : decode cX6_ways 19 = .ok (.aload_n 0, 1) := by decide +kernel
theorem dX6_ways_20 : decode cX6_ways 20 = .ok (.iload_n 1, 1) := by decide +kernel
theorem dX6_ways_21 : decode cX6_ways 21 = .ok (.invokevirtual 178, 3) := by decide +kernel
theorem dX6_ways_24 : decode cX6_ways 24 = .ok (.istore_n 3, 1) := by decide +kernel
theorem dX6_ways_25 : decode cX6_ways 25 = .ok (.iconst 0, 1) := by decide +kernel
theorem dX6_ways_26 : decode cX6_ways 26 = .ok (.istore 4, 2) := by decide +kernel
theorem dX6_ways_28 : decode cX6_ways 28 = .ok (.iconst 0, 1) := by decide +kernel
theorem dX6_ways_29 : decode cX6_ways 29 = .ok (.istore 5, 2) := by decide +kernel
theorem dX6_ways_31 : decode cX6_ways 31 = .ok (.iload 5, 2) := by decide +kernel
theorem dX6_ways_33 : decode cX6_ways 33 = .ok (.iload_n 3, 1) := by decide +kernel
theorem dX6_ways_34 : decode cX6_ways 34 = .ok (.if_icmp .ge 107, 3) := by decide +kernel
theorem dX6_ways_37 : decode cX6_ways 37 = .ok (.aload_n 0, 1) := by decide +kernel
theorem dX6_ways_38 : decode cX6_ways 38 = .ok (.iload_n 1, 1) := by decide +kernel
theorem dX6_ways_39 : decode cX6_ways 39 = .ok (.iload 5, 2) := by decide +kernel
theorem dX6_ways_41 : decode cX6_ways 41 = .ok (.aload_n 0, 1) := by decide +kernel
theorem dX6_ways_42 : decode cX6_ways 42 = .ok (.getfield 25, 3) := by decide +kernel
theorem dX6_ways_45 : decode cX6_ways 45 = .ok (.invokevirtual 189, 3) := by decide +kernel
theorem dX6_ways_48 : decode cX6_ways 48 = .ok (.aload_n 0, 1) := by decide +kernel
theorem dX6_ways_49 : decode cX6_ways 49 = .ok (.getfield 47, 3) := by decide +kernel
theorem dX6_ways_52 : decode cX6_ways 52 = .ok (.iload 4, 2) := by decide +kernel
theorem dX6_ways_54 : decode cX6_ways 54 = .ok (.aload_n 0, 1) := by decide +kernel
theorem dX6_ways_55 : decode cX6_ways 55 = .ok (.aload_n 0, 1) := by decide +kernel
theorem dX6_ways_56 : decode cX6_ways 56 = .ok (.getfield 25, 3) := by decide +kernel
theorem dX6_ways_59 : decode cX6_ways 59 = .ok (.iload_n 1, 1) := by decide +kernel
theorem dX6_ways_60 : decode cX6_ways 60 = .ok (.invokevirtual 197, 3) := by decide +kernel
theorem dX6_ways_63 : decode cX6_ways 63 = .ok (.lastore, 1) := by decide +kernel
theorem dX6_ways_64 : decode cX6_ways 64 = .ok (.iconst 0, 1) := by decide +kernel
theorem dX6_ways_65 : decode cX6_ways 65 = .ok (.istore 6, 2) := by decide +kernel
theorem dX6_ways_67 : decode cX6_ways 67 = .ok (.aload_n 0, 1) := by decide +kernel
theorem dX6_ways_68 : decode cX6_ways 68 = .ok (.getfield 47, 3) := by decide +kernel
theorem dX6_ways_71 : decode cX6_ways 71 = .ok (.iload 6, 2) := by decide +kernel
theorem dX6_ways_73 : decode cX6_ways 73 = .ok (.laload, 1) := by decide +kernel
theorem dX6_ways_74 : decode cX6_ways 74 = .ok (.aload_n 0, 1) := by decide +kernel
theorem dX6_ways_75 : decode cX6_ways 75 = .ok (.getfield 47, 3) := by decide +kernel
theorem dX6_ways_78 : decode cX6_ways 78 = .ok (.iload 4, 2) := by decide +kernel
theorem dX6_ways_80 : decode cX6_ways 80 = .ok (.laload, 1) := by decide +kernel
theorem dX6_ways_81 : decode cX6_ways 81 = .ok (.lcmp, 1) := by decide +kernel
theorem dX6_ways_82 : decode cX6_ways 82 = .ok (.ifCond .eq 9, 3) := by decide +kernel
theorem dX6_ways_85 : decode cX6_ways 85 = .ok (.iinc 6 1, 3) := by decide +kernel
theorem dX6_ways_88 : decode cX6_ways 88 = .ok (.goto (-21), 3) := by decide +kernel
theorem dX6_ways_91 : decode cX6_ways 91 = .ok (.aload_n 0, 1) := by decide +kernel
theorem dX6_ways_92 : decode cX6_ways 92 = .ok (.getfield 51, 3) := by decide +kernel
theorem dX6_ways_95 : decode cX6_ways 95 = .ok (.iload 6, 2) := by decide +kernel
theorem dX6_ways_97 : decode cX6_ways 97 = .ok (.iload 6, 2) := by decide +kernel
theorem dX6_ways_99 : decode cX6_ways 99 = .ok (.iload 4, 2) := by decide +kernel
theorem dX6_ways_101 : decode cX6_ways 101 = .ok (.if_icmp .ne 7, 3) := by decide +kernel
theorem dX6_ways_104 : decode cX6_ways 104 = .ok (.iconst 1, 1) := by decide +kernel
theorem dX6_ways_105 : decode cX6_ways 105 = .ok (.goto 12, 3) := by decide +kernel
theorem dX6_ways_108 : decode cX6_ways 108 = .ok (.aload_n 0, 1) := by decide +kernel
theorem dX6_ways_109 : decode cX6_ways 109 = .ok (.getfield 51, 3) := by decide +kernel
theorem dX6_ways_112 : decode cX6_ways 112 = .ok (.iload 6, 2) := by decide +kernel
theorem dX6_ways_114 : decode cX6_ways 114 = .ok (.iaload, 1) := by decide +kernel
theorem dX6_ways_115 : decode cX6_ways 115 = .ok (.iconst 1, 1) := by decide +kernel
theorem dX6_ways_116 : decode cX6_ways 116 = .ok (.iadd, 1) := by decide +kernel
theorem dX6_ways_117 : decode cX6_ways 117 = .ok (.iastore, 1) := by decide +kernel
theorem dX6_ways_118 : decode cX6_ways 118 = .ok (.iload 4, 2) := by decide +kernel
theorem dX6_ways_120 : decode cX6_ways 120 = .ok (.iload 6, 2) := by decide +kernel
theorem dX6_ways_122 : decode cX6_ways 122 = .ok (.iload 4, 2) := by decide +kernel
theorem dX6_ways_124 : decode cX6_ways 124 = .ok (.if_icmp .ne 7, 3) := by decide +kernel
theorem dX6_ways_127 : decode cX6_ways 127 = .ok (.iconst 1, 1) := by decide +kernel
theorem dX6_ways_128 : decode cX6_ways 128 = .ok (.goto 4, 3) := by decide +kernel
theorem dX6_ways_131 : decode cX6_ways 131 = .ok (.iconst 0, 1) := by decide +kernel
theorem dX6_ways_132 : decode cX6_ways 132 = .ok (.iadd, 1) := by decide +kernel
theorem dX6_ways_133 : decode cX6_ways 133 = .ok (.istore 4, 2) := by decide +kernel
theorem dX6_ways_135 : decode cX6_ways 135 = .ok (.iinc 5 1, 3) := by decide +kernel
theorem dX6_ways_138 : decode cX6_ways 138 = .ok (.goto (-107), 3) := by decide +kernel
theorem dX6_ways_141 : decode cX6_ways 141 = .ok (.iload_n 2, 1) := by decide +kernel
theorem dX6_ways_142 : decode cX6_ways 142 = .ok (.ifCond .ge 8, 3) := by decide +kernel
theorem dX6_ways_145 : decode cX6_ways 145 = .ok (.iload 4, 2) := by decide +kernel
theorem dX6_ways_147 : decode cX6_ways 147 = .ok (.goto 20, 3) := by decide +kernel
theorem dX6_ways_150 : decode cX6_ways 150 = .ok (.iload_n 2, 1) := by decide +kernel
theorem dX6_ways_151 : decode cX6_ways 151 = .ok (.iload 4, 2) := by decide +kernel
theorem dX6_ways_153 : decode cX6_ways 153 = .ok (.if_icmp .ge 12, 3) := by decide +kernel
theorem dX6_ways_156 : decode cX6_ways 156 = .ok (.aload_n 0, 1) := by decide +kernel
theorem dX6_ways_157 : decode cX6_ways 157 = .ok (.getfield 51, 3) := by decide +kernel
theorem dX6_ways_160 : decode cX6_ways 160 = .ok (.iload_n 2, 1) := by decide +kernel
theorem dX6_ways_161 : decode cX6_ways 161 = .ok (.iaload, 1) := by decide +kernel
theorem dX6_ways_162 : decode cX6_ways 162 = .ok (.goto 5, 3) := by decide +kernel
theorem dX6_ways_165 : decode cX6_ways 165 = .ok (.bipush (-4), 2) := by decide +kernel
theorem dX6_ways_167 : decode cX6_ways 167 = .ok (.ireturn, 1) := by decide +kernel
theorem dX6_inversions_0 : decode cX6_inversions 0 = .ok (.iconst 0, 1) := by decide +kernel
theorem dX6_inversions_1 : decode cX6_inversions 1 = .ok (.istore_n 1, 1) := by decide +kernel
theorem dX6_inversions_2 : decode cX6_inversions 2 = .ok (.iconst 0, 1) := by decide +kernel
theorem dX6_inversions_3 : decode cX6_inversions 3 = .ok (.istore_n 2, 1) := by decide +kernel
theorem dX6_inversions_4 : decode cX6_inversions 4 = .ok (.iload_n 2, 1) := by decide +kernel
theorem dX6_inversions_5 : decode cX6_inversions 5 = .ok (.aload_n 0, 1) := by decide +kernel
theorem dX6_inversions_6 : decode cX6_inversions 6 = .ok (.getfield 54, 3) := by decide +kernel
theorem dX6_inversions_9 : decode cX6_inversions 9 = .ok (.aload_n 0, 1) := by decide +kernel
theorem dX6_inversions_10 : decode cX6_inversions 10 = .ok (.getfield 54, 3) := by decide +kernel
theorem dX6_inversions_13 : decode cX6_inversions 13 = .ok (.imul, 1) := by decide +kernel
theorem dX6_inversions_14 : decode cX6_inversions 14 = .ok (.if_icmp .ge 122, 3) := by decide +kernel
theorem dX6_inversions_17 : decode cX6_inversions 17 = .ok (.iconst 0, 1) := by decide +kernel
theorem dX6_inversions_18 : decode cX6_inversions 18 = .ok (.istore_n 3, 1) := by decide +kernel
theorem dX6_inversions_19 : decode cX6_inversions 19 = .ok (.iload_n 3, 1) := by decide +kernel
theorem dX6_inversions_20 : decode cX6_inversions 20 = .ok (.aload_n 0, 1) := by decide +kernel
theorem dX6_inversions_21 : decode cX6_inversions 21 = .ok (.getfield 54, 3) := by decide +kernel
theorem dX6_inversions_24 : decode cX6_inversions 24 = .ok (.aload_n 0, 1) := by decide +kernel
theorem dX6_inversions_25 : decode cX6_inversions 25 = .ok (.getfield 54, 3) := by decide +kernel
theorem dX6_inversions_28 : decode cX6_inversions 28 = .ok (.imul, 1) := by decide +kernel
theorem dX6_inversions_29 : decode cX6_inversions 29 = .ok (.if_icmp .ge 101, 3) := by decide +kernel
theorem dX6_inversions_32 : decode cX6_inversions 32 = .ok (.iload_n 2, 1) := by decide +kernel
theorem dX6_inversions_33 : decode cX6_inversions 33 = .ok (.aload_n 0, 1) := by decide +kernel
theorem dX6_inversions_34 : decode cX6_inversions 34 = .ok (.getfield 54, 3) := by decide +kernel
theorem dX6_inversions_37 : decode cX6_inversions 37 = .ok (.idiv, 1) := by decide +kernel
theorem dX6_inversions_38 : decode cX6_inversions 38 = .ok (.iload_n 3, 1) := by decide +kernel
theorem dX6_inversions_39 : decode cX6_inversions 39 = .ok (.aload_n 0, 1) := by decide +kernel
theorem dX6_inversions_40 : decode cX6_inversions 40 = .ok (.getfield 54, 3) := by decide +kernel
theorem dX6_inversions_43 : decode cX6_inversions 43 = .ok (.idiv, 1) := by decide +kernel
theorem dX6_inversions_44 : decode cX6_inversions 44 = .ok (.if_icmp .ge 22, 3) := by decide +kernel
theorem dX6_inversions_47 : decode cX6_inversions 47 = .ok (.iload_n 2, 1) := by decide +kernel
theorem dX6_inversions_48 : decode cX6_inversions 48 = .ok (.aload_n 0, 1) := by decide +kernel
theorem dX6_inversions_49 : decode cX6_inversions 49 = .ok (.getfield 54, 3) := by decide +kernel
theorem dX6_inversions_52 : decode cX6_inversions 52 = .ok (.irem, 1) := by decide +kernel
theorem dX6_inversions_53 : decode cX6_inversions 53 = .ok (.iload_n 3, 1) := by decide +kernel
theorem dX6_inversions_54 : decode cX6_inversions 54 = .ok (.aload_n 0, 1) := by decide +kernel
theorem dX6_inversions_55 : decode cX6_inversions 55 = .ok (.getfield 54, 3) := by decide +kernel
theorem dX6_inversions_58 : decode cX6_inversions 58 = .ok (.irem, 1) := by decide +kernel
theorem dX6_inversions_59 : decode cX6_inversions 59 = .ok (.if_icmp .le 7, 3) := by decide +kernel
theorem dX6_inversions_62 : decode cX6_inversions 62 = .ok (.iconst 1, 1) := by decide +kernel
theorem dX6_inversions_63 : decode cX6_inversions 63 = .ok (.goto 4, 3) := by decide +kernel
theorem dX6_inversions_66 : decode cX6_inversions 66 = .ok (.iconst 0, 1) := by decide +kernel
theorem dX6_inversions_67 : decode cX6_inversions 67 = .ok (.istore 4, 2) := by decide +kernel
theorem dX6_inversions_69 : decode cX6_inversions 69 = .ok (.iload_n 1, 1) := by decide +kernel
theorem dX6_inversions_70 : decode cX6_inversions 70 = .ok (.iload 4, 2) := by decide +kernel
theorem dX6_inversions_72 : decode cX6_inversions 72 = .ok (.ifCond .eq 49, 3) := by decide +kernel
theorem dX6_inversions_75 : decode cX6_inversions 75 = .ok (.aload_n 0, 1) := by decide +kernel
theorem dX6_inversions_76 : decode cX6_inversions 76 = .ok (.getfield 13, 3) := by decide +kernel
theorem dX6_inversions_79 : decode cX6_inversions 79 = .ok (.bipush 6, 2) := by decide +kernel
theorem dX6_inversions_81 : decode cX6_inversions 81 = .ok (.iload_n 2, 1) := by decide +kernel
theorem dX6_inversions_82 : decode cX6_inversions 82 = .ok (.aload_n 0, 1) := by decide +kernel
theorem dX6_inversions_83 : decode cX6_inversions 83 = .ok (.getfield 54, 3) := by decide +kernel
theorem dX6_inversions_86 : decode cX6_inversions 86 = .ok (.idiv, 1) := by decide +kernel
theorem dX6_inversions_87 : decode cX6_inversions 87 = .ok (.imul, 1) := by decide +kernel
theorem dX6_inversions_88 : decode cX6_inversions 88 = .ok (.iload_n 2, 1) := by decide +kernel
theorem dX6_inversions_89 : decode cX6_inversions 89 = .ok (.aload_n 0, 1) := by decide +kernel
theorem dX6_inversions_90 : decode cX6_inversions 90 = .ok (.getfield 54, 3) := by decide +kernel
theorem dX6_inversions_93 : decode cX6_inversions 93 = .ok (.irem, 1) := by decide +kernel
theorem dX6_inversions_94 : decode cX6_inversions 94 = .ok (.iadd, 1) := by decide +kernel
theorem dX6_inversions_95 : decode cX6_inversions 95 = .ok (.iaload, 1) := by decide +kernel
theorem dX6_inversions_96 : decode cX6_inversions 96 = .ok (.aload_n 0, 1) := by decide +kernel
theorem dX6_inversions_97 : decode cX6_inversions 97 = .ok (.getfield 13, 3) := by decide +kernel
theorem dX6_inversions_100 : decode cX6_inversions 100 = .ok (.bipush 6, 2) := by decide +kernel
theorem dX6_inversions_102 : decode cX6_inversions 102 = .ok (.iload_n 3, 1) := by decide +kernel
theorem dX6_inversions_103 : decode cX6_inversions 103 = .ok (.aload_n 0, 1) := by decide +kernel
theorem dX6_inversions_104 : decode cX6_inversions 104 = .ok (.getfield 54, 3) := by decide +kernel
theorem dX6_inversions_107 : decode cX6_inversions 107 = .ok (.idiv, 1) := by decide +kernel
theorem dX6_inversions_108 : decode cX6_inversions 108 = .ok (.imul, 1) := by decide +kernel
theorem dX6_inversions_109 : decode cX6_inversions 109 = .ok (.iload_n 3, 1) := by decide +kernel
theorem dX6_inversions_110 : decode cX6_inversions 110 = .ok (.aload_n 0, 1) := by decide +kernel
theorem dX6_inversions_111 : decode cX6_inversions 111 = .ok (.getfield 54, 3) := by decide +kernel
theorem dX6_inversions_114 : decode cX6_inversions 114 = .ok (.irem, 1) := by decide +kernel
theorem dX6_inversions_115 : decode cX6_inversions 115 = .ok (.iadd, 1) := by decide +kernel
theorem dX6_inversions_116 : decode cX6_inversions 116 = .ok (.iaload, 1) := by decide +kernel
theorem dX6_inversions_117 : decode cX6_inversions 117 = .ok (.imul, 1) := by decide +kernel
theorem dX6_inversions_118 : decode cX6_inversions 118 = .ok (.goto 4, 3) := by decide +kernel
theorem dX6_inversions_121 : decode cX6_inversions 121 = .ok (.iconst 0, 1) := by decide +kernel
theorem dX6_inversions_122 : decode cX6_inversions 122 = .ok (.iadd, 1) := by decide +kernel
theorem dX6_inversions_123 : decode cX6_inversions 123 = .ok (.istore_n 1, 1) := by decide +kernel
theorem dX6_inversions_124 : decode cX6_inversions 124 = .ok (.iinc 3 1, 3) := by decide +kernel
theorem dX6_inversions_127 : decode cX6_inversions 127 = .ok (.goto (-108), 3) := by decide +kernel
theorem dX6_inversions_130 : decode cX6_inversions 130 = .ok (.iinc 2 1, 3) := by decide +kernel
theorem dX6_inversions_133 : decode cX6_inversions 133 = .ok (.goto (-129), 3) := by decide +kernel
theorem dX6_inversions_136 : decode cX6_inversions 136 = .ok (.iload_n 1, 1) := by decide +kernel
theorem dX6_inversions_137 : decode cX6_inversions 137 = .ok (.ireturn, 1) := by decide +kernel
set_option maxRecDepth 20000 in
theorem ggX6_sums_X6_heightOf : GoodIn wsX6_sums wsX6_heightOf := goodIn_r _ [6, 7, 8, 5, 9] (by decide +kernel) (by decide +kernel)
set_option maxRecDepth 20000 in
theorem gX6_sums_X6_heightOf : GoodIn wsX6_sums (va_wsS RX6 94 yX6_heightOf wsX6_heightOf) := goodIn_app (goodIn_of _ (by decide +kernel)) ggX6_sums_X6_heightOf
set_option maxRecDepth 20000 in
theorem ggX6_sums_X6_isInner : GoodIn wsX6_sums wsX6_isInner := goodIn_r _ [13, 1, 14, 15, 5, 16, 20, 21, 22, 23, 24, 25, 26, 27, 28, 29, 30, 31, 32, 33, 34, 35, 36, 37, 38, 39, 40, 41, 42] (by decide +kernel) (by decide +kernel)
set_option maxRecDepth 20000 in
theorem gX6_sums_X6_isInner : GoodIn wsX6_sums (wsV RX6 97 RX6 yX6_isInner wsX6_isInner) := goodIn_app (goodIn_of _ (by decide +kernel)) ggX6_sums_X6_isInner
set_option maxRecDepth 20000 in
theorem ggX6_sums_X6_mayBe : GoodIn wsX6_sums wsX6_mayBe := goodIn_r _ [19, 3, 4, 5, 6, 7, 8, 9] (by decide +kernel) (by decide +kernel)
set_option maxRecDepth 20000 in
theorem gX6_sums_X6_mayBe : GoodIn wsX6_sums (va_wsS RX6 100 yX6_mayBe wsX6_mayBe) := goodIn_app (goodIn_of _ (by decide +kernel)) ggX6_sums_X6_mayBe
theorem dX6_sums_0 : decode cX6_sums 0 = .ok (.iconst 0, 1) := by decide +kernel
theorem dX6_sums_1 : decode cX6_sums 1 = .ok (.istore_n 2, 1) := by decide +kernel
theorem dX6_sums_2 : decode cX6_sums 2 = .ok (.iconst 0, 1) := by decide +kernel
theorem dX6_sums_3 : decode cX6_sums 3 = .ok (.istore_n 3, 1) := by decide +kernel
theorem dX6_sums_4 : decode cX6_sums 4 = .ok (.iload_n 3, 1) := by decide +kernel
theorem dX6_sums_5 : decode cX6_sums 5 = .ok (.aload_n 0, 1) := by decide +kernel
theorem dX6_sums_6 : decode cX6_sums 6 = .ok (.getfield 54, 3) := by decide +kernel
theorem dX6_sums_9 : decode cX6_sums 9 = .ok (.if_icmp .gt 122, 3) := by decide +kernel
theorem dX6_sums_12 : decode cX6_sums 12 = .ok (.iconst 0, 1) := by decide +kernel
theorem dX6_sums_13 : decode cX6_sums 13 = .ok (.istore 4, 2) := by decide +kernel
theorem dX6_sums_15 : decode cX6_sums 15 = .ok (.iload 4, 2) := by decide +kernel
theorem dX6_sums_17 : decode cX6_sums 17 = .ok (.aload_n 0, 1) := by decide +kernel
theorem dX6_sums_18 : decode cX6_sums 18 = .ok (.getfield 54, 3) := by decide +kernel
theorem dX6_sums_21 : decode cX6_sums 21 = .ok (.if_icmp .gt 104, 3) := by decide +kernel
theorem dX6_sums_24 : decode cX6_sums 24 = .ok (.iload_n 2, 1) := by decide +kernel
theorem dX6_sums_25 : decode cX6_sums 25 = .ok (.iload_n 1, 1) := by decide +kernel
theorem dX6_sums_26 : decode cX6_sums 26 = .ok (.iconst 4, 1) := by decide +kernel
theorem dX6_sums_27 : decode cX6_sums 27 = .ok (.if_icmp .ne 16, 3) := by decide +kernel
theorem dX6_sums_30 : decode cX6_sums 30 = .ok (.aload_n 0, 1) := by decide +kernel
theorem dX6_sums_31 : decode cX6_sums 31 = .ok (.getfield 13, 3) := by decide +kernel
theorem dX6_sums_34 : decode cX6_sums 34 = .ok (.iload_n 3, 1) := by decide +kernel
theorem dX6_sums_35 : decode cX6_sums 35 = .ok (.iload 4, 2) := by decide +kernel
theorem dX6_sums_37 : decode cX6_sums 37 = .ok (.invokestatic 94, 3) := by decide +kernel
theorem dX6_sums_40 : decode cX6_sums 40 = .ok (.goto 77, 3) := by decide +kernel
theorem dX6_sums_43 : decode cX6_sums 43 = .ok (.iload_n 1, 1) := by decide +kernel
theorem dX6_sums_44 : decode cX6_sums 44 = .ok (.iconst 1, 1) := by decide +kernel
theorem dX6_sums_45 : decode cX6_sums 45 = .ok (.if_icmp .ne 44, 3) := by decide +kernel
theorem dX6_sums_48 : decode cX6_sums 48 = .ok (.iload_n 3, 1) := by decide +kernel
theorem dX6_sums_49 : decode cX6_sums 49 = .ok (.aload_n 0, 1) := by decide +kernel
theorem dX6_sums_50 : decode cX6_sums 50 = .ok (.getfield 54, 3) := by decide +kernel
theorem dX6_sums_53 : decode cX6_sums 53 = .ok (.if_icmp .ge 32, 3) := by decide +kernel
theorem dX6_sums_56 : decode cX6_sums 56 = .ok (.iload 4, 2) := by decide +kernel
theorem dX6_sums_58 : decode cX6_sums 58 = .ok (.aload_n 0, 1) := by decide +kernel
theorem dX6_sums_59 : decode cX6_sums 59 = .ok (.getfield 54, 3) := by decide +kernel
theorem dX6_sums_62 : decode cX6_sums 62 = .ok (.if_icmp .ge 23, 3) := by decide +kernel
theorem dX6_sums_65 : decode cX6_sums 65 = .ok (.aload_n 0, 1) := by decide +kernel
theorem dX6_sums_66 : decode cX6_sums 66 = .ok (.getfield 13, 3) := by decide +kernel
theorem dX6_sums_69 : decode cX6_sums 69 = .ok (.bipush 6, 2) := by decide +kernel
theorem dX6_sums_71 : decode cX6_sums 71 = .ok (.iload_n 3, 1) := by decide +kernel
theorem dX6_sums_72 : decode cX6_sums 72 = .ok (.imul, 1) := by decide +kernel
theorem dX6_sums_73 : decode cX6_sums 73 = .ok (.iload 4, 2) := by decide +kernel
theorem dX6_sums_75 : decode cX6_sums 75 = .ok (.iadd, 1) := by decide +kernel
theorem dX6_sums_76 : decode cX6_sums 76 = .ok (.iaload, 1) := by decide +kernel
theorem dX6_sums_77 : decode cX6_sums 77 = .ok (.iconst (-1), 1) := by decide +kernel
theorem dX6_sums_78 : decode cX6_sums 78 = .ok (.if_icmp .ne 7, 3) := by decide +kernel
theorem dX6_sums_81 : decode cX6_sums 81 = .ok (.iconst 1, 1) := by decide +kernel
theorem dX6_sums_82 : decode cX6_sums 82 = .ok (.goto 35, 3) := by decide +kernel
theorem dX6_sums_85 : decode cX6_sums 85 = .ok (.iconst 0, 1) := by decide +kernel
theorem dX6_sums_86 : decode cX6_sums 86 = .ok (.goto 31, 3) := by decide +kernel
theorem dX6_sums_89 : decode cX6_sums 89 = .ok (.aload_n 0, 1) := by decide +kernel
theorem dX6_sums_90 : decode cX6_sums 90 = .ok (.iload_n 3, 1) := by decide +kernel
theorem dX6_sums_91 : decode cX6_sums 91 = .ok (.iload 4, 2) := by decide +kernel
theorem dX6_sums_93 : decode cX6_sums 93 = .ok (.invokevirtual 97, 3) := by decide +kernel
theorem dX6_sums_96 : decode cX6_sums 96 = .ok (.ifCond .eq 20, 3) := by decide +kernel
theorem dX6_sums_99 : decode cX6_sums 99 = .ok (.aload_n 0, 1) := by decide +kernel
theorem dX6_sums_100 : decode cX6_sums 100 = .ok (.getfield 13, 3) := by decide +kernel
theorem dX6_sums_103 : decode cX6_sums 103 = .ok (.iload_n 3, 1) := by decide +kernel
theorem dX6_sums_104 : decode cX6_sums 104 = .ok (.iload 4, 2) := by decide +kernel
theorem dX6_sums_106 : decode cX6_sums 106 = .ok (.invokestatic 100, 3) := by decide +kernel
theorem dX6_sums_109 : decode cX6_sums 109 = .ok (.ifCond .le 7, 3) := by decide +kernel
theorem dX6_sums_112 : decode cX6_sums 112 = .ok (.iconst 1, 1) := by decide +kernel
theorem dX6_sums_113 : decode cX6_sums 113 = .ok (.goto 4, 3) := by decide +kernel
theorem dX6_sums_116 : decode cX6_sums 116 = .ok (.iconst 0, 1) := by decide +kernel
theorem dX6_sums_117 : decode cX6_sums 117 = .ok (.iadd, 1) := by decide +kernel
theorem dX6_sums_118 : decode cX6_sums 118 = .ok (.istore_n 2, 1) := by decide +kernel
theorem dX6_sums_119 : decode cX6_sums 119 = .ok (.iinc 4 1, 3) := by decide +kernel
theorem dX6_sums_122 : decode cX6_sums 122 = .ok (.goto (-107), 3) := by decide +kernel
theorem dX6_sums_125 : decode cX6_sums 125 = .ok (.iinc 3 1, 3) := by decide +kernel
theorem dX6_sums_128 : decode cX6_sums 128 = .ok (.goto (-124), 3) := by decide +kernel
theorem dX6_sums_131 : decode cX6_sums 131 = .ok (.iload_n 2, 1) := by decide +kernel
theorem dX6_sums_132 : decode cX6_sums 132 = .ok (.ireturn, 1) := by decide +kernel
set_option maxRecDepth 20000 in
theorem ggX6_count_X6_sums : GoodIn wsX6_count wsX6_sums := goodIn_r _ [9, 1, 10, 11, 12, 8, 13, 14, 15, 16, 17, 18, 19, 20, 21, 22, 23, 24, 25, 26, 72, 73, 74, 75, 76, 77, 78, 79, 80, 81, 82, 83, 84, 85, 86, 87, 88, 89, 90, 91, 92, 93, 94] (by decide +kernel) (by decide +kernel)
set_option maxRecDepth 20000 in
theorem gX6_count_X6_sums : GoodIn wsX6_count (wsV RX6 203 RX6 yX6_sums wsX6_sums) := goodIn_app (goodIn_of _ (by decide +kernel)) ggX6_count_X6_sums
set_option maxRecDepth 20000 in
theorem ggX6_count_X6_inversions : GoodIn wsX6_count wsX6_inversions := goodIn_r _ [30, 1, 10, 72, 73, 74, 75, 76, 77, 78, 79, 80, 81, 82, 83, 84, 85, 86, 87, 88, 89, 90, 91, 92, 93, 94] (by decide +kernel) (by decide +kernel)
set_option maxRecDepth 20000 in
theorem gX6_count_X6_inversions : GoodIn wsX6_count (wsV RX6 206 RX6 yX6_inversions wsX6_inversions) := goodIn_app (goodIn_of _ (by decide +kernel)) ggX6_count_X6_inversions
set_option maxRecDepth 20000 in
theorem ggX6_count_X6_drawn : GoodIn wsX6_count wsX6_drawn := goodIn_r _ [34, 1, 10, 35, 36, 8, 37, 38, 39, 40, 72, 73, 74, 75, 76, 77, 78, 79, 80, 81, 82, 83, 84, 85, 86, 87, 88, 89, 90, 91, 92, 93, 94] (by decide +kernel) (by decide +kernel)
set_option maxRecDepth 20000 in
theorem gX6_count_X6_drawn : GoodIn wsX6_count (wsV RX6 209 RX6 yX6_drawn wsX6_drawn) := goodIn_app (goodIn_of _ (by decide +kernel)) ggX6_count_X6_drawn
set_option maxRecDepth 20000 in
theorem ggX6_count_X6_rings : GoodIn wsX6_count wsX6_rings := goodIn_r _ [44, 10, 1, 45, 46, 47, 48, 8, 49, 50, 51, 52, 53, 54, 55, 38, 39, 40, 35, 36, 37, 56, 57, 58, 59, 60, 61, 62, 63, 64, 65, 66, 67, 21, 22, 23, 68, 69, 70, 71, 72, 73, 74, 75, 76, 77, 78, 79, 80, 81, 82, 83, 84, 85, 86, 87, 88, 89, 90, 91, 92, 93, 94] (by decide +kernel) (by decide +kernel)
set_option maxRecDepth 20000 in
theorem gX6_count_X6_rings : GoodIn wsX6_count (wsV RX6 212 RX6 yX6_rings wsX6_rings) := goodIn_app (goodIn_of _ (by decide +kernel)) ggX6_count_X6_rings
theorem dX6_count_0 : decode cX6_count 0 = .ok (.iload_n 1, 1) := by decide +kernel
theorem dX6_count_1 : decode cX6_count 1 = .ok (.tableswitch 122 0 11 #[63, 68, 68, 74, 68, 79, 84, 89, 94, 108, 113, 113], 63) := by decide +kernel
theorem dX6_count_64 : decode cX6_count 64 = .ok (.aload_n 0, 1) := by decide +kernel
theorem dX6_count_65 : decode cX6_count 65 = .ok (.getfield 54, 3) := by decide +kernel
theorem dX6_count_68 : decode cX6_count 68 = .ok (.ireturn, 1) := by decide +kernel
theorem dX6_count_69 : decode cX6_count 69 = .ok (.aload_n 0, 1) := by decide +kernel
theorem dX6_count_70 : decode cX6_count 70 = .ok (.iload_n 1, 1) := by decide +kernel
theorem dX6_count_71 : decode cX6_count 71 = .ok (.invokevirtual 203, 3) := by decide +kernel
theorem dX6_count_74 : decode cX6_count 74 = .ok (.ireturn, 1) := by decide +kernel
theorem dX6_count_75 : decode cX6_count 75 = .ok (.aload_n 0, 1) := by decide +kernel
theorem dX6_count_76 : decode cX6_count 76 = .ok (.invokevirtual 206, 3) := by decide +kernel
theorem dX6_count_79 : decode cX6_count 79 = .ok (.ireturn, 1) := by decide +kernel
theorem dX6_count_80 : decode cX6_count 80 = .ok (.aload_n 0, 1) := by decide +kernel
theorem dX6_count_81 : decode cX6_count 81 = .ok (.getfield 80, 3) := by decide +kernel
theorem dX6_count_84 : decode cX6_count 84 = .ok (.ireturn, 1) := by decide +kernel
theorem dX6_count_85 : decode cX6_count 85 = .ok (.aload_n 0, 1) := by decide +kernel
theorem dX6_count_86 : decode cX6_count 86 = .ok (.getfield 66, 3) := by decide +kernel
theorem dX6_count_89 : decode cX6_count 89 = .ok (.ireturn, 1) := by decide +kernel
theorem dX6_count_90 : decode cX6_count 90 = .ok (.aload_n 0, 1) := by decide +kernel
theorem dX6_count_91 : decode cX6_count 91 = .ok (.getfield 83, 3) := by decide +kernel
theorem dX6_count_94 : decode cX6_count 94 = .ok (.ireturn, 1) := by decide +kernel
theorem dX6_count_95 : decode cX6_count 95 = .ok (.aload_n 0, 1) := by decide +kernel
theorem dX6_count_96 : decode cX6_count 96 = .ok (.iconst 1, 1) := by decide +kernel
theorem dX6_count_97 : decode cX6_count 97 = .ok (.invokevirtual 203, 3) := by decide +kernel
theorem dX6_count_100 : decode cX6_count 100 = .ok (.ifCond .ne 7, 3) := by decide +kernel
theorem dX6_count_103 : decode cX6_count 103 = .ok (.iconst 1, 1) := by decide +kernel
theorem dX6_count_104 : decode cX6_count 104 = .ok (.goto 4, 3) := by decide +kernel
theorem dX6_count_107 : decode cX6_count 107 = .ok (.iconst 0, 1) := by decide +kernel
theorem dX6_count_108 : decode cX6_count 108 = .ok (.ireturn, 1) := by decide +kernel
theorem dX6_count_109 : decode cX6_count 109 = .ok (.aload_n 0, 1) := by decide +kernel
theorem dX6_count_110 : decode cX6_count 110 = .ok (.invokevirtual 209, 3) := by decide +kernel
theorem dX6_count_113 : decode cX6_count 113 = .ok (.ireturn, 1) := by decide +kernel
theorem dX6_count_114 : decode cX6_count 114 = .ok (.aload_n 0, 1) := by decide +kernel
theorem dX6_count_115 : decode cX6_count 115 = .ok (.iload_n 1, 1) := by decide +kernel
theorem dX6_count_116 : decode cX6_count 116 = .ok (.bipush 10, 2) := by decide +kernel
theorem dX6_count_118 : decode cX6_count 118 = .ok (.isub, 1) := by decide +kernel
theorem dX6_count_119 : decode cX6_count 119 = .ok (.invokevirtual 212, 3) := by decide +kernel
theorem dX6_count_122 : decode cX6_count 122 = .ok (.ireturn, 1) := by decide +kernel
theorem dX6_count_123 : decode cX6_count 123 = .ok (.iconst (-1), 1) := by decide +kernel
theorem dX6_count_124 : decode cX6_count 124 = .ok (.ireturn, 1) := by decide +kernel
theorem dJ6_bitCount_0f7a4_0 : decode cJ6_bitCount_0f7a4 0 = .ok (.iload_n 0, 1) := by decide +kernel
theorem dJ6_bitCount_0f7a4_1 : decode cJ6_bitCount_0f7a4 1 = .ok (.iload_n 0, 1) := by decide +kernel
theorem dJ6_bitCount_0f7a4_2 : decode cJ6_bitCount_0f7a4 2 = .ok (.iconst 1, 1) := by decide +kernel
theorem dJ6_bitCount_0f7a4_3 : decode cJ6_bitCount_0f7a4 3 = .ok (.iushr, 1) := by decide +kernel
theorem dJ6_bitCount_0f7a4_4 : decode cJ6_bitCount_0f7a4 4 = .ok (.ldc_w 265, 3) := by decide +kernel
theorem dJ6_bitCount_0f7a4_7 : decode cJ6_bitCount_0f7a4 7 = .ok (.iand, 1) := by decide +kernel
theorem dJ6_bitCount_0f7a4_8 : decode cJ6_bitCount_0f7a4 8 = .ok (.isub, 1) := by decide +kernel
theorem dJ6_bitCount_0f7a4_9 : decode cJ6_bitCount_0f7a4 9 = .ok (.istore_n 0, 1) := by decide +kernel
theorem dJ6_bitCount_0f7a4_10 : decode cJ6_bitCount_0f7a4 10 = .ok (.iload_n 0, 1) := by decide +kernel
theorem dJ6_bitCount_0f7a4_11 : decode cJ6_bitCount_0f7a4 11 = .ok (.ldc_w 266, 3) := by decide +kernel
theorem dJ6_bitCount_0f7a4_14 : decode cJ6_bitCount_0f7a4 14 = .ok (.iand, 1) := by decide +kernel
theorem dJ6_bitCount_0f7a4_15 : decode cJ6_bitCount_0f7a4 15 = .ok (.iload_n 0, 1) := by decide +kernel
theorem dJ6_bitCount_0f7a4_16 : decode cJ6_bitCount_0f7a4 16 = .ok (.iconst 2, 1) := by decide +kernel
theorem dJ6_bitCount_0f7a4_17 : decode cJ6_bitCount_0f7a4 17 = .ok (.iushr, 1) := by decide +kernel
theorem dJ6_bitCount_0f7a4_18 : decode cJ6_bitCount_0f7a4 18 = .ok (.ldc_w 266, 3) := by decide +kernel
theorem dJ6_bitCount_0f7a4_21 : decode cJ6_bitCount_0f7a4 21 = .ok (.iand, 1) := by decide +kernel
theorem dJ6_bitCount_0f7a4_22 : decode cJ6_bitCount_0f7a4 22 = .ok (.iadd, 1) := by decide +kernel
theorem dJ6_bitCount_0f7a4_23 : decode cJ6_bitCount_0f7a4 23 = .ok (.istore_n 0, 1) := by decide +kernel
theorem dJ6_bitCount_0f7a4_24 : decode cJ6_bitCount_0f7a4 24 = .ok (.iload_n 0, 1) := by decide +kernel
theorem dJ6_bitCount_0f7a4_25 : decode cJ6_bitCount_0f7a4 25 = .ok (.iload_n 0, 1) := by decide +kernel
theorem dJ6_bitCount_0f7a4_26 : decode cJ6_bitCount_0f7a4 26 = .ok (.iconst 4, 1) := by decide +kernel
theorem dJ6_bitCount_0f7a4_27 : decode cJ6_bitCount_0f7a4 27 = .ok (.iushr, 1) := by decide +kernel
theorem dJ6_bitCount_0f7a4_28 : decode cJ6_bitCount_0f7a4 28 = .ok (.iadd, 1) := by decide +kernel
theorem dJ6_bitCount_0f7a4_29 : decode cJ6_bitCount_0f7a4 29 = .ok (.ldc_w 267, 3) := by decide +kernel
theorem dJ6_bitCount_0f7a4_32 : decode cJ6_bitCount_0f7a4 32 = .ok (.iand, 1) := by decide +kernel
theorem dJ6_bitCount_0f7a4_33 : decode cJ6_bitCount_0f7a4 33 = .ok (.istore_n 0, 1) := by decide +kernel
theorem dJ6_bitCount_0f7a4_34 : decode cJ6_bitCount_0f7a4 34 = .ok (.iload_n 0, 1) := by decide +kernel
theorem dJ6_bitCount_0f7a4_35 : decode cJ6_bitCount_0f7a4 35 = .ok (.iload_n 0, 1) := by decide +kernel
theorem dJ6_bitCount_0f7a4_36 : decode cJ6_bitCount_0f7a4 36 = .ok (.bipush 8, 2) := by decide +kernel
theorem dJ6_bitCount_0f7a4_38 : decode cJ6_bitCount_0f7a4 38 = .ok (.iushr, 1) := by decide +kernel
theorem dJ6_bitCount_0f7a4_39 : decode cJ6_bitCount_0f7a4 39 = .ok (.iadd, 1) := by decide +kernel
theorem dJ6_bitCount_0f7a4_40 : decode cJ6_bitCount_0f7a4 40 = .ok (.istore_n 0, 1) := by decide +kernel
theorem dJ6_bitCount_0f7a4_41 : decode cJ6_bitCount_0f7a4 41 = .ok (.iload_n 0, 1) := by decide +kernel
theorem dJ6_bitCount_0f7a4_42 : decode cJ6_bitCount_0f7a4 42 = .ok (.iload_n 0, 1) := by decide +kernel
theorem dJ6_bitCount_0f7a4_43 : decode cJ6_bitCount_0f7a4 43 = .ok (.bipush 16, 2) := by decide +kernel
theorem dJ6_bitCount_0f7a4_45 : decode cJ6_bitCount_0f7a4 45 = .ok (.iushr, 1) := by decide +kernel
theorem dJ6_bitCount_0f7a4_46 : decode cJ6_bitCount_0f7a4 46 = .ok (.iadd, 1) := by decide +kernel
theorem dJ6_bitCount_0f7a4_47 : decode cJ6_bitCount_0f7a4 47 = .ok (.istore_n 0, 1) := by decide +kernel
theorem dJ6_bitCount_0f7a4_48 : decode cJ6_bitCount_0f7a4 48 = .ok (.iload_n 0, 1) := by decide +kernel
theorem dJ6_bitCount_0f7a4_49 : decode cJ6_bitCount_0f7a4 49 = .ok (.bipush 63, 2) := by decide +kernel
theorem dJ6_bitCount_0f7a4_51 : decode cJ6_bitCount_0f7a4 51 = .ok (.iand, 1) := by decide +kernel
theorem dJ6_bitCount_0f7a4_52 : decode cJ6_bitCount_0f7a4 52 = .ok (.ireturn, 1) := by decide +kernel
theorem dJ9_abs_0f7a4_0 : decode cJ9_abs_0f7a4 0 = .ok (.iload_n 0, 1) := by decide +kernel
theorem dJ9_abs_0f7a4_1 : decode cJ9_abs_0f7a4 1 = .ok (.ifCond .ge 8, 3) := by decide +kernel
theorem dJ9_abs_0f7a4_4 : decode cJ9_abs_0f7a4 4 = .ok (.iload_n 0, 1) := by decide +kernel
theorem dJ9_abs_0f7a4_5 : decode cJ9_abs_0f7a4 5 = .ok (.ineg, 1) := by decide +kernel
theorem dJ9_abs_0f7a4_6 : decode cJ9_abs_0f7a4 6 = .ok (.goto 4, 3) := by decide +kernel
theorem dJ9_abs_0f7a4_9 : decode cJ9_abs_0f7a4 9 = .ok (.iload_n 0, 1) := by decide +kernel
theorem dJ9_abs_0f7a4_10 : decode cJ9_abs_0f7a4 10 = .ok (.ireturn, 1) := by decide +kernel
theorem dJ9_min_7cf53_0 : decode cJ9_min_7cf53 0 = .ok (.iload_n 0, 1) := by decide +kernel
theorem dJ9_min_7cf53_1 : decode cJ9_min_7cf53 1 = .ok (.iload_n 1, 1) := by decide +kernel
theorem dJ9_min_7cf53_2 : decode cJ9_min_7cf53 2 = .ok (.if_icmp .gt 7, 3) := by decide +kernel
theorem dJ9_min_7cf53_5 : decode cJ9_min_7cf53 5 = .ok (.iload_n 0, 1) := by decide +kernel
theorem dJ9_min_7cf53_6 : decode cJ9_min_7cf53 6 = .ok (.goto 4, 3) := by decide +kernel
theorem dJ9_min_7cf53_9 : decode cJ9_min_7cf53 9 = .ok (.iload_n 1, 1) := by decide +kernel
theorem dJ9_min_7cf53_10 : decode cJ9_min_7cf53 10 = .ok (.ireturn, 1) := by decide +kernel
set_option maxRecDepth 20000 in
theorem ggJ0_length_8abf5_J0_coder_7d493 : GoodIn wsJ0_length_8abf5 wsJ0_coder_7d493 := goodIn_r _ [6, 7, 8] (by decide +kernel) (by decide +kernel)
set_option maxRecDepth 20000 in
theorem gJ0_length_8abf5_J0_coder_7d493 : GoodIn wsJ0_length_8abf5 (wsV RJ0 335 RJ0 yJ0_coder_7d493 wsJ0_coder_7d493) := goodIn_app (goodIn_of _ (by decide +kernel)) ggJ0_length_8abf5_J0_coder_7d493
theorem dJ0_length_8abf5_0 : decode cJ0_length_8abf5 0 = .ok (.aload_n 0, 1) := by decide +kernel
theorem dJ0_length_8abf5_1 : decode cJ0_length_8abf5 1 = .ok (.getfield 9, 3) := by decide +kernel
theorem dJ0_length_8abf5_4 : decode cJ0_length_8abf5 4 = .ok (.arraylength, 1) := by decide +kernel
theorem dJ0_length_8abf5_5 : decode cJ0_length_8abf5 5 = .ok (.aload_n 0, 1) := by decide +kernel
theorem dJ0_length_8abf5_6 : decode cJ0_length_8abf5 6 = .ok (.invokevirtual 335, 3) := by decide +kernel
theorem dJ0_length_8abf5_9 : decode cJ0_length_8abf5 9 = .ok (.ishr, 1) := by decide +kernel
theorem dJ0_length_8abf5_10 : decode cJ0_length_8abf5 10 = .ok (.ireturn, 1) := by decide +kernel
set_option maxRecDepth 20000 in
theorem ggJ0_charAt_5068e_J0_isLatin1_aae02 : GoodIn wsJ0_charAt_5068e wsJ0_isLatin1_aae02 := goodIn_r _ [6, 7, 8] (by decide +kernel) (by decide +kernel)
set_option maxRecDepth 20000 in
theorem gJ0_charAt_5068e_J0_isLatin1_aae02 : GoodIn wsJ0_charAt_5068e (wsV RJ0 492 RJ0 yJ0_isLatin1_aae02 wsJ0_isLatin1_aae02) := goodIn_app (goodIn_of _ (by decide +kernel)) ggJ0_charAt_5068e_J0_isLatin1_aae02
set_option maxRecDepth 20000 in
theorem ggJ0_charAt_5068e_J1_charAt_3b067 : GoodIn wsJ0_charAt_5068e wsJ1_charAt_3b067 := goodIn_r _ [12, 13, 14, 5, 15, 16, 17, 18, 19, 20] (by decide +kernel) (by decide +kernel)
set_option maxRecDepth 20000 in
theorem gJ0_charAt_5068e_J1_charAt_3b067 : GoodIn wsJ0_charAt_5068e (va_wsS RJ0 495 yJ1_charAt_3b067 wsJ1_charAt_3b067) := goodIn_app (goodIn_of _ (by decide +kernel)) ggJ0_charAt_5068e_J1_charAt_3b067
set_option maxRecDepth 20000 in
theorem ggJ0_charAt_5068e_J2_charAt_3b067 : GoodIn wsJ0_charAt_5068e wsJ2_charAt_3b067 := goodIn_r _ [24, 25, 26, 23, 27, 28, 29, 30, 31, 14, 5, 15, 16, 17, 18, 19, 20, 32, 33, 34, 35, 36, 37] (by decide +kernel) (by decide +kernel)
set_option maxRecDepth 20000 in
theorem gJ0_charAt_5068e_J2_charAt_3b067 : GoodIn wsJ0_charAt_5068e (va_wsS RJ0 498 yJ2_charAt_3b067 wsJ2_charAt_3b067) := goodIn_app (goodIn_of _ (by decide +kernel)) ggJ0_charAt_5068e_J2_charAt_3b067
theorem dJ0_charAt_5068e_0 : decode cJ0_charAt_5068e 0 = .ok (.aload_n 0, 1) := by decide +kernel
theorem dJ0_charAt_5068e_1 : decode cJ0_charAt_5068e 1 = .ok (.invokevirtual 492, 3) := by decide +kernel
theorem dJ0_charAt_5068e_4 : decode cJ0_charAt_5068e 4 = .ok (.ifCond .eq 12, 3) := by decide +kernel
theorem dJ0_charAt_5068e_7 : decode cJ0_charAt_5068e 7 = .ok (.aload_n 0, 1) := by decide +kernel
theorem dJ0_charAt_5068e_8 : decode cJ0_charAt_5068e 8 = .ok (.getfield 9, 3) := by decide +kernel
theorem dJ0_charAt_5068e_11 : decode cJ0_charAt_5068e 11 = .ok (.iload_n 1, 1) := by decide +kernel
theorem dJ0_charAt_5068e_12 : decode cJ0_charAt_5068e 12 = .ok (.invokestatic 495, 3) := by decide +kernel
theorem dJ0_charAt_5068e_15 : decode cJ0_charAt_5068e 15 = .ok (.ireturn, 1) := by decide +kernel
theorem dJ0_charAt_5068e_16 : decode cJ0_charAt_5068e 16 = .ok (.aload_n 0, 1) := by decide +kernel
theorem dJ0_charAt_5068e_17 : decode cJ0_charAt_5068e 17 = .ok (.getfield 9, 3) := by decide +kernel
theorem dJ0_charAt_5068e_20 : decode cJ0_charAt_5068e 20 = .ok (.iload_n 1, 1) := by decide +kernel
theorem dJ0_charAt_5068e_21 : decode cJ0_charAt_5068e 21 = .ok (.invokestatic 498, 3) := by decide +kernel
theorem dJ0_charAt_5068e_24 : decode cJ0_charAt_5068e 24 = .ok (.ireturn, 1) := by decide +kernel
theorem dJ0_coder_7d493_0 : decode cJ0_coder_7d493 0 = .ok (.getstatic 38, 3) := by decide +kernel
theorem dJ0_coder_7d493_3 : decode cJ0_coder_7d493 3 = .ok (.ifCond .eq 10, 3) := by decide +kernel
theorem dJ0_coder_7d493_6 : decode cJ0_coder_7d493 6 = .ok (.aload_n 0, 1) := by decide +kernel
theorem dJ0_coder_7d493_7 : decode cJ0_coder_7d493 7 = .ok (.getfield 15, 3) := by decide +kernel
theorem dJ0_coder_7d493_10 : decode cJ0_coder_7d493 10 = .ok (.goto 4, 3) := by decide +kernel
theorem dJ0_coder_7d493_13 : decode cJ0_coder_7d493 13 = .ok (.iconst 1, 1) := by decide +kernel
theorem dJ0_coder_7d493_14 : decode cJ0_coder_7d493 14 = .ok (.ireturn, 1) := by decide +kernel
theorem dJ0_isLatin1_aae02_0 : decode cJ0_isLatin1_aae02 0 = .ok (.getstatic 38, 3) := by decide +kernel
theorem dJ0_isLatin1_aae02_3 : decode cJ0_isLatin1_aae02 3 = .ok (.ifCond .eq 14, 3) := by decide +kernel
theorem dJ0_isLatin1_aae02_6 : decode cJ0_isLatin1_aae02 6 = .ok (.aload_n 0, 1) := by decide +kernel
theorem dJ0_isLatin1_aae02_7 : decode cJ0_isLatin1_aae02 7 = .ok (.getfield 15, 3) := by decide +kernel
theorem dJ0_isLatin1_aae02_10 : decode cJ0_isLatin1_aae02 10 = .ok (.ifCond .ne 7, 3) := by decide +kernel
theorem dJ0_isLatin1_aae02_13 : decode cJ0_isLatin1_aae02 13 = .ok (.iconst 1, 1) := by decide +kernel
theorem dJ0_isLatin1_aae02_14 : decode cJ0_isLatin1_aae02 14 = .ok (.goto 4, 3) := by decide +kernel
theorem dJ0_isLatin1_aae02_17 : decode cJ0_isLatin1_aae02 17 = .ok (.iconst 0, 1) := by decide +kernel
theorem dJ0_isLatin1_aae02_18 : decode cJ0_isLatin1_aae02 18 = .ok (.ireturn, 1) := by decide +kernel
set_option maxRecDepth 20000 in
theorem ggJ0_checkIndex_df160_J3_checkIndex_8e157 : GoodIn wsJ0_checkIndex_df160 wsJ3_checkIndex_8e157 := goodIn_r _ [5] (by decide +kernel) (by decide +kernel)
set_option maxRecDepth 20000 in
theorem gJ0_checkIndex_df160_J3_checkIndex_8e157 : GoodIn wsJ0_checkIndex_df160 (va_wsS RJ0 1059 yJ3_checkIndex_8e157 wsJ3_checkIndex_8e157) := goodIn_app (goodIn_of _ (by decide +kernel)) ggJ0_checkIndex_df160_J3_checkIndex_8e157
theorem dJ0_checkIndex_df160_0 : decode cJ0_checkIndex_df160 0 = .ok (.iload_n 0, 1) := by decide +kernel
theorem dJ0_checkIndex_df160_1 : decode cJ0_checkIndex_df160 1 = .ok (.iload_n 1, 1) := by decide +kernel
theorem dJ0_checkIndex_df160_2 : decode cJ0_checkIndex_df160 2 = .ok (.getstatic 1053, 3) := by decide +kernel
theorem dJ0_checkIndex_df160_5 : decode cJ0_checkIndex_df160 5 = .ok (.invokestatic 1059, 3) := by decide +kernel
theorem dJ0_checkIndex_df160_8 : decode cJ0_checkIndex_df160 8 = .ok (.pop, 1) := by decide +kernel
theorem dJ0_checkIndex_df160_9 : decode cJ0_checkIndex_df160 9 = .ok (.return_, 1) := by decide +kernel
set_option maxRecDepth 20000 in
theorem ggJ1_charAt_3b067_J0_checkIndex_df160 : GoodIn wsJ1_charAt_3b067 wsJ0_checkIndex_df160 := goodIn_r _ [4, 5, 6, 7, 8, 9] (by decide +kernel) (by decide +kernel)
set_option maxRecDepth 20000 in
theorem gJ1_charAt_3b067_J0_checkIndex_df160 : GoodIn wsJ1_charAt_3b067 (va_wsS RJ1 9 yJ0_checkIndex_df160 wsJ0_checkIndex_df160) := goodIn_app (goodIn_of _ (by decide +kernel)) ggJ1_charAt_3b067_J0_checkIndex_df160
theorem dJ1_charAt_3b067_0 : decode cJ1_charAt_3b067 0 = .ok (.iload_n 1, 1) := by decide +kernel
theorem dJ1_charAt_3b067_1 : decode cJ1_charAt_3b067 1 = .ok (.aload_n 0, 1) := by decide +kernel
theorem dJ1_charAt_3b067_2 : decode cJ1_charAt_3b067 2 = .ok (.arraylength, 1) := by decide +kernel
theorem dJ1_charAt_3b067_3 : decode cJ1_charAt_3b067 3 = .ok (.invokestatic 9, 3) := by decide +kernel
theorem dJ1_charAt_3b067_6 : decode cJ1_charAt_3b067 6 = .ok (.aload_n 0, 1) := by decide +kernel
theorem dJ1_charAt_3b067_7 : decode cJ1_charAt_3b067 7 = .ok (.iload_n 1, 1) := by decide +kernel
theorem dJ1_charAt_3b067_8 : decode cJ1_charAt_3b067 8 = .ok (.baload, 1) := by decide +kernel
theorem dJ1_charAt_3b067_9 : decode cJ1_charAt_3b067 9 = .ok (.sipush 255, 3) := by decide +kernel
theorem dJ1_charAt_3b067_12 : decode cJ1_charAt_3b067 12 = .ok (.iand, 1) := by decide +kernel
theorem dJ1_charAt_3b067_13 : decode cJ1_charAt_3b067 13 = .ok (.i2c, 1) := by decide +kernel
theorem dJ1_charAt_3b067_14 : decode cJ1_charAt_3b067 14 = .ok (.ireturn, 1) := by decide +kernel
set_option maxRecDepth 20000 in
theorem ggJ2_getChar_3b067_J2_length_9d52b : GoodIn wsJ2_getChar_3b067 wsJ2_length_9d52b := goodIn_r _ [7] (by decide +kernel) (by decide +kernel)
set_option maxRecDepth 20000 in
theorem gJ2_getChar_3b067_J2_length_9d52b : GoodIn wsJ2_getChar_3b067 (va_wsS RJ2 48 yJ2_length_9d52b wsJ2_length_9d52b) := goodIn_app (goodIn_of _ (by decide +kernel)) ggJ2_getChar_3b067_J2_length_9d52b
theorem dJ2_getChar_3b067_0 : decode cJ2_getChar_3b067 0 = .ok (.getstatic 44, 3) := by decide +kernel
theorem dJ2_getChar_3b067_3 : decode cJ2_getChar_3b067 3 = .ok (.ifCond .ne 25, 3) := by decide +kernel
theorem dJ2_getChar_3b067_6 : decode cJ2_getChar_3b067 6 = .ok (.iload_n 1, 1) := by decide +kernel
theorem dJ2_getChar_3b067_7 : decode cJ2_getChar_3b067 7 = .ok (.ifCond .lt 11, 3) := by decide +kernel
theorem dJ2_getChar_3b067_10 : decode cJ2_getChar_3b067 10 = .ok (.iload_n 1, 1) := by decide +kernel
theorem dJ2_getChar_3b067_11 : decode cJ2_getChar_3b067 11 = .ok (.aload_n 0, 1) := by decide +kernel
theorem dJ2_getChar_3b067_12 : decode cJ2_getChar_3b067 12 = .ok (.invokestatic 48, 3) := by decide +kernel
theorem dJ2_getChar_3b067_15 : decode cJ2_getChar_3b067 15 = .ok (.if_icmp .lt 13, 3) := by decide +kernel
theorem dJ2_getChar_3b067_18 : decode cJ2_getChar_3b067 18 = .ok (.new 52, 3) := by decide +kernel
theorem dJ2_getChar_3b067_21 : decode cJ2_getChar_3b067 21 = .ok (.dup, 1) := by decide +kernel
theorem dJ2_getChar_3b067_22 : decode cJ2_getChar_3b067 22 = .ok (.ldc 54, 2) := by decide +kernel
theorem dJ2_getChar_3b067_24 : decode cJ2_getChar_3b067 24 = .ok (.invokespecial 56, 3) := by decide +kernel
theorem dJ2_getChar_3b067_27 : decode cJ2_getChar_3b067 27 = .ok (.athrow, 1) := by decide +kernel
theorem dJ2_getChar_3b067_28 : decode cJ2_getChar_3b067 28 = .ok (.iload_n 1, 1) := by decide +kernel
theorem dJ2_getChar_3b067_29 : decode cJ2_getChar_3b067 29 = .ok (.iconst 1, 1) := by decide +kernel
theorem dJ2_getChar_3b067_30 : decode cJ2_getChar_3b067 30 = .ok (.ishl, 1) := by decide +kernel
theorem dJ2_getChar_3b067_31 : decode cJ2_getChar_3b067 31 = .ok (.istore_n 1, 1) := by decide +kernel
theorem dJ2_getChar_3b067_32 : decode cJ2_getChar_3b067 32 = .ok (.aload_n 0, 1) := by decide +kernel
theorem dJ2_getChar_3b067_33 : decode cJ2_getChar_3b067 33 = .ok (.iload_n 1, 1) := by decide +kernel
theorem dJ2_getChar_3b067_34 : decode cJ2_getChar_3b067 34 = .ok (.iinc 1 1, 3) := by decide +kernel
theorem dJ2_getChar_3b067_37 : decode cJ2_getChar_3b067 37 = .ok (.baload, 1) := by decide +kernel
theorem dJ2_getChar_3b067_38 : decode cJ2_getChar_3b067 38 = .ok (.sipush 255, 3) := by decide +kernel
theorem dJ2_getChar_3b067_41 : decode cJ2_getChar_3b067 41 = .ok (.iand, 1) := by decide +kernel
theorem dJ2_getChar_3b067_42 : decode cJ2_getChar_3b067 42 = .ok (.getstatic 59, 3) := by decide +kernel
theorem dJ2_getChar_3b067_45 : decode cJ2_getChar_3b067 45 = .ok (.ishl, 1) := by decide +kernel
theorem dJ2_getChar_3b067_46 : decode cJ2_getChar_3b067 46 = .ok (.aload_n 0, 1) := by decide +kernel
theorem dJ2_getChar_3b067_47 : decode cJ2_getChar_3b067 47 = .ok (.iload_n 1, 1) := by decide +kernel
theorem dJ2_getChar_3b067_48 : decode cJ2_getChar_3b067 48 = .ok (.baload, 1) := by decide +kernel
theorem dJ2_getChar_3b067_49 : decode cJ2_getChar_3b067 49 = .ok (.sipush 255, 3) := by decide +kernel
theorem dJ2_getChar_3b067_52 : decode cJ2_getChar_3b067 52 = .ok (.iand, 1) := by decide +kernel
theorem dJ2_getChar_3b067_53 : decode cJ2_getChar_3b067 53 = .ok (.getstatic 63, 3) := by decide +kernel
theorem dJ2_getChar_3b067_56 : decode cJ2_getChar_3b067 56 = .ok (.ishl, 1) := by decide +kernel
theorem dJ2_getChar_3b067_57 : decode cJ2_getChar_3b067 57 = .ok (.ior, 1) := by decide +kernel
theorem dJ2_getChar_3b067_58 : decode cJ2_getChar_3b067 58 = .ok (.i2c, 1) := by decide +kernel
theorem dJ2_getChar_3b067_59 : decode cJ2_getChar_3b067 59 = .ok (.ireturn, 1) := by decide +kernel
theorem dJ2_length_9d52b_0 : decode cJ2_length_9d52b 0 = .ok (.aload_n 0, 1) := by decide +kernel
theorem dJ2_length_9d52b_1 : decode cJ2_length_9d52b 1 = .ok (.arraylength, 1) := by decide +kernel
theorem dJ2_length_9d52b_2 : decode cJ2_length_9d52b 2 = .ok (.iconst 1, 1) := by decide +kernel
theorem dJ2_length_9d52b_3 : decode cJ2_length_9d52b 3 = .ok (.ishr, 1) := by decide +kernel
theorem dJ2_length_9d52b_4 : decode cJ2_length_9d52b 4 = .ok (.ireturn, 1) := by decide +kernel
set_option maxRecDepth 20000 in
theorem ggJ2_charAt_3b067_J2_checkIndex_2214a : GoodIn wsJ2_charAt_3b067 wsJ2_checkIndex_2214a := goodIn_r _ [4, 5, 6, 3, 7, 8, 9, 10, 11, 12, 13, 14, 15, 16] (by decide +kernel) (by decide +kernel)
set_option maxRecDepth 20000 in
theorem gJ2_charAt_3b067_J2_checkIndex_2214a : GoodIn wsJ2_charAt_3b067 (va_wsS RJ2 67 yJ2_checkIndex_2214a wsJ2_checkIndex_2214a) := goodIn_app (goodIn_of _ (by decide +kernel)) ggJ2_charAt_3b067_J2_checkIndex_2214a
set_option maxRecDepth 20000 in
theorem ggJ2_charAt_3b067_J2_getChar_3b067 : GoodIn wsJ2_charAt_3b067 wsJ2_getChar_3b067 := goodIn_r _ [19, 20, 21, 22, 5, 6, 3, 7] (by decide +kernel) (by decide +kernel)
set_option maxRecDepth 20000 in
theorem gJ2_charAt_3b067_J2_getChar_3b067 : GoodIn wsJ2_charAt_3b067 (va_wsS RJ2 71 yJ2_getChar_3b067 wsJ2_getChar_3b067) := goodIn_app (goodIn_of _ (by decide +kernel)) ggJ2_charAt_3b067_J2_getChar_3b067
theorem dJ2_charAt_3b067_0 : decode cJ2_charAt_3b067 0 = .ok (.iload_n 1, 1) := by decide +kernel
theorem dJ2_charAt_3b067_1 : decode cJ2_charAt_3b067 1 = .ok (.aload_n 0, 1) := by decide +kernel
theorem dJ2_charAt_3b067_2 : decode cJ2_charAt_3b067 2 = .ok (.invokestatic 67, 3) := by decide +kernel
theorem dJ2_charAt_3b067_5 : decode cJ2_charAt_3b067 5 = .ok (.aload_n 0, 1) := by decide +kernel
theorem dJ2_charAt_3b067_6 : decode cJ2_charAt_3b067 6 = .ok (.iload_n 1, 1) := by decide +kernel
theorem dJ2_charAt_3b067_7 : decode cJ2_charAt_3b067 7 = .ok (.invokestatic 71, 3) := by decide +kernel
theorem dJ2_charAt_3b067_10 : decode cJ2_charAt_3b067 10 = .ok (.ireturn, 1) := by decide +kernel
set_option maxRecDepth 20000 in
theorem ggJ2_checkIndex_2214a_J2_length_9d52b : GoodIn wsJ2_checkIndex_2214a wsJ2_length_9d52b := goodIn_r _ [4] (by decide +kernel) (by decide +kernel)
set_option maxRecDepth 20000 in
theorem gJ2_checkIndex_2214a_J2_length_9d52b : GoodIn wsJ2_checkIndex_2214a (va_wsS RJ2 48 yJ2_length_9d52b wsJ2_length_9d52b) := goodIn_app (goodIn_of _ (by decide +kernel)) ggJ2_checkIndex_2214a_J2_length_9d52b
set_option maxRecDepth 20000 in
theorem ggJ2_checkIndex_2214a_J0_checkIndex_df160 : GoodIn wsJ2_checkIndex_2214a wsJ0_checkIndex_df160 := goodIn_r _ [8, 9, 10, 11, 12, 13] (by decide +kernel) (by decide +kernel)
set_option maxRecDepth 20000 in
theorem gJ2_checkIndex_2214a_J0_checkIndex_df160 : GoodIn wsJ2_checkIndex_2214a (va_wsS RJ2 414 yJ0_checkIndex_df160 wsJ0_checkIndex_df160) := goodIn_app (goodIn_of _ (by decide +kernel)) ggJ2_checkIndex_2214a_J0_checkIndex_df160
theorem dJ2_checkIndex_2214a_0 : decode cJ2_checkIndex_2214a 0 = .ok (.iload_n 0, 1) := by decide +kernel
theorem dJ2_checkIndex_2214a_1 : decode cJ2_checkIndex_2214a 1 = .ok (.aload_n 1, 1) := by decide +kernel
theorem dJ2_checkIndex_2214a_2 : decode cJ2_checkIndex_2214a 2 = .ok (.invokestatic 48, 3) := by decide +kernel
theorem dJ2_checkIndex_2214a_5 : decode cJ2_checkIndex_2214a 5 = .ok (.invokestatic 414, 3) := by decide +kernel
theorem dJ2_checkIndex_2214a_8 : decode cJ2_checkIndex_2214a 8 = .ok (.return_, 1) := by decide +kernel
theorem dJ3_checkIndex_8e157_0 : decode cJ3_checkIndex_8e157 0 = .ok (.iload_n 0, 1) := by decide +kernel
theorem dJ3_checkIndex_8e157_1 : decode cJ3_checkIndex_8e157 1 = .ok (.ifCond .lt 8, 3) := by decide +kernel
theorem dJ3_checkIndex_8e157_4 : decode cJ3_checkIndex_8e157 4 = .ok (.iload_n 0, 1) := by decide +kernel
theorem dJ3_checkIndex_8e157_5 : decode cJ3_checkIndex_8e157 5 = .ok (.iload_n 1, 1) := by decide +kernel
theorem dJ3_checkIndex_8e157_6 : decode cJ3_checkIndex_8e157 6 = .ok (.if_icmp .lt 10, 3) := by decide +kernel
theorem dJ3_checkIndex_8e157_9 : decode cJ3_checkIndex_8e157 9 = .ok (.aload_n 2, 1) := by decide +kernel
theorem dJ3_checkIndex_8e157_10 : decode cJ3_checkIndex_8e157 10 = .ok (.iload_n 0, 1) := by decide +kernel
theorem dJ3_checkIndex_8e157_11 : decode cJ3_checkIndex_8e157 11 = .ok (.iload_n 1, 1) := by decide +kernel
theorem dJ3_checkIndex_8e157_12 : decode cJ3_checkIndex_8e157 12 = .ok (.invokestatic 95, 3) := by decide +kernel
theorem dJ3_checkIndex_8e157_15 : decode cJ3_checkIndex_8e157 15 = .ok (.athrow, 1) := by decide +kernel
theorem dJ3_checkIndex_8e157_16 : decode cJ3_checkIndex_8e157 16 = .ok (.iload_n 0, 1) := by decide +kernel
theorem dJ3_checkIndex_8e157_17 : decode cJ3_checkIndex_8e157 17 = .ok (.ireturn, 1) := by decide +kernel
set_option maxRecDepth 20000 in
theorem ggL_law_X5_init : GoodIn wsL_law wsX5_init := goodIn_r _ [8, 9, 10, 11, 12, 13, 14, 15, 16, 17, 18, 19, 20, 21, 22, 23, 24, 25, 26, 27, 28, 29, 30, 31, 32, 33, 34, 35, 36, 37, 38, 39, 40, 41, 42, 43, 44, 45, 46, 47, 48, 49, 50, 51, 52, 53, 54, 55, 56, 57, 58, 59, 60, 61, 62, 63, 64, 65, 66, 67, 68, 69, 70, 71, 72, 73, 74, 75, 76, 77, 78, 79, 80, 81, 82, 83, 84, 85, 86, 87, 88, 89, 90, 91, 92, 93, 94, 95, 96, 97, 98, 99, 100, 101, 102, 103, 104, 105, 106, 107, 108, 109, 110, 111, 112, 113, 114, 115, 116, 117, 118, 119, 120, 121, 122, 123, 124, 125, 126, 127, 128, 129, 130, 131, 132, 133, 134, 135, 136, 137, 138, 139, 140, 141, 142, 143, 144, 145, 146, 147, 148, 149, 150, 151, 152, 153, 154, 155, 156, 157, 158, 159, 160, 161, 2, 162, 163, 164, 165, 166, 167, 168, 169, 170, 171, 172, 173, 174, 175, 176, 839, 840, 841, 842, 843, 844, 809, 810, 811, 812, 813, 814, 815, 845, 846, 847, 848, 849, 850, 851, 852, 853, 854, 855, 856, 857, 858, 859, 860, 861, 862, 863, 864, 865, 866, 867] (by decide +kernel) (by decide +kernel)
set_option maxRecDepth 20000 in
theorem gL_law_X5_init : GoodIn wsL_law (wsX5_init) := ggL_law_X5_init
set_option maxRecDepth 20000 in
theorem ggL_law_X6_init : GoodIn wsL_law wsX6_init := goodIn_r _ [179, 180, 10, 11, 46, 181, 182, 183, 184, 185, 186, 187, 188, 189, 190, 191, 192, 193, 66, 194, 195, 196, 816, 817, 818, 819, 820, 821, 822, 823, 824, 825, 826, 827, 828, 829, 830, 831, 832, 833, 834, 835, 836, 837, 838] (by decide +kernel) (by decide +kernel)
set_option maxRecDepth 20000 in
theorem gL_law_X6_init : GoodIn wsL_law (wsX6_init) := ggL_law_X6_init
set_option maxRecDepth 20000 in
theorem ggL_law_X5_write : GoodIn wsL_law wsX5_write := goodIn_r _ [200, 15, 35, 120, 121, 122, 14, 123, 124, 40, 809, 810, 811, 812, 813, 814, 815, 839, 840, 841, 842, 843, 844] (by decide +kernel) (by decide +kernel)
set_option maxRecDepth 20000 in
theorem gL_law_X5_write : GoodIn wsL_law (wsV RL 13 RX5 yX5_write wsX5_write) := goodIn_app (goodIn_of _ (by decide +kernel)) ggL_law_X5_write
set_option maxRecDepth 20000 in
theorem ggL_law_X6_write : GoodIn wsL_law wsX6_write := goodIn_r _ [204, 205, 206, 207, 181, 208, 209, 5, 210, 816, 817, 818, 819, 820, 821, 822, 823, 824, 825, 826, 827, 828, 829, 830, 831, 832, 833, 834, 835, 836, 837, 838] (by decide +kernel) (by decide +kernel)
set_option maxRecDepth 20000 in
theorem gL_law_X6_write : GoodIn wsL_law (wsV RL 17 RX6 yX6_write wsX6_write) := goodIn_app (goodIn_of _ (by decide +kernel)) ggL_law_X6_write
set_option maxRecDepth 20000 in
theorem ggL_law_X5_wipe : GoodIn wsL_law wsX5_wipe := goodIn_r _ [214, 15, 35, 809, 810, 811, 812, 813, 814, 815, 839, 840, 841, 842, 843, 844] (by decide +kernel) (by decide +kernel)
set_option maxRecDepth 20000 in
theorem gL_law_X5_wipe : GoodIn wsL_law (wsV RL 18 RX5 yX5_wipe wsX5_wipe) := goodIn_app (goodIn_of _ (by decide +kernel)) ggL_law_X5_wipe
set_option maxRecDepth 20000 in
theorem ggL_law_X6_wipe : GoodIn wsL_law wsX6_wipe := goodIn_r _ [218, 207, 816, 817, 818, 819, 820, 821, 822, 823, 824, 825, 826, 827, 828, 829, 830, 831, 832, 833, 834, 835, 836, 837, 838] (by decide +kernel) (by decide +kernel)
set_option maxRecDepth 20000 in
theorem gL_law_X6_wipe : GoodIn wsL_law (wsV RL 22 RX6 yX6_wipe wsX6_wipe) := goodIn_app (goodIn_of _ (by decide +kernel)) ggL_law_X6_wipe
set_option maxRecDepth 20000 in
theorem ggL_law_X5_fault : GoodIn wsL_law wsX5_fault := goodIn_r _ [222, 15, 125, 126, 127, 14, 128, 42, 129, 130, 124, 40, 131, 132, 133, 134, 135, 136, 137, 138, 139, 140, 141, 142, 143, 144, 145, 146, 147, 148, 149, 150, 151, 152, 153, 154, 155, 18, 156, 47, 157, 158, 159, 160, 161, 2, 162, 163, 164, 165, 166, 167, 809, 810, 811, 812, 813, 814, 815, 839, 840, 841, 842, 843, 844, 845, 846] (by decide +kernel) (by decide +kernel)
set_option maxRecDepth 20000 in
theorem gL_law_X5_fault : GoodIn wsL_law (wsV RL 23 RX5 yX5_fault wsX5_fault) := goodIn_app (goodIn_of _ (by decide +kernel)) ggL_law_X5_fault
set_option maxRecDepth 20000 in
theorem ggL_law_X6_fault : GoodIn wsL_law wsX6_fault := goodIn_r _ [226, 227, 207, 181, 185, 208, 209, 5, 210, 816, 817, 818, 819, 820, 821, 822, 823, 824, 825, 826, 827, 828, 829, 830, 831, 832, 833, 834, 835, 836, 837, 838] (by decide +kernel) (by decide +kernel)
set_option maxRecDepth 20000 in
theorem gL_law_X6_fault : GoodIn wsL_law (wsV RL 26 RX6 yX6_fault wsX6_fault) := goodIn_app (goodIn_of _ (by decide +kernel)) ggL_law_X6_fault
set_option maxRecDepth 20000 in
theorem ggL_law_X5_lay : GoodIn wsL_law wsX5_lay := goodIn_r _ [231, 15, 19, 34, 25, 232, 125, 126, 127, 14, 128, 42, 129, 130, 124, 40, 131, 132, 133, 134, 135, 136, 137, 138, 139, 140, 141, 142, 143, 144, 145, 146, 147, 148, 149, 150, 151, 152, 153, 154, 155, 18, 156, 47, 157, 158, 159, 160, 161, 2, 162, 163, 164, 165, 166, 167, 168, 169, 170, 171, 172, 173, 174, 175, 176, 233, 234, 235, 24, 236, 237, 809, 810, 811, 812, 813, 814, 815, 839, 840, 841, 842, 843, 844, 845, 846, 847, 848, 849] (by decide +kernel) (by decide +kernel)
set_option maxRecDepth 20000 in
theorem gL_law_X5_lay : GoodIn wsL_law (wsV RL 27 RX5 yX5_lay wsX5_lay) := goodIn_app (goodIn_of _ (by decide +kernel)) ggL_law_X5_lay
set_option maxRecDepth 20000 in
theorem ggL_law_X6_lay : GoodIn wsL_law wsX6_lay := goodIn_r _ [241, 227, 196, 185, 182, 242, 243, 224, 225, 5, 226, 207, 181, 208, 209, 210, 244, 245, 246, 816, 817, 818, 819, 820, 821, 822, 823, 824, 825, 826, 827, 828, 829, 830, 831, 832, 833, 834, 835, 836, 837, 838] (by decide +kernel) (by decide +kernel)
set_option maxRecDepth 20000 in
theorem gL_law_X6_lay : GoodIn wsL_law (wsV RL 30 RX6 yX6_lay wsX6_lay) := goodIn_app (goodIn_of _ (by decide +kernel)) ggL_law_X6_lay
set_option maxRecDepth 20000 in
theorem ggL_law_X5_take : GoodIn wsL_law wsX5_take := goodIn_r _ [250, 31, 25, 19, 251, 252, 2, 253, 254, 161, 162, 255, 256, 257, 33, 258, 65, 259, 260, 261, 262, 263, 70, 69, 264, 265, 266, 267, 268, 269, 270, 271, 272, 273, 274, 275, 276, 277, 278, 279, 280, 281, 24, 282, 53, 283, 237, 284, 285, 286, 287, 288, 169, 170, 18, 171, 172, 47, 173, 174, 175, 176, 289, 290, 291, 292, 293, 294, 295, 296, 297, 167, 154, 155, 156, 298, 158, 159, 160, 809, 810, 811, 812, 813, 814, 815, 861, 862, 863, 864, 865, 866, 867, 847, 848, 849, 845, 846] (by decide +kernel) (by decide +kernel)
set_option maxRecDepth 20000 in
theorem gL_law_X5_take : GoodIn wsL_law (wsV RL 31 RX5 yX5_take wsX5_take) := goodIn_app (goodIn_of _ (by decide +kernel)) ggL_law_X5_take
set_option maxRecDepth 20000 in
theorem ggL_law_X6_take : GoodIn wsL_law wsX6_take := goodIn_r _ [302, 303, 196, 182, 208, 209, 5, 210, 304, 305, 306, 307, 193, 308, 309, 310, 311, 312, 313, 314, 315, 316, 317, 242, 184, 318, 319, 320, 321, 322, 323, 324, 325, 326, 327, 328, 329, 330, 331, 332, 816, 817, 818, 819, 820, 821, 822, 823, 824, 825, 826, 827, 828, 829, 830, 831, 832, 833, 834, 835, 836, 837, 838] (by decide +kernel) (by decide +kernel)
set_option maxRecDepth 20000 in
theorem gL_law_X6_take : GoodIn wsL_law (wsV RL 35 RX6 yX6_take wsX6_take) := goodIn_app (goodIn_of _ (by decide +kernel)) ggL_law_X6_take
set_option maxRecDepth 20000 in
theorem ggL_law_X5_undo : GoodIn wsL_law wsX5_undo := goodIn_r _ [336, 25, 337, 19, 338, 339, 340, 24, 341, 237, 283, 53, 288, 169, 170, 18, 171, 172, 47, 173, 174, 175, 176, 809, 810, 811, 812, 813, 814, 815, 847, 848, 849, 845, 846] (by decide +kernel) (by decide +kernel)
set_option maxRecDepth 20000 in
theorem gL_law_X5_undo : GoodIn wsL_law (wsV RL 36 RX5 yX5_undo wsX5_undo) := goodIn_app (goodIn_of _ (by decide +kernel)) ggL_law_X5_undo
set_option maxRecDepth 20000 in
theorem ggL_law_X6_undo : GoodIn wsL_law wsX6_undo := goodIn_r _ [345, 242, 184, 196, 182, 816, 817, 818, 819, 820, 821, 822, 823, 824, 825, 826, 827, 828, 829, 830, 831, 832, 833, 834, 835, 836, 837, 838] (by decide +kernel) (by decide +kernel)
set_option maxRecDepth 20000 in
theorem gL_law_X6_undo : GoodIn wsL_law (wsV RL 39 RX6 yX6_undo wsX6_undo) := goodIn_app (goodIn_of _ (by decide +kernel)) ggL_law_X6_undo
set_option maxRecDepth 20000 in
theorem ggL_law_X5_keep : GoodIn wsL_law wsX5_keep := goodIn_r _ [349, 20, 19, 232, 168, 169, 170, 18, 171, 172, 47, 173, 174, 175, 176, 809, 810, 811, 812, 813, 814, 815, 845, 846] (by decide +kernel) (by decide +kernel)
set_option maxRecDepth 20000 in
theorem gL_law_X5_keep : GoodIn wsL_law (wsV RL 40 RX5 yX5_keep wsX5_keep) := goodIn_app (goodIn_of _ (by decide +kernel)) ggL_law_X5_keep
set_option maxRecDepth 20000 in
theorem ggL_law_X6_keep : GoodIn wsL_law wsX6_keep := goodIn_r _ [353, 196, 354, 182, 183, 244, 245, 5, 246, 816, 817, 818, 819, 820, 821, 822, 823, 824, 825, 826, 827, 828, 829, 830, 831, 832, 833, 834, 835, 836, 837, 838] (by decide +kernel) (by decide +kernel)
set_option maxRecDepth 20000 in
theorem gL_law_X6_keep : GoodIn wsL_law (wsV RL 43 RX6 yX6_keep wsX6_keep) := goodIn_app (goodIn_of _ (by decide +kernel)) ggL_law_X6_keep
set_option maxRecDepth 20000 in
theorem ggL_law_X5_sign : GoodIn wsL_law wsX5_sign := goodIn_r _ [358, 19, 232, 254, 161, 2, 162, 359, 360, 361, 18, 362, 363, 364, 365, 366, 167, 154, 155, 156, 47, 809, 810, 811, 812, 813, 814, 815, 845, 846] (by decide +kernel) (by decide +kernel)
set_option maxRecDepth 20000 in
theorem gL_law_X5_sign : GoodIn wsL_law (wsV RL 44 RX5 yX5_sign wsX5_sign) := goodIn_app (goodIn_of _ (by decide +kernel)) ggL_law_X5_sign
set_option maxRecDepth 20000 in
theorem ggL_law_X6_sign : GoodIn wsL_law wsX6_sign := goodIn_r _ [370, 196, 182, 208, 209, 5, 210, 816, 817, 818, 819, 820, 821, 822, 823, 824, 825, 826, 827, 828, 829, 830, 831, 832, 833, 834, 835, 836, 837, 838] (by decide +kernel) (by decide +kernel)
set_option maxRecDepth 20000 in
theorem gL_law_X6_sign : GoodIn wsL_law (wsV RL 47 RX6 yX6_sign wsX6_sign) := goodIn_app (goodIn_of _ (by decide +kernel)) ggL_law_X6_sign
set_option maxRecDepth 20000 in
theorem ggL_law_X5_corner : GoodIn wsL_law wsX5_corner := goodIn_r _ [374, 19, 375, 376, 377, 2, 378, 232, 254, 161, 162, 379, 154, 155, 18, 156, 47, 809, 810, 811, 812, 813, 814, 815, 845, 846] (by decide +kernel) (by decide +kernel)
set_option maxRecDepth 20000 in
theorem gL_law_X5_corner : GoodIn wsL_law (wsV RL 48 RX5 yX5_corner wsX5_corner) := goodIn_app (goodIn_of _ (by decide +kernel)) ggL_law_X5_corner
set_option maxRecDepth 20000 in
theorem ggL_law_X6_corner : GoodIn wsL_law wsX6_corner := goodIn_r _ [383, 182, 384, 385, 386, 5, 387, 196, 208, 209, 210, 388, 389, 390, 816, 817, 818, 819, 820, 821, 822, 823, 824, 825, 826, 827, 828, 829, 830, 831, 832, 833, 834, 835, 836, 837, 838] (by decide +kernel) (by decide +kernel)
set_option maxRecDepth 20000 in
theorem gL_law_X6_corner : GoodIn wsL_law (wsV RL 51 RX6 yX6_corner wsX6_corner) := goodIn_app (goodIn_of _ (by decide +kernel)) ggL_law_X6_corner
set_option maxRecDepth 20000 in
theorem ggL_law_X5_height : GoodIn wsL_law wsX5_height := goodIn_r _ [394, 19, 375, 376, 377, 2, 378, 232, 254, 161, 162, 395, 396, 397, 18, 398, 167, 154, 155, 156, 47, 809, 810, 811, 812, 813, 814, 815, 845, 846] (by decide +kernel) (by decide +kernel)
set_option maxRecDepth 20000 in
theorem gL_law_X5_height : GoodIn wsL_law (wsV RL 52 RX5 yX5_height wsX5_height) := goodIn_app (goodIn_of _ (by decide +kernel)) ggL_law_X5_height
set_option maxRecDepth 20000 in
theorem ggL_law_X6_height : GoodIn wsL_law wsX6_height := goodIn_r _ [402, 182, 384, 385, 386, 5, 387, 196, 208, 209, 210, 403, 404, 405, 388, 389, 390, 816, 817, 818, 819, 820, 821, 822, 823, 824, 825, 826, 827, 828, 829, 830, 831, 832, 833, 834, 835, 836, 837, 838] (by decide +kernel) (by decide +kernel)
set_option maxRecDepth 20000 in
theorem gL_law_X6_height : GoodIn wsL_law (wsV RL 55 RX6 yX6_height wsX6_height) := goodIn_app (goodIn_of _ (by decide +kernel)) ggL_law_X6_height
set_option maxRecDepth 20000 in
theorem ggL_law_X5_may : GoodIn wsL_law wsX5_may := goodIn_r _ [409, 19, 410, 411, 412, 2, 413, 232, 254, 161, 162, 414, 415, 416, 18, 417, 418, 396, 397, 398, 167, 154, 155, 156, 47, 809, 810, 811, 812, 813, 814, 815, 845, 846] (by decide +kernel) (by decide +kernel)
set_option maxRecDepth 20000 in
theorem gL_law_X5_may : GoodIn wsL_law (wsV RL 56 RX5 yX5_may wsX5_may) := goodIn_app (goodIn_of _ (by decide +kernel)) ggL_law_X5_may
set_option maxRecDepth 20000 in
theorem ggL_law_X6_may : GoodIn wsL_law wsX6_may := goodIn_r _ [422, 182, 423, 424, 425, 5, 426, 196, 208, 209, 210, 427, 428, 429, 403, 404, 405, 388, 389, 390, 816, 817, 818, 819, 820, 821, 822, 823, 824, 825, 826, 827, 828, 829, 830, 831, 832, 833, 834, 835, 836, 837, 838] (by decide +kernel) (by decide +kernel)
set_option maxRecDepth 20000 in
theorem gL_law_X6_may : GoodIn wsL_law (wsV RL 59 RX6 yX6_may wsX6_may) := goodIn_app (goodIn_of _ (by decide +kernel)) ggL_law_X6_may
set_option maxRecDepth 20000 in
theorem ggL_law_X5_count : GoodIn wsL_law wsX5_count := goodIn_r _ [433, 19, 232, 25, 337, 15, 35, 20, 29, 434, 435, 436, 437, 438, 18, 439, 172, 440, 360, 361, 362, 363, 364, 365, 366, 167, 154, 155, 156, 47, 441, 442, 443, 444, 445, 415, 416, 417, 418, 396, 397, 398, 446, 447, 448, 449, 450, 451, 452, 453, 454, 455, 456, 457, 458, 459, 460, 461, 462, 463, 464, 465, 466, 164, 165, 166, 467, 468, 469, 28, 470, 471, 472, 473, 474, 475, 476, 59, 477, 478, 479, 480, 481, 482, 483, 60, 484, 485, 486, 487, 488, 489, 490, 491, 492, 493, 494, 495, 496, 497, 498, 499, 500, 501, 502, 161, 2, 162, 503, 504, 505, 506, 507, 508, 509, 510, 511, 512, 513, 514, 57, 58, 515, 516, 517, 518, 519, 520, 521, 522, 523, 524, 809, 810, 811, 812, 813, 814, 815, 845, 846, 847, 848, 849, 839, 840, 841, 842, 843, 844, 850, 851, 852, 853, 854, 855, 856, 857, 858, 859, 860] (by decide +kernel) (by decide +kernel)
set_option maxRecDepth 20000 in
theorem gL_law_X5_count : GoodIn wsL_law (wsV RL 60 RX5 yX5_count wsX5_count) := goodIn_app (goodIn_of _ (by decide +kernel)) ggL_law_X5_count
set_option maxRecDepth 20000 in
theorem ggL_law_X6_count : GoodIn wsL_law wsX6_count := goodIn_r _ [528, 196, 242, 207, 354, 529, 530, 531, 5, 532, 182, 403, 404, 405, 388, 389, 390, 423, 424, 425, 426, 208, 209, 210, 427, 428, 429, 533, 534, 535, 536, 537, 538, 539, 540, 541, 542, 543, 544, 545, 546, 547, 548, 549, 550, 192, 551, 552, 553, 554, 188, 189, 190, 555, 556, 557, 558, 559, 560, 561, 562, 563, 564, 565, 566, 567, 568, 569, 570, 571, 572, 573, 816, 817, 818, 819, 820, 821, 822, 823, 824, 825, 826, 827, 828, 829, 830, 831, 832, 833, 834, 835, 836, 837, 838] (by decide +kernel) (by decide +kernel)
set_option maxRecDepth 20000 in
theorem gL_law_X6_count : GoodIn wsL_law (wsV RL 63 RX6 yX6_count wsX6_count) := goodIn_app (goodIn_of _ (by decide +kernel)) ggL_law_X6_count
set_option maxRecDepth 20000 in
theorem ggL_law_X5_flip : GoodIn wsL_law wsX5_flip := goodIn_r _ [577, 19, 25, 410, 411, 412, 2, 413, 232, 254, 161, 162, 414, 415, 416, 18, 417, 418, 396, 397, 398, 167, 154, 155, 156, 47, 279, 280, 281, 24, 282, 53, 283, 237, 284, 285, 286, 287, 288, 169, 170, 171, 172, 173, 174, 175, 176, 578, 579, 580, 581, 445, 298, 158, 159, 160, 395, 809, 810, 811, 812, 813, 814, 815, 845, 846, 847, 848, 849] (by decide +kernel) (by decide +kernel)
set_option maxRecDepth 20000 in
theorem gL_law_X5_flip : GoodIn wsL_law (wsV RL 64 RX5 yX5_flip wsX5_flip) := goodIn_app (goodIn_of _ (by decide +kernel)) ggL_law_X5_flip
set_option maxRecDepth 20000 in
theorem ggL_law_X6_flip : GoodIn wsL_law wsX6_flip := goodIn_r _ [585, 182, 423, 424, 425, 5, 426, 196, 208, 209, 210, 427, 428, 429, 403, 404, 405, 388, 389, 390, 314, 315, 316, 317, 242, 184, 586, 587, 588, 816, 817, 818, 819, 820, 821, 822, 823, 824, 825, 826, 827, 828, 829, 830, 831, 832, 833, 834, 835, 836, 837, 838] (by decide +kernel) (by decide +kernel)
set_option maxRecDepth 20000 in
theorem gL_law_X6_flip : GoodIn wsL_law (wsV RL 67 RX6 yX6_flip wsX6_flip) := goodIn_app (goodIn_of _ (by decide +kernel)) ggL_law_X6_flip
set_option maxRecDepth 20000 in
theorem ggL_law_X5_gyrate : GoodIn wsL_law wsX5_gyrate := goodIn_r _ [592, 25, 19, 254, 161, 2, 162, 279, 280, 281, 24, 282, 53, 283, 237, 284, 285, 286, 287, 288, 169, 170, 18, 171, 172, 47, 173, 174, 175, 176, 593, 594, 595, 596, 597, 598, 599, 600, 445, 415, 416, 417, 418, 396, 397, 398, 167, 154, 155, 156, 601, 579, 580, 581, 298, 158, 159, 160, 809, 810, 811, 812, 813, 814, 815, 847, 848, 849, 845, 846] (by decide +kernel) (by decide +kernel)
set_option maxRecDepth 20000 in
theorem gL_law_X5_gyrate : GoodIn wsL_law (wsV RL 68 RX5 yX5_gyrate wsX5_gyrate) := goodIn_app (goodIn_of _ (by decide +kernel)) ggL_law_X5_gyrate
set_option maxRecDepth 20000 in
theorem ggL_law_X6_gyrate : GoodIn wsL_law wsX6_gyrate := goodIn_r _ [605, 606, 182, 208, 209, 5, 210, 314, 315, 316, 317, 242, 184, 196, 607, 608, 609, 610, 586, 587, 588, 427, 428, 429, 403, 404, 405, 388, 389, 390, 816, 817, 818, 819, 820, 821, 822, 823, 824, 825, 826, 827, 828, 829, 830, 831, 832, 833, 834, 835, 836, 837, 838] (by decide +kernel) (by decide +kernel)
set_option maxRecDepth 20000 in
theorem gL_law_X6_gyrate : GoodIn wsL_law (wsV RL 71 RX6 yX6_gyrate wsX6_gyrate) := goodIn_app (goodIn_of _ (by decide +kernel)) ggL_law_X6_gyrate
set_option maxRecDepth 20000 in
theorem ggL_law_X5_orbit : GoodIn wsL_law wsX5_orbit := goodIn_r _ [614, 21, 19, 168, 169, 170, 18, 171, 172, 47, 173, 174, 175, 176, 593, 594, 595, 596, 597, 598, 599, 600, 445, 415, 416, 417, 418, 396, 397, 398, 167, 154, 155, 156, 601, 579, 580, 581, 298, 158, 159, 160, 615, 616, 617, 618, 619, 620, 286, 621, 809, 810, 811, 812, 813, 814, 815, 845, 846] (by decide +kernel) (by decide +kernel)
set_option maxRecDepth 20000 in
theorem gL_law_X5_orbit : GoodIn wsL_law (wsV RL 72 RX5 yX5_orbit wsX5_orbit) := goodIn_app (goodIn_of _ (by decide +kernel)) ggL_law_X5_orbit
set_option maxRecDepth 20000 in
theorem ggL_law_X6_orbit : GoodIn wsL_law wsX6_orbit := goodIn_r _ [625, 182, 186, 244, 245, 5, 246, 607, 608, 609, 610, 196, 586, 587, 588, 427, 428, 429, 403, 404, 405, 388, 389, 390, 626, 627, 628, 629, 816, 817, 818, 819, 820, 821, 822, 823, 824, 825, 826, 827, 828, 829, 830, 831, 832, 833, 834, 835, 836, 837, 838] (by decide +kernel) (by decide +kernel)
set_option maxRecDepth 20000 in
theorem gL_law_X6_orbit : GoodIn wsL_law (wsV RL 75 RX6 yX6_orbit wsX6_orbit) := goodIn_app (goodIn_of _ (by decide +kernel)) ggL_law_X6_orbit
set_option maxRecDepth 20000 in
theorem ggL_law_X5_apart : GoodIn wsL_law wsX5_apart := goodIn_r _ [633, 19, 20, 634, 635, 636, 2, 637, 232, 615, 616, 617, 18, 618, 172, 619, 620, 286, 621, 167, 154, 155, 156, 47, 809, 810, 811, 812, 813, 814, 815, 845, 846] (by decide +kernel) (by decide +kernel)
set_option maxRecDepth 20000 in
theorem gL_law_X5_apart : GoodIn wsL_law (wsV RL 76 RX5 yX5_apart wsX5_apart) := goodIn_app (goodIn_of _ (by decide +kernel)) ggL_law_X5_apart
set_option maxRecDepth 20000 in
theorem ggL_law_X6_apart : GoodIn wsL_law wsX6_apart := goodIn_r _ [641, 354, 196, 182, 183, 403, 404, 5, 405, 388, 389, 390, 642, 643, 644, 816, 817, 818, 819, 820, 821, 822, 823, 824, 825, 826, 827, 828, 829, 830, 831, 832, 833, 834, 835, 836, 837, 838] (by decide +kernel) (by decide +kernel)
set_option maxRecDepth 20000 in
theorem gL_law_X6_apart : GoodIn wsL_law (wsV RL 79 RX6 yX6_apart wsX6_apart) := goodIn_app (goodIn_of _ (by decide +kernel)) ggL_law_X6_apart
set_option maxRecDepth 20000 in
theorem ggL_law_X5_next : GoodIn wsL_law wsX5_next := goodIn_r _ [648, 19, 232, 20, 634, 635, 636, 2, 637, 649, 650, 651, 18, 652, 445, 415, 416, 417, 418, 396, 397, 398, 167, 154, 155, 156, 47, 653, 654, 655, 656, 809, 810, 811, 812, 813, 814, 815, 845, 846] (by decide +kernel) (by decide +kernel)
set_option maxRecDepth 20000 in
theorem gL_law_X5_next : GoodIn wsL_law (wsV RL 80 RX5 yX5_next wsX5_next) := goodIn_app (goodIn_of _ (by decide +kernel)) ggL_law_X5_next
set_option maxRecDepth 20000 in
theorem ggL_law_X6_next : GoodIn wsL_law wsX6_next := goodIn_r _ [660, 354, 196, 183, 182, 403, 404, 5, 405, 388, 389, 390, 427, 428, 429, 816, 817, 818, 819, 820, 821, 822, 823, 824, 825, 826, 827, 828, 829, 830, 831, 832, 833, 834, 835, 836, 837, 838] (by decide +kernel) (by decide +kernel)
set_option maxRecDepth 20000 in
theorem gL_law_X6_next : GoodIn wsL_law (wsV RL 83 RX6 yX6_next wsX6_next) := goodIn_app (goodIn_of _ (by decide +kernel)) ggL_law_X6_next
set_option maxRecDepth 20000 in
theorem ggL_law_X5_both : GoodIn wsL_law wsX5_both := goodIn_r _ [664, 25, 19, 20, 254, 161, 2, 162, 634, 635, 636, 637, 232, 279, 280, 281, 24, 282, 53, 283, 237, 284, 285, 286, 287, 288, 169, 170, 18, 171, 172, 47, 173, 174, 175, 176, 665, 666, 667, 668, 653, 654, 655, 656, 418, 396, 397, 398, 167, 154, 155, 156, 298, 158, 159, 160, 809, 810, 811, 812, 813, 814, 815, 845, 846, 847, 848, 849] (by decide +kernel) (by decide +kernel)
set_option maxRecDepth 20000 in
theorem gL_law_X5_both : GoodIn wsL_law (wsV RL 84 RX5 yX5_both wsX5_both) := goodIn_app (goodIn_of _ (by decide +kernel)) ggL_law_X5_both
set_option maxRecDepth 20000 in
theorem ggL_law_X6_both : GoodIn wsL_law wsX6_both := goodIn_r _ [672, 354, 196, 182, 183, 187, 208, 209, 5, 210, 403, 404, 405, 388, 389, 390, 314, 315, 316, 317, 242, 184, 816, 817, 818, 819, 820, 821, 822, 823, 824, 825, 826, 827, 828, 829, 830, 831, 832, 833, 834, 835, 836, 837, 838] (by decide +kernel) (by decide +kernel)
set_option maxRecDepth 20000 in
theorem gL_law_X6_both : GoodIn wsL_law (wsV RL 87 RX6 yX6_both wsX6_both) := goodIn_app (goodIn_of _ (by decide +kernel)) ggL_law_X6_both
set_option maxRecDepth 20000 in
theorem ggL_law_X5_turn : GoodIn wsL_law wsX5_turn := goodIn_r _ [676, 25, 19, 21, 254, 161, 2, 162, 279, 280, 281, 24, 282, 53, 283, 237, 284, 285, 286, 287, 288, 169, 170, 18, 171, 172, 47, 173, 174, 175, 176, 168, 677, 678, 679, 680, 681, 682, 683, 684, 440, 360, 361, 362, 363, 364, 365, 366, 167, 154, 155, 156, 298, 158, 159, 160, 685, 686, 687, 688, 809, 810, 811, 812, 813, 814, 815, 847, 848, 849, 845, 846] (by decide +kernel) (by decide +kernel)
set_option maxRecDepth 20000 in
theorem gL_law_X5_turn : GoodIn wsL_law (wsV RL 88 RX5 yX5_turn wsX5_turn) := goodIn_app (goodIn_of _ (by decide +kernel)) ggL_law_X5_turn
set_option maxRecDepth 20000 in
theorem ggL_law_X6_turn : GoodIn wsL_law wsX6_turn := goodIn_r _ [692, 303, 182, 186, 196, 208, 209, 5, 210, 314, 315, 316, 317, 242, 184, 244, 245, 246, 816, 817, 818, 819, 820, 821, 822, 823, 824, 825, 826, 827, 828, 829, 830, 831, 832, 833, 834, 835, 836, 837, 838] (by decide +kernel) (by decide +kernel)
set_option maxRecDepth 20000 in
theorem gL_law_X6_turn : GoodIn wsL_law (wsV RL 91 RX6 yX6_turn wsX6_turn) := goodIn_app (goodIn_of _ (by decide +kernel)) ggL_law_X6_turn
set_option maxRecDepth 20000 in
theorem ggL_law_X5_across : GoodIn wsL_law wsX5_across := goodIn_r _ [696, 19, 232, 254, 161, 2, 162, 697, 459, 460, 18, 461, 363, 364, 365, 366, 167, 154, 155, 156, 47, 809, 810, 811, 812, 813, 814, 815, 845, 846] (by decide +kernel) (by decide +kernel)
set_option maxRecDepth 20000 in
theorem gL_law_X5_across : GoodIn wsL_law (wsV RL 92 RX5 yX5_across wsX5_across) := goodIn_app (goodIn_of _ (by decide +kernel)) ggL_law_X5_across
set_option maxRecDepth 20000 in
theorem ggL_law_X6_across : GoodIn wsL_law wsX6_across := goodIn_r _ [701, 196, 182, 208, 209, 5, 210, 541, 542, 543, 816, 817, 818, 819, 820, 821, 822, 823, 824, 825, 826, 827, 828, 829, 830, 831, 832, 833, 834, 835, 836, 837, 838] (by decide +kernel) (by decide +kernel)
set_option maxRecDepth 20000 in
theorem gL_law_X6_across : GoodIn wsL_law (wsV RL 95 RX6 yX6_across wsX6_across) := goodIn_app (goodIn_of _ (by decide +kernel)) ggL_law_X6_across
set_option maxRecDepth 20000 in
theorem ggL_law_X5_down : GoodIn wsL_law wsX5_down := goodIn_r _ [705, 19, 232, 254, 161, 2, 162, 706, 463, 464, 18, 465, 466, 164, 165, 166, 167, 154, 155, 156, 47, 809, 810, 811, 812, 813, 814, 815, 845, 846] (by decide +kernel) (by decide +kernel)
set_option maxRecDepth 20000 in
theorem gL_law_X5_down : GoodIn wsL_law (wsV RL 96 RX5 yX5_down wsX5_down) := goodIn_app (goodIn_of _ (by decide +kernel)) ggL_law_X5_down
set_option maxRecDepth 20000 in
theorem ggL_law_X6_down : GoodIn wsL_law wsX6_down := goodIn_r _ [710, 196, 182, 208, 209, 5, 210, 544, 545, 546, 816, 817, 818, 819, 820, 821, 822, 823, 824, 825, 826, 827, 828, 829, 830, 831, 832, 833, 834, 835, 836, 837, 838] (by decide +kernel) (by decide +kernel)
set_option maxRecDepth 20000 in
theorem gL_law_X6_down : GoodIn wsL_law (wsV RL 99 RX6 yX6_down wsX6_down) := goodIn_app (goodIn_of _ (by decide +kernel)) ggL_law_X6_down
set_option maxRecDepth 20000 in
theorem ggL_law_X5_partner : GoodIn wsL_law wsX5_partner := goodIn_r _ [714, 19, 232, 29, 715, 254, 161, 2, 162, 467, 468, 469, 28, 470, 471, 472, 473, 474, 475, 476, 59, 477, 463, 464, 18, 465, 466, 164, 165, 166, 167, 154, 155, 156, 47, 478, 459, 460, 461, 363, 364, 365, 366, 479, 480, 481, 482, 483, 60, 484, 485, 486, 487, 488, 489, 490, 491, 492, 493, 494, 495, 496, 497, 498, 499, 500, 501, 502, 503, 504, 505, 506, 507, 508, 509, 510, 511, 512, 513, 514, 57, 58, 515, 516, 517, 518, 519, 520, 521, 522, 523, 524, 809, 810, 811, 812, 813, 814, 815, 845, 846, 850, 851, 852, 853, 854, 855, 856, 857, 858, 859, 860] (by decide +kernel) (by decide +kernel)
set_option maxRecDepth 20000 in
theorem gL_law_X5_partner : GoodIn wsL_law (wsV RL 100 RX5 yX5_partner wsX5_partner) := goodIn_app (goodIn_of _ (by decide +kernel)) ggL_law_X5_partner
set_option maxRecDepth 20000 in
theorem ggL_law_X6_partner : GoodIn wsL_law wsX6_partner := goodIn_r _ [719, 182, 196, 720, 721, 722, 5, 723, 208, 209, 210, 551, 552, 553, 554, 188, 189, 190, 555, 556, 557, 544, 545, 546, 541, 542, 543, 558, 559, 560, 561, 562, 563, 564, 565, 566, 567, 568, 569, 192, 816, 817, 818, 819, 820, 821, 822, 823, 824, 825, 826, 827, 828, 829, 830, 831, 832, 833, 834, 835, 836, 837, 838] (by decide +kernel) (by decide +kernel)
set_option maxRecDepth 20000 in
theorem gL_law_X6_partner : GoodIn wsL_law (wsV RL 103 RX6 yX6_partner wsX6_partner) := goodIn_app (goodIn_of _ (by decide +kernel)) ggL_law_X6_partner
set_option maxRecDepth 20000 in
theorem ggL_law_X5_line : GoodIn wsL_law wsX5_line := goodIn_r _ [727, 19, 232, 29, 728, 254, 161, 2, 162, 467, 468, 469, 28, 470, 471, 472, 473, 474, 475, 476, 59, 477, 463, 464, 18, 465, 466, 164, 165, 166, 167, 154, 155, 156, 47, 478, 459, 460, 461, 363, 364, 365, 366, 479, 480, 481, 482, 483, 60, 484, 485, 486, 487, 488, 489, 490, 491, 492, 493, 494, 495, 496, 497, 498, 499, 500, 501, 502, 503, 504, 505, 506, 507, 508, 509, 510, 511, 512, 513, 514, 57, 58, 515, 516, 517, 518, 519, 520, 521, 522, 523, 524, 809, 810, 811, 812, 813, 814, 815, 845, 846, 850, 851, 852, 853, 854, 855, 856, 857, 858, 859, 860] (by decide +kernel) (by decide +kernel)
set_option maxRecDepth 20000 in
theorem gL_law_X5_line : GoodIn wsL_law (wsV RL 104 RX5 yX5_line wsX5_line) := goodIn_app (goodIn_of _ (by decide +kernel)) ggL_law_X5_line
set_option maxRecDepth 20000 in
theorem ggL_law_X6_line : GoodIn wsL_law wsX6_line := goodIn_r _ [732, 182, 196, 565, 720, 721, 722, 5, 723, 208, 209, 210, 551, 552, 553, 554, 188, 189, 190, 555, 556, 557, 544, 545, 546, 541, 542, 543, 558, 559, 560, 561, 562, 563, 564, 566, 567, 568, 569, 192, 816, 817, 818, 819, 820, 821, 822, 823, 824, 825, 826, 827, 828, 829, 830, 831, 832, 833, 834, 835, 836, 837, 838] (by decide +kernel) (by decide +kernel)
set_option maxRecDepth 20000 in
theorem gL_law_X6_line : GoodIn wsL_law (wsV RL 107 RX6 yX6_line wsX6_line) := goodIn_app (goodIn_of _ (by decide +kernel)) ggL_law_X6_line
set_option maxRecDepth 20000 in
theorem ggL_law_X5_rank : GoodIn wsL_law wsX5_rank := goodIn_r _ [736, 31, 19, 232, 737, 738, 739, 33, 740, 69, 259, 260, 261, 262, 263, 65, 70, 264, 265, 266, 267, 268, 269, 270, 271, 272, 273, 274, 275, 276, 277, 278, 741, 742, 743, 18, 744, 172, 466, 164, 165, 166, 167, 154, 155, 156, 47, 809, 810, 811, 812, 813, 814, 815, 845, 846, 861, 862, 863, 864, 865, 866, 867] (by decide +kernel) (by decide +kernel)
set_option maxRecDepth 20000 in
theorem gL_law_X5_rank : GoodIn wsL_law (wsV RL 108 RX5 yX5_rank wsX5_rank) := goodIn_app (goodIn_of _ (by decide +kernel)) ggL_law_X5_rank
set_option maxRecDepth 20000 in
theorem ggL_law_X6_rank : GoodIn wsL_law wsX6_rank := goodIn_r _ [748, 196, 182, 304, 305, 306, 5, 307, 193, 308, 309, 310, 311, 312, 313, 208, 209, 210, 326, 327, 328, 329, 330, 331, 332, 816, 817, 818, 819, 820, 821, 822, 823, 824, 825, 826, 827, 828, 829, 830, 831, 832, 833, 834, 835, 836, 837, 838] (by decide +kernel) (by decide +kernel)
set_option maxRecDepth 20000 in
theorem gL_law_X6_rank : GoodIn wsL_law (wsV RL 111 RX6 yX6_rank wsX6_rank) := goodIn_app (goodIn_of _ (by decide +kernel)) ggL_law_X6_rank
set_option maxRecDepth 20000 in
theorem ggL_law_X5_many : GoodIn wsL_law wsX5_many := goodIn_r _ [752, 31, 251, 252, 2, 253, 254, 161, 162, 255, 256, 257, 33, 258, 65, 259, 260, 261, 262, 263, 70, 69, 264, 265, 266, 267, 268, 269, 270, 271, 272, 273, 274, 275, 276, 277, 278, 753, 754, 755, 756, 809, 810, 811, 812, 813, 814, 815, 861, 862, 863, 864, 865, 866, 867] (by decide +kernel) (by decide +kernel)
set_option maxRecDepth 20000 in
theorem gL_law_X5_many : GoodIn wsL_law (wsV RL 112 RX5 yX5_many wsX5_many) := goodIn_app (goodIn_of _ (by decide +kernel)) ggL_law_X5_many
set_option maxRecDepth 20000 in
theorem ggL_law_X6_many : GoodIn wsL_law wsX6_many := goodIn_r _ [760, 303, 761, 193, 208, 209, 5, 210, 304, 305, 306, 307, 308, 309, 310, 311, 312, 313, 816, 817, 818, 819, 820, 821, 822, 823, 824, 825, 826, 827, 828, 829, 830, 831, 832, 833, 834, 835, 836, 837, 838] (by decide +kernel) (by decide +kernel)
set_option maxRecDepth 20000 in
theorem gL_law_X6_many : GoodIn wsL_law (wsV RL 115 RX6 yX6_many wsX6_many) := goodIn_app (goodIn_of _ (by decide +kernel)) ggL_law_X6_many
set_option maxRecDepth 20000 in
theorem ggL_law_X5_alike : GoodIn wsL_law wsX5_alike := goodIn_r _ [765, 19, 232, 31, 29, 21, 766, 767, 768, 769, 33, 770, 771, 772, 256, 257, 258, 65, 259, 260, 261, 262, 263, 70, 69, 264, 265, 266, 267, 268, 269, 270, 271, 272, 273, 274, 275, 276, 277, 278, 773, 290, 291, 292, 293, 294, 295, 296, 18, 297, 172, 167, 154, 155, 156, 47, 298, 158, 159, 160, 774, 468, 469, 28, 470, 471, 472, 473, 474, 475, 476, 59, 477, 463, 464, 465, 466, 164, 165, 166, 478, 459, 460, 461, 363, 364, 365, 366, 479, 480, 481, 482, 483, 60, 484, 485, 486, 487, 488, 489, 490, 491, 492, 493, 494, 495, 496, 497, 498, 499, 500, 501, 502, 161, 2, 162, 503, 504, 505, 506, 507, 508, 509, 510, 511, 512, 513, 514, 57, 58, 515, 516, 517, 518, 519, 520, 521, 522, 523, 524, 775, 776, 777, 778, 779, 780, 781, 782, 783, 67, 68, 784, 785, 786, 787, 467, 788, 789, 254, 809, 810, 811, 812, 813, 814, 815, 845, 846, 861, 862, 863, 864, 865, 866, 867, 850, 851, 852, 853, 854, 855, 856, 857, 858, 859, 860] (by decide +kernel) (by decide +kernel)
set_option maxRecDepth 20000 in
theorem gL_law_X5_alike : GoodIn wsL_law (wsV RL 116 RX5 yX5_alike wsX5_alike) := goodIn_app (goodIn_of _ (by decide +kernel)) ggL_law_X5_alike
set_option maxRecDepth 20000 in
theorem ggL_law_X6_alike : GoodIn wsL_law wsX6_alike := goodIn_r _ [793, 196, 182, 186, 794, 795, 796, 5, 797, 798, 551, 552, 553, 554, 188, 189, 190, 555, 556, 557, 544, 545, 546, 541, 542, 543, 558, 559, 560, 561, 562, 563, 564, 565, 566, 567, 568, 569, 192, 208, 209, 210, 304, 305, 306, 307, 193, 308, 309, 310, 311, 312, 313, 318, 319, 320, 321, 322, 323, 324, 325, 326, 327, 328, 329, 330, 331, 332, 816, 817, 818, 819, 820, 821, 822, 823, 824, 825, 826, 827, 828, 829, 830, 831, 832, 833, 834, 835, 836, 837, 838] (by decide +kernel) (by decide +kernel)
set_option maxRecDepth 20000 in
theorem gL_law_X6_alike : GoodIn wsL_law (wsV RL 119 RX6 yX6_alike wsX6_alike) := goodIn_app (goodIn_of _ (by decide +kernel)) ggL_law_X6_alike
set_option maxRecDepth 20000 in
theorem ggL_law_X5_ways : GoodIn wsL_law wsX5_ways := goodIn_r _ [802, 31, 29, 21, 803, 766, 254, 161, 2, 162, 767, 768, 769, 33, 770, 771, 772, 256, 257, 258, 65, 259, 260, 261, 262, 263, 70, 69, 264, 265, 266, 267, 268, 269, 270, 271, 272, 273, 274, 275, 276, 277, 278, 773, 290, 291, 292, 293, 294, 295, 296, 18, 297, 172, 167, 154, 155, 156, 47, 298, 158, 159, 160, 774, 468, 469, 28, 470, 471, 472, 473, 474, 475, 476, 59, 477, 463, 464, 465, 466, 164, 165, 166, 478, 459, 460, 461, 363, 364, 365, 366, 479, 480, 481, 482, 483, 60, 484, 485, 486, 487, 488, 489, 490, 491, 492, 493, 494, 495, 496, 497, 498, 499, 500, 501, 502, 503, 504, 505, 506, 507, 508, 509, 510, 511, 512, 513, 514, 57, 58, 515, 516, 517, 518, 519, 520, 521, 522, 523, 524, 775, 776, 777, 778, 779, 780, 781, 782, 783, 67, 68, 784, 785, 786, 787, 809, 810, 811, 812, 813, 814, 815, 861, 862, 863, 864, 865, 866, 867, 845, 846, 850, 851, 852, 853, 854, 855, 856, 857, 858, 859, 860] (by decide +kernel) (by decide +kernel)
set_option maxRecDepth 20000 in
theorem gL_law_X5_ways : GoodIn wsL_law (wsV RL 120 RX5 yX5_ways wsX5_ways) := goodIn_app (goodIn_of _ (by decide +kernel)) ggL_law_X5_ways
set_option maxRecDepth 20000 in
theorem ggL_law_X6_ways : GoodIn wsL_law wsX6_ways := goodIn_r _ [807, 808, 186, 194, 195, 208, 209, 5, 210, 304, 305, 306, 307, 193, 308, 309, 310, 311, 312, 313, 318, 319, 320, 321, 322, 323, 324, 325, 326, 327, 328, 329, 330, 331, 332, 794, 795, 796, 797, 798, 551, 552, 553, 554, 188, 189, 190, 555, 556, 557, 544, 545, 546, 541, 542, 543, 558, 559, 560, 561, 562, 563, 564, 565, 566, 567, 568, 569, 192, 816, 817, 818, 819, 820, 821, 822, 823, 824, 825, 826, 827, 828, 829, 830, 831, 832, 833, 834, 835, 836, 837, 838] (by decide +kernel) (by decide +kernel)
set_option maxRecDepth 20000 in
theorem gL_law_X6_ways : GoodIn wsL_law (wsV RL 123 RX6 yX6_ways wsX6_ways) := goodIn_app (goodIn_of _ (by decide +kernel)) ggL_law_X6_ways
theorem dL_law_0 : decode cL_law 0 = .ok (.new 7, 3) := by decide +kernel
theorem dL_law_3 : decode cL_law 3 = .ok (.dup, 1) := by decide +kernel
theorem dL_law_4 : decode cL_law 4 = .ok (.invokespecial 9, 3) := by decide +kernel
theorem dL_law_7 : decode cL_law 7 = .ok (.astore_n 1, 1) := by decide +kernel
theorem dL_law_8 : decode cL_law 8 = .ok (.new 10, 3) := by decide +kernel
theorem dL_law_11 : decode cL_law 11 = .ok (.dup, 1) := by decide +kernel
theorem dL_law_12 : decode cL_law 12 = .ok (.invokespecial 12, 3) := by decide +kernel
theorem dL_law_15 : decode cL_law 15 = .ok (.astore_n 2, 1) := by decide +kernel
theorem dL_law_16 : decode cL_law 16 = .ok (.iconst 0, 1) := by decide +kernel
theorem dL_law_17 : decode cL_law 17 = .ok (.istore_n 3, 1) := by decide +kernel
theorem dL_law_18 : decode cL_law 18 = .ok (.iload_n 3, 1) := by decide +kernel
theorem dL_law_19 : decode cL_law 19 = .ok (.aload_n 0, 1) := by decide +kernel
theorem dL_law_20 : decode cL_law 20 = .ok (.arraylength, 1) := by decide +kernel
theorem dL_law_21 : decode cL_law 21 = .ok (.iconst 3, 1) := by decide +kernel
theorem dL_law_22 : decode cL_law 22 = .ok (.isub, 1) := by decide +kernel
theorem dL_law_23 : decode cL_law 23 = .ok (.if_icmp .gt 760, 3) := by decide +kernel
theorem dL_law_26 : decode cL_law 26 = .ok (.aload_n 0, 1) := by decide +kernel
theorem dL_law_27 : decode cL_law 27 = .ok (.iload_n 3, 1) := by decide +kernel
theorem dL_law_28 : decode cL_law 28 = .ok (.iaload, 1) := by decide +kernel
theorem dL_law_29 : decode cL_law 29 = .ok (.bipush 31, 2) := by decide +kernel
theorem dL_law_31 : decode cL_law 31 = .ok (.iand, 1) := by decide +kernel
theorem dL_law_32 : decode cL_law 32 = .ok (.tableswitch 745 0 26 #[124, 147, 160, 173, 186, 219, 232, 245, 278, 311, 344, 377, 400, 433, 456, 469, 482, 495, 518, 541, 574, 607, 630, 653, 666, 699, 712], 124) := by decide +kernel
theorem dL_law_156 : decode cL_law 156 = .ok (.aload_n 1, 1) := by decide +kernel
theorem dL_law_157 : decode cL_law 157 = .ok (.aload_n 0, 1) := by decide +kernel
theorem dL_law_158 : decode cL_law 158 = .ok (.iload_n 3, 1) := by decide +kernel
theorem dL_law_159 : decode cL_law 159 = .ok (.iconst 1, 1) := by decide +kernel
theorem dL_law_160 : decode cL_law 160 = .ok (.iadd, 1) := by decide +kernel
theorem dL_law_161 : decode cL_law 161 = .ok (.iaload, 1) := by decide +kernel
theorem dL_law_162 : decode cL_law 162 = .ok (.invokevirtual 13, 3) := by decide +kernel
theorem dL_law_165 : decode cL_law 165 = .ok (.aload_n 2, 1) := by decide +kernel
theorem dL_law_166 : decode cL_law 166 = .ok (.aload_n 0, 1) := by decide +kernel
theorem dL_law_167 : decode cL_law 167 = .ok (.iload_n 3, 1) := by decide +kernel
theorem dL_law_168 : decode cL_law 168 = .ok (.iconst 1, 1) := by decide +kernel
theorem dL_law_169 : decode cL_law 169 = .ok (.iadd, 1) := by decide +kernel
theorem dL_law_170 : decode cL_law 170 = .ok (.iaload, 1) := by decide +kernel
theorem dL_law_171 : decode cL_law 171 = .ok (.invokevirtual 17, 3) := by decide +kernel
theorem dL_law_174 : decode cL_law 174 = .ok (.if_icmp .eq 603, 3) := by decide +kernel
theorem dL_law_177 : decode cL_law 177 = .ok (.iconst 0, 1) := by decide +kernel
theorem dL_law_178 : decode cL_law 178 = .ok (.ireturn, 1) := by decide +kernel
theorem dL_law_179 : decode cL_law 179 = .ok (.aload_n 1, 1) := by decide +kernel
theorem dL_law_180 : decode cL_law 180 = .ok (.invokevirtual 18, 3) := by decide +kernel
theorem dL_law_183 : decode cL_law 183 = .ok (.aload_n 2, 1) := by decide +kernel
theorem dL_law_184 : decode cL_law 184 = .ok (.invokevirtual 22, 3) := by decide +kernel
theorem dL_law_187 : decode cL_law 187 = .ok (.if_icmp .eq 590, 3) := by decide +kernel
theorem dL_law_190 : decode cL_law 190 = .ok (.iconst 0, 1) := by decide +kernel
theorem dL_law_191 : decode cL_law 191 = .ok (.ireturn, 1) := by decide +kernel
theorem dL_law_192 : decode cL_law 192 = .ok (.aload_n 1, 1) := by decide +kernel
theorem dL_law_193 : decode cL_law 193 = .ok (.invokevirtual 23, 3) := by decide +kernel
theorem dL_law_196 : decode cL_law 196 = .ok (.aload_n 2, 1) := by decide +kernel
theorem dL_law_197 : decode cL_law 197 = .ok (.invokevirtual 26, 3) := by decide +kernel
theorem dL_law_200 : decode cL_law 200 = .ok (.if_icmp .eq 577, 3) := by decide +kernel
theorem dL_law_203 : decode cL_law 203 = .ok (.iconst 0, 1) := by decide +kernel
theorem dL_law_204 : decode cL_law 204 = .ok (.ireturn, 1) := by decide +kernel
theorem dL_law_205 : decode cL_law 205 = .ok (.aload_n 1, 1) := by decide +kernel
theorem dL_law_206 : decode cL_law 206 = .ok (.invokevirtual 27, 3) := by decide +kernel
theorem dL_law_209 : decode cL_law 209 = .ok (.aload_n 2, 1) := by decide +kernel
theorem dL_law_210 : decode cL_law 210 = .ok (.invokevirtual 30, 3) := by decide +kernel
theorem dL_law_213 : decode cL_law 213 = .ok (.if_icmp .eq 564, 3) := by decide +kernel
theorem dL_law_216 : decode cL_law 216 = .ok (.iconst 0, 1) := by decide +kernel
theorem dL_law_217 : decode cL_law 217 = .ok (.ireturn, 1) := by decide +kernel
theorem dL_law_218 : decode cL_law 218 = .ok (.aload_n 1, 1) := by decide +kernel
theorem dL_law_219 : decode cL_law 219 = .ok (.aload_n 0, 1) := by decide +kernel
theorem dL_law_220 : decode cL_law 220 = .ok (.iload_n 3, 1) := by decide +kernel
theorem dL_law_221 : decode cL_law 221 = .ok (.iconst 1, 1) := by decide +kernel
theorem dL_law_222 : decode cL_law 222 = .ok (.iadd, 1) := by decide +kernel
theorem dL_law_223 : decode cL_law 223 = .ok (.iaload, 1) := by decide +kernel
theorem dL_law_224 : decode cL_law 224 = .ok (.aload_n 0, 1) := by decide +kernel
theorem dL_law_225 : decode cL_law 225 = .ok (.iload_n 3, 1) := by decide +kernel
theorem dL_law_226 : decode cL_law 226 = .ok (.iconst 2, 1) := by decide +kernel
theorem dL_law_227 : decode cL_law 227 = .ok (.iadd, 1) := by decide +kernel
theorem dL_law_228 : decode cL_law 228 = .ok (.iaload, 1) := by decide +kernel
theorem dL_law_229 : decode cL_law 229 = .ok (.invokevirtual 31, 3) := by decide +kernel
theorem dL_law_232 : decode cL_law 232 = .ok (.aload_n 2, 1) := by decide +kernel
theorem dL_law_233 : decode cL_law 233 = .ok (.aload_n 0, 1) := by decide +kernel
theorem dL_law_234 : decode cL_law 234 = .ok (.iload_n 3, 1) := by decide +kernel
theorem dL_law_235 : decode cL_law 235 = .ok (.iconst 1, 1) := by decide +kernel
theorem dL_law_236 : decode cL_law 236 = .ok (.iadd, 1) := by decide +kernel
theorem dL_law_237 : decode cL_law 237 = .ok (.iaload, 1) := by decide +kernel
theorem dL_law_238 : decode cL_law 238 = .ok (.aload_n 0, 1) := by decide +kernel
theorem dL_law_239 : decode cL_law 239 = .ok (.iload_n 3, 1) := by decide +kernel
theorem dL_law_240 : decode cL_law 240 = .ok (.iconst 2, 1) := by decide +kernel
theorem dL_law_241 : decode cL_law 241 = .ok (.iadd, 1) := by decide +kernel
theorem dL_law_242 : decode cL_law 242 = .ok (.iaload, 1) := by decide +kernel
theorem dL_law_243 : decode cL_law 243 = .ok (.invokevirtual 35, 3) := by decide +kernel
theorem dL_law_246 : decode cL_law 246 = .ok (.if_icmp .eq 531, 3) := by decide +kernel
theorem dL_law_249 : decode cL_law 249 = .ok (.iconst 0, 1) := by decide +kernel
theorem dL_law_250 : decode cL_law 250 = .ok (.ireturn, 1) := by decide +kernel
theorem dL_law_251 : decode cL_law 251 = .ok (.aload_n 1, 1) := by decide +kernel
theorem dL_law_252 : decode cL_law 252 = .ok (.invokevirtual 36, 3) := by decide +kernel
theorem dL_law_255 : decode cL_law 255 = .ok (.aload_n 2, 1) := by decide +kernel
theorem dL_law_256 : decode cL_law 256 = .ok (.invokevirtual 39, 3) := by decide +kernel
theorem dL_law_259 : decode cL_law 259 = .ok (.if_icmp .eq 518, 3) := by decide +kernel
theorem dL_law_262 : decode cL_law 262 = .ok (.iconst 0, 1) := by decide +kernel
theorem dL_law_263 : decode cL_law 263 = .ok (.ireturn, 1) := by decide +kernel
theorem dL_law_264 : decode cL_law 264 = .ok (.aload_n 1, 1) := by decide +kernel
theorem dL_law_265 : decode cL_law 265 = .ok (.invokevirtual 40, 3) := by decide +kernel
theorem dL_law_268 : decode cL_law 268 = .ok (.aload_n 2, 1) := by decide +kernel
theorem dL_law_269 : decode cL_law 269 = .ok (.invokevirtual 43, 3) := by decide +kernel
theorem dL_law_272 : decode cL_law 272 = .ok (.if_icmp .eq 505, 3) := by decide +kernel
theorem dL_law_275 : decode cL_law 275 = .ok (.iconst 0, 1) := by decide +kernel
theorem dL_law_276 : decode cL_law 276 = .ok (.ireturn, 1) := by decide +kernel
theorem dL_law_277 : decode cL_law 277 = .ok (.aload_n 1, 1) := by decide +kernel
theorem dL_law_278 : decode cL_law 278 = .ok (.aload_n 0, 1) := by decide +kernel
theorem dL_law_279 : decode cL_law 279 = .ok (.iload_n 3, 1) := by decide +kernel
theorem dL_law_280 : decode cL_law 280 = .ok (.iconst 1, 1) := by decide +kernel
theorem dL_law_281 : decode cL_law 281 = .ok (.iadd, 1) := by decide +kernel
theorem dL_law_282 : decode cL_law 282 = .ok (.iaload, 1) := by decide +kernel
theorem dL_law_283 : decode cL_law 283 = .ok (.aload_n 0, 1) := by decide +kernel
theorem dL_law_284 : decode cL_law 284 = .ok (.iload_n 3, 1) := by decide +kernel
theorem dL_law_285 : decode cL_law 285 = .ok (.iconst 2, 1) := by decide +kernel
theorem dL_law_286 : decode cL_law 286 = .ok (.iadd, 1) := by decide +kernel
theorem dL_law_287 : decode cL_law 287 = .ok (.iaload, 1) := by decide +kernel
theorem dL_law_288 : decode cL_law 288 = .ok (.invokevirtual 44, 3) := by decide +kernel
theorem dL_law_291 : decode cL_law 291 = .ok (.aload_n 2, 1) := by decide +kernel
theorem dL_law_292 : decode cL_law 292 = .ok (.aload_n 0, 1) := by decide +kernel
theorem dL_law_293 : decode cL_law 293 = .ok (.iload_n 3, 1) := by decide +kernel
theorem dL_law_294 : decode cL_law 294 = .ok (.iconst 1, 1) := by decide +kernel
theorem dL_law_295 : decode cL_law 295 = .ok (.iadd, 1) := by decide +kernel
theorem dL_law_296 : decode cL_law 296 = .ok (.iaload, 1) := by decide +kernel
theorem dL_law_297 : decode cL_law 297 = .ok (.aload_n 0, 1) := by decide +kernel
theorem dL_law_298 : decode cL_law 298 = .ok (.iload_n 3, 1) := by decide +kernel
theorem dL_law_299 : decode cL_law 299 = .ok (.iconst 2, 1) := by decide +kernel
theorem dL_law_300 : decode cL_law 300 = .ok (.iadd, 1) := by decide +kernel
theorem dL_law_301 : decode cL_law 301 = .ok (.iaload, 1) := by decide +kernel
theorem dL_law_302 : decode cL_law 302 = .ok (.invokevirtual 47, 3) := by decide +kernel
theorem dL_law_305 : decode cL_law 305 = .ok (.if_icmp .eq 472, 3) := by decide +kernel
theorem dL_law_308 : decode cL_law 308 = .ok (.iconst 0, 1) := by decide +kernel
theorem dL_law_309 : decode cL_law 309 = .ok (.ireturn, 1) := by decide +kernel
theorem dL_law_310 : decode cL_law 310 = .ok (.aload_n 1, 1) := by decide +kernel
theorem dL_law_311 : decode cL_law 311 = .ok (.aload_n 0, 1) := by decide +kernel
theorem dL_law_312 : decode cL_law 312 = .ok (.iload_n 3, 1) := by decide +kernel
theorem dL_law_313 : decode cL_law 313 = .ok (.iconst 1, 1) := by decide +kernel
theorem dL_law_314 : decode cL_law 314 = .ok (.iadd, 1) := by decide +kernel
theorem dL_law_315 : decode cL_law 315 = .ok (.iaload, 1) := by decide +kernel
theorem dL_law_316 : decode cL_law 316 = .ok (.aload_n 0, 1) := by decide +kernel
theorem dL_law_317 : decode cL_law 317 = .ok (.iload_n 3, 1) := by decide +kernel
theorem dL_law_318 : decode cL_law 318 = .ok (.iconst 2, 1) := by decide +kernel
theorem dL_law_319 : decode cL_law 319 = .ok (.iadd, 1) := by decide +kernel
theorem dL_law_320 : decode cL_law 320 = .ok (.iaload, 1) := by decide +kernel
theorem dL_law_321 : decode cL_law 321 = .ok (.invokevirtual 48, 3) := by decide +kernel
theorem dL_law_324 : decode cL_law 324 = .ok (.aload_n 2, 1) := by decide +kernel
theorem dL_law_325 : decode cL_law 325 = .ok (.aload_n 0, 1) := by decide +kernel
theorem dL_law_326 : decode cL_law 326 = .ok (.iload_n 3, 1) := by decide +kernel
theorem dL_law_327 : decode cL_law 327 = .ok (.iconst 1, 1) := by decide +kernel
theorem dL_law_328 : decode cL_law 328 = .ok (.iadd, 1) := by decide +kernel
theorem dL_law_329 : decode cL_law 329 = .ok (.iaload, 1) := by decide +kernel
theorem dL_law_330 : decode cL_law 330 = .ok (.aload_n 0, 1) := by decide +kernel
theorem dL_law_331 : decode cL_law 331 = .ok (.iload_n 3, 1) := by decide +kernel
theorem dL_law_332 : decode cL_law 332 = .ok (.iconst 2, 1) := by decide +kernel
theorem dL_law_333 : decode cL_law 333 = .ok (.iadd, 1) := by decide +kernel
theorem dL_law_334 : decode cL_law 334 = .ok (.iaload, 1) := by decide +kernel
theorem dL_law_335 : decode cL_law 335 = .ok (.invokevirtual 51, 3) := by decide +kernel
theorem dL_law_338 : decode cL_law 338 = .ok (.if_icmp .eq 439, 3) := by decide +kernel
theorem dL_law_341 : decode cL_law 341 = .ok (.iconst 0, 1) := by decide +kernel
theorem dL_law_342 : decode cL_law 342 = .ok (.ireturn, 1) := by decide +kernel
theorem dL_law_343 : decode cL_law 343 = .ok (.aload_n 1, 1) := by decide +kernel
theorem dL_law_344 : decode cL_law 344 = .ok (.aload_n 0, 1) := by decide +kernel
theorem dL_law_345 : decode cL_law 345 = .ok (.iload_n 3, 1) := by decide +kernel
theorem dL_law_346 : decode cL_law 346 = .ok (.iconst 1, 1) := by decide +kernel
theorem dL_law_347 : decode cL_law 347 = .ok (.iadd, 1) := by decide +kernel
theorem dL_law_348 : decode cL_law 348 = .ok (.iaload, 1) := by decide +kernel
theorem dL_law_349 : decode cL_law 349 = .ok (.aload_n 0, 1) := by decide +kernel
theorem dL_law_350 : decode cL_law 350 = .ok (.iload_n 3, 1) := by decide +kernel
theorem dL_law_351 : decode cL_law 351 = .ok (.iconst 2, 1) := by decide +kernel
theorem dL_law_352 : decode cL_law 352 = .ok (.iadd, 1) := by decide +kernel
theorem dL_law_353 : decode cL_law 353 = .ok (.iaload, 1) := by decide +kernel
theorem dL_law_354 : decode cL_law 354 = .ok (.invokevirtual 52, 3) := by decide +kernel
theorem dL_law_357 : decode cL_law 357 = .ok (.aload_n 2, 1) := by decide +kernel
theorem dL_law_358 : decode cL_law 358 = .ok (.aload_n 0, 1) := by decide +kernel
theorem dL_law_359 : decode cL_law 359 = .ok (.iload_n 3, 1) := by decide +kernel
theorem dL_law_360 : decode cL_law 360 = .ok (.iconst 1, 1) := by decide +kernel
theorem dL_law_361 : decode cL_law 361 = .ok (.iadd, 1) := by decide +kernel
theorem dL_law_362 : decode cL_law 362 = .ok (.iaload, 1) := by decide +kernel
theorem dL_law_363 : decode cL_law 363 = .ok (.aload_n 0, 1) := by decide +kernel
theorem dL_law_364 : decode cL_law 364 = .ok (.iload_n 3, 1) := by decide +kernel
theorem dL_law_365 : decode cL_law 365 = .ok (.iconst 2, 1) := by decide +kernel
theorem dL_law_366 : decode cL_law 366 = .ok (.iadd, 1) := by decide +kernel
theorem dL_law_367 : decode cL_law 367 = .ok (.iaload, 1) := by decide +kernel
theorem dL_law_368 : decode cL_law 368 = .ok (.invokevirtual 55, 3) := by decide +kernel
theorem dL_law_371 : decode cL_law 371 = .ok (.if_icmp .eq 406, 3) := by decide +kernel
theorem dL_law_374 : decode cL_law 374 = .ok (.iconst 0, 1) := by decide +kernel
theorem dL_law_375 : decode cL_law 375 = .ok (.ireturn, 1) := by decide +kernel
theorem dL_law_376 : decode cL_law 376 = .ok (.aload_n 1, 1) := by decide +kernel
theorem dL_law_377 : decode cL_law 377 = .ok (.aload_n 0, 1) := by decide +kernel
theorem dL_law_378 : decode cL_law 378 = .ok (.iload_n 3, 1) := by decide +kernel
theorem dL_law_379 : decode cL_law 379 = .ok (.iconst 1, 1) := by decide +kernel
theorem dL_law_380 : decode cL_law 380 = .ok (.iadd, 1) := by decide +kernel
theorem dL_law_381 : decode cL_law 381 = .ok (.iaload, 1) := by decide +kernel
theorem dL_law_382 : decode cL_law 382 = .ok (.aload_n 0, 1) := by decide +kernel
theorem dL_law_383 : decode cL_law 383 = .ok (.iload_n 3, 1) := by decide +kernel
theorem dL_law_384 : decode cL_law 384 = .ok (.iconst 2, 1) := by decide +kernel
theorem dL_law_385 : decode cL_law 385 = .ok (.iadd, 1) := by decide +kernel
theorem dL_law_386 : decode cL_law 386 = .ok (.iaload, 1) := by decide +kernel
theorem dL_law_387 : decode cL_law 387 = .ok (.invokevirtual 56, 3) := by decide +kernel
theorem dL_law_390 : decode cL_law 390 = .ok (.aload_n 2, 1) := by decide +kernel
theorem dL_law_391 : decode cL_law 391 = .ok (.aload_n 0, 1) := by decide +kernel
theorem dL_law_392 : decode cL_law 392 = .ok (.iload_n 3, 1) := by decide +kernel
theorem dL_law_393 : decode cL_law 393 = .ok (.iconst 1, 1) := by decide +kernel
theorem dL_law_394 : decode cL_law 394 = .ok (.iadd, 1) := by decide +kernel
theorem dL_law_395 : decode cL_law 395 = .ok (.iaload, 1) := by decide +kernel
theorem dL_law_396 : decode cL_law 396 = .ok (.aload_n 0, 1) := by decide +kernel
theorem dL_law_397 : decode cL_law 397 = .ok (.iload_n 3, 1) := by decide +kernel
theorem dL_law_398 : decode cL_law 398 = .ok (.iconst 2, 1) := by decide +kernel
theorem dL_law_399 : decode cL_law 399 = .ok (.iadd, 1) := by decide +kernel
theorem dL_law_400 : decode cL_law 400 = .ok (.iaload, 1) := by decide +kernel
theorem dL_law_401 : decode cL_law 401 = .ok (.invokevirtual 59, 3) := by decide +kernel
theorem dL_law_404 : decode cL_law 404 = .ok (.if_icmp .eq 373, 3) := by decide +kernel
theorem dL_law_407 : decode cL_law 407 = .ok (.iconst 0, 1) := by decide +kernel
theorem dL_law_408 : decode cL_law 408 = .ok (.ireturn, 1) := by decide +kernel
theorem dL_law_409 : decode cL_law 409 = .ok (.aload_n 1, 1) := by decide +kernel
theorem dL_law_410 : decode cL_law 410 = .ok (.aload_n 0, 1) := by decide +kernel
theorem dL_law_411 : decode cL_law 411 = .ok (.iload_n 3, 1) := by decide +kernel
theorem dL_law_412 : decode cL_law 412 = .ok (.iconst 1, 1) := by decide +kernel
theorem dL_law_413 : decode cL_law 413 = .ok (.iadd, 1) := by decide +kernel
theorem dL_law_414 : decode cL_law 414 = .ok (.iaload, 1) := by decide +kernel
theorem dL_law_415 : decode cL_law 415 = .ok (.invokevirtual 60, 3) := by decide +kernel
theorem dL_law_418 : decode cL_law 418 = .ok (.aload_n 2, 1) := by decide +kernel
theorem dL_law_419 : decode cL_law 419 = .ok (.aload_n 0, 1) := by decide +kernel
theorem dL_law_420 : decode cL_law 420 = .ok (.iload_n 3, 1) := by decide +kernel
theorem dL_law_421 : decode cL_law 421 = .ok (.iconst 1, 1) := by decide +kernel
theorem dL_law_422 : decode cL_law 422 = .ok (.iadd, 1) := by decide +kernel
theorem dL_law_423 : decode cL_law 423 = .ok (.iaload, 1) := by decide +kernel
theorem dL_law_424 : decode cL_law 424 = .ok (.invokevirtual 63, 3) := by decide +kernel
theorem dL_law_427 : decode cL_law 427 = .ok (.if_icmp .eq 350, 3) := by decide +kernel
theorem dL_law_430 : decode cL_law 430 = .ok (.iconst 0, 1) := by decide +kernel
theorem dL_law_431 : decode cL_law 431 = .ok (.ireturn, 1) := by decide +kernel
theorem dL_law_432 : decode cL_law 432 = .ok (.aload_n 1, 1) := by decide +kernel
theorem dL_law_433 : decode cL_law 433 = .ok (.aload_n 0, 1) := by decide +kernel
theorem dL_law_434 : decode cL_law 434 = .ok (.iload_n 3, 1) := by decide +kernel
theorem dL_law_435 : decode cL_law 435 = .ok (.iconst 1, 1) := by decide +kernel
theorem dL_law_436 : decode cL_law 436 = .ok (.iadd, 1) := by decide +kernel
theorem dL_law_437 : decode cL_law 437 = .ok (.iaload, 1) := by decide +kernel
theorem dL_law_438 : decode cL_law 438 = .ok (.aload_n 0, 1) := by decide +kernel
theorem dL_law_439 : decode cL_law 439 = .ok (.iload_n 3, 1) := by decide +kernel
theorem dL_law_440 : decode cL_law 440 = .ok (.iconst 2, 1) := by decide +kernel
theorem dL_law_441 : decode cL_law 441 = .ok (.iadd, 1) := by decide +kernel
theorem dL_law_442 : decode cL_law 442 = .ok (.iaload, 1) := by decide +kernel
theorem dL_law_443 : decode cL_law 443 = .ok (.invokevirtual 64, 3) := by decide +kernel
theorem dL_law_446 : decode cL_law 446 = .ok (.aload_n 2, 1) := by decide +kernel
theorem dL_law_447 : decode cL_law 447 = .ok (.aload_n 0, 1) := by decide +kernel
theorem dL_law_448 : decode cL_law 448 = .ok (.iload_n 3, 1) := by decide +kernel
theorem dL_law_449 : decode cL_law 449 = .ok (.iconst 1, 1) := by decide +kernel
theorem dL_law_450 : decode cL_law 450 = .ok (.iadd, 1) := by decide +kernel
theorem dL_law_451 : decode cL_law 451 = .ok (.iaload, 1) := by decide +kernel
theorem dL_law_452 : decode cL_law 452 = .ok (.aload_n 0, 1) := by decide +kernel
theorem dL_law_453 : decode cL_law 453 = .ok (.iload_n 3, 1) := by decide +kernel
theorem dL_law_454 : decode cL_law 454 = .ok (.iconst 2, 1) := by decide +kernel
theorem dL_law_455 : decode cL_law 455 = .ok (.iadd, 1) := by decide +kernel
theorem dL_law_456 : decode cL_law 456 = .ok (.iaload, 1) := by decide +kernel
theorem dL_law_457 : decode cL_law 457 = .ok (.invokevirtual 67, 3) := by decide +kernel
theorem dL_law_460 : decode cL_law 460 = .ok (.if_icmp .eq 317, 3) := by decide +kernel
theorem dL_law_463 : decode cL_law 463 = .ok (.iconst 0, 1) := by decide +kernel
theorem dL_law_464 : decode cL_law 464 = .ok (.ireturn, 1) := by decide +kernel
theorem dL_law_465 : decode cL_law 465 = .ok (.aload_n 1, 1) := by decide +kernel
theorem dL_law_466 : decode cL_law 466 = .ok (.aload_n 0, 1) := by decide +kernel
theorem dL_law_467 : decode cL_law 467 = .ok (.iload_n 3, 1) := by decide +kernel
theorem dL_law_468 : decode cL_law 468 = .ok (.iconst 1, 1) := by decide +kernel
theorem dL_law_469 : decode cL_law 469 = .ok (.iadd, 1) := by decide +kernel
theorem dL_law_470 : decode cL_law 470 = .ok (.iaload, 1) := by decide +kernel
theorem dL_law_471 : decode cL_law 471 = .ok (.invokevirtual 68, 3) := by decide +kernel
theorem dL_law_474 : decode cL_law 474 = .ok (.aload_n 2, 1) := by decide +kernel
theorem dL_law_475 : decode cL_law 475 = .ok (.aload_n 0, 1) := by decide +kernel
theorem dL_law_476 : decode cL_law 476 = .ok (.iload_n 3, 1) := by decide +kernel
theorem dL_law_477 : decode cL_law 477 = .ok (.iconst 1, 1) := by decide +kernel
theorem dL_law_478 : decode cL_law 478 = .ok (.iadd, 1) := by decide +kernel
theorem dL_law_479 : decode cL_law 479 = .ok (.iaload, 1) := by decide +kernel
theorem dL_law_480 : decode cL_law 480 = .ok (.invokevirtual 71, 3) := by decide +kernel
theorem dL_law_483 : decode cL_law 483 = .ok (.if_icmp .eq 294, 3) := by decide +kernel
theorem dL_law_486 : decode cL_law 486 = .ok (.iconst 0, 1) := by decide +kernel
theorem dL_law_487 : decode cL_law 487 = .ok (.ireturn, 1) := by decide +kernel
theorem dL_law_488 : decode cL_law 488 = .ok (.aload_n 1, 1) := by decide +kernel
theorem dL_law_489 : decode cL_law 489 = .ok (.invokevirtual 72, 3) := by decide +kernel
theorem dL_law_492 : decode cL_law 492 = .ok (.aload_n 2, 1) := by decide +kernel
theorem dL_law_493 : decode cL_law 493 = .ok (.invokevirtual 75, 3) := by decide +kernel
theorem dL_law_496 : decode cL_law 496 = .ok (.if_icmp .eq 281, 3) := by decide +kernel
theorem dL_law_499 : decode cL_law 499 = .ok (.iconst 0, 1) := by decide +kernel
theorem dL_law_500 : decode cL_law 500 = .ok (.ireturn, 1) := by decide +kernel
theorem dL_law_501 : decode cL_law 501 = .ok (.aload_n 1, 1) := by decide +kernel
theorem dL_law_502 : decode cL_law 502 = .ok (.invokevirtual 76, 3) := by decide +kernel
theorem dL_law_505 : decode cL_law 505 = .ok (.aload_n 2, 1) := by decide +kernel
theorem dL_law_506 : decode cL_law 506 = .ok (.invokevirtual 79, 3) := by decide +kernel
theorem dL_law_509 : decode cL_law 509 = .ok (.if_icmp .eq 268, 3) := by decide +kernel
theorem dL_law_512 : decode cL_law 512 = .ok (.iconst 0, 1) := by decide +kernel
theorem dL_law_513 : decode cL_law 513 = .ok (.ireturn, 1) := by decide +kernel
theorem dL_law_514 : decode cL_law 514 = .ok (.aload_n 1, 1) := by decide +kernel
theorem dL_law_515 : decode cL_law 515 = .ok (.invokevirtual 80, 3) := by decide +kernel
theorem dL_law_518 : decode cL_law 518 = .ok (.aload_n 2, 1) := by decide +kernel
theorem dL_law_519 : decode cL_law 519 = .ok (.invokevirtual 83, 3) := by decide +kernel
theorem dL_law_522 : decode cL_law 522 = .ok (.if_icmp .eq 255, 3) := by decide +kernel
theorem dL_law_525 : decode cL_law 525 = .ok (.iconst 0, 1) := by decide +kernel
theorem dL_law_526 : decode cL_law 526 = .ok (.ireturn, 1) := by decide +kernel
theorem dL_law_527 : decode cL_law 527 = .ok (.aload_n 1, 1) := by decide +kernel
theorem dL_law_528 : decode cL_law 528 = .ok (.aload_n 0, 1) := by decide +kernel
theorem dL_law_529 : decode cL_law 529 = .ok (.iload_n 3, 1) := by decide +kernel
theorem dL_law_530 : decode cL_law 530 = .ok (.iconst 1, 1) := by decide +kernel
theorem dL_law_531 : decode cL_law 531 = .ok (.iadd, 1) := by decide +kernel
theorem dL_law_532 : decode cL_law 532 = .ok (.iaload, 1) := by decide +kernel
theorem dL_law_533 : decode cL_law 533 = .ok (.invokevirtual 84, 3) := by decide +kernel
theorem dL_law_536 : decode cL_law 536 = .ok (.aload_n 2, 1) := by decide +kernel
theorem dL_law_537 : decode cL_law 537 = .ok (.aload_n 0, 1) := by decide +kernel
theorem dL_law_538 : decode cL_law 538 = .ok (.iload_n 3, 1) := by decide +kernel
theorem dL_law_539 : decode cL_law 539 = .ok (.iconst 1, 1) := by decide +kernel
theorem dL_law_540 : decode cL_law 540 = .ok (.iadd, 1) := by decide +kernel
theorem dL_law_541 : decode cL_law 541 = .ok (.iaload, 1) := by decide +kernel
theorem dL_law_542 : decode cL_law 542 = .ok (.invokevirtual 87, 3) := by decide +kernel
theorem dL_law_545 : decode cL_law 545 = .ok (.if_icmp .eq 232, 3) := by decide +kernel
theorem dL_law_548 : decode cL_law 548 = .ok (.iconst 0, 1) := by decide +kernel
theorem dL_law_549 : decode cL_law 549 = .ok (.ireturn, 1) := by decide +kernel
theorem dL_law_550 : decode cL_law 550 = .ok (.aload_n 1, 1) := by decide +kernel
theorem dL_law_551 : decode cL_law 551 = .ok (.aload_n 0, 1) := by decide +kernel
theorem dL_law_552 : decode cL_law 552 = .ok (.iload_n 3, 1) := by decide +kernel
theorem dL_law_553 : decode cL_law 553 = .ok (.iconst 1, 1) := by decide +kernel
theorem dL_law_554 : decode cL_law 554 = .ok (.iadd, 1) := by decide +kernel
theorem dL_law_555 : decode cL_law 555 = .ok (.iaload, 1) := by decide +kernel
theorem dL_law_556 : decode cL_law 556 = .ok (.invokevirtual 88, 3) := by decide +kernel
theorem dL_law_559 : decode cL_law 559 = .ok (.aload_n 2, 1) := by decide +kernel
theorem dL_law_560 : decode cL_law 560 = .ok (.aload_n 0, 1) := by decide +kernel
theorem dL_law_561 : decode cL_law 561 = .ok (.iload_n 3, 1) := by decide +kernel
theorem dL_law_562 : decode cL_law 562 = .ok (.iconst 1, 1) := by decide +kernel
theorem dL_law_563 : decode cL_law 563 = .ok (.iadd, 1) := by decide +kernel
theorem dL_law_564 : decode cL_law 564 = .ok (.iaload, 1) := by decide +kernel
theorem dL_law_565 : decode cL_law 565 = .ok (.invokevirtual 91, 3) := by decide +kernel
theorem dL_law_568 : decode cL_law 568 = .ok (.if_icmp .eq 209, 3) := by decide +kernel
theorem dL_law_571 : decode cL_law 571 = .ok (.iconst 0, 1) := by decide +kernel
theorem dL_law_572 : decode cL_law 572 = .ok (.ireturn, 1) := by decide +kernel
theorem dL_law_573 : decode cL_law 573 = .ok (.aload_n 1, 1) := by decide +kernel
theorem dL_law_574 : decode cL_law 574 = .ok (.aload_n 0, 1) := by decide +kernel
theorem dL_law_575 : decode cL_law 575 = .ok (.iload_n 3, 1) := by decide +kernel
theorem dL_law_576 : decode cL_law 576 = .ok (.iconst 1, 1) := by decide +kernel
theorem dL_law_577 : decode cL_law 577 = .ok (.iadd, 1) := by decide +kernel
theorem dL_law_578 : decode cL_law 578 = .ok (.iaload, 1) := by decide +kernel
theorem dL_law_579 : decode cL_law 579 = .ok (.aload_n 0, 1) := by decide +kernel
theorem dL_law_580 : decode cL_law 580 = .ok (.iload_n 3, 1) := by decide +kernel
theorem dL_law_581 : decode cL_law 581 = .ok (.iconst 2, 1) := by decide +kernel
theorem dL_law_582 : decode cL_law 582 = .ok (.iadd, 1) := by decide +kernel
theorem dL_law_583 : decode cL_law 583 = .ok (.iaload, 1) := by decide +kernel
theorem dL_law_584 : decode cL_law 584 = .ok (.invokevirtual 92, 3) := by decide +kernel
theorem dL_law_587 : decode cL_law 587 = .ok (.aload_n 2, 1) := by decide +kernel
theorem dL_law_588 : decode cL_law 588 = .ok (.aload_n 0, 1) := by decide +kernel
theorem dL_law_589 : decode cL_law 589 = .ok (.iload_n 3, 1) := by decide +kernel
theorem dL_law_590 : decode cL_law 590 = .ok (.iconst 1, 1) := by decide +kernel
theorem dL_law_591 : decode cL_law 591 = .ok (.iadd, 1) := by decide +kernel
theorem dL_law_592 : decode cL_law 592 = .ok (.iaload, 1) := by decide +kernel
theorem dL_law_593 : decode cL_law 593 = .ok (.aload_n 0, 1) := by decide +kernel
theorem dL_law_594 : decode cL_law 594 = .ok (.iload_n 3, 1) := by decide +kernel
theorem dL_law_595 : decode cL_law 595 = .ok (.iconst 2, 1) := by decide +kernel
theorem dL_law_596 : decode cL_law 596 = .ok (.iadd, 1) := by decide +kernel
theorem dL_law_597 : decode cL_law 597 = .ok (.iaload, 1) := by decide +kernel
theorem dL_law_598 : decode cL_law 598 = .ok (.invokevirtual 95, 3) := by decide +kernel
theorem dL_law_601 : decode cL_law 601 = .ok (.if_icmp .eq 176, 3) := by decide +kernel
theorem dL_law_604 : decode cL_law 604 = .ok (.iconst 0, 1) := by decide +kernel
theorem dL_law_605 : decode cL_law 605 = .ok (.ireturn, 1) := by decide +kernel
theorem dL_law_606 : decode cL_law 606 = .ok (.aload_n 1, 1) := by decide +kernel
theorem dL_law_607 : decode cL_law 607 = .ok (.aload_n 0, 1) := by decide +kernel
theorem dL_law_608 : decode cL_law 608 = .ok (.iload_n 3, 1) := by decide +kernel
theorem dL_law_609 : decode cL_law 609 = .ok (.iconst 1, 1) := by decide +kernel
theorem dL_law_610 : decode cL_law 610 = .ok (.iadd, 1) := by decide +kernel
theorem dL_law_611 : decode cL_law 611 = .ok (.iaload, 1) := by decide +kernel
theorem dL_law_612 : decode cL_law 612 = .ok (.aload_n 0, 1) := by decide +kernel
theorem dL_law_613 : decode cL_law 613 = .ok (.iload_n 3, 1) := by decide +kernel
theorem dL_law_614 : decode cL_law 614 = .ok (.iconst 2, 1) := by decide +kernel
theorem dL_law_615 : decode cL_law 615 = .ok (.iadd, 1) := by decide +kernel
theorem dL_law_616 : decode cL_law 616 = .ok (.iaload, 1) := by decide +kernel
theorem dL_law_617 : decode cL_law 617 = .ok (.invokevirtual 96, 3) := by decide +kernel
theorem dL_law_620 : decode cL_law 620 = .ok (.aload_n 2, 1) := by decide +kernel
theorem dL_law_621 : decode cL_law 621 = .ok (.aload_n 0, 1) := by decide +kernel
theorem dL_law_622 : decode cL_law 622 = .ok (.iload_n 3, 1) := by decide +kernel
theorem dL_law_623 : decode cL_law 623 = .ok (.iconst 1, 1) := by decide +kernel
theorem dL_law_624 : decode cL_law 624 = .ok (.iadd, 1) := by decide +kernel
theorem dL_law_625 : decode cL_law 625 = .ok (.iaload, 1) := by decide +kernel
theorem dL_law_626 : decode cL_law 626 = .ok (.aload_n 0, 1) := by decide +kernel
theorem dL_law_627 : decode cL_law 627 = .ok (.iload_n 3, 1) := by decide +kernel
theorem dL_law_628 : decode cL_law 628 = .ok (.iconst 2, 1) := by decide +kernel
theorem dL_law_629 : decode cL_law 629 = .ok (.iadd, 1) := by decide +kernel
theorem dL_law_630 : decode cL_law 630 = .ok (.iaload, 1) := by decide +kernel
theorem dL_law_631 : decode cL_law 631 = .ok (.invokevirtual 99, 3) := by decide +kernel
theorem dL_law_634 : decode cL_law 634 = .ok (.if_icmp .eq 143, 3) := by decide +kernel
theorem dL_law_637 : decode cL_law 637 = .ok (.iconst 0, 1) := by decide +kernel
theorem dL_law_638 : decode cL_law 638 = .ok (.ireturn, 1) := by decide +kernel
theorem dL_law_639 : decode cL_law 639 = .ok (.aload_n 1, 1) := by decide +kernel
theorem dL_law_640 : decode cL_law 640 = .ok (.aload_n 0, 1) := by decide +kernel
theorem dL_law_641 : decode cL_law 641 = .ok (.iload_n 3, 1) := by decide +kernel
theorem dL_law_642 : decode cL_law 642 = .ok (.iconst 1, 1) := by decide +kernel
theorem dL_law_643 : decode cL_law 643 = .ok (.iadd, 1) := by decide +kernel
theorem dL_law_644 : decode cL_law 644 = .ok (.iaload, 1) := by decide +kernel
theorem dL_law_645 : decode cL_law 645 = .ok (.invokevirtual 100, 3) := by decide +kernel
theorem dL_law_648 : decode cL_law 648 = .ok (.aload_n 2, 1) := by decide +kernel
theorem dL_law_649 : decode cL_law 649 = .ok (.aload_n 0, 1) := by decide +kernel
theorem dL_law_650 : decode cL_law 650 = .ok (.iload_n 3, 1) := by decide +kernel
theorem dL_law_651 : decode cL_law 651 = .ok (.iconst 1, 1) := by decide +kernel
theorem dL_law_652 : decode cL_law 652 = .ok (.iadd, 1) := by decide +kernel
theorem dL_law_653 : decode cL_law 653 = .ok (.iaload, 1) := by decide +kernel
theorem dL_law_654 : decode cL_law 654 = .ok (.invokevirtual 103, 3) := by decide +kernel
theorem dL_law_657 : decode cL_law 657 = .ok (.if_icmp .eq 120, 3) := by decide +kernel
theorem dL_law_660 : decode cL_law 660 = .ok (.iconst 0, 1) := by decide +kernel
theorem dL_law_661 : decode cL_law 661 = .ok (.ireturn, 1) := by decide +kernel
theorem dL_law_662 : decode cL_law 662 = .ok (.aload_n 1, 1) := by decide +kernel
theorem dL_law_663 : decode cL_law 663 = .ok (.aload_n 0, 1) := by decide +kernel
theorem dL_law_664 : decode cL_law 664 = .ok (.iload_n 3, 1) := by decide +kernel
theorem dL_law_665 : decode cL_law 665 = .ok (.iconst 1, 1) := by decide +kernel
theorem dL_law_666 : decode cL_law 666 = .ok (.iadd, 1) := by decide +kernel
theorem dL_law_667 : decode cL_law 667 = .ok (.iaload, 1) := by decide +kernel
theorem dL_law_668 : decode cL_law 668 = .ok (.invokevirtual 104, 3) := by decide +kernel
theorem dL_law_671 : decode cL_law 671 = .ok (.aload_n 2, 1) := by decide +kernel
theorem dL_law_672 : decode cL_law 672 = .ok (.aload_n 0, 1) := by decide +kernel
theorem dL_law_673 : decode cL_law 673 = .ok (.iload_n 3, 1) := by decide +kernel
theorem dL_law_674 : decode cL_law 674 = .ok (.iconst 1, 1) := by decide +kernel
theorem dL_law_675 : decode cL_law 675 = .ok (.iadd, 1) := by decide +kernel
theorem dL_law_676 : decode cL_law 676 = .ok (.iaload, 1) := by decide +kernel
theorem dL_law_677 : decode cL_law 677 = .ok (.invokevirtual 107, 3) := by decide +kernel
theorem dL_law_680 : decode cL_law 680 = .ok (.if_icmp .eq 97, 3) := by decide +kernel
theorem dL_law_683 : decode cL_law 683 = .ok (.iconst 0, 1) := by decide +kernel
theorem dL_law_684 : decode cL_law 684 = .ok (.ireturn, 1) := by decide +kernel
theorem dL_law_685 : decode cL_law 685 = .ok (.aload_n 1, 1) := by decide +kernel
theorem dL_law_686 : decode cL_law 686 = .ok (.invokevirtual 108, 3) := by decide +kernel
theorem dL_law_689 : decode cL_law 689 = .ok (.aload_n 2, 1) := by decide +kernel
theorem dL_law_690 : decode cL_law 690 = .ok (.invokevirtual 111, 3) := by decide +kernel
theorem dL_law_693 : decode cL_law 693 = .ok (.if_icmp .eq 84, 3) := by decide +kernel
theorem dL_law_696 : decode cL_law 696 = .ok (.iconst 0, 1) := by decide +kernel
theorem dL_law_697 : decode cL_law 697 = .ok (.ireturn, 1) := by decide +kernel
theorem dL_law_698 : decode cL_law 698 = .ok (.aload_n 1, 1) := by decide +kernel
theorem dL_law_699 : decode cL_law 699 = .ok (.aload_n 0, 1) := by decide +kernel
theorem dL_law_700 : decode cL_law 700 = .ok (.iload_n 3, 1) := by decide +kernel
theorem dL_law_701 : decode cL_law 701 = .ok (.iconst 1, 1) := by decide +kernel
theorem dL_law_702 : decode cL_law 702 = .ok (.iadd, 1) := by decide +kernel
theorem dL_law_703 : decode cL_law 703 = .ok (.iaload, 1) := by decide +kernel
theorem dL_law_704 : decode cL_law 704 = .ok (.aload_n 0, 1) := by decide +kernel
theorem dL_law_705 : decode cL_law 705 = .ok (.iload_n 3, 1) := by decide +kernel
theorem dL_law_706 : decode cL_law 706 = .ok (.iconst 2, 1) := by decide +kernel
theorem dL_law_707 : decode cL_law 707 = .ok (.iadd, 1) := by decide +kernel
theorem dL_law_708 : decode cL_law 708 = .ok (.iaload, 1) := by decide +kernel
theorem dL_law_709 : decode cL_law 709 = .ok (.invokevirtual 112, 3) := by decide +kernel
theorem dL_law_712 : decode cL_law 712 = .ok (.aload_n 2, 1) := by decide +kernel
theorem dL_law_713 : decode cL_law 713 = .ok (.aload_n 0, 1) := by decide +kernel
theorem dL_law_714 : decode cL_law 714 = .ok (.iload_n 3, 1) := by decide +kernel
theorem dL_law_715 : decode cL_law 715 = .ok (.iconst 1, 1) := by decide +kernel
theorem dL_law_716 : decode cL_law 716 = .ok (.iadd, 1) := by decide +kernel
theorem dL_law_717 : decode cL_law 717 = .ok (.iaload, 1) := by decide +kernel
theorem dL_law_718 : decode cL_law 718 = .ok (.aload_n 0, 1) := by decide +kernel
theorem dL_law_719 : decode cL_law 719 = .ok (.iload_n 3, 1) := by decide +kernel
theorem dL_law_720 : decode cL_law 720 = .ok (.iconst 2, 1) := by decide +kernel
theorem dL_law_721 : decode cL_law 721 = .ok (.iadd, 1) := by decide +kernel
theorem dL_law_722 : decode cL_law 722 = .ok (.iaload, 1) := by decide +kernel
theorem dL_law_723 : decode cL_law 723 = .ok (.invokevirtual 115, 3) := by decide +kernel
theorem dL_law_726 : decode cL_law 726 = .ok (.if_icmp .eq 51, 3) := by decide +kernel
theorem dL_law_729 : decode cL_law 729 = .ok (.iconst 0, 1) := by decide +kernel
theorem dL_law_730 : decode cL_law 730 = .ok (.ireturn, 1) := by decide +kernel
theorem dL_law_731 : decode cL_law 731 = .ok (.aload_n 1, 1) := by decide +kernel
theorem dL_law_732 : decode cL_law 732 = .ok (.invokevirtual 116, 3) := by decide +kernel
theorem dL_law_735 : decode cL_law 735 = .ok (.aload_n 2, 1) := by decide +kernel
theorem dL_law_736 : decode cL_law 736 = .ok (.invokevirtual 119, 3) := by decide +kernel
theorem dL_law_739 : decode cL_law 739 = .ok (.if_icmp .eq 38, 3) := by decide +kernel
theorem dL_law_742 : decode cL_law 742 = .ok (.iconst 0, 1) := by decide +kernel
theorem dL_law_743 : decode cL_law 743 = .ok (.ireturn, 1) := by decide +kernel
theorem dL_law_744 : decode cL_law 744 = .ok (.aload_n 1, 1) := by decide +kernel
theorem dL_law_745 : decode cL_law 745 = .ok (.aload_n 0, 1) := by decide +kernel
theorem dL_law_746 : decode cL_law 746 = .ok (.iload_n 3, 1) := by decide +kernel
theorem dL_law_747 : decode cL_law 747 = .ok (.iconst 1, 1) := by decide +kernel
theorem dL_law_748 : decode cL_law 748 = .ok (.iadd, 1) := by decide +kernel
theorem dL_law_749 : decode cL_law 749 = .ok (.iaload, 1) := by decide +kernel
theorem dL_law_750 : decode cL_law 750 = .ok (.aload_n 0, 1) := by decide +kernel
theorem dL_law_751 : decode cL_law 751 = .ok (.iload_n 3, 1) := by decide +kernel
theorem dL_law_752 : decode cL_law 752 = .ok (.iconst 2, 1) := by decide +kernel
theorem dL_law_753 : decode cL_law 753 = .ok (.iadd, 1) := by decide +kernel
theorem dL_law_754 : decode cL_law 754 = .ok (.iaload, 1) := by decide +kernel
theorem dL_law_755 : decode cL_law 755 = .ok (.invokevirtual 120, 3) := by decide +kernel
theorem dL_law_758 : decode cL_law 758 = .ok (.aload_n 2, 1) := by decide +kernel
theorem dL_law_759 : decode cL_law 759 = .ok (.aload_n 0, 1) := by decide +kernel
theorem dL_law_760 : decode cL_law 760 = .ok (.iload_n 3, 1) := by decide +kernel
theorem dL_law_761 : decode cL_law 761 = .ok (.iconst 1, 1) := by decide +kernel
theorem dL_law_762 : decode cL_law 762 = .ok (.iadd, 1) := by decide +kernel
theorem dL_law_763 : decode cL_law 763 = .ok (.iaload, 1) := by decide +kernel
theorem dL_law_764 : decode cL_law 764 = .ok (.aload_n 0, 1) := by decide +kernel
theorem dL_law_765 : decode cL_law 765 = .ok (.iload_n 3, 1) := by decide +kernel
theorem dL_law_766 : decode cL_law 766 = .ok (.iconst 2, 1) := by decide +kernel
theorem dL_law_767 : decode cL_law 767 = .ok (.iadd, 1) := by decide +kernel
theorem dL_law_768 : decode cL_law 768 = .ok (.iaload, 1) := by decide +kernel
theorem dL_law_769 : decode cL_law 769 = .ok (.invokevirtual 123, 3) := by decide +kernel
theorem dL_law_772 : decode cL_law 772 = .ok (.if_icmp .eq 5, 3) := by decide +kernel
theorem dL_law_775 : decode cL_law 775 = .ok (.iconst 0, 1) := by decide +kernel
theorem dL_law_776 : decode cL_law 776 = .ok (.ireturn, 1) := by decide +kernel
theorem dL_law_777 : decode cL_law 777 = .ok (.iinc 3 3, 3) := by decide +kernel
theorem dL_law_780 : decode cL_law 780 = .ok (.goto (-762), 3) := by decide +kernel
theorem dL_law_783 : decode cL_law 783 = .ok (.iconst 1, 1) := by decide +kernel
theorem dL_law_784 : decode cL_law 784 = .ok (.ireturn, 1) := by decide +kernel
abbrev vwCl : List vw_C := [(RX0, TX0, 7), (RX1, TX1, 11), (RX2, TX2, 3), (RX3, TX3, 2), (RX4, TX4, 6), (RX5, TX5, 7), (RX6, TX6, 23)]
/-! ===== END printed: names (without the pool by kinds, whose record types the screen refuses) ===== -/
