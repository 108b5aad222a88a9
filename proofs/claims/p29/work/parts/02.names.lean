/-! ===== BEGIN words of one list among another's, by their places ===== -/
theorem goodIn_r {big : List Cond} (ws : List Cond) (ps : List Nat) (hp : ws = ps.filterMap (fun i => big[i]?)) (h : ws.all goodWord = true) : GoodIn big ws := by
  intro w hw
  have h1 := List.all_eq_true.mp h w hw
  rw [hp] at hw
  obtain ⟨i, -, hi⟩ := List.mem_filterMap.mp hw
  have hm : w ∈ big := by first | exact List.mem_of_getElem? hi | exact List.getElem?_mem hi
  exact ⟨hm, good_of_word h1⟩
theorem goodIn_app {big a b : List Cond} (ha : GoodIn big a) (hb : GoodIn big b) : GoodIn big (a ++ b) := fun w h => (List.mem_append.mp h).elim (ha w) (hb w)
theorem goodIn_ca {big a b : List Cond} {c : Cond} (ha : GoodIn big (c :: a)) (hb : GoodIn big b) : GoodIn big (c :: (a ++ b)) := fun w h => (List.mem_cons.mp h).elim (fun e => ha w (List.mem_cons.mpr (Or.inl e))) (fun h => (List.mem_append.mp h).elim (fun h => ha w (List.mem_cons.mpr (Or.inr h))) (hb w))
theorem goodIn_sub {big ws : List Cond} (hm : ∀ w ∈ ws, w ∈ big) (h : ws.all goodWord = true) : GoodIn big ws := fun w hw => ⟨hm w hw, good_of_word (List.all_eq_true.mp h w hw)⟩
/-! ===== END ===== -/

def RX0 : String := "NameSeeker$Asked"
def TX0 : u_T := fun k => match k with
  | 0 => ("NameSeeker$Asked", "codes", "[J", true)
  | _ => ("NameSeeker$Asked", "size", "I", false)
def tyX0 : Nat → FieldType := fun k => match k with
  | 0 => .array .long
  | _ => .int
abbrev wsX00 : List Cond := u_ws RX0 TX0 2
theorem nmX0 : ∀ a, a < 2 → ∀ b, b < 2 → a ≠ b → (TX0 a).2.1 ≠ (TX0 b).2.1 := by decide +kernel
theorem tyX0_ok : ∀ k, k < 2 → parseFieldDescriptor (TX0 k).2.2.1 = some (tyX0 k) := by decide +kernel
abbrev cX0_init : ByteArray := prog_2_method_1_code
def yX0_init : MethodName := ⟨RX0, "<init>", "()V"⟩
abbrev cX0_add : ByteArray := prog_2_method_2_code
def yX0_add : MethodName := ⟨RX0, "add", "(J)V"⟩
def RX1 : String := "NameSeeker$Known"
def TX1 : u_T := fun k => match k with
  | 0 => ("NameSeeker$Known", "ids", "[I", true)
  | 1 => ("NameSeeker$Known", "codes", "[J", true)
  | 2 => ("NameSeeker$Known", "ages", "[I", true)
  | 3 => ("NameSeeker$Known", "scores", "[I", true)
  | 4 => ("NameSeeker$Known", "hits", "I", false)
  | _ => ("NameSeeker$Known", "misses", "I", false)
def tyX1 : Nat → FieldType := fun k => match k with
  | 0 => .array .int
  | 1 => .array .long
  | 2 => .array .int
  | 3 => .array .int
  | 4 => .int
  | _ => .int
abbrev wsX10 : List Cond := u_ws RX1 TX1 6
theorem nmX1 : ∀ a, a < 6 → ∀ b, b < 6 → a ≠ b → (TX1 a).2.1 ≠ (TX1 b).2.1 := by decide +kernel
theorem tyX1_ok : ∀ k, k < 6 → parseFieldDescriptor (TX1 k).2.2.1 = some (tyX1 k) := by decide +kernel
abbrev cX1_init : ByteArray := prog_3_method_1_code
def yX1_init : MethodName := ⟨RX1, "<init>", "()V"⟩
abbrev cX1_placeOf : ByteArray := prog_3_method_2_code
def yX1_placeOf : MethodName := ⟨RX1, "placeOf", "(IJI)I"⟩
abbrev cX1_holds : ByteArray := prog_3_method_3_code
def yX1_holds : MethodName := ⟨RX1, "holds", "(IIJI)Z"⟩
abbrev cX1_put : ByteArray := prog_3_method_4_code
def yX1_put : MethodName := ⟨RX1, "put", "(IIJII)V"⟩
def RX2 : String := "NameSeeker$Laying"
def TX2 : u_T := fun k => match k with
  | 0 => ("NameSeeker$Laying", "tails", "[[I", true)
  | 1 => ("NameSeeker$Laying", "nexts", "[[I", true)
  | 2 => ("NameSeeker$Laying", "counts", "[I", true)
  | _ => ("NameSeeker$Laying", "bestFirst", "I", false)
def tyX2 : Nat → FieldType := fun k => match k with
  | 0 => .array (.array .int)
  | 1 => .array (.array .int)
  | 2 => .array .int
  | _ => .int
abbrev wsX20 : List Cond := u_ws RX2 TX2 4
theorem nmX2 : ∀ a, a < 4 → ∀ b, b < 4 → a ≠ b → (TX2 a).2.1 ≠ (TX2 b).2.1 := by decide +kernel
theorem tyX2_ok : ∀ k, k < 4 → parseFieldDescriptor (TX2 k).2.2.1 = some (tyX2 k) := by decide +kernel
abbrev cX2_init : ByteArray := prog_4_method_1_code
def yX2_init : MethodName := ⟨RX2, "<init>", "()V"⟩
abbrev cX2_workOut : ByteArray := prog_4_method_2_code
def yX2_workOut : MethodName := ⟨RX2, "workOut", "(LNameSeeker$Name;LNameSeeker$Word;LNameSeeker$Scales;)I"⟩
abbrev cX2_workOutLetter : ByteArray := prog_4_method_3_code
def yX2_workOutLetter : MethodName := ⟨RX2, "workOutLetter", "(LNameSeeker$Name;LNameSeeker$Word;ILNameSeeker$Scales;)V"⟩
abbrev cX2_workOutNext : ByteArray := prog_4_method_4_code
def yX2_workOutNext : MethodName := ⟨RX2, "workOutNext", "(LNameSeeker$Name;IILNameSeeker$Scales;)V"⟩
abbrev cX2_bestPlace : ByteArray := prog_4_method_5_code
def yX2_bestPlace : MethodName := ⟨RX2, "bestPlace", "(I)I"⟩
abbrev cX2_countWays : ByteArray := prog_4_method_6_code
def yX2_countWays : MethodName := ⟨RX2, "countWays", "(LNameSeeker$Name;LNameSeeker$Word;)I"⟩
def RX3 : String := "NameSeeker$Lot"
def TX3 : u_T := fun k => match k with
  | 0 => ("NameSeeker$Lot", "names", "[LNameSeeker$Name;", true)
  | 1 => ("NameSeeker$Lot", "size", "I", false)
  | _ => ("NameSeeker$Lot", "laid", "I", false)
def tyX3 : Nat → FieldType := fun k => match k with
  | 0 => .array (.object "NameSeeker$Name")
  | 1 => .int
  | _ => .int
abbrev wsX30 : List Cond := u_ws RX3 TX3 3
theorem nmX3 : ∀ a, a < 3 → ∀ b, b < 3 → a ≠ b → (TX3 a).2.1 ≠ (TX3 b).2.1 := by decide +kernel
theorem tyX3_ok : ∀ k, k < 3 → parseFieldDescriptor (TX3 k).2.2.1 = some (tyX3 k) := by decide +kernel
abbrev cX3_init : ByteArray := prog_5_method_1_code
def yX3_init : MethodName := ⟨RX3, "<init>", "()V"⟩
abbrev cX3_has : ByteArray := prog_5_method_2_code
def yX3_has : MethodName := ⟨RX3, "has", "(I)Z"⟩
abbrev cX3_clear : ByteArray := prog_5_method_3_code
def yX3_clear : MethodName := ⟨RX3, "clear", "()V"⟩
abbrev cX3_addName : ByteArray := prog_5_method_4_code
def yX3_addName : MethodName := ⟨RX3, "addName", "(I)LNameSeeker$Name;"⟩
def RX4 : String := "NameSeeker$Name"
def TX4 : u_T := fun k => match k with
  | 0 => ("NameSeeker$Name", "signs", "[C", true)
  | 1 => ("NameSeeker$Name", "size", "I", false)
  | 2 => ("NameSeeker$Name", "kind", "I", false)
  | 3 => ("NameSeeker$Name", "id", "I", false)
  | 4 => ("NameSeeker$Name", "picked", "I", false)
  | 5 => ("NameSeeker$Name", "beginnings", "I", false)
  | _ => ("NameSeeker$Name", "letterBits", "I", false)
def tyX4 : Nat → FieldType := fun k => match k with
  | 0 => .array .char
  | 1 => .int
  | 2 => .int
  | 3 => .int
  | 4 => .int
  | 5 => .int
  | _ => .int
abbrev wsX40 : List Cond := u_ws RX4 TX4 7
theorem nmX4 : ∀ a, a < 7 → ∀ b, b < 7 → a ≠ b → (TX4 a).2.1 ≠ (TX4 b).2.1 := by decide +kernel
theorem tyX4_ok : ∀ k, k < 7 → parseFieldDescriptor (TX4 k).2.2.1 = some (tyX4 k) := by decide +kernel
abbrev cX4_init : ByteArray := prog_6_method_1_code
def yX4_init : MethodName := ⟨RX4, "<init>", "()V"⟩
abbrev cX4_reset : ByteArray := prog_6_method_2_code
def yX4_reset : MethodName := ⟨RX4, "reset", "(II)V"⟩
abbrev cX4_addSign : ByteArray := prog_6_method_3_code
def yX4_addSign : MethodName := ⟨RX4, "addSign", "(C)V"⟩
abbrev cX4_wouldBegin : ByteArray := prog_6_method_4_code
def yX4_wouldBegin : MethodName := ⟨RX4, "wouldBegin", "(C)Z"⟩
abbrev cX4_isAlike : ByteArray := prog_6_method_5_code
def yX4_isAlike : MethodName := ⟨RX4, "isAlike", "(IC)Z"⟩
abbrev cX4_hasAll : ByteArray := prog_6_method_6_code
def yX4_hasAll : MethodName := ⟨RX4, "hasAll", "(LNameSeeker$Word;)Z"⟩
def RX5 : String := "NameSeeker$Ranking"
def TX5 : u_T := fun k => match k with
  | 0 => ("NameSeeker$Ranking", "scores", "[I", true)
  | 1 => ("NameSeeker$Ranking", "numbers", "[I", true)
  | _ => ("NameSeeker$Ranking", "size", "I", false)
def tyX5 : Nat → FieldType := fun k => match k with
  | 0 => .array .int
  | 1 => .array .int
  | _ => .int
abbrev wsX50 : List Cond := u_ws RX5 TX5 3
theorem nmX5 : ∀ a, a < 3 → ∀ b, b < 3 → a ≠ b → (TX5 a).2.1 ≠ (TX5 b).2.1 := by decide +kernel
theorem tyX5_ok : ∀ k, k < 3 → parseFieldDescriptor (TX5 k).2.2.1 = some (tyX5 k) := by decide +kernel
abbrev cX5_init : ByteArray := prog_7_method_1_code
def yX5_init : MethodName := ⟨RX5, "<init>", "()V"⟩
abbrev cX5_rank : ByteArray := prog_7_method_2_code
def yX5_rank : MethodName := ⟨RX5, "rank", "(LNameSeeker$Lot;)V"⟩
abbrev cX5_insert : ByteArray := prog_7_method_3_code
def yX5_insert : MethodName := ⟨RX5, "insert", "(LNameSeeker$Lot;I)V"⟩
abbrev cX5_isFirst : ByteArray := prog_7_method_4_code
def yX5_isFirst : MethodName := ⟨RX5, "isFirst", "(LNameSeeker$Lot;I)Z"⟩
abbrev cX5_isAhead : ByteArray := prog_7_method_5_code
def yX5_isAhead : MethodName := ⟨RX5, "isAhead", "(LNameSeeker$Lot;II)Z"⟩
def RX6 : String := "NameSeeker$Scales"
def TX6 : u_T := fun k => match k with
  | 0 => ("NameSeeker$Scales", "beginning", "I", false)
  | 1 => ("NameSeeker$Scales", "row", "I", false)
  | _ => ("NameSeeker$Scales", "gap", "I", false)
def tyX6 : Nat → FieldType := fun k => match k with
  | 0 => .int
  | 1 => .int
  | _ => .int
abbrev wsX60 : List Cond := u_ws RX6 TX6 3
theorem nmX6 : ∀ a, a < 3 → ∀ b, b < 3 → a ≠ b → (TX6 a).2.1 ≠ (TX6 b).2.1 := by decide +kernel
theorem tyX6_ok : ∀ k, k < 3 → parseFieldDescriptor (TX6 k).2.2.1 = some (tyX6 k) := by decide +kernel
abbrev cX6_init : ByteArray := prog_8_method_1_code
def yX6_init : MethodName := ⟨RX6, "<init>", "()V"⟩
abbrev cX6_setDefaults : ByteArray := prog_8_method_3_code
def yX6_setDefaults : MethodName := ⟨RX6, "setDefaults", "()V"⟩
abbrev cX6_set : ByteArray := prog_8_method_4_code
def yX6_set : MethodName := ⟨RX6, "set", "(III)V"⟩
abbrev cX6_ofPlace : ByteArray := prog_8_method_6_code
def yX6_ofPlace : MethodName := ⟨RX6, "ofPlace", "(LNameSeeker$Name;I)I"⟩
abbrev cX6_ofStep : ByteArray := prog_8_method_7_code
def yX6_ofStep : MethodName := ⟨RX6, "ofStep", "(LNameSeeker$Name;II)I"⟩
def RX7 : String := "NameSeeker$Text"
def TX7 : u_T := fun k => match k with
  | 0 => ("NameSeeker$Text", "letters", "[C", true)
  | _ => ("NameSeeker$Text", "size", "I", false)
def tyX7 : Nat → FieldType := fun k => match k with
  | 0 => .array .char
  | _ => .int
abbrev wsX70 : List Cond := u_ws RX7 TX7 2
theorem nmX7 : ∀ a, a < 2 → ∀ b, b < 2 → a ≠ b → (TX7 a).2.1 ≠ (TX7 b).2.1 := by decide +kernel
theorem tyX7_ok : ∀ k, k < 2 → parseFieldDescriptor (TX7 k).2.2.1 = some (tyX7 k) := by decide +kernel
abbrev cX7_init : ByteArray := prog_9_method_1_code
def yX7_init : MethodName := ⟨RX7, "<init>", "()V"⟩
abbrev cX7_append : ByteArray := prog_9_method_2_code
def yX7_append : MethodName := ⟨RX7, "append", "(C)V"⟩
abbrev cX7_clear : ByteArray := prog_9_method_3_code
def yX7_clear : MethodName := ⟨RX7, "clear", "()I"⟩
abbrev cX7_at : ByteArray := prog_9_method_4_code
def yX7_at : MethodName := ⟨RX7, "at", "(I)C"⟩
abbrev cX7_figureAt : ByteArray := prog_9_method_5_code
def yX7_figureAt : MethodName := ⟨RX7, "figureAt", "(I)I"⟩
abbrev cX7_firstFault : ByteArray := prog_9_method_6_code
def yX7_firstFault : MethodName := ⟨RX7, "firstFault", "()I"⟩
abbrev cX7_hasName : ByteArray := prog_9_method_7_code
def yX7_hasName : MethodName := ⟨RX7, "hasName", "()Z"⟩
abbrev cX7_behindItem : ByteArray := prog_9_method_8_code
def yX7_behindItem : MethodName := ⟨RX7, "behindItem", "(I)I"⟩
abbrev cX7_behindName : ByteArray := prog_9_method_9_code
def yX7_behindName : MethodName := ⟨RX7, "behindName", "(I)I"⟩
abbrev cX7_behindWorths : ByteArray := prog_9_method_10_code
def yX7_behindWorths : MethodName := ⟨RX7, "behindWorths", "(I)I"⟩
abbrev cX7_isFigure : ByteArray := prog_9_method_11_code
def yX7_isFigure : MethodName := ⟨RX7, "isFigure", "(II)Z"⟩
def RX8 : String := "NameSeeker$Word"
def TX8 : u_T := fun k => match k with
  | 0 => ("NameSeeker$Word", "letters", "[C", true)
  | _ => ("NameSeeker$Word", "size", "I", false)
def tyX8 : Nat → FieldType := fun k => match k with
  | 0 => .array .char
  | _ => .int
abbrev wsX80 : List Cond := u_ws RX8 TX8 2
theorem nmX8 : ∀ a, a < 2 → ∀ b, b < 2 → a ≠ b → (TX8 a).2.1 ≠ (TX8 b).2.1 := by decide +kernel
theorem tyX8_ok : ∀ k, k < 2 → parseFieldDescriptor (TX8 k).2.2.1 = some (tyX8 k) := by decide +kernel
abbrev cX8_init : ByteArray := prog_10_method_1_code
def yX8_init : MethodName := ⟨RX8, "<init>", "()V"⟩
abbrev cX8_clear : ByteArray := prog_10_method_2_code
def yX8_clear : MethodName := ⟨RX8, "clear", "()V"⟩
abbrev cX8_add : ByteArray := prog_10_method_3_code
def yX8_add : MethodName := ⟨RX8, "add", "(C)V"⟩
abbrev cX8_removeLast : ByteArray := prog_10_method_4_code
def yX8_removeLast : MethodName := ⟨RX8, "removeLast", "()I"⟩
abbrev cX8_copy : ByteArray := prog_10_method_5_code
def yX8_copy : MethodName := ⟨RX8, "copy", "(LNameSeeker$Word;)V"⟩
abbrev cX8_code : ByteArray := prog_10_method_6_code
def yX8_code : MethodName := ⟨RX8, "code", "()J"⟩
abbrev cX8_letterBits : ByteArray := prog_10_method_7_code
def yX8_letterBits : MethodName := ⟨RX8, "letterBits", "()I"⟩
def RX9 : String := "NameSeeker"
def TX9 : u_T := fun k => match k with
  | 0 => ("NameSeeker", "text", "LNameSeeker$Text;", true)
  | 1 => ("NameSeeker", "lot", "LNameSeeker$Lot;", true)
  | 2 => ("NameSeeker", "scales", "LNameSeeker$Scales;", true)
  | 3 => ("NameSeeker", "typed", "LNameSeeker$Word;", true)
  | 4 => ("NameSeeker", "tried", "LNameSeeker$Word;", true)
  | 5 => ("NameSeeker", "kept", "[LNameSeeker$Word;", true)
  | 6 => ("NameSeeker", "laying", "LNameSeeker$Laying;", true)
  | 7 => ("NameSeeker", "known", "LNameSeeker$Known;", true)
  | 8 => ("NameSeeker", "askedCodes", "LNameSeeker$Asked;", true)
  | 9 => ("NameSeeker", "ranking", "LNameSeeker$Ranking;", true)
  | 10 => ("NameSeeker", "keptSize", "I", false)
  | 11 => ("NameSeeker", "tick", "I", false)
  | 12 => ("NameSeeker", "age", "I", false)
  | _ => ("NameSeeker", "seed", "I", false)
def tyX9 : Nat → FieldType := fun k => match k with
  | 0 => .object "NameSeeker$Text"
  | 1 => .object "NameSeeker$Lot"
  | 2 => .object "NameSeeker$Scales"
  | 3 => .object "NameSeeker$Word"
  | 4 => .object "NameSeeker$Word"
  | 5 => .array (.object "NameSeeker$Word")
  | 6 => .object "NameSeeker$Laying"
  | 7 => .object "NameSeeker$Known"
  | 8 => .object "NameSeeker$Asked"
  | 9 => .object "NameSeeker$Ranking"
  | 10 => .int
  | 11 => .int
  | 12 => .int
  | _ => .int
abbrev wsX90 : List Cond := u_ws RX9 TX9 14
theorem nmX9 : ∀ a, a < 14 → ∀ b, b < 14 → a ≠ b → (TX9 a).2.1 ≠ (TX9 b).2.1 := by decide +kernel
theorem tyX9_ok : ∀ k, k < 14 → parseFieldDescriptor (TX9 k).2.2.1 = some (tyX9 k) := by decide +kernel
abbrev cX9_init : ByteArray := prog_1_method_1_code
def yX9_init : MethodName := ⟨RX9, "<init>", "()V"⟩
abbrev cX9_write : ByteArray := prog_1_method_2_code
def yX9_write : MethodName := ⟨RX9, "write", "(I)I"⟩
abbrev cX9_wipe : ByteArray := prog_1_method_3_code
def yX9_wipe : MethodName := ⟨RX9, "wipe", "()I"⟩
abbrev cX9_fault : ByteArray := prog_1_method_4_code
def yX9_fault : MethodName := ⟨RX9, "fault", "()I"⟩
abbrev cX9_lay : ByteArray := prog_1_method_5_code
def yX9_lay : MethodName := ⟨RX9, "lay", "()I"⟩
abbrev cX9_name : ByteArray := prog_1_method_6_code
def yX9_name : MethodName := ⟨RX9, "name", "(II)I"⟩
abbrev cX9_layText : ByteArray := prog_1_method_8_code
def yX9_layText : MethodName := ⟨RX9, "layText", "()V"⟩
abbrev cX9_readItem : ByteArray := prog_1_method_9_code
def yX9_readItem : MethodName := ⟨RX9, "readItem", "(I)V"⟩
abbrev cX9_type : ByteArray := prog_1_method_10_code
def yX9_type : MethodName := ⟨RX9, "type", "(I)I"⟩
abbrev cX9_untype : ByteArray := prog_1_method_11_code
def yX9_untype : MethodName := ⟨RX9, "untype", "()I"⟩
abbrev cX9_word : ByteArray := prog_1_method_13_code
def yX9_word : MethodName := ⟨RX9, "word", "(I)I"⟩
abbrev cX9_pick : ByteArray := prog_1_method_14_code
def yX9_pick : MethodName := ⟨RX9, "pick", "(I)I"⟩
abbrev cX9_score : ByteArray := prog_1_method_19_code
def yX9_score : MethodName := ⟨RX9, "score", "(I)I"⟩
abbrev cX9_list : ByteArray := prog_1_method_20_code
def yX9_list : MethodName := ⟨RX9, "list", "(I)I"⟩
abbrev cX9_best : ByteArray := prog_1_method_21_code
def yX9_best : MethodName := ⟨RX9, "best", "(II)I"⟩
abbrev cX9_ways : ByteArray := prog_1_method_22_code
def yX9_ways : MethodName := ⟨RX9, "ways", "(I)I"⟩
abbrev cX9_passes : ByteArray := prog_1_method_23_code
def yX9_passes : MethodName := ⟨RX9, "passes", "(I)I"⟩
abbrev cX9_asked : ByteArray := prog_1_method_24_code
def yX9_asked : MethodName := ⟨RX9, "asked", "(I)I"⟩
abbrev cX9_brief : ByteArray := prog_1_method_25_code
def yX9_brief : MethodName := ⟨RX9, "brief", "(I)I"⟩
abbrev cX9_seekScore : ByteArray := prog_1_method_27_code
def yX9_seekScore : MethodName := ⟨RX9, "seekScore", "(LNameSeeker$Name;)I"⟩
abbrev cX9_seekScores : ByteArray := prog_1_method_28_code
def yX9_seekScores : MethodName := ⟨RX9, "seekScores", "()V"⟩
abbrev cX9_isFirstBy : ByteArray := prog_1_method_29_code
def yX9_isFirstBy : MethodName := ⟨RX9, "isFirstBy", "(III)Z"⟩
abbrev cX9_keep : ByteArray := prog_1_method_30_code
def yX9_keep : MethodName := ⟨RX9, "keep", "()I"⟩
abbrev cX9_back : ByteArray := prog_1_method_31_code
def yX9_back : MethodName := ⟨RX9, "back", "()I"⟩
abbrev cX9_count : ByteArray := prog_1_method_32_code
def yX9_count : MethodName := ⟨RX9, "count", "(I)I"⟩
abbrev cX9_isSmall : ByteArray := prog_1_method_33_code
def yX9_isSmall : MethodName := ⟨RX9, "isSmall", "(I)Z"⟩
abbrev cX9_isGreat : ByteArray := prog_1_method_34_code
def yX9_isGreat : MethodName := ⟨RX9, "isGreat", "(I)Z"⟩
abbrev cX9_isLetter : ByteArray := prog_1_method_35_code
def yX9_isLetter : MethodName := ⟨RX9, "isLetter", "(I)Z"⟩
abbrev cX9_isSign : ByteArray := prog_1_method_36_code
def yX9_isSign : MethodName := ⟨RX9, "isSign", "(I)Z"⟩
abbrev cX9_letterNumber : ByteArray := prog_1_method_37_code
def yX9_letterNumber : MethodName := ⟨RX9, "letterNumber", "(I)I"⟩
def RX10 : String := "NameSeekerModel"
def TX10 : u_T := fun k => match k with
  | _ => ("", "", "", false)
def tyX10 : Nat → FieldType := fun k => match k with
  | _ => .int
abbrev wsX100 : List Cond := u_ws RX10 TX10 0
theorem nmX10 : ∀ a, a < 0 → ∀ b, b < 0 → a ≠ b → (TX10 a).2.1 ≠ (TX10 b).2.1 := by decide +kernel
theorem tyX10_ok : ∀ k, k < 0 → parseFieldDescriptor (TX10 k).2.2.1 = some (tyX10 k) := by decide +kernel
def RJ9 : String := "java/lang/Math"
def TJ9 : u_T := fun k => match k with
  | _ => ("", "", "", false)
def tyJ9 : Nat → FieldType := fun k => match k with
  | _ => .int
abbrev wsJ90 : List Cond := u_ws RJ9 TJ9 0
theorem nmJ9 : ∀ a, a < 0 → ∀ b, b < 0 → a ≠ b → (TJ9 a).2.1 ≠ (TJ9 b).2.1 := by decide +kernel
theorem tyJ9_ok : ∀ k, k < 0 → parseFieldDescriptor (TJ9 k).2.2.1 = some (tyJ9 k) := by decide +kernel
abbrev cJ9_min_7cf53 : ByteArray := prog_13_method_69_code
def yJ9_min_7cf53 : MethodName := ⟨RJ9, "min", "(II)I"⟩
def RJ0 : String := "java/lang/String"
def TJ0 : u_T := fun k => match k with
  | _ => ("", "", "", false)
def tyJ0 : Nat → FieldType := fun k => match k with
  | _ => .int
abbrev wsJ00 : List Cond := u_ws RJ0 TJ0 0
theorem nmJ0 : ∀ a, a < 0 → ∀ b, b < 0 → a ≠ b → (TJ0 a).2.1 ≠ (TJ0 b).2.1 := by decide +kernel
theorem tyJ0_ok : ∀ k, k < 0 → parseFieldDescriptor (TJ0 k).2.2.1 = some (tyJ0 k) := by decide +kernel
abbrev cJ0_length_8abf5 : ByteArray := prog_14_method_54_code
def yJ0_length_8abf5 : MethodName := ⟨RJ0, "length", "()I"⟩
abbrev cJ0_charAt_5068e : ByteArray := prog_14_method_56_code
def yJ0_charAt_5068e : MethodName := ⟨RJ0, "charAt", "(I)C"⟩
abbrev cJ0_coder_7d493 : ByteArray := prog_14_method_152_code
def yJ0_coder_7d493 : MethodName := ⟨RJ0, "coder", "()B"⟩
abbrev cJ0_isLatin1_aae02 : ByteArray := prog_14_method_154_code
def yJ0_isLatin1_aae02 : MethodName := ⟨RJ0, "isLatin1", "()Z"⟩
abbrev cJ0_checkIndex_df160 : ByteArray := prog_14_method_155_code
def yJ0_checkIndex_df160 : MethodName := ⟨RJ0, "checkIndex", "(II)V"⟩
def RJ1 : String := "java/lang/StringLatin1"
def TJ1 : u_T := fun k => match k with
  | _ => ("", "", "", false)
def tyJ1 : Nat → FieldType := fun k => match k with
  | _ => .int
abbrev wsJ10 : List Cond := u_ws RJ1 TJ1 0
theorem nmJ1 : ∀ a, a < 0 → ∀ b, b < 0 → a ≠ b → (TJ1 a).2.1 ≠ (TJ1 b).2.1 := by decide +kernel
theorem tyJ1_ok : ∀ k, k < 0 → parseFieldDescriptor (TJ1 k).2.2.1 = some (tyJ1 k) := by decide +kernel
abbrev cJ1_charAt_3b067 : ByteArray := prog_15_method_2_code
def yJ1_charAt_3b067 : MethodName := ⟨RJ1, "charAt", "([BI)C"⟩
def RJ2 : String := "java/lang/StringUTF16"
def TJ2 : u_T := fun k => match k with
  | _ => ("", "", "", false)
def tyJ2 : Nat → FieldType := fun k => match k with
  | _ => .int
abbrev wsJ20 : List Cond := u_ws RJ2 TJ2 0
theorem nmJ2 : ∀ a, a < 0 → ∀ b, b < 0 → a ≠ b → (TJ2 a).2.1 ≠ (TJ2 b).2.1 := by decide +kernel
theorem tyJ2_ok : ∀ k, k < 0 → parseFieldDescriptor (TJ2 k).2.2.1 = some (tyJ2 k) := by decide +kernel
abbrev cJ2_getChar_3b067 : ByteArray := prog_16_method_5_code
def yJ2_getChar_3b067 : MethodName := ⟨RJ2, "getChar", "([BI)C"⟩
abbrev cJ2_length_9d52b : ByteArray := prog_16_method_6_code
def yJ2_length_9d52b : MethodName := ⟨RJ2, "length", "([B)I"⟩
abbrev cJ2_charAt_3b067 : ByteArray := prog_16_method_83_code
def yJ2_charAt_3b067 : MethodName := ⟨RJ2, "charAt", "([BI)C"⟩
abbrev cJ2_checkIndex_2214a : ByteArray := prog_16_method_91_code
def yJ2_checkIndex_2214a : MethodName := ⟨RJ2, "checkIndex", "(I[B)V"⟩
def RJ3 : String := "jdk/internal/util/Preconditions"
def TJ3 : u_T := fun k => match k with
  | _ => ("", "", "", false)
def tyJ3 : Nat → FieldType := fun k => match k with
  | _ => .int
abbrev wsJ30 : List Cond := u_ws RJ3 TJ3 0
theorem nmJ3 : ∀ a, a < 0 → ∀ b, b < 0 → a ≠ b → (TJ3 a).2.1 ≠ (TJ3 b).2.1 := by decide +kernel
theorem tyJ3_ok : ∀ k, k < 0 → parseFieldDescriptor (TJ3 k).2.2.1 = some (tyJ3 k) := by decide +kernel
abbrev cJ3_checkIndex_8e157 : ByteArray := prog_17_method_11_code
def yJ3_checkIndex_8e157 : MethodName := ⟨RJ3, "checkIndex", "(IILjava/util/function/BiFunction;)I"⟩
def RL : String := "NameSeekerLaw"
abbrev cL_cell : ByteArray := method_2_code
def yL_cell : MethodName := ⟨RL, "cell", "([II)I"⟩
abbrev cL_draws : ByteArray := method_3_code
def yL_draws : MethodName := ⟨RL, "draws", "([II[I[J)V"⟩
abbrev cL_sign : ByteArray := method_4_code
def yL_sign : MethodName := ⟨RL, "sign", "([JII)I"⟩
abbrev cL_letter : ByteArray := method_5_code
def yL_letter : MethodName := ⟨RL, "letter", "(I)I"⟩
abbrev cL_writes : ByteArray := method_6_code
def yL_writes : MethodName := ⟨RL, "writes", "(LNameSeeker;I)Z"⟩
abbrev cL_lays : ByteArray := method_7_code
def yL_lays : MethodName := ⟨RL, "lays", "(LNameSeeker;[I[J)Z"⟩
abbrev cL_low : ByteArray := method_8_code
def yL_low : MethodName := ⟨RL, "low", "(I)I"⟩
abbrev cL_types : ByteArray := method_9_code
def yL_types : MethodName := ⟨RL, "types", "(LNameSeeker;[III)Z"⟩
abbrev cL_alike : ByteArray := method_10_code
def yL_alike : MethodName := ⟨RL, "alike", "([I[JIII)Z"⟩
abbrev cL_isBeginning : ByteArray := method_11_code
def yL_isBeginning : MethodName := ⟨RL, "isBeginning", "([JII)Z"⟩
abbrev cL_worth : ByteArray := method_12_code
def yL_worth : MethodName := ⟨RL, "worth", "(LNameSeeker;[I[JI[I)I"⟩
abbrev cL_each : ByteArray := method_13_code
def yL_each : MethodName := ⟨RL, "each", "(LNameSeeker;[I[J[I)Z"⟩
abbrev cL_bits : ByteArray := method_14_code
def yL_bits : MethodName := ⟨RL, "bits", "(I)I"⟩
abbrev cL_ordered : ByteArray := method_15_code
def yL_ordered : MethodName := ⟨RL, "ordered", "(LNameSeeker;[I)Z"⟩
abbrev cL_first : ByteArray := method_16_code
def yL_first : MethodName := ⟨RL, "first", "(LNameSeeker;I[I)Z"⟩
abbrev cL_law : ByteArray := code
def yL_law : MethodName := ⟨RL, "law", "([I)Z"⟩
abbrev vwCl : List vw_C := [(RX0, TX0, 2), (RX1, TX1, 6), (RX2, TX2, 4), (RX3, TX3, 3), (RX4, TX4, 7), (RX5, TX5, 3), (RX6, TX6, 3), (RX7, TX7, 2), (RX8, TX8, 2), (RX9, TX9, 14)]
/-! the words: the good ones of the table -/
def TB : List Cond := lw_tbl.filter goodWord
theorem tbI {w : Cond} (i : Nat) (h : lw_tbl[i]? = some w) (g : goodWord w = true) : w ∈ TB := List.mem_filter.mpr ⟨List.mem_of_getElem? h, g⟩
theorem tbW {ws : List Cond} (ps : List Nat) (hp : ws = ps.filterMap (fun i => lw_tbl[i]?)) (h : ws.all goodWord = true) : ∀ w ∈ ws, w ∈ TB := fun w hw => List.mem_filter.mpr ⟨(goodIn_r ws ps hp h w hw).1, List.all_eq_true.mp h w hw⟩
theorem inlX0 : ∀ w ∈ wsX00, w ∈ TB := tbW [210, 212] (by decide +kernel) (by decide +kernel)
theorem inlX1 : ∀ w ∈ wsX10, w ∈ TB := tbW [186, 188, 190, 192, 194, 196] (by decide +kernel) (by decide +kernel)
theorem inlX2 : ∀ w ∈ wsX20, w ∈ TB := tbW [161, 163, 165, 167] (by decide +kernel) (by decide +kernel)
theorem inlX3 : ∀ w ∈ wsX30, w ∈ TB := tbW [105, 107, 109] (by decide +kernel) (by decide +kernel)
theorem inlX4 : ∀ w ∈ wsX40, w ∈ TB := tbW [82, 84, 86, 88, 90, 92, 94] (by decide +kernel) (by decide +kernel)
theorem inlX5 : ∀ w ∈ wsX50, w ∈ TB := tbW [227, 229, 231] (by decide +kernel) (by decide +kernel)
theorem inlX6 : ∀ w ∈ wsX60, w ∈ TB := tbW [124, 126, 128] (by decide +kernel) (by decide +kernel)
theorem inlX7 : ∀ w ∈ wsX70, w ∈ TB := tbW [46, 48] (by decide +kernel) (by decide +kernel)
theorem inlX8 : ∀ w ∈ wsX80, w ∈ TB := tbW [143, 145] (by decide +kernel) (by decide +kernel)
theorem inlX9 : ∀ w ∈ wsX90, w ∈ TB := tbW [391, 393, 395, 397, 399, 401, 403, 405, 407, 409, 411, 413, 415, 417] (by decide +kernel) (by decide +kernel)
