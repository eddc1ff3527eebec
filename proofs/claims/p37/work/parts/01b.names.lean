/-! ===== BEGIN words of one list among another's, by their places ===== -/
theorem goodIn_r {big : List Cond} (ws : List Cond) (ps : List Nat) (hp : ws = ps.filterMap (fun i => big[i]?)) (h : ws.all goodWord = true) : GoodIn big ws := by
  intro w hw
  have h1 := List.all_eq_true.mp h w hw
  rw [hp] at hw
  obtain ⟨i, -, hi⟩ := List.mem_filterMap.mp hw
  have hm : w ∈ big := by first | exact List.mem_of_getElem? hi | exact List.getElem?_mem hi
  exact ⟨hm, good_of_word h1⟩
theorem goodIn_app {big a b : List Cond} (ha : GoodIn big a) (hb : GoodIn big b) : GoodIn big (a ++ b) := fun w h => (List.mem_append.mp h).elim (ha w) (hb w)
theorem goodIn_ca {big a b : List Cond} {c : Cond} (ha : GoodIn big (c :: a)) (hb : GoodIn big b) : GoodIn big (c :: (a ++ b)) := fun w h => (List.mem_cons.mp h).elim (fun e => ha w (List.mem_cons.mpr (Or.inl e))) (fun h => (List.mem_append.mp h).elim (fun h => ha w (List.mem_cons.mpr (Or.inr h))) (hb w))
theorem goodIn_sub {big ws : List Cond} (hm : ∀ w ∈ ws, w ∈ big) (h : ws.all goodWord = true) : GoodIn big ws := fun w hw => ⟨hm w hw, good_of_word (List.all_eq_true.mp h w hw)⟩
/-! ===== END ===== -/

/-! ===== BEGIN printed: names, fields, word lists, decode rows ===== -/
def RX0 : String := "BirthTenth$Acts"
def TX0 : u_T := fun k => match k with
  | 0 => ("BirthTenth$Acts", "bodies", "[I", true)
  | 1 => ("BirthTenth$Acts", "ran", "I", false)
  | 2 => ("BirthTenth$Acts", "kind", "I", false)
  | 3 => ("BirthTenth$Acts", "number", "I", false)
  | _ => ("BirthTenth$Acts", "v", "I", false)
def tyX0 : Nat → FieldType := fun k => match k with
  | 0 => .array .int
  | 1 => .int
  | 2 => .int
  | 3 => .int
  | _ => .int
abbrev wsX00 : List Cond := u_ws RX0 TX0 5
theorem nmX0 : ∀ a, a < 5 → ∀ b, b < 5 → a ≠ b → (TX0 a).2.1 ≠ (TX0 b).2.1 := by decide +kernel
theorem tyX0_ok : ∀ k, k < 5 → parseFieldDescriptor (TX0 k).2.2.1 = some (tyX0 k) := by decide +kernel
abbrev cX0_init : ByteArray := prog_2_method_1_code
def yX0_init : MethodName := ⟨RX0, "<init>", "()V"⟩
abbrev cX0_becomes : ByteArray := prog_2_method_2_code
def yX0_becomes : MethodName := ⟨RX0, "becomes", "(III)V"⟩
abbrev cX0_answer : ByteArray := prog_2_method_3_code
def yX0_answer : MethodName := ⟨RX0, "answer", "(II)I"⟩
abbrev cX0_runs : ByteArray := prog_2_method_4_code
def yX0_runs : MethodName := ⟨RX0, "runs", "(I)V"⟩
abbrev cX0_sells : ByteArray := prog_2_method_5_code
def yX0_sells : MethodName := ⟨RX0, "sells", "(II)I"⟩
abbrev cX0_gives : ByteArray := prog_2_method_6_code
def yX0_gives : MethodName := ⟨RX0, "gives", "(II)I"⟩
abbrev cX0_tells : ByteArray := prog_2_method_7_code
def yX0_tells : MethodName := ⟨RX0, "tells", "(II)I"⟩
def RX1 : String := "BirthTenth$Days"
def TX1 : u_T := fun k => match k with
  | 0 => ("BirthTenth$Days", "state", "LBirthTenth$State;", false)
  | 1 => ("BirthTenth$Days", "due", "I", false)
  | 2 => ("BirthTenth$Days", "date", "I", false)
  | 3 => ("BirthTenth$Days", "year", "I", false)
  | 4 => ("BirthTenth$Days", "dues", "I", false)
  | 5 => ("BirthTenth$Days", "gain", "[I", true)
  | 6 => ("BirthTenth$Days", "came", "[I", true)
  | 7 => ("BirthTenth$Days", "sellsOn", "[I", true)
  | _ => ("BirthTenth$Days", "births", "[I", true)
def tyX1 : Nat → FieldType := fun k => match k with
  | 0 => .object "BirthTenth$State"
  | 1 => .int
  | 2 => .int
  | 3 => .int
  | 4 => .int
  | 5 => .array .int
  | 6 => .array .int
  | 7 => .array .int
  | _ => .array .int
abbrev wsX10 : List Cond := u_ws RX1 TX1 9
theorem nmX1 : ∀ a, a < 9 → ∀ b, b < 9 → a ≠ b → (TX1 a).2.1 ≠ (TX1 b).2.1 := by decide +kernel
theorem tyX1_ok : ∀ k, k < 9 → parseFieldDescriptor (TX1 k).2.2.1 = some (tyX1 k) := by decide +kernel
abbrev cX1_init : ByteArray := prog_3_method_1_code
def yX1_init : MethodName := ⟨RX1, "<init>", "(LBirthTenth$State;)V"⟩
abbrev cX1_start : ByteArray := prog_3_method_2_code
def yX1_start : MethodName := ⟨RX1, "start", "(LBirthTenth$State;I)V"⟩
abbrev cX1_go : ByteArray := prog_3_method_3_code
def yX1_go : MethodName := ⟨RX1, "go", "(I)V"⟩
abbrev cX1_sell : ByteArray := prog_3_method_4_code
def yX1_sell : MethodName := ⟨RX1, "sell", "()V"⟩
abbrev cX1_share : ByteArray := prog_3_method_5_code
def yX1_share : MethodName := ⟨RX1, "share", "()V"⟩
abbrev cX1_beginYear : ByteArray := prog_3_method_6_code
def yX1_beginYear : MethodName := ⟨RX1, "beginYear", "()V"⟩
abbrev cX1_wanted : ByteArray := prog_3_method_7_code
def yX1_wanted : MethodName := ⟨RX1, "wanted", "(I)I"⟩
abbrev cX1_freeDay : ByteArray := prog_3_method_8_code
def yX1_freeDay : MethodName := ⟨RX1, "freeDay", "(III)I"⟩
abbrev cX1_putOff : ByteArray := prog_3_method_9_code
def yX1_putOff : MethodName := ⟨RX1, "putOff", "(I)I"⟩
abbrev cX1_takes : ByteArray := prog_3_method_10_code
def yX1_takes : MethodName := ⟨RX1, "takes", "(II)I"⟩
abbrev cX1_allows : ByteArray := prog_3_method_11_code
def yX1_allows : MethodName := ⟨RX1, "allows", "(LBirthTenth$Town;IIII)Z"⟩
abbrev cX1_valueOf : ByteArray := prog_3_method_12_code
def yX1_valueOf : MethodName := ⟨RX1, "valueOf", "(III)I"⟩
def RX2 : String := "BirthTenth$State"
def TX2 : u_T := fun k => match k with
  | 0 => ("BirthTenth$State", "count", "I", false)
  | 1 => ("BirthTenth$State", "date", "I", false)
  | 2 => ("BirthTenth$State", "year", "I", false)
  | 3 => ("BirthTenth$State", "bookRows", "I", false)
  | 4 => ("BirthTenth$State", "town", "LBirthTenth$Town;", false)
  | 5 => ("BirthTenth$State", "kind", "[I", true)
  | 6 => ("BirthTenth$State", "v", "[I", true)
  | 7 => ("BirthTenth$State", "born", "[I", true)
  | 8 => ("BirthTenth$State", "plan", "[I", true)
  | 9 => ("BirthTenth$State", "purse", "[I", true)
  | 10 => ("BirthTenth$State", "here", "[Z", true)
  | 11 => ("BirthTenth$State", "rows", "[I", true)
  | _ => ("BirthTenth$State", "book", "[I", true)
def tyX2 : Nat → FieldType := fun k => match k with
  | 0 => .int
  | 1 => .int
  | 2 => .int
  | 3 => .int
  | 4 => .object "BirthTenth$Town"
  | 5 => .array .int
  | 6 => .array .int
  | 7 => .array .int
  | 8 => .array .int
  | 9 => .array .int
  | 10 => .array .boolean
  | 11 => .array .int
  | _ => .array .int
abbrev wsX20 : List Cond := u_ws RX2 TX2 13
theorem nmX2 : ∀ a, a < 13 → ∀ b, b < 13 → a ≠ b → (TX2 a).2.1 ≠ (TX2 b).2.1 := by decide +kernel
theorem tyX2_ok : ∀ k, k < 13 → parseFieldDescriptor (TX2 k).2.2.1 = some (tyX2 k) := by decide +kernel
abbrev cX2_init : ByteArray := prog_4_method_1_code
def yX2_init : MethodName := ⟨RX2, "<init>", "(LBirthTenth$Town;)V"⟩
abbrev cX2_add : ByteArray := prog_4_method_2_code
def yX2_add : MethodName := ⟨RX2, "add", "(IIII)V"⟩
abbrev cX2_copy : ByteArray := prog_4_method_3_code
def yX2_copy : MethodName := ⟨RX2, "copy", "(LBirthTenth$State;)V"⟩
def RX3 : String := "BirthTenth$Tape"
def TX3 : u_T := fun k => match k with
  | 0 => ("BirthTenth$Tape", "sort", "I", false)
  | 1 => ("BirthTenth$Tape", "length", "I", false)
  | _ => ("BirthTenth$Tape", "items", "[J", true)
def tyX3 : Nat → FieldType := fun k => match k with
  | 0 => .int
  | 1 => .int
  | _ => .array .long
abbrev wsX30 : List Cond := u_ws RX3 TX3 3
theorem nmX3 : ∀ a, a < 3 → ∀ b, b < 3 → a ≠ b → (TX3 a).2.1 ≠ (TX3 b).2.1 := by decide +kernel
theorem tyX3_ok : ∀ k, k < 3 → parseFieldDescriptor (TX3 k).2.2.1 = some (tyX3 k) := by decide +kernel
abbrev cX3_init : ByteArray := prog_5_method_1_code
def yX3_init : MethodName := ⟨RX3, "<init>", "()V"⟩
abbrev cX3_become : ByteArray := prog_5_method_2_code
def yX3_become : MethodName := ⟨RX3, "become", "(II)V"⟩
abbrev cX3_holds : ByteArray := prog_5_method_3_code
def yX3_holds : MethodName := ⟨RX3, "holds", "(II)Z"⟩
abbrev cX3_fitted : ByteArray := prog_5_method_4_code
def yX3_fitted : MethodName := ⟨RX3, "fitted", "(J)J"⟩
def RX4 : String := "BirthTenth$Text"
def TX4 : u_T := fun k => match k with
  | 0 => ("BirthTenth$Text", "signs", "[B", true)
  | 1 => ("BirthTenth$Text", "length", "I", false)
  | 2 => ("BirthTenth$Text", "at", "I", false)
  | _ => ("BirthTenth$Text", "fits", "Z", false)
def tyX4 : Nat → FieldType := fun k => match k with
  | 0 => .array .byte
  | 1 => .int
  | 2 => .int
  | _ => .boolean
abbrev wsX40 : List Cond := u_ws RX4 TX4 4
theorem nmX4 : ∀ a, a < 4 → ∀ b, b < 4 → a ≠ b → (TX4 a).2.1 ≠ (TX4 b).2.1 := by decide +kernel
theorem tyX4_ok : ∀ k, k < 4 → parseFieldDescriptor (TX4 k).2.2.1 = some (tyX4 k) := by decide +kernel
abbrev cX4_init : ByteArray := prog_6_method_1_code
def yX4_init : MethodName := ⟨RX4, "<init>", "()V"⟩
abbrev cX4_parse : ByteArray := prog_6_method_2_code
def yX4_parse : MethodName := ⟨RX4, "parse", "(LBirthTenth$Town;)Z"⟩
abbrev cX4_next : ByteArray := prog_6_method_3_code
def yX4_next : MethodName := ⟨RX4, "next", "()I"⟩
abbrev cX4_word : ByteArray := prog_6_method_4_code
def yX4_word : MethodName := ⟨RX4, "word", "(Ljava/lang/String;)V"⟩
abbrev cX4_number : ByteArray := prog_6_method_5_code
def yX4_number : MethodName := ⟨RX4, "number", "()I"⟩
abbrev cX4_clause : ByteArray := prog_6_method_6_code
def yX4_clause : MethodName := ⟨RX4, "clause", "(LBirthTenth$Town;)V"⟩
abbrev cX4_either : ByteArray := prog_6_method_7_code
def yX4_either : MethodName := ⟨RX4, "either", "(LBirthTenth$Town;I)V"⟩
abbrev cX4_one : ByteArray := prog_6_method_8_code
def yX4_one : MethodName := ⟨RX4, "one", "(LBirthTenth$Town;I)V"⟩
abbrev cX4_relation : ByteArray := prog_6_method_9_code
def yX4_relation : MethodName := ⟨RX4, "relation", "()I"⟩
abbrev cX4_isLetter : ByteArray := prog_6_method_10_code
def yX4_isLetter : MethodName := ⟨RX4, "isLetter", "(I)Z"⟩
def RX5 : String := "BirthTenth$Town"
def TX5 : u_T := fun k => match k with
  | 0 => ("BirthTenth$Town", "due", "I", false)
  | 1 => ("BirthTenth$Town", "cost", "I", false)
  | 2 => ("BirthTenth$Town", "feast", "I", false)
  | 3 => ("BirthTenth$Town", "takes", "I", false)
  | 4 => ("BirthTenth$Town", "steps", "I", false)
  | 5 => ("BirthTenth$Town", "letters", "[I", true)
  | 6 => ("BirthTenth$Town", "relations", "[I", true)
  | 7 => ("BirthTenth$Town", "numbers", "[I", true)
  | 8 => ("BirthTenth$Town", "amounts", "[I", true)
  | _ => ("BirthTenth$Town", "ends", "[I", true)
def tyX5 : Nat → FieldType := fun k => match k with
  | 0 => .int
  | 1 => .int
  | 2 => .int
  | 3 => .int
  | 4 => .int
  | 5 => .array .int
  | 6 => .array .int
  | 7 => .array .int
  | 8 => .array .int
  | _ => .array .int
abbrev wsX50 : List Cond := u_ws RX5 TX5 10
theorem nmX5 : ∀ a, a < 10 → ∀ b, b < 10 → a ≠ b → (TX5 a).2.1 ≠ (TX5 b).2.1 := by decide +kernel
theorem tyX5_ok : ∀ k, k < 10 → parseFieldDescriptor (TX5 k).2.2.1 = some (tyX5 k) := by decide +kernel
abbrev cX5_init : ByteArray := prog_7_method_1_code
def yX5_init : MethodName := ⟨RX5, "<init>", "()V"⟩
abbrev cX5_clear : ByteArray := prog_7_method_2_code
def yX5_clear : MethodName := ⟨RX5, "clear", "()V"⟩
abbrev cX5_addTest : ByteArray := prog_7_method_3_code
def yX5_addTest : MethodName := ⟨RX5, "addTest", "(III)V"⟩
abbrev cX5_addJoint : ByteArray := prog_7_method_4_code
def yX5_addJoint : MethodName := ⟨RX5, "addJoint", "(I)V"⟩
abbrev cX5_addTake : ByteArray := prog_7_method_5_code
def yX5_addTake : MethodName := ⟨RX5, "addTake", "(I)V"⟩
def RX6 : String := "BirthTenth"
def TX6 : u_T := fun k => match k with
  | 0 => ("BirthTenth", "now", "LBirthTenth$State;", true)
  | 1 => ("BirthTenth", "kept", "LBirthTenth$State;", true)
  | 2 => ("BirthTenth", "trial", "LBirthTenth$State;", true)
  | 3 => ("BirthTenth", "isKept", "Z", false)
  | 4 => ("BirthTenth", "days", "LBirthTenth$Days;", true)
  | 5 => ("BirthTenth", "yields", "[I", true)
  | 6 => ("BirthTenth", "text", "LBirthTenth$Text;", true)
  | 7 => ("BirthTenth", "towns", "[LBirthTenth$Town;", true)
  | 8 => ("BirthTenth", "townCount", "I", false)
  | 9 => ("BirthTenth", "acts", "LBirthTenth$Acts;", true)
  | _ => ("BirthTenth", "tapes", "[LBirthTenth$Tape;", true)
def tyX6 : Nat → FieldType := fun k => match k with
  | 0 => .object "BirthTenth$State"
  | 1 => .object "BirthTenth$State"
  | 2 => .object "BirthTenth$State"
  | 3 => .boolean
  | 4 => .object "BirthTenth$Days"
  | 5 => .array .int
  | 6 => .object "BirthTenth$Text"
  | 7 => .array (.object "BirthTenth$Town")
  | 8 => .int
  | 9 => .object "BirthTenth$Acts"
  | _ => .array (.object "BirthTenth$Tape")
abbrev wsX60 : List Cond := u_ws RX6 TX6 11
theorem nmX6 : ∀ a, a < 11 → ∀ b, b < 11 → a ≠ b → (TX6 a).2.1 ≠ (TX6 b).2.1 := by decide +kernel
theorem tyX6_ok : ∀ k, k < 11 → parseFieldDescriptor (TX6 k).2.2.1 = some (tyX6 k) := by decide +kernel
abbrev cX6_init : ByteArray := prog_1_method_1_code
def yX6_init : MethodName := ⟨RX6, "<init>", "()V"⟩
abbrev cX6_person : ByteArray := prog_1_method_2_code
def yX6_person : MethodName := ⟨RX6, "person", "(IIII)I"⟩
abbrev cX6_of : ByteArray := prog_1_method_3_code
def yX6_of : MethodName := ⟨RX6, "of", "(II)I"⟩
abbrev cX6_set : ByteArray := prog_1_method_4_code
def yX6_set : MethodName := ⟨RX6, "set", "(III)I"⟩
abbrev cX6_there : ByteArray := prog_1_method_5_code
def yX6_there : MethodName := ⟨RX6, "there", "(IZ)I"⟩
abbrev cX6_row : ByteArray := prog_1_method_6_code
def yX6_row : MethodName := ⟨RX6, "row", "(III)I"⟩
abbrev cX6_feed : ByteArray := prog_1_method_7_code
def yX6_feed : MethodName := ⟨RX6, "feed", "(I)I"⟩
abbrev cX6_town : ByteArray := prog_1_method_8_code
def yX6_town : MethodName := ⟨RX6, "town", "()I"⟩
abbrev cX6_told : ByteArray := prog_1_method_9_code
def yX6_told : MethodName := ⟨RX6, "told", "(I)I"⟩
abbrev cX6_day : ByteArray := prog_1_method_10_code
def yX6_day : MethodName := ⟨RX6, "day", "()I"⟩
abbrev cX6_by : ByteArray := prog_1_method_11_code
def yX6_by : MethodName := ⟨RX6, "by", "(III)I"⟩
abbrev cX6_years : ByteArray := prog_1_method_12_code
def yX6_years : MethodName := ⟨RX6, "years", "(I)I"⟩
abbrev cX6_birth : ByteArray := prog_1_method_13_code
def yX6_birth : MethodName := ⟨RX6, "birth", "(II)I"⟩
abbrev cX6_plan : ByteArray := prog_1_method_14_code
def yX6_plan : MethodName := ⟨RX6, "plan", "(II)I"⟩
abbrev cX6_quiet : ByteArray := prog_1_method_15_code
def yX6_quiet : MethodName := ⟨RX6, "quiet", "()I"⟩
abbrev cX6_foundling : ByteArray := prog_1_method_16_code
def yX6_foundling : MethodName := ⟨RX6, "foundling", "(II)I"⟩
abbrev cX6_forged : ByteArray := prog_1_method_17_code
def yX6_forged : MethodName := ⟨RX6, "forged", "(I)I"⟩
abbrev cX6_change : ByteArray := prog_1_method_18_code
def yX6_change : MethodName := ⟨RX6, "change", "(I)I"⟩
abbrev cX6_rest : ByteArray := prog_1_method_19_code
def yX6_rest : MethodName := ⟨RX6, "rest", "(I)I"⟩
abbrev cX6_reckoning : ByteArray := prog_1_method_20_code
def yX6_reckoning : MethodName := ⟨RX6, "reckoning", "(I)I"⟩
abbrev cX6_high : ByteArray := prog_1_method_21_code
def yX6_high : MethodName := ⟨RX6, "high", "(I)I"⟩
abbrev cX6_last : ByteArray := prog_1_method_22_code
def yX6_last : MethodName := ⟨RX6, "last", "(I)I"⟩
abbrev cX6_odds : ByteArray := prog_1_method_23_code
def yX6_odds : MethodName := ⟨RX6, "odds", "(III)J"⟩
abbrev cX6_mean : ByteArray := prog_1_method_24_code
def yX6_mean : MethodName := ⟨RX6, "mean", "(I)J"⟩
abbrev cX6_book : ByteArray := prog_1_method_25_code
def yX6_book : MethodName := ⟨RX6, "book", "(I)I"⟩
abbrev cX6_looked : ByteArray := prog_1_method_26_code
def yX6_looked : MethodName := ⟨RX6, "looked", "(I)I"⟩
abbrev cX6_judge : ByteArray := prog_1_method_27_code
def yX6_judge : MethodName := ⟨RX6, "judge", "(II)I"⟩
abbrev cX6_image : ByteArray := prog_1_method_28_code
def yX6_image : MethodName := ⟨RX6, "image", "()I"⟩
abbrev cX6_undo : ByteArray := prog_1_method_29_code
def yX6_undo : MethodName := ⟨RX6, "undo", "()I"⟩
abbrev cX6_act : ByteArray := prog_1_method_30_code
def yX6_act : MethodName := ⟨RX6, "act", "(III)I"⟩
abbrev cX6_trace : ByteArray := prog_1_method_31_code
def yX6_trace : MethodName := ⟨RX6, "trace", "(I)I"⟩
abbrev cX6_taken : ByteArray := prog_1_method_32_code
def yX6_taken : MethodName := ⟨RX6, "taken", "(II)I"⟩
abbrev cX6_count : ByteArray := prog_1_method_33_code
def yX6_count : MethodName := ⟨RX6, "count", "(I)I"⟩
abbrev cX6_tape : ByteArray := prog_1_method_34_code
def yX6_tape : MethodName := ⟨RX6, "tape", "(III)I"⟩
abbrev cX6_item : ByteArray := prog_1_method_35_code
def yX6_item : MethodName := ⟨RX6, "item", "(IIJ)I"⟩
abbrev cX6_read : ByteArray := prog_1_method_36_code
def yX6_read : MethodName := ⟨RX6, "read", "(II)J"⟩
abbrev cX6_shift : ByteArray := prog_1_method_37_code
def yX6_shift : MethodName := ⟨RX6, "shift", "(IIIII)I"⟩
abbrev cX6_isDay : ByteArray := prog_1_method_38_code
def yX6_isDay : MethodName := ⟨RX6, "isDay", "(I)Z"⟩
abbrev cX6_isTape : ByteArray := prog_1_method_39_code
def yX6_isTape : MethodName := ⟨RX6, "isTape", "(I)Z"⟩
abbrev cX6_isPerson : ByteArray := prog_1_method_40_code
def yX6_isPerson : MethodName := ⟨RX6, "isPerson", "(I)Z"⟩
abbrev cX6_bornOn : ByteArray := prog_1_method_41_code
def yX6_bornOn : MethodName := ⟨RX6, "bornOn", "(I)I"⟩
abbrev cX6_sellingOn : ByteArray := prog_1_method_42_code
def yX6_sellingOn : MethodName := ⟨RX6, "sellingOn", "(I)I"⟩
abbrev cX6_allPurses : ByteArray := prog_1_method_43_code
def yX6_allPurses : MethodName := ⟨RX6, "allPurses", "()I"⟩
abbrev cX6_goYear : ByteArray := prog_1_method_44_code
def yX6_goYear : MethodName := ⟨RX6, "goYear", "(LBirthTenth$State;I)V"⟩
abbrev cX6_gainOfOthers : ByteArray := prog_1_method_45_code
def yX6_gainOfOthers : MethodName := ⟨RX6, "gainOfOthers", "(LBirthTenth$State;I)I"⟩
abbrev cX6_tryDays : ByteArray := prog_1_method_46_code
def yX6_tryDays : MethodName := ⟨RX6, "tryDays", "([III)V"⟩
abbrev cX6_firstMost : ByteArray := prog_1_method_47_code
def yX6_firstMost : MethodName := ⟨RX6, "firstMost", "()I"⟩
abbrev cX6_bestOf : ByteArray := prog_1_method_48_code
def yX6_bestOf : MethodName := ⟨RX6, "bestOf", "([III)I"⟩
abbrev cX6_betterPlan : ByteArray := prog_1_method_49_code
def yX6_betterPlan : MethodName := ⟨RX6, "betterPlan", "(II)I"⟩
abbrev cX6_fraction : ByteArray := prog_1_method_50_code
def yX6_fraction : MethodName := ⟨RX6, "fraction", "(III)J"⟩
def RX7 : String := "BirthTenthModel"
def TX7 : u_T := fun k => match k with
  | 0 => ("BirthTenthModel", "people", "I", false)
  | 1 => ("BirthTenthModel", "date", "I", false)
  | 2 => ("BirthTenthModel", "year", "I", false)
  | 3 => ("BirthTenthModel", "kind", "[I", true)
  | 4 => ("BirthTenthModel", "v", "[I", true)
  | 5 => ("BirthTenthModel", "born", "[I", true)
  | 6 => ("BirthTenthModel", "planned", "[I", true)
  | 7 => ("BirthTenthModel", "purse", "[I", true)
  | 8 => ("BirthTenthModel", "rows", "[I", true)
  | 9 => ("BirthTenthModel", "isThere", "[Z", true)
  | 10 => ("BirthTenthModel", "towns", "I", false)
  | 11 => ("BirthTenthModel", "the", "I", false)
  | 12 => ("BirthTenthModel", "fed", "I", false)
  | 13 => ("BirthTenthModel", "at", "I", false)
  | 14 => ("BirthTenthModel", "digits", "I", false)
  | 15 => ("BirthTenthModel", "text", "[I", true)
  | 16 => ("BirthTenthModel", "clauses", "[I", true)
  | 17 => ("BirthTenthModel", "word", "[I", true)
  | 18 => ("BirthTenthModel", "number", "[I", true)
  | 19 => ("BirthTenthModel", "from", "[I", true)
  | 20 => ("BirthTenthModel", "to", "[I", true)
  | 21 => ("BirthTenthModel", "sign", "[I", true)
  | 22 => ("BirthTenthModel", "waits", "[I", true)
  | 23 => ("BirthTenthModel", "signs", "I", false)
  | 24 => ("BirthTenthModel", "waiting", "I", false)
  | 25 => ("BirthTenthModel", "open", "I", false)
  | 26 => ("BirthTenthModel", "letters", "[I", true)
  | 27 => ("BirthTenthModel", "dueTold", "I", false)
  | 28 => ("BirthTenthModel", "pile", "[Z", true)
  | 29 => ("BirthTenthModel", "got", "[I", true)
  | 30 => ("BirthTenthModel", "keptPurse", "[I", true)
  | 31 => ("BirthTenthModel", "keptDate", "I", false)
  | 32 => ("BirthTenthModel", "keptYear", "I", false)
  | 33 => ("BirthTenthModel", "more", "[I", true)
  | 34 => ("BirthTenthModel", "bestDay", "I", false)
  | 35 => ("BirthTenthModel", "bestMore", "I", false)
  | 36 => ("BirthTenthModel", "oldPlan", "[I", true)
  | 37 => ("BirthTenthModel", "restPlan", "[I", true)
  | 38 => ("BirthTenthModel", "books", "I", false)
  | 39 => ("BirthTenthModel", "book", "[I", true)
  | 40 => ("BirthTenthModel", "hasImage", "Z", false)
  | 41 => ("BirthTenthModel", "imageThe", "I", false)
  | 42 => ("BirthTenthModel", "imagePeople", "I", false)
  | 43 => ("BirthTenthModel", "imageDate", "I", false)
  | 44 => ("BirthTenthModel", "imageYear", "I", false)
  | 45 => ("BirthTenthModel", "imageBooks", "I", false)
  | 46 => ("BirthTenthModel", "imageKind", "[I", true)
  | 47 => ("BirthTenthModel", "imageV", "[I", true)
  | 48 => ("BirthTenthModel", "imageBorn", "[I", true)
  | 49 => ("BirthTenthModel", "imagePlan", "[I", true)
  | 50 => ("BirthTenthModel", "imagePurse", "[I", true)
  | 51 => ("BirthTenthModel", "imageRows", "[I", true)
  | 52 => ("BirthTenthModel", "imageBook", "[I", true)
  | 53 => ("BirthTenthModel", "imageThere", "[Z", true)
  | 54 => ("BirthTenthModel", "ran", "I", false)
  | 55 => ("BirthTenthModel", "bodies", "[I", true)
  | 56 => ("BirthTenthModel", "sort", "[I", true)
  | 57 => ("BirthTenthModel", "length", "[I", true)
  | 58 => ("BirthTenthModel", "item", "[J", true)
  | _ => ("BirthTenthModel", "aside", "[J", true)
def tyX7 : Nat → FieldType := fun k => match k with
  | 0 => .int
  | 1 => .int
  | 2 => .int
  | 3 => .array .int
  | 4 => .array .int
  | 5 => .array .int
  | 6 => .array .int
  | 7 => .array .int
  | 8 => .array .int
  | 9 => .array .boolean
  | 10 => .int
  | 11 => .int
  | 12 => .int
  | 13 => .int
  | 14 => .int
  | 15 => .array .int
  | 16 => .array .int
  | 17 => .array .int
  | 18 => .array .int
  | 19 => .array .int
  | 20 => .array .int
  | 21 => .array .int
  | 22 => .array .int
  | 23 => .int
  | 24 => .int
  | 25 => .int
  | 26 => .array .int
  | 27 => .int
  | 28 => .array .boolean
  | 29 => .array .int
  | 30 => .array .int
  | 31 => .int
  | 32 => .int
  | 33 => .array .int
  | 34 => .int
  | 35 => .int
  | 36 => .array .int
  | 37 => .array .int
  | 38 => .int
  | 39 => .array .int
  | 40 => .boolean
  | 41 => .int
  | 42 => .int
  | 43 => .int
  | 44 => .int
  | 45 => .int
  | 46 => .array .int
  | 47 => .array .int
  | 48 => .array .int
  | 49 => .array .int
  | 50 => .array .int
  | 51 => .array .int
  | 52 => .array .int
  | 53 => .array .boolean
  | 54 => .int
  | 55 => .array .int
  | 56 => .array .int
  | 57 => .array .int
  | 58 => .array .long
  | _ => .array .long
abbrev wsX70 : List Cond := u_ws RX7 TX7 60
theorem nmX7 : ∀ a, a < 60 → ∀ b, b < 60 → a ≠ b → (TX7 a).2.1 ≠ (TX7 b).2.1 := by decide +kernel
theorem tyX7_ok : ∀ k, k < 60 → parseFieldDescriptor (TX7 k).2.2.1 = some (tyX7 k) := by decide +kernel
abbrev cX7_init : ByteArray := prog_9_method_1_code
def yX7_init : MethodName := ⟨RX7, "<init>", "()V"⟩
abbrev cX7_in : ByteArray := prog_9_method_2_code
def yX7_in : MethodName := ⟨RX7, "in", "(III)Z"⟩
abbrev cX7_isPerson : ByteArray := prog_9_method_3_code
def yX7_isPerson : MethodName := ⟨RX7, "isPerson", "(I)Z"⟩
abbrev cX7_isDay : ByteArray := prog_9_method_4_code
def yX7_isDay : MethodName := ⟨RX7, "isDay", "(I)Z"⟩
abbrev cX7_lay : ByteArray := prog_9_method_5_code
def yX7_lay : MethodName := ⟨RX7, "lay", "(IIIII)V"⟩
abbrev cX7_person : ByteArray := prog_9_method_6_code
def yX7_person : MethodName := ⟨RX7, "person", "(IIII)I"⟩
abbrev cX7_set : ByteArray := prog_9_method_7_code
def yX7_set : MethodName := ⟨RX7, "set", "(III)I"⟩
abbrev cX7_there : ByteArray := prog_9_method_8_code
def yX7_there : MethodName := ⟨RX7, "there", "(IZ)I"⟩
abbrev cX7_row : ByteArray := prog_9_method_9_code
def yX7_row : MethodName := ⟨RX7, "row", "(III)I"⟩
abbrev cX7_feed : ByteArray := prog_9_method_10_code
def yX7_feed : MethodName := ⟨RX7, "feed", "(I)I"⟩
abbrev cX7_next : ByteArray := prog_9_method_11_code
def yX7_next : MethodName := ⟨RX7, "next", "()I"⟩
abbrev cX7_takes : ByteArray := prog_9_method_12_code
def yX7_takes : MethodName := ⟨RX7, "takes", "(I)Z"⟩
abbrev cX7_takesWord : ByteArray := prog_9_method_13_code
def yX7_takesWord : MethodName := ⟨RX7, "takesWord", "(II)Z"⟩
abbrev cX7_isDigit : ByteArray := prog_9_method_14_code
def yX7_isDigit : MethodName := ⟨RX7, "isDigit", "()Z"⟩
abbrev cX7_takesNumber : ByteArray := prog_9_method_15_code
def yX7_takesNumber : MethodName := ⟨RX7, "takesNumber", "()Z"⟩
abbrev cX7_emits : ByteArray := prog_9_method_16_code
def yX7_emits : MethodName := ⟨RX7, "emits", "(I)V"⟩
abbrev cX7_whole : ByteArray := prog_9_method_17_code
def yX7_whole : MethodName := ⟨RX7, "whole", "()V"⟩
abbrev cX7_settle : ByteArray := prog_9_method_18_code
def yX7_settle : MethodName := ⟨RX7, "settle", "(I)V"⟩
abbrev cX7_place : ByteArray := prog_9_method_19_code
def yX7_place : MethodName := ⟨RX7, "place", "(I)I"⟩
abbrev cX7_takesTest : ByteArray := prog_9_method_20_code
def yX7_takesTest : MethodName := ⟨RX7, "takesTest", "()Z"⟩
abbrev cX7_takesE : ByteArray := prog_9_method_21_code
def yX7_takesE : MethodName := ⟨RX7, "takesE", "(I)Z"⟩
abbrev cX7_takesHead : ByteArray := prog_9_method_22_code
def yX7_takesHead : MethodName := ⟨RX7, "takesHead", "(I)Z"⟩
abbrev cX7_takesClause : ByteArray := prog_9_method_23_code
def yX7_takesClause : MethodName := ⟨RX7, "takesClause", "(I)Z"⟩
abbrev cX7_goesText : ByteArray := prog_9_method_24_code
def yX7_goesText : MethodName := ⟨RX7, "goesText", "(I)Z"⟩
abbrev cX7_town : ByteArray := prog_9_method_25_code
def yX7_town : MethodName := ⟨RX7, "town", "()I"⟩
abbrev cX7_clauseFrom : ByteArray := prog_9_method_26_code
def yX7_clauseFrom : MethodName := ⟨RX7, "clauseFrom", "()I"⟩
abbrev cX7_clauseTo : ByteArray := prog_9_method_27_code
def yX7_clauseTo : MethodName := ⟨RX7, "clauseTo", "()I"⟩
abbrev cX7_lastOf : ByteArray := prog_9_method_28_code
def yX7_lastOf : MethodName := ⟨RX7, "lastOf", "(II)I"⟩
abbrev cX7_dueNow : ByteArray := prog_9_method_29_code
def yX7_dueNow : MethodName := ⟨RX7, "dueNow", "()I"⟩
abbrev cX7_manyBorn : ByteArray := prog_9_method_30_code
def yX7_manyBorn : MethodName := ⟨RX7, "manyBorn", "(I)I"⟩
abbrev cX7_factOf : ByteArray := prog_9_method_31_code
def yX7_factOf : MethodName := ⟨RX7, "factOf", "(III)I"⟩
abbrev cX7_holds : ByteArray := prog_9_method_32_code
def yX7_holds : MethodName := ⟨RX7, "holds", "(III)Z"⟩
abbrev cX7_takesOf : ByteArray := prog_9_method_33_code
def yX7_takesOf : MethodName := ⟨RX7, "takesOf", "(II)I"⟩
abbrev cX7_thatOne : ByteArray := prog_9_method_34_code
def yX7_thatOne : MethodName := ⟨RX7, "thatOne", "(I)I"⟩
abbrev cX7_behindHated : ByteArray := prog_9_method_35_code
def yX7_behindHated : MethodName := ⟨RX7, "behindHated", "(I)I"⟩
abbrev cX7_shunned : ByteArray := prog_9_method_36_code
def yX7_shunned : MethodName := ⟨RX7, "shunned", "(I)I"⟩
abbrev cX7_wishedDay : ByteArray := prog_9_method_37_code
def yX7_wishedDay : MethodName := ⟨RX7, "wishedDay", "(I)I"⟩
abbrev cX7_sells : ByteArray := prog_9_method_38_code
def yX7_sells : MethodName := ⟨RX7, "sells", "(I)I"⟩
abbrev cX7_putOff : ByteArray := prog_9_method_39_code
def yX7_putOff : MethodName := ⟨RX7, "putOff", "(I)I"⟩
abbrev cX7_of : ByteArray := prog_9_method_40_code
def yX7_of : MethodName := ⟨RX7, "of", "(II)I"⟩
abbrev cX7_allPurses : ByteArray := prog_9_method_41_code
def yX7_allPurses : MethodName := ⟨RX7, "allPurses", "()I"⟩
abbrev cX7_bornOn : ByteArray := prog_9_method_42_code
def yX7_bornOn : MethodName := ⟨RX7, "bornOn", "(I)I"⟩
abbrev cX7_sellOn : ByteArray := prog_9_method_43_code
def yX7_sellOn : MethodName := ⟨RX7, "sellOn", "(I)I"⟩
abbrev cX7_told : ByteArray := prog_9_method_44_code
def yX7_told : MethodName := ⟨RX7, "told", "(I)I"⟩
abbrev cX7_goDay : ByteArray := prog_9_method_45_code
def yX7_goDay : MethodName := ⟨RX7, "goDay", "()I"⟩
abbrev cX7_day : ByteArray := prog_9_method_46_code
def yX7_day : MethodName := ⟨RX7, "day", "()I"⟩
abbrev cX7_keep : ByteArray := prog_9_method_47_code
def yX7_keep : MethodName := ⟨RX7, "keep", "()V"⟩
abbrev cX7_putBack : ByteArray := prog_9_method_48_code
def yX7_putBack : MethodName := ⟨RX7, "putBack", "()V"⟩
abbrev cX7_by : ByteArray := prog_9_method_49_code
def yX7_by : MethodName := ⟨RX7, "by", "(III)I"⟩
abbrev cX7_layYear : ByteArray := prog_9_method_50_code
def yX7_layYear : MethodName := ⟨RX7, "layYear", "()V"⟩
abbrev cX7_yearOf : ByteArray := prog_9_method_51_code
def yX7_yearOf : MethodName := ⟨RX7, "yearOf", "(I)I"⟩
abbrev cX7_years : ByteArray := prog_9_method_52_code
def yX7_years : MethodName := ⟨RX7, "years", "(I)I"⟩
abbrev cX7_layBest : ByteArray := prog_9_method_53_code
def yX7_layBest : MethodName := ⟨RX7, "layBest", "(IZ)V"⟩
abbrev cX7_birth : ByteArray := prog_9_method_54_code
def yX7_birth : MethodName := ⟨RX7, "birth", "(II)I"⟩
abbrev cX7_plan : ByteArray := prog_9_method_55_code
def yX7_plan : MethodName := ⟨RX7, "plan", "(II)I"⟩
abbrev cX7_quiet : ByteArray := prog_9_method_56_code
def yX7_quiet : MethodName := ⟨RX7, "quiet", "()I"⟩
abbrev cX7_foundling : ByteArray := prog_9_method_57_code
def yX7_foundling : MethodName := ⟨RX7, "foundling", "(II)I"⟩
abbrev cX7_forged : ByteArray := prog_9_method_58_code
def yX7_forged : MethodName := ⟨RX7, "forged", "(I)I"⟩
abbrev cX7_wouldChange : ByteArray := prog_9_method_59_code
def yX7_wouldChange : MethodName := ⟨RX7, "wouldChange", "(I)Z"⟩
abbrev cX7_change : ByteArray := prog_9_method_60_code
def yX7_change : MethodName := ⟨RX7, "change", "(I)I"⟩
abbrev cX7_layRest : ByteArray := prog_9_method_61_code
def yX7_layRest : MethodName := ⟨RX7, "layRest", "()I"⟩
abbrev cX7_rest : ByteArray := prog_9_method_62_code
def yX7_rest : MethodName := ⟨RX7, "rest", "(I)I"⟩
abbrev cX7_allMore : ByteArray := prog_9_method_63_code
def yX7_allMore : MethodName := ⟨RX7, "allMore", "()I"⟩
abbrev cX7_reckoning : ByteArray := prog_9_method_64_code
def yX7_reckoning : MethodName := ⟨RX7, "reckoning", "(I)I"⟩
abbrev cX7_high : ByteArray := prog_9_method_65_code
def yX7_high : MethodName := ⟨RX7, "high", "(I)I"⟩
abbrev cX7_othersMore : ByteArray := prog_9_method_66_code
def yX7_othersMore : MethodName := ⟨RX7, "othersMore", "(I)I"⟩
abbrev cX7_last : ByteArray := prog_9_method_67_code
def yX7_last : MethodName := ⟨RX7, "last", "(I)I"⟩
abbrev cX7_divisor : ByteArray := prog_9_method_68_code
def yX7_divisor : MethodName := ⟨RX7, "divisor", "(II)I"⟩
abbrev cX7_lowest : ByteArray := prog_9_method_69_code
def yX7_lowest : MethodName := ⟨RX7, "lowest", "(III)J"⟩
abbrev cX7_yearIf : ByteArray := prog_9_method_70_code
def yX7_yearIf : MethodName := ⟨RX7, "yearIf", "(II)I"⟩
abbrev cX7_odds : ByteArray := prog_9_method_71_code
def yX7_odds : MethodName := ⟨RX7, "odds", "(III)J"⟩
abbrev cX7_mean : ByteArray := prog_9_method_72_code
def yX7_mean : MethodName := ⟨RX7, "mean", "(I)J"⟩
abbrev cX7_book : ByteArray := prog_9_method_73_code
def yX7_book : MethodName := ⟨RX7, "book", "(I)I"⟩
abbrev cX7_looked : ByteArray := prog_9_method_74_code
def yX7_looked : MethodName := ⟨RX7, "looked", "(I)I"⟩
abbrev cX7_judge : ByteArray := prog_9_method_75_code
def yX7_judge : MethodName := ⟨RX7, "judge", "(II)I"⟩
abbrev cX7_image : ByteArray := prog_9_method_76_code
def yX7_image : MethodName := ⟨RX7, "image", "()I"⟩
abbrev cX7_undo : ByteArray := prog_9_method_77_code
def yX7_undo : MethodName := ⟨RX7, "undo", "()I"⟩
abbrev cX7_body : ByteArray := prog_9_method_78_code
def yX7_body : MethodName := ⟨RX7, "body", "(I)V"⟩
abbrev cX7_sellerSells : ByteArray := prog_9_method_79_code
def yX7_sellerSells : MethodName := ⟨RX7, "sellerSells", "(II)I"⟩
abbrev cX7_sellsAct : ByteArray := prog_9_method_80_code
def yX7_sellsAct : MethodName := ⟨RX7, "sellsAct", "(II)I"⟩
abbrev cX7_sellerGives : ByteArray := prog_9_method_81_code
def yX7_sellerGives : MethodName := ⟨RX7, "sellerGives", "(II)I"⟩
abbrev cX7_haterGives : ByteArray := prog_9_method_82_code
def yX7_haterGives : MethodName := ⟨RX7, "haterGives", "(II)I"⟩
abbrev cX7_givesAct : ByteArray := prog_9_method_83_code
def yX7_givesAct : MethodName := ⟨RX7, "givesAct", "(II)I"⟩
abbrev cX7_sellerTells : ByteArray := prog_9_method_84_code
def yX7_sellerTells : MethodName := ⟨RX7, "sellerTells", "(II)I"⟩
abbrev cX7_tellsAct : ByteArray := prog_9_method_85_code
def yX7_tellsAct : MethodName := ⟨RX7, "tellsAct", "(II)I"⟩
abbrev cX7_act : ByteArray := prog_9_method_86_code
def yX7_act : MethodName := ⟨RX7, "act", "(III)I"⟩
abbrev cX7_trace : ByteArray := prog_9_method_87_code
def yX7_trace : MethodName := ⟨RX7, "trace", "(I)I"⟩
abbrev cX7_taken : ByteArray := prog_9_method_88_code
def yX7_taken : MethodName := ⟨RX7, "taken", "(II)I"⟩
abbrev cX7_count : ByteArray := prog_9_method_89_code
def yX7_count : MethodName := ⟨RX7, "count", "(I)I"⟩
abbrev cX7_isTape : ByteArray := prog_9_method_90_code
def yX7_isTape : MethodName := ⟨RX7, "isTape", "(I)Z"⟩
abbrev cX7_tape : ByteArray := prog_9_method_91_code
def yX7_tape : MethodName := ⟨RX7, "tape", "(III)I"⟩
abbrev cX7_narrow : ByteArray := prog_9_method_92_code
def yX7_narrow : MethodName := ⟨RX7, "narrow", "(IJ)J"⟩
abbrev cX7_item : ByteArray := prog_9_method_93_code
def yX7_item : MethodName := ⟨RX7, "item", "(IIJ)I"⟩
abbrev cX7_read : ByteArray := prog_9_method_94_code
def yX7_read : MethodName := ⟨RX7, "read", "(II)J"⟩
abbrev cX7_shift : ByteArray := prog_9_method_95_code
def yX7_shift : MethodName := ⟨RX7, "shift", "(IIIII)I"⟩
def RJ9 : String := "java/lang/Math"
def TJ9 : u_T := fun k => match k with
  | _ => ("", "", "", false)
def tyJ9 : Nat → FieldType := fun k => match k with
  | _ => .int
abbrev wsJ90 : List Cond := u_ws RJ9 TJ9 0
theorem nmJ9 : ∀ a, a < 0 → ∀ b, b < 0 → a ≠ b → (TJ9 a).2.1 ≠ (TJ9 b).2.1 := by decide +kernel
theorem tyJ9_ok : ∀ k, k < 0 → parseFieldDescriptor (TJ9 k).2.2.1 = some (tyJ9 k) := by decide +kernel
abbrev cJ9_abs_0f7a4 : ByteArray := prog_10_method_59_code
def yJ9_abs_0f7a4 : MethodName := ⟨RJ9, "abs", "(I)I"⟩
def RJ0 : String := "java/lang/String"
def TJ0 : u_T := fun k => match k with
  | _ => ("", "", "", false)
def tyJ0 : Nat → FieldType := fun k => match k with
  | _ => .int
abbrev wsJ00 : List Cond := u_ws RJ0 TJ0 0
theorem nmJ0 : ∀ a, a < 0 → ∀ b, b < 0 → a ≠ b → (TJ0 a).2.1 ≠ (TJ0 b).2.1 := by decide +kernel
theorem tyJ0_ok : ∀ k, k < 0 → parseFieldDescriptor (TJ0 k).2.2.1 = some (tyJ0 k) := by decide +kernel
abbrev cJ0_length_8abf5 : ByteArray := prog_11_method_54_code
def yJ0_length_8abf5 : MethodName := ⟨RJ0, "length", "()I"⟩
abbrev cJ0_charAt_5068e : ByteArray := prog_11_method_56_code
def yJ0_charAt_5068e : MethodName := ⟨RJ0, "charAt", "(I)C"⟩
abbrev cJ0_coder_7d493 : ByteArray := prog_11_method_152_code
def yJ0_coder_7d493 : MethodName := ⟨RJ0, "coder", "()B"⟩
abbrev cJ0_isLatin1_aae02 : ByteArray := prog_11_method_154_code
def yJ0_isLatin1_aae02 : MethodName := ⟨RJ0, "isLatin1", "()Z"⟩
abbrev cJ0_checkIndex_df160 : ByteArray := prog_11_method_155_code
def yJ0_checkIndex_df160 : MethodName := ⟨RJ0, "checkIndex", "(II)V"⟩
def RJ1 : String := "java/lang/StringLatin1"
def TJ1 : u_T := fun k => match k with
  | _ => ("", "", "", false)
def tyJ1 : Nat → FieldType := fun k => match k with
  | _ => .int
abbrev wsJ10 : List Cond := u_ws RJ1 TJ1 0
theorem nmJ1 : ∀ a, a < 0 → ∀ b, b < 0 → a ≠ b → (TJ1 a).2.1 ≠ (TJ1 b).2.1 := by decide +kernel
theorem tyJ1_ok : ∀ k, k < 0 → parseFieldDescriptor (TJ1 k).2.2.1 = some (tyJ1 k) := by decide +kernel
abbrev cJ1_charAt_3b067 : ByteArray := prog_12_method_2_code
def yJ1_charAt_3b067 : MethodName := ⟨RJ1, "charAt", "([BI)C"⟩
def RJ2 : String := "java/lang/StringUTF16"
def TJ2 : u_T := fun k => match k with
  | _ => ("", "", "", false)
def tyJ2 : Nat → FieldType := fun k => match k with
  | _ => .int
abbrev wsJ20 : List Cond := u_ws RJ2 TJ2 0
theorem nmJ2 : ∀ a, a < 0 → ∀ b, b < 0 → a ≠ b → (TJ2 a).2.1 ≠ (TJ2 b).2.1 := by decide +kernel
theorem tyJ2_ok : ∀ k, k < 0 → parseFieldDescriptor (TJ2 k).2.2.1 = some (tyJ2 k) := by decide +kernel
abbrev cJ2_getChar_3b067 : ByteArray := prog_13_method_5_code
def yJ2_getChar_3b067 : MethodName := ⟨RJ2, "getChar", "([BI)C"⟩
abbrev cJ2_length_9d52b : ByteArray := prog_13_method_6_code
def yJ2_length_9d52b : MethodName := ⟨RJ2, "length", "([B)I"⟩
abbrev cJ2_charAt_3b067 : ByteArray := prog_13_method_83_code
def yJ2_charAt_3b067 : MethodName := ⟨RJ2, "charAt", "([BI)C"⟩
abbrev cJ2_checkIndex_2214a : ByteArray := prog_13_method_91_code
def yJ2_checkIndex_2214a : MethodName := ⟨RJ2, "checkIndex", "(I[B)V"⟩
def RJ10 : String := "java/lang/System"
def TJ10 : u_T := fun k => match k with
  | _ => ("", "", "", false)
def tyJ10 : Nat → FieldType := fun k => match k with
  | _ => .int
abbrev wsJ100 : List Cond := u_ws RJ10 TJ10 0
theorem nmJ10 : ∀ a, a < 0 → ∀ b, b < 0 → a ≠ b → (TJ10 a).2.1 ≠ (TJ10 b).2.1 := by decide +kernel
theorem tyJ10_ok : ∀ k, k < 0 → parseFieldDescriptor (TJ10 k).2.2.1 = some (tyJ10 k) := by decide +kernel
def RJ3 : String := "jdk/internal/util/Preconditions"
def TJ3 : u_T := fun k => match k with
  | _ => ("", "", "", false)
def tyJ3 : Nat → FieldType := fun k => match k with
  | _ => .int
abbrev wsJ30 : List Cond := u_ws RJ3 TJ3 0
theorem nmJ3 : ∀ a, a < 0 → ∀ b, b < 0 → a ≠ b → (TJ3 a).2.1 ≠ (TJ3 b).2.1 := by decide +kernel
theorem tyJ3_ok : ∀ k, k < 0 → parseFieldDescriptor (TJ3 k).2.2.1 = some (tyJ3 k) := by decide +kernel
abbrev cJ3_checkIndex_8e157 : ByteArray := prog_15_method_11_code
def yJ3_checkIndex_8e157 : MethodName := ⟨RJ3, "checkIndex", "(IILjava/util/function/BiFunction;)I"⟩
def RL : String := "BirthTenthLaw"
abbrev cL_law : ByteArray := code
def yL_law : MethodName := ⟨RL, "law", "([I)Z"⟩
abbrev vwCl : List vw_C := [(RX0, TX0, 5), (RX1, TX1, 9), (RX2, TX2, 13), (RX3, TX3, 3), (RX4, TX4, 4), (RX5, TX5, 10), (RX6, TX6, 11), (RX7, TX7, 60)]
/-- the words that may be passed on -/
def jG : List Cond := lw_tbl.filter goodWord
theorem jG_in {w : Cond} (i : Nat) (h : lw_tbl[i]? = some w) (hg : goodWord w = true) : w ∈ jG := List.mem_filter.mpr ⟨List.mem_of_getElem? h, hg⟩
theorem jG_i0 {w : Cond} (i : Nat) (h : (k2_sels lw_privs)[i]? = some w) (hg : goodWord w = true) : w ∈ jG := List.mem_filter.mpr ⟨List.mem_append_left _ (List.mem_of_getElem? h), hg⟩
theorem jG_i1 {w : Cond} (i : Nat) (h : tables_1_1[i]? = some w) (hg : goodWord w = true) : w ∈ jG := List.mem_filter.mpr ⟨List.mem_append_right _ (show w ∈ tables_1 from (List.mem_append_left _ (List.mem_of_getElem? h))), hg⟩
theorem jG_i2 {w : Cond} (i : Nat) (h : tables_1_2[i]? = some w) (hg : goodWord w = true) : w ∈ jG := List.mem_filter.mpr ⟨List.mem_append_right _ (show w ∈ tables_1 from (List.mem_append_right _ (List.mem_append_left _ (List.mem_of_getElem? h)))), hg⟩
theorem jG_i3 {w : Cond} (i : Nat) (h : tables_1_3[i]? = some w) (hg : goodWord w = true) : w ∈ jG := List.mem_filter.mpr ⟨List.mem_append_right _ (show w ∈ tables_1 from (List.mem_append_right _ (List.mem_append_right _ (List.mem_append_left _ (List.mem_of_getElem? h))))), hg⟩
theorem jG_i4 {w : Cond} (i : Nat) (h : tables_1_4[i]? = some w) (hg : goodWord w = true) : w ∈ jG := List.mem_filter.mpr ⟨List.mem_append_right _ (show w ∈ tables_1 from (List.mem_append_right _ (List.mem_append_right _ (List.mem_append_right _ (List.mem_append_left _ (List.mem_of_getElem? h)))))), hg⟩
theorem jG_i5 {w : Cond} (i : Nat) (h : tables_1_5[i]? = some w) (hg : goodWord w = true) : w ∈ jG := List.mem_filter.mpr ⟨List.mem_append_right _ (show w ∈ tables_1 from (List.mem_append_right _ (List.mem_append_right _ (List.mem_append_right _ (List.mem_append_right _ (List.mem_append_left _ (List.mem_of_getElem? h))))))), hg⟩
theorem jG_i6 {w : Cond} (i : Nat) (h : tables_1_6[i]? = some w) (hg : goodWord w = true) : w ∈ jG := List.mem_filter.mpr ⟨List.mem_append_right _ (show w ∈ tables_1 from (List.mem_append_right _ (List.mem_append_right _ (List.mem_append_right _ (List.mem_append_right _ (List.mem_append_right _ (List.mem_of_getElem? h))))))), hg⟩
theorem jG_good : GoodIn jG jG := fun w h => ⟨h, good_of_word (List.mem_filter.mp h).2⟩
theorem jG_tbl : ∀ w ∈ jG, w ∈ lw_tbl := fun w h => (List.mem_filter.mp h).1
set_option maxRecDepth 100000 in
theorem jl0_0 : u_lay RX0 TX0 0 ∈ jG := jG_i1 62 rfl rfl
set_option maxRecDepth 100000 in
theorem jl0_1 : u_lay RX0 TX0 1 ∈ jG := jG_i1 64 rfl rfl
set_option maxRecDepth 100000 in
theorem jl0_2 : u_lay RX0 TX0 2 ∈ jG := jG_i1 66 rfl rfl
set_option maxRecDepth 100000 in
theorem jl0_3 : u_lay RX0 TX0 3 ∈ jG := jG_i1 68 rfl rfl
set_option maxRecDepth 100000 in
theorem jl0_4 : u_lay RX0 TX0 4 ∈ jG := jG_i1 70 rfl rfl
theorem jin0 : ∀ w ∈ wsX00, w ∈ jG := by
  intro w hw
  obtain ⟨k, hk, rfl⟩ := List.mem_map.mp hw
  have hk := List.mem_range.mp hk
  match k, hk with
  | 0, _ => exact jl0_0
  | 1, _ => exact jl0_1
  | 2, _ => exact jl0_2
  | 3, _ => exact jl0_3
  | 4, _ => exact jl0_4
  | k + 5, hk => omega
set_option maxRecDepth 100000 in
theorem jl1_0 : u_lay RX1 TX1 0 ∈ jG := jG_i1 220 rfl rfl
set_option maxRecDepth 100000 in
theorem jl1_1 : u_lay RX1 TX1 1 ∈ jG := jG_i1 222 rfl rfl
set_option maxRecDepth 100000 in
theorem jl1_2 : u_lay RX1 TX1 2 ∈ jG := jG_i1 224 rfl rfl
set_option maxRecDepth 100000 in
theorem jl1_3 : u_lay RX1 TX1 3 ∈ jG := jG_i1 226 rfl rfl
set_option maxRecDepth 100000 in
theorem jl1_4 : u_lay RX1 TX1 4 ∈ jG := jG_i1 228 rfl rfl
set_option maxRecDepth 100000 in
theorem jl1_5 : u_lay RX1 TX1 5 ∈ jG := jG_i1 230 rfl rfl
set_option maxRecDepth 100000 in
theorem jl1_6 : u_lay RX1 TX1 6 ∈ jG := jG_i1 232 rfl rfl
set_option maxRecDepth 100000 in
theorem jl1_7 : u_lay RX1 TX1 7 ∈ jG := jG_i1 234 rfl rfl
set_option maxRecDepth 100000 in
theorem jl1_8 : u_lay RX1 TX1 8 ∈ jG := jG_i1 236 rfl rfl
theorem jin1 : ∀ w ∈ wsX10, w ∈ jG := by
  intro w hw
  obtain ⟨k, hk, rfl⟩ := List.mem_map.mp hw
  have hk := List.mem_range.mp hk
  match k, hk with
  | 0, _ => exact jl1_0
  | 1, _ => exact jl1_1
  | 2, _ => exact jl1_2
  | 3, _ => exact jl1_3
  | 4, _ => exact jl1_4
  | 5, _ => exact jl1_5
  | 6, _ => exact jl1_6
  | 7, _ => exact jl1_7
  | 8, _ => exact jl1_8
  | k + 9, hk => omega
set_option maxRecDepth 100000 in
theorem jl2_0 : u_lay RX2 TX2 0 ∈ jG := jG_i1 171 rfl rfl
set_option maxRecDepth 100000 in
theorem jl2_1 : u_lay RX2 TX2 1 ∈ jG := jG_i1 173 rfl rfl
set_option maxRecDepth 100000 in
theorem jl2_2 : u_lay RX2 TX2 2 ∈ jG := jG_i1 175 rfl rfl
set_option maxRecDepth 100000 in
theorem jl2_3 : u_lay RX2 TX2 3 ∈ jG := jG_i1 177 rfl rfl
set_option maxRecDepth 100000 in
theorem jl2_4 : u_lay RX2 TX2 4 ∈ jG := jG_i1 179 rfl rfl
set_option maxRecDepth 100000 in
theorem jl2_5 : u_lay RX2 TX2 5 ∈ jG := jG_i1 181 rfl rfl
set_option maxRecDepth 100000 in
theorem jl2_6 : u_lay RX2 TX2 6 ∈ jG := jG_i1 183 rfl rfl
set_option maxRecDepth 100000 in
theorem jl2_7 : u_lay RX2 TX2 7 ∈ jG := jG_i1 185 rfl rfl
set_option maxRecDepth 100000 in
theorem jl2_8 : u_lay RX2 TX2 8 ∈ jG := jG_i1 187 rfl rfl
set_option maxRecDepth 100000 in
theorem jl2_9 : u_lay RX2 TX2 9 ∈ jG := jG_i1 189 rfl rfl
set_option maxRecDepth 100000 in
theorem jl2_10 : u_lay RX2 TX2 10 ∈ jG := jG_i1 191 rfl rfl
set_option maxRecDepth 100000 in
theorem jl2_11 : u_lay RX2 TX2 11 ∈ jG := jG_i1 193 rfl rfl
set_option maxRecDepth 100000 in
theorem jl2_12 : u_lay RX2 TX2 12 ∈ jG := jG_i1 195 rfl rfl
theorem jin2 : ∀ w ∈ wsX20, w ∈ jG := by
  intro w hw
  obtain ⟨k, hk, rfl⟩ := List.mem_map.mp hw
  have hk := List.mem_range.mp hk
  match k, hk with
  | 0, _ => exact jl2_0
  | 1, _ => exact jl2_1
  | 2, _ => exact jl2_2
  | 3, _ => exact jl2_3
  | 4, _ => exact jl2_4
  | 5, _ => exact jl2_5
  | 6, _ => exact jl2_6
  | 7, _ => exact jl2_7
  | 8, _ => exact jl2_8
  | 9, _ => exact jl2_9
  | 10, _ => exact jl2_10
  | 11, _ => exact jl2_11
  | 12, _ => exact jl2_12
  | k + 13, hk => omega
set_option maxRecDepth 100000 in
theorem jl3_0 : u_lay RX3 TX3 0 ∈ jG := jG_i2 10 rfl rfl
set_option maxRecDepth 100000 in
theorem jl3_1 : u_lay RX3 TX3 1 ∈ jG := jG_i2 12 rfl rfl
set_option maxRecDepth 100000 in
theorem jl3_2 : u_lay RX3 TX3 2 ∈ jG := jG_i2 14 rfl rfl
theorem jin3 : ∀ w ∈ wsX30, w ∈ jG := by
  intro w hw
  obtain ⟨k, hk, rfl⟩ := List.mem_map.mp hw
  have hk := List.mem_range.mp hk
  match k, hk with
  | 0, _ => exact jl3_0
  | 1, _ => exact jl3_1
  | 2, _ => exact jl3_2
  | k + 3, hk => omega
set_option maxRecDepth 100000 in
theorem jl4_0 : u_lay RX4 TX4 0 ∈ jG := jG_i1 36 rfl rfl
set_option maxRecDepth 100000 in
theorem jl4_1 : u_lay RX4 TX4 1 ∈ jG := jG_i1 38 rfl rfl
set_option maxRecDepth 100000 in
theorem jl4_2 : u_lay RX4 TX4 2 ∈ jG := jG_i1 40 rfl rfl
set_option maxRecDepth 100000 in
theorem jl4_3 : u_lay RX4 TX4 3 ∈ jG := jG_i1 42 rfl rfl
theorem jin4 : ∀ w ∈ wsX40, w ∈ jG := by
  intro w hw
  obtain ⟨k, hk, rfl⟩ := List.mem_map.mp hw
  have hk := List.mem_range.mp hk
  match k, hk with
  | 0, _ => exact jl4_0
  | 1, _ => exact jl4_1
  | 2, _ => exact jl4_2
  | 3, _ => exact jl4_3
  | k + 4, hk => omega
set_option maxRecDepth 100000 in
theorem jl5_0 : u_lay RX5 TX5 0 ∈ jG := jG_i1 108 rfl rfl
set_option maxRecDepth 100000 in
theorem jl5_1 : u_lay RX5 TX5 1 ∈ jG := jG_i1 110 rfl rfl
set_option maxRecDepth 100000 in
theorem jl5_2 : u_lay RX5 TX5 2 ∈ jG := jG_i1 112 rfl rfl
set_option maxRecDepth 100000 in
theorem jl5_3 : u_lay RX5 TX5 3 ∈ jG := jG_i1 114 rfl rfl
set_option maxRecDepth 100000 in
theorem jl5_4 : u_lay RX5 TX5 4 ∈ jG := jG_i1 116 rfl rfl
set_option maxRecDepth 100000 in
theorem jl5_5 : u_lay RX5 TX5 5 ∈ jG := jG_i1 118 rfl rfl
set_option maxRecDepth 100000 in
theorem jl5_6 : u_lay RX5 TX5 6 ∈ jG := jG_i1 120 rfl rfl
set_option maxRecDepth 100000 in
theorem jl5_7 : u_lay RX5 TX5 7 ∈ jG := jG_i1 122 rfl rfl
set_option maxRecDepth 100000 in
theorem jl5_8 : u_lay RX5 TX5 8 ∈ jG := jG_i1 124 rfl rfl
set_option maxRecDepth 100000 in
theorem jl5_9 : u_lay RX5 TX5 9 ∈ jG := jG_i1 126 rfl rfl
theorem jin5 : ∀ w ∈ wsX50, w ∈ jG := by
  intro w hw
  obtain ⟨k, hk, rfl⟩ := List.mem_map.mp hw
  have hk := List.mem_range.mp hk
  match k, hk with
  | 0, _ => exact jl5_0
  | 1, _ => exact jl5_1
  | 2, _ => exact jl5_2
  | 3, _ => exact jl5_3
  | 4, _ => exact jl5_4
  | 5, _ => exact jl5_5
  | 6, _ => exact jl5_6
  | 7, _ => exact jl5_7
  | 8, _ => exact jl5_8
  | 9, _ => exact jl5_9
  | k + 10, hk => omega
set_option maxRecDepth 100000 in
theorem jl6_0 : u_lay RX6 TX6 0 ∈ jG := jG_i2 29 rfl rfl
set_option maxRecDepth 100000 in
theorem jl6_1 : u_lay RX6 TX6 1 ∈ jG := jG_i2 31 rfl rfl
set_option maxRecDepth 100000 in
theorem jl6_2 : u_lay RX6 TX6 2 ∈ jG := jG_i2 33 rfl rfl
set_option maxRecDepth 100000 in
theorem jl6_3 : u_lay RX6 TX6 3 ∈ jG := jG_i2 35 rfl rfl
set_option maxRecDepth 100000 in
theorem jl6_4 : u_lay RX6 TX6 4 ∈ jG := jG_i2 37 rfl rfl
set_option maxRecDepth 100000 in
theorem jl6_5 : u_lay RX6 TX6 5 ∈ jG := jG_i2 39 rfl rfl
set_option maxRecDepth 100000 in
theorem jl6_6 : u_lay RX6 TX6 6 ∈ jG := jG_i2 41 rfl rfl
set_option maxRecDepth 100000 in
theorem jl6_7 : u_lay RX6 TX6 7 ∈ jG := jG_i2 43 rfl rfl
set_option maxRecDepth 100000 in
theorem jl6_8 : u_lay RX6 TX6 8 ∈ jG := jG_i2 45 rfl rfl
set_option maxRecDepth 100000 in
theorem jl6_9 : u_lay RX6 TX6 9 ∈ jG := jG_i2 47 rfl rfl
set_option maxRecDepth 100000 in
theorem jl6_10 : u_lay RX6 TX6 10 ∈ jG := jG_i2 49 rfl rfl
theorem jin6 : ∀ w ∈ wsX60, w ∈ jG := by
  intro w hw
  obtain ⟨k, hk, rfl⟩ := List.mem_map.mp hw
  have hk := List.mem_range.mp hk
  match k, hk with
  | 0, _ => exact jl6_0
  | 1, _ => exact jl6_1
  | 2, _ => exact jl6_2
  | 3, _ => exact jl6_3
  | 4, _ => exact jl6_4
  | 5, _ => exact jl6_5
  | 6, _ => exact jl6_6
  | 7, _ => exact jl6_7
  | 8, _ => exact jl6_8
  | 9, _ => exact jl6_9
  | 10, _ => exact jl6_10
  | k + 11, hk => omega
set_option maxRecDepth 100000 in
theorem jl7_0 : u_lay RX7 TX7 0 ∈ jG := jG_i4 37 rfl rfl
set_option maxRecDepth 100000 in
theorem jl7_1 : u_lay RX7 TX7 1 ∈ jG := jG_i4 39 rfl rfl
set_option maxRecDepth 100000 in
theorem jl7_2 : u_lay RX7 TX7 2 ∈ jG := jG_i4 41 rfl rfl
set_option maxRecDepth 100000 in
theorem jl7_3 : u_lay RX7 TX7 3 ∈ jG := jG_i4 43 rfl rfl
set_option maxRecDepth 100000 in
theorem jl7_4 : u_lay RX7 TX7 4 ∈ jG := jG_i4 45 rfl rfl
set_option maxRecDepth 100000 in
theorem jl7_5 : u_lay RX7 TX7 5 ∈ jG := jG_i4 47 rfl rfl
set_option maxRecDepth 100000 in
theorem jl7_6 : u_lay RX7 TX7 6 ∈ jG := jG_i4 49 rfl rfl
set_option maxRecDepth 100000 in
theorem jl7_7 : u_lay RX7 TX7 7 ∈ jG := jG_i4 51 rfl rfl
set_option maxRecDepth 100000 in
theorem jl7_8 : u_lay RX7 TX7 8 ∈ jG := jG_i4 53 rfl rfl
set_option maxRecDepth 100000 in
theorem jl7_9 : u_lay RX7 TX7 9 ∈ jG := jG_i4 55 rfl rfl
set_option maxRecDepth 100000 in
theorem jl7_10 : u_lay RX7 TX7 10 ∈ jG := jG_i4 57 rfl rfl
set_option maxRecDepth 100000 in
theorem jl7_11 : u_lay RX7 TX7 11 ∈ jG := jG_i4 59 rfl rfl
set_option maxRecDepth 100000 in
theorem jl7_12 : u_lay RX7 TX7 12 ∈ jG := jG_i4 61 rfl rfl
set_option maxRecDepth 100000 in
theorem jl7_13 : u_lay RX7 TX7 13 ∈ jG := jG_i4 63 rfl rfl
set_option maxRecDepth 100000 in
theorem jl7_14 : u_lay RX7 TX7 14 ∈ jG := jG_i4 65 rfl rfl
set_option maxRecDepth 100000 in
theorem jl7_15 : u_lay RX7 TX7 15 ∈ jG := jG_i4 67 rfl rfl
set_option maxRecDepth 100000 in
theorem jl7_16 : u_lay RX7 TX7 16 ∈ jG := jG_i4 69 rfl rfl
set_option maxRecDepth 100000 in
theorem jl7_17 : u_lay RX7 TX7 17 ∈ jG := jG_i4 71 rfl rfl
set_option maxRecDepth 100000 in
theorem jl7_18 : u_lay RX7 TX7 18 ∈ jG := jG_i4 73 rfl rfl
set_option maxRecDepth 100000 in
theorem jl7_19 : u_lay RX7 TX7 19 ∈ jG := jG_i4 75 rfl rfl
set_option maxRecDepth 100000 in
theorem jl7_20 : u_lay RX7 TX7 20 ∈ jG := jG_i4 77 rfl rfl
set_option maxRecDepth 100000 in
theorem jl7_21 : u_lay RX7 TX7 21 ∈ jG := jG_i4 79 rfl rfl
set_option maxRecDepth 100000 in
theorem jl7_22 : u_lay RX7 TX7 22 ∈ jG := jG_i4 81 rfl rfl
set_option maxRecDepth 100000 in
theorem jl7_23 : u_lay RX7 TX7 23 ∈ jG := jG_i4 83 rfl rfl
set_option maxRecDepth 100000 in
theorem jl7_24 : u_lay RX7 TX7 24 ∈ jG := jG_i4 85 rfl rfl
set_option maxRecDepth 100000 in
theorem jl7_25 : u_lay RX7 TX7 25 ∈ jG := jG_i4 87 rfl rfl
set_option maxRecDepth 100000 in
theorem jl7_26 : u_lay RX7 TX7 26 ∈ jG := jG_i4 89 rfl rfl
set_option maxRecDepth 100000 in
theorem jl7_27 : u_lay RX7 TX7 27 ∈ jG := jG_i4 91 rfl rfl
set_option maxRecDepth 100000 in
theorem jl7_28 : u_lay RX7 TX7 28 ∈ jG := jG_i4 93 rfl rfl
set_option maxRecDepth 100000 in
theorem jl7_29 : u_lay RX7 TX7 29 ∈ jG := jG_i4 95 rfl rfl
set_option maxRecDepth 100000 in
theorem jl7_30 : u_lay RX7 TX7 30 ∈ jG := jG_i4 97 rfl rfl
set_option maxRecDepth 100000 in
theorem jl7_31 : u_lay RX7 TX7 31 ∈ jG := jG_i4 99 rfl rfl
set_option maxRecDepth 100000 in
theorem jl7_32 : u_lay RX7 TX7 32 ∈ jG := jG_i4 101 rfl rfl
set_option maxRecDepth 100000 in
theorem jl7_33 : u_lay RX7 TX7 33 ∈ jG := jG_i4 103 rfl rfl
set_option maxRecDepth 100000 in
theorem jl7_34 : u_lay RX7 TX7 34 ∈ jG := jG_i4 105 rfl rfl
set_option maxRecDepth 100000 in
theorem jl7_35 : u_lay RX7 TX7 35 ∈ jG := jG_i4 107 rfl rfl
set_option maxRecDepth 100000 in
theorem jl7_36 : u_lay RX7 TX7 36 ∈ jG := jG_i4 109 rfl rfl
set_option maxRecDepth 100000 in
theorem jl7_37 : u_lay RX7 TX7 37 ∈ jG := jG_i4 111 rfl rfl
set_option maxRecDepth 100000 in
theorem jl7_38 : u_lay RX7 TX7 38 ∈ jG := jG_i4 113 rfl rfl
set_option maxRecDepth 100000 in
theorem jl7_39 : u_lay RX7 TX7 39 ∈ jG := jG_i4 115 rfl rfl
set_option maxRecDepth 100000 in
theorem jl7_40 : u_lay RX7 TX7 40 ∈ jG := jG_i4 117 rfl rfl
set_option maxRecDepth 100000 in
theorem jl7_41 : u_lay RX7 TX7 41 ∈ jG := jG_i4 119 rfl rfl
set_option maxRecDepth 100000 in
theorem jl7_42 : u_lay RX7 TX7 42 ∈ jG := jG_i4 121 rfl rfl
set_option maxRecDepth 100000 in
theorem jl7_43 : u_lay RX7 TX7 43 ∈ jG := jG_i4 123 rfl rfl
set_option maxRecDepth 100000 in
theorem jl7_44 : u_lay RX7 TX7 44 ∈ jG := jG_i4 125 rfl rfl
set_option maxRecDepth 100000 in
theorem jl7_45 : u_lay RX7 TX7 45 ∈ jG := jG_i4 127 rfl rfl
set_option maxRecDepth 100000 in
theorem jl7_46 : u_lay RX7 TX7 46 ∈ jG := jG_i4 129 rfl rfl
set_option maxRecDepth 100000 in
theorem jl7_47 : u_lay RX7 TX7 47 ∈ jG := jG_i4 131 rfl rfl
set_option maxRecDepth 100000 in
theorem jl7_48 : u_lay RX7 TX7 48 ∈ jG := jG_i4 133 rfl rfl
set_option maxRecDepth 100000 in
theorem jl7_49 : u_lay RX7 TX7 49 ∈ jG := jG_i4 135 rfl rfl
set_option maxRecDepth 100000 in
theorem jl7_50 : u_lay RX7 TX7 50 ∈ jG := jG_i4 137 rfl rfl
set_option maxRecDepth 100000 in
theorem jl7_51 : u_lay RX7 TX7 51 ∈ jG := jG_i4 139 rfl rfl
set_option maxRecDepth 100000 in
theorem jl7_52 : u_lay RX7 TX7 52 ∈ jG := jG_i4 141 rfl rfl
set_option maxRecDepth 100000 in
theorem jl7_53 : u_lay RX7 TX7 53 ∈ jG := jG_i4 143 rfl rfl
set_option maxRecDepth 100000 in
theorem jl7_54 : u_lay RX7 TX7 54 ∈ jG := jG_i4 145 rfl rfl
set_option maxRecDepth 100000 in
theorem jl7_55 : u_lay RX7 TX7 55 ∈ jG := jG_i4 147 rfl rfl
set_option maxRecDepth 100000 in
theorem jl7_56 : u_lay RX7 TX7 56 ∈ jG := jG_i4 149 rfl rfl
set_option maxRecDepth 100000 in
theorem jl7_57 : u_lay RX7 TX7 57 ∈ jG := jG_i4 151 rfl rfl
set_option maxRecDepth 100000 in
theorem jl7_58 : u_lay RX7 TX7 58 ∈ jG := jG_i4 153 rfl rfl
set_option maxRecDepth 100000 in
theorem jl7_59 : u_lay RX7 TX7 59 ∈ jG := jG_i4 155 rfl rfl
theorem jin7 : ∀ w ∈ wsX70, w ∈ jG := by
  intro w hw
  obtain ⟨k, hk, rfl⟩ := List.mem_map.mp hw
  have hk := List.mem_range.mp hk
  match k, hk with
  | 0, _ => exact jl7_0
  | 1, _ => exact jl7_1
  | 2, _ => exact jl7_2
  | 3, _ => exact jl7_3
  | 4, _ => exact jl7_4
  | 5, _ => exact jl7_5
  | 6, _ => exact jl7_6
  | 7, _ => exact jl7_7
  | 8, _ => exact jl7_8
  | 9, _ => exact jl7_9
  | 10, _ => exact jl7_10
  | 11, _ => exact jl7_11
  | 12, _ => exact jl7_12
  | 13, _ => exact jl7_13
  | 14, _ => exact jl7_14
  | 15, _ => exact jl7_15
  | 16, _ => exact jl7_16
  | 17, _ => exact jl7_17
  | 18, _ => exact jl7_18
  | 19, _ => exact jl7_19
  | 20, _ => exact jl7_20
  | 21, _ => exact jl7_21
  | 22, _ => exact jl7_22
  | 23, _ => exact jl7_23
  | 24, _ => exact jl7_24
  | 25, _ => exact jl7_25
  | 26, _ => exact jl7_26
  | 27, _ => exact jl7_27
  | 28, _ => exact jl7_28
  | 29, _ => exact jl7_29
  | 30, _ => exact jl7_30
  | 31, _ => exact jl7_31
  | 32, _ => exact jl7_32
  | 33, _ => exact jl7_33
  | 34, _ => exact jl7_34
  | 35, _ => exact jl7_35
  | 36, _ => exact jl7_36
  | 37, _ => exact jl7_37
  | 38, _ => exact jl7_38
  | 39, _ => exact jl7_39
  | 40, _ => exact jl7_40
  | 41, _ => exact jl7_41
  | 42, _ => exact jl7_42
  | 43, _ => exact jl7_43
  | 44, _ => exact jl7_44
  | 45, _ => exact jl7_45
  | 46, _ => exact jl7_46
  | 47, _ => exact jl7_47
  | 48, _ => exact jl7_48
  | 49, _ => exact jl7_49
  | 50, _ => exact jl7_50
  | 51, _ => exact jl7_51
  | 52, _ => exact jl7_52
  | 53, _ => exact jl7_53
  | 54, _ => exact jl7_54
  | 55, _ => exact jl7_55
  | 56, _ => exact jl7_56
  | 57, _ => exact jl7_57
  | 58, _ => exact jl7_58
  | 59, _ => exact jl7_59
  | k + 60, hk => omega
