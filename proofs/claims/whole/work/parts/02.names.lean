/-! ===== BEGIN words of one list among another's, by their places ===== -/
theorem goodIn_r {big : List Cond} (ws : List Cond) (ps : List Nat) (hp : ws = ps.filterMap (fun i => big[i]?)) (h : ws.all goodWord = true) : GoodIn big ws := by
  intro w hw
  have h1 := List.all_eq_true.mp h w hw
  rw [hp] at hw
  obtain ⟨i, -, hi⟩ := List.mem_filterMap.mp hw
  have hm : w ∈ big := by first | exact List.mem_of_getElem? hi | exact List.getElem?_mem hi
  exact ⟨hm, good_of_word h1⟩
theorem goodIn_app {big a b : List Cond} (ha : GoodIn big a) (hb : GoodIn big b) : GoodIn big (a ++ b) := fun w h => (List.mem_append.mp h).elim (ha w) (hb w)
theorem goodIn_ca {big a b : List Cond} {c : Cond} (ha : GoodIn big (c :: a)) (hb : GoodIn big b) : GoodIn big (c :: (a ++ b)) := fun w h => (List.mem_cons.mp h).elim (fun e => ha w (List.mem_cons.mpr (Or.inl e))) (fun h => (List.mem_append.mp h).elim (fun h => ha w (List.mem_cons.mpr (Or.inr h))) (hb w))
theorem goodIn_sub {big ws : List Cond} (hm : ∀ w ∈ ws, w ∈ big) (h : ws.all goodWord = true) : GoodIn big ws := fun w hw => ⟨hm w hw, good_of_word (List.all_eq_true.mp h w hw)⟩
/-! ===== END ===== -/

/-! ===== BEGIN printed: names, fields, word lists, decode rows ===== -/
def RX0 : String := "WindPost$Chart"
def TX0 : u_T := fun k => match k with
  | 0 => ("WindPost$Chart", "wide", "I", false)
  | 1 => ("WindPost$Chart", "high", "I", false)
  | 2 => ("WindPost$Chart", "force", "I", false)
  | 3 => ("WindPost$Chart", "isles", "I", false)
  | 4 => ("WindPost$Chart", "hills", "I", false)
  | 5 => ("WindPost$Chart", "told", "I", false)
  | 6 => ("WindPost$Chart", "isleCells", "[I", true)
  | 7 => ("WindPost$Chart", "holds", "[I", true)
  | 8 => ("WindPost$Chart", "winds", "[I", true)
  | _ => ("WindPost$Chart", "ends", "[I", true)
def tyX0 : Nat → FieldType := fun k => match k with
  | 0 => .int
  | 1 => .int
  | 2 => .int
  | 3 => .int
  | 4 => .int
  | 5 => .int
  | 6 => .array .int
  | 7 => .array .int
  | 8 => .array .int
  | _ => .array .int
abbrev wsX00 : List Cond := u_ws RX0 TX0 10
theorem nmX0 : ∀ a, a < 10 → ∀ b, b < 10 → a ≠ b → (TX0 a).2.1 ≠ (TX0 b).2.1 := by decide +kernel
theorem tyX0_ok : ∀ k, k < 10 → parseFieldDescriptor (TX0 k).2.2.1 = some (tyX0 k) := by decide +kernel
abbrev cX0_init : ByteArray := prog_2_method_1_code
def yX0_init : MethodName := ⟨RX0, "<init>", "()V"⟩
abbrev cX0_untell : ByteArray := prog_2_method_2_code
def yX0_untell : MethodName := ⟨RX0, "untell", "()V"⟩
abbrev cX0_cells : ByteArray := prog_2_method_3_code
def yX0_cells : MethodName := ⟨RX0, "cells", "()I"⟩
abbrev cX0_cellOfIsle : ByteArray := prog_2_method_4_code
def yX0_cellOfIsle : MethodName := ⟨RX0, "cellOfIsle", "(I)I"⟩
abbrev cX0_onCell : ByteArray := prog_2_method_5_code
def yX0_onCell : MethodName := ⟨RX0, "onCell", "(I)I"⟩
abbrev cX0_addIsle : ByteArray := prog_2_method_6_code
def yX0_addIsle : MethodName := ⟨RX0, "addIsle", "(I)V"⟩
abbrev cX0_addHill : ByteArray := prog_2_method_7_code
def yX0_addHill : MethodName := ⟨RX0, "addHill", "(I)V"⟩
abbrev cX0_addWind : ByteArray := prog_2_method_8_code
def yX0_addWind : MethodName := ⟨RX0, "addWind", "(I)V"⟩
abbrev cX0_drawEnds : ByteArray := prog_2_method_9_code
def yX0_drawEnds : MethodName := ⟨RX0, "drawEnds", "()V"⟩
abbrev cX0_drawWay : ByteArray := prog_2_method_10_code
def yX0_drawWay : MethodName := ⟨RX0, "drawWay", "(II)V"⟩
abbrev cX0_beside : ByteArray := prog_2_method_11_code
def yX0_beside : MethodName := ⟨RX0, "beside", "(II)I"⟩
abbrev cX0_endOf : ByteArray := prog_2_method_12_code
def yX0_endOf : MethodName := ⟨RX0, "endOf", "(III)I"⟩
def RX1 : String := "WindPost$Letter"
def TX1 : u_T := fun k => match k with
  | 0 => ("WindPost$Letter", "weight", "I", false)
  | 1 => ("WindPost$Letter", "from", "I", false)
  | 2 => ("WindPost$Letter", "to", "I", false)
  | 3 => ("WindPost$Letter", "place", "I", false)
  | 4 => ("WindPost$Letter", "marks", "I", false)
  | 5 => ("WindPost$Letter", "how", "I", false)
  | _ => ("WindPost$Letter", "reach", "I", false)
def tyX1 : Nat → FieldType := fun k => match k with
  | 0 => .int
  | 1 => .int
  | 2 => .int
  | 3 => .int
  | 4 => .int
  | 5 => .int
  | _ => .int
abbrev wsX10 : List Cond := u_ws RX1 TX1 7
theorem nmX1 : ∀ a, a < 7 → ∀ b, b < 7 → a ≠ b → (TX1 a).2.1 ≠ (TX1 b).2.1 := by decide +kernel
theorem tyX1_ok : ∀ k, k < 7 → parseFieldDescriptor (TX1 k).2.2.1 = some (tyX1 k) := by decide +kernel
abbrev cX1_init : ByteArray := prog_3_method_1_code
def yX1_init : MethodName := ⟨RX1, "<init>", "()V"⟩
abbrev cX1_letUp : ByteArray := prog_3_method_2_code
def yX1_letUp : MethodName := ⟨RX1, "letUp", "(LWindPost$Chart;III)V"⟩
abbrev cX1_copyFrom : ByteArray := prog_3_method_3_code
def yX1_copyFrom : MethodName := ⟨RX1, "copyFrom", "(LWindPost$Letter;)V"⟩
abbrev cX1_passHour : ByteArray := prog_3_method_4_code
def yX1_passHour : MethodName := ⟨RX1, "passHour", "(LWindPost$Chart;II)V"⟩
def RX2 : String := "WindPost$Moment"
def TX2 : u_T := fun k => match k with
  | 0 => ("WindPost$Moment", "time", "I", false)
  | 1 => ("WindPost$Moment", "letters", "I", false)
  | 2 => ("WindPost$Moment", "nets", "I", false)
  | 3 => ("WindPost$Moment", "told", "I", false)
  | 4 => ("WindPost$Moment", "winds", "[I", true)
  | _ => ("WindPost$Moment", "post", "[LWindPost$Letter;", true)
def tyX2 : Nat → FieldType := fun k => match k with
  | 0 => .int
  | 1 => .int
  | 2 => .int
  | 3 => .int
  | 4 => .array .int
  | _ => .array (.object "WindPost$Letter")
abbrev wsX20 : List Cond := u_ws RX2 TX2 6
theorem nmX2 : ∀ a, a < 6 → ∀ b, b < 6 → a ≠ b → (TX2 a).2.1 ≠ (TX2 b).2.1 := by decide +kernel
theorem tyX2_ok : ∀ k, k < 6 → parseFieldDescriptor (TX2 k).2.2.1 = some (tyX2 k) := by decide +kernel
abbrev cX2_init : ByteArray := prog_4_method_1_code
def yX2_init : MethodName := ⟨RX2, "<init>", "()V"⟩
abbrev cX2_beginAnew : ByteArray := prog_4_method_2_code
def yX2_beginAnew : MethodName := ⟨RX2, "beginAnew", "(LWindPost$Chart;)V"⟩
abbrev cX2_copyFrom : ByteArray := prog_4_method_3_code
def yX2_copyFrom : MethodName := ⟨RX2, "copyFrom", "(LWindPost$Moment;)V"⟩
abbrev cX2_windOf : ByteArray := prog_4_method_4_code
def yX2_windOf : MethodName := ⟨RX2, "windOf", "(I)I"⟩
abbrev cX2_lettersUp : ByteArray := prog_4_method_5_code
def yX2_lettersUp : MethodName := ⟨RX2, "lettersUp", "()I"⟩
def RX3 : String := "WindPost$Text"
def TX3 : u_T := fun k => match k with
  | 0 => ("WindPost$Text", "length", "I", false)
  | 1 => ("WindPost$Text", "signs", "[I", true)
  | 2 => ("WindPost$Text", "next", "I", false)
  | 3 => ("WindPost$Text", "place", "I", false)
  | 4 => ("WindPost$Text", "token", "I", false)
  | 5 => ("WindPost$Text", "number", "I", false)
  | 6 => ("WindPost$Text", "items", "I", false)
  | _ => ("WindPost$Text", "forceTold", "Z", false)
def tyX3 : Nat → FieldType := fun k => match k with
  | 0 => .int
  | 1 => .array .int
  | 2 => .int
  | 3 => .int
  | 4 => .int
  | 5 => .int
  | 6 => .int
  | _ => .boolean
abbrev wsX30 : List Cond := u_ws RX3 TX3 8
theorem nmX3 : ∀ a, a < 8 → ∀ b, b < 8 → a ≠ b → (TX3 a).2.1 ≠ (TX3 b).2.1 := by decide +kernel
theorem tyX3_ok : ∀ k, k < 8 → parseFieldDescriptor (TX3 k).2.2.1 = some (tyX3 k) := by decide +kernel
abbrev cX3_init : ByteArray := prog_5_method_1_code
def yX3_init : MethodName := ⟨RX3, "<init>", "()V"⟩
abbrev cX3_add : ByteArray := prog_5_method_2_code
def yX3_add : MethodName := ⟨RX3, "add", "(I)V"⟩
abbrev cX3_readInto : ByteArray := prog_5_method_3_code
def yX3_readInto : MethodName := ⟨RX3, "readInto", "(LWindPost$Chart;)I"⟩
abbrev cX3_readItem : ByteArray := prog_5_method_4_code
def yX3_readItem : MethodName := ⟨RX3, "readItem", "(LWindPost$Chart;)Z"⟩
abbrev cX3_readSize : ByteArray := prog_5_method_5_code
def yX3_readSize : MethodName := ⟨RX3, "readSize", "(LWindPost$Chart;)Z"⟩
abbrev cX3_readIsle : ByteArray := prog_5_method_6_code
def yX3_readIsle : MethodName := ⟨RX3, "readIsle", "(LWindPost$Chart;)Z"⟩
abbrev cX3_readHill : ByteArray := prog_5_method_7_code
def yX3_readHill : MethodName := ⟨RX3, "readHill", "(LWindPost$Chart;)Z"⟩
abbrev cX3_readForce : ByteArray := prog_5_method_8_code
def yX3_readForce : MethodName := ⟨RX3, "readForce", "(LWindPost$Chart;)Z"⟩
abbrev cX3_readWinds : ByteArray := prog_5_method_9_code
def yX3_readWinds : MethodName := ⟨RX3, "readWinds", "(LWindPost$Chart;)Z"⟩
abbrev cX3_stepsToNumber : ByteArray := prog_5_method_10_code
def yX3_stepsToNumber : MethodName := ⟨RX3, "stepsToNumber", "(II)Z"⟩
abbrev cX3_stepsToEnd : ByteArray := prog_5_method_11_code
def yX3_stepsToEnd : MethodName := ⟨RX3, "stepsToEnd", "()Z"⟩
abbrev cX3_step : ByteArray := prog_5_method_12_code
def yX3_step : MethodName := ⟨RX3, "step", "()V"⟩
abbrev cX3_isDigit : ByteArray := prog_5_method_13_code
def yX3_isDigit : MethodName := ⟨RX3, "isDigit", "(I)Z"⟩
abbrev cX3_isSign : ByteArray := prog_5_method_14_code
def yX3_isSign : MethodName := ⟨RX3, "isSign", "(I)Z"⟩
def RX4 : String := "WindPost"
def TX4 : u_T := fun k => match k with
  | 0 => ("WindPost", "text", "LWindPost$Text;", true)
  | 1 => ("WindPost", "chart", "LWindPost$Chart;", false)
  | 2 => ("WindPost", "draft", "LWindPost$Chart;", false)
  | 3 => ("WindPost", "now", "LWindPost$Moment;", true)
  | 4 => ("WindPost", "past", "[LWindPost$Moment;", true)
  | 5 => ("WindPost", "pastNext", "I", false)
  | 6 => ("WindPost", "pastKnown", "I", false)
  | 7 => ("WindPost", "images", "[LWindPost$Moment;", true)
  | 8 => ("WindPost", "kept", "[Z", true)
  | 9 => ("WindPost", "probe", "LWindPost$Letter;", true)
  | 10 => ("WindPost", "second", "LWindPost$Letter;", true)
  | _ => ("WindPost", "traced", "J", false)
def tyX4 : Nat → FieldType := fun k => match k with
  | 0 => .object "WindPost$Text"
  | 1 => .object "WindPost$Chart"
  | 2 => .object "WindPost$Chart"
  | 3 => .object "WindPost$Moment"
  | 4 => .array (.object "WindPost$Moment")
  | 5 => .int
  | 6 => .int
  | 7 => .array (.object "WindPost$Moment")
  | 8 => .array .boolean
  | 9 => .object "WindPost$Letter"
  | 10 => .object "WindPost$Letter"
  | _ => .long
abbrev wsX40 : List Cond := u_ws RX4 TX4 12
theorem nmX4 : ∀ a, a < 12 → ∀ b, b < 12 → a ≠ b → (TX4 a).2.1 ≠ (TX4 b).2.1 := by decide +kernel
theorem tyX4_ok : ∀ k, k < 12 → parseFieldDescriptor (TX4 k).2.2.1 = some (tyX4 k) := by decide +kernel
abbrev cX4_init : ByteArray := prog_1_method_1_code
def yX4_init : MethodName := ⟨RX4, "<init>", "()V"⟩
abbrev cX4_type : ByteArray := prog_1_method_2_code
def yX4_type : MethodName := ⟨RX4, "type", "(I)I"⟩
abbrev cX4_clear : ByteArray := prog_1_method_3_code
def yX4_clear : MethodName := ⟨RX4, "clear", "()I"⟩
abbrev cX4_sea : ByteArray := prog_1_method_4_code
def yX4_sea : MethodName := ⟨RX4, "sea", "()I"⟩
abbrev cX4_isle : ByteArray := prog_1_method_5_code
def yX4_isle : MethodName := ⟨RX4, "isle", "(II)I"⟩
abbrev cX4_cell : ByteArray := prog_1_method_6_code
def yX4_cell : MethodName := ⟨RX4, "cell", "(I)I"⟩
abbrev cX4_wind : ByteArray := prog_1_method_7_code
def yX4_wind : MethodName := ⟨RX4, "wind", "(I)I"⟩
abbrev cX4_letter : ByteArray := prog_1_method_8_code
def yX4_letter : MethodName := ⟨RX4, "letter", "(II)I"⟩
abbrev cX4_now : ByteArray := prog_1_method_9_code
def yX4_now : MethodName := ⟨RX4, "now", "(I)I"⟩
abbrev cX4_lets : ByteArray := prog_1_method_10_code
def yX4_lets : MethodName := ⟨RX4, "lets", "(III)I"⟩
abbrev cX4_hour : ByteArray := prog_1_method_11_code
def yX4_hour : MethodName := ⟨RX4, "hour", "()I"⟩
abbrev cX4_net : ByteArray := prog_1_method_12_code
def yX4_net : MethodName := ⟨RX4, "net", "(II)I"⟩
abbrev cX4_turn : ByteArray := prog_1_method_13_code
def yX4_turn : MethodName := ⟨RX4, "turn", "(II)I"⟩
abbrev cX4_undo : ByteArray := prog_1_method_14_code
def yX4_undo : MethodName := ⟨RX4, "undo", "()I"⟩
abbrev cX4_where : ByteArray := prog_1_method_15_code
def yX4_where : MethodName := ⟨RX4, "where", "(II)I"⟩
abbrev cX4_comes : ByteArray := prog_1_method_16_code
def yX4_comes : MethodName := ⟨RX4, "comes", "(I)I"⟩
abbrev cX4_blots : ByteArray := prog_1_method_17_code
def yX4_blots : MethodName := ⟨RX4, "blots", "(II)I"⟩
abbrev cX4_loop : ByteArray := prog_1_method_18_code
def yX4_loop : MethodName := ⟨RX4, "loop", "(I)I"⟩
abbrev cX4_tangled : ByteArray := prog_1_method_19_code
def yX4_tangled : MethodName := ⟨RX4, "tangled", "(II)I"⟩
abbrev cX4_soonest : ByteArray := prog_1_method_20_code
def yX4_soonest : MethodName := ⟨RX4, "soonest", "(IIII)I"⟩
abbrev cX4_lightest : ByteArray := prog_1_method_21_code
def yX4_lightest : MethodName := ⟨RX4, "lightest", "(III)I"⟩
abbrev cX4_words : ByteArray := prog_1_method_22_code
def yX4_words : MethodName := ⟨RX4, "words", "(I)I"⟩
abbrev cX4_nets : ByteArray := prog_1_method_23_code
def yX4_nets : MethodName := ⟨RX4, "nets", "(III)I"⟩
abbrev cX4_who : ByteArray := prog_1_method_24_code
def yX4_who : MethodName := ⟨RX4, "who", "(III)I"⟩
abbrev cX4_knee : ByteArray := prog_1_method_25_code
def yX4_knee : MethodName := ⟨RX4, "knee", "(II)I"⟩
abbrev cX4_drift : ByteArray := prog_1_method_26_code
def yX4_drift : MethodName := ⟨RX4, "drift", "(II)I"⟩
abbrev cX4_odds : ByteArray := prog_1_method_27_code
def yX4_odds : MethodName := ⟨RX4, "odds", "(IIII)I"⟩
abbrev cX4_rate : ByteArray := prog_1_method_28_code
def yX4_rate : MethodName := ⟨RX4, "rate", "(II)I"⟩
abbrev cX4_keep : ByteArray := prog_1_method_29_code
def yX4_keep : MethodName := ⟨RX4, "keep", "(I)I"⟩
abbrev cX4_back : ByteArray := prog_1_method_30_code
def yX4_back : MethodName := ⟨RX4, "back", "(I)I"⟩
abbrev cX4_count : ByteArray := prog_1_method_31_code
def yX4_count : MethodName := ⟨RX4, "count", "(I)I"⟩
abbrev cX4_trace : ByteArray := prog_1_method_32_code
def yX4_trace : MethodName := ⟨RX4, "trace", "()J"⟩
abbrev cX4_isWithin : ByteArray := prog_1_method_33_code
def yX4_isWithin : MethodName := ⟨RX4, "isWithin", "(III)Z"⟩
abbrev cX4_bitOf : ByteArray := prog_1_method_34_code
def yX4_bitOf : MethodName := ⟨RX4, "bitOf", "(II)I"⟩
abbrev cX4_isIsle : ByteArray := prog_1_method_35_code
def yX4_isIsle : MethodName := ⟨RX4, "isIsle", "(I)Z"⟩
abbrev cX4_isLetter : ByteArray := prog_1_method_36_code
def yX4_isLetter : MethodName := ⟨RX4, "isLetter", "(I)Z"⟩
abbrev cX4_isWeight : ByteArray := prog_1_method_37_code
def yX4_isWeight : MethodName := ⟨RX4, "isWeight", "(I)Z"⟩
abbrev cX4_isWay : ByteArray := prog_1_method_38_code
def yX4_isWay : MethodName := ⟨RX4, "isWay", "(II)Z"⟩
abbrev cX4_remember : ByteArray := prog_1_method_39_code
def yX4_remember : MethodName := ⟨RX4, "remember", "()V"⟩
abbrev cX4_passHours : ByteArray := prog_1_method_40_code
def yX4_passHours : MethodName := ⟨RX4, "passHours", "(LWindPost$Letter;II)V"⟩
abbrev cX4_letterIn : ByteArray := prog_1_method_41_code
def yX4_letterIn : MethodName := ⟨RX4, "letterIn", "(II)LWindPost$Letter;"⟩
abbrev cX4_arrival : ByteArray := prog_1_method_42_code
def yX4_arrival : MethodName := ⟨RX4, "arrival", "(II)I"⟩
abbrev cX4_supposed : ByteArray := prog_1_method_43_code
def yX4_supposed : MethodName := ⟨RX4, "supposed", "(IIIII)I"⟩
abbrev cX4_hasWordOf : ByteArray := prog_1_method_44_code
def yX4_hasWordOf : MethodName := ⟨RX4, "hasWordOf", "(II)Z"⟩
abbrev cX4_keepsOff : ByteArray := prog_1_method_45_code
def yX4_keepsOff : MethodName := ⟨RX4, "keepsOff", "(IIII)Z"⟩
abbrev cX4_comesWith : ByteArray := prog_1_method_46_code
def yX4_comesWith : MethodName := ⟨RX4, "comesWith", "(IIII)Z"⟩
abbrev cX4_shareArrived : ByteArray := prog_1_method_47_code
def yX4_shareArrived : MethodName := ⟨RX4, "shareArrived", "(IIII)I"⟩
abbrev cX4_commonDivisor : ByteArray := prog_1_method_48_code
def yX4_commonDivisor : MethodName := ⟨RX4, "commonDivisor", "(II)I"⟩
abbrev cX4_rateLetter : ByteArray := prog_1_method_49_code
def yX4_rateLetter : MethodName := ⟨RX4, "rateLetter", "(I)I"⟩
abbrev cX4_rateSummons : ByteArray := prog_1_method_50_code
def yX4_rateSummons : MethodName := ⟨RX4, "rateSummons", "(I)I"⟩
abbrev cX4_rateGoose : ByteArray := prog_1_method_51_code
def yX4_rateGoose : MethodName := ⟨RX4, "rateGoose", "(I)I"⟩
abbrev cX4_rateBill : ByteArray := prog_1_method_52_code
def yX4_rateBill : MethodName := ⟨RX4, "rateBill", "(I)I"⟩
abbrev cX4_rateVow : ByteArray := prog_1_method_53_code
def yX4_rateVow : MethodName := ⟨RX4, "rateVow", "(I)I"⟩
abbrev cX4_rateKite : ByteArray := prog_1_method_54_code
def yX4_rateKite : MethodName := ⟨RX4, "rateKite", "(I)I"⟩
def RX5 : String := "WindPostModel"
def TX5 : u_T := fun k => match k with
  | 0 => ("WindPostModel", "thrown", "I", false)
  | 1 => ("WindPostModel", "trace", "J", false)
  | 2 => ("WindPostModel", "text", "[I", true)
  | 3 => ("WindPostModel", "typed", "I", false)
  | 4 => ("WindPostModel", "next", "I", false)
  | 5 => ("WindPostModel", "token", "I", false)
  | 6 => ("WindPostModel", "place", "I", false)
  | 7 => ("WindPostModel", "value", "I", false)
  | 8 => ("WindPostModel", "fault", "I", false)
  | 9 => ("WindPostModel", "many", "[I", true)
  | 10 => ("WindPostModel", "isles", "[I", true)
  | 11 => ("WindPostModel", "hills", "[I", true)
  | 12 => ("WindPostModel", "winds", "[I", true)
  | 13 => ("WindPostModel", "isForceTold", "Z", false)
  | 14 => ("WindPostModel", "s", "[I", true)
  | 15 => ("WindPostModel", "kept", "[I", true)
  | 16 => ("WindPostModel", "isKept", "[Z", true)
  | 17 => ("WindPostModel", "undos", "[I", true)
  | 18 => ("WindPostModel", "undoMany", "I", false)
  | 19 => ("WindPostModel", "trial", "[I", true)
  | 20 => ("WindPostModel", "other", "[I", true)
  | _ => ("WindPostModel", "met", "[I", true)
def tyX5 : Nat → FieldType := fun k => match k with
  | 0 => .int
  | 1 => .long
  | 2 => .array .int
  | 3 => .int
  | 4 => .int
  | 5 => .int
  | 6 => .int
  | 7 => .int
  | 8 => .int
  | 9 => .array .int
  | 10 => .array .int
  | 11 => .array .int
  | 12 => .array .int
  | 13 => .boolean
  | 14 => .array .int
  | 15 => .array .int
  | 16 => .array .boolean
  | 17 => .array .int
  | 18 => .int
  | 19 => .array .int
  | 20 => .array .int
  | _ => .array .int
abbrev wsX50 : List Cond := u_ws RX5 TX5 22
theorem nmX5 : ∀ a, a < 22 → ∀ b, b < 22 → a ≠ b → (TX5 a).2.1 ≠ (TX5 b).2.1 := by decide +kernel
theorem tyX5_ok : ∀ k, k < 22 → parseFieldDescriptor (TX5 k).2.2.1 = some (tyX5 k) := by decide +kernel
abbrev cX5_init : ByteArray := prog_7_method_1_code
def yX5_init : MethodName := ⟨RX5, "<init>", "()V"⟩
abbrev cX5_in : ByteArray := prog_7_method_3_code
def yX5_in : MethodName := ⟨RX5, "in", "(III)Z"⟩
abbrev cX5_ones : ByteArray := prog_7_method_4_code
def yX5_ones : MethodName := ⟨RX5, "ones", "(I)I"⟩
abbrev cX5_type : ByteArray := prog_7_method_5_code
def yX5_type : MethodName := ⟨RX5, "type", "(I)I"⟩
abbrev cX5_clear : ByteArray := prog_7_method_6_code
def yX5_clear : MethodName := ⟨RX5, "clear", "()I"⟩
abbrev cX5_letterAt : ByteArray := prog_7_method_7_code
def yX5_letterAt : MethodName := ⟨RX5, "letterAt", "(I)I"⟩
abbrev cX5_advances : ByteArray := prog_7_method_8_code
def yX5_advances : MethodName := ⟨RX5, "advances", "()V"⟩
abbrev cX5_isWell : ByteArray := prog_7_method_9_code
def yX5_isWell : MethodName := ⟨RX5, "isWell", "()Z"⟩
abbrev cX5_takes : ByteArray := prog_7_method_10_code
def yX5_takes : MethodName := ⟨RX5, "takes", "(Z)I"⟩
abbrev cX5_number : ByteArray := prog_7_method_11_code
def yX5_number : MethodName := ⟨RX5, "number", "(II)I"⟩
abbrev cX5_isFree : ByteArray := prog_7_method_12_code
def yX5_isFree : MethodName := ⟨RX5, "isFree", "(I)Z"⟩
abbrev cX5_mayBegin : ByteArray := prog_7_method_13_code
def yX5_mayBegin : MethodName := ⟨RX5, "mayBegin", "(I)Z"⟩
abbrev cX5_readsItem : ByteArray := prog_7_method_14_code
def yX5_readsItem : MethodName := ⟨RX5, "readsItem", "(I)V"⟩
abbrev cX5_readsWind : ByteArray := prog_7_method_15_code
def yX5_readsWind : MethodName := ⟨RX5, "readsWind", "()V"⟩
abbrev cX5_sea : ByteArray := prog_7_method_16_code
def yX5_sea : MethodName := ⟨RX5, "sea", "()I"⟩
abbrev cX5_settles : ByteArray := prog_7_method_17_code
def yX5_settles : MethodName := ⟨RX5, "settles", "()V"⟩
abbrev cX5_isIsle : ByteArray := prog_7_method_18_code
def yX5_isIsle : MethodName := ⟨RX5, "isIsle", "(I)Z"⟩
abbrev cX5_isLetter : ByteArray := prog_7_method_19_code
def yX5_isLetter : MethodName := ⟨RX5, "isLetter", "(I)Z"⟩
abbrev cX5_isleAt : ByteArray := prog_7_method_20_code
def yX5_isleAt : MethodName := ⟨RX5, "isleAt", "(I)I"⟩
abbrev cX5_isHill : ByteArray := prog_7_method_21_code
def yX5_isHill : MethodName := ⟨RX5, "isHill", "(I)Z"⟩
abbrev cX5_isle : ByteArray := prog_7_method_22_code
def yX5_isle : MethodName := ⟨RX5, "isle", "(II)I"⟩
abbrev cX5_cell : ByteArray := prog_7_method_23_code
def yX5_cell : MethodName := ⟨RX5, "cell", "(I)I"⟩
abbrev cX5_windOf : ByteArray := prog_7_method_24_code
def yX5_windOf : MethodName := ⟨RX5, "windOf", "(I)I"⟩
abbrev cX5_wind : ByteArray := prog_7_method_25_code
def yX5_wind : MethodName := ⟨RX5, "wind", "(I)I"⟩
abbrev cX5_letter : ByteArray := prog_7_method_26_code
def yX5_letter : MethodName := ⟨RX5, "letter", "(II)I"⟩
abbrev cX5_now : ByteArray := prog_7_method_27_code
def yX5_now : MethodName := ⟨RX5, "now", "(I)I"⟩
abbrev cX5_notes : ByteArray := prog_7_method_28_code
def yX5_notes : MethodName := ⟨RX5, "notes", "()V"⟩
abbrev cX5_puts : ByteArray := prog_7_method_29_code
def yX5_puts : MethodName := ⟨RX5, "puts", "([IIIII)V"⟩
abbrev cX5_areTwo : ByteArray := prog_7_method_30_code
def yX5_areTwo : MethodName := ⟨RX5, "areTwo", "(II)Z"⟩
abbrev cX5_lets : ByteArray := prog_7_method_31_code
def yX5_lets : MethodName := ⟨RX5, "lets", "(III)I"⟩
abbrev cX5_beside : ByteArray := prog_7_method_32_code
def yX5_beside : MethodName := ⟨RX5, "beside", "(II)I"⟩
abbrev cX5_blows : ByteArray := prog_7_method_33_code
def yX5_blows : MethodName := ⟨RX5, "blows", "([IIII)V"⟩
abbrev cX5_hour : ByteArray := prog_7_method_34_code
def yX5_hour : MethodName := ⟨RX5, "hour", "()I"⟩
abbrev cX5_net : ByteArray := prog_7_method_35_code
def yX5_net : MethodName := ⟨RX5, "net", "(II)I"⟩
abbrev cX5_turn : ByteArray := prog_7_method_36_code
def yX5_turn : MethodName := ⟨RX5, "turn", "(II)I"⟩
abbrev cX5_undo : ByteArray := prog_7_method_37_code
def yX5_undo : MethodName := ⟨RX5, "undo", "()I"⟩
abbrev cX5_takesLetter : ByteArray := prog_7_method_38_code
def yX5_takesLetter : MethodName := ⟨RX5, "takesLetter", "([II)V"⟩
abbrev cX5_goes : ByteArray := prog_7_method_39_code
def yX5_goes : MethodName := ⟨RX5, "goes", "(II)V"⟩
abbrev cX5_where : ByteArray := prog_7_method_40_code
def yX5_where : MethodName := ⟨RX5, "where", "(II)I"⟩
abbrev cX5_comesIn : ByteArray := prog_7_method_41_code
def yX5_comesIn : MethodName := ⟨RX5, "comesIn", "(II)I"⟩
abbrev cX5_comes : ByteArray := prog_7_method_42_code
def yX5_comes : MethodName := ⟨RX5, "comes", "(I)I"⟩
abbrev cX5_blots : ByteArray := prog_7_method_43_code
def yX5_blots : MethodName := ⟨RX5, "blots", "(II)I"⟩
abbrev cX5_loop : ByteArray := prog_7_method_44_code
def yX5_loop : MethodName := ⟨RX5, "loop", "(I)I"⟩
abbrev cX5_tangled : ByteArray := prog_7_method_45_code
def yX5_tangled : MethodName := ⟨RX5, "tangled", "(II)I"⟩
abbrev cX5_comesBy : ByteArray := prog_7_method_46_code
def yX5_comesBy : MethodName := ⟨RX5, "comesBy", "(IIIII)I"⟩
abbrev cX5_bestK : ByteArray := prog_7_method_47_code
def yX5_bestK : MethodName := ⟨RX5, "bestK", "(IIII)I"⟩
abbrev cX5_soonest : ByteArray := prog_7_method_48_code
def yX5_soonest : MethodName := ⟨RX5, "soonest", "(IIII)I"⟩
abbrev cX5_lightest : ByteArray := prog_7_method_49_code
def yX5_lightest : MethodName := ⟨RX5, "lightest", "(III)I"⟩
abbrev cX5_words : ByteArray := prog_7_method_50_code
def yX5_words : MethodName := ⟨RX5, "words", "(I)I"⟩
abbrev cX5_nets : ByteArray := prog_7_method_51_code
def yX5_nets : MethodName := ⟨RX5, "nets", "(III)I"⟩
abbrev cX5_who : ByteArray := prog_7_method_52_code
def yX5_who : MethodName := ⟨RX5, "who", "(III)I"⟩
abbrev cX5_knee : ByteArray := prog_7_method_53_code
def yX5_knee : MethodName := ⟨RX5, "knee", "(II)I"⟩
abbrev cX5_drift : ByteArray := prog_7_method_54_code
def yX5_drift : MethodName := ⟨RX5, "drift", "(II)I"⟩
abbrev cX5_power : ByteArray := prog_7_method_55_code
def yX5_power : MethodName := ⟨RX5, "power", "(II)I"⟩
abbrev cX5_gcd : ByteArray := prog_7_method_56_code
def yX5_gcd : MethodName := ⟨RX5, "gcd", "(II)I"⟩
abbrev cX5_odds : ByteArray := prog_7_method_57_code
def yX5_odds : MethodName := ⟨RX5, "odds", "(IIII)I"⟩
abbrev cX5_rate : ByteArray := prog_7_method_58_code
def yX5_rate : MethodName := ⟨RX5, "rate", "(II)I"⟩
abbrev cX5_keep : ByteArray := prog_7_method_59_code
def yX5_keep : MethodName := ⟨RX5, "keep", "(I)I"⟩
abbrev cX5_back : ByteArray := prog_7_method_60_code
def yX5_back : MethodName := ⟨RX5, "back", "(I)I"⟩
abbrev cX5_count : ByteArray := prog_7_method_61_code
def yX5_count : MethodName := ⟨RX5, "count", "(I)I"⟩
abbrev cX5_trace : ByteArray := prog_7_method_62_code
def yX5_trace : MethodName := ⟨RX5, "trace", "()J"⟩
def RJ6 : String := "java/lang/Integer"
def TJ6 : u_T := fun k => match k with
  | _ => ("", "", "", false)
def tyJ6 : Nat → FieldType := fun k => match k with
  | _ => .int
abbrev wsJ60 : List Cond := u_ws RJ6 TJ6 0
theorem nmJ6 : ∀ a, a < 0 → ∀ b, b < 0 → a ≠ b → (TJ6 a).2.1 ≠ (TJ6 b).2.1 := by decide +kernel
theorem tyJ6_ok : ∀ k, k < 0 → parseFieldDescriptor (TJ6 k).2.2.1 = some (tyJ6 k) := by decide +kernel
abbrev cJ6_bitCount_0f7a4 : ByteArray := prog_8_method_49_code
def yJ6_bitCount_0f7a4 : MethodName := ⟨RJ6, "bitCount", "(I)I"⟩
def RJ9 : String := "java/lang/Math"
def TJ9 : u_T := fun k => match k with
  | _ => ("", "", "", false)
def tyJ9 : Nat → FieldType := fun k => match k with
  | _ => .int
abbrev wsJ90 : List Cond := u_ws RJ9 TJ9 0
theorem nmJ9 : ∀ a, a < 0 → ∀ b, b < 0 → a ≠ b → (TJ9 a).2.1 ≠ (TJ9 b).2.1 := by decide +kernel
theorem tyJ9_ok : ∀ k, k < 0 → parseFieldDescriptor (TJ9 k).2.2.1 = some (tyJ9 k) := by decide +kernel
abbrev cJ9_floorMod_7cf53 : ByteArray := prog_9_method_50_code
def yJ9_floorMod_7cf53 : MethodName := ⟨RJ9, "floorMod", "(II)I"⟩
abbrev cJ9_max_7cf53 : ByteArray := prog_9_method_65_code
def yJ9_max_7cf53 : MethodName := ⟨RJ9, "max", "(II)I"⟩
abbrev cJ9_min_7cf53 : ByteArray := prog_9_method_69_code
def yJ9_min_7cf53 : MethodName := ⟨RJ9, "min", "(II)I"⟩
def RL : String := "WindPostLaw"
abbrev cL_law : ByteArray := code
def yL_law : MethodName := ⟨RL, "law", "([I)Z"⟩
def wsX0_untell : List Cond := .code yX0_untell cX0_untell 2 none :: ([.fieldLink RX0 30 "WindPost$Chart" "wide" "I", .fieldLink RX0 34 "WindPost$Chart" "high" "I", .fieldLink RX0 37 "WindPost$Chart" "force" "I", .fieldLink RX0 40 "WindPost$Chart" "isles" "I", .fieldLink RX0 43 "WindPost$Chart" "hills" "I", .fieldLink RX0 46 "WindPost$Chart" "told" "I", .fieldLink RX0 15 "WindPost$Chart" "holds" "[I"] ++ wsX00)
def wsX0_cells : List Cond := .code yX0_cells cX0_cells 1 (some .int) :: ([.fieldLink RX0 30 "WindPost$Chart" "wide" "I", .fieldLink RX0 34 "WindPost$Chart" "high" "I", .methodLink RX0 49 Lib.Math.min.name, .static Lib.Math.min.name, .initialized "java/lang/Math", .code Lib.Math.min.name Lib.Math.min.code 2 (some .int)] ++ wsX00)
def wsX0_beside : List Cond := .code yX0_beside cX0_beside 5 (some .int) :: ([.fieldLink RX0 30 "WindPost$Chart" "wide" "I", .fieldLink RX0 34 "WindPost$Chart" "high" "I"] ++ wsX00)
def wsX0_onCell : List Cond := .code yX0_onCell cX0_onCell 2 (some .int) :: ([.fieldLink RX0 15 "WindPost$Chart" "holds" "[I"] ++ wsX00)
def wsX0_drawWay : List Cond := .code yX0_drawWay cX0_drawWay 7 none :: ([.fieldLink RX0 21 "WindPost$Chart" "ends" "[I", .methodLink RX0 63 yX0_beside, .instanceMethod yX0_beside, .selects RX0 yX0_beside yX0_beside, .initialized RX0, .code yX0_beside cX0_beside 5 (some .int), .fieldLink RX0 30 "WindPost$Chart" "wide" "I", .fieldLink RX0 34 "WindPost$Chart" "high" "I", .methodLink RX0 66 yX0_onCell, .instanceMethod yX0_onCell, .selects RX0 yX0_onCell yX0_onCell, .code yX0_onCell cX0_onCell 2 (some .int), .fieldLink RX0 15 "WindPost$Chart" "holds" "[I"] ++ wsX00)
def wsX0_drawEnds_r1 : List Cond := [Cond.methodLink RX0 55 yX0_cells, Cond.instanceMethod yX0_cells, Cond.selects RX0 yX0_cells yX0_cells, Cond.initialized RX0, Cond.code yX0_cells cX0_cells 1 (some .int), Cond.fieldLink RX0 30 "WindPost$Chart" "wide" "I", Cond.fieldLink RX0 34 "WindPost$Chart" "high" "I", Cond.methodLink RX0 49 Lib.Math.min.name, Cond.static Lib.Math.min.name, Cond.initialized "java/lang/Math", Cond.code Lib.Math.min.name Lib.Math.min.code 2 (some .int), Cond.methodLink RX0 59 yX0_drawWay, Cond.instanceMethod yX0_drawWay, Cond.selects RX0 yX0_drawWay yX0_drawWay, Cond.code yX0_drawWay cX0_drawWay 7 none, Cond.fieldLink RX0 21 "WindPost$Chart" "ends" "[I", Cond.methodLink RX0 63 yX0_beside, Cond.instanceMethod yX0_beside, Cond.selects RX0 yX0_beside yX0_beside, Cond.code yX0_beside cX0_beside 5 (some .int), Cond.methodLink RX0 66 yX0_onCell, Cond.instanceMethod yX0_onCell, Cond.selects RX0 yX0_onCell yX0_onCell, Cond.code yX0_onCell cX0_onCell 2 (some .int)]
def wsX0_drawEnds_r2 : List Cond := [Cond.fieldLink RX0 15 "WindPost$Chart" "holds" "[I"]
def wsX0_drawEnds : List Cond := .code yX0_drawEnds cX0_drawEnds 3 none :: ((wsX0_drawEnds_r1 ++ wsX0_drawEnds_r2) ++ wsX00)
def wsX0_init_r1 : List Cond := [Cond.methodLink RX0 3 objectInit, Cond.instanceMethod objectInit, Cond.code objectInit ⟨#[0xb1]⟩ 1 none, Cond.arrayClass .int, Cond.fieldLink RX0 9 "WindPost$Chart" "isleCells" "[I", Cond.fieldLink RX0 15 "WindPost$Chart" "holds" "[I", Cond.fieldLink RX0 18 "WindPost$Chart" "winds" "[I", Cond.fieldLink RX0 21 "WindPost$Chart" "ends" "[I", Cond.methodLink RX0 24 yX0_untell, Cond.instanceMethod yX0_untell, Cond.selects RX0 yX0_untell yX0_untell, Cond.initialized RX0, Cond.code yX0_untell cX0_untell 2 none, Cond.fieldLink RX0 30 "WindPost$Chart" "wide" "I", Cond.fieldLink RX0 34 "WindPost$Chart" "high" "I", Cond.fieldLink RX0 37 "WindPost$Chart" "force" "I", Cond.fieldLink RX0 40 "WindPost$Chart" "isles" "I", Cond.fieldLink RX0 43 "WindPost$Chart" "hills" "I", Cond.fieldLink RX0 46 "WindPost$Chart" "told" "I", Cond.methodLink RX0 27 yX0_drawEnds, Cond.instanceMethod yX0_drawEnds, Cond.selects RX0 yX0_drawEnds yX0_drawEnds, Cond.code yX0_drawEnds cX0_drawEnds 3 none, Cond.methodLink RX0 55 yX0_cells]
def wsX0_init_r2 : List Cond := [Cond.instanceMethod yX0_cells, Cond.selects RX0 yX0_cells yX0_cells, Cond.code yX0_cells cX0_cells 1 (some .int), Cond.methodLink RX0 49 Lib.Math.min.name, Cond.static Lib.Math.min.name, Cond.initialized "java/lang/Math", Cond.code Lib.Math.min.name Lib.Math.min.code 2 (some .int), Cond.methodLink RX0 59 yX0_drawWay, Cond.instanceMethod yX0_drawWay, Cond.selects RX0 yX0_drawWay yX0_drawWay, Cond.code yX0_drawWay cX0_drawWay 7 none, Cond.methodLink RX0 63 yX0_beside, Cond.instanceMethod yX0_beside, Cond.selects RX0 yX0_beside yX0_beside, Cond.code yX0_beside cX0_beside 5 (some .int), Cond.methodLink RX0 66 yX0_onCell, Cond.instanceMethod yX0_onCell, Cond.selects RX0 yX0_onCell yX0_onCell, Cond.code yX0_onCell cX0_onCell 2 (some .int)]
def wsX0_init : List Cond := .code yX0_init cX0_init 1 none :: ((wsX0_init_r1 ++ wsX0_init_r2) ++ wsX00)
def wsX0_cellOfIsle : List Cond := .code yX0_cellOfIsle cX0_cellOfIsle 2 (some .int) :: ([.fieldLink RX0 9 "WindPost$Chart" "isleCells" "[I"] ++ wsX00)
def wsX0_addIsle : List Cond := .code yX0_addIsle cX0_addIsle 2 none :: ([.fieldLink RX0 40 "WindPost$Chart" "isles" "I", .fieldLink RX0 9 "WindPost$Chart" "isleCells" "[I", .fieldLink RX0 15 "WindPost$Chart" "holds" "[I"] ++ wsX00)
def wsX0_addHill : List Cond := .code yX0_addHill cX0_addHill 2 none :: ([.fieldLink RX0 15 "WindPost$Chart" "holds" "[I", .fieldLink RX0 43 "WindPost$Chart" "hills" "I"] ++ wsX00)
def wsX0_addWind : List Cond := .code yX0_addWind cX0_addWind 2 none :: ([.fieldLink RX0 46 "WindPost$Chart" "told" "I", .fieldLink RX0 18 "WindPost$Chart" "winds" "[I"] ++ wsX00)
def wsX0_endOf : List Cond := .code yX0_endOf cX0_endOf 4 (some .int) :: ([.fieldLink RX0 21 "WindPost$Chart" "ends" "[I"] ++ wsX00)
def wsX1_init : List Cond := .code yX1_init cX1_init 1 none :: ([.methodLink RX1 3 objectInit, .instanceMethod objectInit, .code objectInit ⟨#[0xb1]⟩ 1 none])
def wsX1_letUp : List Cond := .code yX1_letUp cX1_letUp 5 none :: ([.fieldLink RX1 9 "WindPost$Letter" "weight" "I", .fieldLink RX1 15 "WindPost$Letter" "from" "I", .fieldLink RX1 18 "WindPost$Letter" "to" "I", .fieldLink RX1 27 "WindPost$Letter" "place" "I", .fieldLink RX1 30 "WindPost$Letter" "marks" "I", .fieldLink RX1 33 "WindPost$Letter" "how" "I", .fieldLink RX1 36 "WindPost$Chart" "force" "I", .fieldLink RX1 39 "WindPost$Letter" "reach" "I", .methodLink RX1 21 yX0_cellOfIsle, .instanceMethod yX0_cellOfIsle, .selects RX0 yX0_cellOfIsle yX0_cellOfIsle, .initialized RX0, .code yX0_cellOfIsle cX0_cellOfIsle 2 (some .int), .fieldLink RX0 9 "WindPost$Chart" "isleCells" "[I"] ++ wsX10 ++ wsX00)
def wsX1_copyFrom : List Cond := .code yX1_copyFrom cX1_copyFrom 2 none :: ([.fieldLink RX1 9 "WindPost$Letter" "weight" "I", .fieldLink RX1 15 "WindPost$Letter" "from" "I", .fieldLink RX1 18 "WindPost$Letter" "to" "I", .fieldLink RX1 27 "WindPost$Letter" "place" "I", .fieldLink RX1 30 "WindPost$Letter" "marks" "I", .fieldLink RX1 33 "WindPost$Letter" "how" "I", .fieldLink RX1 39 "WindPost$Letter" "reach" "I"] ++ wsX10)
def wsX4_bitOf : List Cond := .code yX4_bitOf cX4_bitOf 2 (some .int) :: ([])
def wsX1_passHour : List Cond := .code yX1_passHour cX1_passHour 6 none :: ([.fieldLink RX1 33 "WindPost$Letter" "how" "I", .fieldLink RX1 39 "WindPost$Letter" "reach" "I", .fieldLink RX1 27 "WindPost$Letter" "place" "I", .fieldLink RX1 18 "WindPost$Letter" "to" "I", .fieldLink RX1 30 "WindPost$Letter" "marks" "I", .methodLink RX1 42 yX0_endOf, .instanceMethod yX0_endOf, .selects RX0 yX0_endOf yX0_endOf, .initialized RX0, .code yX0_endOf cX0_endOf 4 (some .int), .fieldLink RX0 21 "WindPost$Chart" "ends" "[I", .methodLink RX1 46 yX0_onCell, .instanceMethod yX0_onCell, .selects RX0 yX0_onCell yX0_onCell, .code yX0_onCell cX0_onCell 2 (some .int), .fieldLink RX0 15 "WindPost$Chart" "holds" "[I", .static yX4_bitOf, .initialized RX4, .code yX4_bitOf cX4_bitOf 2 (some .int)] ++ wsX10 ++ wsX00)
def wsX2_init : List Cond := .code yX2_init cX2_init 2 none :: ([.methodLink RX2 3 objectInit, .instanceMethod objectInit, .code objectInit ⟨#[0xb1]⟩ 1 none, .arrayClass .int, .fieldLink RX2 9 "WindPost$Moment" "winds" "[I", .classLink RX2 15 RX1, .fieldLink RX2 17 "WindPost$Moment" "post" "[LWindPost$Letter;", .instantiable RX1 7, .initialized RX1, .instanceMethod yX1_init, .code yX1_init cX1_init 1 none, .methodLink RX1 3 objectInit] ++ wsX20 ++ wsX10)
def wsX2_beginAnew : List Cond := .code yX2_beginAnew cX2_beginAnew 3 none :: ([.fieldLink RX2 22 "WindPost$Moment" "time" "I", .fieldLink RX2 26 "WindPost$Moment" "letters" "I", .fieldLink RX2 29 "WindPost$Moment" "nets" "I", .fieldLink RX2 32 "WindPost$Chart" "told" "I", .fieldLink RX2 37 "WindPost$Moment" "told" "I", .fieldLink RX2 9 "WindPost$Moment" "winds" "[I", .fieldLink RX2 38 "WindPost$Chart" "winds" "[I"] ++ wsX20 ++ wsX00)
def wsX2_copyFrom : List Cond := .code yX2_copyFrom cX2_copyFrom 3 none :: ([.fieldLink RX2 22 "WindPost$Moment" "time" "I", .fieldLink RX2 26 "WindPost$Moment" "letters" "I", .fieldLink RX2 29 "WindPost$Moment" "nets" "I", .fieldLink RX2 37 "WindPost$Moment" "told" "I", .fieldLink RX2 9 "WindPost$Moment" "winds" "[I", .fieldLink RX2 17 "WindPost$Moment" "post" "[LWindPost$Letter;", .methodLink RX2 39 yX1_copyFrom, .instanceMethod yX1_copyFrom, .selects RX1 yX1_copyFrom yX1_copyFrom, .initialized RX1, .code yX1_copyFrom cX1_copyFrom 2 none, .fieldLink RX1 9 "WindPost$Letter" "weight" "I", .fieldLink RX1 15 "WindPost$Letter" "from" "I", .fieldLink RX1 18 "WindPost$Letter" "to" "I", .fieldLink RX1 27 "WindPost$Letter" "place" "I", .fieldLink RX1 30 "WindPost$Letter" "marks" "I", .fieldLink RX1 33 "WindPost$Letter" "how" "I", .fieldLink RX1 39 "WindPost$Letter" "reach" "I"] ++ wsX20 ++ wsX10)
def wsJ9_floorMod_7cf53 : List Cond := .code yJ9_floorMod_7cf53 cJ9_floorMod_7cf53 3 (some .int) :: ([])
def wsX2_windOf : List Cond := .code yX2_windOf cX2_windOf 2 (some .int) :: ([.fieldLink RX2 37 "WindPost$Moment" "told" "I", .fieldLink RX2 9 "WindPost$Moment" "winds" "[I", .methodLink RX2 43 yJ9_floorMod_7cf53, .static yJ9_floorMod_7cf53, .initialized RJ9, .code yJ9_floorMod_7cf53 cJ9_floorMod_7cf53 3 (some .int)] ++ wsX20)
def wsX2_lettersUp : List Cond := .code yX2_lettersUp cX2_lettersUp 3 (some .int) :: ([.fieldLink RX2 26 "WindPost$Moment" "letters" "I", .fieldLink RX2 17 "WindPost$Moment" "post" "[LWindPost$Letter;", .fieldLink RX2 49 "WindPost$Letter" "how" "I"] ++ wsX20 ++ wsX10)
def wsX3_init : List Cond := .code yX3_init cX3_init 1 none :: ([.methodLink RX3 3 objectInit, .instanceMethod objectInit, .code objectInit ⟨#[0xb1]⟩ 1 none, .arrayClass .int, .fieldLink RX3 9 "WindPost$Text" "signs" "[I"] ++ wsX30)
def wsX3_add : List Cond := .code yX3_add cX3_add 2 none :: ([.fieldLink RX3 15 "WindPost$Text" "length" "I", .fieldLink RX3 9 "WindPost$Text" "signs" "[I"] ++ wsX30)
def wsX3_isDigit : List Cond := .code yX3_isDigit cX3_isDigit 1 (some .boolean) :: ([])
def wsX3_isSign : List Cond := .code yX3_isSign cX3_isSign 1 (some .boolean) :: ([])
def wsX3_step : List Cond := .code yX3_step cX3_step 3 none :: ([.fieldLink RX3 24 "WindPost$Text" "next" "I", .fieldLink RX3 15 "WindPost$Text" "length" "I", .fieldLink RX3 9 "WindPost$Text" "signs" "[I", .fieldLink RX3 44 "WindPost$Text" "place" "I", .fieldLink RX3 72 "WindPost$Text" "number" "I", .methodLink RX3 117 Lib.Math.min.name, .static Lib.Math.min.name, .initialized "java/lang/Math", .code Lib.Math.min.name Lib.Math.min.code 2 (some .int), .fieldLink RX3 37 "WindPost$Text" "token" "I", .methodLink RX3 113 yX3_isDigit, .static yX3_isDigit, .initialized RX3, .code yX3_isDigit cX3_isDigit 1 (some .boolean), .methodLink RX3 123 yX3_isSign, .static yX3_isSign, .code yX3_isSign cX3_isSign 1 (some .boolean)] ++ wsX30)
def wsX4_isWithin : List Cond := .code yX4_isWithin cX4_isWithin 3 (some .boolean) :: ([])
def wsX3_stepsToNumber : List Cond := .code yX3_stepsToNumber cX3_stepsToNumber 3 (some .boolean) :: ([.fieldLink RX3 37 "WindPost$Text" "token" "I", .fieldLink RX3 72 "WindPost$Text" "number" "I", .methodLink RX3 34 yX3_step, .instanceMethod yX3_step, .selects RX3 yX3_step yX3_step, .initialized RX3, .code yX3_step cX3_step 3 none, .fieldLink RX3 24 "WindPost$Text" "next" "I", .fieldLink RX3 15 "WindPost$Text" "length" "I", .fieldLink RX3 9 "WindPost$Text" "signs" "[I", .fieldLink RX3 44 "WindPost$Text" "place" "I", .methodLink RX3 117 Lib.Math.min.name, .static Lib.Math.min.name, .initialized "java/lang/Math", .code Lib.Math.min.name Lib.Math.min.code 2 (some .int), .methodLink RX3 113 yX3_isDigit, .static yX3_isDigit, .code yX3_isDigit cX3_isDigit 1 (some .boolean), .methodLink RX3 123 yX3_isSign, .static yX3_isSign, .code yX3_isSign cX3_isSign 1 (some .boolean), .static yX4_isWithin, .initialized RX4, .code yX4_isWithin cX4_isWithin 3 (some .boolean)] ++ wsX30)
def wsX3_stepsToEnd : List Cond := .code yX3_stepsToEnd cX3_stepsToEnd 1 (some .boolean) :: ([.fieldLink RX3 37 "WindPost$Text" "token" "I", .methodLink RX3 34 yX3_step, .instanceMethod yX3_step, .selects RX3 yX3_step yX3_step, .initialized RX3, .code yX3_step cX3_step 3 none, .fieldLink RX3 24 "WindPost$Text" "next" "I", .fieldLink RX3 15 "WindPost$Text" "length" "I", .fieldLink RX3 9 "WindPost$Text" "signs" "[I", .fieldLink RX3 44 "WindPost$Text" "place" "I", .fieldLink RX3 72 "WindPost$Text" "number" "I", .methodLink RX3 117 Lib.Math.min.name, .static Lib.Math.min.name, .initialized "java/lang/Math", .code Lib.Math.min.name Lib.Math.min.code 2 (some .int), .methodLink RX3 113 yX3_isDigit, .static yX3_isDigit, .code yX3_isDigit cX3_isDigit 1 (some .boolean), .methodLink RX3 123 yX3_isSign, .static yX3_isSign, .code yX3_isSign cX3_isSign 1 (some .boolean)] ++ wsX30)
def wsX3_readSize_r1 : List Cond := [Cond.fieldLink RX3 72 "WindPost$Text" "number" "I", Cond.fieldLink RX3 75 "WindPost$Chart" "wide" "I", Cond.fieldLink RX3 78 "WindPost$Chart" "high" "I", Cond.methodLink RX3 68 yX3_stepsToNumber, Cond.instanceMethod yX3_stepsToNumber, Cond.selects RX3 yX3_stepsToNumber yX3_stepsToNumber, Cond.initialized RX3, Cond.code yX3_stepsToNumber cX3_stepsToNumber 3 (some .boolean), Cond.fieldLink RX3 37 "WindPost$Text" "token" "I", Cond.methodLink RX3 34 yX3_step, Cond.instanceMethod yX3_step, Cond.selects RX3 yX3_step yX3_step, Cond.code yX3_step cX3_step 3 none, Cond.fieldLink RX3 24 "WindPost$Text" "next" "I", Cond.fieldLink RX3 15 "WindPost$Text" "length" "I", Cond.fieldLink RX3 9 "WindPost$Text" "signs" "[I", Cond.fieldLink RX3 44 "WindPost$Text" "place" "I", Cond.methodLink RX3 117 Lib.Math.min.name, Cond.static Lib.Math.min.name, Cond.initialized "java/lang/Math", Cond.code Lib.Math.min.name Lib.Math.min.code 2 (some .int), Cond.methodLink RX3 113 yX3_isDigit, Cond.static yX3_isDigit, Cond.code yX3_isDigit cX3_isDigit 1 (some .boolean)]
def wsX3_readSize_r2 : List Cond := [Cond.methodLink RX3 123 yX3_isSign, Cond.static yX3_isSign, Cond.code yX3_isSign cX3_isSign 1 (some .boolean), Cond.static yX4_isWithin, Cond.initialized RX4, Cond.code yX4_isWithin cX4_isWithin 3 (some .boolean), Cond.methodLink RX3 81 yX3_stepsToEnd, Cond.instanceMethod yX3_stepsToEnd, Cond.selects RX3 yX3_stepsToEnd yX3_stepsToEnd, Cond.code yX3_stepsToEnd cX3_stepsToEnd 1 (some .boolean)]
def wsX3_readSize : List Cond := .code yX3_readSize cX3_readSize 2 (some .boolean) :: ((wsX3_readSize_r1 ++ wsX3_readSize_r2) ++ wsX30 ++ wsX00)
def wsX3_readIsle_r1 : List Cond := [Cond.fieldLink RX3 72 "WindPost$Text" "number" "I", Cond.methodLink RX3 85 yX0_cells, Cond.instanceMethod yX0_cells, Cond.selects RX0 yX0_cells yX0_cells, Cond.initialized RX0, Cond.code yX0_cells cX0_cells 1 (some .int), Cond.fieldLink RX0 30 "WindPost$Chart" "wide" "I", Cond.fieldLink RX0 34 "WindPost$Chart" "high" "I", Cond.methodLink RX0 49 Lib.Math.min.name, Cond.static Lib.Math.min.name, Cond.initialized "java/lang/Math", Cond.code Lib.Math.min.name Lib.Math.min.code 2 (some .int), Cond.methodLink RX3 68 yX3_stepsToNumber, Cond.instanceMethod yX3_stepsToNumber, Cond.selects RX3 yX3_stepsToNumber yX3_stepsToNumber, Cond.initialized RX3, Cond.code yX3_stepsToNumber cX3_stepsToNumber 3 (some .boolean), Cond.fieldLink RX3 37 "WindPost$Text" "token" "I", Cond.methodLink RX3 34 yX3_step, Cond.instanceMethod yX3_step, Cond.selects RX3 yX3_step yX3_step, Cond.code yX3_step cX3_step 3 none, Cond.fieldLink RX3 24 "WindPost$Text" "next" "I", Cond.fieldLink RX3 15 "WindPost$Text" "length" "I"]
def wsX3_readIsle_r2 : List Cond := [Cond.fieldLink RX3 9 "WindPost$Text" "signs" "[I", Cond.fieldLink RX3 44 "WindPost$Text" "place" "I", Cond.methodLink RX3 117 Lib.Math.min.name, Cond.methodLink RX3 113 yX3_isDigit, Cond.static yX3_isDigit, Cond.code yX3_isDigit cX3_isDigit 1 (some .boolean), Cond.methodLink RX3 123 yX3_isSign, Cond.static yX3_isSign, Cond.code yX3_isSign cX3_isSign 1 (some .boolean), Cond.static yX4_isWithin, Cond.initialized RX4, Cond.code yX4_isWithin cX4_isWithin 3 (some .boolean), Cond.methodLink RX3 89 yX0_onCell, Cond.instanceMethod yX0_onCell, Cond.selects RX0 yX0_onCell yX0_onCell, Cond.code yX0_onCell cX0_onCell 2 (some .int), Cond.fieldLink RX0 15 "WindPost$Chart" "holds" "[I", Cond.methodLink RX3 93 yX0_addIsle, Cond.instanceMethod yX0_addIsle, Cond.selects RX0 yX0_addIsle yX0_addIsle, Cond.code yX0_addIsle cX0_addIsle 2 none, Cond.fieldLink RX0 40 "WindPost$Chart" "isles" "I", Cond.fieldLink RX0 9 "WindPost$Chart" "isleCells" "[I", Cond.methodLink RX3 81 yX3_stepsToEnd]
def wsX3_readIsle_r3 : List Cond := [Cond.instanceMethod yX3_stepsToEnd, Cond.selects RX3 yX3_stepsToEnd yX3_stepsToEnd, Cond.code yX3_stepsToEnd cX3_stepsToEnd 1 (some .boolean)]
def wsX3_readIsle : List Cond := .code yX3_readIsle cX3_readIsle 2 (some .boolean) :: ((wsX3_readIsle_r1 ++ (wsX3_readIsle_r2 ++ wsX3_readIsle_r3)) ++ wsX30 ++ wsX00)
def wsX3_readHill_r1 : List Cond := [Cond.fieldLink RX3 72 "WindPost$Text" "number" "I", Cond.methodLink RX3 85 yX0_cells, Cond.instanceMethod yX0_cells, Cond.selects RX0 yX0_cells yX0_cells, Cond.initialized RX0, Cond.code yX0_cells cX0_cells 1 (some .int), Cond.fieldLink RX0 30 "WindPost$Chart" "wide" "I", Cond.fieldLink RX0 34 "WindPost$Chart" "high" "I", Cond.methodLink RX0 49 Lib.Math.min.name, Cond.static Lib.Math.min.name, Cond.initialized "java/lang/Math", Cond.code Lib.Math.min.name Lib.Math.min.code 2 (some .int), Cond.methodLink RX3 68 yX3_stepsToNumber, Cond.instanceMethod yX3_stepsToNumber, Cond.selects RX3 yX3_stepsToNumber yX3_stepsToNumber, Cond.initialized RX3, Cond.code yX3_stepsToNumber cX3_stepsToNumber 3 (some .boolean), Cond.fieldLink RX3 37 "WindPost$Text" "token" "I", Cond.methodLink RX3 34 yX3_step, Cond.instanceMethod yX3_step, Cond.selects RX3 yX3_step yX3_step, Cond.code yX3_step cX3_step 3 none, Cond.fieldLink RX3 24 "WindPost$Text" "next" "I", Cond.fieldLink RX3 15 "WindPost$Text" "length" "I"]
def wsX3_readHill_r2 : List Cond := [Cond.fieldLink RX3 9 "WindPost$Text" "signs" "[I", Cond.fieldLink RX3 44 "WindPost$Text" "place" "I", Cond.methodLink RX3 117 Lib.Math.min.name, Cond.methodLink RX3 113 yX3_isDigit, Cond.static yX3_isDigit, Cond.code yX3_isDigit cX3_isDigit 1 (some .boolean), Cond.methodLink RX3 123 yX3_isSign, Cond.static yX3_isSign, Cond.code yX3_isSign cX3_isSign 1 (some .boolean), Cond.static yX4_isWithin, Cond.initialized RX4, Cond.code yX4_isWithin cX4_isWithin 3 (some .boolean), Cond.methodLink RX3 89 yX0_onCell, Cond.instanceMethod yX0_onCell, Cond.selects RX0 yX0_onCell yX0_onCell, Cond.code yX0_onCell cX0_onCell 2 (some .int), Cond.fieldLink RX0 15 "WindPost$Chart" "holds" "[I", Cond.methodLink RX3 97 yX0_addHill, Cond.instanceMethod yX0_addHill, Cond.selects RX0 yX0_addHill yX0_addHill, Cond.code yX0_addHill cX0_addHill 2 none, Cond.fieldLink RX0 43 "WindPost$Chart" "hills" "I", Cond.methodLink RX3 81 yX3_stepsToEnd, Cond.instanceMethod yX3_stepsToEnd]
def wsX3_readHill_r3 : List Cond := [Cond.selects RX3 yX3_stepsToEnd yX3_stepsToEnd, Cond.code yX3_stepsToEnd cX3_stepsToEnd 1 (some .boolean)]
def wsX3_readHill : List Cond := .code yX3_readHill cX3_readHill 2 (some .boolean) :: ((wsX3_readHill_r1 ++ (wsX3_readHill_r2 ++ wsX3_readHill_r3)) ++ wsX30 ++ wsX00)
def wsX3_readWinds_r1 : List Cond := [Cond.fieldLink RX3 37 "WindPost$Text" "token" "I", Cond.fieldLink RX3 72 "WindPost$Text" "number" "I", Cond.fieldLink RX3 103 "WindPost$Chart" "told" "I", Cond.methodLink RX3 34 yX3_step, Cond.instanceMethod yX3_step, Cond.selects RX3 yX3_step yX3_step, Cond.initialized RX3, Cond.code yX3_step cX3_step 3 none, Cond.fieldLink RX3 24 "WindPost$Text" "next" "I", Cond.fieldLink RX3 15 "WindPost$Text" "length" "I", Cond.fieldLink RX3 9 "WindPost$Text" "signs" "[I", Cond.fieldLink RX3 44 "WindPost$Text" "place" "I", Cond.methodLink RX3 117 Lib.Math.min.name, Cond.static Lib.Math.min.name, Cond.initialized "java/lang/Math", Cond.code Lib.Math.min.name Lib.Math.min.code 2 (some .int), Cond.methodLink RX3 113 yX3_isDigit, Cond.static yX3_isDigit, Cond.code yX3_isDigit cX3_isDigit 1 (some .boolean), Cond.methodLink RX3 123 yX3_isSign, Cond.static yX3_isSign, Cond.code yX3_isSign cX3_isSign 1 (some .boolean), Cond.methodLink RX3 106 yX0_addWind, Cond.instanceMethod yX0_addWind]
def wsX3_readWinds_r2 : List Cond := [Cond.selects RX0 yX0_addWind yX0_addWind, Cond.initialized RX0, Cond.code yX0_addWind cX0_addWind 2 none, Cond.fieldLink RX0 46 "WindPost$Chart" "told" "I", Cond.fieldLink RX0 18 "WindPost$Chart" "winds" "[I"]
def wsX3_readWinds : List Cond := .code yX3_readWinds cX3_readWinds 3 (some .boolean) :: ((wsX3_readWinds_r1 ++ wsX3_readWinds_r2) ++ wsX30 ++ wsX00)
def wsX3_readForce_r1 : List Cond := [Cond.fieldLink RX3 72 "WindPost$Text" "number" "I", Cond.fieldLink RX3 100 "WindPost$Chart" "force" "I", Cond.fieldLink RX3 30 "WindPost$Text" "forceTold" "Z", Cond.methodLink RX3 68 yX3_stepsToNumber, Cond.instanceMethod yX3_stepsToNumber, Cond.selects RX3 yX3_stepsToNumber yX3_stepsToNumber, Cond.initialized RX3, Cond.code yX3_stepsToNumber cX3_stepsToNumber 3 (some .boolean), Cond.fieldLink RX3 37 "WindPost$Text" "token" "I", Cond.methodLink RX3 34 yX3_step, Cond.instanceMethod yX3_step, Cond.selects RX3 yX3_step yX3_step, Cond.code yX3_step cX3_step 3 none, Cond.fieldLink RX3 24 "WindPost$Text" "next" "I", Cond.fieldLink RX3 15 "WindPost$Text" "length" "I", Cond.fieldLink RX3 9 "WindPost$Text" "signs" "[I", Cond.fieldLink RX3 44 "WindPost$Text" "place" "I", Cond.methodLink RX3 117 Lib.Math.min.name, Cond.static Lib.Math.min.name, Cond.initialized "java/lang/Math", Cond.code Lib.Math.min.name Lib.Math.min.code 2 (some .int), Cond.methodLink RX3 113 yX3_isDigit, Cond.static yX3_isDigit, Cond.code yX3_isDigit cX3_isDigit 1 (some .boolean)]
def wsX3_readForce_r2 : List Cond := [Cond.methodLink RX3 123 yX3_isSign, Cond.static yX3_isSign, Cond.code yX3_isSign cX3_isSign 1 (some .boolean), Cond.static yX4_isWithin, Cond.initialized RX4, Cond.code yX4_isWithin cX4_isWithin 3 (some .boolean), Cond.methodLink RX3 81 yX3_stepsToEnd, Cond.instanceMethod yX3_stepsToEnd, Cond.selects RX3 yX3_stepsToEnd yX3_stepsToEnd, Cond.code yX3_stepsToEnd cX3_stepsToEnd 1 (some .boolean)]
def wsX3_readForce : List Cond := .code yX3_readForce cX3_readForce 2 (some .boolean) :: ((wsX3_readForce_r1 ++ wsX3_readForce_r2) ++ wsX30 ++ wsX00)
def wsX3_readItem_r1 : List Cond := [Cond.fieldLink RX3 37 "WindPost$Text" "token" "I", Cond.fieldLink RX3 27 "WindPost$Text" "items" "I", Cond.fieldLink RX3 50 "WindPost$Chart" "isles" "I", Cond.fieldLink RX3 56 "WindPost$Chart" "hills" "I", Cond.fieldLink RX3 30 "WindPost$Text" "forceTold" "Z", Cond.methodLink RX3 47 yX3_readSize, Cond.instanceMethod yX3_readSize, Cond.selects RX3 yX3_readSize yX3_readSize, Cond.initialized RX3, Cond.code yX3_readSize cX3_readSize 2 (some .boolean), Cond.fieldLink RX3 72 "WindPost$Text" "number" "I", Cond.fieldLink RX3 75 "WindPost$Chart" "wide" "I", Cond.fieldLink RX3 78 "WindPost$Chart" "high" "I", Cond.methodLink RX3 68 yX3_stepsToNumber, Cond.instanceMethod yX3_stepsToNumber, Cond.selects RX3 yX3_stepsToNumber yX3_stepsToNumber, Cond.code yX3_stepsToNumber cX3_stepsToNumber 3 (some .boolean), Cond.methodLink RX3 34 yX3_step, Cond.instanceMethod yX3_step, Cond.selects RX3 yX3_step yX3_step, Cond.code yX3_step cX3_step 3 none, Cond.fieldLink RX3 24 "WindPost$Text" "next" "I", Cond.fieldLink RX3 15 "WindPost$Text" "length" "I", Cond.fieldLink RX3 9 "WindPost$Text" "signs" "[I"]
def wsX3_readItem_r2 : List Cond := [Cond.fieldLink RX3 44 "WindPost$Text" "place" "I", Cond.methodLink RX3 117 Lib.Math.min.name, Cond.static Lib.Math.min.name, Cond.initialized "java/lang/Math", Cond.code Lib.Math.min.name Lib.Math.min.code 2 (some .int), Cond.methodLink RX3 113 yX3_isDigit, Cond.static yX3_isDigit, Cond.code yX3_isDigit cX3_isDigit 1 (some .boolean), Cond.methodLink RX3 123 yX3_isSign, Cond.static yX3_isSign, Cond.code yX3_isSign cX3_isSign 1 (some .boolean), Cond.static yX4_isWithin, Cond.initialized RX4, Cond.code yX4_isWithin cX4_isWithin 3 (some .boolean), Cond.methodLink RX3 81 yX3_stepsToEnd, Cond.instanceMethod yX3_stepsToEnd, Cond.selects RX3 yX3_stepsToEnd yX3_stepsToEnd, Cond.code yX3_stepsToEnd cX3_stepsToEnd 1 (some .boolean), Cond.methodLink RX3 53 yX3_readIsle, Cond.instanceMethod yX3_readIsle, Cond.selects RX3 yX3_readIsle yX3_readIsle, Cond.code yX3_readIsle cX3_readIsle 2 (some .boolean), Cond.methodLink RX3 85 yX0_cells, Cond.instanceMethod yX0_cells]
def wsX3_readItem_r3 : List Cond := [Cond.selects RX0 yX0_cells yX0_cells, Cond.initialized RX0, Cond.code yX0_cells cX0_cells 1 (some .int), Cond.fieldLink RX0 30 "WindPost$Chart" "wide" "I", Cond.fieldLink RX0 34 "WindPost$Chart" "high" "I", Cond.methodLink RX0 49 Lib.Math.min.name, Cond.methodLink RX3 89 yX0_onCell, Cond.instanceMethod yX0_onCell, Cond.selects RX0 yX0_onCell yX0_onCell, Cond.code yX0_onCell cX0_onCell 2 (some .int), Cond.fieldLink RX0 15 "WindPost$Chart" "holds" "[I", Cond.methodLink RX3 93 yX0_addIsle, Cond.instanceMethod yX0_addIsle, Cond.selects RX0 yX0_addIsle yX0_addIsle, Cond.code yX0_addIsle cX0_addIsle 2 none, Cond.fieldLink RX0 40 "WindPost$Chart" "isles" "I", Cond.fieldLink RX0 9 "WindPost$Chart" "isleCells" "[I", Cond.methodLink RX3 59 yX3_readHill, Cond.instanceMethod yX3_readHill, Cond.selects RX3 yX3_readHill yX3_readHill, Cond.code yX3_readHill cX3_readHill 2 (some .boolean), Cond.methodLink RX3 97 yX0_addHill, Cond.instanceMethod yX0_addHill, Cond.selects RX0 yX0_addHill yX0_addHill]
def wsX3_readItem_r4 : List Cond := [Cond.code yX0_addHill cX0_addHill 2 none, Cond.fieldLink RX0 43 "WindPost$Chart" "hills" "I", Cond.methodLink RX3 62 yX3_readWinds, Cond.instanceMethod yX3_readWinds, Cond.selects RX3 yX3_readWinds yX3_readWinds, Cond.code yX3_readWinds cX3_readWinds 3 (some .boolean), Cond.fieldLink RX3 103 "WindPost$Chart" "told" "I", Cond.methodLink RX3 106 yX0_addWind, Cond.instanceMethod yX0_addWind, Cond.selects RX0 yX0_addWind yX0_addWind, Cond.code yX0_addWind cX0_addWind 2 none, Cond.fieldLink RX0 46 "WindPost$Chart" "told" "I", Cond.fieldLink RX0 18 "WindPost$Chart" "winds" "[I", Cond.methodLink RX3 65 yX3_readForce, Cond.instanceMethod yX3_readForce, Cond.selects RX3 yX3_readForce yX3_readForce, Cond.code yX3_readForce cX3_readForce 2 (some .boolean), Cond.fieldLink RX3 100 "WindPost$Chart" "force" "I"]
def wsX3_readItem : List Cond := .code yX3_readItem cX3_readItem 2 (some .boolean) :: ((wsX3_readItem_r1 ++ (wsX3_readItem_r2 ++ (wsX3_readItem_r3 ++ wsX3_readItem_r4))) ++ wsX30 ++ wsX00)
def wsX3_readInto_r1 : List Cond := [Cond.fieldLink RX3 24 "WindPost$Text" "next" "I", Cond.fieldLink RX3 27 "WindPost$Text" "items" "I", Cond.fieldLink RX3 30 "WindPost$Text" "forceTold" "Z", Cond.fieldLink RX3 37 "WindPost$Text" "token" "I", Cond.fieldLink RX3 44 "WindPost$Text" "place" "I", Cond.methodLink RX3 19 yX0_untell, Cond.instanceMethod yX0_untell, Cond.selects RX0 yX0_untell yX0_untell, Cond.initialized RX0, Cond.code yX0_untell cX0_untell 2 none, Cond.fieldLink RX0 30 "WindPost$Chart" "wide" "I", Cond.fieldLink RX0 34 "WindPost$Chart" "high" "I", Cond.fieldLink RX0 37 "WindPost$Chart" "force" "I", Cond.fieldLink RX0 40 "WindPost$Chart" "isles" "I", Cond.fieldLink RX0 43 "WindPost$Chart" "hills" "I", Cond.fieldLink RX0 46 "WindPost$Chart" "told" "I", Cond.fieldLink RX0 15 "WindPost$Chart" "holds" "[I", Cond.methodLink RX3 34 yX3_step, Cond.instanceMethod yX3_step, Cond.selects RX3 yX3_step yX3_step, Cond.initialized RX3, Cond.code yX3_step cX3_step 3 none, Cond.fieldLink RX3 15 "WindPost$Text" "length" "I", Cond.fieldLink RX3 9 "WindPost$Text" "signs" "[I"]
def wsX3_readInto_r2 : List Cond := [Cond.fieldLink RX3 72 "WindPost$Text" "number" "I", Cond.methodLink RX3 117 Lib.Math.min.name, Cond.static Lib.Math.min.name, Cond.initialized "java/lang/Math", Cond.code Lib.Math.min.name Lib.Math.min.code 2 (some .int), Cond.methodLink RX3 113 yX3_isDigit, Cond.static yX3_isDigit, Cond.code yX3_isDigit cX3_isDigit 1 (some .boolean), Cond.methodLink RX3 123 yX3_isSign, Cond.static yX3_isSign, Cond.code yX3_isSign cX3_isSign 1 (some .boolean), Cond.methodLink RX3 40 yX3_readItem, Cond.instanceMethod yX3_readItem, Cond.selects RX3 yX3_readItem yX3_readItem, Cond.code yX3_readItem cX3_readItem 2 (some .boolean), Cond.fieldLink RX3 50 "WindPost$Chart" "isles" "I", Cond.fieldLink RX3 56 "WindPost$Chart" "hills" "I", Cond.methodLink RX3 47 yX3_readSize, Cond.instanceMethod yX3_readSize, Cond.selects RX3 yX3_readSize yX3_readSize, Cond.code yX3_readSize cX3_readSize 2 (some .boolean), Cond.fieldLink RX3 75 "WindPost$Chart" "wide" "I", Cond.fieldLink RX3 78 "WindPost$Chart" "high" "I", Cond.methodLink RX3 68 yX3_stepsToNumber]
def wsX3_readInto_r3 : List Cond := [Cond.instanceMethod yX3_stepsToNumber, Cond.selects RX3 yX3_stepsToNumber yX3_stepsToNumber, Cond.code yX3_stepsToNumber cX3_stepsToNumber 3 (some .boolean), Cond.static yX4_isWithin, Cond.initialized RX4, Cond.code yX4_isWithin cX4_isWithin 3 (some .boolean), Cond.methodLink RX3 81 yX3_stepsToEnd, Cond.instanceMethod yX3_stepsToEnd, Cond.selects RX3 yX3_stepsToEnd yX3_stepsToEnd, Cond.code yX3_stepsToEnd cX3_stepsToEnd 1 (some .boolean), Cond.methodLink RX3 53 yX3_readIsle, Cond.instanceMethod yX3_readIsle, Cond.selects RX3 yX3_readIsle yX3_readIsle, Cond.code yX3_readIsle cX3_readIsle 2 (some .boolean), Cond.methodLink RX3 85 yX0_cells, Cond.instanceMethod yX0_cells, Cond.selects RX0 yX0_cells yX0_cells, Cond.code yX0_cells cX0_cells 1 (some .int), Cond.methodLink RX0 49 Lib.Math.min.name, Cond.methodLink RX3 89 yX0_onCell, Cond.instanceMethod yX0_onCell, Cond.selects RX0 yX0_onCell yX0_onCell, Cond.code yX0_onCell cX0_onCell 2 (some .int), Cond.methodLink RX3 93 yX0_addIsle]
def wsX3_readInto_r4 : List Cond := [Cond.instanceMethod yX0_addIsle, Cond.selects RX0 yX0_addIsle yX0_addIsle, Cond.code yX0_addIsle cX0_addIsle 2 none, Cond.fieldLink RX0 9 "WindPost$Chart" "isleCells" "[I", Cond.methodLink RX3 59 yX3_readHill, Cond.instanceMethod yX3_readHill, Cond.selects RX3 yX3_readHill yX3_readHill, Cond.code yX3_readHill cX3_readHill 2 (some .boolean), Cond.methodLink RX3 97 yX0_addHill, Cond.instanceMethod yX0_addHill, Cond.selects RX0 yX0_addHill yX0_addHill, Cond.code yX0_addHill cX0_addHill 2 none, Cond.methodLink RX3 62 yX3_readWinds, Cond.instanceMethod yX3_readWinds, Cond.selects RX3 yX3_readWinds yX3_readWinds, Cond.code yX3_readWinds cX3_readWinds 3 (some .boolean), Cond.fieldLink RX3 103 "WindPost$Chart" "told" "I", Cond.methodLink RX3 106 yX0_addWind, Cond.instanceMethod yX0_addWind, Cond.selects RX0 yX0_addWind yX0_addWind, Cond.code yX0_addWind cX0_addWind 2 none, Cond.fieldLink RX0 18 "WindPost$Chart" "winds" "[I", Cond.methodLink RX3 65 yX3_readForce, Cond.instanceMethod yX3_readForce]
def wsX3_readInto_r5 : List Cond := [Cond.selects RX3 yX3_readForce yX3_readForce, Cond.code yX3_readForce cX3_readForce 2 (some .boolean), Cond.fieldLink RX3 100 "WindPost$Chart" "force" "I"]
def wsX3_readInto : List Cond := .code yX3_readInto cX3_readInto 3 (some .int) :: ((wsX3_readInto_r1 ++ (wsX3_readInto_r2 ++ (wsX3_readInto_r3 ++ (wsX3_readInto_r4 ++ wsX3_readInto_r5)))) ++ wsX30 ++ wsX00)
def wsX4_init_r1 : List Cond := [Cond.methodLink RX4 1 objectInit, Cond.instanceMethod objectInit, Cond.code objectInit ⟨#[0xb1]⟩ 1 none, Cond.classLink RX4 7 RX3, Cond.instantiable RX3 8, Cond.initialized RX3, Cond.fieldLink RX4 10 "WindPost" "text" "LWindPost$Text;", Cond.classLink RX4 16 RX0, Cond.instantiable RX0 10, Cond.initialized RX0, Cond.fieldLink RX4 19 "WindPost" "chart" "LWindPost$Chart;", Cond.fieldLink RX4 23 "WindPost" "draft" "LWindPost$Chart;", Cond.classLink RX4 26 RX2, Cond.instantiable RX2 6, Cond.initialized RX2, Cond.fieldLink RX4 29 "WindPost" "now" "LWindPost$Moment;", Cond.fieldLink RX4 33 "WindPost" "past" "[LWindPost$Moment;", Cond.fieldLink RX4 37 "WindPost" "images" "[LWindPost$Moment;", Cond.arrayClass .boolean, Cond.fieldLink RX4 40 "WindPost" "kept" "[Z", Cond.classLink RX4 44 RX1, Cond.instantiable RX1 7, Cond.initialized RX1, Cond.fieldLink RX4 47 "WindPost" "probe" "LWindPost$Letter;"]
def wsX4_init_r2 : List Cond := [Cond.fieldLink RX4 51 "WindPost" "second" "LWindPost$Letter;", Cond.instanceMethod yX3_init, Cond.code yX3_init cX3_init 1 none, Cond.methodLink RX3 3 objectInit, Cond.arrayClass .int, Cond.fieldLink RX3 9 "WindPost$Text" "signs" "[I", Cond.methodLink RX4 18 yX0_init, Cond.instanceMethod yX0_init, Cond.code yX0_init cX0_init 1 none, Cond.methodLink RX0 3 objectInit, Cond.fieldLink RX0 9 "WindPost$Chart" "isleCells" "[I", Cond.fieldLink RX0 15 "WindPost$Chart" "holds" "[I", Cond.fieldLink RX0 18 "WindPost$Chart" "winds" "[I", Cond.fieldLink RX0 21 "WindPost$Chart" "ends" "[I", Cond.methodLink RX0 24 yX0_untell, Cond.instanceMethod yX0_untell, Cond.selects RX0 yX0_untell yX0_untell, Cond.code yX0_untell cX0_untell 2 none, Cond.fieldLink RX0 30 "WindPost$Chart" "wide" "I", Cond.fieldLink RX0 34 "WindPost$Chart" "high" "I", Cond.fieldLink RX0 37 "WindPost$Chart" "force" "I", Cond.fieldLink RX0 40 "WindPost$Chart" "isles" "I", Cond.fieldLink RX0 43 "WindPost$Chart" "hills" "I", Cond.fieldLink RX0 46 "WindPost$Chart" "told" "I"]
def wsX4_init_r3 : List Cond := [Cond.methodLink RX0 27 yX0_drawEnds, Cond.instanceMethod yX0_drawEnds, Cond.selects RX0 yX0_drawEnds yX0_drawEnds, Cond.code yX0_drawEnds cX0_drawEnds 3 none, Cond.methodLink RX0 55 yX0_cells, Cond.instanceMethod yX0_cells, Cond.selects RX0 yX0_cells yX0_cells, Cond.code yX0_cells cX0_cells 1 (some .int), Cond.methodLink RX0 49 Lib.Math.min.name, Cond.static Lib.Math.min.name, Cond.initialized "java/lang/Math", Cond.code Lib.Math.min.name Lib.Math.min.code 2 (some .int), Cond.methodLink RX0 59 yX0_drawWay, Cond.instanceMethod yX0_drawWay, Cond.selects RX0 yX0_drawWay yX0_drawWay, Cond.code yX0_drawWay cX0_drawWay 7 none, Cond.methodLink RX0 63 yX0_beside, Cond.instanceMethod yX0_beside, Cond.selects RX0 yX0_beside yX0_beside, Cond.code yX0_beside cX0_beside 5 (some .int), Cond.methodLink RX0 66 yX0_onCell, Cond.instanceMethod yX0_onCell, Cond.selects RX0 yX0_onCell yX0_onCell, Cond.code yX0_onCell cX0_onCell 2 (some .int)]
def wsX4_init_r4 : List Cond := [Cond.methodLink RX4 28 yX2_init, Cond.instanceMethod yX2_init, Cond.code yX2_init cX2_init 2 none, Cond.methodLink RX2 3 objectInit, Cond.fieldLink RX2 9 "WindPost$Moment" "winds" "[I", Cond.classLink RX2 15 RX1, Cond.fieldLink RX2 17 "WindPost$Moment" "post" "[LWindPost$Letter;", Cond.instanceMethod yX1_init, Cond.code yX1_init cX1_init 1 none, Cond.methodLink RX1 3 objectInit]
def wsX4_init : List Cond := .code yX4_init cX4_init 2 none :: ((wsX4_init_r1 ++ (wsX4_init_r2 ++ (wsX4_init_r3 ++ wsX4_init_r4))) ++ wsX30 ++ wsX40 ++ wsX00 ++ wsX20 ++ wsX10)
def wsX4_type : List Cond := .code yX4_type cX4_type 2 (some .int) :: ([.fieldLink RX4 10 "WindPost" "text" "LWindPost$Text;", .fieldLink RX4 58 "WindPost$Text" "length" "I", .methodLink RX4 54 yX4_isWithin, .static yX4_isWithin, .initialized RX4, .code yX4_isWithin cX4_isWithin 3 (some .boolean), .methodLink RX4 62 yX3_add, .instanceMethod yX3_add, .selects RX3 yX3_add yX3_add, .initialized RX3, .code yX3_add cX3_add 2 none, .fieldLink RX3 15 "WindPost$Text" "length" "I", .fieldLink RX3 9 "WindPost$Text" "signs" "[I"] ++ wsX40 ++ wsX30)
def wsX4_clear : List Cond := .code yX4_clear cX4_clear 2 (some .int) :: ([.fieldLink RX4 10 "WindPost" "text" "LWindPost$Text;", .fieldLink RX4 58 "WindPost$Text" "length" "I"] ++ wsX40 ++ wsX30)
def wsX4_sea_r1 : List Cond := [Cond.fieldLink RX4 10 "WindPost" "text" "LWindPost$Text;", Cond.fieldLink RX4 23 "WindPost" "draft" "LWindPost$Chart;", Cond.fieldLink RX4 19 "WindPost" "chart" "LWindPost$Chart;", Cond.fieldLink RX4 58 "WindPost$Text" "length" "I", Cond.fieldLink RX4 29 "WindPost" "now" "LWindPost$Moment;", Cond.fieldLink RX4 77 "WindPost" "pastKnown" "I", Cond.fieldLink RX4 40 "WindPost" "kept" "[Z", Cond.methodLink RX4 66 yX3_readInto, Cond.instanceMethod yX3_readInto, Cond.selects RX3 yX3_readInto yX3_readInto, Cond.initialized RX3, Cond.code yX3_readInto cX3_readInto 3 (some .int), Cond.fieldLink RX3 24 "WindPost$Text" "next" "I", Cond.fieldLink RX3 27 "WindPost$Text" "items" "I", Cond.fieldLink RX3 30 "WindPost$Text" "forceTold" "Z", Cond.fieldLink RX3 37 "WindPost$Text" "token" "I", Cond.fieldLink RX3 44 "WindPost$Text" "place" "I", Cond.methodLink RX3 19 yX0_untell, Cond.instanceMethod yX0_untell, Cond.selects RX0 yX0_untell yX0_untell, Cond.initialized RX0, Cond.code yX0_untell cX0_untell 2 none, Cond.fieldLink RX0 30 "WindPost$Chart" "wide" "I", Cond.fieldLink RX0 34 "WindPost$Chart" "high" "I"]
def wsX4_sea_r2 : List Cond := [Cond.fieldLink RX0 37 "WindPost$Chart" "force" "I", Cond.fieldLink RX0 40 "WindPost$Chart" "isles" "I", Cond.fieldLink RX0 43 "WindPost$Chart" "hills" "I", Cond.fieldLink RX0 46 "WindPost$Chart" "told" "I", Cond.fieldLink RX0 15 "WindPost$Chart" "holds" "[I", Cond.methodLink RX3 34 yX3_step, Cond.instanceMethod yX3_step, Cond.selects RX3 yX3_step yX3_step, Cond.code yX3_step cX3_step 3 none, Cond.fieldLink RX3 15 "WindPost$Text" "length" "I", Cond.fieldLink RX3 9 "WindPost$Text" "signs" "[I", Cond.fieldLink RX3 72 "WindPost$Text" "number" "I", Cond.methodLink RX3 117 Lib.Math.min.name, Cond.static Lib.Math.min.name, Cond.initialized "java/lang/Math", Cond.code Lib.Math.min.name Lib.Math.min.code 2 (some .int), Cond.methodLink RX3 113 yX3_isDigit, Cond.static yX3_isDigit, Cond.code yX3_isDigit cX3_isDigit 1 (some .boolean), Cond.methodLink RX3 123 yX3_isSign, Cond.static yX3_isSign, Cond.code yX3_isSign cX3_isSign 1 (some .boolean), Cond.methodLink RX3 40 yX3_readItem, Cond.instanceMethod yX3_readItem]
def wsX4_sea_r3 : List Cond := [Cond.selects RX3 yX3_readItem yX3_readItem, Cond.code yX3_readItem cX3_readItem 2 (some .boolean), Cond.fieldLink RX3 50 "WindPost$Chart" "isles" "I", Cond.fieldLink RX3 56 "WindPost$Chart" "hills" "I", Cond.methodLink RX3 47 yX3_readSize, Cond.instanceMethod yX3_readSize, Cond.selects RX3 yX3_readSize yX3_readSize, Cond.code yX3_readSize cX3_readSize 2 (some .boolean), Cond.fieldLink RX3 75 "WindPost$Chart" "wide" "I", Cond.fieldLink RX3 78 "WindPost$Chart" "high" "I", Cond.methodLink RX3 68 yX3_stepsToNumber, Cond.instanceMethod yX3_stepsToNumber, Cond.selects RX3 yX3_stepsToNumber yX3_stepsToNumber, Cond.code yX3_stepsToNumber cX3_stepsToNumber 3 (some .boolean), Cond.static yX4_isWithin, Cond.initialized RX4, Cond.code yX4_isWithin cX4_isWithin 3 (some .boolean), Cond.methodLink RX3 81 yX3_stepsToEnd, Cond.instanceMethod yX3_stepsToEnd, Cond.selects RX3 yX3_stepsToEnd yX3_stepsToEnd, Cond.code yX3_stepsToEnd cX3_stepsToEnd 1 (some .boolean), Cond.methodLink RX3 53 yX3_readIsle, Cond.instanceMethod yX3_readIsle, Cond.selects RX3 yX3_readIsle yX3_readIsle]
def wsX4_sea_r4 : List Cond := [Cond.code yX3_readIsle cX3_readIsle 2 (some .boolean), Cond.methodLink RX3 85 yX0_cells, Cond.instanceMethod yX0_cells, Cond.selects RX0 yX0_cells yX0_cells, Cond.code yX0_cells cX0_cells 1 (some .int), Cond.methodLink RX0 49 Lib.Math.min.name, Cond.methodLink RX3 89 yX0_onCell, Cond.instanceMethod yX0_onCell, Cond.selects RX0 yX0_onCell yX0_onCell, Cond.code yX0_onCell cX0_onCell 2 (some .int), Cond.methodLink RX3 93 yX0_addIsle, Cond.instanceMethod yX0_addIsle, Cond.selects RX0 yX0_addIsle yX0_addIsle, Cond.code yX0_addIsle cX0_addIsle 2 none, Cond.fieldLink RX0 9 "WindPost$Chart" "isleCells" "[I", Cond.methodLink RX3 59 yX3_readHill, Cond.instanceMethod yX3_readHill, Cond.selects RX3 yX3_readHill yX3_readHill, Cond.code yX3_readHill cX3_readHill 2 (some .boolean), Cond.methodLink RX3 97 yX0_addHill, Cond.instanceMethod yX0_addHill, Cond.selects RX0 yX0_addHill yX0_addHill, Cond.code yX0_addHill cX0_addHill 2 none, Cond.methodLink RX3 62 yX3_readWinds]
def wsX4_sea_r5 : List Cond := [Cond.instanceMethod yX3_readWinds, Cond.selects RX3 yX3_readWinds yX3_readWinds, Cond.code yX3_readWinds cX3_readWinds 3 (some .boolean), Cond.fieldLink RX3 103 "WindPost$Chart" "told" "I", Cond.methodLink RX3 106 yX0_addWind, Cond.instanceMethod yX0_addWind, Cond.selects RX0 yX0_addWind yX0_addWind, Cond.code yX0_addWind cX0_addWind 2 none, Cond.fieldLink RX0 18 "WindPost$Chart" "winds" "[I", Cond.methodLink RX3 65 yX3_readForce, Cond.instanceMethod yX3_readForce, Cond.selects RX3 yX3_readForce yX3_readForce, Cond.code yX3_readForce cX3_readForce 2 (some .boolean), Cond.fieldLink RX3 100 "WindPost$Chart" "force" "I", Cond.methodLink RX4 70 yX0_drawEnds, Cond.instanceMethod yX0_drawEnds, Cond.selects RX0 yX0_drawEnds yX0_drawEnds, Cond.code yX0_drawEnds cX0_drawEnds 3 none, Cond.methodLink RX0 55 yX0_cells, Cond.methodLink RX0 59 yX0_drawWay, Cond.instanceMethod yX0_drawWay, Cond.selects RX0 yX0_drawWay yX0_drawWay, Cond.code yX0_drawWay cX0_drawWay 7 none, Cond.fieldLink RX0 21 "WindPost$Chart" "ends" "[I"]
def wsX4_sea_r6 : List Cond := [Cond.methodLink RX0 63 yX0_beside, Cond.instanceMethod yX0_beside, Cond.selects RX0 yX0_beside yX0_beside, Cond.code yX0_beside cX0_beside 5 (some .int), Cond.methodLink RX0 66 yX0_onCell, Cond.methodLink RX4 73 yX2_beginAnew, Cond.instanceMethod yX2_beginAnew, Cond.selects RX2 yX2_beginAnew yX2_beginAnew, Cond.initialized RX2, Cond.code yX2_beginAnew cX2_beginAnew 3 none, Cond.fieldLink RX2 22 "WindPost$Moment" "time" "I", Cond.fieldLink RX2 26 "WindPost$Moment" "letters" "I", Cond.fieldLink RX2 29 "WindPost$Moment" "nets" "I", Cond.fieldLink RX2 32 "WindPost$Chart" "told" "I", Cond.fieldLink RX2 37 "WindPost$Moment" "told" "I", Cond.fieldLink RX2 9 "WindPost$Moment" "winds" "[I", Cond.fieldLink RX2 38 "WindPost$Chart" "winds" "[I"]
def wsX4_sea : List Cond := .code yX4_sea cX4_sea 4 (some .int) :: ((wsX4_sea_r1 ++ (wsX4_sea_r2 ++ (wsX4_sea_r3 ++ (wsX4_sea_r4 ++ (wsX4_sea_r5 ++ wsX4_sea_r6))))) ++ wsX40 ++ wsX30 ++ wsX00 ++ wsX20)
def wsX4_isIsle : List Cond := .code yX4_isIsle cX4_isIsle 2 (some .boolean) :: ([.fieldLink RX4 19 "WindPost" "chart" "LWindPost$Chart;", .fieldLink RX4 194 "WindPost$Chart" "isles" "I", .methodLink RX4 54 yX4_isWithin, .static yX4_isWithin, .initialized RX4, .code yX4_isWithin cX4_isWithin 3 (some .boolean)] ++ wsX40 ++ wsX00)
def wsX4_isle : List Cond := .code yX4_isle cX4_isle 3 (some .int) :: ([.fieldLink RX4 19 "WindPost" "chart" "LWindPost$Chart;", .fieldLink RX4 84 "WindPost$Chart" "isleCells" "[I", .fieldLink RX4 29 "WindPost" "now" "LWindPost$Moment;", .fieldLink RX4 88 "WindPost$Moment" "nets" "I", .methodLink RX4 80 yX4_isIsle, .instanceMethod yX4_isIsle, .selects RX4 yX4_isIsle yX4_isIsle, .initialized RX4, .code yX4_isIsle cX4_isIsle 2 (some .boolean), .fieldLink RX4 194 "WindPost$Chart" "isles" "I", .methodLink RX4 54 yX4_isWithin, .static yX4_isWithin, .code yX4_isWithin cX4_isWithin 3 (some .boolean), .methodLink RX4 91 yX4_bitOf, .static yX4_bitOf, .code yX4_bitOf cX4_bitOf 2 (some .int)] ++ wsX40 ++ wsX00 ++ wsX20)
def wsX4_cell : List Cond := .code yX4_cell cX4_cell 2 (some .int) :: ([.fieldLink RX4 19 "WindPost" "chart" "LWindPost$Chart;", .fieldLink RX4 99 "WindPost$Chart" "holds" "[I", .methodLink RX4 95 yX0_cells, .instanceMethod yX0_cells, .selects RX0 yX0_cells yX0_cells, .initialized RX0, .code yX0_cells cX0_cells 1 (some .int), .fieldLink RX0 30 "WindPost$Chart" "wide" "I", .fieldLink RX0 34 "WindPost$Chart" "high" "I", .methodLink RX0 49 Lib.Math.min.name, .static Lib.Math.min.name, .initialized "java/lang/Math", .code Lib.Math.min.name Lib.Math.min.code 2 (some .int), .methodLink RX4 54 yX4_isWithin, .static yX4_isWithin, .initialized RX4, .code yX4_isWithin cX4_isWithin 3 (some .boolean)] ++ wsX40 ++ wsX00)
def wsX4_wind : List Cond := .code yX4_wind cX4_wind 2 (some .int) :: ([.fieldLink RX4 29 "WindPost" "now" "LWindPost$Moment;", .fieldLink RX4 102 "WindPost$Moment" "time" "I", .methodLink RX4 54 yX4_isWithin, .static yX4_isWithin, .initialized RX4, .code yX4_isWithin cX4_isWithin 3 (some .boolean), .methodLink RX4 105 yX2_windOf, .instanceMethod yX2_windOf, .selects RX2 yX2_windOf yX2_windOf, .initialized RX2, .code yX2_windOf cX2_windOf 2 (some .int), .fieldLink RX2 37 "WindPost$Moment" "told" "I", .fieldLink RX2 9 "WindPost$Moment" "winds" "[I", .methodLink RX2 43 yJ9_floorMod_7cf53, .static yJ9_floorMod_7cf53, .initialized RJ9, .code yJ9_floorMod_7cf53 cJ9_floorMod_7cf53 3 (some .int)] ++ wsX40 ++ wsX20)
def wsX4_isLetter : List Cond := .code yX4_isLetter cX4_isLetter 2 (some .boolean) :: ([.fieldLink RX4 29 "WindPost" "now" "LWindPost$Moment;", .fieldLink RX4 134 "WindPost$Moment" "letters" "I", .methodLink RX4 54 yX4_isWithin, .static yX4_isWithin, .initialized RX4, .code yX4_isWithin cX4_isWithin 3 (some .boolean)] ++ wsX40 ++ wsX20)
def wsX4_letter : List Cond := .code yX4_letter cX4_letter 4 (some .int) :: ([.fieldLink RX4 29 "WindPost" "now" "LWindPost$Moment;", .fieldLink RX4 112 "WindPost$Moment" "post" "[LWindPost$Letter;", .fieldLink RX4 116 "WindPost$Letter" "weight" "I", .fieldLink RX4 119 "WindPost$Letter" "from" "I", .fieldLink RX4 122 "WindPost$Letter" "to" "I", .fieldLink RX4 125 "WindPost$Letter" "place" "I", .fieldLink RX4 128 "WindPost$Letter" "marks" "I", .fieldLink RX4 131 "WindPost$Letter" "how" "I", .methodLink RX4 109 yX4_isLetter, .instanceMethod yX4_isLetter, .selects RX4 yX4_isLetter yX4_isLetter, .initialized RX4, .code yX4_isLetter cX4_isLetter 2 (some .boolean), .fieldLink RX4 134 "WindPost$Moment" "letters" "I", .methodLink RX4 54 yX4_isWithin, .static yX4_isWithin, .code yX4_isWithin cX4_isWithin 3 (some .boolean)] ++ wsX40 ++ wsX20 ++ wsX10)
def wsX4_now : List Cond := .code yX4_now cX4_now 2 (some .int) :: ([.fieldLink RX4 29 "WindPost" "now" "LWindPost$Moment;", .fieldLink RX4 102 "WindPost$Moment" "time" "I", .fieldLink RX4 134 "WindPost$Moment" "letters" "I", .fieldLink RX4 88 "WindPost$Moment" "nets" "I", .fieldLink RX4 77 "WindPost" "pastKnown" "I", .methodLink RX4 137 yX2_lettersUp, .instanceMethod yX2_lettersUp, .selects RX2 yX2_lettersUp yX2_lettersUp, .initialized RX2, .code yX2_lettersUp cX2_lettersUp 3 (some .int), .fieldLink RX2 26 "WindPost$Moment" "letters" "I", .fieldLink RX2 17 "WindPost$Moment" "post" "[LWindPost$Letter;", .fieldLink RX2 49 "WindPost$Letter" "how" "I"] ++ wsX40 ++ wsX20 ++ wsX10)
def wsX4_isWay : List Cond := .code yX4_isWay cX4_isWay 3 (some .boolean) :: ([.methodLink RX4 80 yX4_isIsle, .instanceMethod yX4_isIsle, .selects RX4 yX4_isIsle yX4_isIsle, .initialized RX4, .code yX4_isIsle cX4_isIsle 2 (some .boolean), .fieldLink RX4 19 "WindPost" "chart" "LWindPost$Chart;", .fieldLink RX4 194 "WindPost$Chart" "isles" "I", .methodLink RX4 54 yX4_isWithin, .static yX4_isWithin, .code yX4_isWithin cX4_isWithin 3 (some .boolean)] ++ wsX40 ++ wsX00)
def wsX4_isWeight : List Cond := .code yX4_isWeight cX4_isWeight 1 (some .boolean) :: ([.methodLink RX4 54 yX4_isWithin, .static yX4_isWithin, .initialized RX4, .code yX4_isWithin cX4_isWithin 3 (some .boolean)])
def wsX4_remember_r1 : List Cond := [Cond.fieldLink RX4 33 "WindPost" "past" "[LWindPost$Moment;", Cond.fieldLink RX4 164 "WindPost" "pastNext" "I", Cond.fieldLink RX4 29 "WindPost" "now" "LWindPost$Moment;", Cond.fieldLink RX4 77 "WindPost" "pastKnown" "I", Cond.methodLink RX4 254 Lib.Math.min.name, Cond.static Lib.Math.min.name, Cond.initialized "java/lang/Math", Cond.code Lib.Math.min.name Lib.Math.min.code 2 (some .int), Cond.methodLink RX4 167 yX2_copyFrom, Cond.instanceMethod yX2_copyFrom, Cond.selects RX2 yX2_copyFrom yX2_copyFrom, Cond.initialized RX2, Cond.code yX2_copyFrom cX2_copyFrom 3 none, Cond.fieldLink RX2 22 "WindPost$Moment" "time" "I", Cond.fieldLink RX2 26 "WindPost$Moment" "letters" "I", Cond.fieldLink RX2 29 "WindPost$Moment" "nets" "I", Cond.fieldLink RX2 37 "WindPost$Moment" "told" "I", Cond.fieldLink RX2 9 "WindPost$Moment" "winds" "[I", Cond.fieldLink RX2 17 "WindPost$Moment" "post" "[LWindPost$Letter;", Cond.methodLink RX2 39 yX1_copyFrom, Cond.instanceMethod yX1_copyFrom, Cond.selects RX1 yX1_copyFrom yX1_copyFrom, Cond.initialized RX1, Cond.code yX1_copyFrom cX1_copyFrom 2 none]
def wsX4_remember_r2 : List Cond := [Cond.fieldLink RX1 9 "WindPost$Letter" "weight" "I", Cond.fieldLink RX1 15 "WindPost$Letter" "from" "I", Cond.fieldLink RX1 18 "WindPost$Letter" "to" "I", Cond.fieldLink RX1 27 "WindPost$Letter" "place" "I", Cond.fieldLink RX1 30 "WindPost$Letter" "marks" "I", Cond.fieldLink RX1 33 "WindPost$Letter" "how" "I", Cond.fieldLink RX1 39 "WindPost$Letter" "reach" "I"]
def wsX4_remember : List Cond := .code yX4_remember cX4_remember 1 none :: ((wsX4_remember_r1 ++ wsX4_remember_r2) ++ wsX40 ++ wsX20 ++ wsX10)
def wsX4_lets_r1 : List Cond := [Cond.fieldLink RX4 29 "WindPost" "now" "LWindPost$Moment;", Cond.fieldLink RX4 134 "WindPost$Moment" "letters" "I", Cond.fieldLink RX4 112 "WindPost$Moment" "post" "[LWindPost$Letter;", Cond.fieldLink RX4 19 "WindPost" "chart" "LWindPost$Chart;", Cond.methodLink RX4 140 yX4_isWay, Cond.instanceMethod yX4_isWay, Cond.selects RX4 yX4_isWay yX4_isWay, Cond.initialized RX4, Cond.code yX4_isWay cX4_isWay 3 (some .boolean), Cond.methodLink RX4 80 yX4_isIsle, Cond.instanceMethod yX4_isIsle, Cond.selects RX4 yX4_isIsle yX4_isIsle, Cond.code yX4_isIsle cX4_isIsle 2 (some .boolean), Cond.fieldLink RX4 194 "WindPost$Chart" "isles" "I", Cond.methodLink RX4 54 yX4_isWithin, Cond.static yX4_isWithin, Cond.code yX4_isWithin cX4_isWithin 3 (some .boolean), Cond.methodLink RX4 144 yX4_isWeight, Cond.static yX4_isWeight, Cond.code yX4_isWeight cX4_isWeight 1 (some .boolean), Cond.methodLink RX4 147 yX4_remember, Cond.instanceMethod yX4_remember, Cond.selects RX4 yX4_remember yX4_remember, Cond.code yX4_remember cX4_remember 1 none]
def wsX4_lets_r2 : List Cond := [Cond.fieldLink RX4 33 "WindPost" "past" "[LWindPost$Moment;", Cond.fieldLink RX4 164 "WindPost" "pastNext" "I", Cond.fieldLink RX4 77 "WindPost" "pastKnown" "I", Cond.methodLink RX4 254 Lib.Math.min.name, Cond.static Lib.Math.min.name, Cond.initialized "java/lang/Math", Cond.code Lib.Math.min.name Lib.Math.min.code 2 (some .int), Cond.methodLink RX4 167 yX2_copyFrom, Cond.instanceMethod yX2_copyFrom, Cond.selects RX2 yX2_copyFrom yX2_copyFrom, Cond.initialized RX2, Cond.code yX2_copyFrom cX2_copyFrom 3 none, Cond.fieldLink RX2 22 "WindPost$Moment" "time" "I", Cond.fieldLink RX2 26 "WindPost$Moment" "letters" "I", Cond.fieldLink RX2 29 "WindPost$Moment" "nets" "I", Cond.fieldLink RX2 37 "WindPost$Moment" "told" "I", Cond.fieldLink RX2 9 "WindPost$Moment" "winds" "[I", Cond.fieldLink RX2 17 "WindPost$Moment" "post" "[LWindPost$Letter;", Cond.methodLink RX2 39 yX1_copyFrom, Cond.instanceMethod yX1_copyFrom, Cond.selects RX1 yX1_copyFrom yX1_copyFrom, Cond.initialized RX1, Cond.code yX1_copyFrom cX1_copyFrom 2 none, Cond.fieldLink RX1 9 "WindPost$Letter" "weight" "I"]
def wsX4_lets_r3 : List Cond := [Cond.fieldLink RX1 15 "WindPost$Letter" "from" "I", Cond.fieldLink RX1 18 "WindPost$Letter" "to" "I", Cond.fieldLink RX1 27 "WindPost$Letter" "place" "I", Cond.fieldLink RX1 30 "WindPost$Letter" "marks" "I", Cond.fieldLink RX1 33 "WindPost$Letter" "how" "I", Cond.fieldLink RX1 39 "WindPost$Letter" "reach" "I", Cond.methodLink RX4 150 yX1_letUp, Cond.instanceMethod yX1_letUp, Cond.selects RX1 yX1_letUp yX1_letUp, Cond.code yX1_letUp cX1_letUp 5 none, Cond.fieldLink RX1 36 "WindPost$Chart" "force" "I", Cond.methodLink RX1 21 yX0_cellOfIsle, Cond.instanceMethod yX0_cellOfIsle, Cond.selects RX0 yX0_cellOfIsle yX0_cellOfIsle, Cond.initialized RX0, Cond.code yX0_cellOfIsle cX0_cellOfIsle 2 (some .int), Cond.fieldLink RX0 9 "WindPost$Chart" "isleCells" "[I"]
def wsX4_lets : List Cond := .code yX4_lets cX4_lets 5 (some .int) :: ((wsX4_lets_r1 ++ (wsX4_lets_r2 ++ wsX4_lets_r3)) ++ wsX40 ++ wsX20 ++ wsX00 ++ wsX10)
def wsX4_hour_r1 : List Cond := [Cond.fieldLink RX4 29 "WindPost" "now" "LWindPost$Moment;", Cond.fieldLink RX4 102 "WindPost$Moment" "time" "I", Cond.fieldLink RX4 134 "WindPost$Moment" "letters" "I", Cond.fieldLink RX4 112 "WindPost$Moment" "post" "[LWindPost$Letter;", Cond.fieldLink RX4 131 "WindPost$Letter" "how" "I", Cond.fieldLink RX4 19 "WindPost" "chart" "LWindPost$Chart;", Cond.fieldLink RX4 88 "WindPost$Moment" "nets" "I", Cond.methodLink RX4 147 yX4_remember, Cond.instanceMethod yX4_remember, Cond.selects RX4 yX4_remember yX4_remember, Cond.initialized RX4, Cond.code yX4_remember cX4_remember 1 none, Cond.fieldLink RX4 33 "WindPost" "past" "[LWindPost$Moment;", Cond.fieldLink RX4 164 "WindPost" "pastNext" "I", Cond.fieldLink RX4 77 "WindPost" "pastKnown" "I", Cond.methodLink RX4 254 Lib.Math.min.name, Cond.static Lib.Math.min.name, Cond.initialized "java/lang/Math", Cond.code Lib.Math.min.name Lib.Math.min.code 2 (some .int), Cond.methodLink RX4 167 yX2_copyFrom, Cond.instanceMethod yX2_copyFrom, Cond.selects RX2 yX2_copyFrom yX2_copyFrom, Cond.initialized RX2, Cond.code yX2_copyFrom cX2_copyFrom 3 none]
def wsX4_hour_r2 : List Cond := [Cond.fieldLink RX2 22 "WindPost$Moment" "time" "I", Cond.fieldLink RX2 26 "WindPost$Moment" "letters" "I", Cond.fieldLink RX2 29 "WindPost$Moment" "nets" "I", Cond.fieldLink RX2 37 "WindPost$Moment" "told" "I", Cond.fieldLink RX2 9 "WindPost$Moment" "winds" "[I", Cond.fieldLink RX2 17 "WindPost$Moment" "post" "[LWindPost$Letter;", Cond.methodLink RX2 39 yX1_copyFrom, Cond.instanceMethod yX1_copyFrom, Cond.selects RX1 yX1_copyFrom yX1_copyFrom, Cond.initialized RX1, Cond.code yX1_copyFrom cX1_copyFrom 2 none, Cond.fieldLink RX1 9 "WindPost$Letter" "weight" "I", Cond.fieldLink RX1 15 "WindPost$Letter" "from" "I", Cond.fieldLink RX1 18 "WindPost$Letter" "to" "I", Cond.fieldLink RX1 27 "WindPost$Letter" "place" "I", Cond.fieldLink RX1 30 "WindPost$Letter" "marks" "I", Cond.fieldLink RX1 33 "WindPost$Letter" "how" "I", Cond.fieldLink RX1 39 "WindPost$Letter" "reach" "I", Cond.methodLink RX4 105 yX2_windOf, Cond.instanceMethod yX2_windOf, Cond.selects RX2 yX2_windOf yX2_windOf, Cond.code yX2_windOf cX2_windOf 2 (some .int), Cond.methodLink RX2 43 yJ9_floorMod_7cf53, Cond.static yJ9_floorMod_7cf53]
def wsX4_hour_r3 : List Cond := [Cond.initialized RJ9, Cond.code yJ9_floorMod_7cf53 cJ9_floorMod_7cf53 3 (some .int), Cond.methodLink RX4 154 yX1_passHour, Cond.instanceMethod yX1_passHour, Cond.selects RX1 yX1_passHour yX1_passHour, Cond.code yX1_passHour cX1_passHour 6 none, Cond.methodLink RX1 42 yX0_endOf, Cond.instanceMethod yX0_endOf, Cond.selects RX0 yX0_endOf yX0_endOf, Cond.initialized RX0, Cond.code yX0_endOf cX0_endOf 4 (some .int), Cond.fieldLink RX0 21 "WindPost$Chart" "ends" "[I", Cond.methodLink RX1 46 yX0_onCell, Cond.instanceMethod yX0_onCell, Cond.selects RX0 yX0_onCell yX0_onCell, Cond.code yX0_onCell cX0_onCell 2 (some .int), Cond.fieldLink RX0 15 "WindPost$Chart" "holds" "[I", Cond.static yX4_bitOf, Cond.code yX4_bitOf cX4_bitOf 2 (some .int)]
def wsX4_hour : List Cond := .code yX4_hour cX4_hour 6 (some .int) :: ((wsX4_hour_r1 ++ (wsX4_hour_r2 ++ wsX4_hour_r3)) ++ wsX40 ++ wsX20 ++ wsX10 ++ wsX00)
def wsX4_net_r1 : List Cond := [Cond.fieldLink RX4 29 "WindPost" "now" "LWindPost$Moment;", Cond.fieldLink RX4 88 "WindPost$Moment" "nets" "I", Cond.methodLink RX4 80 yX4_isIsle, Cond.instanceMethod yX4_isIsle, Cond.selects RX4 yX4_isIsle yX4_isIsle, Cond.initialized RX4, Cond.code yX4_isIsle cX4_isIsle 2 (some .boolean), Cond.fieldLink RX4 19 "WindPost" "chart" "LWindPost$Chart;", Cond.fieldLink RX4 194 "WindPost$Chart" "isles" "I", Cond.methodLink RX4 54 yX4_isWithin, Cond.static yX4_isWithin, Cond.code yX4_isWithin cX4_isWithin 3 (some .boolean), Cond.methodLink RX4 147 yX4_remember, Cond.instanceMethod yX4_remember, Cond.selects RX4 yX4_remember yX4_remember, Cond.code yX4_remember cX4_remember 1 none, Cond.fieldLink RX4 33 "WindPost" "past" "[LWindPost$Moment;", Cond.fieldLink RX4 164 "WindPost" "pastNext" "I", Cond.fieldLink RX4 77 "WindPost" "pastKnown" "I", Cond.methodLink RX4 254 Lib.Math.min.name, Cond.static Lib.Math.min.name, Cond.initialized "java/lang/Math", Cond.code Lib.Math.min.name Lib.Math.min.code 2 (some .int), Cond.methodLink RX4 167 yX2_copyFrom]
def wsX4_net_r2 : List Cond := [Cond.instanceMethod yX2_copyFrom, Cond.selects RX2 yX2_copyFrom yX2_copyFrom, Cond.initialized RX2, Cond.code yX2_copyFrom cX2_copyFrom 3 none, Cond.fieldLink RX2 22 "WindPost$Moment" "time" "I", Cond.fieldLink RX2 26 "WindPost$Moment" "letters" "I", Cond.fieldLink RX2 29 "WindPost$Moment" "nets" "I", Cond.fieldLink RX2 37 "WindPost$Moment" "told" "I", Cond.fieldLink RX2 9 "WindPost$Moment" "winds" "[I", Cond.fieldLink RX2 17 "WindPost$Moment" "post" "[LWindPost$Letter;", Cond.methodLink RX2 39 yX1_copyFrom, Cond.instanceMethod yX1_copyFrom, Cond.selects RX1 yX1_copyFrom yX1_copyFrom, Cond.initialized RX1, Cond.code yX1_copyFrom cX1_copyFrom 2 none, Cond.fieldLink RX1 9 "WindPost$Letter" "weight" "I", Cond.fieldLink RX1 15 "WindPost$Letter" "from" "I", Cond.fieldLink RX1 18 "WindPost$Letter" "to" "I", Cond.fieldLink RX1 27 "WindPost$Letter" "place" "I", Cond.fieldLink RX1 30 "WindPost$Letter" "marks" "I", Cond.fieldLink RX1 33 "WindPost$Letter" "how" "I", Cond.fieldLink RX1 39 "WindPost$Letter" "reach" "I", Cond.methodLink RX4 91 yX4_bitOf, Cond.static yX4_bitOf]
def wsX4_net_r3 : List Cond := [Cond.code yX4_bitOf cX4_bitOf 2 (some .int)]
def wsX4_net : List Cond := .code yX4_net cX4_net 4 (some .int) :: ((wsX4_net_r1 ++ (wsX4_net_r2 ++ wsX4_net_r3)) ++ wsX40 ++ wsX20 ++ wsX00 ++ wsX10)
def wsX4_turn_r1 : List Cond := [Cond.fieldLink RX4 29 "WindPost" "now" "LWindPost$Moment;", Cond.fieldLink RX4 158 "WindPost$Moment" "told" "I", Cond.fieldLink RX4 161 "WindPost$Moment" "winds" "[I", Cond.methodLink RX4 54 yX4_isWithin, Cond.static yX4_isWithin, Cond.initialized RX4, Cond.code yX4_isWithin cX4_isWithin 3 (some .boolean), Cond.methodLink RX4 147 yX4_remember, Cond.instanceMethod yX4_remember, Cond.selects RX4 yX4_remember yX4_remember, Cond.code yX4_remember cX4_remember 1 none, Cond.fieldLink RX4 33 "WindPost" "past" "[LWindPost$Moment;", Cond.fieldLink RX4 164 "WindPost" "pastNext" "I", Cond.fieldLink RX4 77 "WindPost" "pastKnown" "I", Cond.methodLink RX4 254 Lib.Math.min.name, Cond.static Lib.Math.min.name, Cond.initialized "java/lang/Math", Cond.code Lib.Math.min.name Lib.Math.min.code 2 (some .int), Cond.methodLink RX4 167 yX2_copyFrom, Cond.instanceMethod yX2_copyFrom, Cond.selects RX2 yX2_copyFrom yX2_copyFrom, Cond.initialized RX2, Cond.code yX2_copyFrom cX2_copyFrom 3 none, Cond.fieldLink RX2 22 "WindPost$Moment" "time" "I"]
def wsX4_turn_r2 : List Cond := [Cond.fieldLink RX2 26 "WindPost$Moment" "letters" "I", Cond.fieldLink RX2 29 "WindPost$Moment" "nets" "I", Cond.fieldLink RX2 37 "WindPost$Moment" "told" "I", Cond.fieldLink RX2 9 "WindPost$Moment" "winds" "[I", Cond.fieldLink RX2 17 "WindPost$Moment" "post" "[LWindPost$Letter;", Cond.methodLink RX2 39 yX1_copyFrom, Cond.instanceMethod yX1_copyFrom, Cond.selects RX1 yX1_copyFrom yX1_copyFrom, Cond.initialized RX1, Cond.code yX1_copyFrom cX1_copyFrom 2 none, Cond.fieldLink RX1 9 "WindPost$Letter" "weight" "I", Cond.fieldLink RX1 15 "WindPost$Letter" "from" "I", Cond.fieldLink RX1 18 "WindPost$Letter" "to" "I", Cond.fieldLink RX1 27 "WindPost$Letter" "place" "I", Cond.fieldLink RX1 30 "WindPost$Letter" "marks" "I", Cond.fieldLink RX1 33 "WindPost$Letter" "how" "I", Cond.fieldLink RX1 39 "WindPost$Letter" "reach" "I"]
def wsX4_turn : List Cond := .code yX4_turn cX4_turn 4 (some .int) :: ((wsX4_turn_r1 ++ wsX4_turn_r2) ++ wsX40 ++ wsX20 ++ wsX10)
def wsX4_undo_r1 : List Cond := [Cond.fieldLink RX4 77 "WindPost" "pastKnown" "I", Cond.fieldLink RX4 164 "WindPost" "pastNext" "I", Cond.fieldLink RX4 29 "WindPost" "now" "LWindPost$Moment;", Cond.fieldLink RX4 33 "WindPost" "past" "[LWindPost$Moment;", Cond.methodLink RX4 167 yX2_copyFrom, Cond.instanceMethod yX2_copyFrom, Cond.selects RX2 yX2_copyFrom yX2_copyFrom, Cond.initialized RX2, Cond.code yX2_copyFrom cX2_copyFrom 3 none, Cond.fieldLink RX2 22 "WindPost$Moment" "time" "I", Cond.fieldLink RX2 26 "WindPost$Moment" "letters" "I", Cond.fieldLink RX2 29 "WindPost$Moment" "nets" "I", Cond.fieldLink RX2 37 "WindPost$Moment" "told" "I", Cond.fieldLink RX2 9 "WindPost$Moment" "winds" "[I", Cond.fieldLink RX2 17 "WindPost$Moment" "post" "[LWindPost$Letter;", Cond.methodLink RX2 39 yX1_copyFrom, Cond.instanceMethod yX1_copyFrom, Cond.selects RX1 yX1_copyFrom yX1_copyFrom, Cond.initialized RX1, Cond.code yX1_copyFrom cX1_copyFrom 2 none, Cond.fieldLink RX1 9 "WindPost$Letter" "weight" "I", Cond.fieldLink RX1 15 "WindPost$Letter" "from" "I", Cond.fieldLink RX1 18 "WindPost$Letter" "to" "I", Cond.fieldLink RX1 27 "WindPost$Letter" "place" "I"]
def wsX4_undo_r2 : List Cond := [Cond.fieldLink RX1 30 "WindPost$Letter" "marks" "I", Cond.fieldLink RX1 33 "WindPost$Letter" "how" "I", Cond.fieldLink RX1 39 "WindPost$Letter" "reach" "I"]
def wsX4_undo : List Cond := .code yX4_undo cX4_undo 1 (some .int) :: ((wsX4_undo_r1 ++ wsX4_undo_r2) ++ wsX40 ++ wsX20 ++ wsX10)
def wsX4_passHours_r1 : List Cond := [Cond.fieldLink RX4 19 "WindPost" "chart" "LWindPost$Chart;", Cond.fieldLink RX4 29 "WindPost" "now" "LWindPost$Moment;", Cond.fieldLink RX4 88 "WindPost$Moment" "nets" "I", Cond.methodLink RX4 105 yX2_windOf, Cond.instanceMethod yX2_windOf, Cond.selects RX2 yX2_windOf yX2_windOf, Cond.initialized RX2, Cond.code yX2_windOf cX2_windOf 2 (some .int), Cond.fieldLink RX2 37 "WindPost$Moment" "told" "I", Cond.fieldLink RX2 9 "WindPost$Moment" "winds" "[I", Cond.methodLink RX2 43 yJ9_floorMod_7cf53, Cond.static yJ9_floorMod_7cf53, Cond.initialized RJ9, Cond.code yJ9_floorMod_7cf53 cJ9_floorMod_7cf53 3 (some .int), Cond.methodLink RX4 154 yX1_passHour, Cond.instanceMethod yX1_passHour, Cond.selects RX1 yX1_passHour yX1_passHour, Cond.initialized RX1, Cond.code yX1_passHour cX1_passHour 6 none, Cond.fieldLink RX1 33 "WindPost$Letter" "how" "I", Cond.fieldLink RX1 39 "WindPost$Letter" "reach" "I", Cond.fieldLink RX1 27 "WindPost$Letter" "place" "I", Cond.fieldLink RX1 18 "WindPost$Letter" "to" "I", Cond.fieldLink RX1 30 "WindPost$Letter" "marks" "I"]
def wsX4_passHours_r2 : List Cond := [Cond.methodLink RX1 42 yX0_endOf, Cond.instanceMethod yX0_endOf, Cond.selects RX0 yX0_endOf yX0_endOf, Cond.initialized RX0, Cond.code yX0_endOf cX0_endOf 4 (some .int), Cond.fieldLink RX0 21 "WindPost$Chart" "ends" "[I", Cond.methodLink RX1 46 yX0_onCell, Cond.instanceMethod yX0_onCell, Cond.selects RX0 yX0_onCell yX0_onCell, Cond.code yX0_onCell cX0_onCell 2 (some .int), Cond.fieldLink RX0 15 "WindPost$Chart" "holds" "[I", Cond.static yX4_bitOf, Cond.initialized RX4, Cond.code yX4_bitOf cX4_bitOf 2 (some .int)]
def wsX4_passHours : List Cond := .code yX4_passHours cX4_passHours 5 none :: ((wsX4_passHours_r1 ++ wsX4_passHours_r2) ++ wsX40 ++ wsX20 ++ wsX10 ++ wsX00)
def wsX4_letterIn_r1 : List Cond := [Cond.fieldLink RX4 47 "WindPost" "probe" "LWindPost$Letter;", Cond.fieldLink RX4 29 "WindPost" "now" "LWindPost$Moment;", Cond.fieldLink RX4 112 "WindPost$Moment" "post" "[LWindPost$Letter;", Cond.fieldLink RX4 102 "WindPost$Moment" "time" "I", Cond.methodLink RX4 175 yX1_copyFrom, Cond.instanceMethod yX1_copyFrom, Cond.selects RX1 yX1_copyFrom yX1_copyFrom, Cond.initialized RX1, Cond.code yX1_copyFrom cX1_copyFrom 2 none, Cond.fieldLink RX1 9 "WindPost$Letter" "weight" "I", Cond.fieldLink RX1 15 "WindPost$Letter" "from" "I", Cond.fieldLink RX1 18 "WindPost$Letter" "to" "I", Cond.fieldLink RX1 27 "WindPost$Letter" "place" "I", Cond.fieldLink RX1 30 "WindPost$Letter" "marks" "I", Cond.fieldLink RX1 33 "WindPost$Letter" "how" "I", Cond.fieldLink RX1 39 "WindPost$Letter" "reach" "I", Cond.methodLink RX4 186 yX4_passHours, Cond.instanceMethod yX4_passHours, Cond.selects RX4 yX4_passHours yX4_passHours, Cond.initialized RX4, Cond.code yX4_passHours cX4_passHours 5 none, Cond.fieldLink RX4 19 "WindPost" "chart" "LWindPost$Chart;", Cond.fieldLink RX4 88 "WindPost$Moment" "nets" "I", Cond.methodLink RX4 105 yX2_windOf]
def wsX4_letterIn_r2 : List Cond := [Cond.instanceMethod yX2_windOf, Cond.selects RX2 yX2_windOf yX2_windOf, Cond.initialized RX2, Cond.code yX2_windOf cX2_windOf 2 (some .int), Cond.fieldLink RX2 37 "WindPost$Moment" "told" "I", Cond.fieldLink RX2 9 "WindPost$Moment" "winds" "[I", Cond.methodLink RX2 43 yJ9_floorMod_7cf53, Cond.static yJ9_floorMod_7cf53, Cond.initialized RJ9, Cond.code yJ9_floorMod_7cf53 cJ9_floorMod_7cf53 3 (some .int), Cond.methodLink RX4 154 yX1_passHour, Cond.instanceMethod yX1_passHour, Cond.selects RX1 yX1_passHour yX1_passHour, Cond.code yX1_passHour cX1_passHour 6 none, Cond.methodLink RX1 42 yX0_endOf, Cond.instanceMethod yX0_endOf, Cond.selects RX0 yX0_endOf yX0_endOf, Cond.initialized RX0, Cond.code yX0_endOf cX0_endOf 4 (some .int), Cond.fieldLink RX0 21 "WindPost$Chart" "ends" "[I", Cond.methodLink RX1 46 yX0_onCell, Cond.instanceMethod yX0_onCell, Cond.selects RX0 yX0_onCell yX0_onCell, Cond.code yX0_onCell cX0_onCell 2 (some .int)]
def wsX4_letterIn_r3 : List Cond := [Cond.fieldLink RX0 15 "WindPost$Chart" "holds" "[I", Cond.static yX4_bitOf, Cond.code yX4_bitOf cX4_bitOf 2 (some .int)]
def wsX4_letterIn : List Cond := .code yX4_letterIn cX4_letterIn 3 (some (.object "WindPost$Letter")) :: ((wsX4_letterIn_r1 ++ (wsX4_letterIn_r2 ++ wsX4_letterIn_r3)) ++ wsX40 ++ wsX20 ++ wsX10 ++ wsX00)
def wsX4_where_r1 : List Cond := [Cond.fieldLink RX4 125 "WindPost$Letter" "place" "I", Cond.methodLink RX4 109 yX4_isLetter, Cond.instanceMethod yX4_isLetter, Cond.selects RX4 yX4_isLetter yX4_isLetter, Cond.initialized RX4, Cond.code yX4_isLetter cX4_isLetter 2 (some .boolean), Cond.fieldLink RX4 29 "WindPost" "now" "LWindPost$Moment;", Cond.fieldLink RX4 134 "WindPost$Moment" "letters" "I", Cond.methodLink RX4 54 yX4_isWithin, Cond.static yX4_isWithin, Cond.code yX4_isWithin cX4_isWithin 3 (some .boolean), Cond.methodLink RX4 171 yX4_letterIn, Cond.instanceMethod yX4_letterIn, Cond.selects RX4 yX4_letterIn yX4_letterIn, Cond.code yX4_letterIn cX4_letterIn 3 (some (.object "WindPost$Letter")), Cond.fieldLink RX4 47 "WindPost" "probe" "LWindPost$Letter;", Cond.fieldLink RX4 112 "WindPost$Moment" "post" "[LWindPost$Letter;", Cond.fieldLink RX4 102 "WindPost$Moment" "time" "I", Cond.methodLink RX4 175 yX1_copyFrom, Cond.instanceMethod yX1_copyFrom, Cond.selects RX1 yX1_copyFrom yX1_copyFrom, Cond.initialized RX1, Cond.code yX1_copyFrom cX1_copyFrom 2 none, Cond.fieldLink RX1 9 "WindPost$Letter" "weight" "I"]
def wsX4_where_r2 : List Cond := [Cond.fieldLink RX1 15 "WindPost$Letter" "from" "I", Cond.fieldLink RX1 18 "WindPost$Letter" "to" "I", Cond.fieldLink RX1 27 "WindPost$Letter" "place" "I", Cond.fieldLink RX1 30 "WindPost$Letter" "marks" "I", Cond.fieldLink RX1 33 "WindPost$Letter" "how" "I", Cond.fieldLink RX1 39 "WindPost$Letter" "reach" "I", Cond.methodLink RX4 186 yX4_passHours, Cond.instanceMethod yX4_passHours, Cond.selects RX4 yX4_passHours yX4_passHours, Cond.code yX4_passHours cX4_passHours 5 none, Cond.fieldLink RX4 19 "WindPost" "chart" "LWindPost$Chart;", Cond.fieldLink RX4 88 "WindPost$Moment" "nets" "I", Cond.methodLink RX4 105 yX2_windOf, Cond.instanceMethod yX2_windOf, Cond.selects RX2 yX2_windOf yX2_windOf, Cond.initialized RX2, Cond.code yX2_windOf cX2_windOf 2 (some .int), Cond.fieldLink RX2 37 "WindPost$Moment" "told" "I", Cond.fieldLink RX2 9 "WindPost$Moment" "winds" "[I", Cond.methodLink RX2 43 yJ9_floorMod_7cf53, Cond.static yJ9_floorMod_7cf53, Cond.initialized RJ9, Cond.code yJ9_floorMod_7cf53 cJ9_floorMod_7cf53 3 (some .int), Cond.methodLink RX4 154 yX1_passHour]
def wsX4_where_r3 : List Cond := [Cond.instanceMethod yX1_passHour, Cond.selects RX1 yX1_passHour yX1_passHour, Cond.code yX1_passHour cX1_passHour 6 none, Cond.methodLink RX1 42 yX0_endOf, Cond.instanceMethod yX0_endOf, Cond.selects RX0 yX0_endOf yX0_endOf, Cond.initialized RX0, Cond.code yX0_endOf cX0_endOf 4 (some .int), Cond.fieldLink RX0 21 "WindPost$Chart" "ends" "[I", Cond.methodLink RX1 46 yX0_onCell, Cond.instanceMethod yX0_onCell, Cond.selects RX0 yX0_onCell yX0_onCell, Cond.code yX0_onCell cX0_onCell 2 (some .int), Cond.fieldLink RX0 15 "WindPost$Chart" "holds" "[I", Cond.static yX4_bitOf, Cond.code yX4_bitOf cX4_bitOf 2 (some .int)]
def wsX4_where : List Cond := .code yX4_where cX4_where 3 (some .int) :: ((wsX4_where_r1 ++ (wsX4_where_r2 ++ wsX4_where_r3)) ++ wsX10 ++ wsX40 ++ wsX20 ++ wsX00)
def wsX4_arrival_r1 : List Cond := [Cond.fieldLink RX4 47 "WindPost" "probe" "LWindPost$Letter;", Cond.fieldLink RX4 131 "WindPost$Letter" "how" "I", Cond.fieldLink RX4 19 "WindPost" "chart" "LWindPost$Chart;", Cond.fieldLink RX4 29 "WindPost" "now" "LWindPost$Moment;", Cond.fieldLink RX4 158 "WindPost$Moment" "told" "I", Cond.methodLink RX4 181 Lib.Math.max.name, Cond.static Lib.Math.max.name, Cond.initialized "java/lang/Math", Cond.code Lib.Math.max.name Lib.Math.max.code 2 (some .int), Cond.methodLink RX4 254 Lib.Math.min.name, Cond.static Lib.Math.min.name, Cond.code Lib.Math.min.name Lib.Math.min.code 2 (some .int), Cond.methodLink RX4 95 yX0_cells, Cond.instanceMethod yX0_cells, Cond.selects RX0 yX0_cells yX0_cells, Cond.initialized RX0, Cond.code yX0_cells cX0_cells 1 (some .int), Cond.fieldLink RX0 30 "WindPost$Chart" "wide" "I", Cond.fieldLink RX0 34 "WindPost$Chart" "high" "I", Cond.methodLink RX0 49 Lib.Math.min.name, Cond.methodLink RX4 105 yX2_windOf, Cond.instanceMethod yX2_windOf, Cond.selects RX2 yX2_windOf yX2_windOf, Cond.initialized RX2]
def wsX4_arrival_r2 : List Cond := [Cond.code yX2_windOf cX2_windOf 2 (some .int), Cond.fieldLink RX2 37 "WindPost$Moment" "told" "I", Cond.fieldLink RX2 9 "WindPost$Moment" "winds" "[I", Cond.methodLink RX2 43 yJ9_floorMod_7cf53, Cond.static yJ9_floorMod_7cf53, Cond.initialized RJ9, Cond.code yJ9_floorMod_7cf53 cJ9_floorMod_7cf53 3 (some .int), Cond.methodLink RX4 154 yX1_passHour, Cond.instanceMethod yX1_passHour, Cond.selects RX1 yX1_passHour yX1_passHour, Cond.initialized RX1, Cond.code yX1_passHour cX1_passHour 6 none, Cond.fieldLink RX1 33 "WindPost$Letter" "how" "I", Cond.fieldLink RX1 39 "WindPost$Letter" "reach" "I", Cond.fieldLink RX1 27 "WindPost$Letter" "place" "I", Cond.fieldLink RX1 18 "WindPost$Letter" "to" "I", Cond.fieldLink RX1 30 "WindPost$Letter" "marks" "I", Cond.methodLink RX1 42 yX0_endOf, Cond.instanceMethod yX0_endOf, Cond.selects RX0 yX0_endOf yX0_endOf, Cond.code yX0_endOf cX0_endOf 4 (some .int), Cond.fieldLink RX0 21 "WindPost$Chart" "ends" "[I", Cond.methodLink RX1 46 yX0_onCell, Cond.instanceMethod yX0_onCell]
def wsX4_arrival_r3 : List Cond := [Cond.selects RX0 yX0_onCell yX0_onCell, Cond.code yX0_onCell cX0_onCell 2 (some .int), Cond.fieldLink RX0 15 "WindPost$Chart" "holds" "[I", Cond.static yX4_bitOf, Cond.initialized RX4, Cond.code yX4_bitOf cX4_bitOf 2 (some .int)]
def wsX4_arrival : List Cond := .code yX4_arrival cX4_arrival 5 (some .int) :: ((wsX4_arrival_r1 ++ (wsX4_arrival_r2 ++ wsX4_arrival_r3)) ++ wsX40 ++ wsX10 ++ wsX20 ++ wsX00)
def wsX4_comes_r1 : List Cond := [Cond.fieldLink RX4 47 "WindPost" "probe" "LWindPost$Letter;", Cond.fieldLink RX4 29 "WindPost" "now" "LWindPost$Moment;", Cond.fieldLink RX4 112 "WindPost$Moment" "post" "[LWindPost$Letter;", Cond.fieldLink RX4 102 "WindPost$Moment" "time" "I", Cond.fieldLink RX4 88 "WindPost$Moment" "nets" "I", Cond.methodLink RX4 109 yX4_isLetter, Cond.instanceMethod yX4_isLetter, Cond.selects RX4 yX4_isLetter yX4_isLetter, Cond.initialized RX4, Cond.code yX4_isLetter cX4_isLetter 2 (some .boolean), Cond.fieldLink RX4 134 "WindPost$Moment" "letters" "I", Cond.methodLink RX4 54 yX4_isWithin, Cond.static yX4_isWithin, Cond.code yX4_isWithin cX4_isWithin 3 (some .boolean), Cond.methodLink RX4 175 yX1_copyFrom, Cond.instanceMethod yX1_copyFrom, Cond.selects RX1 yX1_copyFrom yX1_copyFrom, Cond.initialized RX1, Cond.code yX1_copyFrom cX1_copyFrom 2 none, Cond.fieldLink RX1 9 "WindPost$Letter" "weight" "I", Cond.fieldLink RX1 15 "WindPost$Letter" "from" "I", Cond.fieldLink RX1 18 "WindPost$Letter" "to" "I", Cond.fieldLink RX1 27 "WindPost$Letter" "place" "I", Cond.fieldLink RX1 30 "WindPost$Letter" "marks" "I"]
def wsX4_comes_r2 : List Cond := [Cond.fieldLink RX1 33 "WindPost$Letter" "how" "I", Cond.fieldLink RX1 39 "WindPost$Letter" "reach" "I", Cond.methodLink RX4 178 yX4_arrival, Cond.instanceMethod yX4_arrival, Cond.selects RX4 yX4_arrival yX4_arrival, Cond.code yX4_arrival cX4_arrival 5 (some .int), Cond.fieldLink RX4 131 "WindPost$Letter" "how" "I", Cond.fieldLink RX4 19 "WindPost" "chart" "LWindPost$Chart;", Cond.fieldLink RX4 158 "WindPost$Moment" "told" "I", Cond.methodLink RX4 181 Lib.Math.max.name, Cond.static Lib.Math.max.name, Cond.initialized "java/lang/Math", Cond.code Lib.Math.max.name Lib.Math.max.code 2 (some .int), Cond.methodLink RX4 254 Lib.Math.min.name, Cond.static Lib.Math.min.name, Cond.code Lib.Math.min.name Lib.Math.min.code 2 (some .int), Cond.methodLink RX4 95 yX0_cells, Cond.instanceMethod yX0_cells, Cond.selects RX0 yX0_cells yX0_cells, Cond.initialized RX0, Cond.code yX0_cells cX0_cells 1 (some .int), Cond.fieldLink RX0 30 "WindPost$Chart" "wide" "I", Cond.fieldLink RX0 34 "WindPost$Chart" "high" "I", Cond.methodLink RX0 49 Lib.Math.min.name]
def wsX4_comes_r3 : List Cond := [Cond.methodLink RX4 105 yX2_windOf, Cond.instanceMethod yX2_windOf, Cond.selects RX2 yX2_windOf yX2_windOf, Cond.initialized RX2, Cond.code yX2_windOf cX2_windOf 2 (some .int), Cond.fieldLink RX2 37 "WindPost$Moment" "told" "I", Cond.fieldLink RX2 9 "WindPost$Moment" "winds" "[I", Cond.methodLink RX2 43 yJ9_floorMod_7cf53, Cond.static yJ9_floorMod_7cf53, Cond.initialized RJ9, Cond.code yJ9_floorMod_7cf53 cJ9_floorMod_7cf53 3 (some .int), Cond.methodLink RX4 154 yX1_passHour, Cond.instanceMethod yX1_passHour, Cond.selects RX1 yX1_passHour yX1_passHour, Cond.code yX1_passHour cX1_passHour 6 none, Cond.methodLink RX1 42 yX0_endOf, Cond.instanceMethod yX0_endOf, Cond.selects RX0 yX0_endOf yX0_endOf, Cond.code yX0_endOf cX0_endOf 4 (some .int), Cond.fieldLink RX0 21 "WindPost$Chart" "ends" "[I", Cond.methodLink RX1 46 yX0_onCell, Cond.instanceMethod yX0_onCell, Cond.selects RX0 yX0_onCell yX0_onCell, Cond.code yX0_onCell cX0_onCell 2 (some .int)]
def wsX4_comes_r4 : List Cond := [Cond.fieldLink RX0 15 "WindPost$Chart" "holds" "[I", Cond.static yX4_bitOf, Cond.code yX4_bitOf cX4_bitOf 2 (some .int)]
def wsX4_comes : List Cond := .code yX4_comes cX4_comes 2 (some .int) :: ((wsX4_comes_r1 ++ (wsX4_comes_r2 ++ (wsX4_comes_r3 ++ wsX4_comes_r4))) ++ wsX40 ++ wsX20 ++ wsX10 ++ wsX00)
def wsX4_blots_r1 : List Cond := [Cond.fieldLink RX4 128 "WindPost$Letter" "marks" "I", Cond.methodLink RX4 109 yX4_isLetter, Cond.instanceMethod yX4_isLetter, Cond.selects RX4 yX4_isLetter yX4_isLetter, Cond.initialized RX4, Cond.code yX4_isLetter cX4_isLetter 2 (some .boolean), Cond.fieldLink RX4 29 "WindPost" "now" "LWindPost$Moment;", Cond.fieldLink RX4 134 "WindPost$Moment" "letters" "I", Cond.methodLink RX4 54 yX4_isWithin, Cond.static yX4_isWithin, Cond.code yX4_isWithin cX4_isWithin 3 (some .boolean), Cond.methodLink RX4 171 yX4_letterIn, Cond.instanceMethod yX4_letterIn, Cond.selects RX4 yX4_letterIn yX4_letterIn, Cond.code yX4_letterIn cX4_letterIn 3 (some (.object "WindPost$Letter")), Cond.fieldLink RX4 47 "WindPost" "probe" "LWindPost$Letter;", Cond.fieldLink RX4 112 "WindPost$Moment" "post" "[LWindPost$Letter;", Cond.fieldLink RX4 102 "WindPost$Moment" "time" "I", Cond.methodLink RX4 175 yX1_copyFrom, Cond.instanceMethod yX1_copyFrom, Cond.selects RX1 yX1_copyFrom yX1_copyFrom, Cond.initialized RX1, Cond.code yX1_copyFrom cX1_copyFrom 2 none, Cond.fieldLink RX1 9 "WindPost$Letter" "weight" "I"]
def wsX4_blots_r2 : List Cond := [Cond.fieldLink RX1 15 "WindPost$Letter" "from" "I", Cond.fieldLink RX1 18 "WindPost$Letter" "to" "I", Cond.fieldLink RX1 27 "WindPost$Letter" "place" "I", Cond.fieldLink RX1 30 "WindPost$Letter" "marks" "I", Cond.fieldLink RX1 33 "WindPost$Letter" "how" "I", Cond.fieldLink RX1 39 "WindPost$Letter" "reach" "I", Cond.methodLink RX4 186 yX4_passHours, Cond.instanceMethod yX4_passHours, Cond.selects RX4 yX4_passHours yX4_passHours, Cond.code yX4_passHours cX4_passHours 5 none, Cond.fieldLink RX4 19 "WindPost" "chart" "LWindPost$Chart;", Cond.fieldLink RX4 88 "WindPost$Moment" "nets" "I", Cond.methodLink RX4 105 yX2_windOf, Cond.instanceMethod yX2_windOf, Cond.selects RX2 yX2_windOf yX2_windOf, Cond.initialized RX2, Cond.code yX2_windOf cX2_windOf 2 (some .int), Cond.fieldLink RX2 37 "WindPost$Moment" "told" "I", Cond.fieldLink RX2 9 "WindPost$Moment" "winds" "[I", Cond.methodLink RX2 43 yJ9_floorMod_7cf53, Cond.static yJ9_floorMod_7cf53, Cond.initialized RJ9, Cond.code yJ9_floorMod_7cf53 cJ9_floorMod_7cf53 3 (some .int), Cond.methodLink RX4 154 yX1_passHour]
def wsX4_blots_r3 : List Cond := [Cond.instanceMethod yX1_passHour, Cond.selects RX1 yX1_passHour yX1_passHour, Cond.code yX1_passHour cX1_passHour 6 none, Cond.methodLink RX1 42 yX0_endOf, Cond.instanceMethod yX0_endOf, Cond.selects RX0 yX0_endOf yX0_endOf, Cond.initialized RX0, Cond.code yX0_endOf cX0_endOf 4 (some .int), Cond.fieldLink RX0 21 "WindPost$Chart" "ends" "[I", Cond.methodLink RX1 46 yX0_onCell, Cond.instanceMethod yX0_onCell, Cond.selects RX0 yX0_onCell yX0_onCell, Cond.code yX0_onCell cX0_onCell 2 (some .int), Cond.fieldLink RX0 15 "WindPost$Chart" "holds" "[I", Cond.static yX4_bitOf, Cond.code yX4_bitOf cX4_bitOf 2 (some .int)]
def wsX4_blots : List Cond := .code yX4_blots cX4_blots 3 (some .int) :: ((wsX4_blots_r1 ++ (wsX4_blots_r2 ++ wsX4_blots_r3)) ++ wsX10 ++ wsX40 ++ wsX20 ++ wsX00)
def wsX4_loop_r1 : List Cond := [Cond.fieldLink RX4 29 "WindPost" "now" "LWindPost$Moment;", Cond.fieldLink RX4 158 "WindPost$Moment" "told" "I", Cond.methodLink RX4 181 Lib.Math.max.name, Cond.static Lib.Math.max.name, Cond.initialized "java/lang/Math", Cond.code Lib.Math.max.name Lib.Math.max.code 2 (some .int), Cond.fieldLink RX4 19 "WindPost" "chart" "LWindPost$Chart;", Cond.fieldLink RX4 131 "WindPost$Letter" "how" "I", Cond.fieldLink RX4 47 "WindPost" "probe" "LWindPost$Letter;", Cond.fieldLink RX4 125 "WindPost$Letter" "place" "I", Cond.fieldLink RX4 102 "WindPost$Moment" "time" "I", Cond.methodLink RX4 109 yX4_isLetter, Cond.instanceMethod yX4_isLetter, Cond.selects RX4 yX4_isLetter yX4_isLetter, Cond.initialized RX4, Cond.code yX4_isLetter cX4_isLetter 2 (some .boolean), Cond.fieldLink RX4 134 "WindPost$Moment" "letters" "I", Cond.methodLink RX4 54 yX4_isWithin, Cond.static yX4_isWithin, Cond.code yX4_isWithin cX4_isWithin 3 (some .boolean), Cond.methodLink RX4 95 yX0_cells, Cond.instanceMethod yX0_cells, Cond.selects RX0 yX0_cells yX0_cells, Cond.initialized RX0]
def wsX4_loop_r2 : List Cond := [Cond.code yX0_cells cX0_cells 1 (some .int), Cond.fieldLink RX0 30 "WindPost$Chart" "wide" "I", Cond.fieldLink RX0 34 "WindPost$Chart" "high" "I", Cond.methodLink RX0 49 Lib.Math.min.name, Cond.static Lib.Math.min.name, Cond.code Lib.Math.min.name Lib.Math.min.code 2 (some .int), Cond.methodLink RX4 171 yX4_letterIn, Cond.instanceMethod yX4_letterIn, Cond.selects RX4 yX4_letterIn yX4_letterIn, Cond.code yX4_letterIn cX4_letterIn 3 (some (.object "WindPost$Letter")), Cond.fieldLink RX4 112 "WindPost$Moment" "post" "[LWindPost$Letter;", Cond.methodLink RX4 175 yX1_copyFrom, Cond.instanceMethod yX1_copyFrom, Cond.selects RX1 yX1_copyFrom yX1_copyFrom, Cond.initialized RX1, Cond.code yX1_copyFrom cX1_copyFrom 2 none, Cond.fieldLink RX1 9 "WindPost$Letter" "weight" "I", Cond.fieldLink RX1 15 "WindPost$Letter" "from" "I", Cond.fieldLink RX1 18 "WindPost$Letter" "to" "I", Cond.fieldLink RX1 27 "WindPost$Letter" "place" "I", Cond.fieldLink RX1 30 "WindPost$Letter" "marks" "I", Cond.fieldLink RX1 33 "WindPost$Letter" "how" "I", Cond.fieldLink RX1 39 "WindPost$Letter" "reach" "I", Cond.methodLink RX4 186 yX4_passHours]
def wsX4_loop_r3 : List Cond := [Cond.instanceMethod yX4_passHours, Cond.selects RX4 yX4_passHours yX4_passHours, Cond.code yX4_passHours cX4_passHours 5 none, Cond.fieldLink RX4 88 "WindPost$Moment" "nets" "I", Cond.methodLink RX4 105 yX2_windOf, Cond.instanceMethod yX2_windOf, Cond.selects RX2 yX2_windOf yX2_windOf, Cond.initialized RX2, Cond.code yX2_windOf cX2_windOf 2 (some .int), Cond.fieldLink RX2 37 "WindPost$Moment" "told" "I", Cond.fieldLink RX2 9 "WindPost$Moment" "winds" "[I", Cond.methodLink RX2 43 yJ9_floorMod_7cf53, Cond.static yJ9_floorMod_7cf53, Cond.initialized RJ9, Cond.code yJ9_floorMod_7cf53 cJ9_floorMod_7cf53 3 (some .int), Cond.methodLink RX4 154 yX1_passHour, Cond.instanceMethod yX1_passHour, Cond.selects RX1 yX1_passHour yX1_passHour, Cond.code yX1_passHour cX1_passHour 6 none, Cond.methodLink RX1 42 yX0_endOf, Cond.instanceMethod yX0_endOf, Cond.selects RX0 yX0_endOf yX0_endOf, Cond.code yX0_endOf cX0_endOf 4 (some .int), Cond.fieldLink RX0 21 "WindPost$Chart" "ends" "[I"]
def wsX4_loop_r4 : List Cond := [Cond.methodLink RX1 46 yX0_onCell, Cond.instanceMethod yX0_onCell, Cond.selects RX0 yX0_onCell yX0_onCell, Cond.code yX0_onCell cX0_onCell 2 (some .int), Cond.fieldLink RX0 15 "WindPost$Chart" "holds" "[I", Cond.static yX4_bitOf, Cond.code yX4_bitOf cX4_bitOf 2 (some .int)]
def wsX4_loop : List Cond := .code yX4_loop cX4_loop 5 (some .int) :: ((wsX4_loop_r1 ++ (wsX4_loop_r2 ++ (wsX4_loop_r3 ++ wsX4_loop_r4))) ++ wsX40 ++ wsX20 ++ wsX10 ++ wsX00)
def wsX4_tangled_r1 : List Cond := [Cond.fieldLink RX4 47 "WindPost" "probe" "LWindPost$Letter;", Cond.fieldLink RX4 29 "WindPost" "now" "LWindPost$Moment;", Cond.fieldLink RX4 112 "WindPost$Moment" "post" "[LWindPost$Letter;", Cond.fieldLink RX4 51 "WindPost" "second" "LWindPost$Letter;", Cond.fieldLink RX4 131 "WindPost$Letter" "how" "I", Cond.fieldLink RX4 125 "WindPost$Letter" "place" "I", Cond.fieldLink RX4 102 "WindPost$Moment" "time" "I", Cond.methodLink RX4 109 yX4_isLetter, Cond.instanceMethod yX4_isLetter, Cond.selects RX4 yX4_isLetter yX4_isLetter, Cond.initialized RX4, Cond.code yX4_isLetter cX4_isLetter 2 (some .boolean), Cond.fieldLink RX4 134 "WindPost$Moment" "letters" "I", Cond.methodLink RX4 54 yX4_isWithin, Cond.static yX4_isWithin, Cond.code yX4_isWithin cX4_isWithin 3 (some .boolean), Cond.methodLink RX4 175 yX1_copyFrom, Cond.instanceMethod yX1_copyFrom, Cond.selects RX1 yX1_copyFrom yX1_copyFrom, Cond.initialized RX1, Cond.code yX1_copyFrom cX1_copyFrom 2 none, Cond.fieldLink RX1 9 "WindPost$Letter" "weight" "I", Cond.fieldLink RX1 15 "WindPost$Letter" "from" "I", Cond.fieldLink RX1 18 "WindPost$Letter" "to" "I"]
def wsX4_tangled_r2 : List Cond := [Cond.fieldLink RX1 27 "WindPost$Letter" "place" "I", Cond.fieldLink RX1 30 "WindPost$Letter" "marks" "I", Cond.fieldLink RX1 33 "WindPost$Letter" "how" "I", Cond.fieldLink RX1 39 "WindPost$Letter" "reach" "I", Cond.methodLink RX4 186 yX4_passHours, Cond.instanceMethod yX4_passHours, Cond.selects RX4 yX4_passHours yX4_passHours, Cond.code yX4_passHours cX4_passHours 5 none, Cond.fieldLink RX4 19 "WindPost" "chart" "LWindPost$Chart;", Cond.fieldLink RX4 88 "WindPost$Moment" "nets" "I", Cond.methodLink RX4 105 yX2_windOf, Cond.instanceMethod yX2_windOf, Cond.selects RX2 yX2_windOf yX2_windOf, Cond.initialized RX2, Cond.code yX2_windOf cX2_windOf 2 (some .int), Cond.fieldLink RX2 37 "WindPost$Moment" "told" "I", Cond.fieldLink RX2 9 "WindPost$Moment" "winds" "[I", Cond.methodLink RX2 43 yJ9_floorMod_7cf53, Cond.static yJ9_floorMod_7cf53, Cond.initialized RJ9, Cond.code yJ9_floorMod_7cf53 cJ9_floorMod_7cf53 3 (some .int), Cond.methodLink RX4 154 yX1_passHour, Cond.instanceMethod yX1_passHour, Cond.selects RX1 yX1_passHour yX1_passHour]
def wsX4_tangled_r3 : List Cond := [Cond.code yX1_passHour cX1_passHour 6 none, Cond.methodLink RX1 42 yX0_endOf, Cond.instanceMethod yX0_endOf, Cond.selects RX0 yX0_endOf yX0_endOf, Cond.initialized RX0, Cond.code yX0_endOf cX0_endOf 4 (some .int), Cond.fieldLink RX0 21 "WindPost$Chart" "ends" "[I", Cond.methodLink RX1 46 yX0_onCell, Cond.instanceMethod yX0_onCell, Cond.selects RX0 yX0_onCell yX0_onCell, Cond.code yX0_onCell cX0_onCell 2 (some .int), Cond.fieldLink RX0 15 "WindPost$Chart" "holds" "[I", Cond.static yX4_bitOf, Cond.code yX4_bitOf cX4_bitOf 2 (some .int)]
def wsX4_tangled : List Cond := .code yX4_tangled cX4_tangled 4 (some .int) :: ((wsX4_tangled_r1 ++ (wsX4_tangled_r2 ++ wsX4_tangled_r3)) ++ wsX40 ++ wsX20 ++ wsX10 ++ wsX00)
def wsX4_supposed_r1 : List Cond := [Cond.fieldLink RX4 47 "WindPost" "probe" "LWindPost$Letter;", Cond.fieldLink RX4 19 "WindPost" "chart" "LWindPost$Chart;", Cond.fieldLink RX4 257 "WindPost$Letter" "reach" "I", Cond.fieldLink RX4 29 "WindPost" "now" "LWindPost$Moment;", Cond.fieldLink RX4 102 "WindPost$Moment" "time" "I", Cond.methodLink RX4 150 yX1_letUp, Cond.instanceMethod yX1_letUp, Cond.selects RX1 yX1_letUp yX1_letUp, Cond.initialized RX1, Cond.code yX1_letUp cX1_letUp 5 none, Cond.fieldLink RX1 9 "WindPost$Letter" "weight" "I", Cond.fieldLink RX1 15 "WindPost$Letter" "from" "I", Cond.fieldLink RX1 18 "WindPost$Letter" "to" "I", Cond.fieldLink RX1 27 "WindPost$Letter" "place" "I", Cond.fieldLink RX1 30 "WindPost$Letter" "marks" "I", Cond.fieldLink RX1 33 "WindPost$Letter" "how" "I", Cond.fieldLink RX1 36 "WindPost$Chart" "force" "I", Cond.fieldLink RX1 39 "WindPost$Letter" "reach" "I", Cond.methodLink RX1 21 yX0_cellOfIsle, Cond.instanceMethod yX0_cellOfIsle, Cond.selects RX0 yX0_cellOfIsle yX0_cellOfIsle, Cond.initialized RX0, Cond.code yX0_cellOfIsle cX0_cellOfIsle 2 (some .int), Cond.fieldLink RX0 9 "WindPost$Chart" "isleCells" "[I"]
def wsX4_supposed_r2 : List Cond := [Cond.methodLink RX4 178 yX4_arrival, Cond.instanceMethod yX4_arrival, Cond.selects RX4 yX4_arrival yX4_arrival, Cond.initialized RX4, Cond.code yX4_arrival cX4_arrival 5 (some .int), Cond.fieldLink RX4 131 "WindPost$Letter" "how" "I", Cond.fieldLink RX4 158 "WindPost$Moment" "told" "I", Cond.methodLink RX4 181 Lib.Math.max.name, Cond.static Lib.Math.max.name, Cond.initialized "java/lang/Math", Cond.code Lib.Math.max.name Lib.Math.max.code 2 (some .int), Cond.methodLink RX4 254 Lib.Math.min.name, Cond.static Lib.Math.min.name, Cond.code Lib.Math.min.name Lib.Math.min.code 2 (some .int), Cond.methodLink RX4 95 yX0_cells, Cond.instanceMethod yX0_cells, Cond.selects RX0 yX0_cells yX0_cells, Cond.code yX0_cells cX0_cells 1 (some .int), Cond.fieldLink RX0 30 "WindPost$Chart" "wide" "I", Cond.fieldLink RX0 34 "WindPost$Chart" "high" "I", Cond.methodLink RX0 49 Lib.Math.min.name, Cond.methodLink RX4 105 yX2_windOf, Cond.instanceMethod yX2_windOf, Cond.selects RX2 yX2_windOf yX2_windOf]
def wsX4_supposed_r3 : List Cond := [Cond.initialized RX2, Cond.code yX2_windOf cX2_windOf 2 (some .int), Cond.fieldLink RX2 37 "WindPost$Moment" "told" "I", Cond.fieldLink RX2 9 "WindPost$Moment" "winds" "[I", Cond.methodLink RX2 43 yJ9_floorMod_7cf53, Cond.static yJ9_floorMod_7cf53, Cond.initialized RJ9, Cond.code yJ9_floorMod_7cf53 cJ9_floorMod_7cf53 3 (some .int), Cond.methodLink RX4 154 yX1_passHour, Cond.instanceMethod yX1_passHour, Cond.selects RX1 yX1_passHour yX1_passHour, Cond.code yX1_passHour cX1_passHour 6 none, Cond.methodLink RX1 42 yX0_endOf, Cond.instanceMethod yX0_endOf, Cond.selects RX0 yX0_endOf yX0_endOf, Cond.code yX0_endOf cX0_endOf 4 (some .int), Cond.fieldLink RX0 21 "WindPost$Chart" "ends" "[I", Cond.methodLink RX1 46 yX0_onCell, Cond.instanceMethod yX0_onCell, Cond.selects RX0 yX0_onCell yX0_onCell, Cond.code yX0_onCell cX0_onCell 2 (some .int), Cond.fieldLink RX0 15 "WindPost$Chart" "holds" "[I", Cond.static yX4_bitOf, Cond.code yX4_bitOf cX4_bitOf 2 (some .int)]
def wsX4_supposed : List Cond := .code yX4_supposed cX4_supposed 6 (some .int) :: ((wsX4_supposed_r1 ++ (wsX4_supposed_r2 ++ wsX4_supposed_r3)) ++ wsX40 ++ wsX10 ++ wsX20 ++ wsX00)
def wsX4_soonest_r1 : List Cond := [Cond.fieldLink RX4 29 "WindPost" "now" "LWindPost$Moment;", Cond.fieldLink RX4 88 "WindPost$Moment" "nets" "I", Cond.methodLink RX4 140 yX4_isWay, Cond.instanceMethod yX4_isWay, Cond.selects RX4 yX4_isWay yX4_isWay, Cond.initialized RX4, Cond.code yX4_isWay cX4_isWay 3 (some .boolean), Cond.methodLink RX4 80 yX4_isIsle, Cond.instanceMethod yX4_isIsle, Cond.selects RX4 yX4_isIsle yX4_isIsle, Cond.code yX4_isIsle cX4_isIsle 2 (some .boolean), Cond.fieldLink RX4 19 "WindPost" "chart" "LWindPost$Chart;", Cond.fieldLink RX4 194 "WindPost$Chart" "isles" "I", Cond.methodLink RX4 54 yX4_isWithin, Cond.static yX4_isWithin, Cond.code yX4_isWithin cX4_isWithin 3 (some .boolean), Cond.methodLink RX4 144 yX4_isWeight, Cond.static yX4_isWeight, Cond.code yX4_isWeight cX4_isWeight 1 (some .boolean), Cond.methodLink RX4 190 yX4_supposed, Cond.instanceMethod yX4_supposed, Cond.selects RX4 yX4_supposed yX4_supposed, Cond.code yX4_supposed cX4_supposed 6 (some .int), Cond.fieldLink RX4 47 "WindPost" "probe" "LWindPost$Letter;"]
def wsX4_soonest_r2 : List Cond := [Cond.fieldLink RX4 257 "WindPost$Letter" "reach" "I", Cond.fieldLink RX4 102 "WindPost$Moment" "time" "I", Cond.methodLink RX4 150 yX1_letUp, Cond.instanceMethod yX1_letUp, Cond.selects RX1 yX1_letUp yX1_letUp, Cond.initialized RX1, Cond.code yX1_letUp cX1_letUp 5 none, Cond.fieldLink RX1 9 "WindPost$Letter" "weight" "I", Cond.fieldLink RX1 15 "WindPost$Letter" "from" "I", Cond.fieldLink RX1 18 "WindPost$Letter" "to" "I", Cond.fieldLink RX1 27 "WindPost$Letter" "place" "I", Cond.fieldLink RX1 30 "WindPost$Letter" "marks" "I", Cond.fieldLink RX1 33 "WindPost$Letter" "how" "I", Cond.fieldLink RX1 36 "WindPost$Chart" "force" "I", Cond.fieldLink RX1 39 "WindPost$Letter" "reach" "I", Cond.methodLink RX1 21 yX0_cellOfIsle, Cond.instanceMethod yX0_cellOfIsle, Cond.selects RX0 yX0_cellOfIsle yX0_cellOfIsle, Cond.initialized RX0, Cond.code yX0_cellOfIsle cX0_cellOfIsle 2 (some .int), Cond.fieldLink RX0 9 "WindPost$Chart" "isleCells" "[I", Cond.methodLink RX4 178 yX4_arrival, Cond.instanceMethod yX4_arrival, Cond.selects RX4 yX4_arrival yX4_arrival]
def wsX4_soonest_r3 : List Cond := [Cond.code yX4_arrival cX4_arrival 5 (some .int), Cond.fieldLink RX4 131 "WindPost$Letter" "how" "I", Cond.fieldLink RX4 158 "WindPost$Moment" "told" "I", Cond.methodLink RX4 181 Lib.Math.max.name, Cond.static Lib.Math.max.name, Cond.initialized "java/lang/Math", Cond.code Lib.Math.max.name Lib.Math.max.code 2 (some .int), Cond.methodLink RX4 254 Lib.Math.min.name, Cond.static Lib.Math.min.name, Cond.code Lib.Math.min.name Lib.Math.min.code 2 (some .int), Cond.methodLink RX4 95 yX0_cells, Cond.instanceMethod yX0_cells, Cond.selects RX0 yX0_cells yX0_cells, Cond.code yX0_cells cX0_cells 1 (some .int), Cond.fieldLink RX0 30 "WindPost$Chart" "wide" "I", Cond.fieldLink RX0 34 "WindPost$Chart" "high" "I", Cond.methodLink RX0 49 Lib.Math.min.name, Cond.methodLink RX4 105 yX2_windOf, Cond.instanceMethod yX2_windOf, Cond.selects RX2 yX2_windOf yX2_windOf, Cond.initialized RX2, Cond.code yX2_windOf cX2_windOf 2 (some .int), Cond.fieldLink RX2 37 "WindPost$Moment" "told" "I", Cond.fieldLink RX2 9 "WindPost$Moment" "winds" "[I"]
def wsX4_soonest_r4 : List Cond := [Cond.methodLink RX2 43 yJ9_floorMod_7cf53, Cond.static yJ9_floorMod_7cf53, Cond.initialized RJ9, Cond.code yJ9_floorMod_7cf53 cJ9_floorMod_7cf53 3 (some .int), Cond.methodLink RX4 154 yX1_passHour, Cond.instanceMethod yX1_passHour, Cond.selects RX1 yX1_passHour yX1_passHour, Cond.code yX1_passHour cX1_passHour 6 none, Cond.methodLink RX1 42 yX0_endOf, Cond.instanceMethod yX0_endOf, Cond.selects RX0 yX0_endOf yX0_endOf, Cond.code yX0_endOf cX0_endOf 4 (some .int), Cond.fieldLink RX0 21 "WindPost$Chart" "ends" "[I", Cond.methodLink RX1 46 yX0_onCell, Cond.instanceMethod yX0_onCell, Cond.selects RX0 yX0_onCell yX0_onCell, Cond.code yX0_onCell cX0_onCell 2 (some .int), Cond.fieldLink RX0 15 "WindPost$Chart" "holds" "[I", Cond.static yX4_bitOf, Cond.code yX4_bitOf cX4_bitOf 2 (some .int)]
def wsX4_soonest : List Cond := .code yX4_soonest cX4_soonest 9 (some .int) :: ((wsX4_soonest_r1 ++ (wsX4_soonest_r2 ++ (wsX4_soonest_r3 ++ wsX4_soonest_r4))) ++ wsX40 ++ wsX20 ++ wsX00 ++ wsX10)
def wsX4_lightest_r1 : List Cond := [Cond.fieldLink RX4 29 "WindPost" "now" "LWindPost$Moment;", Cond.fieldLink RX4 88 "WindPost$Moment" "nets" "I", Cond.methodLink RX4 140 yX4_isWay, Cond.instanceMethod yX4_isWay, Cond.selects RX4 yX4_isWay yX4_isWay, Cond.initialized RX4, Cond.code yX4_isWay cX4_isWay 3 (some .boolean), Cond.methodLink RX4 80 yX4_isIsle, Cond.instanceMethod yX4_isIsle, Cond.selects RX4 yX4_isIsle yX4_isIsle, Cond.code yX4_isIsle cX4_isIsle 2 (some .boolean), Cond.fieldLink RX4 19 "WindPost" "chart" "LWindPost$Chart;", Cond.fieldLink RX4 194 "WindPost$Chart" "isles" "I", Cond.methodLink RX4 54 yX4_isWithin, Cond.static yX4_isWithin, Cond.code yX4_isWithin cX4_isWithin 3 (some .boolean), Cond.methodLink RX4 190 yX4_supposed, Cond.instanceMethod yX4_supposed, Cond.selects RX4 yX4_supposed yX4_supposed, Cond.code yX4_supposed cX4_supposed 6 (some .int), Cond.fieldLink RX4 47 "WindPost" "probe" "LWindPost$Letter;", Cond.fieldLink RX4 257 "WindPost$Letter" "reach" "I", Cond.fieldLink RX4 102 "WindPost$Moment" "time" "I", Cond.methodLink RX4 150 yX1_letUp]
def wsX4_lightest_r2 : List Cond := [Cond.instanceMethod yX1_letUp, Cond.selects RX1 yX1_letUp yX1_letUp, Cond.initialized RX1, Cond.code yX1_letUp cX1_letUp 5 none, Cond.fieldLink RX1 9 "WindPost$Letter" "weight" "I", Cond.fieldLink RX1 15 "WindPost$Letter" "from" "I", Cond.fieldLink RX1 18 "WindPost$Letter" "to" "I", Cond.fieldLink RX1 27 "WindPost$Letter" "place" "I", Cond.fieldLink RX1 30 "WindPost$Letter" "marks" "I", Cond.fieldLink RX1 33 "WindPost$Letter" "how" "I", Cond.fieldLink RX1 36 "WindPost$Chart" "force" "I", Cond.fieldLink RX1 39 "WindPost$Letter" "reach" "I", Cond.methodLink RX1 21 yX0_cellOfIsle, Cond.instanceMethod yX0_cellOfIsle, Cond.selects RX0 yX0_cellOfIsle yX0_cellOfIsle, Cond.initialized RX0, Cond.code yX0_cellOfIsle cX0_cellOfIsle 2 (some .int), Cond.fieldLink RX0 9 "WindPost$Chart" "isleCells" "[I", Cond.methodLink RX4 178 yX4_arrival, Cond.instanceMethod yX4_arrival, Cond.selects RX4 yX4_arrival yX4_arrival, Cond.code yX4_arrival cX4_arrival 5 (some .int), Cond.fieldLink RX4 131 "WindPost$Letter" "how" "I", Cond.fieldLink RX4 158 "WindPost$Moment" "told" "I"]
def wsX4_lightest_r3 : List Cond := [Cond.methodLink RX4 181 Lib.Math.max.name, Cond.static Lib.Math.max.name, Cond.initialized "java/lang/Math", Cond.code Lib.Math.max.name Lib.Math.max.code 2 (some .int), Cond.methodLink RX4 254 Lib.Math.min.name, Cond.static Lib.Math.min.name, Cond.code Lib.Math.min.name Lib.Math.min.code 2 (some .int), Cond.methodLink RX4 95 yX0_cells, Cond.instanceMethod yX0_cells, Cond.selects RX0 yX0_cells yX0_cells, Cond.code yX0_cells cX0_cells 1 (some .int), Cond.fieldLink RX0 30 "WindPost$Chart" "wide" "I", Cond.fieldLink RX0 34 "WindPost$Chart" "high" "I", Cond.methodLink RX0 49 Lib.Math.min.name, Cond.methodLink RX4 105 yX2_windOf, Cond.instanceMethod yX2_windOf, Cond.selects RX2 yX2_windOf yX2_windOf, Cond.initialized RX2, Cond.code yX2_windOf cX2_windOf 2 (some .int), Cond.fieldLink RX2 37 "WindPost$Moment" "told" "I", Cond.fieldLink RX2 9 "WindPost$Moment" "winds" "[I", Cond.methodLink RX2 43 yJ9_floorMod_7cf53, Cond.static yJ9_floorMod_7cf53, Cond.initialized RJ9]
def wsX4_lightest_r4 : List Cond := [Cond.code yJ9_floorMod_7cf53 cJ9_floorMod_7cf53 3 (some .int), Cond.methodLink RX4 154 yX1_passHour, Cond.instanceMethod yX1_passHour, Cond.selects RX1 yX1_passHour yX1_passHour, Cond.code yX1_passHour cX1_passHour 6 none, Cond.methodLink RX1 42 yX0_endOf, Cond.instanceMethod yX0_endOf, Cond.selects RX0 yX0_endOf yX0_endOf, Cond.code yX0_endOf cX0_endOf 4 (some .int), Cond.fieldLink RX0 21 "WindPost$Chart" "ends" "[I", Cond.methodLink RX1 46 yX0_onCell, Cond.instanceMethod yX0_onCell, Cond.selects RX0 yX0_onCell yX0_onCell, Cond.code yX0_onCell cX0_onCell 2 (some .int), Cond.fieldLink RX0 15 "WindPost$Chart" "holds" "[I", Cond.static yX4_bitOf, Cond.code yX4_bitOf cX4_bitOf 2 (some .int)]
def wsX4_lightest : List Cond := .code yX4_lightest cX4_lightest 6 (some .int) :: ((wsX4_lightest_r1 ++ (wsX4_lightest_r2 ++ (wsX4_lightest_r3 ++ wsX4_lightest_r4))) ++ wsX40 ++ wsX20 ++ wsX00 ++ wsX10)
def wsX4_keepsOff_r1 : List Cond := [Cond.fieldLink RX4 29 "WindPost" "now" "LWindPost$Moment;", Cond.fieldLink RX4 88 "WindPost$Moment" "nets" "I", Cond.methodLink RX4 190 yX4_supposed, Cond.instanceMethod yX4_supposed, Cond.selects RX4 yX4_supposed yX4_supposed, Cond.initialized RX4, Cond.code yX4_supposed cX4_supposed 6 (some .int), Cond.fieldLink RX4 47 "WindPost" "probe" "LWindPost$Letter;", Cond.fieldLink RX4 19 "WindPost" "chart" "LWindPost$Chart;", Cond.fieldLink RX4 257 "WindPost$Letter" "reach" "I", Cond.fieldLink RX4 102 "WindPost$Moment" "time" "I", Cond.methodLink RX4 150 yX1_letUp, Cond.instanceMethod yX1_letUp, Cond.selects RX1 yX1_letUp yX1_letUp, Cond.initialized RX1, Cond.code yX1_letUp cX1_letUp 5 none, Cond.fieldLink RX1 9 "WindPost$Letter" "weight" "I", Cond.fieldLink RX1 15 "WindPost$Letter" "from" "I", Cond.fieldLink RX1 18 "WindPost$Letter" "to" "I", Cond.fieldLink RX1 27 "WindPost$Letter" "place" "I", Cond.fieldLink RX1 30 "WindPost$Letter" "marks" "I", Cond.fieldLink RX1 33 "WindPost$Letter" "how" "I", Cond.fieldLink RX1 36 "WindPost$Chart" "force" "I", Cond.fieldLink RX1 39 "WindPost$Letter" "reach" "I"]
def wsX4_keepsOff_r2 : List Cond := [Cond.methodLink RX1 21 yX0_cellOfIsle, Cond.instanceMethod yX0_cellOfIsle, Cond.selects RX0 yX0_cellOfIsle yX0_cellOfIsle, Cond.initialized RX0, Cond.code yX0_cellOfIsle cX0_cellOfIsle 2 (some .int), Cond.fieldLink RX0 9 "WindPost$Chart" "isleCells" "[I", Cond.methodLink RX4 178 yX4_arrival, Cond.instanceMethod yX4_arrival, Cond.selects RX4 yX4_arrival yX4_arrival, Cond.code yX4_arrival cX4_arrival 5 (some .int), Cond.fieldLink RX4 131 "WindPost$Letter" "how" "I", Cond.fieldLink RX4 158 "WindPost$Moment" "told" "I", Cond.methodLink RX4 181 Lib.Math.max.name, Cond.static Lib.Math.max.name, Cond.initialized "java/lang/Math", Cond.code Lib.Math.max.name Lib.Math.max.code 2 (some .int), Cond.methodLink RX4 254 Lib.Math.min.name, Cond.static Lib.Math.min.name, Cond.code Lib.Math.min.name Lib.Math.min.code 2 (some .int), Cond.methodLink RX4 95 yX0_cells, Cond.instanceMethod yX0_cells, Cond.selects RX0 yX0_cells yX0_cells, Cond.code yX0_cells cX0_cells 1 (some .int), Cond.fieldLink RX0 30 "WindPost$Chart" "wide" "I"]
def wsX4_keepsOff_r3 : List Cond := [Cond.fieldLink RX0 34 "WindPost$Chart" "high" "I", Cond.methodLink RX0 49 Lib.Math.min.name, Cond.methodLink RX4 105 yX2_windOf, Cond.instanceMethod yX2_windOf, Cond.selects RX2 yX2_windOf yX2_windOf, Cond.initialized RX2, Cond.code yX2_windOf cX2_windOf 2 (some .int), Cond.fieldLink RX2 37 "WindPost$Moment" "told" "I", Cond.fieldLink RX2 9 "WindPost$Moment" "winds" "[I", Cond.methodLink RX2 43 yJ9_floorMod_7cf53, Cond.static yJ9_floorMod_7cf53, Cond.initialized RJ9, Cond.code yJ9_floorMod_7cf53 cJ9_floorMod_7cf53 3 (some .int), Cond.methodLink RX4 154 yX1_passHour, Cond.instanceMethod yX1_passHour, Cond.selects RX1 yX1_passHour yX1_passHour, Cond.code yX1_passHour cX1_passHour 6 none, Cond.methodLink RX1 42 yX0_endOf, Cond.instanceMethod yX0_endOf, Cond.selects RX0 yX0_endOf yX0_endOf, Cond.code yX0_endOf cX0_endOf 4 (some .int), Cond.fieldLink RX0 21 "WindPost$Chart" "ends" "[I", Cond.methodLink RX1 46 yX0_onCell, Cond.instanceMethod yX0_onCell]
def wsX4_keepsOff_r4 : List Cond := [Cond.selects RX0 yX0_onCell yX0_onCell, Cond.code yX0_onCell cX0_onCell 2 (some .int), Cond.fieldLink RX0 15 "WindPost$Chart" "holds" "[I", Cond.static yX4_bitOf, Cond.code yX4_bitOf cX4_bitOf 2 (some .int)]
def wsX4_keepsOff : List Cond := .code yX4_keepsOff cX4_keepsOff 6 (some .boolean) :: ((wsX4_keepsOff_r1 ++ (wsX4_keepsOff_r2 ++ (wsX4_keepsOff_r3 ++ wsX4_keepsOff_r4))) ++ wsX40 ++ wsX20 ++ wsX10 ++ wsX00)
def wsX4_hasWordOf_r1 : List Cond := [Cond.methodLink RX4 205 yX4_keepsOff, Cond.instanceMethod yX4_keepsOff, Cond.selects RX4 yX4_keepsOff yX4_keepsOff, Cond.initialized RX4, Cond.code yX4_keepsOff cX4_keepsOff 6 (some .boolean), Cond.fieldLink RX4 29 "WindPost" "now" "LWindPost$Moment;", Cond.fieldLink RX4 88 "WindPost$Moment" "nets" "I", Cond.methodLink RX4 190 yX4_supposed, Cond.instanceMethod yX4_supposed, Cond.selects RX4 yX4_supposed yX4_supposed, Cond.code yX4_supposed cX4_supposed 6 (some .int), Cond.fieldLink RX4 47 "WindPost" "probe" "LWindPost$Letter;", Cond.fieldLink RX4 19 "WindPost" "chart" "LWindPost$Chart;", Cond.fieldLink RX4 257 "WindPost$Letter" "reach" "I", Cond.fieldLink RX4 102 "WindPost$Moment" "time" "I", Cond.methodLink RX4 150 yX1_letUp, Cond.instanceMethod yX1_letUp, Cond.selects RX1 yX1_letUp yX1_letUp, Cond.initialized RX1, Cond.code yX1_letUp cX1_letUp 5 none, Cond.fieldLink RX1 9 "WindPost$Letter" "weight" "I", Cond.fieldLink RX1 15 "WindPost$Letter" "from" "I", Cond.fieldLink RX1 18 "WindPost$Letter" "to" "I", Cond.fieldLink RX1 27 "WindPost$Letter" "place" "I"]
def wsX4_hasWordOf_r2 : List Cond := [Cond.fieldLink RX1 30 "WindPost$Letter" "marks" "I", Cond.fieldLink RX1 33 "WindPost$Letter" "how" "I", Cond.fieldLink RX1 36 "WindPost$Chart" "force" "I", Cond.fieldLink RX1 39 "WindPost$Letter" "reach" "I", Cond.methodLink RX1 21 yX0_cellOfIsle, Cond.instanceMethod yX0_cellOfIsle, Cond.selects RX0 yX0_cellOfIsle yX0_cellOfIsle, Cond.initialized RX0, Cond.code yX0_cellOfIsle cX0_cellOfIsle 2 (some .int), Cond.fieldLink RX0 9 "WindPost$Chart" "isleCells" "[I", Cond.methodLink RX4 178 yX4_arrival, Cond.instanceMethod yX4_arrival, Cond.selects RX4 yX4_arrival yX4_arrival, Cond.code yX4_arrival cX4_arrival 5 (some .int), Cond.fieldLink RX4 131 "WindPost$Letter" "how" "I", Cond.fieldLink RX4 158 "WindPost$Moment" "told" "I", Cond.methodLink RX4 181 Lib.Math.max.name, Cond.static Lib.Math.max.name, Cond.initialized "java/lang/Math", Cond.code Lib.Math.max.name Lib.Math.max.code 2 (some .int), Cond.methodLink RX4 254 Lib.Math.min.name, Cond.static Lib.Math.min.name, Cond.code Lib.Math.min.name Lib.Math.min.code 2 (some .int), Cond.methodLink RX4 95 yX0_cells]
def wsX4_hasWordOf_r3 : List Cond := [Cond.instanceMethod yX0_cells, Cond.selects RX0 yX0_cells yX0_cells, Cond.code yX0_cells cX0_cells 1 (some .int), Cond.fieldLink RX0 30 "WindPost$Chart" "wide" "I", Cond.fieldLink RX0 34 "WindPost$Chart" "high" "I", Cond.methodLink RX0 49 Lib.Math.min.name, Cond.methodLink RX4 105 yX2_windOf, Cond.instanceMethod yX2_windOf, Cond.selects RX2 yX2_windOf yX2_windOf, Cond.initialized RX2, Cond.code yX2_windOf cX2_windOf 2 (some .int), Cond.fieldLink RX2 37 "WindPost$Moment" "told" "I", Cond.fieldLink RX2 9 "WindPost$Moment" "winds" "[I", Cond.methodLink RX2 43 yJ9_floorMod_7cf53, Cond.static yJ9_floorMod_7cf53, Cond.initialized RJ9, Cond.code yJ9_floorMod_7cf53 cJ9_floorMod_7cf53 3 (some .int), Cond.methodLink RX4 154 yX1_passHour, Cond.instanceMethod yX1_passHour, Cond.selects RX1 yX1_passHour yX1_passHour, Cond.code yX1_passHour cX1_passHour 6 none, Cond.methodLink RX1 42 yX0_endOf, Cond.instanceMethod yX0_endOf, Cond.selects RX0 yX0_endOf yX0_endOf]
def wsX4_hasWordOf_r4 : List Cond := [Cond.code yX0_endOf cX0_endOf 4 (some .int), Cond.fieldLink RX0 21 "WindPost$Chart" "ends" "[I", Cond.methodLink RX1 46 yX0_onCell, Cond.instanceMethod yX0_onCell, Cond.selects RX0 yX0_onCell yX0_onCell, Cond.code yX0_onCell cX0_onCell 2 (some .int), Cond.fieldLink RX0 15 "WindPost$Chart" "holds" "[I", Cond.static yX4_bitOf, Cond.code yX4_bitOf cX4_bitOf 2 (some .int)]
def wsX4_hasWordOf : List Cond := .code yX4_hasWordOf cX4_hasWordOf 4 (some .boolean) :: ((wsX4_hasWordOf_r1 ++ (wsX4_hasWordOf_r2 ++ (wsX4_hasWordOf_r3 ++ wsX4_hasWordOf_r4))) ++ wsX40 ++ wsX20 ++ wsX10 ++ wsX00)
def wsX4_words_r1 : List Cond := [Cond.fieldLink RX4 19 "WindPost" "chart" "LWindPost$Chart;", Cond.fieldLink RX4 194 "WindPost$Chart" "isles" "I", Cond.methodLink RX4 80 yX4_isIsle, Cond.instanceMethod yX4_isIsle, Cond.selects RX4 yX4_isIsle yX4_isIsle, Cond.initialized RX4, Cond.code yX4_isIsle cX4_isIsle 2 (some .boolean), Cond.methodLink RX4 54 yX4_isWithin, Cond.static yX4_isWithin, Cond.code yX4_isWithin cX4_isWithin 3 (some .boolean), Cond.methodLink RX4 197 yX4_hasWordOf, Cond.instanceMethod yX4_hasWordOf, Cond.selects RX4 yX4_hasWordOf yX4_hasWordOf, Cond.code yX4_hasWordOf cX4_hasWordOf 4 (some .boolean), Cond.methodLink RX4 205 yX4_keepsOff, Cond.instanceMethod yX4_keepsOff, Cond.selects RX4 yX4_keepsOff yX4_keepsOff, Cond.code yX4_keepsOff cX4_keepsOff 6 (some .boolean), Cond.fieldLink RX4 29 "WindPost" "now" "LWindPost$Moment;", Cond.fieldLink RX4 88 "WindPost$Moment" "nets" "I", Cond.methodLink RX4 190 yX4_supposed, Cond.instanceMethod yX4_supposed, Cond.selects RX4 yX4_supposed yX4_supposed, Cond.code yX4_supposed cX4_supposed 6 (some .int)]
def wsX4_words_r2 : List Cond := [Cond.fieldLink RX4 47 "WindPost" "probe" "LWindPost$Letter;", Cond.fieldLink RX4 257 "WindPost$Letter" "reach" "I", Cond.fieldLink RX4 102 "WindPost$Moment" "time" "I", Cond.methodLink RX4 150 yX1_letUp, Cond.instanceMethod yX1_letUp, Cond.selects RX1 yX1_letUp yX1_letUp, Cond.initialized RX1, Cond.code yX1_letUp cX1_letUp 5 none, Cond.fieldLink RX1 9 "WindPost$Letter" "weight" "I", Cond.fieldLink RX1 15 "WindPost$Letter" "from" "I", Cond.fieldLink RX1 18 "WindPost$Letter" "to" "I", Cond.fieldLink RX1 27 "WindPost$Letter" "place" "I", Cond.fieldLink RX1 30 "WindPost$Letter" "marks" "I", Cond.fieldLink RX1 33 "WindPost$Letter" "how" "I", Cond.fieldLink RX1 36 "WindPost$Chart" "force" "I", Cond.fieldLink RX1 39 "WindPost$Letter" "reach" "I", Cond.methodLink RX1 21 yX0_cellOfIsle, Cond.instanceMethod yX0_cellOfIsle, Cond.selects RX0 yX0_cellOfIsle yX0_cellOfIsle, Cond.initialized RX0, Cond.code yX0_cellOfIsle cX0_cellOfIsle 2 (some .int), Cond.fieldLink RX0 9 "WindPost$Chart" "isleCells" "[I", Cond.methodLink RX4 178 yX4_arrival, Cond.instanceMethod yX4_arrival]
def wsX4_words_r3 : List Cond := [Cond.selects RX4 yX4_arrival yX4_arrival, Cond.code yX4_arrival cX4_arrival 5 (some .int), Cond.fieldLink RX4 131 "WindPost$Letter" "how" "I", Cond.fieldLink RX4 158 "WindPost$Moment" "told" "I", Cond.methodLink RX4 181 Lib.Math.max.name, Cond.static Lib.Math.max.name, Cond.initialized "java/lang/Math", Cond.code Lib.Math.max.name Lib.Math.max.code 2 (some .int), Cond.methodLink RX4 254 Lib.Math.min.name, Cond.static Lib.Math.min.name, Cond.code Lib.Math.min.name Lib.Math.min.code 2 (some .int), Cond.methodLink RX4 95 yX0_cells, Cond.instanceMethod yX0_cells, Cond.selects RX0 yX0_cells yX0_cells, Cond.code yX0_cells cX0_cells 1 (some .int), Cond.fieldLink RX0 30 "WindPost$Chart" "wide" "I", Cond.fieldLink RX0 34 "WindPost$Chart" "high" "I", Cond.methodLink RX0 49 Lib.Math.min.name, Cond.methodLink RX4 105 yX2_windOf, Cond.instanceMethod yX2_windOf, Cond.selects RX2 yX2_windOf yX2_windOf, Cond.initialized RX2, Cond.code yX2_windOf cX2_windOf 2 (some .int), Cond.fieldLink RX2 37 "WindPost$Moment" "told" "I"]
def wsX4_words_r4 : List Cond := [Cond.fieldLink RX2 9 "WindPost$Moment" "winds" "[I", Cond.methodLink RX2 43 yJ9_floorMod_7cf53, Cond.static yJ9_floorMod_7cf53, Cond.initialized RJ9, Cond.code yJ9_floorMod_7cf53 cJ9_floorMod_7cf53 3 (some .int), Cond.methodLink RX4 154 yX1_passHour, Cond.instanceMethod yX1_passHour, Cond.selects RX1 yX1_passHour yX1_passHour, Cond.code yX1_passHour cX1_passHour 6 none, Cond.methodLink RX1 42 yX0_endOf, Cond.instanceMethod yX0_endOf, Cond.selects RX0 yX0_endOf yX0_endOf, Cond.code yX0_endOf cX0_endOf 4 (some .int), Cond.fieldLink RX0 21 "WindPost$Chart" "ends" "[I", Cond.methodLink RX1 46 yX0_onCell, Cond.instanceMethod yX0_onCell, Cond.selects RX0 yX0_onCell yX0_onCell, Cond.code yX0_onCell cX0_onCell 2 (some .int), Cond.fieldLink RX0 15 "WindPost$Chart" "holds" "[I", Cond.static yX4_bitOf, Cond.code yX4_bitOf cX4_bitOf 2 (some .int)]
def wsX4_words : List Cond := .code yX4_words cX4_words 4 (some .int) :: ((wsX4_words_r1 ++ (wsX4_words_r2 ++ (wsX4_words_r3 ++ wsX4_words_r4))) ++ wsX40 ++ wsX00 ++ wsX20 ++ wsX10)
def wsJ6_bitCount_0f7a4 : List Cond := .code yJ6_bitCount_0f7a4 cJ6_bitCount_0f7a4 1 (some .int) :: ([.constant RJ6 265 (1431655765), .constant RJ6 266 (858993459), .constant RJ6 267 (252645135)])
def wsX4_nets_r1 : List Cond := [Cond.fieldLink RX4 19 "WindPost" "chart" "LWindPost$Chart;", Cond.fieldLink RX4 194 "WindPost$Chart" "isles" "I", Cond.methodLink RX4 140 yX4_isWay, Cond.instanceMethod yX4_isWay, Cond.selects RX4 yX4_isWay yX4_isWay, Cond.initialized RX4, Cond.code yX4_isWay cX4_isWay 3 (some .boolean), Cond.methodLink RX4 80 yX4_isIsle, Cond.instanceMethod yX4_isIsle, Cond.selects RX4 yX4_isIsle yX4_isIsle, Cond.code yX4_isIsle cX4_isIsle 2 (some .boolean), Cond.methodLink RX4 54 yX4_isWithin, Cond.static yX4_isWithin, Cond.code yX4_isWithin cX4_isWithin 3 (some .boolean), Cond.methodLink RX4 144 yX4_isWeight, Cond.static yX4_isWeight, Cond.code yX4_isWeight cX4_isWeight 1 (some .boolean), Cond.methodLink RX4 200 yJ6_bitCount_0f7a4, Cond.static yJ6_bitCount_0f7a4, Cond.initialized RJ6, Cond.code yJ6_bitCount_0f7a4 cJ6_bitCount_0f7a4 1 (some .int), Cond.constant RJ6 265 (1431655765), Cond.constant RJ6 266 (858993459), Cond.constant RJ6 267 (252645135)]
def wsX4_nets_r2 : List Cond := [Cond.methodLink RX4 205 yX4_keepsOff, Cond.instanceMethod yX4_keepsOff, Cond.selects RX4 yX4_keepsOff yX4_keepsOff, Cond.code yX4_keepsOff cX4_keepsOff 6 (some .boolean), Cond.fieldLink RX4 29 "WindPost" "now" "LWindPost$Moment;", Cond.fieldLink RX4 88 "WindPost$Moment" "nets" "I", Cond.methodLink RX4 190 yX4_supposed, Cond.instanceMethod yX4_supposed, Cond.selects RX4 yX4_supposed yX4_supposed, Cond.code yX4_supposed cX4_supposed 6 (some .int), Cond.fieldLink RX4 47 "WindPost" "probe" "LWindPost$Letter;", Cond.fieldLink RX4 257 "WindPost$Letter" "reach" "I", Cond.fieldLink RX4 102 "WindPost$Moment" "time" "I", Cond.methodLink RX4 150 yX1_letUp, Cond.instanceMethod yX1_letUp, Cond.selects RX1 yX1_letUp yX1_letUp, Cond.initialized RX1, Cond.code yX1_letUp cX1_letUp 5 none, Cond.fieldLink RX1 9 "WindPost$Letter" "weight" "I", Cond.fieldLink RX1 15 "WindPost$Letter" "from" "I", Cond.fieldLink RX1 18 "WindPost$Letter" "to" "I", Cond.fieldLink RX1 27 "WindPost$Letter" "place" "I", Cond.fieldLink RX1 30 "WindPost$Letter" "marks" "I", Cond.fieldLink RX1 33 "WindPost$Letter" "how" "I"]
def wsX4_nets_r3 : List Cond := [Cond.fieldLink RX1 36 "WindPost$Chart" "force" "I", Cond.fieldLink RX1 39 "WindPost$Letter" "reach" "I", Cond.methodLink RX1 21 yX0_cellOfIsle, Cond.instanceMethod yX0_cellOfIsle, Cond.selects RX0 yX0_cellOfIsle yX0_cellOfIsle, Cond.initialized RX0, Cond.code yX0_cellOfIsle cX0_cellOfIsle 2 (some .int), Cond.fieldLink RX0 9 "WindPost$Chart" "isleCells" "[I", Cond.methodLink RX4 178 yX4_arrival, Cond.instanceMethod yX4_arrival, Cond.selects RX4 yX4_arrival yX4_arrival, Cond.code yX4_arrival cX4_arrival 5 (some .int), Cond.fieldLink RX4 131 "WindPost$Letter" "how" "I", Cond.fieldLink RX4 158 "WindPost$Moment" "told" "I", Cond.methodLink RX4 181 Lib.Math.max.name, Cond.static Lib.Math.max.name, Cond.initialized "java/lang/Math", Cond.code Lib.Math.max.name Lib.Math.max.code 2 (some .int), Cond.methodLink RX4 254 Lib.Math.min.name, Cond.static Lib.Math.min.name, Cond.code Lib.Math.min.name Lib.Math.min.code 2 (some .int), Cond.methodLink RX4 95 yX0_cells, Cond.instanceMethod yX0_cells, Cond.selects RX0 yX0_cells yX0_cells]
def wsX4_nets_r4 : List Cond := [Cond.code yX0_cells cX0_cells 1 (some .int), Cond.fieldLink RX0 30 "WindPost$Chart" "wide" "I", Cond.fieldLink RX0 34 "WindPost$Chart" "high" "I", Cond.methodLink RX0 49 Lib.Math.min.name, Cond.methodLink RX4 105 yX2_windOf, Cond.instanceMethod yX2_windOf, Cond.selects RX2 yX2_windOf yX2_windOf, Cond.initialized RX2, Cond.code yX2_windOf cX2_windOf 2 (some .int), Cond.fieldLink RX2 37 "WindPost$Moment" "told" "I", Cond.fieldLink RX2 9 "WindPost$Moment" "winds" "[I", Cond.methodLink RX2 43 yJ9_floorMod_7cf53, Cond.static yJ9_floorMod_7cf53, Cond.initialized RJ9, Cond.code yJ9_floorMod_7cf53 cJ9_floorMod_7cf53 3 (some .int), Cond.methodLink RX4 154 yX1_passHour, Cond.instanceMethod yX1_passHour, Cond.selects RX1 yX1_passHour yX1_passHour, Cond.code yX1_passHour cX1_passHour 6 none, Cond.methodLink RX1 42 yX0_endOf, Cond.instanceMethod yX0_endOf, Cond.selects RX0 yX0_endOf yX0_endOf, Cond.code yX0_endOf cX0_endOf 4 (some .int), Cond.fieldLink RX0 21 "WindPost$Chart" "ends" "[I"]
def wsX4_nets_r5 : List Cond := [Cond.methodLink RX1 46 yX0_onCell, Cond.instanceMethod yX0_onCell, Cond.selects RX0 yX0_onCell yX0_onCell, Cond.code yX0_onCell cX0_onCell 2 (some .int), Cond.fieldLink RX0 15 "WindPost$Chart" "holds" "[I", Cond.static yX4_bitOf, Cond.code yX4_bitOf cX4_bitOf 2 (some .int)]
def wsX4_nets : List Cond := .code yX4_nets cX4_nets 9 (some .int) :: ((wsX4_nets_r1 ++ (wsX4_nets_r2 ++ (wsX4_nets_r3 ++ (wsX4_nets_r4 ++ wsX4_nets_r5)))) ++ wsX40 ++ wsX00 ++ wsX20 ++ wsX10)
def wsX4_comesWith_r1 : List Cond := [Cond.fieldLink RX4 29 "WindPost" "now" "LWindPost$Moment;", Cond.fieldLink RX4 88 "WindPost$Moment" "nets" "I", Cond.fieldLink RX4 47 "WindPost" "probe" "LWindPost$Letter;", Cond.fieldLink RX4 128 "WindPost$Letter" "marks" "I", Cond.methodLink RX4 190 yX4_supposed, Cond.instanceMethod yX4_supposed, Cond.selects RX4 yX4_supposed yX4_supposed, Cond.initialized RX4, Cond.code yX4_supposed cX4_supposed 6 (some .int), Cond.fieldLink RX4 19 "WindPost" "chart" "LWindPost$Chart;", Cond.fieldLink RX4 257 "WindPost$Letter" "reach" "I", Cond.fieldLink RX4 102 "WindPost$Moment" "time" "I", Cond.methodLink RX4 150 yX1_letUp, Cond.instanceMethod yX1_letUp, Cond.selects RX1 yX1_letUp yX1_letUp, Cond.initialized RX1, Cond.code yX1_letUp cX1_letUp 5 none, Cond.fieldLink RX1 9 "WindPost$Letter" "weight" "I", Cond.fieldLink RX1 15 "WindPost$Letter" "from" "I", Cond.fieldLink RX1 18 "WindPost$Letter" "to" "I", Cond.fieldLink RX1 27 "WindPost$Letter" "place" "I", Cond.fieldLink RX1 30 "WindPost$Letter" "marks" "I", Cond.fieldLink RX1 33 "WindPost$Letter" "how" "I", Cond.fieldLink RX1 36 "WindPost$Chart" "force" "I"]
def wsX4_comesWith_r2 : List Cond := [Cond.fieldLink RX1 39 "WindPost$Letter" "reach" "I", Cond.methodLink RX1 21 yX0_cellOfIsle, Cond.instanceMethod yX0_cellOfIsle, Cond.selects RX0 yX0_cellOfIsle yX0_cellOfIsle, Cond.initialized RX0, Cond.code yX0_cellOfIsle cX0_cellOfIsle 2 (some .int), Cond.fieldLink RX0 9 "WindPost$Chart" "isleCells" "[I", Cond.methodLink RX4 178 yX4_arrival, Cond.instanceMethod yX4_arrival, Cond.selects RX4 yX4_arrival yX4_arrival, Cond.code yX4_arrival cX4_arrival 5 (some .int), Cond.fieldLink RX4 131 "WindPost$Letter" "how" "I", Cond.fieldLink RX4 158 "WindPost$Moment" "told" "I", Cond.methodLink RX4 181 Lib.Math.max.name, Cond.static Lib.Math.max.name, Cond.initialized "java/lang/Math", Cond.code Lib.Math.max.name Lib.Math.max.code 2 (some .int), Cond.methodLink RX4 254 Lib.Math.min.name, Cond.static Lib.Math.min.name, Cond.code Lib.Math.min.name Lib.Math.min.code 2 (some .int), Cond.methodLink RX4 95 yX0_cells, Cond.instanceMethod yX0_cells, Cond.selects RX0 yX0_cells yX0_cells, Cond.code yX0_cells cX0_cells 1 (some .int)]
def wsX4_comesWith_r3 : List Cond := [Cond.fieldLink RX0 30 "WindPost$Chart" "wide" "I", Cond.fieldLink RX0 34 "WindPost$Chart" "high" "I", Cond.methodLink RX0 49 Lib.Math.min.name, Cond.methodLink RX4 105 yX2_windOf, Cond.instanceMethod yX2_windOf, Cond.selects RX2 yX2_windOf yX2_windOf, Cond.initialized RX2, Cond.code yX2_windOf cX2_windOf 2 (some .int), Cond.fieldLink RX2 37 "WindPost$Moment" "told" "I", Cond.fieldLink RX2 9 "WindPost$Moment" "winds" "[I", Cond.methodLink RX2 43 yJ9_floorMod_7cf53, Cond.static yJ9_floorMod_7cf53, Cond.initialized RJ9, Cond.code yJ9_floorMod_7cf53 cJ9_floorMod_7cf53 3 (some .int), Cond.methodLink RX4 154 yX1_passHour, Cond.instanceMethod yX1_passHour, Cond.selects RX1 yX1_passHour yX1_passHour, Cond.code yX1_passHour cX1_passHour 6 none, Cond.methodLink RX1 42 yX0_endOf, Cond.instanceMethod yX0_endOf, Cond.selects RX0 yX0_endOf yX0_endOf, Cond.code yX0_endOf cX0_endOf 4 (some .int), Cond.fieldLink RX0 21 "WindPost$Chart" "ends" "[I", Cond.methodLink RX1 46 yX0_onCell]
def wsX4_comesWith_r4 : List Cond := [Cond.instanceMethod yX0_onCell, Cond.selects RX0 yX0_onCell yX0_onCell, Cond.code yX0_onCell cX0_onCell 2 (some .int), Cond.fieldLink RX0 15 "WindPost$Chart" "holds" "[I", Cond.static yX4_bitOf, Cond.code yX4_bitOf cX4_bitOf 2 (some .int)]
def wsX4_comesWith : List Cond := .code yX4_comesWith cX4_comesWith 6 (some .boolean) :: ((wsX4_comesWith_r1 ++ (wsX4_comesWith_r2 ++ (wsX4_comesWith_r3 ++ wsX4_comesWith_r4))) ++ wsX40 ++ wsX20 ++ wsX10 ++ wsX00)
def wsX4_who_r1 : List Cond := [Cond.fieldLink RX4 19 "WindPost" "chart" "LWindPost$Chart;", Cond.fieldLink RX4 194 "WindPost$Chart" "isles" "I", Cond.methodLink RX4 80 yX4_isIsle, Cond.instanceMethod yX4_isIsle, Cond.selects RX4 yX4_isIsle yX4_isIsle, Cond.initialized RX4, Cond.code yX4_isIsle cX4_isIsle 2 (some .boolean), Cond.methodLink RX4 54 yX4_isWithin, Cond.static yX4_isWithin, Cond.code yX4_isWithin cX4_isWithin 3 (some .boolean), Cond.methodLink RX4 144 yX4_isWeight, Cond.static yX4_isWeight, Cond.code yX4_isWeight cX4_isWeight 1 (some .boolean), Cond.methodLink RX4 209 yX4_comesWith, Cond.instanceMethod yX4_comesWith, Cond.selects RX4 yX4_comesWith yX4_comesWith, Cond.code yX4_comesWith cX4_comesWith 6 (some .boolean), Cond.fieldLink RX4 29 "WindPost" "now" "LWindPost$Moment;", Cond.fieldLink RX4 88 "WindPost$Moment" "nets" "I", Cond.fieldLink RX4 47 "WindPost" "probe" "LWindPost$Letter;", Cond.fieldLink RX4 128 "WindPost$Letter" "marks" "I", Cond.methodLink RX4 190 yX4_supposed, Cond.instanceMethod yX4_supposed, Cond.selects RX4 yX4_supposed yX4_supposed]
def wsX4_who_r2 : List Cond := [Cond.code yX4_supposed cX4_supposed 6 (some .int), Cond.fieldLink RX4 257 "WindPost$Letter" "reach" "I", Cond.fieldLink RX4 102 "WindPost$Moment" "time" "I", Cond.methodLink RX4 150 yX1_letUp, Cond.instanceMethod yX1_letUp, Cond.selects RX1 yX1_letUp yX1_letUp, Cond.initialized RX1, Cond.code yX1_letUp cX1_letUp 5 none, Cond.fieldLink RX1 9 "WindPost$Letter" "weight" "I", Cond.fieldLink RX1 15 "WindPost$Letter" "from" "I", Cond.fieldLink RX1 18 "WindPost$Letter" "to" "I", Cond.fieldLink RX1 27 "WindPost$Letter" "place" "I", Cond.fieldLink RX1 30 "WindPost$Letter" "marks" "I", Cond.fieldLink RX1 33 "WindPost$Letter" "how" "I", Cond.fieldLink RX1 36 "WindPost$Chart" "force" "I", Cond.fieldLink RX1 39 "WindPost$Letter" "reach" "I", Cond.methodLink RX1 21 yX0_cellOfIsle, Cond.instanceMethod yX0_cellOfIsle, Cond.selects RX0 yX0_cellOfIsle yX0_cellOfIsle, Cond.initialized RX0, Cond.code yX0_cellOfIsle cX0_cellOfIsle 2 (some .int), Cond.fieldLink RX0 9 "WindPost$Chart" "isleCells" "[I", Cond.methodLink RX4 178 yX4_arrival, Cond.instanceMethod yX4_arrival]
def wsX4_who_r3 : List Cond := [Cond.selects RX4 yX4_arrival yX4_arrival, Cond.code yX4_arrival cX4_arrival 5 (some .int), Cond.fieldLink RX4 131 "WindPost$Letter" "how" "I", Cond.fieldLink RX4 158 "WindPost$Moment" "told" "I", Cond.methodLink RX4 181 Lib.Math.max.name, Cond.static Lib.Math.max.name, Cond.initialized "java/lang/Math", Cond.code Lib.Math.max.name Lib.Math.max.code 2 (some .int), Cond.methodLink RX4 254 Lib.Math.min.name, Cond.static Lib.Math.min.name, Cond.code Lib.Math.min.name Lib.Math.min.code 2 (some .int), Cond.methodLink RX4 95 yX0_cells, Cond.instanceMethod yX0_cells, Cond.selects RX0 yX0_cells yX0_cells, Cond.code yX0_cells cX0_cells 1 (some .int), Cond.fieldLink RX0 30 "WindPost$Chart" "wide" "I", Cond.fieldLink RX0 34 "WindPost$Chart" "high" "I", Cond.methodLink RX0 49 Lib.Math.min.name, Cond.methodLink RX4 105 yX2_windOf, Cond.instanceMethod yX2_windOf, Cond.selects RX2 yX2_windOf yX2_windOf, Cond.initialized RX2, Cond.code yX2_windOf cX2_windOf 2 (some .int), Cond.fieldLink RX2 37 "WindPost$Moment" "told" "I"]
def wsX4_who_r4 : List Cond := [Cond.fieldLink RX2 9 "WindPost$Moment" "winds" "[I", Cond.methodLink RX2 43 yJ9_floorMod_7cf53, Cond.static yJ9_floorMod_7cf53, Cond.initialized RJ9, Cond.code yJ9_floorMod_7cf53 cJ9_floorMod_7cf53 3 (some .int), Cond.methodLink RX4 154 yX1_passHour, Cond.instanceMethod yX1_passHour, Cond.selects RX1 yX1_passHour yX1_passHour, Cond.code yX1_passHour cX1_passHour 6 none, Cond.methodLink RX1 42 yX0_endOf, Cond.instanceMethod yX0_endOf, Cond.selects RX0 yX0_endOf yX0_endOf, Cond.code yX0_endOf cX0_endOf 4 (some .int), Cond.fieldLink RX0 21 "WindPost$Chart" "ends" "[I", Cond.methodLink RX1 46 yX0_onCell, Cond.instanceMethod yX0_onCell, Cond.selects RX0 yX0_onCell yX0_onCell, Cond.code yX0_onCell cX0_onCell 2 (some .int), Cond.fieldLink RX0 15 "WindPost$Chart" "holds" "[I", Cond.static yX4_bitOf, Cond.code yX4_bitOf cX4_bitOf 2 (some .int)]
def wsX4_who : List Cond := .code yX4_who cX4_who 6 (some .int) :: ((wsX4_who_r1 ++ (wsX4_who_r2 ++ (wsX4_who_r3 ++ wsX4_who_r4))) ++ wsX40 ++ wsX00 ++ wsX20 ++ wsX10)
def wsX4_knee : List Cond := .code yX4_knee cX4_knee 6 (some .int) :: ([.fieldLink RX4 29 "WindPost" "now" "LWindPost$Moment;", .fieldLink RX4 102 "WindPost$Moment" "time" "I", .methodLink RX4 54 yX4_isWithin, .static yX4_isWithin, .initialized RX4, .code yX4_isWithin cX4_isWithin 3 (some .boolean), .methodLink RX4 105 yX2_windOf, .instanceMethod yX2_windOf, .selects RX2 yX2_windOf yX2_windOf, .initialized RX2, .code yX2_windOf cX2_windOf 2 (some .int), .fieldLink RX2 37 "WindPost$Moment" "told" "I", .fieldLink RX2 9 "WindPost$Moment" "winds" "[I", .methodLink RX2 43 yJ9_floorMod_7cf53, .static yJ9_floorMod_7cf53, .initialized RJ9, .code yJ9_floorMod_7cf53 cJ9_floorMod_7cf53 3 (some .int)] ++ wsX40 ++ wsX20)
def wsX4_drift : List Cond := .code yX4_drift cX4_drift 7 (some .int) :: ([.constant RX4 212 (-1000000), .fieldLink RX4 29 "WindPost" "now" "LWindPost$Moment;", .fieldLink RX4 158 "WindPost$Moment" "told" "I", .fieldLink RX4 161 "WindPost$Moment" "winds" "[I", .fieldLink RX4 19 "WindPost" "chart" "LWindPost$Chart;", .fieldLink RX4 213 "WindPost$Chart" "force" "I", .methodLink RX4 181 Lib.Math.max.name, .static Lib.Math.max.name, .initialized "java/lang/Math", .code Lib.Math.max.name Lib.Math.max.code 2 (some .int), .methodLink RX4 144 yX4_isWeight, .static yX4_isWeight, .initialized RX4, .code yX4_isWeight cX4_isWeight 1 (some .boolean), .methodLink RX4 54 yX4_isWithin, .static yX4_isWithin, .code yX4_isWithin cX4_isWithin 3 (some .boolean)] ++ wsX40 ++ wsX20 ++ wsX00)
def wsX4_shareArrived_r1 : List Cond := [Cond.fieldLink RX4 47 "WindPost" "probe" "LWindPost$Letter;", Cond.fieldLink RX4 29 "WindPost" "now" "LWindPost$Moment;", Cond.fieldLink RX4 112 "WindPost$Moment" "post" "[LWindPost$Letter;", Cond.fieldLink RX4 19 "WindPost" "chart" "LWindPost$Chart;", Cond.fieldLink RX4 102 "WindPost$Moment" "time" "I", Cond.fieldLink RX4 88 "WindPost$Moment" "nets" "I", Cond.fieldLink RX4 131 "WindPost$Letter" "how" "I", Cond.methodLink RX4 175 yX1_copyFrom, Cond.instanceMethod yX1_copyFrom, Cond.selects RX1 yX1_copyFrom yX1_copyFrom, Cond.initialized RX1, Cond.code yX1_copyFrom cX1_copyFrom 2 none, Cond.fieldLink RX1 9 "WindPost$Letter" "weight" "I", Cond.fieldLink RX1 15 "WindPost$Letter" "from" "I", Cond.fieldLink RX1 18 "WindPost$Letter" "to" "I", Cond.fieldLink RX1 27 "WindPost$Letter" "place" "I", Cond.fieldLink RX1 30 "WindPost$Letter" "marks" "I", Cond.fieldLink RX1 33 "WindPost$Letter" "how" "I", Cond.fieldLink RX1 39 "WindPost$Letter" "reach" "I", Cond.methodLink RX4 91 yX4_bitOf, Cond.static yX4_bitOf, Cond.initialized RX4, Cond.code yX4_bitOf cX4_bitOf 2 (some .int), Cond.methodLink RX4 105 yX2_windOf]
def wsX4_shareArrived_r2 : List Cond := [Cond.instanceMethod yX2_windOf, Cond.selects RX2 yX2_windOf yX2_windOf, Cond.initialized RX2, Cond.code yX2_windOf cX2_windOf 2 (some .int), Cond.fieldLink RX2 37 "WindPost$Moment" "told" "I", Cond.fieldLink RX2 9 "WindPost$Moment" "winds" "[I", Cond.methodLink RX2 43 yJ9_floorMod_7cf53, Cond.static yJ9_floorMod_7cf53, Cond.initialized RJ9, Cond.code yJ9_floorMod_7cf53 cJ9_floorMod_7cf53 3 (some .int), Cond.methodLink RX4 154 yX1_passHour, Cond.instanceMethod yX1_passHour, Cond.selects RX1 yX1_passHour yX1_passHour, Cond.code yX1_passHour cX1_passHour 6 none, Cond.methodLink RX1 42 yX0_endOf, Cond.instanceMethod yX0_endOf, Cond.selects RX0 yX0_endOf yX0_endOf, Cond.initialized RX0, Cond.code yX0_endOf cX0_endOf 4 (some .int), Cond.fieldLink RX0 21 "WindPost$Chart" "ends" "[I", Cond.methodLink RX1 46 yX0_onCell, Cond.instanceMethod yX0_onCell, Cond.selects RX0 yX0_onCell yX0_onCell, Cond.code yX0_onCell cX0_onCell 2 (some .int)]
def wsX4_shareArrived_r3 : List Cond := [Cond.fieldLink RX0 15 "WindPost$Chart" "holds" "[I"]
def wsX4_shareArrived : List Cond := .code yX4_shareArrived cX4_shareArrived 8 (some .int) :: ((wsX4_shareArrived_r1 ++ (wsX4_shareArrived_r2 ++ wsX4_shareArrived_r3)) ++ wsX40 ++ wsX20 ++ wsX10 ++ wsX00)
def wsX4_commonDivisor : List Cond := .code yX4_commonDivisor cX4_commonDivisor 6 (some .int) :: ([])
def wsX4_odds_r1 : List Cond := [Cond.methodLink RX4 109 yX4_isLetter, Cond.instanceMethod yX4_isLetter, Cond.selects RX4 yX4_isLetter yX4_isLetter, Cond.initialized RX4, Cond.code yX4_isLetter cX4_isLetter 2 (some .boolean), Cond.fieldLink RX4 29 "WindPost" "now" "LWindPost$Moment;", Cond.fieldLink RX4 134 "WindPost$Moment" "letters" "I", Cond.methodLink RX4 54 yX4_isWithin, Cond.static yX4_isWithin, Cond.code yX4_isWithin cX4_isWithin 3 (some .boolean), Cond.methodLink RX4 216 yX4_shareArrived, Cond.instanceMethod yX4_shareArrived, Cond.selects RX4 yX4_shareArrived yX4_shareArrived, Cond.code yX4_shareArrived cX4_shareArrived 8 (some .int), Cond.fieldLink RX4 47 "WindPost" "probe" "LWindPost$Letter;", Cond.fieldLink RX4 112 "WindPost$Moment" "post" "[LWindPost$Letter;", Cond.fieldLink RX4 19 "WindPost" "chart" "LWindPost$Chart;", Cond.fieldLink RX4 102 "WindPost$Moment" "time" "I", Cond.fieldLink RX4 88 "WindPost$Moment" "nets" "I", Cond.fieldLink RX4 131 "WindPost$Letter" "how" "I", Cond.methodLink RX4 175 yX1_copyFrom, Cond.instanceMethod yX1_copyFrom, Cond.selects RX1 yX1_copyFrom yX1_copyFrom, Cond.initialized RX1]
def wsX4_odds_r2 : List Cond := [Cond.code yX1_copyFrom cX1_copyFrom 2 none, Cond.fieldLink RX1 9 "WindPost$Letter" "weight" "I", Cond.fieldLink RX1 15 "WindPost$Letter" "from" "I", Cond.fieldLink RX1 18 "WindPost$Letter" "to" "I", Cond.fieldLink RX1 27 "WindPost$Letter" "place" "I", Cond.fieldLink RX1 30 "WindPost$Letter" "marks" "I", Cond.fieldLink RX1 33 "WindPost$Letter" "how" "I", Cond.fieldLink RX1 39 "WindPost$Letter" "reach" "I", Cond.methodLink RX4 91 yX4_bitOf, Cond.static yX4_bitOf, Cond.code yX4_bitOf cX4_bitOf 2 (some .int), Cond.methodLink RX4 105 yX2_windOf, Cond.instanceMethod yX2_windOf, Cond.selects RX2 yX2_windOf yX2_windOf, Cond.initialized RX2, Cond.code yX2_windOf cX2_windOf 2 (some .int), Cond.fieldLink RX2 37 "WindPost$Moment" "told" "I", Cond.fieldLink RX2 9 "WindPost$Moment" "winds" "[I", Cond.methodLink RX2 43 yJ9_floorMod_7cf53, Cond.static yJ9_floorMod_7cf53, Cond.initialized RJ9, Cond.code yJ9_floorMod_7cf53 cJ9_floorMod_7cf53 3 (some .int), Cond.methodLink RX4 154 yX1_passHour, Cond.instanceMethod yX1_passHour]
def wsX4_odds_r3 : List Cond := [Cond.selects RX1 yX1_passHour yX1_passHour, Cond.code yX1_passHour cX1_passHour 6 none, Cond.methodLink RX1 42 yX0_endOf, Cond.instanceMethod yX0_endOf, Cond.selects RX0 yX0_endOf yX0_endOf, Cond.initialized RX0, Cond.code yX0_endOf cX0_endOf 4 (some .int), Cond.fieldLink RX0 21 "WindPost$Chart" "ends" "[I", Cond.methodLink RX1 46 yX0_onCell, Cond.instanceMethod yX0_onCell, Cond.selects RX0 yX0_onCell yX0_onCell, Cond.code yX0_onCell cX0_onCell 2 (some .int), Cond.fieldLink RX0 15 "WindPost$Chart" "holds" "[I", Cond.methodLink RX4 220 yX4_commonDivisor, Cond.static yX4_commonDivisor, Cond.code yX4_commonDivisor cX4_commonDivisor 6 (some .int)]
def wsX4_odds : List Cond := .code yX4_odds cX4_odds 8 (some .int) :: ((wsX4_odds_r1 ++ (wsX4_odds_r2 ++ wsX4_odds_r3)) ++ wsX40 ++ wsX20 ++ wsX10 ++ wsX00)
def wsX4_rateLetter : List Cond := .code yX4_rateLetter cX4_rateLetter 2 (some .int) :: ([.fieldLink RX4 250 "WindPost" "traced" "J", .fieldLink RX4 29 "WindPost" "now" "LWindPost$Moment;", .fieldLink RX4 112 "WindPost$Moment" "post" "[LWindPost$Letter;", .fieldLink RX4 116 "WindPost$Letter" "weight" "I"] ++ wsX40 ++ wsX20 ++ wsX10)
def wsX4_rateSummons : List Cond := .code yX4_rateSummons cX4_rateSummons 2 (some .int) :: ([.fieldLink RX4 250 "WindPost" "traced" "J", .constantLong RX4 260 (10), .fieldLink RX4 29 "WindPost" "now" "LWindPost$Moment;", .fieldLink RX4 112 "WindPost$Moment" "post" "[LWindPost$Letter;", .fieldLink RX4 128 "WindPost$Letter" "marks" "I", .methodLink RX4 223 yX4_rateLetter, .instanceMethod yX4_rateLetter, .selects RX4 yX4_rateLetter yX4_rateLetter, .initialized RX4, .code yX4_rateLetter cX4_rateLetter 2 (some .int), .fieldLink RX4 116 "WindPost$Letter" "weight" "I", .methodLink RX4 200 yJ6_bitCount_0f7a4, .static yJ6_bitCount_0f7a4, .initialized RJ6, .code yJ6_bitCount_0f7a4 cJ6_bitCount_0f7a4 1 (some .int), .constant RJ6 265 (1431655765), .constant RJ6 266 (858993459), .constant RJ6 267 (252645135)] ++ wsX40 ++ wsX20 ++ wsX10)
def wsX4_rateGoose : List Cond := .code yX4_rateGoose cX4_rateGoose 2 (some .int) :: ([.fieldLink RX4 250 "WindPost" "traced" "J", .constantLong RX4 262 (100), .fieldLink RX4 29 "WindPost" "now" "LWindPost$Moment;", .fieldLink RX4 112 "WindPost$Moment" "post" "[LWindPost$Letter;", .fieldLink RX4 125 "WindPost$Letter" "place" "I", .methodLink RX4 223 yX4_rateLetter, .instanceMethod yX4_rateLetter, .selects RX4 yX4_rateLetter yX4_rateLetter, .initialized RX4, .code yX4_rateLetter cX4_rateLetter 2 (some .int), .fieldLink RX4 116 "WindPost$Letter" "weight" "I"] ++ wsX40 ++ wsX20 ++ wsX10)
def wsX4_rateBill : List Cond := .code yX4_rateBill cX4_rateBill 2 (some .int) :: ([.fieldLink RX4 250 "WindPost" "traced" "J", .constantLong RX4 264 (1000), .methodLink RX4 226 yX4_rateSummons, .instanceMethod yX4_rateSummons, .selects RX4 yX4_rateSummons yX4_rateSummons, .initialized RX4, .code yX4_rateSummons cX4_rateSummons 2 (some .int), .constantLong RX4 260 (10), .fieldLink RX4 29 "WindPost" "now" "LWindPost$Moment;", .fieldLink RX4 112 "WindPost$Moment" "post" "[LWindPost$Letter;", .fieldLink RX4 128 "WindPost$Letter" "marks" "I", .methodLink RX4 223 yX4_rateLetter, .instanceMethod yX4_rateLetter, .selects RX4 yX4_rateLetter yX4_rateLetter, .code yX4_rateLetter cX4_rateLetter 2 (some .int), .fieldLink RX4 116 "WindPost$Letter" "weight" "I", .methodLink RX4 200 yJ6_bitCount_0f7a4, .static yJ6_bitCount_0f7a4, .initialized RJ6, .code yJ6_bitCount_0f7a4 cJ6_bitCount_0f7a4 1 (some .int), .constant RJ6 265 (1431655765), .constant RJ6 266 (858993459), .constant RJ6 267 (252645135)] ++ wsX40 ++ wsX20 ++ wsX10)
def wsX4_rateVow : List Cond := .code yX4_rateVow cX4_rateVow 2 (some .int) :: ([.fieldLink RX4 250 "WindPost" "traced" "J", .constantLong RX4 266 (10000), .methodLink RX4 229 yX4_rateGoose, .instanceMethod yX4_rateGoose, .selects RX4 yX4_rateGoose yX4_rateGoose, .initialized RX4, .code yX4_rateGoose cX4_rateGoose 2 (some .int), .constantLong RX4 262 (100), .fieldLink RX4 29 "WindPost" "now" "LWindPost$Moment;", .fieldLink RX4 112 "WindPost$Moment" "post" "[LWindPost$Letter;", .fieldLink RX4 125 "WindPost$Letter" "place" "I", .methodLink RX4 223 yX4_rateLetter, .instanceMethod yX4_rateLetter, .selects RX4 yX4_rateLetter yX4_rateLetter, .code yX4_rateLetter cX4_rateLetter 2 (some .int), .fieldLink RX4 116 "WindPost$Letter" "weight" "I"] ++ wsX40 ++ wsX20 ++ wsX10)
def wsX4_rateKite : List Cond := .code yX4_rateKite cX4_rateKite 2 (some .int) :: ([.fieldLink RX4 250 "WindPost" "traced" "J", .constantLong RX4 268 (100000), .fieldLink RX4 29 "WindPost" "now" "LWindPost$Moment;", .fieldLink RX4 102 "WindPost$Moment" "time" "I", .methodLink RX4 223 yX4_rateLetter, .instanceMethod yX4_rateLetter, .selects RX4 yX4_rateLetter yX4_rateLetter, .initialized RX4, .code yX4_rateLetter cX4_rateLetter 2 (some .int), .fieldLink RX4 112 "WindPost$Moment" "post" "[LWindPost$Letter;", .fieldLink RX4 116 "WindPost$Letter" "weight" "I"] ++ wsX40 ++ wsX20 ++ wsX10)
def wsX4_rate_r1 : List Cond := [Cond.constant RX4 212 (-1000000), Cond.methodLink RX4 109 yX4_isLetter, Cond.instanceMethod yX4_isLetter, Cond.selects RX4 yX4_isLetter yX4_isLetter, Cond.initialized RX4, Cond.code yX4_isLetter cX4_isLetter 2 (some .boolean), Cond.fieldLink RX4 29 "WindPost" "now" "LWindPost$Moment;", Cond.fieldLink RX4 134 "WindPost$Moment" "letters" "I", Cond.methodLink RX4 54 yX4_isWithin, Cond.static yX4_isWithin, Cond.code yX4_isWithin cX4_isWithin 3 (some .boolean), Cond.methodLink RX4 223 yX4_rateLetter, Cond.instanceMethod yX4_rateLetter, Cond.selects RX4 yX4_rateLetter yX4_rateLetter, Cond.code yX4_rateLetter cX4_rateLetter 2 (some .int), Cond.fieldLink RX4 250 "WindPost" "traced" "J", Cond.fieldLink RX4 112 "WindPost$Moment" "post" "[LWindPost$Letter;", Cond.fieldLink RX4 116 "WindPost$Letter" "weight" "I", Cond.methodLink RX4 226 yX4_rateSummons, Cond.instanceMethod yX4_rateSummons, Cond.selects RX4 yX4_rateSummons yX4_rateSummons, Cond.code yX4_rateSummons cX4_rateSummons 2 (some .int), Cond.constantLong RX4 260 (10), Cond.fieldLink RX4 128 "WindPost$Letter" "marks" "I"]
def wsX4_rate_r2 : List Cond := [Cond.methodLink RX4 200 yJ6_bitCount_0f7a4, Cond.static yJ6_bitCount_0f7a4, Cond.initialized RJ6, Cond.code yJ6_bitCount_0f7a4 cJ6_bitCount_0f7a4 1 (some .int), Cond.constant RJ6 265 (1431655765), Cond.constant RJ6 266 (858993459), Cond.constant RJ6 267 (252645135), Cond.methodLink RX4 229 yX4_rateGoose, Cond.instanceMethod yX4_rateGoose, Cond.selects RX4 yX4_rateGoose yX4_rateGoose, Cond.code yX4_rateGoose cX4_rateGoose 2 (some .int), Cond.constantLong RX4 262 (100), Cond.fieldLink RX4 125 "WindPost$Letter" "place" "I", Cond.methodLink RX4 232 yX4_rateBill, Cond.instanceMethod yX4_rateBill, Cond.selects RX4 yX4_rateBill yX4_rateBill, Cond.code yX4_rateBill cX4_rateBill 2 (some .int), Cond.constantLong RX4 264 (1000), Cond.methodLink RX4 235 yX4_rateVow, Cond.instanceMethod yX4_rateVow, Cond.selects RX4 yX4_rateVow yX4_rateVow, Cond.code yX4_rateVow cX4_rateVow 2 (some .int), Cond.constantLong RX4 266 (10000), Cond.methodLink RX4 238 yX4_rateKite]
def wsX4_rate_r3 : List Cond := [Cond.instanceMethod yX4_rateKite, Cond.selects RX4 yX4_rateKite yX4_rateKite, Cond.code yX4_rateKite cX4_rateKite 2 (some .int), Cond.constantLong RX4 268 (100000), Cond.fieldLink RX4 102 "WindPost$Moment" "time" "I"]
def wsX4_rate : List Cond := .code yX4_rate cX4_rate 3 (some .int) :: ((wsX4_rate_r1 ++ (wsX4_rate_r2 ++ wsX4_rate_r3)) ++ wsX40 ++ wsX20 ++ wsX10)
def wsX4_keep_r1 : List Cond := [Cond.fieldLink RX4 37 "WindPost" "images" "[LWindPost$Moment;", Cond.fieldLink RX4 29 "WindPost" "now" "LWindPost$Moment;", Cond.fieldLink RX4 40 "WindPost" "kept" "[Z", Cond.fieldLink RX4 102 "WindPost$Moment" "time" "I", Cond.methodLink RX4 54 yX4_isWithin, Cond.static yX4_isWithin, Cond.initialized RX4, Cond.code yX4_isWithin cX4_isWithin 3 (some .boolean), Cond.methodLink RX4 167 yX2_copyFrom, Cond.instanceMethod yX2_copyFrom, Cond.selects RX2 yX2_copyFrom yX2_copyFrom, Cond.initialized RX2, Cond.code yX2_copyFrom cX2_copyFrom 3 none, Cond.fieldLink RX2 22 "WindPost$Moment" "time" "I", Cond.fieldLink RX2 26 "WindPost$Moment" "letters" "I", Cond.fieldLink RX2 29 "WindPost$Moment" "nets" "I", Cond.fieldLink RX2 37 "WindPost$Moment" "told" "I", Cond.fieldLink RX2 9 "WindPost$Moment" "winds" "[I", Cond.fieldLink RX2 17 "WindPost$Moment" "post" "[LWindPost$Letter;", Cond.methodLink RX2 39 yX1_copyFrom, Cond.instanceMethod yX1_copyFrom, Cond.selects RX1 yX1_copyFrom yX1_copyFrom, Cond.initialized RX1, Cond.code yX1_copyFrom cX1_copyFrom 2 none]
def wsX4_keep_r2 : List Cond := [Cond.fieldLink RX1 9 "WindPost$Letter" "weight" "I", Cond.fieldLink RX1 15 "WindPost$Letter" "from" "I", Cond.fieldLink RX1 18 "WindPost$Letter" "to" "I", Cond.fieldLink RX1 27 "WindPost$Letter" "place" "I", Cond.fieldLink RX1 30 "WindPost$Letter" "marks" "I", Cond.fieldLink RX1 33 "WindPost$Letter" "how" "I", Cond.fieldLink RX1 39 "WindPost$Letter" "reach" "I"]
def wsX4_keep : List Cond := .code yX4_keep cX4_keep 2 (some .int) :: ((wsX4_keep_r1 ++ wsX4_keep_r2) ++ wsX40 ++ wsX20 ++ wsX10)
def wsX4_back_r1 : List Cond := [Cond.fieldLink RX4 40 "WindPost" "kept" "[Z", Cond.fieldLink RX4 29 "WindPost" "now" "LWindPost$Moment;", Cond.fieldLink RX4 37 "WindPost" "images" "[LWindPost$Moment;", Cond.fieldLink RX4 77 "WindPost" "pastKnown" "I", Cond.fieldLink RX4 102 "WindPost$Moment" "time" "I", Cond.methodLink RX4 54 yX4_isWithin, Cond.static yX4_isWithin, Cond.initialized RX4, Cond.code yX4_isWithin cX4_isWithin 3 (some .boolean), Cond.methodLink RX4 167 yX2_copyFrom, Cond.instanceMethod yX2_copyFrom, Cond.selects RX2 yX2_copyFrom yX2_copyFrom, Cond.initialized RX2, Cond.code yX2_copyFrom cX2_copyFrom 3 none, Cond.fieldLink RX2 22 "WindPost$Moment" "time" "I", Cond.fieldLink RX2 26 "WindPost$Moment" "letters" "I", Cond.fieldLink RX2 29 "WindPost$Moment" "nets" "I", Cond.fieldLink RX2 37 "WindPost$Moment" "told" "I", Cond.fieldLink RX2 9 "WindPost$Moment" "winds" "[I", Cond.fieldLink RX2 17 "WindPost$Moment" "post" "[LWindPost$Letter;", Cond.methodLink RX2 39 yX1_copyFrom, Cond.instanceMethod yX1_copyFrom, Cond.selects RX1 yX1_copyFrom yX1_copyFrom, Cond.initialized RX1]
def wsX4_back_r2 : List Cond := [Cond.code yX1_copyFrom cX1_copyFrom 2 none, Cond.fieldLink RX1 9 "WindPost$Letter" "weight" "I", Cond.fieldLink RX1 15 "WindPost$Letter" "from" "I", Cond.fieldLink RX1 18 "WindPost$Letter" "to" "I", Cond.fieldLink RX1 27 "WindPost$Letter" "place" "I", Cond.fieldLink RX1 30 "WindPost$Letter" "marks" "I", Cond.fieldLink RX1 33 "WindPost$Letter" "how" "I", Cond.fieldLink RX1 39 "WindPost$Letter" "reach" "I"]
def wsX4_back : List Cond := .code yX4_back cX4_back 2 (some .int) :: ((wsX4_back_r1 ++ wsX4_back_r2) ++ wsX40 ++ wsX20 ++ wsX10)
def wsX4_count : List Cond := .code yX4_count cX4_count 2 (some .int) :: ([.fieldLink RX4 19 "WindPost" "chart" "LWindPost$Chart;", .fieldLink RX4 241 "WindPost$Chart" "wide" "I", .fieldLink RX4 244 "WindPost$Chart" "high" "I", .fieldLink RX4 194 "WindPost$Chart" "isles" "I", .fieldLink RX4 247 "WindPost$Chart" "hills" "I", .fieldLink RX4 29 "WindPost" "now" "LWindPost$Moment;", .fieldLink RX4 158 "WindPost$Moment" "told" "I", .fieldLink RX4 213 "WindPost$Chart" "force" "I", .fieldLink RX4 10 "WindPost" "text" "LWindPost$Text;", .fieldLink RX4 58 "WindPost$Text" "length" "I"] ++ wsX40 ++ wsX00 ++ wsX20 ++ wsX30)
def wsX4_trace : List Cond := .code yX4_trace cX4_trace 1 (some .long) :: ([.fieldLink RX4 250 "WindPost" "traced" "J"] ++ wsX40)
def wsX5_init : List Cond := .code yX5_init cX5_init 1 none :: ([.methodLink RX5 1 objectInit, .instanceMethod objectInit, .code objectInit ⟨#[0xb1]⟩ 1 none, .arrayClass .int, .fieldLink RX5 7 "WindPostModel" "text" "[I", .fieldLink RX5 13 "WindPostModel" "many" "[I", .fieldLink RX5 16 "WindPostModel" "isles" "[I", .fieldLink RX5 19 "WindPostModel" "hills" "[I", .fieldLink RX5 22 "WindPostModel" "winds" "[I", .fieldLink RX5 25 "WindPostModel" "s" "[I", .fieldLink RX5 28 "WindPostModel" "kept" "[I", .arrayClass .boolean, .fieldLink RX5 31 "WindPostModel" "isKept" "[Z", .fieldLink RX5 35 "WindPostModel" "undos" "[I", .fieldLink RX5 38 "WindPostModel" "trial" "[I", .fieldLink RX5 41 "WindPostModel" "other" "[I", .fieldLink RX5 44 "WindPostModel" "met" "[I"] ++ wsX50)
def wsX5_in : List Cond := .code yX5_in cX5_in 3 (some .boolean) :: ([])
def wsX5_ones : List Cond := .code yX5_ones cX5_ones 3 (some .int) :: ([])
def wsX5_type : List Cond := .code yX5_type cX5_type 2 (some .int) :: ([.fieldLink RX5 47 "WindPostModel" "thrown" "I", .fieldLink RX5 55 "WindPostModel" "typed" "I", .fieldLink RX5 7 "WindPostModel" "text" "[I", .methodLink RX5 51 yX5_in, .static yX5_in, .initialized RX5, .code yX5_in cX5_in 3 (some .boolean)] ++ wsX50)
def wsX5_clear : List Cond := .code yX5_clear cX5_clear 2 (some .int) :: ([.fieldLink RX5 47 "WindPostModel" "thrown" "I", .fieldLink RX5 55 "WindPostModel" "typed" "I"] ++ wsX50)
def wsX5_letterAt : List Cond := .code yX5_letterAt cX5_letterAt 2 (some .int) :: ([.fieldLink RX5 55 "WindPostModel" "typed" "I", .fieldLink RX5 7 "WindPostModel" "text" "[I"] ++ wsX50)
def wsX5_advances : List Cond := .code yX5_advances cX5_advances 2 none :: ([.fieldLink RX5 58 "WindPostModel" "next" "I", .fieldLink RX5 65 "WindPostModel" "place" "I", .fieldLink RX5 68 "WindPostModel" "token" "I", .fieldLink RX5 71 "WindPostModel" "value" "I", .methodLink RX5 61 yX5_letterAt, .instanceMethod yX5_letterAt, .selects RX5 yX5_letterAt yX5_letterAt, .initialized RX5, .code yX5_letterAt cX5_letterAt 2 (some .int), .fieldLink RX5 55 "WindPostModel" "typed" "I", .fieldLink RX5 7 "WindPostModel" "text" "[I", .methodLink RX5 51 yX5_in, .static yX5_in, .code yX5_in cX5_in 3 (some .boolean)] ++ wsX50)
def wsX5_isWell : List Cond := .code yX5_isWell cX5_isWell 1 (some .boolean) :: ([.fieldLink RX5 74 "WindPostModel" "fault" "I"] ++ wsX50)
def wsX5_takes : List Cond := .code yX5_takes cX5_takes 3 (some .int) :: ([.fieldLink RX5 65 "WindPostModel" "place" "I", .fieldLink RX5 74 "WindPostModel" "fault" "I", .fieldLink RX5 71 "WindPostModel" "value" "I", .methodLink RX5 77 yX5_isWell, .instanceMethod yX5_isWell, .selects RX5 yX5_isWell yX5_isWell, .initialized RX5, .code yX5_isWell cX5_isWell 1 (some .boolean), .methodLink RX5 81 yX5_advances, .instanceMethod yX5_advances, .selects RX5 yX5_advances yX5_advances, .code yX5_advances cX5_advances 2 none, .fieldLink RX5 58 "WindPostModel" "next" "I", .fieldLink RX5 68 "WindPostModel" "token" "I", .methodLink RX5 61 yX5_letterAt, .instanceMethod yX5_letterAt, .selects RX5 yX5_letterAt yX5_letterAt, .code yX5_letterAt cX5_letterAt 2 (some .int), .fieldLink RX5 55 "WindPostModel" "typed" "I", .fieldLink RX5 7 "WindPostModel" "text" "[I", .methodLink RX5 51 yX5_in, .static yX5_in, .code yX5_in cX5_in 3 (some .boolean)] ++ wsX50)
def wsX5_number_r1 : List Cond := [Cond.fieldLink RX5 68 "WindPostModel" "token" "I", Cond.fieldLink RX5 71 "WindPostModel" "value" "I", Cond.methodLink RX5 51 yX5_in, Cond.static yX5_in, Cond.initialized RX5, Cond.code yX5_in cX5_in 3 (some .boolean), Cond.methodLink RX5 84 yX5_takes, Cond.instanceMethod yX5_takes, Cond.selects RX5 yX5_takes yX5_takes, Cond.code yX5_takes cX5_takes 3 (some .int), Cond.fieldLink RX5 65 "WindPostModel" "place" "I", Cond.fieldLink RX5 74 "WindPostModel" "fault" "I", Cond.methodLink RX5 77 yX5_isWell, Cond.instanceMethod yX5_isWell, Cond.selects RX5 yX5_isWell yX5_isWell, Cond.code yX5_isWell cX5_isWell 1 (some .boolean), Cond.methodLink RX5 81 yX5_advances, Cond.instanceMethod yX5_advances, Cond.selects RX5 yX5_advances yX5_advances, Cond.code yX5_advances cX5_advances 2 none, Cond.fieldLink RX5 58 "WindPostModel" "next" "I", Cond.methodLink RX5 61 yX5_letterAt, Cond.instanceMethod yX5_letterAt, Cond.selects RX5 yX5_letterAt yX5_letterAt]
def wsX5_number_r2 : List Cond := [Cond.code yX5_letterAt cX5_letterAt 2 (some .int), Cond.fieldLink RX5 55 "WindPostModel" "typed" "I", Cond.fieldLink RX5 7 "WindPostModel" "text" "[I"]
def wsX5_number : List Cond := .code yX5_number cX5_number 3 (some .int) :: ((wsX5_number_r1 ++ wsX5_number_r2) ++ wsX50)
def wsX5_isFree : List Cond := .code yX5_isFree cX5_isFree 4 (some .boolean) :: ([.fieldLink RX5 13 "WindPostModel" "many" "[I", .fieldLink RX5 16 "WindPostModel" "isles" "[I", .fieldLink RX5 19 "WindPostModel" "hills" "[I", .methodLink RX5 51 yX5_in, .static yX5_in, .initialized RX5, .code yX5_in cX5_in 3 (some .boolean)] ++ wsX50)
def wsX5_mayBegin : List Cond := .code yX5_mayBegin cX5_mayBegin 2 (some .boolean) :: ([.fieldLink RX5 71 "WindPostModel" "value" "I", .fieldLink RX5 13 "WindPostModel" "many" "[I", .fieldLink RX5 88 "WindPostModel" "isForceTold" "Z"] ++ wsX50)
def wsX5_readsWind_r1 : List Cond := [Cond.fieldLink RX5 68 "WindPostModel" "token" "I", Cond.fieldLink RX5 71 "WindPostModel" "value" "I", Cond.fieldLink RX5 13 "WindPostModel" "many" "[I", Cond.fieldLink RX5 22 "WindPostModel" "winds" "[I", Cond.methodLink RX5 51 yX5_in, Cond.static yX5_in, Cond.initialized RX5, Cond.code yX5_in cX5_in 3 (some .boolean), Cond.methodLink RX5 84 yX5_takes, Cond.instanceMethod yX5_takes, Cond.selects RX5 yX5_takes yX5_takes, Cond.code yX5_takes cX5_takes 3 (some .int), Cond.fieldLink RX5 65 "WindPostModel" "place" "I", Cond.fieldLink RX5 74 "WindPostModel" "fault" "I", Cond.methodLink RX5 77 yX5_isWell, Cond.instanceMethod yX5_isWell, Cond.selects RX5 yX5_isWell yX5_isWell, Cond.code yX5_isWell cX5_isWell 1 (some .boolean), Cond.methodLink RX5 81 yX5_advances, Cond.instanceMethod yX5_advances, Cond.selects RX5 yX5_advances yX5_advances, Cond.code yX5_advances cX5_advances 2 none, Cond.fieldLink RX5 58 "WindPostModel" "next" "I", Cond.methodLink RX5 61 yX5_letterAt]
def wsX5_readsWind_r2 : List Cond := [Cond.instanceMethod yX5_letterAt, Cond.selects RX5 yX5_letterAt yX5_letterAt, Cond.code yX5_letterAt cX5_letterAt 2 (some .int), Cond.fieldLink RX5 55 "WindPostModel" "typed" "I", Cond.fieldLink RX5 7 "WindPostModel" "text" "[I"]
def wsX5_readsWind : List Cond := .code yX5_readsWind cX5_readsWind 2 none :: ((wsX5_readsWind_r1 ++ wsX5_readsWind_r2) ++ wsX50)
def wsX5_readsItem_r1 : List Cond := [Cond.fieldLink RX5 13 "WindPostModel" "many" "[I", Cond.fieldLink RX5 16 "WindPostModel" "isles" "[I", Cond.fieldLink RX5 68 "WindPostModel" "token" "I", Cond.fieldLink RX5 71 "WindPostModel" "value" "I", Cond.fieldLink RX5 19 "WindPostModel" "hills" "[I", Cond.fieldLink RX5 88 "WindPostModel" "isForceTold" "Z", Cond.methodLink RX5 92 yX5_number, Cond.instanceMethod yX5_number, Cond.selects RX5 yX5_number yX5_number, Cond.initialized RX5, Cond.code yX5_number cX5_number 3 (some .int), Cond.methodLink RX5 51 yX5_in, Cond.static yX5_in, Cond.code yX5_in cX5_in 3 (some .boolean), Cond.methodLink RX5 84 yX5_takes, Cond.instanceMethod yX5_takes, Cond.selects RX5 yX5_takes yX5_takes, Cond.code yX5_takes cX5_takes 3 (some .int), Cond.fieldLink RX5 65 "WindPostModel" "place" "I", Cond.fieldLink RX5 74 "WindPostModel" "fault" "I", Cond.methodLink RX5 77 yX5_isWell, Cond.instanceMethod yX5_isWell, Cond.selects RX5 yX5_isWell yX5_isWell, Cond.code yX5_isWell cX5_isWell 1 (some .boolean)]
def wsX5_readsItem_r2 : List Cond := [Cond.methodLink RX5 81 yX5_advances, Cond.instanceMethod yX5_advances, Cond.selects RX5 yX5_advances yX5_advances, Cond.code yX5_advances cX5_advances 2 none, Cond.fieldLink RX5 58 "WindPostModel" "next" "I", Cond.methodLink RX5 61 yX5_letterAt, Cond.instanceMethod yX5_letterAt, Cond.selects RX5 yX5_letterAt yX5_letterAt, Cond.code yX5_letterAt cX5_letterAt 2 (some .int), Cond.fieldLink RX5 55 "WindPostModel" "typed" "I", Cond.fieldLink RX5 7 "WindPostModel" "text" "[I", Cond.methodLink RX5 96 yX5_isFree, Cond.instanceMethod yX5_isFree, Cond.selects RX5 yX5_isFree yX5_isFree, Cond.code yX5_isFree cX5_isFree 4 (some .boolean), Cond.methodLink RX5 100 yX5_readsWind, Cond.instanceMethod yX5_readsWind, Cond.selects RX5 yX5_readsWind yX5_readsWind, Cond.code yX5_readsWind cX5_readsWind 2 none, Cond.fieldLink RX5 22 "WindPostModel" "winds" "[I"]
def wsX5_readsItem : List Cond := .code yX5_readsItem cX5_readsItem 2 none :: ((wsX5_readsItem_r1 ++ wsX5_readsItem_r2) ++ wsX50)
def wsX5_settles : List Cond := .code yX5_settles cX5_settles 2 none :: ([.fieldLink RX5 13 "WindPostModel" "many" "[I", .fieldLink RX5 16 "WindPostModel" "isles" "[I", .fieldLink RX5 19 "WindPostModel" "hills" "[I", .fieldLink RX5 25 "WindPostModel" "s" "[I", .fieldLink RX5 22 "WindPostModel" "winds" "[I", .fieldLink RX5 55 "WindPostModel" "typed" "I", .fieldLink RX5 113 "WindPostModel" "undoMany" "I", .fieldLink RX5 31 "WindPostModel" "isKept" "[Z"] ++ wsX50)
def wsX5_sea_r1 : List Cond := [Cond.fieldLink RX5 47 "WindPostModel" "thrown" "I", Cond.fieldLink RX5 74 "WindPostModel" "fault" "I", Cond.fieldLink RX5 58 "WindPostModel" "next" "I", Cond.fieldLink RX5 13 "WindPostModel" "many" "[I", Cond.fieldLink RX5 88 "WindPostModel" "isForceTold" "Z", Cond.fieldLink RX5 68 "WindPostModel" "token" "I", Cond.methodLink RX5 81 yX5_advances, Cond.instanceMethod yX5_advances, Cond.selects RX5 yX5_advances yX5_advances, Cond.initialized RX5, Cond.code yX5_advances cX5_advances 2 none, Cond.fieldLink RX5 65 "WindPostModel" "place" "I", Cond.fieldLink RX5 71 "WindPostModel" "value" "I", Cond.methodLink RX5 61 yX5_letterAt, Cond.instanceMethod yX5_letterAt, Cond.selects RX5 yX5_letterAt yX5_letterAt, Cond.code yX5_letterAt cX5_letterAt 2 (some .int), Cond.fieldLink RX5 55 "WindPostModel" "typed" "I", Cond.fieldLink RX5 7 "WindPostModel" "text" "[I", Cond.methodLink RX5 51 yX5_in, Cond.static yX5_in, Cond.code yX5_in cX5_in 3 (some .boolean), Cond.methodLink RX5 77 yX5_isWell, Cond.instanceMethod yX5_isWell]
def wsX5_sea_r2 : List Cond := [Cond.selects RX5 yX5_isWell yX5_isWell, Cond.code yX5_isWell cX5_isWell 1 (some .boolean), Cond.methodLink RX5 103 yX5_mayBegin, Cond.instanceMethod yX5_mayBegin, Cond.selects RX5 yX5_mayBegin yX5_mayBegin, Cond.code yX5_mayBegin cX5_mayBegin 2 (some .boolean), Cond.methodLink RX5 84 yX5_takes, Cond.instanceMethod yX5_takes, Cond.selects RX5 yX5_takes yX5_takes, Cond.code yX5_takes cX5_takes 3 (some .int), Cond.methodLink RX5 106 yX5_readsItem, Cond.instanceMethod yX5_readsItem, Cond.selects RX5 yX5_readsItem yX5_readsItem, Cond.code yX5_readsItem cX5_readsItem 2 none, Cond.fieldLink RX5 16 "WindPostModel" "isles" "[I", Cond.fieldLink RX5 19 "WindPostModel" "hills" "[I", Cond.methodLink RX5 92 yX5_number, Cond.instanceMethod yX5_number, Cond.selects RX5 yX5_number yX5_number, Cond.code yX5_number cX5_number 3 (some .int), Cond.methodLink RX5 96 yX5_isFree, Cond.instanceMethod yX5_isFree, Cond.selects RX5 yX5_isFree yX5_isFree, Cond.code yX5_isFree cX5_isFree 4 (some .boolean)]
def wsX5_sea_r3 : List Cond := [Cond.methodLink RX5 100 yX5_readsWind, Cond.instanceMethod yX5_readsWind, Cond.selects RX5 yX5_readsWind yX5_readsWind, Cond.code yX5_readsWind cX5_readsWind 2 none, Cond.fieldLink RX5 22 "WindPostModel" "winds" "[I", Cond.methodLink RX5 110 yX5_settles, Cond.instanceMethod yX5_settles, Cond.selects RX5 yX5_settles yX5_settles, Cond.code yX5_settles cX5_settles 2 none, Cond.fieldLink RX5 25 "WindPostModel" "s" "[I", Cond.fieldLink RX5 113 "WindPostModel" "undoMany" "I", Cond.fieldLink RX5 31 "WindPostModel" "isKept" "[Z"]
def wsX5_sea : List Cond := .code yX5_sea cX5_sea 3 (some .int) :: ((wsX5_sea_r1 ++ (wsX5_sea_r2 ++ wsX5_sea_r3)) ++ wsX50)
def wsX5_isIsle : List Cond := .code yX5_isIsle cX5_isIsle 2 (some .boolean) :: ([.fieldLink RX5 13 "WindPostModel" "many" "[I", .methodLink RX5 51 yX5_in, .static yX5_in, .initialized RX5, .code yX5_in cX5_in 3 (some .boolean)] ++ wsX50)
def wsX5_isLetter : List Cond := .code yX5_isLetter cX5_isLetter 2 (some .boolean) :: ([.fieldLink RX5 25 "WindPostModel" "s" "[I", .methodLink RX5 51 yX5_in, .static yX5_in, .initialized RX5, .code yX5_in cX5_in 3 (some .boolean)] ++ wsX50)
def wsX5_isleAt : List Cond := .code yX5_isleAt cX5_isleAt 3 (some .int) :: ([.fieldLink RX5 13 "WindPostModel" "many" "[I", .fieldLink RX5 16 "WindPostModel" "isles" "[I"] ++ wsX50)
def wsX5_isHill : List Cond := .code yX5_isHill cX5_isHill 4 (some .boolean) :: ([.fieldLink RX5 13 "WindPostModel" "many" "[I", .fieldLink RX5 19 "WindPostModel" "hills" "[I"] ++ wsX50)
def wsX5_isle : List Cond := .code yX5_isle cX5_isle 3 (some .int) :: ([.fieldLink RX5 47 "WindPostModel" "thrown" "I", .fieldLink RX5 16 "WindPostModel" "isles" "[I", .fieldLink RX5 25 "WindPostModel" "s" "[I", .methodLink RX5 116 yX5_isIsle, .instanceMethod yX5_isIsle, .selects RX5 yX5_isIsle yX5_isIsle, .initialized RX5, .code yX5_isIsle cX5_isIsle 2 (some .boolean), .fieldLink RX5 13 "WindPostModel" "many" "[I", .methodLink RX5 51 yX5_in, .static yX5_in, .code yX5_in cX5_in 3 (some .boolean)] ++ wsX50)
def wsX5_cell : List Cond := .code yX5_cell cX5_cell 2 (some .int) :: ([.fieldLink RX5 47 "WindPostModel" "thrown" "I", .fieldLink RX5 13 "WindPostModel" "many" "[I", .methodLink RX5 51 yX5_in, .static yX5_in, .initialized RX5, .code yX5_in cX5_in 3 (some .boolean), .methodLink RX5 119 yX5_isHill, .instanceMethod yX5_isHill, .selects RX5 yX5_isHill yX5_isHill, .code yX5_isHill cX5_isHill 4 (some .boolean), .fieldLink RX5 19 "WindPostModel" "hills" "[I", .methodLink RX5 122 yX5_isleAt, .instanceMethod yX5_isleAt, .selects RX5 yX5_isleAt yX5_isleAt, .code yX5_isleAt cX5_isleAt 3 (some .int), .fieldLink RX5 16 "WindPostModel" "isles" "[I"] ++ wsX50)
def wsX5_windOf : List Cond := .code yX5_windOf cX5_windOf 3 (some .int) :: ([.fieldLink RX5 13 "WindPostModel" "many" "[I", .fieldLink RX5 25 "WindPostModel" "s" "[I"] ++ wsX50)
def wsX5_wind : List Cond := .code yX5_wind cX5_wind 2 (some .int) :: ([.fieldLink RX5 47 "WindPostModel" "thrown" "I", .fieldLink RX5 25 "WindPostModel" "s" "[I", .methodLink RX5 51 yX5_in, .static yX5_in, .initialized RX5, .code yX5_in cX5_in 3 (some .boolean), .methodLink RX5 125 yX5_windOf, .instanceMethod yX5_windOf, .selects RX5 yX5_windOf yX5_windOf, .code yX5_windOf cX5_windOf 3 (some .int), .fieldLink RX5 13 "WindPostModel" "many" "[I"] ++ wsX50)
def wsX5_letter : List Cond := .code yX5_letter cX5_letter 3 (some .int) :: ([.fieldLink RX5 47 "WindPostModel" "thrown" "I", .fieldLink RX5 25 "WindPostModel" "s" "[I", .methodLink RX5 128 yX5_isLetter, .instanceMethod yX5_isLetter, .selects RX5 yX5_isLetter yX5_isLetter, .initialized RX5, .code yX5_isLetter cX5_isLetter 2 (some .boolean), .methodLink RX5 51 yX5_in, .static yX5_in, .code yX5_in cX5_in 3 (some .boolean)] ++ wsX50)
def wsX5_now : List Cond := .code yX5_now cX5_now 4 (some .int) :: ([.fieldLink RX5 47 "WindPostModel" "thrown" "I", .fieldLink RX5 25 "WindPostModel" "s" "[I", .fieldLink RX5 113 "WindPostModel" "undoMany" "I", .methodLink RX5 51 yX5_in, .static yX5_in, .initialized RX5, .code yX5_in cX5_in 3 (some .boolean)] ++ wsX50)
def wsX5_notes : List Cond := .code yX5_notes cX5_notes 2 none :: ([.fieldLink RX5 113 "WindPostModel" "undoMany" "I", .fieldLink RX5 35 "WindPostModel" "undos" "[I", .fieldLink RX5 25 "WindPostModel" "s" "[I"] ++ wsX50)
def wsX5_puts : List Cond := .code yX5_puts cX5_puts 6 none :: ([.fieldLink RX5 16 "WindPostModel" "isles" "[I"] ++ wsX50)
def wsX5_areTwo : List Cond := .code yX5_areTwo cX5_areTwo 3 (some .boolean) :: ([.methodLink RX5 116 yX5_isIsle, .instanceMethod yX5_isIsle, .selects RX5 yX5_isIsle yX5_isIsle, .initialized RX5, .code yX5_isIsle cX5_isIsle 2 (some .boolean), .fieldLink RX5 13 "WindPostModel" "many" "[I", .methodLink RX5 51 yX5_in, .static yX5_in, .code yX5_in cX5_in 3 (some .boolean)] ++ wsX50)
def wsX5_lets_r1 : List Cond := [Cond.fieldLink RX5 47 "WindPostModel" "thrown" "I", Cond.fieldLink RX5 25 "WindPostModel" "s" "[I", Cond.methodLink RX5 131 yX5_areTwo, Cond.instanceMethod yX5_areTwo, Cond.selects RX5 yX5_areTwo yX5_areTwo, Cond.initialized RX5, Cond.code yX5_areTwo cX5_areTwo 3 (some .boolean), Cond.methodLink RX5 116 yX5_isIsle, Cond.instanceMethod yX5_isIsle, Cond.selects RX5 yX5_isIsle yX5_isIsle, Cond.code yX5_isIsle cX5_isIsle 2 (some .boolean), Cond.fieldLink RX5 13 "WindPostModel" "many" "[I", Cond.methodLink RX5 51 yX5_in, Cond.static yX5_in, Cond.code yX5_in cX5_in 3 (some .boolean), Cond.methodLink RX5 135 yX5_notes, Cond.instanceMethod yX5_notes, Cond.selects RX5 yX5_notes yX5_notes, Cond.code yX5_notes cX5_notes 2 none, Cond.fieldLink RX5 113 "WindPostModel" "undoMany" "I", Cond.fieldLink RX5 35 "WindPostModel" "undos" "[I", Cond.methodLink RX5 138 yX5_puts, Cond.instanceMethod yX5_puts, Cond.selects RX5 yX5_puts yX5_puts]
def wsX5_lets_r2 : List Cond := [Cond.code yX5_puts cX5_puts 6 none, Cond.fieldLink RX5 16 "WindPostModel" "isles" "[I"]
def wsX5_lets : List Cond := .code yX5_lets cX5_lets 4 (some .int) :: ((wsX5_lets_r1 ++ wsX5_lets_r2) ++ wsX50)
def wsX5_beside : List Cond := .code yX5_beside cX5_beside 5 (some .int) :: ([.fieldLink RX5 13 "WindPostModel" "many" "[I"] ++ wsX50)
def wsX5_blows : List Cond := .code yX5_blows cX5_blows 10 none :: ([.fieldLink RX5 13 "WindPostModel" "many" "[I", .methodLink RX5 142 yX5_beside, .instanceMethod yX5_beside, .selects RX5 yX5_beside yX5_beside, .initialized RX5, .code yX5_beside cX5_beside 5 (some .int), .methodLink RX5 119 yX5_isHill, .instanceMethod yX5_isHill, .selects RX5 yX5_isHill yX5_isHill, .code yX5_isHill cX5_isHill 4 (some .boolean), .fieldLink RX5 19 "WindPostModel" "hills" "[I", .methodLink RX5 122 yX5_isleAt, .instanceMethod yX5_isleAt, .selects RX5 yX5_isleAt yX5_isleAt, .code yX5_isleAt cX5_isleAt 3 (some .int), .fieldLink RX5 16 "WindPostModel" "isles" "[I"] ++ wsX50)
def wsX5_hour_r1 : List Cond := [Cond.fieldLink RX5 47 "WindPostModel" "thrown" "I", Cond.fieldLink RX5 25 "WindPostModel" "s" "[I", Cond.methodLink RX5 135 yX5_notes, Cond.instanceMethod yX5_notes, Cond.selects RX5 yX5_notes yX5_notes, Cond.initialized RX5, Cond.code yX5_notes cX5_notes 2 none, Cond.fieldLink RX5 113 "WindPostModel" "undoMany" "I", Cond.fieldLink RX5 35 "WindPostModel" "undos" "[I", Cond.methodLink RX5 125 yX5_windOf, Cond.instanceMethod yX5_windOf, Cond.selects RX5 yX5_windOf yX5_windOf, Cond.code yX5_windOf cX5_windOf 3 (some .int), Cond.fieldLink RX5 13 "WindPostModel" "many" "[I", Cond.methodLink RX5 145 yX5_blows, Cond.instanceMethod yX5_blows, Cond.selects RX5 yX5_blows yX5_blows, Cond.code yX5_blows cX5_blows 10 none, Cond.methodLink RX5 142 yX5_beside, Cond.instanceMethod yX5_beside, Cond.selects RX5 yX5_beside yX5_beside, Cond.code yX5_beside cX5_beside 5 (some .int), Cond.methodLink RX5 119 yX5_isHill, Cond.instanceMethod yX5_isHill]
def wsX5_hour_r2 : List Cond := [Cond.selects RX5 yX5_isHill yX5_isHill, Cond.code yX5_isHill cX5_isHill 4 (some .boolean), Cond.fieldLink RX5 19 "WindPostModel" "hills" "[I", Cond.methodLink RX5 122 yX5_isleAt, Cond.instanceMethod yX5_isleAt, Cond.selects RX5 yX5_isleAt yX5_isleAt, Cond.code yX5_isleAt cX5_isleAt 3 (some .int), Cond.fieldLink RX5 16 "WindPostModel" "isles" "[I"]
def wsX5_hour : List Cond := .code yX5_hour cX5_hour 6 (some .int) :: ((wsX5_hour_r1 ++ wsX5_hour_r2) ++ wsX50)
def wsX5_net : List Cond := .code yX5_net cX5_net 4 (some .int) :: ([.fieldLink RX5 47 "WindPostModel" "thrown" "I", .fieldLink RX5 25 "WindPostModel" "s" "[I", .methodLink RX5 116 yX5_isIsle, .instanceMethod yX5_isIsle, .selects RX5 yX5_isIsle yX5_isIsle, .initialized RX5, .code yX5_isIsle cX5_isIsle 2 (some .boolean), .fieldLink RX5 13 "WindPostModel" "many" "[I", .methodLink RX5 51 yX5_in, .static yX5_in, .code yX5_in cX5_in 3 (some .boolean), .methodLink RX5 135 yX5_notes, .instanceMethod yX5_notes, .selects RX5 yX5_notes yX5_notes, .code yX5_notes cX5_notes 2 none, .fieldLink RX5 113 "WindPostModel" "undoMany" "I", .fieldLink RX5 35 "WindPostModel" "undos" "[I"] ++ wsX50)
def wsX5_turn : List Cond := .code yX5_turn cX5_turn 4 (some .int) :: ([.fieldLink RX5 47 "WindPostModel" "thrown" "I", .fieldLink RX5 13 "WindPostModel" "many" "[I", .fieldLink RX5 25 "WindPostModel" "s" "[I", .methodLink RX5 51 yX5_in, .static yX5_in, .initialized RX5, .code yX5_in cX5_in 3 (some .boolean), .methodLink RX5 135 yX5_notes, .instanceMethod yX5_notes, .selects RX5 yX5_notes yX5_notes, .code yX5_notes cX5_notes 2 none, .fieldLink RX5 113 "WindPostModel" "undoMany" "I", .fieldLink RX5 35 "WindPostModel" "undos" "[I"] ++ wsX50)
def wsX5_undo : List Cond := .code yX5_undo cX5_undo 2 (some .int) :: ([.fieldLink RX5 47 "WindPostModel" "thrown" "I", .fieldLink RX5 113 "WindPostModel" "undoMany" "I", .fieldLink RX5 25 "WindPostModel" "s" "[I", .fieldLink RX5 35 "WindPostModel" "undos" "[I"] ++ wsX50)
def wsX5_takesLetter : List Cond := .code yX5_takesLetter cX5_takesLetter 4 none :: ([.fieldLink RX5 25 "WindPostModel" "s" "[I"] ++ wsX50)
def wsX5_goes_r1 : List Cond := [Cond.fieldLink RX5 38 "WindPostModel" "trial" "[I", Cond.fieldLink RX5 25 "WindPostModel" "s" "[I", Cond.methodLink RX5 149 yX5_takesLetter, Cond.instanceMethod yX5_takesLetter, Cond.selects RX5 yX5_takesLetter yX5_takesLetter, Cond.initialized RX5, Cond.code yX5_takesLetter cX5_takesLetter 4 none, Cond.methodLink RX5 125 yX5_windOf, Cond.instanceMethod yX5_windOf, Cond.selects RX5 yX5_windOf yX5_windOf, Cond.code yX5_windOf cX5_windOf 3 (some .int), Cond.fieldLink RX5 13 "WindPostModel" "many" "[I", Cond.methodLink RX5 145 yX5_blows, Cond.instanceMethod yX5_blows, Cond.selects RX5 yX5_blows yX5_blows, Cond.code yX5_blows cX5_blows 10 none, Cond.methodLink RX5 142 yX5_beside, Cond.instanceMethod yX5_beside, Cond.selects RX5 yX5_beside yX5_beside, Cond.code yX5_beside cX5_beside 5 (some .int), Cond.methodLink RX5 119 yX5_isHill, Cond.instanceMethod yX5_isHill, Cond.selects RX5 yX5_isHill yX5_isHill, Cond.code yX5_isHill cX5_isHill 4 (some .boolean)]
def wsX5_goes_r2 : List Cond := [Cond.fieldLink RX5 19 "WindPostModel" "hills" "[I", Cond.methodLink RX5 122 yX5_isleAt, Cond.instanceMethod yX5_isleAt, Cond.selects RX5 yX5_isleAt yX5_isleAt, Cond.code yX5_isleAt cX5_isleAt 3 (some .int), Cond.fieldLink RX5 16 "WindPostModel" "isles" "[I"]
def wsX5_goes : List Cond := .code yX5_goes cX5_goes 4 none :: ((wsX5_goes_r1 ++ wsX5_goes_r2) ++ wsX50)
def wsX5_where_r1 : List Cond := [Cond.fieldLink RX5 47 "WindPostModel" "thrown" "I", Cond.fieldLink RX5 38 "WindPostModel" "trial" "[I", Cond.methodLink RX5 128 yX5_isLetter, Cond.instanceMethod yX5_isLetter, Cond.selects RX5 yX5_isLetter yX5_isLetter, Cond.initialized RX5, Cond.code yX5_isLetter cX5_isLetter 2 (some .boolean), Cond.fieldLink RX5 25 "WindPostModel" "s" "[I", Cond.methodLink RX5 51 yX5_in, Cond.static yX5_in, Cond.code yX5_in cX5_in 3 (some .boolean), Cond.methodLink RX5 153 yX5_goes, Cond.instanceMethod yX5_goes, Cond.selects RX5 yX5_goes yX5_goes, Cond.code yX5_goes cX5_goes 4 none, Cond.methodLink RX5 149 yX5_takesLetter, Cond.instanceMethod yX5_takesLetter, Cond.selects RX5 yX5_takesLetter yX5_takesLetter, Cond.code yX5_takesLetter cX5_takesLetter 4 none, Cond.methodLink RX5 125 yX5_windOf, Cond.instanceMethod yX5_windOf, Cond.selects RX5 yX5_windOf yX5_windOf, Cond.code yX5_windOf cX5_windOf 3 (some .int), Cond.fieldLink RX5 13 "WindPostModel" "many" "[I"]
def wsX5_where_r2 : List Cond := [Cond.methodLink RX5 145 yX5_blows, Cond.instanceMethod yX5_blows, Cond.selects RX5 yX5_blows yX5_blows, Cond.code yX5_blows cX5_blows 10 none, Cond.methodLink RX5 142 yX5_beside, Cond.instanceMethod yX5_beside, Cond.selects RX5 yX5_beside yX5_beside, Cond.code yX5_beside cX5_beside 5 (some .int), Cond.methodLink RX5 119 yX5_isHill, Cond.instanceMethod yX5_isHill, Cond.selects RX5 yX5_isHill yX5_isHill, Cond.code yX5_isHill cX5_isHill 4 (some .boolean), Cond.fieldLink RX5 19 "WindPostModel" "hills" "[I", Cond.methodLink RX5 122 yX5_isleAt, Cond.instanceMethod yX5_isleAt, Cond.selects RX5 yX5_isleAt yX5_isleAt, Cond.code yX5_isleAt cX5_isleAt 3 (some .int), Cond.fieldLink RX5 16 "WindPostModel" "isles" "[I"]
def wsX5_where : List Cond := .code yX5_where cX5_where 3 (some .int) :: ((wsX5_where_r1 ++ wsX5_where_r2) ++ wsX50)
def wsX5_comesIn_r1 : List Cond := [Cond.fieldLink RX5 38 "WindPostModel" "trial" "[I", Cond.fieldLink RX5 25 "WindPostModel" "s" "[I", Cond.methodLink RX5 125 yX5_windOf, Cond.instanceMethod yX5_windOf, Cond.selects RX5 yX5_windOf yX5_windOf, Cond.initialized RX5, Cond.code yX5_windOf cX5_windOf 3 (some .int), Cond.fieldLink RX5 13 "WindPostModel" "many" "[I", Cond.methodLink RX5 145 yX5_blows, Cond.instanceMethod yX5_blows, Cond.selects RX5 yX5_blows yX5_blows, Cond.code yX5_blows cX5_blows 10 none, Cond.methodLink RX5 142 yX5_beside, Cond.instanceMethod yX5_beside, Cond.selects RX5 yX5_beside yX5_beside, Cond.code yX5_beside cX5_beside 5 (some .int), Cond.methodLink RX5 119 yX5_isHill, Cond.instanceMethod yX5_isHill, Cond.selects RX5 yX5_isHill yX5_isHill, Cond.code yX5_isHill cX5_isHill 4 (some .boolean), Cond.fieldLink RX5 19 "WindPostModel" "hills" "[I", Cond.methodLink RX5 122 yX5_isleAt, Cond.instanceMethod yX5_isleAt, Cond.selects RX5 yX5_isleAt yX5_isleAt]
def wsX5_comesIn_r2 : List Cond := [Cond.code yX5_isleAt cX5_isleAt 3 (some .int), Cond.fieldLink RX5 16 "WindPostModel" "isles" "[I"]
def wsX5_comesIn : List Cond := .code yX5_comesIn cX5_comesIn 4 (some .int) :: ((wsX5_comesIn_r1 ++ wsX5_comesIn_r2) ++ wsX50)
def wsX5_comes_r1 : List Cond := [Cond.fieldLink RX5 47 "WindPostModel" "thrown" "I", Cond.fieldLink RX5 38 "WindPostModel" "trial" "[I", Cond.fieldLink RX5 25 "WindPostModel" "s" "[I", Cond.methodLink RX5 128 yX5_isLetter, Cond.instanceMethod yX5_isLetter, Cond.selects RX5 yX5_isLetter yX5_isLetter, Cond.initialized RX5, Cond.code yX5_isLetter cX5_isLetter 2 (some .boolean), Cond.methodLink RX5 51 yX5_in, Cond.static yX5_in, Cond.code yX5_in cX5_in 3 (some .boolean), Cond.methodLink RX5 149 yX5_takesLetter, Cond.instanceMethod yX5_takesLetter, Cond.selects RX5 yX5_takesLetter yX5_takesLetter, Cond.code yX5_takesLetter cX5_takesLetter 4 none, Cond.methodLink RX5 157 yX5_comesIn, Cond.instanceMethod yX5_comesIn, Cond.selects RX5 yX5_comesIn yX5_comesIn, Cond.code yX5_comesIn cX5_comesIn 4 (some .int), Cond.methodLink RX5 125 yX5_windOf, Cond.instanceMethod yX5_windOf, Cond.selects RX5 yX5_windOf yX5_windOf, Cond.code yX5_windOf cX5_windOf 3 (some .int), Cond.fieldLink RX5 13 "WindPostModel" "many" "[I"]
def wsX5_comes_r2 : List Cond := [Cond.methodLink RX5 145 yX5_blows, Cond.instanceMethod yX5_blows, Cond.selects RX5 yX5_blows yX5_blows, Cond.code yX5_blows cX5_blows 10 none, Cond.methodLink RX5 142 yX5_beside, Cond.instanceMethod yX5_beside, Cond.selects RX5 yX5_beside yX5_beside, Cond.code yX5_beside cX5_beside 5 (some .int), Cond.methodLink RX5 119 yX5_isHill, Cond.instanceMethod yX5_isHill, Cond.selects RX5 yX5_isHill yX5_isHill, Cond.code yX5_isHill cX5_isHill 4 (some .boolean), Cond.fieldLink RX5 19 "WindPostModel" "hills" "[I", Cond.methodLink RX5 122 yX5_isleAt, Cond.instanceMethod yX5_isleAt, Cond.selects RX5 yX5_isleAt yX5_isleAt, Cond.code yX5_isleAt cX5_isleAt 3 (some .int), Cond.fieldLink RX5 16 "WindPostModel" "isles" "[I"]
def wsX5_comes : List Cond := .code yX5_comes cX5_comes 2 (some .int) :: ((wsX5_comes_r1 ++ wsX5_comes_r2) ++ wsX50)
def wsX5_blots_r1 : List Cond := [Cond.fieldLink RX5 47 "WindPostModel" "thrown" "I", Cond.fieldLink RX5 38 "WindPostModel" "trial" "[I", Cond.methodLink RX5 128 yX5_isLetter, Cond.instanceMethod yX5_isLetter, Cond.selects RX5 yX5_isLetter yX5_isLetter, Cond.initialized RX5, Cond.code yX5_isLetter cX5_isLetter 2 (some .boolean), Cond.fieldLink RX5 25 "WindPostModel" "s" "[I", Cond.methodLink RX5 51 yX5_in, Cond.static yX5_in, Cond.code yX5_in cX5_in 3 (some .boolean), Cond.methodLink RX5 153 yX5_goes, Cond.instanceMethod yX5_goes, Cond.selects RX5 yX5_goes yX5_goes, Cond.code yX5_goes cX5_goes 4 none, Cond.methodLink RX5 149 yX5_takesLetter, Cond.instanceMethod yX5_takesLetter, Cond.selects RX5 yX5_takesLetter yX5_takesLetter, Cond.code yX5_takesLetter cX5_takesLetter 4 none, Cond.methodLink RX5 125 yX5_windOf, Cond.instanceMethod yX5_windOf, Cond.selects RX5 yX5_windOf yX5_windOf, Cond.code yX5_windOf cX5_windOf 3 (some .int), Cond.fieldLink RX5 13 "WindPostModel" "many" "[I"]
def wsX5_blots_r2 : List Cond := [Cond.methodLink RX5 145 yX5_blows, Cond.instanceMethod yX5_blows, Cond.selects RX5 yX5_blows yX5_blows, Cond.code yX5_blows cX5_blows 10 none, Cond.methodLink RX5 142 yX5_beside, Cond.instanceMethod yX5_beside, Cond.selects RX5 yX5_beside yX5_beside, Cond.code yX5_beside cX5_beside 5 (some .int), Cond.methodLink RX5 119 yX5_isHill, Cond.instanceMethod yX5_isHill, Cond.selects RX5 yX5_isHill yX5_isHill, Cond.code yX5_isHill cX5_isHill 4 (some .boolean), Cond.fieldLink RX5 19 "WindPostModel" "hills" "[I", Cond.methodLink RX5 122 yX5_isleAt, Cond.instanceMethod yX5_isleAt, Cond.selects RX5 yX5_isleAt yX5_isleAt, Cond.code yX5_isleAt cX5_isleAt 3 (some .int), Cond.fieldLink RX5 16 "WindPostModel" "isles" "[I"]
def wsX5_blots : List Cond := .code yX5_blots cX5_blots 3 (some .int) :: ((wsX5_blots_r1 ++ wsX5_blots_r2) ++ wsX50)
def wsX5_loop_r1 : List Cond := [Cond.fieldLink RX5 47 "WindPostModel" "thrown" "I", Cond.fieldLink RX5 13 "WindPostModel" "many" "[I", Cond.fieldLink RX5 44 "WindPostModel" "met" "[I", Cond.fieldLink RX5 38 "WindPostModel" "trial" "[I", Cond.fieldLink RX5 25 "WindPostModel" "s" "[I", Cond.methodLink RX5 128 yX5_isLetter, Cond.instanceMethod yX5_isLetter, Cond.selects RX5 yX5_isLetter yX5_isLetter, Cond.initialized RX5, Cond.code yX5_isLetter cX5_isLetter 2 (some .boolean), Cond.methodLink RX5 51 yX5_in, Cond.static yX5_in, Cond.code yX5_in cX5_in 3 (some .boolean), Cond.methodLink RX5 149 yX5_takesLetter, Cond.instanceMethod yX5_takesLetter, Cond.selects RX5 yX5_takesLetter yX5_takesLetter, Cond.code yX5_takesLetter cX5_takesLetter 4 none, Cond.methodLink RX5 125 yX5_windOf, Cond.instanceMethod yX5_windOf, Cond.selects RX5 yX5_windOf yX5_windOf, Cond.code yX5_windOf cX5_windOf 3 (some .int), Cond.methodLink RX5 145 yX5_blows, Cond.instanceMethod yX5_blows, Cond.selects RX5 yX5_blows yX5_blows]
def wsX5_loop_r2 : List Cond := [Cond.code yX5_blows cX5_blows 10 none, Cond.methodLink RX5 142 yX5_beside, Cond.instanceMethod yX5_beside, Cond.selects RX5 yX5_beside yX5_beside, Cond.code yX5_beside cX5_beside 5 (some .int), Cond.methodLink RX5 119 yX5_isHill, Cond.instanceMethod yX5_isHill, Cond.selects RX5 yX5_isHill yX5_isHill, Cond.code yX5_isHill cX5_isHill 4 (some .boolean), Cond.fieldLink RX5 19 "WindPostModel" "hills" "[I", Cond.methodLink RX5 122 yX5_isleAt, Cond.instanceMethod yX5_isleAt, Cond.selects RX5 yX5_isleAt yX5_isleAt, Cond.code yX5_isleAt cX5_isleAt 3 (some .int), Cond.fieldLink RX5 16 "WindPostModel" "isles" "[I"]
def wsX5_loop : List Cond := .code yX5_loop cX5_loop 5 (some .int) :: ((wsX5_loop_r1 ++ wsX5_loop_r2) ++ wsX50)
def wsX5_tangled_r1 : List Cond := [Cond.fieldLink RX5 47 "WindPostModel" "thrown" "I", Cond.fieldLink RX5 38 "WindPostModel" "trial" "[I", Cond.fieldLink RX5 41 "WindPostModel" "other" "[I", Cond.fieldLink RX5 25 "WindPostModel" "s" "[I", Cond.methodLink RX5 128 yX5_isLetter, Cond.instanceMethod yX5_isLetter, Cond.selects RX5 yX5_isLetter yX5_isLetter, Cond.initialized RX5, Cond.code yX5_isLetter cX5_isLetter 2 (some .boolean), Cond.methodLink RX5 51 yX5_in, Cond.static yX5_in, Cond.code yX5_in cX5_in 3 (some .boolean), Cond.methodLink RX5 149 yX5_takesLetter, Cond.instanceMethod yX5_takesLetter, Cond.selects RX5 yX5_takesLetter yX5_takesLetter, Cond.code yX5_takesLetter cX5_takesLetter 4 none, Cond.methodLink RX5 125 yX5_windOf, Cond.instanceMethod yX5_windOf, Cond.selects RX5 yX5_windOf yX5_windOf, Cond.code yX5_windOf cX5_windOf 3 (some .int), Cond.fieldLink RX5 13 "WindPostModel" "many" "[I", Cond.methodLink RX5 145 yX5_blows, Cond.instanceMethod yX5_blows, Cond.selects RX5 yX5_blows yX5_blows]
def wsX5_tangled_r2 : List Cond := [Cond.code yX5_blows cX5_blows 10 none, Cond.methodLink RX5 142 yX5_beside, Cond.instanceMethod yX5_beside, Cond.selects RX5 yX5_beside yX5_beside, Cond.code yX5_beside cX5_beside 5 (some .int), Cond.methodLink RX5 119 yX5_isHill, Cond.instanceMethod yX5_isHill, Cond.selects RX5 yX5_isHill yX5_isHill, Cond.code yX5_isHill cX5_isHill 4 (some .boolean), Cond.fieldLink RX5 19 "WindPostModel" "hills" "[I", Cond.methodLink RX5 122 yX5_isleAt, Cond.instanceMethod yX5_isleAt, Cond.selects RX5 yX5_isleAt yX5_isleAt, Cond.code yX5_isleAt cX5_isleAt 3 (some .int), Cond.fieldLink RX5 16 "WindPostModel" "isles" "[I"]
def wsX5_tangled : List Cond := .code yX5_tangled cX5_tangled 4 (some .int) :: ((wsX5_tangled_r1 ++ wsX5_tangled_r2) ++ wsX50)
def wsX5_comesBy_r1 : List Cond := [Cond.fieldLink RX5 38 "WindPostModel" "trial" "[I", Cond.methodLink RX5 138 yX5_puts, Cond.instanceMethod yX5_puts, Cond.selects RX5 yX5_puts yX5_puts, Cond.initialized RX5, Cond.code yX5_puts cX5_puts 6 none, Cond.fieldLink RX5 16 "WindPostModel" "isles" "[I", Cond.methodLink RX5 157 yX5_comesIn, Cond.instanceMethod yX5_comesIn, Cond.selects RX5 yX5_comesIn yX5_comesIn, Cond.code yX5_comesIn cX5_comesIn 4 (some .int), Cond.fieldLink RX5 25 "WindPostModel" "s" "[I", Cond.methodLink RX5 125 yX5_windOf, Cond.instanceMethod yX5_windOf, Cond.selects RX5 yX5_windOf yX5_windOf, Cond.code yX5_windOf cX5_windOf 3 (some .int), Cond.fieldLink RX5 13 "WindPostModel" "many" "[I", Cond.methodLink RX5 145 yX5_blows, Cond.instanceMethod yX5_blows, Cond.selects RX5 yX5_blows yX5_blows, Cond.code yX5_blows cX5_blows 10 none, Cond.methodLink RX5 142 yX5_beside, Cond.instanceMethod yX5_beside, Cond.selects RX5 yX5_beside yX5_beside]
def wsX5_comesBy_r2 : List Cond := [Cond.code yX5_beside cX5_beside 5 (some .int), Cond.methodLink RX5 119 yX5_isHill, Cond.instanceMethod yX5_isHill, Cond.selects RX5 yX5_isHill yX5_isHill, Cond.code yX5_isHill cX5_isHill 4 (some .boolean), Cond.fieldLink RX5 19 "WindPostModel" "hills" "[I", Cond.methodLink RX5 122 yX5_isleAt, Cond.instanceMethod yX5_isleAt, Cond.selects RX5 yX5_isleAt yX5_isleAt, Cond.code yX5_isleAt cX5_isleAt 3 (some .int)]
def wsX5_comesBy : List Cond := .code yX5_comesBy cX5_comesBy 6 (some .int) :: ((wsX5_comesBy_r1 ++ wsX5_comesBy_r2) ++ wsX50)
def wsX5_bestK_r1 : List Cond := [Cond.methodLink RX5 160 yX5_comesBy, Cond.instanceMethod yX5_comesBy, Cond.selects RX5 yX5_comesBy yX5_comesBy, Cond.initialized RX5, Cond.code yX5_comesBy cX5_comesBy 6 (some .int), Cond.fieldLink RX5 38 "WindPostModel" "trial" "[I", Cond.methodLink RX5 138 yX5_puts, Cond.instanceMethod yX5_puts, Cond.selects RX5 yX5_puts yX5_puts, Cond.code yX5_puts cX5_puts 6 none, Cond.fieldLink RX5 16 "WindPostModel" "isles" "[I", Cond.methodLink RX5 157 yX5_comesIn, Cond.instanceMethod yX5_comesIn, Cond.selects RX5 yX5_comesIn yX5_comesIn, Cond.code yX5_comesIn cX5_comesIn 4 (some .int), Cond.fieldLink RX5 25 "WindPostModel" "s" "[I", Cond.methodLink RX5 125 yX5_windOf, Cond.instanceMethod yX5_windOf, Cond.selects RX5 yX5_windOf yX5_windOf, Cond.code yX5_windOf cX5_windOf 3 (some .int), Cond.fieldLink RX5 13 "WindPostModel" "many" "[I", Cond.methodLink RX5 145 yX5_blows, Cond.instanceMethod yX5_blows, Cond.selects RX5 yX5_blows yX5_blows]
def wsX5_bestK_r2 : List Cond := [Cond.code yX5_blows cX5_blows 10 none, Cond.methodLink RX5 142 yX5_beside, Cond.instanceMethod yX5_beside, Cond.selects RX5 yX5_beside yX5_beside, Cond.code yX5_beside cX5_beside 5 (some .int), Cond.methodLink RX5 119 yX5_isHill, Cond.instanceMethod yX5_isHill, Cond.selects RX5 yX5_isHill yX5_isHill, Cond.code yX5_isHill cX5_isHill 4 (some .boolean), Cond.fieldLink RX5 19 "WindPostModel" "hills" "[I", Cond.methodLink RX5 122 yX5_isleAt, Cond.instanceMethod yX5_isleAt, Cond.selects RX5 yX5_isleAt yX5_isleAt, Cond.code yX5_isleAt cX5_isleAt 3 (some .int)]
def wsX5_bestK : List Cond := .code yX5_bestK cX5_bestK 9 (some .int) :: ((wsX5_bestK_r1 ++ wsX5_bestK_r2) ++ wsX50)
def wsX5_soonest_r1 : List Cond := [Cond.fieldLink RX5 47 "WindPostModel" "thrown" "I", Cond.fieldLink RX5 25 "WindPostModel" "s" "[I", Cond.methodLink RX5 131 yX5_areTwo, Cond.instanceMethod yX5_areTwo, Cond.selects RX5 yX5_areTwo yX5_areTwo, Cond.initialized RX5, Cond.code yX5_areTwo cX5_areTwo 3 (some .boolean), Cond.methodLink RX5 116 yX5_isIsle, Cond.instanceMethod yX5_isIsle, Cond.selects RX5 yX5_isIsle yX5_isIsle, Cond.code yX5_isIsle cX5_isIsle 2 (some .boolean), Cond.fieldLink RX5 13 "WindPostModel" "many" "[I", Cond.methodLink RX5 51 yX5_in, Cond.static yX5_in, Cond.code yX5_in cX5_in 3 (some .boolean), Cond.methodLink RX5 164 yX5_bestK, Cond.instanceMethod yX5_bestK, Cond.selects RX5 yX5_bestK yX5_bestK, Cond.code yX5_bestK cX5_bestK 9 (some .int), Cond.methodLink RX5 160 yX5_comesBy, Cond.instanceMethod yX5_comesBy, Cond.selects RX5 yX5_comesBy yX5_comesBy, Cond.code yX5_comesBy cX5_comesBy 6 (some .int), Cond.fieldLink RX5 38 "WindPostModel" "trial" "[I"]
def wsX5_soonest_r2 : List Cond := [Cond.methodLink RX5 138 yX5_puts, Cond.instanceMethod yX5_puts, Cond.selects RX5 yX5_puts yX5_puts, Cond.code yX5_puts cX5_puts 6 none, Cond.fieldLink RX5 16 "WindPostModel" "isles" "[I", Cond.methodLink RX5 157 yX5_comesIn, Cond.instanceMethod yX5_comesIn, Cond.selects RX5 yX5_comesIn yX5_comesIn, Cond.code yX5_comesIn cX5_comesIn 4 (some .int), Cond.methodLink RX5 125 yX5_windOf, Cond.instanceMethod yX5_windOf, Cond.selects RX5 yX5_windOf yX5_windOf, Cond.code yX5_windOf cX5_windOf 3 (some .int), Cond.methodLink RX5 145 yX5_blows, Cond.instanceMethod yX5_blows, Cond.selects RX5 yX5_blows yX5_blows, Cond.code yX5_blows cX5_blows 10 none, Cond.methodLink RX5 142 yX5_beside, Cond.instanceMethod yX5_beside, Cond.selects RX5 yX5_beside yX5_beside, Cond.code yX5_beside cX5_beside 5 (some .int), Cond.methodLink RX5 119 yX5_isHill, Cond.instanceMethod yX5_isHill, Cond.selects RX5 yX5_isHill yX5_isHill]
def wsX5_soonest_r3 : List Cond := [Cond.code yX5_isHill cX5_isHill 4 (some .boolean), Cond.fieldLink RX5 19 "WindPostModel" "hills" "[I", Cond.methodLink RX5 122 yX5_isleAt, Cond.instanceMethod yX5_isleAt, Cond.selects RX5 yX5_isleAt yX5_isleAt, Cond.code yX5_isleAt cX5_isleAt 3 (some .int)]
def wsX5_soonest : List Cond := .code yX5_soonest cX5_soonest 6 (some .int) :: ((wsX5_soonest_r1 ++ (wsX5_soonest_r2 ++ wsX5_soonest_r3)) ++ wsX50)
def wsX5_lightest_r1 : List Cond := [Cond.fieldLink RX5 47 "WindPostModel" "thrown" "I", Cond.fieldLink RX5 25 "WindPostModel" "s" "[I", Cond.methodLink RX5 131 yX5_areTwo, Cond.instanceMethod yX5_areTwo, Cond.selects RX5 yX5_areTwo yX5_areTwo, Cond.initialized RX5, Cond.code yX5_areTwo cX5_areTwo 3 (some .boolean), Cond.methodLink RX5 116 yX5_isIsle, Cond.instanceMethod yX5_isIsle, Cond.selects RX5 yX5_isIsle yX5_isIsle, Cond.code yX5_isIsle cX5_isIsle 2 (some .boolean), Cond.fieldLink RX5 13 "WindPostModel" "many" "[I", Cond.methodLink RX5 51 yX5_in, Cond.static yX5_in, Cond.code yX5_in cX5_in 3 (some .boolean), Cond.methodLink RX5 160 yX5_comesBy, Cond.instanceMethod yX5_comesBy, Cond.selects RX5 yX5_comesBy yX5_comesBy, Cond.code yX5_comesBy cX5_comesBy 6 (some .int), Cond.fieldLink RX5 38 "WindPostModel" "trial" "[I", Cond.methodLink RX5 138 yX5_puts, Cond.instanceMethod yX5_puts, Cond.selects RX5 yX5_puts yX5_puts, Cond.code yX5_puts cX5_puts 6 none]
def wsX5_lightest_r2 : List Cond := [Cond.fieldLink RX5 16 "WindPostModel" "isles" "[I", Cond.methodLink RX5 157 yX5_comesIn, Cond.instanceMethod yX5_comesIn, Cond.selects RX5 yX5_comesIn yX5_comesIn, Cond.code yX5_comesIn cX5_comesIn 4 (some .int), Cond.methodLink RX5 125 yX5_windOf, Cond.instanceMethod yX5_windOf, Cond.selects RX5 yX5_windOf yX5_windOf, Cond.code yX5_windOf cX5_windOf 3 (some .int), Cond.methodLink RX5 145 yX5_blows, Cond.instanceMethod yX5_blows, Cond.selects RX5 yX5_blows yX5_blows, Cond.code yX5_blows cX5_blows 10 none, Cond.methodLink RX5 142 yX5_beside, Cond.instanceMethod yX5_beside, Cond.selects RX5 yX5_beside yX5_beside, Cond.code yX5_beside cX5_beside 5 (some .int), Cond.methodLink RX5 119 yX5_isHill, Cond.instanceMethod yX5_isHill, Cond.selects RX5 yX5_isHill yX5_isHill, Cond.code yX5_isHill cX5_isHill 4 (some .boolean), Cond.fieldLink RX5 19 "WindPostModel" "hills" "[I", Cond.methodLink RX5 122 yX5_isleAt, Cond.instanceMethod yX5_isleAt]
def wsX5_lightest_r3 : List Cond := [Cond.selects RX5 yX5_isleAt yX5_isleAt, Cond.code yX5_isleAt cX5_isleAt 3 (some .int)]
def wsX5_lightest : List Cond := .code yX5_lightest cX5_lightest 6 (some .int) :: ((wsX5_lightest_r1 ++ (wsX5_lightest_r2 ++ wsX5_lightest_r3)) ++ wsX50)
def wsX5_words_r1 : List Cond := [Cond.fieldLink RX5 47 "WindPostModel" "thrown" "I", Cond.fieldLink RX5 13 "WindPostModel" "many" "[I", Cond.fieldLink RX5 25 "WindPostModel" "s" "[I", Cond.methodLink RX5 116 yX5_isIsle, Cond.instanceMethod yX5_isIsle, Cond.selects RX5 yX5_isIsle yX5_isIsle, Cond.initialized RX5, Cond.code yX5_isIsle cX5_isIsle 2 (some .boolean), Cond.methodLink RX5 51 yX5_in, Cond.static yX5_in, Cond.code yX5_in cX5_in 3 (some .boolean), Cond.methodLink RX5 164 yX5_bestK, Cond.instanceMethod yX5_bestK, Cond.selects RX5 yX5_bestK yX5_bestK, Cond.code yX5_bestK cX5_bestK 9 (some .int), Cond.methodLink RX5 160 yX5_comesBy, Cond.instanceMethod yX5_comesBy, Cond.selects RX5 yX5_comesBy yX5_comesBy, Cond.code yX5_comesBy cX5_comesBy 6 (some .int), Cond.fieldLink RX5 38 "WindPostModel" "trial" "[I", Cond.methodLink RX5 138 yX5_puts, Cond.instanceMethod yX5_puts, Cond.selects RX5 yX5_puts yX5_puts, Cond.code yX5_puts cX5_puts 6 none]
def wsX5_words_r2 : List Cond := [Cond.fieldLink RX5 16 "WindPostModel" "isles" "[I", Cond.methodLink RX5 157 yX5_comesIn, Cond.instanceMethod yX5_comesIn, Cond.selects RX5 yX5_comesIn yX5_comesIn, Cond.code yX5_comesIn cX5_comesIn 4 (some .int), Cond.methodLink RX5 125 yX5_windOf, Cond.instanceMethod yX5_windOf, Cond.selects RX5 yX5_windOf yX5_windOf, Cond.code yX5_windOf cX5_windOf 3 (some .int), Cond.methodLink RX5 145 yX5_blows, Cond.instanceMethod yX5_blows, Cond.selects RX5 yX5_blows yX5_blows, Cond.code yX5_blows cX5_blows 10 none, Cond.methodLink RX5 142 yX5_beside, Cond.instanceMethod yX5_beside, Cond.selects RX5 yX5_beside yX5_beside, Cond.code yX5_beside cX5_beside 5 (some .int), Cond.methodLink RX5 119 yX5_isHill, Cond.instanceMethod yX5_isHill, Cond.selects RX5 yX5_isHill yX5_isHill, Cond.code yX5_isHill cX5_isHill 4 (some .boolean), Cond.fieldLink RX5 19 "WindPostModel" "hills" "[I", Cond.methodLink RX5 122 yX5_isleAt, Cond.instanceMethod yX5_isleAt]
def wsX5_words_r3 : List Cond := [Cond.selects RX5 yX5_isleAt yX5_isleAt, Cond.code yX5_isleAt cX5_isleAt 3 (some .int)]
def wsX5_words : List Cond := .code yX5_words cX5_words 5 (some .int) :: ((wsX5_words_r1 ++ (wsX5_words_r2 ++ wsX5_words_r3)) ++ wsX50)
def wsX5_nets_r1 : List Cond := [Cond.fieldLink RX5 47 "WindPostModel" "thrown" "I", Cond.fieldLink RX5 13 "WindPostModel" "many" "[I", Cond.fieldLink RX5 25 "WindPostModel" "s" "[I", Cond.methodLink RX5 131 yX5_areTwo, Cond.instanceMethod yX5_areTwo, Cond.selects RX5 yX5_areTwo yX5_areTwo, Cond.initialized RX5, Cond.code yX5_areTwo cX5_areTwo 3 (some .boolean), Cond.methodLink RX5 116 yX5_isIsle, Cond.instanceMethod yX5_isIsle, Cond.selects RX5 yX5_isIsle yX5_isIsle, Cond.code yX5_isIsle cX5_isIsle 2 (some .boolean), Cond.methodLink RX5 51 yX5_in, Cond.static yX5_in, Cond.code yX5_in cX5_in 3 (some .boolean), Cond.methodLink RX5 168 yX5_ones, Cond.static yX5_ones, Cond.code yX5_ones cX5_ones 3 (some .int), Cond.methodLink RX5 164 yX5_bestK, Cond.instanceMethod yX5_bestK, Cond.selects RX5 yX5_bestK yX5_bestK, Cond.code yX5_bestK cX5_bestK 9 (some .int), Cond.methodLink RX5 160 yX5_comesBy, Cond.instanceMethod yX5_comesBy]
def wsX5_nets_r2 : List Cond := [Cond.selects RX5 yX5_comesBy yX5_comesBy, Cond.code yX5_comesBy cX5_comesBy 6 (some .int), Cond.fieldLink RX5 38 "WindPostModel" "trial" "[I", Cond.methodLink RX5 138 yX5_puts, Cond.instanceMethod yX5_puts, Cond.selects RX5 yX5_puts yX5_puts, Cond.code yX5_puts cX5_puts 6 none, Cond.fieldLink RX5 16 "WindPostModel" "isles" "[I", Cond.methodLink RX5 157 yX5_comesIn, Cond.instanceMethod yX5_comesIn, Cond.selects RX5 yX5_comesIn yX5_comesIn, Cond.code yX5_comesIn cX5_comesIn 4 (some .int), Cond.methodLink RX5 125 yX5_windOf, Cond.instanceMethod yX5_windOf, Cond.selects RX5 yX5_windOf yX5_windOf, Cond.code yX5_windOf cX5_windOf 3 (some .int), Cond.methodLink RX5 145 yX5_blows, Cond.instanceMethod yX5_blows, Cond.selects RX5 yX5_blows yX5_blows, Cond.code yX5_blows cX5_blows 10 none, Cond.methodLink RX5 142 yX5_beside, Cond.instanceMethod yX5_beside, Cond.selects RX5 yX5_beside yX5_beside, Cond.code yX5_beside cX5_beside 5 (some .int)]
def wsX5_nets_r3 : List Cond := [Cond.methodLink RX5 119 yX5_isHill, Cond.instanceMethod yX5_isHill, Cond.selects RX5 yX5_isHill yX5_isHill, Cond.code yX5_isHill cX5_isHill 4 (some .boolean), Cond.fieldLink RX5 19 "WindPostModel" "hills" "[I", Cond.methodLink RX5 122 yX5_isleAt, Cond.instanceMethod yX5_isleAt, Cond.selects RX5 yX5_isleAt yX5_isleAt, Cond.code yX5_isleAt cX5_isleAt 3 (some .int)]
def wsX5_nets : List Cond := .code yX5_nets cX5_nets 7 (some .int) :: ((wsX5_nets_r1 ++ (wsX5_nets_r2 ++ wsX5_nets_r3)) ++ wsX50)
def wsX5_who_r1 : List Cond := [Cond.fieldLink RX5 47 "WindPostModel" "thrown" "I", Cond.fieldLink RX5 13 "WindPostModel" "many" "[I", Cond.fieldLink RX5 25 "WindPostModel" "s" "[I", Cond.fieldLink RX5 38 "WindPostModel" "trial" "[I", Cond.methodLink RX5 116 yX5_isIsle, Cond.instanceMethod yX5_isIsle, Cond.selects RX5 yX5_isIsle yX5_isIsle, Cond.initialized RX5, Cond.code yX5_isIsle cX5_isIsle 2 (some .boolean), Cond.methodLink RX5 51 yX5_in, Cond.static yX5_in, Cond.code yX5_in cX5_in 3 (some .boolean), Cond.methodLink RX5 160 yX5_comesBy, Cond.instanceMethod yX5_comesBy, Cond.selects RX5 yX5_comesBy yX5_comesBy, Cond.code yX5_comesBy cX5_comesBy 6 (some .int), Cond.methodLink RX5 138 yX5_puts, Cond.instanceMethod yX5_puts, Cond.selects RX5 yX5_puts yX5_puts, Cond.code yX5_puts cX5_puts 6 none, Cond.fieldLink RX5 16 "WindPostModel" "isles" "[I", Cond.methodLink RX5 157 yX5_comesIn, Cond.instanceMethod yX5_comesIn, Cond.selects RX5 yX5_comesIn yX5_comesIn]
def wsX5_who_r2 : List Cond := [Cond.code yX5_comesIn cX5_comesIn 4 (some .int), Cond.methodLink RX5 125 yX5_windOf, Cond.instanceMethod yX5_windOf, Cond.selects RX5 yX5_windOf yX5_windOf, Cond.code yX5_windOf cX5_windOf 3 (some .int), Cond.methodLink RX5 145 yX5_blows, Cond.instanceMethod yX5_blows, Cond.selects RX5 yX5_blows yX5_blows, Cond.code yX5_blows cX5_blows 10 none, Cond.methodLink RX5 142 yX5_beside, Cond.instanceMethod yX5_beside, Cond.selects RX5 yX5_beside yX5_beside, Cond.code yX5_beside cX5_beside 5 (some .int), Cond.methodLink RX5 119 yX5_isHill, Cond.instanceMethod yX5_isHill, Cond.selects RX5 yX5_isHill yX5_isHill, Cond.code yX5_isHill cX5_isHill 4 (some .boolean), Cond.fieldLink RX5 19 "WindPostModel" "hills" "[I", Cond.methodLink RX5 122 yX5_isleAt, Cond.instanceMethod yX5_isleAt, Cond.selects RX5 yX5_isleAt yX5_isleAt, Cond.code yX5_isleAt cX5_isleAt 3 (some .int)]
def wsX5_who : List Cond := .code yX5_who cX5_who 8 (some .int) :: ((wsX5_who_r1 ++ wsX5_who_r2) ++ wsX50)
def wsX5_knee : List Cond := .code yX5_knee cX5_knee 5 (some .int) :: ([.fieldLink RX5 47 "WindPostModel" "thrown" "I", .fieldLink RX5 25 "WindPostModel" "s" "[I", .methodLink RX5 51 yX5_in, .static yX5_in, .initialized RX5, .code yX5_in cX5_in 3 (some .boolean), .methodLink RX5 125 yX5_windOf, .instanceMethod yX5_windOf, .selects RX5 yX5_windOf yX5_windOf, .code yX5_windOf cX5_windOf 3 (some .int), .fieldLink RX5 13 "WindPostModel" "many" "[I"] ++ wsX50)
def wsX5_drift : List Cond := .code yX5_drift cX5_drift 7 (some .int) :: ([.fieldLink RX5 47 "WindPostModel" "thrown" "I", .constant RX5 171 (-1000000), .fieldLink RX5 13 "WindPostModel" "many" "[I", .fieldLink RX5 25 "WindPostModel" "s" "[I", .methodLink RX5 51 yX5_in, .static yX5_in, .initialized RX5, .code yX5_in cX5_in 3 (some .boolean)] ++ wsX50)
def wsX5_power : List Cond := .code yX5_power cX5_power 4 (some .int) :: ([])
def wsX5_gcd : List Cond := .code yX5_gcd cX5_gcd 5 (some .int) :: ([])
def wsX5_odds_r1 : List Cond := [Cond.fieldLink RX5 47 "WindPostModel" "thrown" "I", Cond.fieldLink RX5 38 "WindPostModel" "trial" "[I", Cond.fieldLink RX5 25 "WindPostModel" "s" "[I", Cond.methodLink RX5 128 yX5_isLetter, Cond.instanceMethod yX5_isLetter, Cond.selects RX5 yX5_isLetter yX5_isLetter, Cond.initialized RX5, Cond.code yX5_isLetter cX5_isLetter 2 (some .boolean), Cond.methodLink RX5 51 yX5_in, Cond.static yX5_in, Cond.code yX5_in cX5_in 3 (some .boolean), Cond.methodLink RX5 149 yX5_takesLetter, Cond.instanceMethod yX5_takesLetter, Cond.selects RX5 yX5_takesLetter yX5_takesLetter, Cond.code yX5_takesLetter cX5_takesLetter 4 none, Cond.methodLink RX5 125 yX5_windOf, Cond.instanceMethod yX5_windOf, Cond.selects RX5 yX5_windOf yX5_windOf, Cond.code yX5_windOf cX5_windOf 3 (some .int), Cond.fieldLink RX5 13 "WindPostModel" "many" "[I", Cond.methodLink RX5 145 yX5_blows, Cond.instanceMethod yX5_blows, Cond.selects RX5 yX5_blows yX5_blows, Cond.code yX5_blows cX5_blows 10 none]
def wsX5_odds_r2 : List Cond := [Cond.methodLink RX5 142 yX5_beside, Cond.instanceMethod yX5_beside, Cond.selects RX5 yX5_beside yX5_beside, Cond.code yX5_beside cX5_beside 5 (some .int), Cond.methodLink RX5 119 yX5_isHill, Cond.instanceMethod yX5_isHill, Cond.selects RX5 yX5_isHill yX5_isHill, Cond.code yX5_isHill cX5_isHill 4 (some .boolean), Cond.fieldLink RX5 19 "WindPostModel" "hills" "[I", Cond.methodLink RX5 122 yX5_isleAt, Cond.instanceMethod yX5_isleAt, Cond.selects RX5 yX5_isleAt yX5_isleAt, Cond.code yX5_isleAt cX5_isleAt 3 (some .int), Cond.fieldLink RX5 16 "WindPostModel" "isles" "[I", Cond.methodLink RX5 172 yX5_power, Cond.static yX5_power, Cond.code yX5_power cX5_power 4 (some .int), Cond.methodLink RX5 175 yX5_gcd, Cond.static yX5_gcd, Cond.code yX5_gcd cX5_gcd 5 (some .int)]
def wsX5_odds : List Cond := .code yX5_odds cX5_odds 10 (some .int) :: ((wsX5_odds_r1 ++ wsX5_odds_r2) ++ wsX50)
def wsX5_rate : List Cond := .code yX5_rate cX5_rate 7 (some .int) :: ([.fieldLink RX5 47 "WindPostModel" "thrown" "I", .constant RX5 171 (-1000000), .fieldLink RX5 25 "WindPostModel" "s" "[I", .fieldLink RX5 178 "WindPostModel" "trace" "J", .constantLong RX5 182 (11), .constantLong RX5 184 (101), .constantLong RX5 186 (1011), .constantLong RX5 188 (10101), .constantLong RX5 190 (100001), .methodLink RX5 51 yX5_in, .static yX5_in, .initialized RX5, .code yX5_in cX5_in 3 (some .boolean), .methodLink RX5 128 yX5_isLetter, .instanceMethod yX5_isLetter, .selects RX5 yX5_isLetter yX5_isLetter, .code yX5_isLetter cX5_isLetter 2 (some .boolean), .methodLink RX5 168 yX5_ones, .static yX5_ones, .code yX5_ones cX5_ones 3 (some .int)] ++ wsX50)
def wsX5_keep : List Cond := .code yX5_keep cX5_keep 3 (some .int) :: ([.fieldLink RX5 47 "WindPostModel" "thrown" "I", .fieldLink RX5 28 "WindPostModel" "kept" "[I", .fieldLink RX5 25 "WindPostModel" "s" "[I", .fieldLink RX5 31 "WindPostModel" "isKept" "[Z", .methodLink RX5 51 yX5_in, .static yX5_in, .initialized RX5, .code yX5_in cX5_in 3 (some .boolean)] ++ wsX50)
def wsX5_back : List Cond := .code yX5_back cX5_back 3 (some .int) :: ([.fieldLink RX5 47 "WindPostModel" "thrown" "I", .fieldLink RX5 31 "WindPostModel" "isKept" "[Z", .fieldLink RX5 25 "WindPostModel" "s" "[I", .fieldLink RX5 28 "WindPostModel" "kept" "[I", .fieldLink RX5 113 "WindPostModel" "undoMany" "I", .methodLink RX5 51 yX5_in, .static yX5_in, .initialized RX5, .code yX5_in cX5_in 3 (some .boolean)] ++ wsX50)
def wsX5_count : List Cond := .code yX5_count cX5_count 2 (some .int) :: ([.fieldLink RX5 47 "WindPostModel" "thrown" "I", .fieldLink RX5 13 "WindPostModel" "many" "[I", .fieldLink RX5 55 "WindPostModel" "typed" "I", .methodLink RX5 51 yX5_in, .static yX5_in, .initialized RX5, .code yX5_in cX5_in 3 (some .boolean)] ++ wsX50)
def wsX5_trace : List Cond := .code yX5_trace cX5_trace 1 (some .long) :: ([.fieldLink RX5 47 "WindPostModel" "thrown" "I", .fieldLink RX5 178 "WindPostModel" "trace" "J"] ++ wsX50)
def wsJ9_max_7cf53 : List Cond := .code yJ9_max_7cf53 cJ9_max_7cf53 2 (some .int) :: ([])
def wsJ9_min_7cf53 : List Cond := .code yJ9_min_7cf53 cJ9_min_7cf53 2 (some .int) :: ([])
def wsL_law_r1 : List Cond := [Cond.classLink RL 7 RX4, Cond.instantiable RX4 12, Cond.initialized RX4, Cond.classLink RL 10 RX5, Cond.instantiable RX5 22, Cond.initialized RX5, Cond.methodLink RL 9 yX4_init, Cond.instanceMethod yX4_init, Cond.code yX4_init cX4_init 2 none, Cond.methodLink RX4 1 objectInit, Cond.instanceMethod objectInit, Cond.code objectInit ⟨#[0xb1]⟩ 1 none, Cond.classLink RX4 7 RX3, Cond.instantiable RX3 8, Cond.initialized RX3, Cond.fieldLink RX4 10 "WindPost" "text" "LWindPost$Text;", Cond.classLink RX4 16 RX0, Cond.instantiable RX0 10, Cond.initialized RX0, Cond.fieldLink RX4 19 "WindPost" "chart" "LWindPost$Chart;", Cond.fieldLink RX4 23 "WindPost" "draft" "LWindPost$Chart;", Cond.classLink RX4 26 RX2, Cond.instantiable RX2 6, Cond.initialized RX2]
def wsL_law_r2 : List Cond := [Cond.fieldLink RX4 29 "WindPost" "now" "LWindPost$Moment;", Cond.fieldLink RX4 33 "WindPost" "past" "[LWindPost$Moment;", Cond.fieldLink RX4 37 "WindPost" "images" "[LWindPost$Moment;", Cond.arrayClass .boolean, Cond.fieldLink RX4 40 "WindPost" "kept" "[Z", Cond.classLink RX4 44 RX1, Cond.instantiable RX1 7, Cond.initialized RX1, Cond.fieldLink RX4 47 "WindPost" "probe" "LWindPost$Letter;", Cond.fieldLink RX4 51 "WindPost" "second" "LWindPost$Letter;", Cond.instanceMethod yX3_init, Cond.code yX3_init cX3_init 1 none, Cond.methodLink RX3 3 objectInit, Cond.arrayClass .int, Cond.fieldLink RX3 9 "WindPost$Text" "signs" "[I", Cond.methodLink RX4 18 yX0_init, Cond.instanceMethod yX0_init, Cond.code yX0_init cX0_init 1 none, Cond.methodLink RX0 3 objectInit, Cond.fieldLink RX0 9 "WindPost$Chart" "isleCells" "[I", Cond.fieldLink RX0 15 "WindPost$Chart" "holds" "[I", Cond.fieldLink RX0 18 "WindPost$Chart" "winds" "[I", Cond.fieldLink RX0 21 "WindPost$Chart" "ends" "[I", Cond.methodLink RX0 24 yX0_untell]
def wsL_law_r3 : List Cond := [Cond.instanceMethod yX0_untell, Cond.selects RX0 yX0_untell yX0_untell, Cond.code yX0_untell cX0_untell 2 none, Cond.fieldLink RX0 30 "WindPost$Chart" "wide" "I", Cond.fieldLink RX0 34 "WindPost$Chart" "high" "I", Cond.fieldLink RX0 37 "WindPost$Chart" "force" "I", Cond.fieldLink RX0 40 "WindPost$Chart" "isles" "I", Cond.fieldLink RX0 43 "WindPost$Chart" "hills" "I", Cond.fieldLink RX0 46 "WindPost$Chart" "told" "I", Cond.methodLink RX0 27 yX0_drawEnds, Cond.instanceMethod yX0_drawEnds, Cond.selects RX0 yX0_drawEnds yX0_drawEnds, Cond.code yX0_drawEnds cX0_drawEnds 3 none, Cond.methodLink RX0 55 yX0_cells, Cond.instanceMethod yX0_cells, Cond.selects RX0 yX0_cells yX0_cells, Cond.code yX0_cells cX0_cells 1 (some .int), Cond.methodLink RX0 49 Lib.Math.min.name, Cond.static Lib.Math.min.name, Cond.initialized "java/lang/Math", Cond.code Lib.Math.min.name Lib.Math.min.code 2 (some .int), Cond.methodLink RX0 59 yX0_drawWay, Cond.instanceMethod yX0_drawWay, Cond.selects RX0 yX0_drawWay yX0_drawWay]
def wsL_law_r4 : List Cond := [Cond.code yX0_drawWay cX0_drawWay 7 none, Cond.methodLink RX0 63 yX0_beside, Cond.instanceMethod yX0_beside, Cond.selects RX0 yX0_beside yX0_beside, Cond.code yX0_beside cX0_beside 5 (some .int), Cond.methodLink RX0 66 yX0_onCell, Cond.instanceMethod yX0_onCell, Cond.selects RX0 yX0_onCell yX0_onCell, Cond.code yX0_onCell cX0_onCell 2 (some .int), Cond.methodLink RX4 28 yX2_init, Cond.instanceMethod yX2_init, Cond.code yX2_init cX2_init 2 none, Cond.methodLink RX2 3 objectInit, Cond.fieldLink RX2 9 "WindPost$Moment" "winds" "[I", Cond.classLink RX2 15 RX1, Cond.fieldLink RX2 17 "WindPost$Moment" "post" "[LWindPost$Letter;", Cond.instanceMethod yX1_init, Cond.code yX1_init cX1_init 1 none, Cond.methodLink RX1 3 objectInit, Cond.methodLink RL 12 yX5_init, Cond.instanceMethod yX5_init, Cond.code yX5_init cX5_init 1 none, Cond.methodLink RX5 1 objectInit, Cond.fieldLink RX5 7 "WindPostModel" "text" "[I"]
def wsL_law_r5 : List Cond := [Cond.fieldLink RX5 13 "WindPostModel" "many" "[I", Cond.fieldLink RX5 16 "WindPostModel" "isles" "[I", Cond.fieldLink RX5 19 "WindPostModel" "hills" "[I", Cond.fieldLink RX5 22 "WindPostModel" "winds" "[I", Cond.fieldLink RX5 25 "WindPostModel" "s" "[I", Cond.fieldLink RX5 28 "WindPostModel" "kept" "[I", Cond.fieldLink RX5 31 "WindPostModel" "isKept" "[Z", Cond.fieldLink RX5 35 "WindPostModel" "undos" "[I", Cond.fieldLink RX5 38 "WindPostModel" "trial" "[I", Cond.fieldLink RX5 41 "WindPostModel" "other" "[I", Cond.fieldLink RX5 44 "WindPostModel" "met" "[I", Cond.methodLink RL 13 yX4_type, Cond.instanceMethod yX4_type, Cond.selects RX4 yX4_type yX4_type, Cond.code yX4_type cX4_type 2 (some .int), Cond.fieldLink RX4 58 "WindPost$Text" "length" "I", Cond.methodLink RX4 54 yX4_isWithin, Cond.static yX4_isWithin, Cond.code yX4_isWithin cX4_isWithin 3 (some .boolean), Cond.methodLink RX4 62 yX3_add, Cond.instanceMethod yX3_add, Cond.selects RX3 yX3_add yX3_add, Cond.code yX3_add cX3_add 2 none, Cond.fieldLink RX3 15 "WindPost$Text" "length" "I"]
def wsL_law_r6 : List Cond := [Cond.methodLink RL 17 yX5_type, Cond.instanceMethod yX5_type, Cond.selects RX5 yX5_type yX5_type, Cond.code yX5_type cX5_type 2 (some .int), Cond.fieldLink RX5 47 "WindPostModel" "thrown" "I", Cond.fieldLink RX5 55 "WindPostModel" "typed" "I", Cond.methodLink RX5 51 yX5_in, Cond.static yX5_in, Cond.code yX5_in cX5_in 3 (some .boolean), Cond.methodLink RL 18 yX4_clear, Cond.instanceMethod yX4_clear, Cond.selects RX4 yX4_clear yX4_clear, Cond.code yX4_clear cX4_clear 2 (some .int), Cond.methodLink RL 22 yX5_clear, Cond.instanceMethod yX5_clear, Cond.selects RX5 yX5_clear yX5_clear, Cond.code yX5_clear cX5_clear 2 (some .int), Cond.methodLink RL 23 yX4_sea, Cond.instanceMethod yX4_sea, Cond.selects RX4 yX4_sea yX4_sea, Cond.code yX4_sea cX4_sea 4 (some .int), Cond.fieldLink RX4 77 "WindPost" "pastKnown" "I", Cond.methodLink RX4 66 yX3_readInto, Cond.instanceMethod yX3_readInto]
def wsL_law_r7 : List Cond := [Cond.selects RX3 yX3_readInto yX3_readInto, Cond.code yX3_readInto cX3_readInto 3 (some .int), Cond.fieldLink RX3 24 "WindPost$Text" "next" "I", Cond.fieldLink RX3 27 "WindPost$Text" "items" "I", Cond.fieldLink RX3 30 "WindPost$Text" "forceTold" "Z", Cond.fieldLink RX3 37 "WindPost$Text" "token" "I", Cond.fieldLink RX3 44 "WindPost$Text" "place" "I", Cond.methodLink RX3 19 yX0_untell, Cond.methodLink RX3 34 yX3_step, Cond.instanceMethod yX3_step, Cond.selects RX3 yX3_step yX3_step, Cond.code yX3_step cX3_step 3 none, Cond.fieldLink RX3 72 "WindPost$Text" "number" "I", Cond.methodLink RX3 117 Lib.Math.min.name, Cond.methodLink RX3 113 yX3_isDigit, Cond.static yX3_isDigit, Cond.code yX3_isDigit cX3_isDigit 1 (some .boolean), Cond.methodLink RX3 123 yX3_isSign, Cond.static yX3_isSign, Cond.code yX3_isSign cX3_isSign 1 (some .boolean), Cond.methodLink RX3 40 yX3_readItem, Cond.instanceMethod yX3_readItem, Cond.selects RX3 yX3_readItem yX3_readItem, Cond.code yX3_readItem cX3_readItem 2 (some .boolean)]
def wsL_law_r8 : List Cond := [Cond.fieldLink RX3 50 "WindPost$Chart" "isles" "I", Cond.fieldLink RX3 56 "WindPost$Chart" "hills" "I", Cond.methodLink RX3 47 yX3_readSize, Cond.instanceMethod yX3_readSize, Cond.selects RX3 yX3_readSize yX3_readSize, Cond.code yX3_readSize cX3_readSize 2 (some .boolean), Cond.fieldLink RX3 75 "WindPost$Chart" "wide" "I", Cond.fieldLink RX3 78 "WindPost$Chart" "high" "I", Cond.methodLink RX3 68 yX3_stepsToNumber, Cond.instanceMethod yX3_stepsToNumber, Cond.selects RX3 yX3_stepsToNumber yX3_stepsToNumber, Cond.code yX3_stepsToNumber cX3_stepsToNumber 3 (some .boolean), Cond.methodLink RX3 81 yX3_stepsToEnd, Cond.instanceMethod yX3_stepsToEnd, Cond.selects RX3 yX3_stepsToEnd yX3_stepsToEnd, Cond.code yX3_stepsToEnd cX3_stepsToEnd 1 (some .boolean), Cond.methodLink RX3 53 yX3_readIsle, Cond.instanceMethod yX3_readIsle, Cond.selects RX3 yX3_readIsle yX3_readIsle, Cond.code yX3_readIsle cX3_readIsle 2 (some .boolean), Cond.methodLink RX3 85 yX0_cells, Cond.methodLink RX3 89 yX0_onCell, Cond.methodLink RX3 93 yX0_addIsle, Cond.instanceMethod yX0_addIsle]
def wsL_law_r9 : List Cond := [Cond.selects RX0 yX0_addIsle yX0_addIsle, Cond.code yX0_addIsle cX0_addIsle 2 none, Cond.methodLink RX3 59 yX3_readHill, Cond.instanceMethod yX3_readHill, Cond.selects RX3 yX3_readHill yX3_readHill, Cond.code yX3_readHill cX3_readHill 2 (some .boolean), Cond.methodLink RX3 97 yX0_addHill, Cond.instanceMethod yX0_addHill, Cond.selects RX0 yX0_addHill yX0_addHill, Cond.code yX0_addHill cX0_addHill 2 none, Cond.methodLink RX3 62 yX3_readWinds, Cond.instanceMethod yX3_readWinds, Cond.selects RX3 yX3_readWinds yX3_readWinds, Cond.code yX3_readWinds cX3_readWinds 3 (some .boolean), Cond.fieldLink RX3 103 "WindPost$Chart" "told" "I", Cond.methodLink RX3 106 yX0_addWind, Cond.instanceMethod yX0_addWind, Cond.selects RX0 yX0_addWind yX0_addWind, Cond.code yX0_addWind cX0_addWind 2 none, Cond.methodLink RX3 65 yX3_readForce, Cond.instanceMethod yX3_readForce, Cond.selects RX3 yX3_readForce yX3_readForce, Cond.code yX3_readForce cX3_readForce 2 (some .boolean), Cond.fieldLink RX3 100 "WindPost$Chart" "force" "I"]
def wsL_law_r10 : List Cond := [Cond.methodLink RX4 70 yX0_drawEnds, Cond.methodLink RX4 73 yX2_beginAnew, Cond.instanceMethod yX2_beginAnew, Cond.selects RX2 yX2_beginAnew yX2_beginAnew, Cond.code yX2_beginAnew cX2_beginAnew 3 none, Cond.fieldLink RX2 22 "WindPost$Moment" "time" "I", Cond.fieldLink RX2 26 "WindPost$Moment" "letters" "I", Cond.fieldLink RX2 29 "WindPost$Moment" "nets" "I", Cond.fieldLink RX2 32 "WindPost$Chart" "told" "I", Cond.fieldLink RX2 37 "WindPost$Moment" "told" "I", Cond.fieldLink RX2 38 "WindPost$Chart" "winds" "[I", Cond.methodLink RL 26 yX5_sea, Cond.instanceMethod yX5_sea, Cond.selects RX5 yX5_sea yX5_sea, Cond.code yX5_sea cX5_sea 3 (some .int), Cond.fieldLink RX5 74 "WindPostModel" "fault" "I", Cond.fieldLink RX5 58 "WindPostModel" "next" "I", Cond.fieldLink RX5 88 "WindPostModel" "isForceTold" "Z", Cond.fieldLink RX5 68 "WindPostModel" "token" "I", Cond.methodLink RX5 81 yX5_advances, Cond.instanceMethod yX5_advances, Cond.selects RX5 yX5_advances yX5_advances, Cond.code yX5_advances cX5_advances 2 none, Cond.fieldLink RX5 65 "WindPostModel" "place" "I"]
def wsL_law_r11 : List Cond := [Cond.fieldLink RX5 71 "WindPostModel" "value" "I", Cond.methodLink RX5 61 yX5_letterAt, Cond.instanceMethod yX5_letterAt, Cond.selects RX5 yX5_letterAt yX5_letterAt, Cond.code yX5_letterAt cX5_letterAt 2 (some .int), Cond.methodLink RX5 77 yX5_isWell, Cond.instanceMethod yX5_isWell, Cond.selects RX5 yX5_isWell yX5_isWell, Cond.code yX5_isWell cX5_isWell 1 (some .boolean), Cond.methodLink RX5 103 yX5_mayBegin, Cond.instanceMethod yX5_mayBegin, Cond.selects RX5 yX5_mayBegin yX5_mayBegin, Cond.code yX5_mayBegin cX5_mayBegin 2 (some .boolean), Cond.methodLink RX5 84 yX5_takes, Cond.instanceMethod yX5_takes, Cond.selects RX5 yX5_takes yX5_takes, Cond.code yX5_takes cX5_takes 3 (some .int), Cond.methodLink RX5 106 yX5_readsItem, Cond.instanceMethod yX5_readsItem, Cond.selects RX5 yX5_readsItem yX5_readsItem, Cond.code yX5_readsItem cX5_readsItem 2 none, Cond.methodLink RX5 92 yX5_number, Cond.instanceMethod yX5_number, Cond.selects RX5 yX5_number yX5_number]
def wsL_law_r12 : List Cond := [Cond.code yX5_number cX5_number 3 (some .int), Cond.methodLink RX5 96 yX5_isFree, Cond.instanceMethod yX5_isFree, Cond.selects RX5 yX5_isFree yX5_isFree, Cond.code yX5_isFree cX5_isFree 4 (some .boolean), Cond.methodLink RX5 100 yX5_readsWind, Cond.instanceMethod yX5_readsWind, Cond.selects RX5 yX5_readsWind yX5_readsWind, Cond.code yX5_readsWind cX5_readsWind 2 none, Cond.methodLink RX5 110 yX5_settles, Cond.instanceMethod yX5_settles, Cond.selects RX5 yX5_settles yX5_settles, Cond.code yX5_settles cX5_settles 2 none, Cond.fieldLink RX5 113 "WindPostModel" "undoMany" "I", Cond.methodLink RL 27 yX4_isle, Cond.instanceMethod yX4_isle, Cond.selects RX4 yX4_isle yX4_isle, Cond.code yX4_isle cX4_isle 3 (some .int), Cond.fieldLink RX4 84 "WindPost$Chart" "isleCells" "[I", Cond.fieldLink RX4 88 "WindPost$Moment" "nets" "I", Cond.methodLink RX4 80 yX4_isIsle, Cond.instanceMethod yX4_isIsle, Cond.selects RX4 yX4_isIsle yX4_isIsle, Cond.code yX4_isIsle cX4_isIsle 2 (some .boolean)]
def wsL_law_r13 : List Cond := [Cond.fieldLink RX4 194 "WindPost$Chart" "isles" "I", Cond.methodLink RX4 91 yX4_bitOf, Cond.static yX4_bitOf, Cond.code yX4_bitOf cX4_bitOf 2 (some .int), Cond.methodLink RL 31 yX5_isle, Cond.instanceMethod yX5_isle, Cond.selects RX5 yX5_isle yX5_isle, Cond.code yX5_isle cX5_isle 3 (some .int), Cond.methodLink RX5 116 yX5_isIsle, Cond.instanceMethod yX5_isIsle, Cond.selects RX5 yX5_isIsle yX5_isIsle, Cond.code yX5_isIsle cX5_isIsle 2 (some .boolean), Cond.methodLink RL 32 yX4_cell, Cond.instanceMethod yX4_cell, Cond.selects RX4 yX4_cell yX4_cell, Cond.code yX4_cell cX4_cell 2 (some .int), Cond.fieldLink RX4 99 "WindPost$Chart" "holds" "[I", Cond.methodLink RX4 95 yX0_cells, Cond.methodLink RL 35 yX5_cell, Cond.instanceMethod yX5_cell, Cond.selects RX5 yX5_cell yX5_cell, Cond.code yX5_cell cX5_cell 2 (some .int), Cond.methodLink RX5 119 yX5_isHill, Cond.instanceMethod yX5_isHill]
def wsL_law_r14 : List Cond := [Cond.selects RX5 yX5_isHill yX5_isHill, Cond.code yX5_isHill cX5_isHill 4 (some .boolean), Cond.methodLink RX5 122 yX5_isleAt, Cond.instanceMethod yX5_isleAt, Cond.selects RX5 yX5_isleAt yX5_isleAt, Cond.code yX5_isleAt cX5_isleAt 3 (some .int), Cond.methodLink RL 36 yX4_wind, Cond.instanceMethod yX4_wind, Cond.selects RX4 yX4_wind yX4_wind, Cond.code yX4_wind cX4_wind 2 (some .int), Cond.fieldLink RX4 102 "WindPost$Moment" "time" "I", Cond.methodLink RX4 105 yX2_windOf, Cond.instanceMethod yX2_windOf, Cond.selects RX2 yX2_windOf yX2_windOf, Cond.code yX2_windOf cX2_windOf 2 (some .int), Cond.methodLink RX2 43 yJ9_floorMod_7cf53, Cond.static yJ9_floorMod_7cf53, Cond.initialized RJ9, Cond.code yJ9_floorMod_7cf53 cJ9_floorMod_7cf53 3 (some .int), Cond.methodLink RL 39 yX5_wind, Cond.instanceMethod yX5_wind, Cond.selects RX5 yX5_wind yX5_wind, Cond.code yX5_wind cX5_wind 2 (some .int), Cond.methodLink RX5 125 yX5_windOf]
def wsL_law_r15 : List Cond := [Cond.instanceMethod yX5_windOf, Cond.selects RX5 yX5_windOf yX5_windOf, Cond.code yX5_windOf cX5_windOf 3 (some .int), Cond.methodLink RL 40 yX4_letter, Cond.instanceMethod yX4_letter, Cond.selects RX4 yX4_letter yX4_letter, Cond.code yX4_letter cX4_letter 4 (some .int), Cond.fieldLink RX4 112 "WindPost$Moment" "post" "[LWindPost$Letter;", Cond.fieldLink RX4 116 "WindPost$Letter" "weight" "I", Cond.fieldLink RX4 119 "WindPost$Letter" "from" "I", Cond.fieldLink RX4 122 "WindPost$Letter" "to" "I", Cond.fieldLink RX4 125 "WindPost$Letter" "place" "I", Cond.fieldLink RX4 128 "WindPost$Letter" "marks" "I", Cond.fieldLink RX4 131 "WindPost$Letter" "how" "I", Cond.methodLink RX4 109 yX4_isLetter, Cond.instanceMethod yX4_isLetter, Cond.selects RX4 yX4_isLetter yX4_isLetter, Cond.code yX4_isLetter cX4_isLetter 2 (some .boolean), Cond.fieldLink RX4 134 "WindPost$Moment" "letters" "I", Cond.methodLink RL 43 yX5_letter, Cond.instanceMethod yX5_letter, Cond.selects RX5 yX5_letter yX5_letter, Cond.code yX5_letter cX5_letter 3 (some .int), Cond.methodLink RX5 128 yX5_isLetter]
def wsL_law_r16 : List Cond := [Cond.instanceMethod yX5_isLetter, Cond.selects RX5 yX5_isLetter yX5_isLetter, Cond.code yX5_isLetter cX5_isLetter 2 (some .boolean), Cond.methodLink RL 44 yX4_now, Cond.instanceMethod yX4_now, Cond.selects RX4 yX4_now yX4_now, Cond.code yX4_now cX4_now 2 (some .int), Cond.methodLink RX4 137 yX2_lettersUp, Cond.instanceMethod yX2_lettersUp, Cond.selects RX2 yX2_lettersUp yX2_lettersUp, Cond.code yX2_lettersUp cX2_lettersUp 3 (some .int), Cond.fieldLink RX2 49 "WindPost$Letter" "how" "I", Cond.methodLink RL 47 yX5_now, Cond.instanceMethod yX5_now, Cond.selects RX5 yX5_now yX5_now, Cond.code yX5_now cX5_now 4 (some .int), Cond.methodLink RL 48 yX4_lets, Cond.instanceMethod yX4_lets, Cond.selects RX4 yX4_lets yX4_lets, Cond.code yX4_lets cX4_lets 5 (some .int), Cond.methodLink RX4 140 yX4_isWay, Cond.instanceMethod yX4_isWay, Cond.selects RX4 yX4_isWay yX4_isWay, Cond.code yX4_isWay cX4_isWay 3 (some .boolean)]
def wsL_law_r17 : List Cond := [Cond.methodLink RX4 144 yX4_isWeight, Cond.static yX4_isWeight, Cond.code yX4_isWeight cX4_isWeight 1 (some .boolean), Cond.methodLink RX4 147 yX4_remember, Cond.instanceMethod yX4_remember, Cond.selects RX4 yX4_remember yX4_remember, Cond.code yX4_remember cX4_remember 1 none, Cond.fieldLink RX4 164 "WindPost" "pastNext" "I", Cond.methodLink RX4 254 Lib.Math.min.name, Cond.methodLink RX4 167 yX2_copyFrom, Cond.instanceMethod yX2_copyFrom, Cond.selects RX2 yX2_copyFrom yX2_copyFrom, Cond.code yX2_copyFrom cX2_copyFrom 3 none, Cond.methodLink RX2 39 yX1_copyFrom, Cond.instanceMethod yX1_copyFrom, Cond.selects RX1 yX1_copyFrom yX1_copyFrom, Cond.code yX1_copyFrom cX1_copyFrom 2 none, Cond.fieldLink RX1 9 "WindPost$Letter" "weight" "I", Cond.fieldLink RX1 15 "WindPost$Letter" "from" "I", Cond.fieldLink RX1 18 "WindPost$Letter" "to" "I", Cond.fieldLink RX1 27 "WindPost$Letter" "place" "I", Cond.fieldLink RX1 30 "WindPost$Letter" "marks" "I", Cond.fieldLink RX1 33 "WindPost$Letter" "how" "I", Cond.fieldLink RX1 39 "WindPost$Letter" "reach" "I"]
def wsL_law_r18 : List Cond := [Cond.methodLink RX4 150 yX1_letUp, Cond.instanceMethod yX1_letUp, Cond.selects RX1 yX1_letUp yX1_letUp, Cond.code yX1_letUp cX1_letUp 5 none, Cond.fieldLink RX1 36 "WindPost$Chart" "force" "I", Cond.methodLink RX1 21 yX0_cellOfIsle, Cond.instanceMethod yX0_cellOfIsle, Cond.selects RX0 yX0_cellOfIsle yX0_cellOfIsle, Cond.code yX0_cellOfIsle cX0_cellOfIsle 2 (some .int), Cond.methodLink RL 52 yX5_lets, Cond.instanceMethod yX5_lets, Cond.selects RX5 yX5_lets yX5_lets, Cond.code yX5_lets cX5_lets 4 (some .int), Cond.methodLink RX5 131 yX5_areTwo, Cond.instanceMethod yX5_areTwo, Cond.selects RX5 yX5_areTwo yX5_areTwo, Cond.code yX5_areTwo cX5_areTwo 3 (some .boolean), Cond.methodLink RX5 135 yX5_notes, Cond.instanceMethod yX5_notes, Cond.selects RX5 yX5_notes yX5_notes, Cond.code yX5_notes cX5_notes 2 none, Cond.methodLink RX5 138 yX5_puts, Cond.instanceMethod yX5_puts, Cond.selects RX5 yX5_puts yX5_puts]
def wsL_law_r19 : List Cond := [Cond.code yX5_puts cX5_puts 6 none, Cond.methodLink RL 53 yX4_hour, Cond.instanceMethod yX4_hour, Cond.selects RX4 yX4_hour yX4_hour, Cond.code yX4_hour cX4_hour 6 (some .int), Cond.methodLink RX4 154 yX1_passHour, Cond.instanceMethod yX1_passHour, Cond.selects RX1 yX1_passHour yX1_passHour, Cond.code yX1_passHour cX1_passHour 6 none, Cond.methodLink RX1 42 yX0_endOf, Cond.instanceMethod yX0_endOf, Cond.selects RX0 yX0_endOf yX0_endOf, Cond.code yX0_endOf cX0_endOf 4 (some .int), Cond.methodLink RX1 46 yX0_onCell, Cond.methodLink RL 56 yX5_hour, Cond.instanceMethod yX5_hour, Cond.selects RX5 yX5_hour yX5_hour, Cond.code yX5_hour cX5_hour 6 (some .int), Cond.methodLink RX5 145 yX5_blows, Cond.instanceMethod yX5_blows, Cond.selects RX5 yX5_blows yX5_blows, Cond.code yX5_blows cX5_blows 10 none, Cond.methodLink RX5 142 yX5_beside, Cond.instanceMethod yX5_beside]
def wsL_law_r20 : List Cond := [Cond.selects RX5 yX5_beside yX5_beside, Cond.code yX5_beside cX5_beside 5 (some .int), Cond.methodLink RL 57 yX4_net, Cond.instanceMethod yX4_net, Cond.selects RX4 yX4_net yX4_net, Cond.code yX4_net cX4_net 4 (some .int), Cond.methodLink RL 60 yX5_net, Cond.instanceMethod yX5_net, Cond.selects RX5 yX5_net yX5_net, Cond.code yX5_net cX5_net 4 (some .int), Cond.methodLink RL 61 yX4_turn, Cond.instanceMethod yX4_turn, Cond.selects RX4 yX4_turn yX4_turn, Cond.code yX4_turn cX4_turn 4 (some .int), Cond.fieldLink RX4 158 "WindPost$Moment" "told" "I", Cond.fieldLink RX4 161 "WindPost$Moment" "winds" "[I", Cond.methodLink RL 64 yX5_turn, Cond.instanceMethod yX5_turn, Cond.selects RX5 yX5_turn yX5_turn, Cond.code yX5_turn cX5_turn 4 (some .int), Cond.methodLink RL 65 yX4_undo, Cond.instanceMethod yX4_undo, Cond.selects RX4 yX4_undo yX4_undo, Cond.code yX4_undo cX4_undo 1 (some .int)]
def wsL_law_r21 : List Cond := [Cond.methodLink RL 68 yX5_undo, Cond.instanceMethod yX5_undo, Cond.selects RX5 yX5_undo yX5_undo, Cond.code yX5_undo cX5_undo 2 (some .int), Cond.methodLink RL 69 yX4_where, Cond.instanceMethod yX4_where, Cond.selects RX4 yX4_where yX4_where, Cond.code yX4_where cX4_where 3 (some .int), Cond.methodLink RX4 171 yX4_letterIn, Cond.instanceMethod yX4_letterIn, Cond.selects RX4 yX4_letterIn yX4_letterIn, Cond.code yX4_letterIn cX4_letterIn 3 (some (.object "WindPost$Letter")), Cond.methodLink RX4 175 yX1_copyFrom, Cond.methodLink RX4 186 yX4_passHours, Cond.instanceMethod yX4_passHours, Cond.selects RX4 yX4_passHours yX4_passHours, Cond.code yX4_passHours cX4_passHours 5 none, Cond.methodLink RL 72 yX5_where, Cond.instanceMethod yX5_where, Cond.selects RX5 yX5_where yX5_where, Cond.code yX5_where cX5_where 3 (some .int), Cond.methodLink RX5 153 yX5_goes, Cond.instanceMethod yX5_goes, Cond.selects RX5 yX5_goes yX5_goes]
def wsL_law_r22 : List Cond := [Cond.code yX5_goes cX5_goes 4 none, Cond.methodLink RX5 149 yX5_takesLetter, Cond.instanceMethod yX5_takesLetter, Cond.selects RX5 yX5_takesLetter yX5_takesLetter, Cond.code yX5_takesLetter cX5_takesLetter 4 none, Cond.methodLink RL 73 yX4_comes, Cond.instanceMethod yX4_comes, Cond.selects RX4 yX4_comes yX4_comes, Cond.code yX4_comes cX4_comes 2 (some .int), Cond.methodLink RX4 178 yX4_arrival, Cond.instanceMethod yX4_arrival, Cond.selects RX4 yX4_arrival yX4_arrival, Cond.code yX4_arrival cX4_arrival 5 (some .int), Cond.methodLink RX4 181 Lib.Math.max.name, Cond.static Lib.Math.max.name, Cond.code Lib.Math.max.name Lib.Math.max.code 2 (some .int), Cond.methodLink RL 76 yX5_comes, Cond.instanceMethod yX5_comes, Cond.selects RX5 yX5_comes yX5_comes, Cond.code yX5_comes cX5_comes 2 (some .int), Cond.methodLink RX5 157 yX5_comesIn, Cond.instanceMethod yX5_comesIn, Cond.selects RX5 yX5_comesIn yX5_comesIn, Cond.code yX5_comesIn cX5_comesIn 4 (some .int)]
def wsL_law_r23 : List Cond := [Cond.methodLink RL 77 yX4_blots, Cond.instanceMethod yX4_blots, Cond.selects RX4 yX4_blots yX4_blots, Cond.code yX4_blots cX4_blots 3 (some .int), Cond.methodLink RL 80 yX5_blots, Cond.instanceMethod yX5_blots, Cond.selects RX5 yX5_blots yX5_blots, Cond.code yX5_blots cX5_blots 3 (some .int), Cond.methodLink RL 81 yX4_loop, Cond.instanceMethod yX4_loop, Cond.selects RX4 yX4_loop yX4_loop, Cond.code yX4_loop cX4_loop 5 (some .int), Cond.methodLink RL 84 yX5_loop, Cond.instanceMethod yX5_loop, Cond.selects RX5 yX5_loop yX5_loop, Cond.code yX5_loop cX5_loop 5 (some .int), Cond.methodLink RL 85 yX4_tangled, Cond.instanceMethod yX4_tangled, Cond.selects RX4 yX4_tangled yX4_tangled, Cond.code yX4_tangled cX4_tangled 4 (some .int), Cond.methodLink RL 88 yX5_tangled, Cond.instanceMethod yX5_tangled, Cond.selects RX5 yX5_tangled yX5_tangled, Cond.code yX5_tangled cX5_tangled 4 (some .int)]
def wsL_law_r24 : List Cond := [Cond.methodLink RL 89 yX4_soonest, Cond.instanceMethod yX4_soonest, Cond.selects RX4 yX4_soonest yX4_soonest, Cond.code yX4_soonest cX4_soonest 9 (some .int), Cond.methodLink RX4 190 yX4_supposed, Cond.instanceMethod yX4_supposed, Cond.selects RX4 yX4_supposed yX4_supposed, Cond.code yX4_supposed cX4_supposed 6 (some .int), Cond.fieldLink RX4 257 "WindPost$Letter" "reach" "I", Cond.methodLink RL 93 yX5_soonest, Cond.instanceMethod yX5_soonest, Cond.selects RX5 yX5_soonest yX5_soonest, Cond.code yX5_soonest cX5_soonest 6 (some .int), Cond.methodLink RX5 164 yX5_bestK, Cond.instanceMethod yX5_bestK, Cond.selects RX5 yX5_bestK yX5_bestK, Cond.code yX5_bestK cX5_bestK 9 (some .int), Cond.methodLink RX5 160 yX5_comesBy, Cond.instanceMethod yX5_comesBy, Cond.selects RX5 yX5_comesBy yX5_comesBy, Cond.code yX5_comesBy cX5_comesBy 6 (some .int), Cond.methodLink RL 94 yX4_lightest, Cond.instanceMethod yX4_lightest, Cond.selects RX4 yX4_lightest yX4_lightest]
def wsL_law_r25 : List Cond := [Cond.code yX4_lightest cX4_lightest 6 (some .int), Cond.methodLink RL 97 yX5_lightest, Cond.instanceMethod yX5_lightest, Cond.selects RX5 yX5_lightest yX5_lightest, Cond.code yX5_lightest cX5_lightest 6 (some .int), Cond.methodLink RL 98 yX4_words, Cond.instanceMethod yX4_words, Cond.selects RX4 yX4_words yX4_words, Cond.code yX4_words cX4_words 4 (some .int), Cond.methodLink RX4 197 yX4_hasWordOf, Cond.instanceMethod yX4_hasWordOf, Cond.selects RX4 yX4_hasWordOf yX4_hasWordOf, Cond.code yX4_hasWordOf cX4_hasWordOf 4 (some .boolean), Cond.methodLink RX4 205 yX4_keepsOff, Cond.instanceMethod yX4_keepsOff, Cond.selects RX4 yX4_keepsOff yX4_keepsOff, Cond.code yX4_keepsOff cX4_keepsOff 6 (some .boolean), Cond.methodLink RL 101 yX5_words, Cond.instanceMethod yX5_words, Cond.selects RX5 yX5_words yX5_words, Cond.code yX5_words cX5_words 5 (some .int), Cond.methodLink RL 102 yX4_nets, Cond.instanceMethod yX4_nets, Cond.selects RX4 yX4_nets yX4_nets]
def wsL_law_r26 : List Cond := [Cond.code yX4_nets cX4_nets 9 (some .int), Cond.methodLink RX4 200 yJ6_bitCount_0f7a4, Cond.static yJ6_bitCount_0f7a4, Cond.initialized RJ6, Cond.code yJ6_bitCount_0f7a4 cJ6_bitCount_0f7a4 1 (some .int), Cond.constant RJ6 265 (1431655765), Cond.constant RJ6 266 (858993459), Cond.constant RJ6 267 (252645135), Cond.methodLink RL 105 yX5_nets, Cond.instanceMethod yX5_nets, Cond.selects RX5 yX5_nets yX5_nets, Cond.code yX5_nets cX5_nets 7 (some .int), Cond.methodLink RX5 168 yX5_ones, Cond.static yX5_ones, Cond.code yX5_ones cX5_ones 3 (some .int), Cond.methodLink RL 106 yX4_who, Cond.instanceMethod yX4_who, Cond.selects RX4 yX4_who yX4_who, Cond.code yX4_who cX4_who 6 (some .int), Cond.methodLink RX4 209 yX4_comesWith, Cond.instanceMethod yX4_comesWith, Cond.selects RX4 yX4_comesWith yX4_comesWith, Cond.code yX4_comesWith cX4_comesWith 6 (some .boolean), Cond.methodLink RL 109 yX5_who]
def wsL_law_r27 : List Cond := [Cond.instanceMethod yX5_who, Cond.selects RX5 yX5_who yX5_who, Cond.code yX5_who cX5_who 8 (some .int), Cond.methodLink RL 110 yX4_knee, Cond.instanceMethod yX4_knee, Cond.selects RX4 yX4_knee yX4_knee, Cond.code yX4_knee cX4_knee 6 (some .int), Cond.methodLink RL 113 yX5_knee, Cond.instanceMethod yX5_knee, Cond.selects RX5 yX5_knee yX5_knee, Cond.code yX5_knee cX5_knee 5 (some .int), Cond.methodLink RL 114 yX4_drift, Cond.instanceMethod yX4_drift, Cond.selects RX4 yX4_drift yX4_drift, Cond.code yX4_drift cX4_drift 7 (some .int), Cond.constant RX4 212 (-1000000), Cond.fieldLink RX4 213 "WindPost$Chart" "force" "I", Cond.methodLink RL 117 yX5_drift, Cond.instanceMethod yX5_drift, Cond.selects RX5 yX5_drift yX5_drift, Cond.code yX5_drift cX5_drift 7 (some .int), Cond.constant RX5 171 (-1000000), Cond.methodLink RL 118 yX4_odds, Cond.instanceMethod yX4_odds]
def wsL_law_r28 : List Cond := [Cond.selects RX4 yX4_odds yX4_odds, Cond.code yX4_odds cX4_odds 8 (some .int), Cond.methodLink RX4 216 yX4_shareArrived, Cond.instanceMethod yX4_shareArrived, Cond.selects RX4 yX4_shareArrived yX4_shareArrived, Cond.code yX4_shareArrived cX4_shareArrived 8 (some .int), Cond.methodLink RX4 220 yX4_commonDivisor, Cond.static yX4_commonDivisor, Cond.code yX4_commonDivisor cX4_commonDivisor 6 (some .int), Cond.methodLink RL 121 yX5_odds, Cond.instanceMethod yX5_odds, Cond.selects RX5 yX5_odds yX5_odds, Cond.code yX5_odds cX5_odds 10 (some .int), Cond.methodLink RX5 172 yX5_power, Cond.static yX5_power, Cond.code yX5_power cX5_power 4 (some .int), Cond.methodLink RX5 175 yX5_gcd, Cond.static yX5_gcd, Cond.code yX5_gcd cX5_gcd 5 (some .int), Cond.methodLink RL 122 yX4_rate, Cond.instanceMethod yX4_rate, Cond.selects RX4 yX4_rate yX4_rate, Cond.code yX4_rate cX4_rate 3 (some .int), Cond.methodLink RX4 223 yX4_rateLetter]
def wsL_law_r29 : List Cond := [Cond.instanceMethod yX4_rateLetter, Cond.selects RX4 yX4_rateLetter yX4_rateLetter, Cond.code yX4_rateLetter cX4_rateLetter 2 (some .int), Cond.fieldLink RX4 250 "WindPost" "traced" "J", Cond.methodLink RX4 226 yX4_rateSummons, Cond.instanceMethod yX4_rateSummons, Cond.selects RX4 yX4_rateSummons yX4_rateSummons, Cond.code yX4_rateSummons cX4_rateSummons 2 (some .int), Cond.constantLong RX4 260 (10), Cond.methodLink RX4 229 yX4_rateGoose, Cond.instanceMethod yX4_rateGoose, Cond.selects RX4 yX4_rateGoose yX4_rateGoose, Cond.code yX4_rateGoose cX4_rateGoose 2 (some .int), Cond.constantLong RX4 262 (100), Cond.methodLink RX4 232 yX4_rateBill, Cond.instanceMethod yX4_rateBill, Cond.selects RX4 yX4_rateBill yX4_rateBill, Cond.code yX4_rateBill cX4_rateBill 2 (some .int), Cond.constantLong RX4 264 (1000), Cond.methodLink RX4 235 yX4_rateVow, Cond.instanceMethod yX4_rateVow, Cond.selects RX4 yX4_rateVow yX4_rateVow, Cond.code yX4_rateVow cX4_rateVow 2 (some .int), Cond.constantLong RX4 266 (10000)]
def wsL_law_r30 : List Cond := [Cond.methodLink RX4 238 yX4_rateKite, Cond.instanceMethod yX4_rateKite, Cond.selects RX4 yX4_rateKite yX4_rateKite, Cond.code yX4_rateKite cX4_rateKite 2 (some .int), Cond.constantLong RX4 268 (100000), Cond.methodLink RL 125 yX5_rate, Cond.instanceMethod yX5_rate, Cond.selects RX5 yX5_rate yX5_rate, Cond.code yX5_rate cX5_rate 7 (some .int), Cond.fieldLink RX5 178 "WindPostModel" "trace" "J", Cond.constantLong RX5 182 (11), Cond.constantLong RX5 184 (101), Cond.constantLong RX5 186 (1011), Cond.constantLong RX5 188 (10101), Cond.constantLong RX5 190 (100001), Cond.methodLink RL 126 yX4_keep, Cond.instanceMethod yX4_keep, Cond.selects RX4 yX4_keep yX4_keep, Cond.code yX4_keep cX4_keep 2 (some .int), Cond.methodLink RL 129 yX5_keep, Cond.instanceMethod yX5_keep, Cond.selects RX5 yX5_keep yX5_keep, Cond.code yX5_keep cX5_keep 3 (some .int), Cond.methodLink RL 130 yX4_back]
def wsL_law_r31 : List Cond := [Cond.instanceMethod yX4_back, Cond.selects RX4 yX4_back yX4_back, Cond.code yX4_back cX4_back 2 (some .int), Cond.methodLink RL 133 yX5_back, Cond.instanceMethod yX5_back, Cond.selects RX5 yX5_back yX5_back, Cond.code yX5_back cX5_back 3 (some .int), Cond.methodLink RL 134 yX4_count, Cond.instanceMethod yX4_count, Cond.selects RX4 yX4_count yX4_count, Cond.code yX4_count cX4_count 2 (some .int), Cond.fieldLink RX4 241 "WindPost$Chart" "wide" "I", Cond.fieldLink RX4 244 "WindPost$Chart" "high" "I", Cond.fieldLink RX4 247 "WindPost$Chart" "hills" "I", Cond.methodLink RL 137 yX5_count, Cond.instanceMethod yX5_count, Cond.selects RX5 yX5_count yX5_count, Cond.code yX5_count cX5_count 2 (some .int), Cond.methodLink RL 138 yX4_trace, Cond.instanceMethod yX4_trace, Cond.selects RX4 yX4_trace yX4_trace, Cond.code yX4_trace cX4_trace 1 (some .long), Cond.methodLink RL 142 yX5_trace, Cond.instanceMethod yX5_trace]
def wsL_law_r32 : List Cond := [Cond.selects RX5 yX5_trace yX5_trace, Cond.code yX5_trace cX5_trace 1 (some .long)]
def wsL_law : List Cond := (wsL_law_r1 ++ (wsL_law_r2 ++ (wsL_law_r3 ++ (wsL_law_r4 ++ (wsL_law_r5 ++ (wsL_law_r6 ++ (wsL_law_r7 ++ (wsL_law_r8 ++ (wsL_law_r9 ++ (wsL_law_r10 ++ (wsL_law_r11 ++ (wsL_law_r12 ++ (wsL_law_r13 ++ (wsL_law_r14 ++ (wsL_law_r15 ++ (wsL_law_r16 ++ (wsL_law_r17 ++ (wsL_law_r18 ++ (wsL_law_r19 ++ (wsL_law_r20 ++ (wsL_law_r21 ++ (wsL_law_r22 ++ (wsL_law_r23 ++ (wsL_law_r24 ++ (wsL_law_r25 ++ (wsL_law_r26 ++ (wsL_law_r27 ++ (wsL_law_r28 ++ (wsL_law_r29 ++ (wsL_law_r30 ++ (wsL_law_r31 ++ wsL_law_r32))))))))))))))))))))))))))))))) ++ wsX40 ++ wsX50 ++ wsX30 ++ wsX00 ++ wsX20 ++ wsX10 ++ ([] : List Cond)
set_option maxRecDepth 20000 in
theorem wsL_law_in : ∀ w ∈ wsL_law, w ∈ lw_tbl := fun w h => (goodIn_p wsL_law [67, 70, 75, 108, 113, 117, 121, 124, 128, 132, 136, 188, 195, 632, 296, 299, 303, 704, 707, 307, 711, 311, 315, 320, 323, 327, 331, 335, 339, 344, 348, 354, 358, 362, 366, 370, 374, 379, 715, 719, 723, 727, 731, 735, 739, 743, 747, 751, 755, 383, 387, 390, 759, 763, 394, 767, 771, 775, 399, 403, 406, 779, 783, 410, 414, 787, 791, 418, 422, 795, 426, 430, 433, 437, 441, 445, 450, 454, 799, 803, 807, 811, 458, 462, 466, 815, 819, 823, 472, 827, 476, 831, 480, 835, 484, 488, 493, 839, 843, 847, 497, 501, 504, 851, 855, 508, 859, 512, 863, 516, 867, 520, 524, 871, 875, 879, 528, 883, 532, 536, 540, 887, 544, 547, 891, 894, 554, 558, 898, 562, 902, 566, 906, 571, 575, 578, 911, 914, 917, 582, 586, 590, 595, 600, 605, 610, 921, 615, 930, 619, 934, 623, 938, 627, 942] (by decide +kernel) (by decide +kernel) w h).1
theorem inlX0 : ∀ w ∈ wsX00, w ∈ wsL_law := fun _ h => List.mem_append_left _ (List.mem_append_left _ (List.mem_append_left _ (List.mem_append_right _ h)))
theorem inX0 : ∀ w ∈ wsX00, w ∈ lw_tbl := fun w h => wsL_law_in w (inlX0 w h)
theorem inlX1 : ∀ w ∈ wsX10, w ∈ wsL_law := fun _ h => List.mem_append_left _ (List.mem_append_right _ h)
theorem inX1 : ∀ w ∈ wsX10, w ∈ lw_tbl := fun w h => wsL_law_in w (inlX1 w h)
theorem inlX2 : ∀ w ∈ wsX20, w ∈ wsL_law := fun _ h => List.mem_append_left _ (List.mem_append_left _ (List.mem_append_right _ h))
theorem inX2 : ∀ w ∈ wsX20, w ∈ lw_tbl := fun w h => wsL_law_in w (inlX2 w h)
theorem inlX3 : ∀ w ∈ wsX30, w ∈ wsL_law := fun _ h => List.mem_append_left _ (List.mem_append_left _ (List.mem_append_left _ (List.mem_append_left _ (List.mem_append_right _ h))))
theorem inX3 : ∀ w ∈ wsX30, w ∈ lw_tbl := fun w h => wsL_law_in w (inlX3 w h)
theorem inlX4 : ∀ w ∈ wsX40, w ∈ wsL_law := fun _ h => List.mem_append_left _ (List.mem_append_left _ (List.mem_append_left _ (List.mem_append_left _ (List.mem_append_left _ (List.mem_append_left _ (List.mem_append_right _ h))))))
theorem inX4 : ∀ w ∈ wsX40, w ∈ lw_tbl := fun w h => wsL_law_in w (inlX4 w h)
theorem inlX5 : ∀ w ∈ wsX50, w ∈ wsL_law := fun _ h => List.mem_append_left _ (List.mem_append_left _ (List.mem_append_left _ (List.mem_append_left _ (List.mem_append_left _ (List.mem_append_right _ h)))))
theorem inX5 : ∀ w ∈ wsX50, w ∈ lw_tbl := fun w h => wsL_law_in w (inlX5 w h)
theorem inJ6 : ∀ w ∈ wsJ60, w ∈ lw_tbl := by decide +kernel
theorem inJ9 : ∀ w ∈ wsJ90, w ∈ lw_tbl := by decide +kernel
set_option maxRecDepth 20000 in
theorem ggX0_init_X0_untell : GoodIn wsX0_init wsX0_untell := goodIn_r _ [13, 14, 15, 16, 17, 18, 19, 6, 44, 45, 46, 47, 48, 49, 50, 51, 52, 53] (by decide +kernel) (by decide +kernel)
set_option maxRecDepth 20000 in
theorem gX0_init_X0_untell : GoodIn wsX0_init (wsV RX0 24 RX0 yX0_untell wsX0_untell) := goodIn_app (goodIn_of _ (by decide +kernel)) ggX0_init_X0_untell
set_option maxRecDepth 20000 in
theorem ggX0_init_X0_drawEnds : GoodIn wsX0_init wsX0_drawEnds := goodIn_r _ [23, 24, 25, 26, 12, 27, 14, 15, 28, 29, 30, 31, 32, 33, 34, 35, 8, 36, 37, 38, 39, 40, 41, 42, 43, 6, 44, 45, 46, 47, 48, 49, 50, 51, 52, 53] (by decide +kernel) (by decide +kernel)
set_option maxRecDepth 20000 in
theorem gX0_init_X0_drawEnds : GoodIn wsX0_init (wsV RX0 27 RX0 yX0_drawEnds wsX0_drawEnds) := goodIn_app (goodIn_of _ (by decide +kernel)) ggX0_init_X0_drawEnds
theorem dX0_init_0 : decode cX0_init 0 = .ok (.aload_n 0, 1) := by decide +kernel
theorem dX0_init_1 : decode cX0_init 1 = .ok (.invokespecial 3, 3) := by decide +kernel
theorem dX0_init_4 : decode cX0_init 4 = .ok (.aload_n 0, 1) := by decide +kernel
theorem dX0_init_5 : decode cX0_init 5 = .ok (.bipush 6, 2) := by decide +kernel
theorem dX0_init_7 : decode cX0_init 7 = .ok (.newarray .int, 2) := by decide +kernel
theorem dX0_init_9 : decode cX0_init 9 = .ok (.putfield 9, 3) := by decide +kernel
theorem dX0_init_12 : decode cX0_init 12 = .ok (.aload_n 0, 1) := by decide +kernel
theorem dX0_init_13 : decode cX0_init 13 = .ok (.bipush 30, 2) := by decide +kernel
theorem dX0_init_15 : decode cX0_init 15 = .ok (.newarray .int, 2) := by decide +kernel
theorem dX0_init_17 : decode cX0_init 17 = .ok (.putfield 15, 3) := by decide +kernel
theorem dX0_init_20 : decode cX0_init 20 = .ok (.aload_n 0, 1) := by decide +kernel
theorem dX0_init_21 : decode cX0_init 21 = .ok (.bipush 12, 2) := by decide +kernel
theorem dX0_init_23 : decode cX0_init 23 = .ok (.newarray .int, 2) := by decide +kernel
theorem dX0_init_25 : decode cX0_init 25 = .ok (.putfield 18, 3) := by decide +kernel
theorem dX0_init_28 : decode cX0_init 28 = .ok (.aload_n 0, 1) := by decide +kernel
theorem dX0_init_29 : decode cX0_init 29 = .ok (.sipush 600, 3) := by decide +kernel
theorem dX0_init_32 : decode cX0_init 32 = .ok (.newarray .int, 2) := by decide +kernel
theorem dX0_init_34 : decode cX0_init 34 = .ok (.putfield 21, 3) := by decide +kernel
theorem dX0_init_37 : decode cX0_init 37 = .ok (.aload_n 0, 1) := by decide +kernel
theorem dX0_init_38 : decode cX0_init 38 = .ok (.invokevirtual 24, 3) := by decide +kernel
theorem dX0_init_41 : decode cX0_init 41 = .ok (.aload_n 0, 1) := by decide +kernel
theorem dX0_init_42 : decode cX0_init 42 = .ok (.invokevirtual 27, 3) := by decide +kernel
theorem dX0_init_45 : decode cX0_init 45 = .ok (.return_, 1) := by decide +kernel
theorem dX0_untell_0 : decode cX0_untell 0 = .ok (.aload_n 0, 1) := by decide +kernel
theorem dX0_untell_1 : decode cX0_untell 1 = .ok (.iconst 4, 1) := by decide +kernel
theorem dX0_untell_2 : decode cX0_untell 2 = .ok (.putfield 30, 3) := by decide +kernel
theorem dX0_untell_5 : decode cX0_untell 5 = .ok (.aload_n 0, 1) := by decide +kernel
theorem dX0_untell_6 : decode cX0_untell 6 = .ok (.iconst 4, 1) := by decide +kernel
theorem dX0_untell_7 : decode cX0_untell 7 = .ok (.putfield 34, 3) := by decide +kernel
theorem dX0_untell_10 : decode cX0_untell 10 = .ok (.aload_n 0, 1) := by decide +kernel
theorem dX0_untell_11 : decode cX0_untell 11 = .ok (.iconst 3, 1) := by decide +kernel
theorem dX0_untell_12 : decode cX0_untell 12 = .ok (.putfield 37, 3) := by decide +kernel
theorem dX0_untell_15 : decode cX0_untell 15 = .ok (.aload_n 0, 1) := by decide +kernel
theorem dX0_untell_16 : decode cX0_untell 16 = .ok (.iconst 0, 1) := by decide +kernel
theorem dX0_untell_17 : decode cX0_untell 17 = .ok (.putfield 40, 3) := by decide +kernel
theorem dX0_untell_20 : decode cX0_untell 20 = .ok (.aload_n 0, 1) := by decide +kernel
theorem dX0_untell_21 : decode cX0_untell 21 = .ok (.iconst 0, 1) := by decide +kernel
theorem dX0_untell_22 : decode cX0_untell 22 = .ok (.putfield 43, 3) := by decide +kernel
theorem dX0_untell_25 : decode cX0_untell 25 = .ok (.aload_n 0, 1) := by decide +kernel
theorem dX0_untell_26 : decode cX0_untell 26 = .ok (.iconst 0, 1) := by decide +kernel
theorem dX0_untell_27 : decode cX0_untell 27 = .ok (.putfield 46, 3) := by decide +kernel
theorem dX0_untell_30 : decode cX0_untell 30 = .ok (.iconst 0, 1) := by decide +kernel
theorem dX0_untell_31 : decode cX0_untell 31 = .ok (.istore_n 1, 1) := by decide +kernel
theorem dX0_untell_32 : decode cX0_untell 32 = .ok (.iload_n 1, 1) := by decide +kernel
theorem dX0_untell_33 : decode cX0_untell 33 = .ok (.bipush 30, 2) := by decide +kernel
theorem dX0_untell_35 : decode cX0_untell 35 = .ok (.if_icmp .ge 17, 3) := by decide +kernel
theorem dX0_untell_38 : decode cX0_untell 38 = .ok (.aload_n 0, 1) := by decide +kernel
theorem dX0_untell_39 : decode cX0_untell 39 = .ok (.getfield 15, 3) := by decide +kernel
theorem dX0_untell_42 : decode cX0_untell 42 = .ok (.iload_n 1, 1) := by decide +kernel
theorem dX0_untell_43 : decode cX0_untell 43 = .ok (.bipush (-9), 2) := by decide +kernel
theorem dX0_untell_45 : decode cX0_untell 45 = .ok (.iastore, 1) := by decide +kernel
theorem dX0_untell_46 : decode cX0_untell 46 = .ok (.iinc 1 1, 3) := by decide +kernel
theorem dX0_untell_49 : decode cX0_untell 49 = .ok (.goto (-17), 3) := by decide +kernel
theorem dX0_untell_52 : decode cX0_untell 52 = .ok (.return_, 1) := by decide +kernel
theorem dX0_cells_0 : decode cX0_cells 0 = .ok (.aload_n 0, 1) := by decide +kernel
theorem dX0_cells_1 : decode cX0_cells 1 = .ok (.getfield 30, 3) := by decide +kernel
theorem dX0_cells_4 : decode cX0_cells 4 = .ok (.aload_n 0, 1) := by decide +kernel
theorem dX0_cells_5 : decode cX0_cells 5 = .ok (.getfield 34, 3) := by decide +kernel
theorem dX0_cells_8 : decode cX0_cells 8 = .ok (.imul, 1) := by decide +kernel
theorem dX0_cells_9 : decode cX0_cells 9 = .ok (.bipush 30, 2) := by decide +kernel
theorem dX0_cells_11 : decode cX0_cells 11 = .ok (.invokestatic 49, 3) := by decide +kernel
theorem dX0_cells_14 : decode cX0_cells 14 = .ok (.ireturn, 1) := by decide +kernel
theorem dX0_cellOfIsle_0 : decode cX0_cellOfIsle 0 = .ok (.iload_n 1, 1) := by decide +kernel
theorem dX0_cellOfIsle_1 : decode cX0_cellOfIsle 1 = .ok (.ifCond .lt 18, 3) := by decide +kernel
theorem dX0_cellOfIsle_4 : decode cX0_cellOfIsle 4 = .ok (.iload_n 1, 1) := by decide +kernel
theorem dX0_cellOfIsle_5 : decode cX0_cellOfIsle 5 = .ok (.bipush 6, 2) := by decide +kernel
theorem dX0_cellOfIsle_7 : decode cX0_cellOfIsle 7 = .ok (.if_icmp .ge 12, 3) := by decide +kernel
theorem dX0_cellOfIsle_10 : decode cX0_cellOfIsle 10 = .ok (.aload_n 0, 1) := by decide +kernel
theorem dX0_cellOfIsle_11 : decode cX0_cellOfIsle 11 = .ok (.getfield 9, 3) := by decide +kernel
theorem dX0_cellOfIsle_14 : decode cX0_cellOfIsle 14 = .ok (.iload_n 1, 1) := by decide +kernel
theorem dX0_cellOfIsle_15 : decode cX0_cellOfIsle 15 = .ok (.iaload, 1) := by decide +kernel
theorem dX0_cellOfIsle_16 : decode cX0_cellOfIsle 16 = .ok (.goto 4, 3) := by decide +kernel
theorem dX0_cellOfIsle_19 : decode cX0_cellOfIsle 19 = .ok (.iconst 0, 1) := by decide +kernel
theorem dX0_cellOfIsle_20 : decode cX0_cellOfIsle 20 = .ok (.ireturn, 1) := by decide +kernel
theorem dX0_onCell_0 : decode cX0_onCell 0 = .ok (.iload_n 1, 1) := by decide +kernel
theorem dX0_onCell_1 : decode cX0_onCell 1 = .ok (.ifCond .lt 18, 3) := by decide +kernel
theorem dX0_onCell_4 : decode cX0_onCell 4 = .ok (.iload_n 1, 1) := by decide +kernel
theorem dX0_onCell_5 : decode cX0_onCell 5 = .ok (.bipush 30, 2) := by decide +kernel
theorem dX0_onCell_7 : decode cX0_onCell 7 = .ok (.if_icmp .ge 12, 3) := by decide +kernel
theorem dX0_onCell_10 : decode cX0_onCell 10 = .ok (.aload_n 0, 1) := by decide +kernel
theorem dX0_onCell_11 : decode cX0_onCell 11 = .ok (.getfield 15, 3) := by decide +kernel
theorem dX0_onCell_14 : decode cX0_onCell 14 = .ok (.iload_n 1, 1) := by decide +kernel
theorem dX0_onCell_15 : decode cX0_onCell 15 = .ok (.iaload, 1) := by decide +kernel
theorem dX0_onCell_16 : decode cX0_onCell 16 = .ok (.goto 5, 3) := by decide +kernel
theorem dX0_onCell_19 : decode cX0_onCell 19 = .ok (.bipush (-9), 2) := by decide +kernel
theorem dX0_onCell_21 : decode cX0_onCell 21 = .ok (.ireturn, 1) := by decide +kernel
theorem dX0_addIsle_0 : decode cX0_addIsle 0 = .ok (.aload_n 0, 1) := by decide +kernel
theorem dX0_addIsle_1 : decode cX0_addIsle 1 = .ok (.getfield 40, 3) := by decide +kernel
theorem dX0_addIsle_4 : decode cX0_addIsle 4 = .ok (.bipush 6, 2) := by decide +kernel
theorem dX0_addIsle_6 : decode cX0_addIsle 6 = .ok (.if_icmp .ge 13, 3) := by decide +kernel
theorem dX0_addIsle_9 : decode cX0_addIsle 9 = .ok (.iload_n 1, 1) := by decide +kernel
theorem dX0_addIsle_10 : decode cX0_addIsle 10 = .ok (.ifCond .lt 9, 3) := by decide +kernel
theorem dX0_addIsle_13 : decode cX0_addIsle 13 = .ok (.iload_n 1, 1) := by decide +kernel
theorem dX0_addIsle_14 : decode cX0_addIsle 14 = .ok (.bipush 30, 2) := by decide +kernel
theorem dX0_addIsle_16 : decode cX0_addIsle 16 = .ok (.if_icmp .lt 4, 3) := by decide +kernel
theorem dX0_addIsle_19 : decode cX0_addIsle 19 = .ok (.return_, 1) := by decide +kernel
theorem dX0_addIsle_20 : decode cX0_addIsle 20 = .ok (.aload_n 0, 1) := by decide +kernel
theorem dX0_addIsle_21 : decode cX0_addIsle 21 = .ok (.getfield 9, 3) := by decide +kernel
theorem dX0_addIsle_24 : decode cX0_addIsle 24 = .ok (.aload_n 0, 1) := by decide +kernel
theorem dX0_addIsle_25 : decode cX0_addIsle 25 = .ok (.getfield 40, 3) := by decide +kernel
theorem dX0_addIsle_28 : decode cX0_addIsle 28 = .ok (.iload_n 1, 1) := by decide +kernel
theorem dX0_addIsle_29 : decode cX0_addIsle 29 = .ok (.iastore, 1) := by decide +kernel
theorem dX0_addIsle_30 : decode cX0_addIsle 30 = .ok (.aload_n 0, 1) := by decide +kernel
theorem dX0_addIsle_31 : decode cX0_addIsle 31 = .ok (.getfield 15, 3) := by decide +kernel
theorem dX0_addIsle_34 : decode cX0_addIsle 34 = .ok (.iload_n 1, 1) := by decide +kernel
theorem dX0_addIsle_35 : decode cX0_addIsle 35 = .ok (.aload_n 0, 1) := by decide +kernel
theorem dX0_addIsle_36 : decode cX0_addIsle 36 = .ok (.getfield 40, 3) := by decide +kernel
theorem dX0_addIsle_39 : decode cX0_addIsle 39 = .ok (.iastore, 1) := by decide +kernel
theorem dX0_addIsle_40 : decode cX0_addIsle 40 = .ok (.aload_n 0, 1) := by decide +kernel
theorem dX0_addIsle_41 : decode cX0_addIsle 41 = .ok (.dup, 1) := by decide +kernel
theorem dX0_addIsle_42 : decode cX0_addIsle 42 = .ok (.getfield 40, 3) := by decide +kernel
theorem dX0_addIsle_45 : decode cX0_addIsle 45 = .ok (.iconst 1, 1) := by decide +kernel
theorem dX0_addIsle_46 : decode cX0_addIsle 46 = .ok (.iadd, 1) := by decide +kernel
theorem dX0_addIsle_47 : decode cX0_addIsle 47 = .ok (.putfield 40, 3) := by decide +kernel
theorem dX0_addIsle_50 : decode cX0_addIsle 50 = .ok (.return_, 1) := by decide +kernel
theorem dX0_addHill_0 : decode cX0_addHill 0 = .ok (.iload_n 1, 1) := by decide +kernel
theorem dX0_addHill_1 : decode cX0_addHill 1 = .ok (.ifCond .lt 9, 3) := by decide +kernel
theorem dX0_addHill_4 : decode cX0_addHill 4 = .ok (.iload_n 1, 1) := by decide +kernel
theorem dX0_addHill_5 : decode cX0_addHill 5 = .ok (.bipush 30, 2) := by decide +kernel
theorem dX0_addHill_7 : decode cX0_addHill 7 = .ok (.if_icmp .lt 4, 3) := by decide +kernel
theorem dX0_addHill_10 : decode cX0_addHill 10 = .ok (.return_, 1) := by decide +kernel
theorem dX0_addHill_11 : decode cX0_addHill 11 = .ok (.aload_n 0, 1) := by decide +kernel
theorem dX0_addHill_12 : decode cX0_addHill 12 = .ok (.getfield 15, 3) := by decide +kernel
theorem dX0_addHill_15 : decode cX0_addHill 15 = .ok (.iload_n 1, 1) := by decide +kernel
theorem dX0_addHill_16 : decode cX0_addHill 16 = .ok (.bipush (-5), 2) := by decide +kernel
theorem dX0_addHill_18 : decode cX0_addHill 18 = .ok (.iastore, 1) := by decide +kernel
theorem dX0_addHill_19 : decode cX0_addHill 19 = .ok (.aload_n 0, 1) := by decide +kernel
theorem dX0_addHill_20 : decode cX0_addHill 20 = .ok (.dup, 1) := by decide +kernel
theorem dX0_addHill_21 : decode cX0_addHill 21 = .ok (.getfield 43, 3) := by decide +kernel
theorem dX0_addHill_24 : decode cX0_addHill 24 = .ok (.iconst 1, 1) := by decide +kernel
theorem dX0_addHill_25 : decode cX0_addHill 25 = .ok (.iadd, 1) := by decide +kernel
theorem dX0_addHill_26 : decode cX0_addHill 26 = .ok (.putfield 43, 3) := by decide +kernel
theorem dX0_addHill_29 : decode cX0_addHill 29 = .ok (.return_, 1) := by decide +kernel
theorem dX0_addWind_0 : decode cX0_addWind 0 = .ok (.aload_n 0, 1) := by decide +kernel
theorem dX0_addWind_1 : decode cX0_addWind 1 = .ok (.getfield 46, 3) := by decide +kernel
theorem dX0_addWind_4 : decode cX0_addWind 4 = .ok (.bipush 12, 2) := by decide +kernel
theorem dX0_addWind_6 : decode cX0_addWind 6 = .ok (.if_icmp .lt 4, 3) := by decide +kernel
theorem dX0_addWind_9 : decode cX0_addWind 9 = .ok (.return_, 1) := by decide +kernel
theorem dX0_addWind_10 : decode cX0_addWind 10 = .ok (.aload_n 0, 1) := by decide +kernel
theorem dX0_addWind_11 : decode cX0_addWind 11 = .ok (.getfield 18, 3) := by decide +kernel
theorem dX0_addWind_14 : decode cX0_addWind 14 = .ok (.aload_n 0, 1) := by decide +kernel
theorem dX0_addWind_15 : decode cX0_addWind 15 = .ok (.getfield 46, 3) := by decide +kernel
theorem dX0_addWind_18 : decode cX0_addWind 18 = .ok (.iload_n 1, 1) := by decide +kernel
theorem dX0_addWind_19 : decode cX0_addWind 19 = .ok (.iastore, 1) := by decide +kernel
theorem dX0_addWind_20 : decode cX0_addWind 20 = .ok (.aload_n 0, 1) := by decide +kernel
theorem dX0_addWind_21 : decode cX0_addWind 21 = .ok (.dup, 1) := by decide +kernel
theorem dX0_addWind_22 : decode cX0_addWind 22 = .ok (.getfield 46, 3) := by decide +kernel
theorem dX0_addWind_25 : decode cX0_addWind 25 = .ok (.iconst 1, 1) := by decide +kernel
theorem dX0_addWind_26 : decode cX0_addWind 26 = .ok (.iadd, 1) := by decide +kernel
theorem dX0_addWind_27 : decode cX0_addWind 27 = .ok (.putfield 46, 3) := by decide +kernel
theorem dX0_addWind_30 : decode cX0_addWind 30 = .ok (.return_, 1) := by decide +kernel
set_option maxRecDepth 20000 in
theorem ggX0_drawEnds_X0_cells : GoodIn wsX0_drawEnds wsX0_cells := goodIn_r _ [5, 6, 7, 8, 9, 10, 11, 26, 27, 28, 29, 30, 31, 32, 33, 34, 35] (by decide +kernel) (by decide +kernel)
set_option maxRecDepth 20000 in
theorem gX0_drawEnds_X0_cells : GoodIn wsX0_drawEnds (wsV RX0 55 RX0 yX0_cells wsX0_cells) := goodIn_app (goodIn_of _ (by decide +kernel)) ggX0_drawEnds_X0_cells
set_option maxRecDepth 20000 in
theorem ggX0_drawEnds_X0_drawWay : GoodIn wsX0_drawEnds wsX0_drawWay := goodIn_r _ [15, 16, 17, 18, 19, 4, 20, 6, 7, 21, 22, 23, 24, 25, 26, 27, 28, 29, 30, 31, 32, 33, 34, 35] (by decide +kernel) (by decide +kernel)
set_option maxRecDepth 20000 in
theorem gX0_drawEnds_X0_drawWay : GoodIn wsX0_drawEnds (wsV RX0 59 RX0 yX0_drawWay wsX0_drawWay) := goodIn_app (goodIn_of _ (by decide +kernel)) ggX0_drawEnds_X0_drawWay
theorem dX0_drawEnds_0 : decode cX0_drawEnds 0 = .ok (.iconst 0, 1) := by decide +kernel
theorem dX0_drawEnds_1 : decode cX0_drawEnds 1 = .ok (.istore_n 1, 1) := by decide +kernel
theorem dX0_drawEnds_2 : decode cX0_drawEnds 2 = .ok (.iload_n 1, 1) := by decide +kernel
theorem dX0_drawEnds_3 : decode cX0_drawEnds 3 = .ok (.iconst 4, 1) := by decide +kernel
theorem dX0_drawEnds_4 : decode cX0_drawEnds 4 = .ok (.if_icmp .ge 31, 3) := by decide +kernel
theorem dX0_drawEnds_7 : decode cX0_drawEnds 7 = .ok (.iconst 0, 1) := by decide +kernel
theorem dX0_drawEnds_8 : decode cX0_drawEnds 8 = .ok (.istore_n 2, 1) := by decide +kernel
theorem dX0_drawEnds_9 : decode cX0_drawEnds 9 = .ok (.iload_n 2, 1) := by decide +kernel
theorem dX0_drawEnds_10 : decode cX0_drawEnds 10 = .ok (.aload_n 0, 1) := by decide +kernel
theorem dX0_drawEnds_11 : decode cX0_drawEnds 11 = .ok (.invokevirtual 55, 3) := by decide +kernel
theorem dX0_drawEnds_14 : decode cX0_drawEnds 14 = .ok (.if_icmp .ge 15, 3) := by decide +kernel
theorem dX0_drawEnds_17 : decode cX0_drawEnds 17 = .ok (.aload_n 0, 1) := by decide +kernel
theorem dX0_drawEnds_18 : decode cX0_drawEnds 18 = .ok (.iload_n 1, 1) := by decide +kernel
theorem dX0_drawEnds_19 : decode cX0_drawEnds 19 = .ok (.iload_n 2, 1) := by decide +kernel
theorem dX0_drawEnds_20 : decode cX0_drawEnds 20 = .ok (.invokevirtual 59, 3) := by decide +kernel
theorem dX0_drawEnds_23 : decode cX0_drawEnds 23 = .ok (.iinc 2 1, 3) := by decide +kernel
theorem dX0_drawEnds_26 : decode cX0_drawEnds 26 = .ok (.goto (-17), 3) := by decide +kernel
theorem dX0_drawEnds_29 : decode cX0_drawEnds 29 = .ok (.iinc 1 1, 3) := by decide +kernel
theorem dX0_drawEnds_32 : decode cX0_drawEnds 32 = .ok (.goto (-30), 3) := by decide +kernel
theorem dX0_drawEnds_35 : decode cX0_drawEnds 35 = .ok (.return_, 1) := by decide +kernel
set_option maxRecDepth 20000 in
theorem ggX0_drawWay_X0_beside : GoodIn wsX0_drawWay wsX0_beside := goodIn_r _ [6, 7, 8, 14, 15, 16, 17, 18, 19, 20, 21, 22, 23] (by decide +kernel) (by decide +kernel)
set_option maxRecDepth 20000 in
theorem gX0_drawWay_X0_beside : GoodIn wsX0_drawWay (wsV RX0 63 RX0 yX0_beside wsX0_beside) := goodIn_app (goodIn_of _ (by decide +kernel)) ggX0_drawWay_X0_beside
set_option maxRecDepth 20000 in
theorem ggX0_drawWay_X0_onCell : GoodIn wsX0_drawWay wsX0_onCell := goodIn_r _ [12, 13, 14, 15, 16, 17, 18, 19, 20, 21, 22, 23] (by decide +kernel) (by decide +kernel)
set_option maxRecDepth 20000 in
theorem gX0_drawWay_X0_onCell : GoodIn wsX0_drawWay (wsV RX0 66 RX0 yX0_onCell wsX0_onCell) := goodIn_app (goodIn_of _ (by decide +kernel)) ggX0_drawWay_X0_onCell
theorem dX0_drawWay_0 : decode cX0_drawWay 0 = .ok (.iload_n 2, 1) := by decide +kernel
theorem dX0_drawWay_1 : decode cX0_drawWay 1 = .ok (.istore_n 3, 1) := by decide +kernel
theorem dX0_drawWay_2 : decode cX0_drawWay 2 = .ok (.iconst (-1), 1) := by decide +kernel
theorem dX0_drawWay_3 : decode cX0_drawWay 3 = .ok (.istore 4, 2) := by decide +kernel
theorem dX0_drawWay_5 : decode cX0_drawWay 5 = .ok (.iconst 1, 1) := by decide +kernel
theorem dX0_drawWay_6 : decode cX0_drawWay 6 = .ok (.istore 5, 2) := by decide +kernel
theorem dX0_drawWay_8 : decode cX0_drawWay 8 = .ok (.iload 5, 2) := by decide +kernel
theorem dX0_drawWay_10 : decode cX0_drawWay 10 = .ok (.iconst 5, 1) := by decide +kernel
theorem dX0_drawWay_11 : decode cX0_drawWay 11 = .ok (.if_icmp .gt 55, 3) := by decide +kernel
theorem dX0_drawWay_14 : decode cX0_drawWay 14 = .ok (.aload_n 0, 1) := by decide +kernel
theorem dX0_drawWay_15 : decode cX0_drawWay 15 = .ok (.iload_n 3, 1) := by decide +kernel
theorem dX0_drawWay_16 : decode cX0_drawWay 16 = .ok (.iload_n 1, 1) := by decide +kernel
theorem dX0_drawWay_17 : decode cX0_drawWay 17 = .ok (.invokevirtual 63, 3) := by decide +kernel
theorem dX0_drawWay_20 : decode cX0_drawWay 20 = .ok (.istore 6, 2) := by decide +kernel
theorem dX0_drawWay_22 : decode cX0_drawWay 22 = .ok (.aload_n 0, 1) := by decide +kernel
theorem dX0_drawWay_23 : decode cX0_drawWay 23 = .ok (.iload 6, 2) := by decide +kernel
theorem dX0_drawWay_25 : decode cX0_drawWay 25 = .ok (.invokevirtual 66, 3) := by decide +kernel
theorem dX0_drawWay_28 : decode cX0_drawWay 28 = .ok (.bipush (-5), 2) := by decide +kernel
theorem dX0_drawWay_30 : decode cX0_drawWay 30 = .ok (.if_icmp .eq 10, 3) := by decide +kernel
theorem dX0_drawWay_33 : decode cX0_drawWay 33 = .ok (.iload 6, 2) := by decide +kernel
theorem dX0_drawWay_35 : decode cX0_drawWay 35 = .ok (.istore_n 3, 1) := by decide +kernel
theorem dX0_drawWay_36 : decode cX0_drawWay 36 = .ok (.iload 6, 2) := by decide +kernel
theorem dX0_drawWay_38 : decode cX0_drawWay 38 = .ok (.istore 4, 2) := by decide +kernel
theorem dX0_drawWay_40 : decode cX0_drawWay 40 = .ok (.aload_n 0, 1) := by decide +kernel
theorem dX0_drawWay_41 : decode cX0_drawWay 41 = .ok (.getfield 21, 3) := by decide +kernel
theorem dX0_drawWay_44 : decode cX0_drawWay 44 = .ok (.iload 5, 2) := by decide +kernel
theorem dX0_drawWay_46 : decode cX0_drawWay 46 = .ok (.iconst 1, 1) := by decide +kernel
theorem dX0_drawWay_47 : decode cX0_drawWay 47 = .ok (.isub, 1) := by decide +kernel
theorem dX0_drawWay_48 : decode cX0_drawWay 48 = .ok (.iconst 4, 1) := by decide +kernel
theorem dX0_drawWay_49 : decode cX0_drawWay 49 = .ok (.imul, 1) := by decide +kernel
theorem dX0_drawWay_50 : decode cX0_drawWay 50 = .ok (.iload_n 1, 1) := by decide +kernel
theorem dX0_drawWay_51 : decode cX0_drawWay 51 = .ok (.iadd, 1) := by decide +kernel
theorem dX0_drawWay_52 : decode cX0_drawWay 52 = .ok (.bipush 30, 2) := by decide +kernel
theorem dX0_drawWay_54 : decode cX0_drawWay 54 = .ok (.imul, 1) := by decide +kernel
theorem dX0_drawWay_55 : decode cX0_drawWay 55 = .ok (.iload_n 2, 1) := by decide +kernel
theorem dX0_drawWay_56 : decode cX0_drawWay 56 = .ok (.iadd, 1) := by decide +kernel
theorem dX0_drawWay_57 : decode cX0_drawWay 57 = .ok (.iload 4, 2) := by decide +kernel
theorem dX0_drawWay_59 : decode cX0_drawWay 59 = .ok (.iastore, 1) := by decide +kernel
theorem dX0_drawWay_60 : decode cX0_drawWay 60 = .ok (.iinc 5 1, 3) := by decide +kernel
theorem dX0_drawWay_63 : decode cX0_drawWay 63 = .ok (.goto (-55), 3) := by decide +kernel
theorem dX0_drawWay_66 : decode cX0_drawWay 66 = .ok (.return_, 1) := by decide +kernel
theorem dX0_beside_0 : decode cX0_beside 0 = .ok (.aload_n 0, 1) := by decide +kernel
theorem dX0_beside_1 : decode cX0_beside 1 = .ok (.getfield 30, 3) := by decide +kernel
theorem dX0_beside_4 : decode cX0_beside 4 = .ok (.iconst 1, 1) := by decide +kernel
theorem dX0_beside_5 : decode cX0_beside 5 = .ok (.if_icmp .ge 5, 3) := by decide +kernel
theorem dX0_beside_8 : decode cX0_beside 8 = .ok (.iload_n 1, 1) := by decide +kernel
theorem dX0_beside_9 : decode cX0_beside 9 = .ok (.ireturn, 1) := by decide +kernel
theorem dX0_beside_10 : decode cX0_beside 10 = .ok (.aload_n 0, 1) := by decide +kernel
theorem dX0_beside_11 : decode cX0_beside 11 = .ok (.getfield 30, 3) := by decide +kernel
theorem dX0_beside_14 : decode cX0_beside 14 = .ok (.aload_n 0, 1) := by decide +kernel
theorem dX0_beside_15 : decode cX0_beside 15 = .ok (.getfield 34, 3) := by decide +kernel
theorem dX0_beside_18 : decode cX0_beside 18 = .ok (.imul, 1) := by decide +kernel
theorem dX0_beside_19 : decode cX0_beside 19 = .ok (.istore_n 3, 1) := by decide +kernel
theorem dX0_beside_20 : decode cX0_beside 20 = .ok (.iload_n 1, 1) := by decide +kernel
theorem dX0_beside_21 : decode cX0_beside 21 = .ok (.aload_n 0, 1) := by decide +kernel
theorem dX0_beside_22 : decode cX0_beside 22 = .ok (.getfield 30, 3) := by decide +kernel
theorem dX0_beside_25 : decode cX0_beside 25 = .ok (.irem, 1) := by decide +kernel
theorem dX0_beside_26 : decode cX0_beside 26 = .ok (.istore 4, 2) := by decide +kernel
theorem dX0_beside_28 : decode cX0_beside 28 = .ok (.iload_n 2, 1) := by decide +kernel
theorem dX0_beside_29 : decode cX0_beside 29 = .ok (.tableswitch 127 0 3 #[31, 57, 79, 107], 31) := by decide +kernel
theorem dX0_beside_60 : decode cX0_beside 60 = .ok (.iload_n 1, 1) := by decide +kernel
theorem dX0_beside_61 : decode cX0_beside 61 = .ok (.aload_n 0, 1) := by decide +kernel
theorem dX0_beside_62 : decode cX0_beside 62 = .ok (.getfield 30, 3) := by decide +kernel
theorem dX0_beside_65 : decode cX0_beside 65 = .ok (.if_icmp .lt 12, 3) := by decide +kernel
theorem dX0_beside_68 : decode cX0_beside 68 = .ok (.iload_n 1, 1) := by decide +kernel
theorem dX0_beside_69 : decode cX0_beside 69 = .ok (.aload_n 0, 1) := by decide +kernel
theorem dX0_beside_70 : decode cX0_beside 70 = .ok (.getfield 30, 3) := by decide +kernel
theorem dX0_beside_73 : decode cX0_beside 73 = .ok (.isub, 1) := by decide +kernel
theorem dX0_beside_74 : decode cX0_beside 74 = .ok (.goto 11, 3) := by decide +kernel
theorem dX0_beside_77 : decode cX0_beside 77 = .ok (.iload_n 1, 1) := by decide +kernel
theorem dX0_beside_78 : decode cX0_beside 78 = .ok (.aload_n 0, 1) := by decide +kernel
theorem dX0_beside_79 : decode cX0_beside 79 = .ok (.getfield 30, 3) := by decide +kernel
theorem dX0_beside_82 : decode cX0_beside 82 = .ok (.isub, 1) := by decide +kernel
theorem dX0_beside_83 : decode cX0_beside 83 = .ok (.iload_n 3, 1) := by decide +kernel
theorem dX0_beside_84 : decode cX0_beside 84 = .ok (.iadd, 1) := by decide +kernel
theorem dX0_beside_85 : decode cX0_beside 85 = .ok (.ireturn, 1) := by decide +kernel
theorem dX0_beside_86 : decode cX0_beside 86 = .ok (.iload 4, 2) := by decide +kernel
theorem dX0_beside_88 : decode cX0_beside 88 = .ok (.aload_n 0, 1) := by decide +kernel
theorem dX0_beside_89 : decode cX0_beside 89 = .ok (.getfield 30, 3) := by decide +kernel
theorem dX0_beside_92 : decode cX0_beside 92 = .ok (.iconst 1, 1) := by decide +kernel
theorem dX0_beside_93 : decode cX0_beside 93 = .ok (.isub, 1) := by decide +kernel
theorem dX0_beside_94 : decode cX0_beside 94 = .ok (.if_icmp .ge 9, 3) := by decide +kernel
theorem dX0_beside_97 : decode cX0_beside 97 = .ok (.iload_n 1, 1) := by decide +kernel
theorem dX0_beside_98 : decode cX0_beside 98 = .ok (.iconst 1, 1) := by decide +kernel
theorem dX0_beside_99 : decode cX0_beside 99 = .ok (.iadd, 1) := by decide +kernel
theorem dX0_beside_100 : decode cX0_beside 100 = .ok (.goto 7, 3) := by decide +kernel
theorem dX0_beside_103 : decode cX0_beside 103 = .ok (.iload_n 1, 1) := by decide +kernel
theorem dX0_beside_104 : decode cX0_beside 104 = .ok (.iload 4, 2) := by decide +kernel
theorem dX0_beside_106 : decode cX0_beside 106 = .ok (.isub, 1) := by decide +kernel
theorem dX0_beside_107 : decode cX0_beside 107 = .ok (.ireturn, 1) := by decide +kernel
theorem dX0_beside_108 : decode cX0_beside 108 = .ok (.iload_n 1, 1) := by decide +kernel
theorem dX0_beside_109 : decode cX0_beside 109 = .ok (.iload_n 3, 1) := by decide +kernel
theorem dX0_beside_110 : decode cX0_beside 110 = .ok (.aload_n 0, 1) := by decide +kernel
theorem dX0_beside_111 : decode cX0_beside 111 = .ok (.getfield 30, 3) := by decide +kernel
theorem dX0_beside_114 : decode cX0_beside 114 = .ok (.isub, 1) := by decide +kernel
theorem dX0_beside_115 : decode cX0_beside 115 = .ok (.if_icmp .ge 12, 3) := by decide +kernel
theorem dX0_beside_118 : decode cX0_beside 118 = .ok (.iload_n 1, 1) := by decide +kernel
theorem dX0_beside_119 : decode cX0_beside 119 = .ok (.aload_n 0, 1) := by decide +kernel
theorem dX0_beside_120 : decode cX0_beside 120 = .ok (.getfield 30, 3) := by decide +kernel
theorem dX0_beside_123 : decode cX0_beside 123 = .ok (.iadd, 1) := by decide +kernel
theorem dX0_beside_124 : decode cX0_beside 124 = .ok (.goto 11, 3) := by decide +kernel
theorem dX0_beside_127 : decode cX0_beside 127 = .ok (.iload_n 1, 1) := by decide +kernel
theorem dX0_beside_128 : decode cX0_beside 128 = .ok (.aload_n 0, 1) := by decide +kernel
theorem dX0_beside_129 : decode cX0_beside 129 = .ok (.getfield 30, 3) := by decide +kernel
theorem dX0_beside_132 : decode cX0_beside 132 = .ok (.iadd, 1) := by decide +kernel
theorem dX0_beside_133 : decode cX0_beside 133 = .ok (.iload_n 3, 1) := by decide +kernel
theorem dX0_beside_134 : decode cX0_beside 134 = .ok (.isub, 1) := by decide +kernel
theorem dX0_beside_135 : decode cX0_beside 135 = .ok (.ireturn, 1) := by decide +kernel
theorem dX0_beside_136 : decode cX0_beside 136 = .ok (.iload 4, 2) := by decide +kernel
theorem dX0_beside_138 : decode cX0_beside 138 = .ok (.ifCond .le 9, 3) := by decide +kernel
theorem dX0_beside_141 : decode cX0_beside 141 = .ok (.iload_n 1, 1) := by decide +kernel
theorem dX0_beside_142 : decode cX0_beside 142 = .ok (.iconst 1, 1) := by decide +kernel
theorem dX0_beside_143 : decode cX0_beside 143 = .ok (.isub, 1) := by decide +kernel
theorem dX0_beside_144 : decode cX0_beside 144 = .ok (.goto 11, 3) := by decide +kernel
theorem dX0_beside_147 : decode cX0_beside 147 = .ok (.iload_n 1, 1) := by decide +kernel
theorem dX0_beside_148 : decode cX0_beside 148 = .ok (.aload_n 0, 1) := by decide +kernel
theorem dX0_beside_149 : decode cX0_beside 149 = .ok (.getfield 30, 3) := by decide +kernel
theorem dX0_beside_152 : decode cX0_beside 152 = .ok (.iadd, 1) := by decide +kernel
theorem dX0_beside_153 : decode cX0_beside 153 = .ok (.iconst 1, 1) := by decide +kernel
theorem dX0_beside_154 : decode cX0_beside 154 = .ok (.isub, 1) := by decide +kernel
theorem dX0_beside_155 : decode cX0_beside 155 = .ok (.ireturn, 1) := by decide +kernel
theorem dX0_beside_156 : decode cX0_beside 156 = .ok (.iload_n 1, 1) := by decide +kernel
theorem dX0_beside_157 : decode cX0_beside 157 = .ok (.ireturn, 1) := by decide +kernel
theorem dX0_endOf_0 : decode cX0_endOf 0 = .ok (.iload_n 1, 1) := by decide +kernel
theorem dX0_endOf_1 : decode cX0_endOf 1 = .ok (.iconst 1, 1) := by decide +kernel
theorem dX0_endOf_2 : decode cX0_endOf 2 = .ok (.if_icmp .lt 17, 3) := by decide +kernel
theorem dX0_endOf_5 : decode cX0_endOf 5 = .ok (.iload_n 1, 1) := by decide +kernel
theorem dX0_endOf_6 : decode cX0_endOf 6 = .ok (.iconst 5, 1) := by decide +kernel
theorem dX0_endOf_7 : decode cX0_endOf 7 = .ok (.if_icmp .gt 12, 3) := by decide +kernel
theorem dX0_endOf_10 : decode cX0_endOf 10 = .ok (.iload_n 2, 1) := by decide +kernel
theorem dX0_endOf_11 : decode cX0_endOf 11 = .ok (.ifCond .lt 8, 3) := by decide +kernel
theorem dX0_endOf_14 : decode cX0_endOf 14 = .ok (.iload_n 2, 1) := by decide +kernel
theorem dX0_endOf_15 : decode cX0_endOf 15 = .ok (.iconst 4, 1) := by decide +kernel
theorem dX0_endOf_16 : decode cX0_endOf 16 = .ok (.if_icmp .lt 5, 3) := by decide +kernel
theorem dX0_endOf_19 : decode cX0_endOf 19 = .ok (.iconst (-1), 1) := by decide +kernel
theorem dX0_endOf_20 : decode cX0_endOf 20 = .ok (.ireturn, 1) := by decide +kernel
theorem dX0_endOf_21 : decode cX0_endOf 21 = .ok (.iload_n 3, 1) := by decide +kernel
theorem dX0_endOf_22 : decode cX0_endOf 22 = .ok (.ifCond .lt 9, 3) := by decide +kernel
theorem dX0_endOf_25 : decode cX0_endOf 25 = .ok (.iload_n 3, 1) := by decide +kernel
theorem dX0_endOf_26 : decode cX0_endOf 26 = .ok (.bipush 30, 2) := by decide +kernel
theorem dX0_endOf_28 : decode cX0_endOf 28 = .ok (.if_icmp .lt 5, 3) := by decide +kernel
theorem dX0_endOf_31 : decode cX0_endOf 31 = .ok (.iconst (-1), 1) := by decide +kernel
theorem dX0_endOf_32 : decode cX0_endOf 32 = .ok (.ireturn, 1) := by decide +kernel
theorem dX0_endOf_33 : decode cX0_endOf 33 = .ok (.aload_n 0, 1) := by decide +kernel
theorem dX0_endOf_34 : decode cX0_endOf 34 = .ok (.getfield 21, 3) := by decide +kernel
theorem dX0_endOf_37 : decode cX0_endOf 37 = .ok (.iload_n 1, 1) := by decide +kernel
theorem dX0_endOf_38 : decode cX0_endOf 38 = .ok (.iconst 1, 1) := by decide +kernel
theorem dX0_endOf_39 : decode cX0_endOf 39 = .ok (.isub, 1) := by decide +kernel
theorem dX0_endOf_40 : decode cX0_endOf 40 = .ok (.iconst 4, 1) := by decide +kernel
theorem dX0_endOf_41 : decode cX0_endOf 41 = .ok (.imul, 1) := by decide +kernel
theorem dX0_endOf_42 : decode cX0_endOf 42 = .ok (.iload_n 2, 1) := by decide +kernel
theorem dX0_endOf_43 : decode cX0_endOf 43 = .ok (.iadd, 1) := by decide +kernel
theorem dX0_endOf_44 : decode cX0_endOf 44 = .ok (.bipush 30, 2) := by decide +kernel
theorem dX0_endOf_46 : decode cX0_endOf 46 = .ok (.imul, 1) := by decide +kernel
theorem dX0_endOf_47 : decode cX0_endOf 47 = .ok (.iload_n 3, 1) := by decide +kernel
theorem dX0_endOf_48 : decode cX0_endOf 48 = .ok (.iadd, 1) := by decide +kernel
theorem dX0_endOf_49 : decode cX0_endOf 49 = .ok (.iaload, 1) := by decide +kernel
theorem dX0_endOf_50 : decode cX0_endOf 50 = .ok (.ireturn, 1) := by decide +kernel
theorem dX1_init_0 : decode cX1_init 0 = .ok (.aload_n 0, 1) := by decide +kernel
theorem dX1_init_1 : decode cX1_init 1 = .ok (.invokespecial 3, 3) := by decide +kernel
theorem dX1_init_4 : decode cX1_init 4 = .ok (.return_, 1) := by decide +kernel
set_option maxRecDepth 20000 in
theorem ggX1_letUp_X0_cellOfIsle : GoodIn wsX1_letUp wsX0_cellOfIsle := goodIn_r _ [13, 14, 22, 23, 24, 25, 26, 27, 28, 29, 30, 31] (by decide +kernel) (by decide +kernel)
set_option maxRecDepth 20000 in
theorem gX1_letUp_X0_cellOfIsle : GoodIn wsX1_letUp (wsV RX1 21 RX0 yX0_cellOfIsle wsX0_cellOfIsle) := goodIn_app (goodIn_of _ (by decide +kernel)) ggX1_letUp_X0_cellOfIsle
theorem dX1_letUp_0 : decode cX1_letUp 0 = .ok (.aload_n 0, 1) := by decide +kernel
theorem dX1_letUp_1 : decode cX1_letUp 1 = .ok (.iload 4, 2) := by decide +kernel
theorem dX1_letUp_3 : decode cX1_letUp 3 = .ok (.putfield 9, 3) := by decide +kernel
theorem dX1_letUp_6 : decode cX1_letUp 6 = .ok (.aload_n 0, 1) := by decide +kernel
theorem dX1_letUp_7 : decode cX1_letUp 7 = .ok (.iload_n 2, 1) := by decide +kernel
theorem dX1_letUp_8 : decode cX1_letUp 8 = .ok (.putfield 15, 3) := by decide +kernel
theorem dX1_letUp_11 : decode cX1_letUp 11 = .ok (.aload_n 0, 1) := by decide +kernel
theorem dX1_letUp_12 : decode cX1_letUp 12 = .ok (.iload_n 3, 1) := by decide +kernel
theorem dX1_letUp_13 : decode cX1_letUp 13 = .ok (.putfield 18, 3) := by decide +kernel
theorem dX1_letUp_16 : decode cX1_letUp 16 = .ok (.aload_n 0, 1) := by decide +kernel
theorem dX1_letUp_17 : decode cX1_letUp 17 = .ok (.aload_n 1, 1) := by decide +kernel
theorem dX1_letUp_18 : decode cX1_letUp 18 = .ok (.iload_n 2, 1) := by decide +kernel
theorem dX1_letUp_19 : decode cX1_letUp 19 = .ok (.invokevirtual 21, 3) := by decide +kernel
theorem dX1_letUp_22 : decode cX1_letUp 22 = .ok (.putfield 27, 3) := by decide +kernel
theorem dX1_letUp_25 : decode cX1_letUp 25 = .ok (.aload_n 0, 1) := by decide +kernel
theorem dX1_letUp_26 : decode cX1_letUp 26 = .ok (.iconst 1, 1) := by decide +kernel
theorem dX1_letUp_27 : decode cX1_letUp 27 = .ok (.iload_n 2, 1) := by decide +kernel
theorem dX1_letUp_28 : decode cX1_letUp 28 = .ok (.ishl, 1) := by decide +kernel
theorem dX1_letUp_29 : decode cX1_letUp 29 = .ok (.putfield 30, 3) := by decide +kernel
theorem dX1_letUp_32 : decode cX1_letUp 32 = .ok (.aload_n 0, 1) := by decide +kernel
theorem dX1_letUp_33 : decode cX1_letUp 33 = .ok (.iconst 0, 1) := by decide +kernel
theorem dX1_letUp_34 : decode cX1_letUp 34 = .ok (.putfield 33, 3) := by decide +kernel
theorem dX1_letUp_37 : decode cX1_letUp 37 = .ok (.aload_n 0, 1) := by decide +kernel
theorem dX1_letUp_38 : decode cX1_letUp 38 = .ok (.aload_n 1, 1) := by decide +kernel
theorem dX1_letUp_39 : decode cX1_letUp 39 = .ok (.getfield 36, 3) := by decide +kernel
theorem dX1_letUp_42 : decode cX1_letUp 42 = .ok (.iload 4, 2) := by decide +kernel
theorem dX1_letUp_44 : decode cX1_letUp 44 = .ok (.isub, 1) := by decide +kernel
theorem dX1_letUp_45 : decode cX1_letUp 45 = .ok (.putfield 39, 3) := by decide +kernel
theorem dX1_letUp_48 : decode cX1_letUp 48 = .ok (.return_, 1) := by decide +kernel
theorem dX1_copyFrom_0 : decode cX1_copyFrom 0 = .ok (.aload_n 0, 1) := by decide +kernel
theorem dX1_copyFrom_1 : decode cX1_copyFrom 1 = .ok (.aload_n 1, 1) := by decide +kernel
theorem dX1_copyFrom_2 : decode cX1_copyFrom 2 = .ok (.getfield 9, 3) := by decide +kernel
theorem dX1_copyFrom_5 : decode cX1_copyFrom 5 = .ok (.putfield 9, 3) := by decide +kernel
theorem dX1_copyFrom_8 : decode cX1_copyFrom 8 = .ok (.aload_n 0, 1) := by decide +kernel
theorem dX1_copyFrom_9 : decode cX1_copyFrom 9 = .ok (.aload_n 1, 1) := by decide +kernel
theorem dX1_copyFrom_10 : decode cX1_copyFrom 10 = .ok (.getfield 15, 3) := by decide +kernel
theorem dX1_copyFrom_13 : decode cX1_copyFrom 13 = .ok (.putfield 15, 3) := by decide +kernel
theorem dX1_copyFrom_16 : decode cX1_copyFrom 16 = .ok (.aload_n 0, 1) := by decide +kernel
theorem dX1_copyFrom_17 : decode cX1_copyFrom 17 = .ok (.aload_n 1, 1) := by decide +kernel
theorem dX1_copyFrom_18 : decode cX1_copyFrom 18 = .ok (.getfield 18, 3) := by decide +kernel
theorem dX1_copyFrom_21 : decode cX1_copyFrom 21 = .ok (.putfield 18, 3) := by decide +kernel
theorem dX1_copyFrom_24 : decode cX1_copyFrom 24 = .ok (.aload_n 0, 1) := by decide +kernel
theorem dX1_copyFrom_25 : decode cX1_copyFrom 25 = .ok (.aload_n 1, 1) := by decide +kernel
theorem dX1_copyFrom_26 : decode cX1_copyFrom 26 = .ok (.getfield 27, 3) := by decide +kernel
theorem dX1_copyFrom_29 : decode cX1_copyFrom 29 = .ok (.putfield 27, 3) := by decide +kernel
theorem dX1_copyFrom_32 : decode cX1_copyFrom 32 = .ok (.aload_n 0, 1) := by decide +kernel
theorem dX1_copyFrom_33 : decode cX1_copyFrom 33 = .ok (.aload_n 1, 1) := by decide +kernel
theorem dX1_copyFrom_34 : decode cX1_copyFrom 34 = .ok (.getfield 30, 3) := by decide +kernel
theorem dX1_copyFrom_37 : decode cX1_copyFrom 37 = .ok (.putfield 30, 3) := by decide +kernel
theorem dX1_copyFrom_40 : decode cX1_copyFrom 40 = .ok (.aload_n 0, 1) := by decide +kernel
theorem dX1_copyFrom_41 : decode cX1_copyFrom 41 = .ok (.aload_n 1, 1) := by decide +kernel
theorem dX1_copyFrom_42 : decode cX1_copyFrom 42 = .ok (.getfield 33, 3) := by decide +kernel
theorem dX1_copyFrom_45 : decode cX1_copyFrom 45 = .ok (.putfield 33, 3) := by decide +kernel
theorem dX1_copyFrom_48 : decode cX1_copyFrom 48 = .ok (.aload_n 0, 1) := by decide +kernel
theorem dX1_copyFrom_49 : decode cX1_copyFrom 49 = .ok (.aload_n 1, 1) := by decide +kernel
theorem dX1_copyFrom_50 : decode cX1_copyFrom 50 = .ok (.getfield 39, 3) := by decide +kernel
theorem dX1_copyFrom_53 : decode cX1_copyFrom 53 = .ok (.putfield 39, 3) := by decide +kernel
theorem dX1_copyFrom_56 : decode cX1_copyFrom 56 = .ok (.return_, 1) := by decide +kernel
set_option maxRecDepth 20000 in
theorem ggX1_passHour_X0_endOf : GoodIn wsX1_passHour wsX0_endOf := goodIn_r _ [10, 11, 27, 28, 29, 30, 31, 32, 33, 34, 35, 36] (by decide +kernel) (by decide +kernel)
set_option maxRecDepth 20000 in
theorem gX1_passHour_X0_endOf : GoodIn wsX1_passHour (wsV RX1 42 RX0 yX0_endOf wsX0_endOf) := goodIn_app (goodIn_of _ (by decide +kernel)) ggX1_passHour_X0_endOf
set_option maxRecDepth 20000 in
theorem ggX1_passHour_X0_onCell : GoodIn wsX1_passHour wsX0_onCell := goodIn_r _ [15, 16, 27, 28, 29, 30, 31, 32, 33, 34, 35, 36] (by decide +kernel) (by decide +kernel)
set_option maxRecDepth 20000 in
theorem gX1_passHour_X0_onCell : GoodIn wsX1_passHour (wsV RX1 46 RX0 yX0_onCell wsX0_onCell) := goodIn_app (goodIn_of _ (by decide +kernel)) ggX1_passHour_X0_onCell
set_option maxRecDepth 20000 in
theorem ggX1_passHour_X4_bitOf : GoodIn wsX1_passHour wsX4_bitOf := goodIn_r _ [19] (by decide +kernel) (by decide +kernel)
set_option maxRecDepth 20000 in
theorem gX1_passHour_X4_bitOf_n49 : GoodIn wsX1_passHour (wsX4_bitOf) := ggX1_passHour_X4_bitOf
theorem dX1_passHour_0 : decode cX1_passHour 0 = .ok (.aload_n 0, 1) := by decide +kernel
theorem dX1_passHour_1 : decode cX1_passHour 1 = .ok (.getfield 33, 3) := by decide +kernel
theorem dX1_passHour_4 : decode cX1_passHour 4 = .ok (.ifCond .eq 4, 3) := by decide +kernel
theorem dX1_passHour_7 : decode cX1_passHour 7 = .ok (.return_, 1) := by decide +kernel
theorem dX1_passHour_8 : decode cX1_passHour 8 = .ok (.aload_n 1, 1) := by decide +kernel
theorem dX1_passHour_9 : decode cX1_passHour 9 = .ok (.aload_n 0, 1) := by decide +kernel
theorem dX1_passHour_10 : decode cX1_passHour 10 = .ok (.getfield 39, 3) := by decide +kernel
theorem dX1_passHour_13 : decode cX1_passHour 13 = .ok (.iload_n 2, 1) := by decide +kernel
theorem dX1_passHour_14 : decode cX1_passHour 14 = .ok (.aload_n 0, 1) := by decide +kernel
theorem dX1_passHour_15 : decode cX1_passHour 15 = .ok (.getfield 27, 3) := by decide +kernel
theorem dX1_passHour_18 : decode cX1_passHour 18 = .ok (.invokevirtual 42, 3) := by decide +kernel
theorem dX1_passHour_21 : decode cX1_passHour 21 = .ok (.istore 4, 2) := by decide +kernel
theorem dX1_passHour_23 : decode cX1_passHour 23 = .ok (.iload 4, 2) := by decide +kernel
theorem dX1_passHour_25 : decode cX1_passHour 25 = .ok (.iconst (-1), 1) := by decide +kernel
theorem dX1_passHour_26 : decode cX1_passHour 26 = .ok (.if_icmp .ne 4, 3) := by decide +kernel
theorem dX1_passHour_29 : decode cX1_passHour 29 = .ok (.return_, 1) := by decide +kernel
theorem dX1_passHour_30 : decode cX1_passHour 30 = .ok (.aload_n 0, 1) := by decide +kernel
theorem dX1_passHour_31 : decode cX1_passHour 31 = .ok (.iload 4, 2) := by decide +kernel
theorem dX1_passHour_33 : decode cX1_passHour 33 = .ok (.putfield 27, 3) := by decide +kernel
theorem dX1_passHour_36 : decode cX1_passHour 36 = .ok (.aload_n 1, 1) := by decide +kernel
theorem dX1_passHour_37 : decode cX1_passHour 37 = .ok (.iload 4, 2) := by decide +kernel
theorem dX1_passHour_39 : decode cX1_passHour 39 = .ok (.invokevirtual 46, 3) := by decide +kernel
theorem dX1_passHour_42 : decode cX1_passHour 42 = .ok (.istore 5, 2) := by decide +kernel
theorem dX1_passHour_44 : decode cX1_passHour 44 = .ok (.iload 5, 2) := by decide +kernel
theorem dX1_passHour_46 : decode cX1_passHour 46 = .ok (.ifCond .ge 4, 3) := by decide +kernel
theorem dX1_passHour_49 : decode cX1_passHour 49 = .ok (.return_, 1) := by decide +kernel
theorem dX1_passHour_50 : decode cX1_passHour 50 = .ok (.iload 5, 2) := by decide +kernel
theorem dX1_passHour_52 : decode cX1_passHour 52 = .ok (.aload_n 0, 1) := by decide +kernel
theorem dX1_passHour_53 : decode cX1_passHour 53 = .ok (.getfield 18, 3) := by decide +kernel
theorem dX1_passHour_56 : decode cX1_passHour 56 = .ok (.if_icmp .eq 19, 3) := by decide +kernel
theorem dX1_passHour_59 : decode cX1_passHour 59 = .ok (.iload_n 3, 1) := by decide +kernel
theorem dX1_passHour_60 : decode cX1_passHour 60 = .ok (.iload 5, 2) := by decide +kernel
theorem dX1_passHour_62 : decode cX1_passHour 62 = .ok (.invokestatic 49, 3) := by decide +kernel
theorem dX1_passHour_65 : decode cX1_passHour 65 = .ok (.iconst 1, 1) := by decide +kernel
theorem dX1_passHour_66 : decode cX1_passHour 66 = .ok (.if_icmp .ne 9, 3) := by decide +kernel
theorem dX1_passHour_69 : decode cX1_passHour 69 = .ok (.aload_n 0, 1) := by decide +kernel
theorem dX1_passHour_70 : decode cX1_passHour 70 = .ok (.iconst 2, 1) := by decide +kernel
theorem dX1_passHour_71 : decode cX1_passHour 71 = .ok (.putfield 33, 3) := by decide +kernel
theorem dX1_passHour_74 : decode cX1_passHour 74 = .ok (.return_, 1) := by decide +kernel
theorem dX1_passHour_75 : decode cX1_passHour 75 = .ok (.aload_n 0, 1) := by decide +kernel
theorem dX1_passHour_76 : decode cX1_passHour 76 = .ok (.dup, 1) := by decide +kernel
theorem dX1_passHour_77 : decode cX1_passHour 77 = .ok (.getfield 30, 3) := by decide +kernel
theorem dX1_passHour_80 : decode cX1_passHour 80 = .ok (.iconst 1, 1) := by decide +kernel
theorem dX1_passHour_81 : decode cX1_passHour 81 = .ok (.iload 5, 2) := by decide +kernel
theorem dX1_passHour_83 : decode cX1_passHour 83 = .ok (.ishl, 1) := by decide +kernel
theorem dX1_passHour_84 : decode cX1_passHour 84 = .ok (.ior, 1) := by decide +kernel
theorem dX1_passHour_85 : decode cX1_passHour 85 = .ok (.putfield 30, 3) := by decide +kernel
theorem dX1_passHour_88 : decode cX1_passHour 88 = .ok (.iload 5, 2) := by decide +kernel
theorem dX1_passHour_90 : decode cX1_passHour 90 = .ok (.aload_n 0, 1) := by decide +kernel
theorem dX1_passHour_91 : decode cX1_passHour 91 = .ok (.getfield 18, 3) := by decide +kernel
theorem dX1_passHour_94 : decode cX1_passHour 94 = .ok (.if_icmp .ne 8, 3) := by decide +kernel
theorem dX1_passHour_97 : decode cX1_passHour 97 = .ok (.aload_n 0, 1) := by decide +kernel
theorem dX1_passHour_98 : decode cX1_passHour 98 = .ok (.iconst 1, 1) := by decide +kernel
theorem dX1_passHour_99 : decode cX1_passHour 99 = .ok (.putfield 33, 3) := by decide +kernel
theorem dX1_passHour_102 : decode cX1_passHour 102 = .ok (.return_, 1) := by decide +kernel
set_option maxRecDepth 20000 in
theorem ggX2_init_X1_init : GoodIn wsX2_init wsX1_init := goodIn_r _ [11, 12, 2, 3] (by decide +kernel) (by decide +kernel)
set_option maxRecDepth 20000 in
theorem gX2_init_X1_init_n21 : GoodIn wsX2_init (wsX1_init) := ggX2_init_X1_init
theorem dX2_init_0 : decode cX2_init 0 = .ok (.aload_n 0, 1) := by decide +kernel
theorem dX2_init_1 : decode cX2_init 1 = .ok (.invokespecial 3, 3) := by decide +kernel
theorem dX2_init_4 : decode cX2_init 4 = .ok (.aload_n 0, 1) := by decide +kernel
theorem dX2_init_5 : decode cX2_init 5 = .ok (.bipush 12, 2) := by decide +kernel
theorem dX2_init_7 : decode cX2_init 7 = .ok (.newarray .int, 2) := by decide +kernel
theorem dX2_init_9 : decode cX2_init 9 = .ok (.putfield 9, 3) := by decide +kernel
theorem dX2_init_12 : decode cX2_init 12 = .ok (.aload_n 0, 1) := by decide +kernel
theorem dX2_init_13 : decode cX2_init 13 = .ok (.iconst 5, 1) := by decide +kernel
theorem dX2_init_14 : decode cX2_init 14 = .ok (.anewarray 15, 3) := by decide +kernel
theorem dX2_init_17 : decode cX2_init 17 = .ok (.putfield 17, 3) := by decide +kernel
theorem dX2_init_20 : decode cX2_init 20 = .ok (.iconst 0, 1) := by decide +kernel
theorem dX2_init_21 : decode cX2_init 21 = .ok (.istore_n 1, 1) := by decide +kernel
theorem dX2_init_22 : decode cX2_init 22 = .ok (.iload_n 1, 1) := by decide +kernel
theorem dX2_init_23 : decode cX2_init 23 = .ok (.iconst 5, 1) := by decide +kernel
theorem dX2_init_24 : decode cX2_init 24 = .ok (.if_icmp .ge 22, 3) := by decide +kernel
theorem dX2_init_27 : decode cX2_init 27 = .ok (.aload_n 0, 1) := by decide +kernel
theorem dX2_init_28 : decode cX2_init 28 = .ok (.getfield 17, 3) := by decide +kernel
theorem dX2_init_31 : decode cX2_init 31 = .ok (.iload_n 1, 1) := by decide +kernel
theorem dX2_init_32 : decode cX2_init 32 = .ok (.new 15, 3) := by decide +kernel
theorem dX2_init_35 : decode cX2_init 35 = .ok (.dup, 1) := by decide +kernel
theorem dX2_init_36 : decode cX2_init 36 = .ok (.invokespecial 21, 3) := by decide +kernel
theorem dX2_init_39 : decode cX2_init 39 = .ok (.aastore, 1) := by decide +kernel
theorem dX2_init_40 : decode cX2_init 40 = .ok (.iinc 1 1, 3) := by decide +kernel
theorem dX2_init_43 : decode cX2_init 43 = .ok (.goto (-21), 3) := by decide +kernel
theorem dX2_init_46 : decode cX2_init 46 = .ok (.return_, 1) := by decide +kernel
theorem dX2_beginAnew_0 : decode cX2_beginAnew 0 = .ok (.aload_n 0, 1) := by decide +kernel
theorem dX2_beginAnew_1 : decode cX2_beginAnew 1 = .ok (.iconst 0, 1) := by decide +kernel
theorem dX2_beginAnew_2 : decode cX2_beginAnew 2 = .ok (.putfield 22, 3) := by decide +kernel
theorem dX2_beginAnew_5 : decode cX2_beginAnew 5 = .ok (.aload_n 0, 1) := by decide +kernel
theorem dX2_beginAnew_6 : decode cX2_beginAnew 6 = .ok (.iconst 0, 1) := by decide +kernel
theorem dX2_beginAnew_7 : decode cX2_beginAnew 7 = .ok (.putfield 26, 3) := by decide +kernel
theorem dX2_beginAnew_10 : decode cX2_beginAnew 10 = .ok (.aload_n 0, 1) := by decide +kernel
theorem dX2_beginAnew_11 : decode cX2_beginAnew 11 = .ok (.iconst 0, 1) := by decide +kernel
theorem dX2_beginAnew_12 : decode cX2_beginAnew 12 = .ok (.putfield 29, 3) := by decide +kernel
theorem dX2_beginAnew_15 : decode cX2_beginAnew 15 = .ok (.aload_n 0, 1) := by decide +kernel
theorem dX2_beginAnew_16 : decode cX2_beginAnew 16 = .ok (.aload_n 1, 1) := by decide +kernel
theorem dX2_beginAnew_17 : decode cX2_beginAnew 17 = .ok (.getfield 32, 3) := by decide +kernel
theorem dX2_beginAnew_20 : decode cX2_beginAnew 20 = .ok (.putfield 37, 3) := by decide +kernel
theorem dX2_beginAnew_23 : decode cX2_beginAnew 23 = .ok (.iconst 0, 1) := by decide +kernel
theorem dX2_beginAnew_24 : decode cX2_beginAnew 24 = .ok (.istore_n 2, 1) := by decide +kernel
theorem dX2_beginAnew_25 : decode cX2_beginAnew 25 = .ok (.iload_n 2, 1) := by decide +kernel
theorem dX2_beginAnew_26 : decode cX2_beginAnew 26 = .ok (.bipush 12, 2) := by decide +kernel
theorem dX2_beginAnew_28 : decode cX2_beginAnew 28 = .ok (.if_icmp .ge 21, 3) := by decide +kernel
theorem dX2_beginAnew_31 : decode cX2_beginAnew 31 = .ok (.aload_n 0, 1) := by decide +kernel
theorem dX2_beginAnew_32 : decode cX2_beginAnew 32 = .ok (.getfield 9, 3) := by decide +kernel
theorem dX2_beginAnew_35 : decode cX2_beginAnew 35 = .ok (.iload_n 2, 1) := by decide +kernel
theorem dX2_beginAnew_36 : decode cX2_beginAnew 36 = .ok (.aload_n 1, 1) := by decide +kernel
theorem dX2_beginAnew_37 : decode cX2_beginAnew 37 = .ok (.getfield 38, 3) := by decide +kernel
theorem dX2_beginAnew_40 : decode cX2_beginAnew 40 = .ok (.iload_n 2, 1) := by decide +kernel
theorem dX2_beginAnew_41 : decode cX2_beginAnew 41 = .ok (.iaload, 1) := by decide +kernel
theorem dX2_beginAnew_42 : decode cX2_beginAnew 42 = .ok (.iastore, 1) := by decide +kernel
theorem dX2_beginAnew_43 : decode cX2_beginAnew 43 = .ok (.iinc 2 1, 3) := by decide +kernel
theorem dX2_beginAnew_46 : decode cX2_beginAnew 46 = .ok (.goto (-21), 3) := by decide +kernel
theorem dX2_beginAnew_49 : decode cX2_beginAnew 49 = .ok (.return_, 1) := by decide +kernel
set_option maxRecDepth 20000 in
theorem ggX2_copyFrom_X1_copyFrom : GoodIn wsX2_copyFrom wsX1_copyFrom := goodIn_r _ [11, 12, 13, 14, 15, 16, 17, 18, 25, 26, 27, 28, 29, 30, 31] (by decide +kernel) (by decide +kernel)
set_option maxRecDepth 20000 in
theorem gX2_copyFrom_X1_copyFrom : GoodIn wsX2_copyFrom (wsV RX2 39 RX1 yX1_copyFrom wsX1_copyFrom) := goodIn_app (goodIn_of _ (by decide +kernel)) ggX2_copyFrom_X1_copyFrom
theorem dX2_copyFrom_0 : decode cX2_copyFrom 0 = .ok (.aload_n 0, 1) := by decide +kernel
theorem dX2_copyFrom_1 : decode cX2_copyFrom 1 = .ok (.aload_n 1, 1) := by decide +kernel
theorem dX2_copyFrom_2 : decode cX2_copyFrom 2 = .ok (.getfield 22, 3) := by decide +kernel
theorem dX2_copyFrom_5 : decode cX2_copyFrom 5 = .ok (.putfield 22, 3) := by decide +kernel
theorem dX2_copyFrom_8 : decode cX2_copyFrom 8 = .ok (.aload_n 0, 1) := by decide +kernel
theorem dX2_copyFrom_9 : decode cX2_copyFrom 9 = .ok (.aload_n 1, 1) := by decide +kernel
theorem dX2_copyFrom_10 : decode cX2_copyFrom 10 = .ok (.getfield 26, 3) := by decide +kernel
theorem dX2_copyFrom_13 : decode cX2_copyFrom 13 = .ok (.putfield 26, 3) := by decide +kernel
theorem dX2_copyFrom_16 : decode cX2_copyFrom 16 = .ok (.aload_n 0, 1) := by decide +kernel
theorem dX2_copyFrom_17 : decode cX2_copyFrom 17 = .ok (.aload_n 1, 1) := by decide +kernel
theorem dX2_copyFrom_18 : decode cX2_copyFrom 18 = .ok (.getfield 29, 3) := by decide +kernel
theorem dX2_copyFrom_21 : decode cX2_copyFrom 21 = .ok (.putfield 29, 3) := by decide +kernel
theorem dX2_copyFrom_24 : decode cX2_copyFrom 24 = .ok (.aload_n 0, 1) := by decide +kernel
theorem dX2_copyFrom_25 : decode cX2_copyFrom 25 = .ok (.aload_n 1, 1) := by decide +kernel
theorem dX2_copyFrom_26 : decode cX2_copyFrom 26 = .ok (.getfield 37, 3) := by decide +kernel
theorem dX2_copyFrom_29 : decode cX2_copyFrom 29 = .ok (.putfield 37, 3) := by decide +kernel
theorem dX2_copyFrom_32 : decode cX2_copyFrom 32 = .ok (.iconst 0, 1) := by decide +kernel
theorem dX2_copyFrom_33 : decode cX2_copyFrom 33 = .ok (.istore_n 2, 1) := by decide +kernel
theorem dX2_copyFrom_34 : decode cX2_copyFrom 34 = .ok (.iload_n 2, 1) := by decide +kernel
theorem dX2_copyFrom_35 : decode cX2_copyFrom 35 = .ok (.bipush 12, 2) := by decide +kernel
theorem dX2_copyFrom_37 : decode cX2_copyFrom 37 = .ok (.if_icmp .ge 21, 3) := by decide +kernel
theorem dX2_copyFrom_40 : decode cX2_copyFrom 40 = .ok (.aload_n 0, 1) := by decide +kernel
theorem dX2_copyFrom_41 : decode cX2_copyFrom 41 = .ok (.getfield 9, 3) := by decide +kernel
theorem dX2_copyFrom_44 : decode cX2_copyFrom 44 = .ok (.iload_n 2, 1) := by decide +kernel
theorem dX2_copyFrom_45 : decode cX2_copyFrom 45 = .ok (.aload_n 1, 1) := by decide +kernel
theorem dX2_copyFrom_46 : decode cX2_copyFrom 46 = .ok (.getfield 9, 3) := by decide +kernel
theorem dX2_copyFrom_49 : decode cX2_copyFrom 49 = .ok (.iload_n 2, 1) := by decide +kernel
theorem dX2_copyFrom_50 : decode cX2_copyFrom 50 = .ok (.iaload, 1) := by decide +kernel
theorem dX2_copyFrom_51 : decode cX2_copyFrom 51 = .ok (.iastore, 1) := by decide +kernel
theorem dX2_copyFrom_52 : decode cX2_copyFrom 52 = .ok (.iinc 2 1, 3) := by decide +kernel
theorem dX2_copyFrom_55 : decode cX2_copyFrom 55 = .ok (.goto (-21), 3) := by decide +kernel
theorem dX2_copyFrom_58 : decode cX2_copyFrom 58 = .ok (.iconst 0, 1) := by decide +kernel
theorem dX2_copyFrom_59 : decode cX2_copyFrom 59 = .ok (.istore_n 2, 1) := by decide +kernel
theorem dX2_copyFrom_60 : decode cX2_copyFrom 60 = .ok (.iload_n 2, 1) := by decide +kernel
theorem dX2_copyFrom_61 : decode cX2_copyFrom 61 = .ok (.iconst 5, 1) := by decide +kernel
theorem dX2_copyFrom_62 : decode cX2_copyFrom 62 = .ok (.if_icmp .ge 24, 3) := by decide +kernel
theorem dX2_copyFrom_65 : decode cX2_copyFrom 65 = .ok (.aload_n 0, 1) := by decide +kernel
theorem dX2_copyFrom_66 : decode cX2_copyFrom 66 = .ok (.getfield 17, 3) := by decide +kernel
theorem dX2_copyFrom_69 : decode cX2_copyFrom 69 = .ok (.iload_n 2, 1) := by decide +kernel
theorem dX2_copyFrom_70 : decode cX2_copyFrom 70 = .ok (.aaload, 1) := by decide +kernel
theorem dX2_copyFrom_71 : decode cX2_copyFrom 71 = .ok (.aload_n 1, 1) := by decide +kernel
theorem dX2_copyFrom_72 : decode cX2_copyFrom 72 = .ok (.getfield 17, 3) := by decide +kernel
theorem dX2_copyFrom_75 : decode cX2_copyFrom 75 = .ok (.iload_n 2, 1) := by decide +kernel
theorem dX2_copyFrom_76 : decode cX2_copyFrom 76 = .ok (.aaload, 1) := by decide +kernel
theorem dX2_copyFrom_77 : decode cX2_copyFrom 77 = .ok (.invokevirtual 39, 3) := by decide +kernel
theorem dX2_copyFrom_80 : decode cX2_copyFrom 80 = .ok (.iinc 2 1, 3) := by decide +kernel
theorem dX2_copyFrom_83 : decode cX2_copyFrom 83 = .ok (.goto (-23), 3) := by decide +kernel
theorem dX2_copyFrom_86 : decode cX2_copyFrom 86 = .ok (.return_, 1) := by decide +kernel
set_option maxRecDepth 20000 in
theorem ggX2_windOf_J9_floorMod_7cf53 : GoodIn wsX2_windOf wsJ9_floorMod_7cf53 := goodIn_r _ [6] (by decide +kernel) (by decide +kernel)
set_option maxRecDepth 20000 in
theorem gX2_windOf_J9_floorMod_7cf53 : GoodIn wsX2_windOf (va_wsS RX2 43 yJ9_floorMod_7cf53 wsJ9_floorMod_7cf53) := goodIn_app (goodIn_of _ (by decide +kernel)) ggX2_windOf_J9_floorMod_7cf53
theorem dX2_windOf_0 : decode cX2_windOf 0 = .ok (.aload_n 0, 1) := by decide +kernel
theorem dX2_windOf_1 : decode cX2_windOf 1 = .ok (.getfield 37, 3) := by decide +kernel
theorem dX2_windOf_4 : decode cX2_windOf 4 = .ok (.iconst 1, 1) := by decide +kernel
theorem dX2_windOf_5 : decode cX2_windOf 5 = .ok (.if_icmp .lt 12, 3) := by decide +kernel
theorem dX2_windOf_8 : decode cX2_windOf 8 = .ok (.aload_n 0, 1) := by decide +kernel
theorem dX2_windOf_9 : decode cX2_windOf 9 = .ok (.getfield 37, 3) := by decide +kernel
theorem dX2_windOf_12 : decode cX2_windOf 12 = .ok (.bipush 12, 2) := by decide +kernel
theorem dX2_windOf_14 : decode cX2_windOf 14 = .ok (.if_icmp .le 5, 3) := by decide +kernel
theorem dX2_windOf_17 : decode cX2_windOf 17 = .ok (.iconst 4, 1) := by decide +kernel
theorem dX2_windOf_18 : decode cX2_windOf 18 = .ok (.ireturn, 1) := by decide +kernel
theorem dX2_windOf_19 : decode cX2_windOf 19 = .ok (.aload_n 0, 1) := by decide +kernel
theorem dX2_windOf_20 : decode cX2_windOf 20 = .ok (.getfield 9, 3) := by decide +kernel
theorem dX2_windOf_23 : decode cX2_windOf 23 = .ok (.iload_n 1, 1) := by decide +kernel
theorem dX2_windOf_24 : decode cX2_windOf 24 = .ok (.aload_n 0, 1) := by decide +kernel
theorem dX2_windOf_25 : decode cX2_windOf 25 = .ok (.getfield 37, 3) := by decide +kernel
theorem dX2_windOf_28 : decode cX2_windOf 28 = .ok (.invokestatic 43, 3) := by decide +kernel
theorem dX2_windOf_31 : decode cX2_windOf 31 = .ok (.iaload, 1) := by decide +kernel
theorem dX2_windOf_32 : decode cX2_windOf 32 = .ok (.ireturn, 1) := by decide +kernel
theorem dX2_lettersUp_0 : decode cX2_lettersUp 0 = .ok (.iconst 0, 1) := by decide +kernel
theorem dX2_lettersUp_1 : decode cX2_lettersUp 1 = .ok (.istore_n 1, 1) := by decide +kernel
theorem dX2_lettersUp_2 : decode cX2_lettersUp 2 = .ok (.iconst 0, 1) := by decide +kernel
theorem dX2_lettersUp_3 : decode cX2_lettersUp 3 = .ok (.istore_n 2, 1) := by decide +kernel
theorem dX2_lettersUp_4 : decode cX2_lettersUp 4 = .ok (.iload_n 2, 1) := by decide +kernel
theorem dX2_lettersUp_5 : decode cX2_lettersUp 5 = .ok (.aload_n 0, 1) := by decide +kernel
theorem dX2_lettersUp_6 : decode cX2_lettersUp 6 = .ok (.getfield 26, 3) := by decide +kernel
theorem dX2_lettersUp_9 : decode cX2_lettersUp 9 = .ok (.if_icmp .ge 32, 3) := by decide +kernel
theorem dX2_lettersUp_12 : decode cX2_lettersUp 12 = .ok (.iload_n 2, 1) := by decide +kernel
theorem dX2_lettersUp_13 : decode cX2_lettersUp 13 = .ok (.iconst 5, 1) := by decide +kernel
theorem dX2_lettersUp_14 : decode cX2_lettersUp 14 = .ok (.if_icmp .ge 27, 3) := by decide +kernel
theorem dX2_lettersUp_17 : decode cX2_lettersUp 17 = .ok (.aload_n 0, 1) := by decide +kernel
theorem dX2_lettersUp_18 : decode cX2_lettersUp 18 = .ok (.getfield 17, 3) := by decide +kernel
theorem dX2_lettersUp_21 : decode cX2_lettersUp 21 = .ok (.iload_n 2, 1) := by decide +kernel
theorem dX2_lettersUp_22 : decode cX2_lettersUp 22 = .ok (.aaload, 1) := by decide +kernel
theorem dX2_lettersUp_23 : decode cX2_lettersUp 23 = .ok (.getfield 49, 3) := by decide +kernel
theorem dX2_lettersUp_26 : decode cX2_lettersUp 26 = .ok (.ifCond .ne 9, 3) := by decide +kernel
theorem dX2_lettersUp_29 : decode cX2_lettersUp 29 = .ok (.iload_n 1, 1) := by decide +kernel
theorem dX2_lettersUp_30 : decode cX2_lettersUp 30 = .ok (.iconst 1, 1) := by decide +kernel
theorem dX2_lettersUp_31 : decode cX2_lettersUp 31 = .ok (.iload_n 2, 1) := by decide +kernel
theorem dX2_lettersUp_32 : decode cX2_lettersUp 32 = .ok (.ishl, 1) := by decide +kernel
theorem dX2_lettersUp_33 : decode cX2_lettersUp 33 = .ok (.ior, 1) := by decide +kernel
theorem dX2_lettersUp_34 : decode cX2_lettersUp 34 = .ok (.istore_n 1, 1) := by decide +kernel
theorem dX2_lettersUp_35 : decode cX2_lettersUp 35 = .ok (.iinc 2 1, 3) := by decide +kernel
theorem dX2_lettersUp_38 : decode cX2_lettersUp 38 = .ok (.goto (-34), 3) := by decide +kernel
theorem dX2_lettersUp_41 : decode cX2_lettersUp 41 = .ok (.iload_n 1, 1) := by decide +kernel
theorem dX2_lettersUp_42 : decode cX2_lettersUp 42 = .ok (.ireturn, 1) := by decide +kernel
theorem dX3_init_0 : decode cX3_init 0 = .ok (.aload_n 0, 1) := by decide +kernel
theorem dX3_init_1 : decode cX3_init 1 = .ok (.invokespecial 3, 3) := by decide +kernel
theorem dX3_init_4 : decode cX3_init 4 = .ok (.aload_n 0, 1) := by decide +kernel
theorem dX3_init_5 : decode cX3_init 5 = .ok (.sipush 200, 3) := by decide +kernel
theorem dX3_init_8 : decode cX3_init 8 = .ok (.newarray .int, 2) := by decide +kernel
theorem dX3_init_10 : decode cX3_init 10 = .ok (.putfield 9, 3) := by decide +kernel
theorem dX3_init_13 : decode cX3_init 13 = .ok (.return_, 1) := by decide +kernel
theorem dX3_add_0 : decode cX3_add 0 = .ok (.aload_n 0, 1) := by decide +kernel
theorem dX3_add_1 : decode cX3_add 1 = .ok (.getfield 15, 3) := by decide +kernel
theorem dX3_add_4 : decode cX3_add 4 = .ok (.sipush 200, 3) := by decide +kernel
theorem dX3_add_7 : decode cX3_add 7 = .ok (.if_icmp .lt 4, 3) := by decide +kernel
theorem dX3_add_10 : decode cX3_add 10 = .ok (.return_, 1) := by decide +kernel
theorem dX3_add_11 : decode cX3_add 11 = .ok (.aload_n 0, 1) := by decide +kernel
theorem dX3_add_12 : decode cX3_add 12 = .ok (.getfield 9, 3) := by decide +kernel
theorem dX3_add_15 : decode cX3_add 15 = .ok (.aload_n 0, 1) := by decide +kernel
theorem dX3_add_16 : decode cX3_add 16 = .ok (.getfield 15, 3) := by decide +kernel
theorem dX3_add_19 : decode cX3_add 19 = .ok (.iload_n 1, 1) := by decide +kernel
theorem dX3_add_20 : decode cX3_add 20 = .ok (.iastore, 1) := by decide +kernel
theorem dX3_add_21 : decode cX3_add 21 = .ok (.aload_n 0, 1) := by decide +kernel
theorem dX3_add_22 : decode cX3_add 22 = .ok (.dup, 1) := by decide +kernel
theorem dX3_add_23 : decode cX3_add 23 = .ok (.getfield 15, 3) := by decide +kernel
theorem dX3_add_26 : decode cX3_add 26 = .ok (.iconst 1, 1) := by decide +kernel
theorem dX3_add_27 : decode cX3_add 27 = .ok (.iadd, 1) := by decide +kernel
theorem dX3_add_28 : decode cX3_add 28 = .ok (.putfield 15, 3) := by decide +kernel
theorem dX3_add_31 : decode cX3_add 31 = .ok (.return_, 1) := by decide +kernel
set_option maxRecDepth 20000 in
theorem ggX3_readInto_X0_untell : GoodIn wsX3_readInto wsX0_untell := goodIn_r _ [10, 11, 12, 13, 14, 15, 16, 17, 108, 109, 110, 111, 112, 113, 114, 115, 116, 117] (by decide +kernel) (by decide +kernel)
set_option maxRecDepth 20000 in
theorem gX3_readInto_X0_untell : GoodIn wsX3_readInto (wsV RX3 19 RX0 yX0_untell wsX0_untell) := goodIn_app (goodIn_of _ (by decide +kernel)) ggX3_readInto_X0_untell
set_option maxRecDepth 20000 in
theorem ggX3_readInto_X3_step : GoodIn wsX3_readInto wsX3_step := goodIn_r _ [22, 1, 23, 24, 5, 25, 26, 27, 28, 29, 4, 30, 31, 21, 32, 33, 34, 35, 100, 101, 102, 103, 104, 105, 106, 107] (by decide +kernel) (by decide +kernel)
set_option maxRecDepth 20000 in
theorem gX3_readInto_X3_step : GoodIn wsX3_readInto (wsV RX3 34 RX3 yX3_step wsX3_step) := goodIn_app (goodIn_of _ (by decide +kernel)) ggX3_readInto_X3_step
set_option maxRecDepth 20000 in
theorem ggX3_readInto_X3_readItem : GoodIn wsX3_readInto wsX3_readItem := goodIn_r _ [39, 4, 2, 40, 41, 3, 42, 43, 44, 21, 45, 25, 46, 47, 48, 49, 50, 51, 18, 19, 20, 22, 1, 23, 24, 5, 26, 27, 28, 29, 30, 31, 32, 33, 34, 35, 52, 53, 54, 55, 56, 57, 58, 59, 60, 61, 62, 63, 64, 65, 9, 66, 11, 12, 67, 68, 69, 70, 71, 17, 72, 73, 74, 75, 14, 76, 77, 78, 79, 80, 81, 82, 83, 84, 15, 85, 86, 87, 88, 89, 90, 91, 92, 93, 16, 94, 95, 96, 97, 98, 99, 100, 101, 102, 103, 104, 105, 106, 107, 108, 109, 110, 111, 112, 113, 114, 115, 116, 117] (by decide +kernel) (by decide +kernel)
set_option maxRecDepth 20000 in
theorem gX3_readInto_X3_readItem : GoodIn wsX3_readInto (wsV RX3 40 RX3 yX3_readItem wsX3_readItem) := goodIn_app (goodIn_of _ (by decide +kernel)) ggX3_readInto_X3_readItem
theorem dX3_readInto_0 : decode cX3_readInto 0 = .ok (.aload_n 1, 1) := by decide +kernel
theorem dX3_readInto_1 : decode cX3_readInto 1 = .ok (.invokevirtual 19, 3) := by decide +kernel
theorem dX3_readInto_4 : decode cX3_readInto 4 = .ok (.aload_n 0, 1) := by decide +kernel
theorem dX3_readInto_5 : decode cX3_readInto 5 = .ok (.iconst 0, 1) := by decide +kernel
theorem dX3_readInto_6 : decode cX3_readInto 6 = .ok (.putfield 24, 3) := by decide +kernel
theorem dX3_readInto_9 : decode cX3_readInto 9 = .ok (.aload_n 0, 1) := by decide +kernel
theorem dX3_readInto_10 : decode cX3_readInto 10 = .ok (.iconst 0, 1) := by decide +kernel
theorem dX3_readInto_11 : decode cX3_readInto 11 = .ok (.putfield 27, 3) := by decide +kernel
theorem dX3_readInto_14 : decode cX3_readInto 14 = .ok (.aload_n 0, 1) := by decide +kernel
theorem dX3_readInto_15 : decode cX3_readInto 15 = .ok (.iconst 0, 1) := by decide +kernel
theorem dX3_readInto_16 : decode cX3_readInto 16 = .ok (.putfield 30, 3) := by decide +kernel
theorem dX3_readInto_19 : decode cX3_readInto 19 = .ok (.iconst 0, 1) := by decide +kernel
theorem dX3_readInto_20 : decode cX3_readInto 20 = .ok (.istore_n 2, 1) := by decide +kernel
theorem dX3_readInto_21 : decode cX3_readInto 21 = .ok (.iload_n 2, 1) := by decide +kernel
theorem dX3_readInto_22 : decode cX3_readInto 22 = .ok (.sipush 200, 3) := by decide +kernel
theorem dX3_readInto_25 : decode cX3_readInto 25 = .ok (.if_icmp .gt 54, 3) := by decide +kernel
theorem dX3_readInto_28 : decode cX3_readInto 28 = .ok (.aload_n 0, 1) := by decide +kernel
theorem dX3_readInto_29 : decode cX3_readInto 29 = .ok (.invokevirtual 34, 3) := by decide +kernel
theorem dX3_readInto_32 : decode cX3_readInto 32 = .ok (.aload_n 0, 1) := by decide +kernel
theorem dX3_readInto_33 : decode cX3_readInto 33 = .ok (.getfield 37, 3) := by decide +kernel
theorem dX3_readInto_36 : decode cX3_readInto 36 = .ok (.sipush 257, 3) := by decide +kernel
theorem dX3_readInto_39 : decode cX3_readInto 39 = .ok (.if_icmp .ne 8, 3) := by decide +kernel
theorem dX3_readInto_42 : decode cX3_readInto 42 = .ok (.aload_n 0, 1) := by decide +kernel
theorem dX3_readInto_43 : decode cX3_readInto 43 = .ok (.getfield 27, 3) := by decide +kernel
theorem dX3_readInto_46 : decode cX3_readInto 46 = .ok (.ireturn, 1) := by decide +kernel
theorem dX3_readInto_47 : decode cX3_readInto 47 = .ok (.aload_n 0, 1) := by decide +kernel
theorem dX3_readInto_48 : decode cX3_readInto 48 = .ok (.aload_n 1, 1) := by decide +kernel
theorem dX3_readInto_49 : decode cX3_readInto 49 = .ok (.invokevirtual 40, 3) := by decide +kernel
theorem dX3_readInto_52 : decode cX3_readInto 52 = .ok (.ifCond .ne 11, 3) := by decide +kernel
theorem dX3_readInto_55 : decode cX3_readInto 55 = .ok (.bipush (-10), 2) := by decide +kernel
theorem dX3_readInto_57 : decode cX3_readInto 57 = .ok (.aload_n 0, 1) := by decide +kernel
theorem dX3_readInto_58 : decode cX3_readInto 58 = .ok (.getfield 44, 3) := by decide +kernel
theorem dX3_readInto_61 : decode cX3_readInto 61 = .ok (.isub, 1) := by decide +kernel
theorem dX3_readInto_62 : decode cX3_readInto 62 = .ok (.ireturn, 1) := by decide +kernel
theorem dX3_readInto_63 : decode cX3_readInto 63 = .ok (.aload_n 0, 1) := by decide +kernel
theorem dX3_readInto_64 : decode cX3_readInto 64 = .ok (.dup, 1) := by decide +kernel
theorem dX3_readInto_65 : decode cX3_readInto 65 = .ok (.getfield 27, 3) := by decide +kernel
theorem dX3_readInto_68 : decode cX3_readInto 68 = .ok (.iconst 1, 1) := by decide +kernel
theorem dX3_readInto_69 : decode cX3_readInto 69 = .ok (.iadd, 1) := by decide +kernel
theorem dX3_readInto_70 : decode cX3_readInto 70 = .ok (.putfield 27, 3) := by decide +kernel
theorem dX3_readInto_73 : decode cX3_readInto 73 = .ok (.iinc 2 1, 3) := by decide +kernel
theorem dX3_readInto_76 : decode cX3_readInto 76 = .ok (.goto (-55), 3) := by decide +kernel
theorem dX3_readInto_79 : decode cX3_readInto 79 = .ok (.aload_n 0, 1) := by decide +kernel
theorem dX3_readInto_80 : decode cX3_readInto 80 = .ok (.getfield 27, 3) := by decide +kernel
theorem dX3_readInto_83 : decode cX3_readInto 83 = .ok (.ireturn, 1) := by decide +kernel
set_option maxRecDepth 20000 in
theorem ggX3_readItem_X3_readSize : GoodIn wsX3_readItem wsX3_readSize := goodIn_r _ [10, 11, 12, 13, 14, 15, 16, 9, 17, 1, 18, 19, 20, 21, 22, 23, 24, 25, 26, 27, 28, 29, 30, 31, 32, 33, 34, 35, 36, 37, 38, 39, 40, 41, 42, 91, 92, 93, 94, 95, 96, 97, 98, 99, 100, 101, 102, 103, 104, 105, 106, 107, 108] (by decide +kernel) (by decide +kernel)
set_option maxRecDepth 20000 in
theorem gX3_readItem_X3_readSize : GoodIn wsX3_readItem (wsV RX3 47 RX3 yX3_readSize wsX3_readSize) := goodIn_app (goodIn_of _ (by decide +kernel)) ggX3_readItem_X3_readSize
set_option maxRecDepth 20000 in
theorem ggX3_readItem_X3_readIsle : GoodIn wsX3_readItem wsX3_readIsle := goodIn_r _ [46, 11, 47, 48, 49, 50, 51, 52, 53, 54, 27, 28, 29, 14, 15, 16, 9, 17, 1, 18, 19, 20, 21, 22, 23, 24, 25, 26, 30, 31, 32, 33, 34, 35, 36, 37, 38, 55, 56, 57, 58, 59, 60, 61, 62, 63, 64, 65, 39, 40, 41, 42, 91, 92, 93, 94, 95, 96, 97, 98, 99, 100, 101, 102, 103, 104, 105, 106, 107, 108] (by decide +kernel) (by decide +kernel)
set_option maxRecDepth 20000 in
theorem gX3_readItem_X3_readIsle : GoodIn wsX3_readItem (wsV RX3 53 RX3 yX3_readIsle wsX3_readIsle) := goodIn_app (goodIn_of _ (by decide +kernel)) ggX3_readItem_X3_readIsle
set_option maxRecDepth 20000 in
theorem ggX3_readItem_X3_readHill : GoodIn wsX3_readItem wsX3_readHill := goodIn_r _ [69, 11, 47, 48, 49, 50, 51, 52, 53, 54, 27, 28, 29, 14, 15, 16, 9, 17, 1, 18, 19, 20, 21, 22, 23, 24, 25, 26, 30, 31, 32, 33, 34, 35, 36, 37, 38, 55, 56, 57, 58, 59, 70, 71, 72, 73, 74, 39, 40, 41, 42, 91, 92, 93, 94, 95, 96, 97, 98, 99, 100, 101, 102, 103, 104, 105, 106, 107, 108] (by decide +kernel) (by decide +kernel)
set_option maxRecDepth 20000 in
theorem gX3_readItem_X3_readHill : GoodIn wsX3_readItem (wsV RX3 59 RX3 yX3_readHill wsX3_readHill) := goodIn_app (goodIn_of _ (by decide +kernel)) ggX3_readItem_X3_readHill
set_option maxRecDepth 20000 in
theorem ggX3_readItem_X3_readWinds : GoodIn wsX3_readItem wsX3_readWinds := goodIn_r _ [78, 1, 11, 79, 18, 19, 20, 9, 21, 22, 23, 24, 25, 26, 27, 28, 29, 30, 31, 32, 33, 34, 35, 80, 81, 82, 50, 83, 84, 85, 91, 92, 93, 94, 95, 96, 97, 98, 99, 100, 101, 102, 103, 104, 105, 106, 107, 108] (by decide +kernel) (by decide +kernel)
set_option maxRecDepth 20000 in
theorem gX3_readItem_X3_readWinds : GoodIn wsX3_readItem (wsV RX3 62 RX3 yX3_readWinds wsX3_readWinds) := goodIn_app (goodIn_of _ (by decide +kernel)) ggX3_readItem_X3_readWinds
set_option maxRecDepth 20000 in
theorem ggX3_readItem_X3_readForce : GoodIn wsX3_readItem wsX3_readForce := goodIn_r _ [89, 11, 90, 5, 14, 15, 16, 9, 17, 1, 18, 19, 20, 21, 22, 23, 24, 25, 26, 27, 28, 29, 30, 31, 32, 33, 34, 35, 36, 37, 38, 39, 40, 41, 42, 91, 92, 93, 94, 95, 96, 97, 98, 99, 100, 101, 102, 103, 104, 105, 106, 107, 108] (by decide +kernel) (by decide +kernel)
set_option maxRecDepth 20000 in
theorem gX3_readItem_X3_readForce : GoodIn wsX3_readItem (wsV RX3 65 RX3 yX3_readForce wsX3_readForce) := goodIn_app (goodIn_of _ (by decide +kernel)) ggX3_readItem_X3_readForce
theorem dX3_readItem_0 : decode cX3_readItem 0 = .ok (.aload_n 0, 1) := by decide +kernel
theorem dX3_readItem_1 : decode cX3_readItem 1 = .ok (.getfield 37, 3) := by decide +kernel
theorem dX3_readItem_4 : decode cX3_readItem 4 = .ok (.lookupswitch 146 #[(98, 119), (102, 125), (103, 52), (105, 73), (120, 96)], 52) := by decide +kernel
theorem dX3_readItem_56 : decode cX3_readItem 56 = .ok (.aload_n 0, 1) := by decide +kernel
theorem dX3_readItem_57 : decode cX3_readItem 57 = .ok (.getfield 27, 3) := by decide +kernel
theorem dX3_readItem_60 : decode cX3_readItem 60 = .ok (.ifCond .ne 15, 3) := by decide +kernel
theorem dX3_readItem_63 : decode cX3_readItem 63 = .ok (.aload_n 0, 1) := by decide +kernel
theorem dX3_readItem_64 : decode cX3_readItem 64 = .ok (.aload_n 1, 1) := by decide +kernel
theorem dX3_readItem_65 : decode cX3_readItem 65 = .ok (.invokevirtual 47, 3) := by decide +kernel
theorem dX3_readItem_68 : decode cX3_readItem 68 = .ok (.ifCond .eq 7, 3) := by decide +kernel
theorem dX3_readItem_71 : decode cX3_readItem 71 = .ok (.iconst 1, 1) := by decide +kernel
theorem dX3_readItem_72 : decode cX3_readItem 72 = .ok (.goto 4, 3) := by decide +kernel
theorem dX3_readItem_75 : decode cX3_readItem 75 = .ok (.iconst 0, 1) := by decide +kernel
theorem dX3_readItem_76 : decode cX3_readItem 76 = .ok (.ireturn, 1) := by decide +kernel
theorem dX3_readItem_77 : decode cX3_readItem 77 = .ok (.aload_n 1, 1) := by decide +kernel
theorem dX3_readItem_78 : decode cX3_readItem 78 = .ok (.getfield 50, 3) := by decide +kernel
theorem dX3_readItem_81 : decode cX3_readItem 81 = .ok (.bipush 6, 2) := by decide +kernel
theorem dX3_readItem_83 : decode cX3_readItem 83 = .ok (.if_icmp .ge 15, 3) := by decide +kernel
theorem dX3_readItem_86 : decode cX3_readItem 86 = .ok (.aload_n 0, 1) := by decide +kernel
theorem dX3_readItem_87 : decode cX3_readItem 87 = .ok (.aload_n 1, 1) := by decide +kernel
theorem dX3_readItem_88 : decode cX3_readItem 88 = .ok (.invokevirtual 53, 3) := by decide +kernel
theorem dX3_readItem_91 : decode cX3_readItem 91 = .ok (.ifCond .eq 7, 3) := by decide +kernel
theorem dX3_readItem_94 : decode cX3_readItem 94 = .ok (.iconst 1, 1) := by decide +kernel
theorem dX3_readItem_95 : decode cX3_readItem 95 = .ok (.goto 4, 3) := by decide +kernel
theorem dX3_readItem_98 : decode cX3_readItem 98 = .ok (.iconst 0, 1) := by decide +kernel
theorem dX3_readItem_99 : decode cX3_readItem 99 = .ok (.ireturn, 1) := by decide +kernel
theorem dX3_readItem_100 : decode cX3_readItem 100 = .ok (.aload_n 1, 1) := by decide +kernel
theorem dX3_readItem_101 : decode cX3_readItem 101 = .ok (.getfield 56, 3) := by decide +kernel
theorem dX3_readItem_104 : decode cX3_readItem 104 = .ok (.bipush 6, 2) := by decide +kernel
theorem dX3_readItem_106 : decode cX3_readItem 106 = .ok (.if_icmp .ge 15, 3) := by decide +kernel
theorem dX3_readItem_109 : decode cX3_readItem 109 = .ok (.aload_n 0, 1) := by decide +kernel
theorem dX3_readItem_110 : decode cX3_readItem 110 = .ok (.aload_n 1, 1) := by decide +kernel
theorem dX3_readItem_111 : decode cX3_readItem 111 = .ok (.invokevirtual 59, 3) := by decide +kernel
theorem dX3_readItem_114 : decode cX3_readItem 114 = .ok (.ifCond .eq 7, 3) := by decide +kernel
theorem dX3_readItem_117 : decode cX3_readItem 117 = .ok (.iconst 1, 1) := by decide +kernel
theorem dX3_readItem_118 : decode cX3_readItem 118 = .ok (.goto 4, 3) := by decide +kernel
theorem dX3_readItem_121 : decode cX3_readItem 121 = .ok (.iconst 0, 1) := by decide +kernel
theorem dX3_readItem_122 : decode cX3_readItem 122 = .ok (.ireturn, 1) := by decide +kernel
theorem dX3_readItem_123 : decode cX3_readItem 123 = .ok (.aload_n 0, 1) := by decide +kernel
theorem dX3_readItem_124 : decode cX3_readItem 124 = .ok (.aload_n 1, 1) := by decide +kernel
theorem dX3_readItem_125 : decode cX3_readItem 125 = .ok (.invokevirtual 62, 3) := by decide +kernel
theorem dX3_readItem_128 : decode cX3_readItem 128 = .ok (.ireturn, 1) := by decide +kernel
theorem dX3_readItem_129 : decode cX3_readItem 129 = .ok (.aload_n 0, 1) := by decide +kernel
theorem dX3_readItem_130 : decode cX3_readItem 130 = .ok (.getfield 30, 3) := by decide +kernel
theorem dX3_readItem_133 : decode cX3_readItem 133 = .ok (.ifCond .ne 15, 3) := by decide +kernel
theorem dX3_readItem_136 : decode cX3_readItem 136 = .ok (.aload_n 0, 1) := by decide +kernel
theorem dX3_readItem_137 : decode cX3_readItem 137 = .ok (.aload_n 1, 1) := by decide +kernel
theorem dX3_readItem_138 : decode cX3_readItem 138 = .ok (.invokevirtual 65, 3) := by decide +kernel
theorem dX3_readItem_141 : decode cX3_readItem 141 = .ok (.ifCond .eq 7, 3) := by decide +kernel
theorem dX3_readItem_144 : decode cX3_readItem 144 = .ok (.iconst 1, 1) := by decide +kernel
theorem dX3_readItem_145 : decode cX3_readItem 145 = .ok (.goto 4, 3) := by decide +kernel
theorem dX3_readItem_148 : decode cX3_readItem 148 = .ok (.iconst 0, 1) := by decide +kernel
theorem dX3_readItem_149 : decode cX3_readItem 149 = .ok (.ireturn, 1) := by decide +kernel
theorem dX3_readItem_150 : decode cX3_readItem 150 = .ok (.iconst 0, 1) := by decide +kernel
theorem dX3_readItem_151 : decode cX3_readItem 151 = .ok (.ireturn, 1) := by decide +kernel
set_option maxRecDepth 20000 in
theorem ggX3_readSize_X3_stepsToNumber : GoodIn wsX3_readSize wsX3_stepsToNumber := goodIn_r _ [8, 9, 1, 10, 11, 12, 7, 13, 14, 15, 16, 17, 18, 19, 20, 21, 22, 23, 24, 25, 26, 27, 28, 29, 30, 35, 36, 37, 38, 39, 40, 41, 42] (by decide +kernel) (by decide +kernel)
set_option maxRecDepth 20000 in
theorem gX3_readSize_X3_stepsToNumber : GoodIn wsX3_readSize (wsV RX3 68 RX3 yX3_stepsToNumber wsX3_stepsToNumber) := goodIn_app (goodIn_of _ (by decide +kernel)) ggX3_readSize_X3_stepsToNumber
set_option maxRecDepth 20000 in
theorem ggX3_readSize_X3_stepsToEnd : GoodIn wsX3_readSize wsX3_stepsToEnd := goodIn_r _ [34, 9, 10, 11, 12, 7, 13, 14, 15, 16, 17, 1, 18, 19, 20, 21, 22, 23, 24, 25, 26, 27, 35, 36, 37, 38, 39, 40, 41, 42] (by decide +kernel) (by decide +kernel)
set_option maxRecDepth 20000 in
theorem gX3_readSize_X3_stepsToEnd : GoodIn wsX3_readSize (wsV RX3 81 RX3 yX3_stepsToEnd wsX3_stepsToEnd) := goodIn_app (goodIn_of _ (by decide +kernel)) ggX3_readSize_X3_stepsToEnd
theorem dX3_readSize_0 : decode cX3_readSize 0 = .ok (.aload_n 0, 1) := by decide +kernel
theorem dX3_readSize_1 : decode cX3_readSize 1 = .ok (.iconst 2, 1) := by decide +kernel
theorem dX3_readSize_2 : decode cX3_readSize 2 = .ok (.bipush 6, 2) := by decide +kernel
theorem dX3_readSize_4 : decode cX3_readSize 4 = .ok (.invokevirtual 68, 3) := by decide +kernel
theorem dX3_readSize_7 : decode cX3_readSize 7 = .ok (.ifCond .ne 5, 3) := by decide +kernel
theorem dX3_readSize_10 : decode cX3_readSize 10 = .ok (.iconst 0, 1) := by decide +kernel
theorem dX3_readSize_11 : decode cX3_readSize 11 = .ok (.ireturn, 1) := by decide +kernel
theorem dX3_readSize_12 : decode cX3_readSize 12 = .ok (.aload_n 1, 1) := by decide +kernel
theorem dX3_readSize_13 : decode cX3_readSize 13 = .ok (.aload_n 0, 1) := by decide +kernel
theorem dX3_readSize_14 : decode cX3_readSize 14 = .ok (.getfield 72, 3) := by decide +kernel
theorem dX3_readSize_17 : decode cX3_readSize 17 = .ok (.putfield 75, 3) := by decide +kernel
theorem dX3_readSize_20 : decode cX3_readSize 20 = .ok (.aload_n 0, 1) := by decide +kernel
theorem dX3_readSize_21 : decode cX3_readSize 21 = .ok (.iconst 2, 1) := by decide +kernel
theorem dX3_readSize_22 : decode cX3_readSize 22 = .ok (.iconst 5, 1) := by decide +kernel
theorem dX3_readSize_23 : decode cX3_readSize 23 = .ok (.invokevirtual 68, 3) := by decide +kernel
theorem dX3_readSize_26 : decode cX3_readSize 26 = .ok (.ifCond .ne 5, 3) := by decide +kernel
theorem dX3_readSize_29 : decode cX3_readSize 29 = .ok (.iconst 0, 1) := by decide +kernel
theorem dX3_readSize_30 : decode cX3_readSize 30 = .ok (.ireturn, 1) := by decide +kernel
theorem dX3_readSize_31 : decode cX3_readSize 31 = .ok (.aload_n 1, 1) := by decide +kernel
theorem dX3_readSize_32 : decode cX3_readSize 32 = .ok (.aload_n 0, 1) := by decide +kernel
theorem dX3_readSize_33 : decode cX3_readSize 33 = .ok (.getfield 72, 3) := by decide +kernel
theorem dX3_readSize_36 : decode cX3_readSize 36 = .ok (.putfield 78, 3) := by decide +kernel
theorem dX3_readSize_39 : decode cX3_readSize 39 = .ok (.aload_n 0, 1) := by decide +kernel
theorem dX3_readSize_40 : decode cX3_readSize 40 = .ok (.invokevirtual 81, 3) := by decide +kernel
theorem dX3_readSize_43 : decode cX3_readSize 43 = .ok (.ireturn, 1) := by decide +kernel
set_option maxRecDepth 20000 in
theorem ggX3_readIsle_X0_cells : GoodIn wsX3_readIsle wsX0_cells := goodIn_r _ [6, 7, 8, 9, 10, 11, 12, 60, 61, 62, 63, 64, 65, 66, 67, 68, 69] (by decide +kernel) (by decide +kernel)
set_option maxRecDepth 20000 in
theorem gX3_readIsle_X0_cells : GoodIn wsX3_readIsle (wsV RX3 85 RX0 yX0_cells wsX0_cells) := goodIn_app (goodIn_of _ (by decide +kernel)) ggX3_readIsle_X0_cells
set_option maxRecDepth 20000 in
theorem ggX3_readIsle_X3_stepsToNumber : GoodIn wsX3_readIsle wsX3_stepsToNumber := goodIn_r _ [17, 18, 1, 19, 20, 21, 16, 22, 23, 24, 25, 26, 27, 10, 11, 12, 28, 29, 30, 31, 32, 33, 34, 35, 36, 52, 53, 54, 55, 56, 57, 58, 59] (by decide +kernel) (by decide +kernel)
set_option maxRecDepth 20000 in
theorem gX3_readIsle_X3_stepsToNumber : GoodIn wsX3_readIsle (wsV RX3 68 RX3 yX3_stepsToNumber wsX3_stepsToNumber) := goodIn_app (goodIn_of _ (by decide +kernel)) ggX3_readIsle_X3_stepsToNumber
set_option maxRecDepth 20000 in
theorem ggX3_readIsle_X0_onCell : GoodIn wsX3_readIsle wsX0_onCell := goodIn_r _ [40, 41, 60, 61, 62, 63, 64, 65, 66, 67, 68, 69] (by decide +kernel) (by decide +kernel)
set_option maxRecDepth 20000 in
theorem gX3_readIsle_X0_onCell : GoodIn wsX3_readIsle (wsV RX3 89 RX0 yX0_onCell wsX0_onCell) := goodIn_app (goodIn_of _ (by decide +kernel)) ggX3_readIsle_X0_onCell
set_option maxRecDepth 20000 in
theorem ggX3_readIsle_X0_addIsle : GoodIn wsX3_readIsle wsX0_addIsle := goodIn_r _ [45, 46, 47, 41, 60, 61, 62, 63, 64, 65, 66, 67, 68, 69] (by decide +kernel) (by decide +kernel)
set_option maxRecDepth 20000 in
theorem gX3_readIsle_X0_addIsle : GoodIn wsX3_readIsle (wsV RX3 93 RX0 yX0_addIsle wsX0_addIsle) := goodIn_app (goodIn_of _ (by decide +kernel)) ggX3_readIsle_X0_addIsle
set_option maxRecDepth 20000 in
theorem ggX3_readIsle_X3_stepsToEnd : GoodIn wsX3_readIsle wsX3_stepsToEnd := goodIn_r _ [51, 18, 19, 20, 21, 16, 22, 23, 24, 25, 26, 1, 27, 10, 11, 12, 28, 29, 30, 31, 32, 33, 52, 53, 54, 55, 56, 57, 58, 59] (by decide +kernel) (by decide +kernel)
set_option maxRecDepth 20000 in
theorem gX3_readIsle_X3_stepsToEnd : GoodIn wsX3_readIsle (wsV RX3 81 RX3 yX3_stepsToEnd wsX3_stepsToEnd) := goodIn_app (goodIn_of _ (by decide +kernel)) ggX3_readIsle_X3_stepsToEnd
theorem dX3_readIsle_0 : decode cX3_readIsle 0 = .ok (.aload_n 0, 1) := by decide +kernel
theorem dX3_readIsle_1 : decode cX3_readIsle 1 = .ok (.iconst 0, 1) := by decide +kernel
theorem dX3_readIsle_2 : decode cX3_readIsle 2 = .ok (.aload_n 1, 1) := by decide +kernel
theorem dX3_readIsle_3 : decode cX3_readIsle 3 = .ok (.invokevirtual 85, 3) := by decide +kernel
theorem dX3_readIsle_6 : decode cX3_readIsle 6 = .ok (.iconst 1, 1) := by decide +kernel
theorem dX3_readIsle_7 : decode cX3_readIsle 7 = .ok (.isub, 1) := by decide +kernel
theorem dX3_readIsle_8 : decode cX3_readIsle 8 = .ok (.invokevirtual 68, 3) := by decide +kernel
theorem dX3_readIsle_11 : decode cX3_readIsle 11 = .ok (.ifCond .eq 16, 3) := by decide +kernel
theorem dX3_readIsle_14 : decode cX3_readIsle 14 = .ok (.aload_n 1, 1) := by decide +kernel
theorem dX3_readIsle_15 : decode cX3_readIsle 15 = .ok (.aload_n 0, 1) := by decide +kernel
theorem dX3_readIsle_16 : decode cX3_readIsle 16 = .ok (.getfield 72, 3) := by decide +kernel
theorem dX3_readIsle_19 : decode cX3_readIsle 19 = .ok (.invokevirtual 89, 3) := by decide +kernel
theorem dX3_readIsle_22 : decode cX3_readIsle 22 = .ok (.bipush (-9), 2) := by decide +kernel
theorem dX3_readIsle_24 : decode cX3_readIsle 24 = .ok (.if_icmp .eq 5, 3) := by decide +kernel
theorem dX3_readIsle_27 : decode cX3_readIsle 27 = .ok (.iconst 0, 1) := by decide +kernel
theorem dX3_readIsle_28 : decode cX3_readIsle 28 = .ok (.ireturn, 1) := by decide +kernel
theorem dX3_readIsle_29 : decode cX3_readIsle 29 = .ok (.aload_n 1, 1) := by decide +kernel
theorem dX3_readIsle_30 : decode cX3_readIsle 30 = .ok (.aload_n 0, 1) := by decide +kernel
theorem dX3_readIsle_31 : decode cX3_readIsle 31 = .ok (.getfield 72, 3) := by decide +kernel
theorem dX3_readIsle_34 : decode cX3_readIsle 34 = .ok (.invokevirtual 93, 3) := by decide +kernel
theorem dX3_readIsle_37 : decode cX3_readIsle 37 = .ok (.aload_n 0, 1) := by decide +kernel
theorem dX3_readIsle_38 : decode cX3_readIsle 38 = .ok (.invokevirtual 81, 3) := by decide +kernel
theorem dX3_readIsle_41 : decode cX3_readIsle 41 = .ok (.ireturn, 1) := by decide +kernel
set_option maxRecDepth 20000 in
theorem ggX3_readHill_X0_cells : GoodIn wsX3_readHill wsX0_cells := goodIn_r _ [6, 7, 8, 9, 10, 11, 12, 59, 60, 61, 62, 63, 64, 65, 66, 67, 68] (by decide +kernel) (by decide +kernel)
set_option maxRecDepth 20000 in
theorem gX3_readHill_X0_cells : GoodIn wsX3_readHill (wsV RX3 85 RX0 yX0_cells wsX0_cells) := goodIn_app (goodIn_of _ (by decide +kernel)) ggX3_readHill_X0_cells
set_option maxRecDepth 20000 in
theorem ggX3_readHill_X3_stepsToNumber : GoodIn wsX3_readHill wsX3_stepsToNumber := goodIn_r _ [17, 18, 1, 19, 20, 21, 16, 22, 23, 24, 25, 26, 27, 10, 11, 12, 28, 29, 30, 31, 32, 33, 34, 35, 36, 51, 52, 53, 54, 55, 56, 57, 58] (by decide +kernel) (by decide +kernel)
set_option maxRecDepth 20000 in
theorem gX3_readHill_X3_stepsToNumber : GoodIn wsX3_readHill (wsV RX3 68 RX3 yX3_stepsToNumber wsX3_stepsToNumber) := goodIn_app (goodIn_of _ (by decide +kernel)) ggX3_readHill_X3_stepsToNumber
set_option maxRecDepth 20000 in
theorem ggX3_readHill_X0_onCell : GoodIn wsX3_readHill wsX0_onCell := goodIn_r _ [40, 41, 59, 60, 61, 62, 63, 64, 65, 66, 67, 68] (by decide +kernel) (by decide +kernel)
set_option maxRecDepth 20000 in
theorem gX3_readHill_X0_onCell : GoodIn wsX3_readHill (wsV RX3 89 RX0 yX0_onCell wsX0_onCell) := goodIn_app (goodIn_of _ (by decide +kernel)) ggX3_readHill_X0_onCell
set_option maxRecDepth 20000 in
theorem ggX3_readHill_X0_addHill : GoodIn wsX3_readHill wsX0_addHill := goodIn_r _ [45, 41, 46, 59, 60, 61, 62, 63, 64, 65, 66, 67, 68] (by decide +kernel) (by decide +kernel)
set_option maxRecDepth 20000 in
theorem gX3_readHill_X0_addHill : GoodIn wsX3_readHill (wsV RX3 97 RX0 yX0_addHill wsX0_addHill) := goodIn_app (goodIn_of _ (by decide +kernel)) ggX3_readHill_X0_addHill
set_option maxRecDepth 20000 in
theorem ggX3_readHill_X3_stepsToEnd : GoodIn wsX3_readHill wsX3_stepsToEnd := goodIn_r _ [50, 18, 19, 20, 21, 16, 22, 23, 24, 25, 26, 1, 27, 10, 11, 12, 28, 29, 30, 31, 32, 33, 51, 52, 53, 54, 55, 56, 57, 58] (by decide +kernel) (by decide +kernel)
set_option maxRecDepth 20000 in
theorem gX3_readHill_X3_stepsToEnd : GoodIn wsX3_readHill (wsV RX3 81 RX3 yX3_stepsToEnd wsX3_stepsToEnd) := goodIn_app (goodIn_of _ (by decide +kernel)) ggX3_readHill_X3_stepsToEnd
theorem dX3_readHill_0 : decode cX3_readHill 0 = .ok (.aload_n 0, 1) := by decide +kernel
theorem dX3_readHill_1 : decode cX3_readHill 1 = .ok (.iconst 0, 1) := by decide +kernel
theorem dX3_readHill_2 : decode cX3_readHill 2 = .ok (.aload_n 1, 1) := by decide +kernel
theorem dX3_readHill_3 : decode cX3_readHill 3 = .ok (.invokevirtual 85, 3) := by decide +kernel
theorem dX3_readHill_6 : decode cX3_readHill 6 = .ok (.iconst 1, 1) := by decide +kernel
theorem dX3_readHill_7 : decode cX3_readHill 7 = .ok (.isub, 1) := by decide +kernel
theorem dX3_readHill_8 : decode cX3_readHill 8 = .ok (.invokevirtual 68, 3) := by decide +kernel
theorem dX3_readHill_11 : decode cX3_readHill 11 = .ok (.ifCond .eq 16, 3) := by decide +kernel
theorem dX3_readHill_14 : decode cX3_readHill 14 = .ok (.aload_n 1, 1) := by decide +kernel
theorem dX3_readHill_15 : decode cX3_readHill 15 = .ok (.aload_n 0, 1) := by decide +kernel
theorem dX3_readHill_16 : decode cX3_readHill 16 = .ok (.getfield 72, 3) := by decide +kernel
theorem dX3_readHill_19 : decode cX3_readHill 19 = .ok (.invokevirtual 89, 3) := by decide +kernel
theorem dX3_readHill_22 : decode cX3_readHill 22 = .ok (.bipush (-9), 2) := by decide +kernel
theorem dX3_readHill_24 : decode cX3_readHill 24 = .ok (.if_icmp .eq 5, 3) := by decide +kernel
theorem dX3_readHill_27 : decode cX3_readHill 27 = .ok (.iconst 0, 1) := by decide +kernel
theorem dX3_readHill_28 : decode cX3_readHill 28 = .ok (.ireturn, 1) := by decide +kernel
theorem dX3_readHill_29 : decode cX3_readHill 29 = .ok (.aload_n 1, 1) := by decide +kernel
theorem dX3_readHill_30 : decode cX3_readHill 30 = .ok (.aload_n 0, 1) := by decide +kernel
theorem dX3_readHill_31 : decode cX3_readHill 31 = .ok (.getfield 72, 3) := by decide +kernel
theorem dX3_readHill_34 : decode cX3_readHill 34 = .ok (.invokevirtual 97, 3) := by decide +kernel
theorem dX3_readHill_37 : decode cX3_readHill 37 = .ok (.aload_n 0, 1) := by decide +kernel
theorem dX3_readHill_38 : decode cX3_readHill 38 = .ok (.invokevirtual 81, 3) := by decide +kernel
theorem dX3_readHill_41 : decode cX3_readHill 41 = .ok (.ireturn, 1) := by decide +kernel
set_option maxRecDepth 20000 in
theorem ggX3_readForce_X3_stepsToNumber : GoodIn wsX3_readForce wsX3_stepsToNumber := goodIn_r _ [8, 9, 1, 10, 11, 12, 7, 13, 14, 15, 16, 17, 18, 19, 20, 21, 22, 23, 24, 25, 26, 27, 28, 29, 30, 35, 36, 37, 38, 39, 40, 41, 42] (by decide +kernel) (by decide +kernel)
set_option maxRecDepth 20000 in
theorem gX3_readForce_X3_stepsToNumber : GoodIn wsX3_readForce (wsV RX3 68 RX3 yX3_stepsToNumber wsX3_stepsToNumber) := goodIn_app (goodIn_of _ (by decide +kernel)) ggX3_readForce_X3_stepsToNumber
set_option maxRecDepth 20000 in
theorem ggX3_readForce_X3_stepsToEnd : GoodIn wsX3_readForce wsX3_stepsToEnd := goodIn_r _ [34, 9, 10, 11, 12, 7, 13, 14, 15, 16, 17, 1, 18, 19, 20, 21, 22, 23, 24, 25, 26, 27, 35, 36, 37, 38, 39, 40, 41, 42] (by decide +kernel) (by decide +kernel)
set_option maxRecDepth 20000 in
theorem gX3_readForce_X3_stepsToEnd : GoodIn wsX3_readForce (wsV RX3 81 RX3 yX3_stepsToEnd wsX3_stepsToEnd) := goodIn_app (goodIn_of _ (by decide +kernel)) ggX3_readForce_X3_stepsToEnd
theorem dX3_readForce_0 : decode cX3_readForce 0 = .ok (.aload_n 0, 1) := by decide +kernel
theorem dX3_readForce_1 : decode cX3_readForce 1 = .ok (.iconst 1, 1) := by decide +kernel
theorem dX3_readForce_2 : decode cX3_readForce 2 = .ok (.bipush 6, 2) := by decide +kernel
theorem dX3_readForce_4 : decode cX3_readForce 4 = .ok (.invokevirtual 68, 3) := by decide +kernel
theorem dX3_readForce_7 : decode cX3_readForce 7 = .ok (.ifCond .ne 5, 3) := by decide +kernel
theorem dX3_readForce_10 : decode cX3_readForce 10 = .ok (.iconst 0, 1) := by decide +kernel
theorem dX3_readForce_11 : decode cX3_readForce 11 = .ok (.ireturn, 1) := by decide +kernel
theorem dX3_readForce_12 : decode cX3_readForce 12 = .ok (.aload_n 1, 1) := by decide +kernel
theorem dX3_readForce_13 : decode cX3_readForce 13 = .ok (.aload_n 0, 1) := by decide +kernel
theorem dX3_readForce_14 : decode cX3_readForce 14 = .ok (.getfield 72, 3) := by decide +kernel
theorem dX3_readForce_17 : decode cX3_readForce 17 = .ok (.putfield 100, 3) := by decide +kernel
theorem dX3_readForce_20 : decode cX3_readForce 20 = .ok (.aload_n 0, 1) := by decide +kernel
theorem dX3_readForce_21 : decode cX3_readForce 21 = .ok (.iconst 1, 1) := by decide +kernel
theorem dX3_readForce_22 : decode cX3_readForce 22 = .ok (.putfield 30, 3) := by decide +kernel
theorem dX3_readForce_25 : decode cX3_readForce 25 = .ok (.aload_n 0, 1) := by decide +kernel
theorem dX3_readForce_26 : decode cX3_readForce 26 = .ok (.invokevirtual 81, 3) := by decide +kernel
theorem dX3_readForce_29 : decode cX3_readForce 29 = .ok (.ireturn, 1) := by decide +kernel
set_option maxRecDepth 20000 in
theorem ggX3_readWinds_X3_step : GoodIn wsX3_readWinds wsX3_step := goodIn_r _ [8, 9, 10, 11, 12, 2, 13, 14, 15, 16, 1, 17, 18, 7, 19, 20, 21, 22, 30, 31, 32, 33, 34, 35, 36, 37] (by decide +kernel) (by decide +kernel)
set_option maxRecDepth 20000 in
theorem gX3_readWinds_X3_step : GoodIn wsX3_readWinds (wsV RX3 34 RX3 yX3_step wsX3_step) := goodIn_app (goodIn_of _ (by decide +kernel)) ggX3_readWinds_X3_step
set_option maxRecDepth 20000 in
theorem ggX3_readWinds_X0_addWind : GoodIn wsX3_readWinds wsX0_addWind := goodIn_r _ [27, 28, 29, 38, 39, 40, 41, 42, 43, 44, 45, 46, 47] (by decide +kernel) (by decide +kernel)
set_option maxRecDepth 20000 in
theorem gX3_readWinds_X0_addWind : GoodIn wsX3_readWinds (wsV RX3 106 RX0 yX0_addWind wsX0_addWind) := goodIn_app (goodIn_of _ (by decide +kernel)) ggX3_readWinds_X0_addWind
theorem dX3_readWinds_0 : decode cX3_readWinds 0 = .ok (.iconst 0, 1) := by decide +kernel
theorem dX3_readWinds_1 : decode cX3_readWinds 1 = .ok (.istore_n 2, 1) := by decide +kernel
theorem dX3_readWinds_2 : decode cX3_readWinds 2 = .ok (.iload_n 2, 1) := by decide +kernel
theorem dX3_readWinds_3 : decode cX3_readWinds 3 = .ok (.bipush 12, 2) := by decide +kernel
theorem dX3_readWinds_5 : decode cX3_readWinds 5 = .ok (.if_icmp .gt 65, 3) := by decide +kernel
theorem dX3_readWinds_8 : decode cX3_readWinds 8 = .ok (.aload_n 0, 1) := by decide +kernel
theorem dX3_readWinds_9 : decode cX3_readWinds 9 = .ok (.invokevirtual 34, 3) := by decide +kernel
theorem dX3_readWinds_12 : decode cX3_readWinds 12 = .ok (.iload_n 2, 1) := by decide +kernel
theorem dX3_readWinds_13 : decode cX3_readWinds 13 = .ok (.ifCond .le 14, 3) := by decide +kernel
theorem dX3_readWinds_16 : decode cX3_readWinds 16 = .ok (.aload_n 0, 1) := by decide +kernel
theorem dX3_readWinds_17 : decode cX3_readWinds 17 = .ok (.getfield 37, 3) := by decide +kernel
theorem dX3_readWinds_20 : decode cX3_readWinds 20 = .ok (.bipush 59, 2) := by decide +kernel
theorem dX3_readWinds_22 : decode cX3_readWinds 22 = .ok (.if_icmp .ne 5, 3) := by decide +kernel
theorem dX3_readWinds_25 : decode cX3_readWinds 25 = .ok (.iconst 1, 1) := by decide +kernel
theorem dX3_readWinds_26 : decode cX3_readWinds 26 = .ok (.ireturn, 1) := by decide +kernel
theorem dX3_readWinds_27 : decode cX3_readWinds 27 = .ok (.aload_n 0, 1) := by decide +kernel
theorem dX3_readWinds_28 : decode cX3_readWinds 28 = .ok (.getfield 37, 3) := by decide +kernel
theorem dX3_readWinds_31 : decode cX3_readWinds 31 = .ok (.sipush 256, 3) := by decide +kernel
theorem dX3_readWinds_34 : decode cX3_readWinds 34 = .ok (.if_icmp .ne 20, 3) := by decide +kernel
theorem dX3_readWinds_37 : decode cX3_readWinds 37 = .ok (.aload_n 0, 1) := by decide +kernel
theorem dX3_readWinds_38 : decode cX3_readWinds 38 = .ok (.getfield 72, 3) := by decide +kernel
theorem dX3_readWinds_41 : decode cX3_readWinds 41 = .ok (.iconst 4, 1) := by decide +kernel
theorem dX3_readWinds_42 : decode cX3_readWinds 42 = .ok (.if_icmp .gt 12, 3) := by decide +kernel
theorem dX3_readWinds_45 : decode cX3_readWinds 45 = .ok (.aload_n 1, 1) := by decide +kernel
theorem dX3_readWinds_46 : decode cX3_readWinds 46 = .ok (.getfield 103, 3) := by decide +kernel
theorem dX3_readWinds_49 : decode cX3_readWinds 49 = .ok (.bipush 12, 2) := by decide +kernel
theorem dX3_readWinds_51 : decode cX3_readWinds 51 = .ok (.if_icmp .lt 5, 3) := by decide +kernel
theorem dX3_readWinds_54 : decode cX3_readWinds 54 = .ok (.iconst 0, 1) := by decide +kernel
theorem dX3_readWinds_55 : decode cX3_readWinds 55 = .ok (.ireturn, 1) := by decide +kernel
theorem dX3_readWinds_56 : decode cX3_readWinds 56 = .ok (.aload_n 1, 1) := by decide +kernel
theorem dX3_readWinds_57 : decode cX3_readWinds 57 = .ok (.aload_n 0, 1) := by decide +kernel
theorem dX3_readWinds_58 : decode cX3_readWinds 58 = .ok (.getfield 72, 3) := by decide +kernel
theorem dX3_readWinds_61 : decode cX3_readWinds 61 = .ok (.invokevirtual 106, 3) := by decide +kernel
theorem dX3_readWinds_64 : decode cX3_readWinds 64 = .ok (.iinc 2 1, 3) := by decide +kernel
theorem dX3_readWinds_67 : decode cX3_readWinds 67 = .ok (.goto (-65), 3) := by decide +kernel
theorem dX3_readWinds_70 : decode cX3_readWinds 70 = .ok (.iconst 0, 1) := by decide +kernel
theorem dX3_readWinds_71 : decode cX3_readWinds 71 = .ok (.ireturn, 1) := by decide +kernel
set_option maxRecDepth 20000 in
theorem ggX3_stepsToNumber_X3_step : GoodIn wsX3_stepsToNumber wsX3_step := goodIn_r _ [7, 8, 9, 10, 11, 2, 12, 13, 14, 15, 1, 16, 17, 6, 18, 19, 20, 21, 25, 26, 27, 28, 29, 30, 31, 32] (by decide +kernel) (by decide +kernel)
set_option maxRecDepth 20000 in
theorem gX3_stepsToNumber_X3_step : GoodIn wsX3_stepsToNumber (wsV RX3 34 RX3 yX3_step wsX3_step) := goodIn_app (goodIn_of _ (by decide +kernel)) ggX3_stepsToNumber_X3_step
set_option maxRecDepth 20000 in
theorem ggX3_stepsToNumber_X4_isWithin : GoodIn wsX3_stepsToNumber wsX4_isWithin := goodIn_r _ [24] (by decide +kernel) (by decide +kernel)
set_option maxRecDepth 20000 in
theorem gX3_stepsToNumber_X4_isWithin_n109 : GoodIn wsX3_stepsToNumber (wsX4_isWithin) := ggX3_stepsToNumber_X4_isWithin
theorem dX3_stepsToNumber_0 : decode cX3_stepsToNumber 0 = .ok (.aload_n 0, 1) := by decide +kernel
theorem dX3_stepsToNumber_1 : decode cX3_stepsToNumber 1 = .ok (.invokevirtual 34, 3) := by decide +kernel
theorem dX3_stepsToNumber_4 : decode cX3_stepsToNumber 4 = .ok (.aload_n 0, 1) := by decide +kernel
theorem dX3_stepsToNumber_5 : decode cX3_stepsToNumber 5 = .ok (.getfield 37, 3) := by decide +kernel
theorem dX3_stepsToNumber_8 : decode cX3_stepsToNumber 8 = .ok (.sipush 256, 3) := by decide +kernel
theorem dX3_stepsToNumber_11 : decode cX3_stepsToNumber 11 = .ok (.if_icmp .ne 19, 3) := by decide +kernel
theorem dX3_stepsToNumber_14 : decode cX3_stepsToNumber 14 = .ok (.aload_n 0, 1) := by decide +kernel
theorem dX3_stepsToNumber_15 : decode cX3_stepsToNumber 15 = .ok (.getfield 72, 3) := by decide +kernel
theorem dX3_stepsToNumber_18 : decode cX3_stepsToNumber 18 = .ok (.iload_n 1, 1) := by decide +kernel
theorem dX3_stepsToNumber_19 : decode cX3_stepsToNumber 19 = .ok (.iload_n 2, 1) := by decide +kernel
theorem dX3_stepsToNumber_20 : decode cX3_stepsToNumber 20 = .ok (.invokestatic 109, 3) := by decide +kernel
theorem dX3_stepsToNumber_23 : decode cX3_stepsToNumber 23 = .ok (.ifCond .eq 7, 3) := by decide +kernel
theorem dX3_stepsToNumber_26 : decode cX3_stepsToNumber 26 = .ok (.iconst 1, 1) := by decide +kernel
theorem dX3_stepsToNumber_27 : decode cX3_stepsToNumber 27 = .ok (.goto 4, 3) := by decide +kernel
theorem dX3_stepsToNumber_30 : decode cX3_stepsToNumber 30 = .ok (.iconst 0, 1) := by decide +kernel
theorem dX3_stepsToNumber_31 : decode cX3_stepsToNumber 31 = .ok (.ireturn, 1) := by decide +kernel
set_option maxRecDepth 20000 in
theorem ggX3_stepsToEnd_X3_step : GoodIn wsX3_stepsToEnd wsX3_step := goodIn_r _ [6, 7, 8, 9, 10, 11, 12, 13, 14, 15, 1, 16, 17, 5, 18, 19, 20, 21, 22, 23, 24, 25, 26, 27, 28, 29] (by decide +kernel) (by decide +kernel)
set_option maxRecDepth 20000 in
theorem gX3_stepsToEnd_X3_step : GoodIn wsX3_stepsToEnd (wsV RX3 34 RX3 yX3_step wsX3_step) := goodIn_app (goodIn_of _ (by decide +kernel)) ggX3_stepsToEnd_X3_step
theorem dX3_stepsToEnd_0 : decode cX3_stepsToEnd 0 = .ok (.aload_n 0, 1) := by decide +kernel
theorem dX3_stepsToEnd_1 : decode cX3_stepsToEnd 1 = .ok (.invokevirtual 34, 3) := by decide +kernel
theorem dX3_stepsToEnd_4 : decode cX3_stepsToEnd 4 = .ok (.aload_n 0, 1) := by decide +kernel
theorem dX3_stepsToEnd_5 : decode cX3_stepsToEnd 5 = .ok (.getfield 37, 3) := by decide +kernel
theorem dX3_stepsToEnd_8 : decode cX3_stepsToEnd 8 = .ok (.bipush 59, 2) := by decide +kernel
theorem dX3_stepsToEnd_10 : decode cX3_stepsToEnd 10 = .ok (.if_icmp .ne 7, 3) := by decide +kernel
theorem dX3_stepsToEnd_13 : decode cX3_stepsToEnd 13 = .ok (.iconst 1, 1) := by decide +kernel
theorem dX3_stepsToEnd_14 : decode cX3_stepsToEnd 14 = .ok (.goto 4, 3) := by decide +kernel
theorem dX3_stepsToEnd_17 : decode cX3_stepsToEnd 17 = .ok (.iconst 0, 1) := by decide +kernel
theorem dX3_stepsToEnd_18 : decode cX3_stepsToEnd 18 = .ok (.ireturn, 1) := by decide +kernel
set_option maxRecDepth 20000 in
theorem ggX3_step_X3_isDigit : GoodIn wsX3_step wsX3_isDigit := goodIn_r _ [14] (by decide +kernel) (by decide +kernel)
set_option maxRecDepth 20000 in
theorem gX3_step_X3_isDigit : GoodIn wsX3_step (va_wsS RX3 113 yX3_isDigit wsX3_isDigit) := goodIn_app (goodIn_of _ (by decide +kernel)) ggX3_step_X3_isDigit
set_option maxRecDepth 20000 in
theorem ggX3_step_X3_isSign : GoodIn wsX3_step wsX3_isSign := goodIn_r _ [17] (by decide +kernel) (by decide +kernel)
set_option maxRecDepth 20000 in
theorem gX3_step_X3_isSign : GoodIn wsX3_step (va_wsS RX3 123 yX3_isSign wsX3_isSign) := goodIn_app (goodIn_of _ (by decide +kernel)) ggX3_step_X3_isSign
theorem dX3_step_0 : decode cX3_step 0 = .ok (.aload_n 0, 1) := by decide +kernel
theorem dX3_step_1 : decode cX3_step 1 = .ok (.getfield 24, 3) := by decide +kernel
theorem dX3_step_4 : decode cX3_step 4 = .ok (.aload_n 0, 1) := by decide +kernel
theorem dX3_step_5 : decode cX3_step 5 = .ok (.getfield 15, 3) := by decide +kernel
theorem dX3_step_8 : decode cX3_step 8 = .ok (.if_icmp .ge 30, 3) := by decide +kernel
theorem dX3_step_11 : decode cX3_step 11 = .ok (.aload_n 0, 1) := by decide +kernel
theorem dX3_step_12 : decode cX3_step 12 = .ok (.getfield 9, 3) := by decide +kernel
theorem dX3_step_15 : decode cX3_step 15 = .ok (.aload_n 0, 1) := by decide +kernel
theorem dX3_step_16 : decode cX3_step 16 = .ok (.getfield 24, 3) := by decide +kernel
theorem dX3_step_19 : decode cX3_step 19 = .ok (.iaload, 1) := by decide +kernel
theorem dX3_step_20 : decode cX3_step 20 = .ok (.bipush 32, 2) := by decide +kernel
theorem dX3_step_22 : decode cX3_step 22 = .ok (.if_icmp .ne 16, 3) := by decide +kernel
theorem dX3_step_25 : decode cX3_step 25 = .ok (.aload_n 0, 1) := by decide +kernel
theorem dX3_step_26 : decode cX3_step 26 = .ok (.dup, 1) := by decide +kernel
theorem dX3_step_27 : decode cX3_step 27 = .ok (.getfield 24, 3) := by decide +kernel
theorem dX3_step_30 : decode cX3_step 30 = .ok (.iconst 1, 1) := by decide +kernel
theorem dX3_step_31 : decode cX3_step 31 = .ok (.iadd, 1) := by decide +kernel
theorem dX3_step_32 : decode cX3_step 32 = .ok (.putfield 24, 3) := by decide +kernel
theorem dX3_step_35 : decode cX3_step 35 = .ok (.goto (-35), 3) := by decide +kernel
theorem dX3_step_38 : decode cX3_step 38 = .ok (.aload_n 0, 1) := by decide +kernel
theorem dX3_step_39 : decode cX3_step 39 = .ok (.aload_n 0, 1) := by decide +kernel
theorem dX3_step_40 : decode cX3_step 40 = .ok (.getfield 24, 3) := by decide +kernel
theorem dX3_step_43 : decode cX3_step 43 = .ok (.putfield 44, 3) := by decide +kernel
theorem dX3_step_46 : decode cX3_step 46 = .ok (.aload_n 0, 1) := by decide +kernel
theorem dX3_step_47 : decode cX3_step 47 = .ok (.iconst 0, 1) := by decide +kernel
theorem dX3_step_48 : decode cX3_step 48 = .ok (.putfield 72, 3) := by decide +kernel
theorem dX3_step_51 : decode cX3_step 51 = .ok (.aload_n 0, 1) := by decide +kernel
theorem dX3_step_52 : decode cX3_step 52 = .ok (.getfield 24, 3) := by decide +kernel
theorem dX3_step_55 : decode cX3_step 55 = .ok (.aload_n 0, 1) := by decide +kernel
theorem dX3_step_56 : decode cX3_step 56 = .ok (.getfield 15, 3) := by decide +kernel
theorem dX3_step_59 : decode cX3_step 59 = .ok (.if_icmp .ge 60, 3) := by decide +kernel
theorem dX3_step_62 : decode cX3_step 62 = .ok (.aload_n 0, 1) := by decide +kernel
theorem dX3_step_63 : decode cX3_step 63 = .ok (.getfield 9, 3) := by decide +kernel
theorem dX3_step_66 : decode cX3_step 66 = .ok (.aload_n 0, 1) := by decide +kernel
theorem dX3_step_67 : decode cX3_step 67 = .ok (.getfield 24, 3) := by decide +kernel
theorem dX3_step_70 : decode cX3_step 70 = .ok (.iaload, 1) := by decide +kernel
theorem dX3_step_71 : decode cX3_step 71 = .ok (.invokestatic 113, 3) := by decide +kernel
theorem dX3_step_74 : decode cX3_step 74 = .ok (.ifCond .eq 45, 3) := by decide +kernel
theorem dX3_step_77 : decode cX3_step 77 = .ok (.aload_n 0, 1) := by decide +kernel
theorem dX3_step_78 : decode cX3_step 78 = .ok (.aload_n 0, 1) := by decide +kernel
theorem dX3_step_79 : decode cX3_step 79 = .ok (.getfield 72, 3) := by decide +kernel
theorem dX3_step_82 : decode cX3_step 82 = .ok (.bipush 10, 2) := by decide +kernel
theorem dX3_step_84 : decode cX3_step 84 = .ok (.imul, 1) := by decide +kernel
theorem dX3_step_85 : decode cX3_step 85 = .ok (.aload_n 0, 1) := by decide +kernel
theorem dX3_step_86 : decode cX3_step 86 = .ok (.getfield 9, 3) := by decide +kernel
theorem dX3_step_89 : decode cX3_step 89 = .ok (.aload_n 0, 1) := by decide +kernel
theorem dX3_step_90 : decode cX3_step 90 = .ok (.getfield 24, 3) := by decide +kernel
theorem dX3_step_93 : decode cX3_step 93 = .ok (.iaload, 1) := by decide +kernel
theorem dX3_step_94 : decode cX3_step 94 = .ok (.iadd, 1) := by decide +kernel
theorem dX3_step_95 : decode cX3_step 95 = .ok (.bipush 48, 2) := by decide +kernel
theorem dX3_step_97 : decode cX3_step 97 = .ok (.isub, 1) := by decide +kernel
theorem dX3_step_98 : decode cX3_step 98 = .ok (.bipush 30, 2) := by decide +kernel
theorem dX3_step_100 : decode cX3_step 100 = .ok (.invokestatic 117, 3) := by decide +kernel
theorem dX3_step_103 : decode cX3_step 103 = .ok (.putfield 72, 3) := by decide +kernel
theorem dX3_step_106 : decode cX3_step 106 = .ok (.aload_n 0, 1) := by decide +kernel
theorem dX3_step_107 : decode cX3_step 107 = .ok (.dup, 1) := by decide +kernel
theorem dX3_step_108 : decode cX3_step 108 = .ok (.getfield 24, 3) := by decide +kernel
theorem dX3_step_111 : decode cX3_step 111 = .ok (.iconst 1, 1) := by decide +kernel
theorem dX3_step_112 : decode cX3_step 112 = .ok (.iadd, 1) := by decide +kernel
theorem dX3_step_113 : decode cX3_step 113 = .ok (.putfield 24, 3) := by decide +kernel
theorem dX3_step_116 : decode cX3_step 116 = .ok (.goto (-65), 3) := by decide +kernel
theorem dX3_step_119 : decode cX3_step 119 = .ok (.aload_n 0, 1) := by decide +kernel
theorem dX3_step_120 : decode cX3_step 120 = .ok (.getfield 24, 3) := by decide +kernel
theorem dX3_step_123 : decode cX3_step 123 = .ok (.aload_n 0, 1) := by decide +kernel
theorem dX3_step_124 : decode cX3_step 124 = .ok (.getfield 44, 3) := by decide +kernel
theorem dX3_step_127 : decode cX3_step 127 = .ok (.isub, 1) := by decide +kernel
theorem dX3_step_128 : decode cX3_step 128 = .ok (.istore_n 1, 1) := by decide +kernel
theorem dX3_step_129 : decode cX3_step 129 = .ok (.iload_n 1, 1) := by decide +kernel
theorem dX3_step_130 : decode cX3_step 130 = .ok (.ifCond .le 57, 3) := by decide +kernel
theorem dX3_step_133 : decode cX3_step 133 = .ok (.iload_n 1, 1) := by decide +kernel
theorem dX3_step_134 : decode cX3_step 134 = .ok (.iconst 1, 1) := by decide +kernel
theorem dX3_step_135 : decode cX3_step 135 = .ok (.if_icmp .le 21, 3) := by decide +kernel
theorem dX3_step_138 : decode cX3_step 138 = .ok (.aload_n 0, 1) := by decide +kernel
theorem dX3_step_139 : decode cX3_step 139 = .ok (.getfield 9, 3) := by decide +kernel
theorem dX3_step_142 : decode cX3_step 142 = .ok (.aload_n 0, 1) := by decide +kernel
theorem dX3_step_143 : decode cX3_step 143 = .ok (.getfield 44, 3) := by decide +kernel
theorem dX3_step_146 : decode cX3_step 146 = .ok (.iaload, 1) := by decide +kernel
theorem dX3_step_147 : decode cX3_step 147 = .ok (.bipush 48, 2) := by decide +kernel
theorem dX3_step_149 : decode cX3_step 149 = .ok (.if_icmp .ne 7, 3) := by decide +kernel
theorem dX3_step_152 : decode cX3_step 152 = .ok (.iconst 1, 1) := by decide +kernel
theorem dX3_step_153 : decode cX3_step 153 = .ok (.goto 4, 3) := by decide +kernel
theorem dX3_step_156 : decode cX3_step 156 = .ok (.iconst 0, 1) := by decide +kernel
theorem dX3_step_157 : decode cX3_step 157 = .ok (.istore_n 2, 1) := by decide +kernel
theorem dX3_step_158 : decode cX3_step 158 = .ok (.aload_n 0, 1) := by decide +kernel
theorem dX3_step_159 : decode cX3_step 159 = .ok (.iload_n 2, 1) := by decide +kernel
theorem dX3_step_160 : decode cX3_step 160 = .ok (.ifCond .ne 12, 3) := by decide +kernel
theorem dX3_step_163 : decode cX3_step 163 = .ok (.aload_n 0, 1) := by decide +kernel
theorem dX3_step_164 : decode cX3_step 164 = .ok (.getfield 72, 3) := by decide +kernel
theorem dX3_step_167 : decode cX3_step 167 = .ok (.bipush 29, 2) := by decide +kernel
theorem dX3_step_169 : decode cX3_step 169 = .ok (.if_icmp .le 9, 3) := by decide +kernel
theorem dX3_step_172 : decode cX3_step 172 = .ok (.sipush 258, 3) := by decide +kernel
theorem dX3_step_175 : decode cX3_step 175 = .ok (.goto 6, 3) := by decide +kernel
theorem dX3_step_178 : decode cX3_step 178 = .ok (.sipush 256, 3) := by decide +kernel
theorem dX3_step_181 : decode cX3_step 181 = .ok (.putfield 37, 3) := by decide +kernel
theorem dX3_step_184 : decode cX3_step 184 = .ok (.goto 68, 3) := by decide +kernel
theorem dX3_step_187 : decode cX3_step 187 = .ok (.aload_n 0, 1) := by decide +kernel
theorem dX3_step_188 : decode cX3_step 188 = .ok (.getfield 24, 3) := by decide +kernel
theorem dX3_step_191 : decode cX3_step 191 = .ok (.aload_n 0, 1) := by decide +kernel
theorem dX3_step_192 : decode cX3_step 192 = .ok (.getfield 15, 3) := by decide +kernel
theorem dX3_step_195 : decode cX3_step 195 = .ok (.if_icmp .lt 13, 3) := by decide +kernel
theorem dX3_step_198 : decode cX3_step 198 = .ok (.aload_n 0, 1) := by decide +kernel
theorem dX3_step_199 : decode cX3_step 199 = .ok (.sipush 257, 3) := by decide +kernel
theorem dX3_step_202 : decode cX3_step 202 = .ok (.putfield 37, 3) := by decide +kernel
theorem dX3_step_205 : decode cX3_step 205 = .ok (.goto 47, 3) := by decide +kernel
theorem dX3_step_208 : decode cX3_step 208 = .ok (.aload_n 0, 1) := by decide +kernel
theorem dX3_step_209 : decode cX3_step 209 = .ok (.aload_n 0, 1) := by decide +kernel
theorem dX3_step_210 : decode cX3_step 210 = .ok (.getfield 9, 3) := by decide +kernel
theorem dX3_step_213 : decode cX3_step 213 = .ok (.aload_n 0, 1) := by decide +kernel
theorem dX3_step_214 : decode cX3_step 214 = .ok (.getfield 24, 3) := by decide +kernel
theorem dX3_step_217 : decode cX3_step 217 = .ok (.iaload, 1) := by decide +kernel
theorem dX3_step_218 : decode cX3_step 218 = .ok (.invokestatic 123, 3) := by decide +kernel
theorem dX3_step_221 : decode cX3_step 221 = .ok (.ifCond .eq 15, 3) := by decide +kernel
theorem dX3_step_224 : decode cX3_step 224 = .ok (.aload_n 0, 1) := by decide +kernel
theorem dX3_step_225 : decode cX3_step 225 = .ok (.getfield 9, 3) := by decide +kernel
theorem dX3_step_228 : decode cX3_step 228 = .ok (.aload_n 0, 1) := by decide +kernel
theorem dX3_step_229 : decode cX3_step 229 = .ok (.getfield 24, 3) := by decide +kernel
theorem dX3_step_232 : decode cX3_step 232 = .ok (.iaload, 1) := by decide +kernel
theorem dX3_step_233 : decode cX3_step 233 = .ok (.goto 6, 3) := by decide +kernel
theorem dX3_step_236 : decode cX3_step 236 = .ok (.sipush 258, 3) := by decide +kernel
theorem dX3_step_239 : decode cX3_step 239 = .ok (.putfield 37, 3) := by decide +kernel
theorem dX3_step_242 : decode cX3_step 242 = .ok (.aload_n 0, 1) := by decide +kernel
theorem dX3_step_243 : decode cX3_step 243 = .ok (.dup, 1) := by decide +kernel
theorem dX3_step_244 : decode cX3_step 244 = .ok (.getfield 24, 3) := by decide +kernel
theorem dX3_step_247 : decode cX3_step 247 = .ok (.iconst 1, 1) := by decide +kernel
theorem dX3_step_248 : decode cX3_step 248 = .ok (.iadd, 1) := by decide +kernel
theorem dX3_step_249 : decode cX3_step 249 = .ok (.putfield 24, 3) := by decide +kernel
theorem dX3_step_252 : decode cX3_step 252 = .ok (.return_, 1) := by decide +kernel
theorem dX3_isDigit_0 : decode cX3_isDigit 0 = .ok (.iload_n 0, 1) := by decide +kernel
theorem dX3_isDigit_1 : decode cX3_isDigit 1 = .ok (.bipush 48, 2) := by decide +kernel
theorem dX3_isDigit_3 : decode cX3_isDigit 3 = .ok (.if_icmp .lt 13, 3) := by decide +kernel
theorem dX3_isDigit_6 : decode cX3_isDigit 6 = .ok (.iload_n 0, 1) := by decide +kernel
theorem dX3_isDigit_7 : decode cX3_isDigit 7 = .ok (.bipush 57, 2) := by decide +kernel
theorem dX3_isDigit_9 : decode cX3_isDigit 9 = .ok (.if_icmp .gt 7, 3) := by decide +kernel
theorem dX3_isDigit_12 : decode cX3_isDigit 12 = .ok (.iconst 1, 1) := by decide +kernel
theorem dX3_isDigit_13 : decode cX3_isDigit 13 = .ok (.goto 4, 3) := by decide +kernel
theorem dX3_isDigit_16 : decode cX3_isDigit 16 = .ok (.iconst 0, 1) := by decide +kernel
theorem dX3_isDigit_17 : decode cX3_isDigit 17 = .ok (.ireturn, 1) := by decide +kernel
theorem dX3_isSign_0 : decode cX3_isSign 0 = .ok (.iload_n 0, 1) := by decide +kernel
theorem dX3_isSign_1 : decode cX3_isSign 1 = .ok (.bipush 103, 2) := by decide +kernel
theorem dX3_isSign_3 : decode cX3_isSign 3 = .ok (.if_icmp .eq 33, 3) := by decide +kernel
theorem dX3_isSign_6 : decode cX3_isSign 6 = .ok (.iload_n 0, 1) := by decide +kernel
theorem dX3_isSign_7 : decode cX3_isSign 7 = .ok (.bipush 105, 2) := by decide +kernel
theorem dX3_isSign_9 : decode cX3_isSign 9 = .ok (.if_icmp .eq 27, 3) := by decide +kernel
theorem dX3_isSign_12 : decode cX3_isSign 12 = .ok (.iload_n 0, 1) := by decide +kernel
theorem dX3_isSign_13 : decode cX3_isSign 13 = .ok (.bipush 120, 2) := by decide +kernel
theorem dX3_isSign_15 : decode cX3_isSign 15 = .ok (.if_icmp .eq 21, 3) := by decide +kernel
theorem dX3_isSign_18 : decode cX3_isSign 18 = .ok (.iload_n 0, 1) := by decide +kernel
theorem dX3_isSign_19 : decode cX3_isSign 19 = .ok (.bipush 98, 2) := by decide +kernel
theorem dX3_isSign_21 : decode cX3_isSign 21 = .ok (.if_icmp .eq 15, 3) := by decide +kernel
theorem dX3_isSign_24 : decode cX3_isSign 24 = .ok (.iload_n 0, 1) := by decide +kernel
theorem dX3_isSign_25 : decode cX3_isSign 25 = .ok (.bipush 102, 2) := by decide +kernel
theorem dX3_isSign_27 : decode cX3_isSign 27 = .ok (.if_icmp .eq 9, 3) := by decide +kernel
theorem dX3_isSign_30 : decode cX3_isSign 30 = .ok (.iload_n 0, 1) := by decide +kernel
theorem dX3_isSign_31 : decode cX3_isSign 31 = .ok (.bipush 59, 2) := by decide +kernel
theorem dX3_isSign_33 : decode cX3_isSign 33 = .ok (.if_icmp .ne 7, 3) := by decide +kernel
theorem dX3_isSign_36 : decode cX3_isSign 36 = .ok (.iconst 1, 1) := by decide +kernel
theorem dX3_isSign_37 : decode cX3_isSign 37 = .ok (.goto 4, 3) := by decide +kernel
theorem dX3_isSign_40 : decode cX3_isSign 40 = .ok (.iconst 0, 1) := by decide +kernel
theorem dX3_isSign_41 : decode cX3_isSign 41 = .ok (.ireturn, 1) := by decide +kernel
set_option maxRecDepth 20000 in
theorem ggX4_init_X3_init : GoodIn wsX4_init wsX3_init := goodIn_r _ [27, 28, 2, 3, 29, 30, 83, 84, 85, 86, 87, 88, 89, 90] (by decide +kernel) (by decide +kernel)
set_option maxRecDepth 20000 in
theorem gX4_init_X3_init_n9 : GoodIn wsX4_init (wsX3_init) := ggX4_init_X3_init
set_option maxRecDepth 20000 in
theorem ggX4_init_X0_init : GoodIn wsX4_init wsX0_init := goodIn_r _ [33, 34, 2, 3, 29, 35, 36, 37, 38, 39, 40, 41, 10, 42, 43, 44, 45, 46, 47, 48, 49, 50, 51, 52, 53, 54, 55, 56, 57, 58, 59, 60, 61, 62, 63, 64, 65, 66, 67, 68, 69, 70, 71, 72, 103, 104, 105, 106, 107, 108, 109, 110, 111, 112] (by decide +kernel) (by decide +kernel)
set_option maxRecDepth 20000 in
theorem gX4_init_X0_init : GoodIn wsX4_init (wsX0_init) := ggX4_init_X0_init
set_option maxRecDepth 20000 in
theorem ggX4_init_X2_init : GoodIn wsX4_init wsX2_init := goodIn_r _ [75, 76, 2, 3, 29, 77, 78, 79, 22, 23, 80, 81, 82, 113, 114, 115, 116, 117, 118, 119, 120, 121, 122, 123, 124, 125] (by decide +kernel) (by decide +kernel)
set_option maxRecDepth 20000 in
theorem gX4_init_X2_init : GoodIn wsX4_init (wsX2_init) := ggX4_init_X2_init
set_option maxRecDepth 20000 in
theorem ggX4_init_X1_init : GoodIn wsX4_init wsX1_init := goodIn_r _ [81, 82, 2, 3] (by decide +kernel) (by decide +kernel)
set_option maxRecDepth 20000 in
theorem gX4_init_X1_init_n46 : GoodIn wsX4_init (wsX1_init) := ggX4_init_X1_init
theorem dX4_init_0 : decode cX4_init 0 = .ok (.aload_n 0, 1) := by decide +kernel
theorem dX4_init_1 : decode cX4_init 1 = .ok (.invokespecial 1, 3) := by decide +kernel
theorem dX4_init_4 : decode cX4_init 4 = .ok (.aload_n 0, 1) := by decide +kernel
theorem dX4_init_5 : decode cX4_init 5 = .ok (.new 7, 3) := by decide +kernel
theorem dX4_init_8 : decode cX4_init 8 = .ok (.dup, 1) := by decide +kernel
theorem dX4_init_9 : decode cX4_init 9 = .ok (.invokespecial 9, 3) := by decide +kernel
theorem dX4_init_12 : decode cX4_init 12 = .ok (.putfield 10, 3) := by decide +kernel
theorem dX4_init_15 : decode cX4_init 15 = .ok (.aload_n 0, 1) := by decide +kernel
theorem dX4_init_16 : decode cX4_init 16 = .ok (.new 16, 3) := by decide +kernel
theorem dX4_init_19 : decode cX4_init 19 = .ok (.dup, 1) := by decide +kernel
theorem dX4_init_20 : decode cX4_init 20 = .ok (.invokespecial 18, 3) := by decide +kernel
theorem dX4_init_23 : decode cX4_init 23 = .ok (.putfield 19, 3) := by decide +kernel
theorem dX4_init_26 : decode cX4_init 26 = .ok (.aload_n 0, 1) := by decide +kernel
theorem dX4_init_27 : decode cX4_init 27 = .ok (.new 16, 3) := by decide +kernel
theorem dX4_init_30 : decode cX4_init 30 = .ok (.dup, 1) := by decide +kernel
theorem dX4_init_31 : decode cX4_init 31 = .ok (.invokespecial 18, 3) := by decide +kernel
theorem dX4_init_34 : decode cX4_init 34 = .ok (.putfield 23, 3) := by decide +kernel
theorem dX4_init_37 : decode cX4_init 37 = .ok (.aload_n 0, 1) := by decide +kernel
theorem dX4_init_38 : decode cX4_init 38 = .ok (.new 26, 3) := by decide +kernel
theorem dX4_init_41 : decode cX4_init 41 = .ok (.dup, 1) := by decide +kernel
theorem dX4_init_42 : decode cX4_init 42 = .ok (.invokespecial 28, 3) := by decide +kernel
theorem dX4_init_45 : decode cX4_init 45 = .ok (.putfield 29, 3) := by decide +kernel
theorem dX4_init_48 : decode cX4_init 48 = .ok (.aload_n 0, 1) := by decide +kernel
theorem dX4_init_49 : decode cX4_init 49 = .ok (.bipush 10, 2) := by decide +kernel
theorem dX4_init_51 : decode cX4_init 51 = .ok (.anewarray 26, 3) := by decide +kernel
theorem dX4_init_54 : decode cX4_init 54 = .ok (.putfield 33, 3) := by decide +kernel
theorem dX4_init_57 : decode cX4_init 57 = .ok (.iconst 0, 1) := by decide +kernel
theorem dX4_init_58 : decode cX4_init 58 = .ok (.istore_n 1, 1) := by decide +kernel
theorem dX4_init_59 : decode cX4_init 59 = .ok (.iload_n 1, 1) := by decide +kernel
theorem dX4_init_60 : decode cX4_init 60 = .ok (.bipush 10, 2) := by decide +kernel
theorem dX4_init_62 : decode cX4_init 62 = .ok (.if_icmp .ge 22, 3) := by decide +kernel
theorem dX4_init_65 : decode cX4_init 65 = .ok (.aload_n 0, 1) := by decide +kernel
theorem dX4_init_66 : decode cX4_init 66 = .ok (.getfield 33, 3) := by decide +kernel
theorem dX4_init_69 : decode cX4_init 69 = .ok (.iload_n 1, 1) := by decide +kernel
theorem dX4_init_70 : decode cX4_init 70 = .ok (.new 26, 3) := by decide +kernel
theorem dX4_init_73 : decode cX4_init 73 = .ok (.dup, 1) := by decide +kernel
theorem dX4_init_74 : decode cX4_init 74 = .ok (.invokespecial 28, 3) := by decide +kernel
theorem dX4_init_77 : decode cX4_init 77 = .ok (.aastore, 1) := by decide +kernel
theorem dX4_init_78 : decode cX4_init 78 = .ok (.iinc 1 1, 3) := by decide +kernel
theorem dX4_init_81 : decode cX4_init 81 = .ok (.goto (-22), 3) := by decide +kernel
theorem dX4_init_84 : decode cX4_init 84 = .ok (.aload_n 0, 1) := by decide +kernel
theorem dX4_init_85 : decode cX4_init 85 = .ok (.iconst 2, 1) := by decide +kernel
theorem dX4_init_86 : decode cX4_init 86 = .ok (.anewarray 26, 3) := by decide +kernel
theorem dX4_init_89 : decode cX4_init 89 = .ok (.putfield 37, 3) := by decide +kernel
theorem dX4_init_92 : decode cX4_init 92 = .ok (.iconst 0, 1) := by decide +kernel
theorem dX4_init_93 : decode cX4_init 93 = .ok (.istore_n 1, 1) := by decide +kernel
theorem dX4_init_94 : decode cX4_init 94 = .ok (.iload_n 1, 1) := by decide +kernel
theorem dX4_init_95 : decode cX4_init 95 = .ok (.iconst 2, 1) := by decide +kernel
theorem dX4_init_96 : decode cX4_init 96 = .ok (.if_icmp .ge 22, 3) := by decide +kernel
theorem dX4_init_99 : decode cX4_init 99 = .ok (.aload_n 0, 1) := by decide +kernel
theorem dX4_init_100 : decode cX4_init 100 = .ok (.getfield 37, 3) := by decide +kernel
theorem dX4_init_103 : decode cX4_init 103 = .ok (.iload_n 1, 1) := by decide +kernel
theorem dX4_init_104 : decode cX4_init 104 = .ok (.new 26, 3) := by decide +kernel
theorem dX4_init_107 : decode cX4_init 107 = .ok (.dup, 1) := by decide +kernel
theorem dX4_init_108 : decode cX4_init 108 = .ok (.invokespecial 28, 3) := by decide +kernel
theorem dX4_init_111 : decode cX4_init 111 = .ok (.aastore, 1) := by decide +kernel
theorem dX4_init_112 : decode cX4_init 112 = .ok (.iinc 1 1, 3) := by decide +kernel
theorem dX4_init_115 : decode cX4_init 115 = .ok (.goto (-21), 3) := by decide +kernel
theorem dX4_init_118 : decode cX4_init 118 = .ok (.aload_n 0, 1) := by decide +kernel
theorem dX4_init_119 : decode cX4_init 119 = .ok (.iconst 2, 1) := by decide +kernel
theorem dX4_init_120 : decode cX4_init 120 = .ok (.newarray .boolean, 2) := by decide +kernel
theorem dX4_init_122 : decode cX4_init 122 = .ok (.putfield 40, 3) := by decide +kernel
theorem dX4_init_125 : decode cX4_init 125 = .ok (.aload_n 0, 1) := by decide +kernel
theorem dX4_init_126 : decode cX4_init 126 = .ok (.new 44, 3) := by decide +kernel
theorem dX4_init_129 : decode cX4_init 129 = .ok (.dup, 1) := by decide +kernel
theorem dX4_init_130 : decode cX4_init 130 = .ok (.invokespecial 46, 3) := by decide +kernel
theorem dX4_init_133 : decode cX4_init 133 = .ok (.putfield 47, 3) := by decide +kernel
theorem dX4_init_136 : decode cX4_init 136 = .ok (.aload_n 0, 1) := by decide +kernel
theorem dX4_init_137 : decode cX4_init 137 = .ok (.new 44, 3) := by decide +kernel
theorem dX4_init_140 : decode cX4_init 140 = .ok (.dup, 1) := by decide +kernel
theorem dX4_init_141 : decode cX4_init 141 = .ok (.invokespecial 46, 3) := by decide +kernel
theorem dX4_init_144 : decode cX4_init 144 = .ok (.putfield 51, 3) := by decide +kernel
theorem dX4_init_147 : decode cX4_init 147 = .ok (.return_, 1) := by decide +kernel
set_option maxRecDepth 20000 in
theorem ggX4_type_X4_isWithin : GoodIn wsX4_type wsX4_isWithin := goodIn_r _ [6] (by decide +kernel) (by decide +kernel)
set_option maxRecDepth 20000 in
theorem gX4_type_X4_isWithin : GoodIn wsX4_type (va_wsS RX4 54 yX4_isWithin wsX4_isWithin) := goodIn_app (goodIn_of _ (by decide +kernel)) ggX4_type_X4_isWithin
set_option maxRecDepth 20000 in
theorem ggX4_type_X3_add : GoodIn wsX4_type wsX3_add := goodIn_r _ [11, 12, 13, 26, 27, 28, 29, 30, 31, 32, 33] (by decide +kernel) (by decide +kernel)
set_option maxRecDepth 20000 in
theorem gX4_type_X3_add : GoodIn wsX4_type (wsV RX4 62 RX3 yX3_add wsX3_add) := goodIn_app (goodIn_of _ (by decide +kernel)) ggX4_type_X3_add
theorem dX4_type_0 : decode cX4_type 0 = .ok (.iload_n 1, 1) := by decide +kernel
theorem dX4_type_1 : decode cX4_type 1 = .ok (.iconst 0, 1) := by decide +kernel
theorem dX4_type_2 : decode cX4_type 2 = .ok (.sipush 255, 3) := by decide +kernel
theorem dX4_type_5 : decode cX4_type 5 = .ok (.invokestatic 54, 3) := by decide +kernel
theorem dX4_type_8 : decode cX4_type 8 = .ok (.ifCond .ne 5, 3) := by decide +kernel
theorem dX4_type_11 : decode cX4_type 11 = .ok (.iconst (-1), 1) := by decide +kernel
theorem dX4_type_12 : decode cX4_type 12 = .ok (.ireturn, 1) := by decide +kernel
theorem dX4_type_13 : decode cX4_type 13 = .ok (.aload_n 0, 1) := by decide +kernel
theorem dX4_type_14 : decode cX4_type 14 = .ok (.getfield 10, 3) := by decide +kernel
theorem dX4_type_17 : decode cX4_type 17 = .ok (.getfield 58, 3) := by decide +kernel
theorem dX4_type_20 : decode cX4_type 20 = .ok (.sipush 200, 3) := by decide +kernel
theorem dX4_type_23 : decode cX4_type 23 = .ok (.if_icmp .lt 6, 3) := by decide +kernel
theorem dX4_type_26 : decode cX4_type 26 = .ok (.bipush (-3), 2) := by decide +kernel
theorem dX4_type_28 : decode cX4_type 28 = .ok (.ireturn, 1) := by decide +kernel
theorem dX4_type_29 : decode cX4_type 29 = .ok (.aload_n 0, 1) := by decide +kernel
theorem dX4_type_30 : decode cX4_type 30 = .ok (.getfield 10, 3) := by decide +kernel
theorem dX4_type_33 : decode cX4_type 33 = .ok (.iload_n 1, 1) := by decide +kernel
theorem dX4_type_34 : decode cX4_type 34 = .ok (.invokevirtual 62, 3) := by decide +kernel
theorem dX4_type_37 : decode cX4_type 37 = .ok (.aload_n 0, 1) := by decide +kernel
theorem dX4_type_38 : decode cX4_type 38 = .ok (.getfield 10, 3) := by decide +kernel
theorem dX4_type_41 : decode cX4_type 41 = .ok (.getfield 58, 3) := by decide +kernel
theorem dX4_type_44 : decode cX4_type 44 = .ok (.ireturn, 1) := by decide +kernel
theorem dX4_clear_0 : decode cX4_clear 0 = .ok (.aload_n 0, 1) := by decide +kernel
theorem dX4_clear_1 : decode cX4_clear 1 = .ok (.getfield 10, 3) := by decide +kernel
theorem dX4_clear_4 : decode cX4_clear 4 = .ok (.getfield 58, 3) := by decide +kernel
theorem dX4_clear_7 : decode cX4_clear 7 = .ok (.istore_n 1, 1) := by decide +kernel
theorem dX4_clear_8 : decode cX4_clear 8 = .ok (.aload_n 0, 1) := by decide +kernel
theorem dX4_clear_9 : decode cX4_clear 9 = .ok (.getfield 10, 3) := by decide +kernel
theorem dX4_clear_12 : decode cX4_clear 12 = .ok (.iconst 0, 1) := by decide +kernel
theorem dX4_clear_13 : decode cX4_clear 13 = .ok (.putfield 58, 3) := by decide +kernel
theorem dX4_clear_16 : decode cX4_clear 16 = .ok (.iload_n 1, 1) := by decide +kernel
theorem dX4_clear_17 : decode cX4_clear 17 = .ok (.ireturn, 1) := by decide +kernel
set_option maxRecDepth 20000 in
theorem ggX4_sea_X3_readInto : GoodIn wsX4_sea wsX3_readInto := goodIn_r _ [12, 13, 14, 15, 16, 17, 18, 19, 20, 21, 22, 23, 24, 25, 26, 27, 28, 29, 30, 31, 32, 11, 33, 34, 35, 36, 37, 38, 39, 40, 41, 42, 43, 44, 45, 46, 47, 48, 49, 50, 51, 52, 53, 54, 55, 56, 57, 58, 59, 60, 61, 62, 63, 64, 65, 66, 67, 68, 69, 70, 71, 72, 73, 74, 75, 76, 77, 78, 79, 80, 81, 82, 83, 84, 85, 86, 87, 88, 89, 90, 91, 92, 93, 94, 95, 96, 97, 98, 99, 100, 101, 102, 103, 104, 105, 106, 107, 108, 109, 110, 150, 151, 152, 153, 154, 155, 156, 157, 158, 159, 160, 161, 162, 163, 164, 165, 166, 167] (by decide +kernel) (by decide +kernel)
set_option maxRecDepth 20000 in
theorem gX4_sea_X3_readInto : GoodIn wsX4_sea (wsV RX4 66 RX3 yX3_readInto wsX3_readInto) := goodIn_app (goodIn_of _ (by decide +kernel)) ggX4_sea_X3_readInto
set_option maxRecDepth 20000 in
theorem ggX4_sea_X0_drawEnds : GoodIn wsX4_sea wsX0_drawEnds := goodIn_r _ [114, 115, 75, 76, 21, 77, 23, 24, 78, 38, 39, 40, 116, 117, 118, 119, 120, 121, 122, 123, 124, 125, 80, 81, 82, 29, 158, 159, 160, 161, 162, 163, 164, 165, 166, 167] (by decide +kernel) (by decide +kernel)
set_option maxRecDepth 20000 in
theorem gX4_sea_X0_drawEnds : GoodIn wsX4_sea (wsV RX4 70 RX0 yX0_drawEnds wsX0_drawEnds) := goodIn_app (goodIn_of _ (by decide +kernel)) ggX4_sea_X0_drawEnds
set_option maxRecDepth 20000 in
theorem ggX4_sea_X2_beginAnew : GoodIn wsX4_sea wsX2_beginAnew := goodIn_r _ [130, 131, 132, 133, 134, 135, 136, 137, 168, 169, 170, 171, 172, 173, 158, 159, 160, 161, 162, 163, 164, 165, 166, 167] (by decide +kernel) (by decide +kernel)
set_option maxRecDepth 20000 in
theorem gX4_sea_X2_beginAnew : GoodIn wsX4_sea (wsV RX4 73 RX2 yX2_beginAnew wsX2_beginAnew) := goodIn_app (goodIn_of _ (by decide +kernel)) ggX4_sea_X2_beginAnew
theorem dX4_sea_0 : decode cX4_sea 0 = .ok (.aload_n 0, 1) := by decide +kernel
theorem dX4_sea_1 : decode cX4_sea 1 = .ok (.getfield 10, 3) := by decide +kernel
theorem dX4_sea_4 : decode cX4_sea 4 = .ok (.aload_n 0, 1) := by decide +kernel
theorem dX4_sea_5 : decode cX4_sea 5 = .ok (.getfield 23, 3) := by decide +kernel
theorem dX4_sea_8 : decode cX4_sea 8 = .ok (.invokevirtual 66, 3) := by decide +kernel
theorem dX4_sea_11 : decode cX4_sea 11 = .ok (.istore_n 1, 1) := by decide +kernel
theorem dX4_sea_12 : decode cX4_sea 12 = .ok (.iload_n 1, 1) := by decide +kernel
theorem dX4_sea_13 : decode cX4_sea 13 = .ok (.ifCond .ge 5, 3) := by decide +kernel
theorem dX4_sea_16 : decode cX4_sea 16 = .ok (.iload_n 1, 1) := by decide +kernel
theorem dX4_sea_17 : decode cX4_sea 17 = .ok (.ireturn, 1) := by decide +kernel
theorem dX4_sea_18 : decode cX4_sea 18 = .ok (.aload_n 0, 1) := by decide +kernel
theorem dX4_sea_19 : decode cX4_sea 19 = .ok (.getfield 19, 3) := by decide +kernel
theorem dX4_sea_22 : decode cX4_sea 22 = .ok (.astore_n 2, 1) := by decide +kernel
theorem dX4_sea_23 : decode cX4_sea 23 = .ok (.aload_n 0, 1) := by decide +kernel
theorem dX4_sea_24 : decode cX4_sea 24 = .ok (.aload_n 0, 1) := by decide +kernel
theorem dX4_sea_25 : decode cX4_sea 25 = .ok (.getfield 23, 3) := by decide +kernel
theorem dX4_sea_28 : decode cX4_sea 28 = .ok (.putfield 19, 3) := by decide +kernel
theorem dX4_sea_31 : decode cX4_sea 31 = .ok (.aload_n 0, 1) := by decide +kernel
theorem dX4_sea_32 : decode cX4_sea 32 = .ok (.aload_n 2, 1) := by decide +kernel
theorem dX4_sea_33 : decode cX4_sea 33 = .ok (.putfield 23, 3) := by decide +kernel
theorem dX4_sea_36 : decode cX4_sea 36 = .ok (.aload_n 0, 1) := by decide +kernel
theorem dX4_sea_37 : decode cX4_sea 37 = .ok (.getfield 19, 3) := by decide +kernel
theorem dX4_sea_40 : decode cX4_sea 40 = .ok (.invokevirtual 70, 3) := by decide +kernel
theorem dX4_sea_43 : decode cX4_sea 43 = .ok (.aload_n 0, 1) := by decide +kernel
theorem dX4_sea_44 : decode cX4_sea 44 = .ok (.getfield 10, 3) := by decide +kernel
theorem dX4_sea_47 : decode cX4_sea 47 = .ok (.iconst 0, 1) := by decide +kernel
theorem dX4_sea_48 : decode cX4_sea 48 = .ok (.putfield 58, 3) := by decide +kernel
theorem dX4_sea_51 : decode cX4_sea 51 = .ok (.aload_n 0, 1) := by decide +kernel
theorem dX4_sea_52 : decode cX4_sea 52 = .ok (.getfield 29, 3) := by decide +kernel
theorem dX4_sea_55 : decode cX4_sea 55 = .ok (.aload_n 0, 1) := by decide +kernel
theorem dX4_sea_56 : decode cX4_sea 56 = .ok (.getfield 19, 3) := by decide +kernel
theorem dX4_sea_59 : decode cX4_sea 59 = .ok (.invokevirtual 73, 3) := by decide +kernel
theorem dX4_sea_62 : decode cX4_sea 62 = .ok (.aload_n 0, 1) := by decide +kernel
theorem dX4_sea_63 : decode cX4_sea 63 = .ok (.iconst 0, 1) := by decide +kernel
theorem dX4_sea_64 : decode cX4_sea 64 = .ok (.putfield 77, 3) := by decide +kernel
theorem dX4_sea_67 : decode cX4_sea 67 = .ok (.iconst 0, 1) := by decide +kernel
theorem dX4_sea_68 : decode cX4_sea 68 = .ok (.istore_n 3, 1) := by decide +kernel
theorem dX4_sea_69 : decode cX4_sea 69 = .ok (.iload_n 3, 1) := by decide +kernel
theorem dX4_sea_70 : decode cX4_sea 70 = .ok (.iconst 2, 1) := by decide +kernel
theorem dX4_sea_71 : decode cX4_sea 71 = .ok (.if_icmp .ge 16, 3) := by decide +kernel
theorem dX4_sea_74 : decode cX4_sea 74 = .ok (.aload_n 0, 1) := by decide +kernel
theorem dX4_sea_75 : decode cX4_sea 75 = .ok (.getfield 40, 3) := by decide +kernel
theorem dX4_sea_78 : decode cX4_sea 78 = .ok (.iload_n 3, 1) := by decide +kernel
theorem dX4_sea_79 : decode cX4_sea 79 = .ok (.iconst 0, 1) := by decide +kernel
theorem dX4_sea_80 : decode cX4_sea 80 = .ok (.bastore, 1) := by decide +kernel
theorem dX4_sea_81 : decode cX4_sea 81 = .ok (.iinc 3 1, 3) := by decide +kernel
theorem dX4_sea_84 : decode cX4_sea 84 = .ok (.goto (-15), 3) := by decide +kernel
theorem dX4_sea_87 : decode cX4_sea 87 = .ok (.iload_n 1, 1) := by decide +kernel
theorem dX4_sea_88 : decode cX4_sea 88 = .ok (.ireturn, 1) := by decide +kernel
set_option maxRecDepth 20000 in
theorem ggX4_isle_X4_isIsle : GoodIn wsX4_isle wsX4_isIsle := goodIn_r _ [9, 1, 10, 11, 12, 8, 13, 17, 18, 19, 20, 21, 22, 23, 24, 25, 26, 27, 28, 29, 30, 31, 32, 33, 34, 35, 36, 37, 38] (by decide +kernel) (by decide +kernel)
set_option maxRecDepth 20000 in
theorem gX4_isle_X4_isIsle : GoodIn wsX4_isle (wsV RX4 80 RX4 yX4_isIsle wsX4_isIsle) := goodIn_app (goodIn_of _ (by decide +kernel)) ggX4_isle_X4_isIsle
set_option maxRecDepth 20000 in
theorem ggX4_isle_X4_isWithin : GoodIn wsX4_isle wsX4_isWithin := goodIn_r _ [13] (by decide +kernel) (by decide +kernel)
set_option maxRecDepth 20000 in
theorem gX4_isle_X4_isWithin : GoodIn wsX4_isle (va_wsS RX4 54 yX4_isWithin wsX4_isWithin) := goodIn_app (goodIn_of _ (by decide +kernel)) ggX4_isle_X4_isWithin
set_option maxRecDepth 20000 in
theorem ggX4_isle_X4_bitOf : GoodIn wsX4_isle wsX4_bitOf := goodIn_r _ [16] (by decide +kernel) (by decide +kernel)
set_option maxRecDepth 20000 in
theorem gX4_isle_X4_bitOf : GoodIn wsX4_isle (va_wsS RX4 91 yX4_bitOf wsX4_bitOf) := goodIn_app (goodIn_of _ (by decide +kernel)) ggX4_isle_X4_bitOf
theorem dX4_isle_0 : decode cX4_isle 0 = .ok (.aload_n 0, 1) := by decide +kernel
theorem dX4_isle_1 : decode cX4_isle 1 = .ok (.iload_n 1, 1) := by decide +kernel
theorem dX4_isle_2 : decode cX4_isle 2 = .ok (.invokevirtual 80, 3) := by decide +kernel
theorem dX4_isle_5 : decode cX4_isle 5 = .ok (.ifCond .eq 12, 3) := by decide +kernel
theorem dX4_isle_8 : decode cX4_isle 8 = .ok (.iload_n 2, 1) := by decide +kernel
theorem dX4_isle_9 : decode cX4_isle 9 = .ok (.iconst 0, 1) := by decide +kernel
theorem dX4_isle_10 : decode cX4_isle 10 = .ok (.iconst 1, 1) := by decide +kernel
theorem dX4_isle_11 : decode cX4_isle 11 = .ok (.invokestatic 54, 3) := by decide +kernel
theorem dX4_isle_14 : decode cX4_isle 14 = .ok (.ifCond .ne 5, 3) := by decide +kernel
theorem dX4_isle_17 : decode cX4_isle 17 = .ok (.iconst (-1), 1) := by decide +kernel
theorem dX4_isle_18 : decode cX4_isle 18 = .ok (.ireturn, 1) := by decide +kernel
theorem dX4_isle_19 : decode cX4_isle 19 = .ok (.iload_n 2, 1) := by decide +kernel
theorem dX4_isle_20 : decode cX4_isle 20 = .ok (.ifCond .ne 15, 3) := by decide +kernel
theorem dX4_isle_23 : decode cX4_isle 23 = .ok (.aload_n 0, 1) := by decide +kernel
theorem dX4_isle_24 : decode cX4_isle 24 = .ok (.getfield 19, 3) := by decide +kernel
theorem dX4_isle_27 : decode cX4_isle 27 = .ok (.getfield 84, 3) := by decide +kernel
theorem dX4_isle_30 : decode cX4_isle 30 = .ok (.iload_n 1, 1) := by decide +kernel
theorem dX4_isle_31 : decode cX4_isle 31 = .ok (.iaload, 1) := by decide +kernel
theorem dX4_isle_32 : decode cX4_isle 32 = .ok (.goto 14, 3) := by decide +kernel
theorem dX4_isle_35 : decode cX4_isle 35 = .ok (.aload_n 0, 1) := by decide +kernel
theorem dX4_isle_36 : decode cX4_isle 36 = .ok (.getfield 29, 3) := by decide +kernel
theorem dX4_isle_39 : decode cX4_isle 39 = .ok (.getfield 88, 3) := by decide +kernel
theorem dX4_isle_42 : decode cX4_isle 42 = .ok (.iload_n 1, 1) := by decide +kernel
theorem dX4_isle_43 : decode cX4_isle 43 = .ok (.invokestatic 91, 3) := by decide +kernel
theorem dX4_isle_46 : decode cX4_isle 46 = .ok (.ireturn, 1) := by decide +kernel
set_option maxRecDepth 20000 in
theorem ggX4_cell_X0_cells : GoodIn wsX4_cell wsX0_cells := goodIn_r _ [7, 8, 9, 10, 11, 12, 13, 30, 31, 32, 33, 34, 35, 36, 37, 38, 39] (by decide +kernel) (by decide +kernel)
set_option maxRecDepth 20000 in
theorem gX4_cell_X0_cells : GoodIn wsX4_cell (wsV RX4 95 RX0 yX0_cells wsX0_cells) := goodIn_app (goodIn_of _ (by decide +kernel)) ggX4_cell_X0_cells
set_option maxRecDepth 20000 in
theorem ggX4_cell_X4_isWithin : GoodIn wsX4_cell wsX4_isWithin := goodIn_r _ [17] (by decide +kernel) (by decide +kernel)
set_option maxRecDepth 20000 in
theorem gX4_cell_X4_isWithin : GoodIn wsX4_cell (va_wsS RX4 54 yX4_isWithin wsX4_isWithin) := goodIn_app (goodIn_of _ (by decide +kernel)) ggX4_cell_X4_isWithin
theorem dX4_cell_0 : decode cX4_cell 0 = .ok (.iload_n 1, 1) := by decide +kernel
theorem dX4_cell_1 : decode cX4_cell 1 = .ok (.iconst 0, 1) := by decide +kernel
theorem dX4_cell_2 : decode cX4_cell 2 = .ok (.aload_n 0, 1) := by decide +kernel
theorem dX4_cell_3 : decode cX4_cell 3 = .ok (.getfield 19, 3) := by decide +kernel
theorem dX4_cell_6 : decode cX4_cell 6 = .ok (.invokevirtual 95, 3) := by decide +kernel
theorem dX4_cell_9 : decode cX4_cell 9 = .ok (.iconst 1, 1) := by decide +kernel
theorem dX4_cell_10 : decode cX4_cell 10 = .ok (.isub, 1) := by decide +kernel
theorem dX4_cell_11 : decode cX4_cell 11 = .ok (.invokestatic 54, 3) := by decide +kernel
theorem dX4_cell_14 : decode cX4_cell 14 = .ok (.ifCond .ne 5, 3) := by decide +kernel
theorem dX4_cell_17 : decode cX4_cell 17 = .ok (.iconst (-1), 1) := by decide +kernel
theorem dX4_cell_18 : decode cX4_cell 18 = .ok (.ireturn, 1) := by decide +kernel
theorem dX4_cell_19 : decode cX4_cell 19 = .ok (.aload_n 0, 1) := by decide +kernel
theorem dX4_cell_20 : decode cX4_cell 20 = .ok (.getfield 19, 3) := by decide +kernel
theorem dX4_cell_23 : decode cX4_cell 23 = .ok (.getfield 99, 3) := by decide +kernel
theorem dX4_cell_26 : decode cX4_cell 26 = .ok (.iload_n 1, 1) := by decide +kernel
theorem dX4_cell_27 : decode cX4_cell 27 = .ok (.iaload, 1) := by decide +kernel
theorem dX4_cell_28 : decode cX4_cell 28 = .ok (.ireturn, 1) := by decide +kernel
set_option maxRecDepth 20000 in
theorem ggX4_wind_X4_isWithin : GoodIn wsX4_wind wsX4_isWithin := goodIn_r _ [6] (by decide +kernel) (by decide +kernel)
set_option maxRecDepth 20000 in
theorem gX4_wind_X4_isWithin : GoodIn wsX4_wind (va_wsS RX4 54 yX4_isWithin wsX4_isWithin) := goodIn_app (goodIn_of _ (by decide +kernel)) ggX4_wind_X4_isWithin
set_option maxRecDepth 20000 in
theorem ggX4_wind_X2_windOf : GoodIn wsX4_wind wsX2_windOf := goodIn_r _ [11, 12, 13, 14, 15, 16, 17, 30, 31, 32, 33, 34, 35] (by decide +kernel) (by decide +kernel)
set_option maxRecDepth 20000 in
theorem gX4_wind_X2_windOf : GoodIn wsX4_wind (wsV RX4 105 RX2 yX2_windOf wsX2_windOf) := goodIn_app (goodIn_of _ (by decide +kernel)) ggX4_wind_X2_windOf
theorem dX4_wind_0 : decode cX4_wind 0 = .ok (.iload_n 1, 1) := by decide +kernel
theorem dX4_wind_1 : decode cX4_wind 1 = .ok (.iconst 0, 1) := by decide +kernel
theorem dX4_wind_2 : decode cX4_wind 2 = .ok (.sipush 400, 3) := by decide +kernel
theorem dX4_wind_5 : decode cX4_wind 5 = .ok (.invokestatic 54, 3) := by decide +kernel
theorem dX4_wind_8 : decode cX4_wind 8 = .ok (.ifCond .ne 5, 3) := by decide +kernel
theorem dX4_wind_11 : decode cX4_wind 11 = .ok (.iconst (-1), 1) := by decide +kernel
theorem dX4_wind_12 : decode cX4_wind 12 = .ok (.ireturn, 1) := by decide +kernel
theorem dX4_wind_13 : decode cX4_wind 13 = .ok (.aload_n 0, 1) := by decide +kernel
theorem dX4_wind_14 : decode cX4_wind 14 = .ok (.getfield 29, 3) := by decide +kernel
theorem dX4_wind_17 : decode cX4_wind 17 = .ok (.aload_n 0, 1) := by decide +kernel
theorem dX4_wind_18 : decode cX4_wind 18 = .ok (.getfield 29, 3) := by decide +kernel
theorem dX4_wind_21 : decode cX4_wind 21 = .ok (.getfield 102, 3) := by decide +kernel
theorem dX4_wind_24 : decode cX4_wind 24 = .ok (.iload_n 1, 1) := by decide +kernel
theorem dX4_wind_25 : decode cX4_wind 25 = .ok (.iadd, 1) := by decide +kernel
theorem dX4_wind_26 : decode cX4_wind 26 = .ok (.invokevirtual 105, 3) := by decide +kernel
theorem dX4_wind_29 : decode cX4_wind 29 = .ok (.ireturn, 1) := by decide +kernel
set_option maxRecDepth 20000 in
theorem ggX4_letter_X4_isLetter : GoodIn wsX4_letter wsX4_isLetter := goodIn_r _ [13, 1, 14, 15, 16, 12, 17, 18, 19, 20, 21, 22, 23, 24, 25, 26, 27, 28, 29, 30, 31, 32, 33, 34, 35] (by decide +kernel) (by decide +kernel)
set_option maxRecDepth 20000 in
theorem gX4_letter_X4_isLetter : GoodIn wsX4_letter (wsV RX4 109 RX4 yX4_isLetter wsX4_isLetter) := goodIn_app (goodIn_of _ (by decide +kernel)) ggX4_letter_X4_isLetter
theorem dX4_letter_0 : decode cX4_letter 0 = .ok (.aload_n 0, 1) := by decide +kernel
theorem dX4_letter_1 : decode cX4_letter 1 = .ok (.iload_n 1, 1) := by decide +kernel
theorem dX4_letter_2 : decode cX4_letter 2 = .ok (.invokevirtual 109, 3) := by decide +kernel
theorem dX4_letter_5 : decode cX4_letter 5 = .ok (.ifCond .ne 5, 3) := by decide +kernel
theorem dX4_letter_8 : decode cX4_letter 8 = .ok (.iconst (-1), 1) := by decide +kernel
theorem dX4_letter_9 : decode cX4_letter 9 = .ok (.ireturn, 1) := by decide +kernel
theorem dX4_letter_10 : decode cX4_letter 10 = .ok (.aload_n 0, 1) := by decide +kernel
theorem dX4_letter_11 : decode cX4_letter 11 = .ok (.getfield 29, 3) := by decide +kernel
theorem dX4_letter_14 : decode cX4_letter 14 = .ok (.getfield 112, 3) := by decide +kernel
theorem dX4_letter_17 : decode cX4_letter 17 = .ok (.iload_n 1, 1) := by decide +kernel
theorem dX4_letter_18 : decode cX4_letter 18 = .ok (.aaload, 1) := by decide +kernel
theorem dX4_letter_19 : decode cX4_letter 19 = .ok (.astore_n 3, 1) := by decide +kernel
theorem dX4_letter_20 : decode cX4_letter 20 = .ok (.iload_n 2, 1) := by decide +kernel
theorem dX4_letter_21 : decode cX4_letter 21 = .ok (.tableswitch 69 0 5 #[39, 44, 49, 54, 59, 64], 39) := by decide +kernel
theorem dX4_letter_60 : decode cX4_letter 60 = .ok (.aload_n 3, 1) := by decide +kernel
theorem dX4_letter_61 : decode cX4_letter 61 = .ok (.getfield 116, 3) := by decide +kernel
theorem dX4_letter_64 : decode cX4_letter 64 = .ok (.ireturn, 1) := by decide +kernel
theorem dX4_letter_65 : decode cX4_letter 65 = .ok (.aload_n 3, 1) := by decide +kernel
theorem dX4_letter_66 : decode cX4_letter 66 = .ok (.getfield 119, 3) := by decide +kernel
theorem dX4_letter_69 : decode cX4_letter 69 = .ok (.ireturn, 1) := by decide +kernel
theorem dX4_letter_70 : decode cX4_letter 70 = .ok (.aload_n 3, 1) := by decide +kernel
theorem dX4_letter_71 : decode cX4_letter 71 = .ok (.getfield 122, 3) := by decide +kernel
theorem dX4_letter_74 : decode cX4_letter 74 = .ok (.ireturn, 1) := by decide +kernel
theorem dX4_letter_75 : decode cX4_letter 75 = .ok (.aload_n 3, 1) := by decide +kernel
theorem dX4_letter_76 : decode cX4_letter 76 = .ok (.getfield 125, 3) := by decide +kernel
theorem dX4_letter_79 : decode cX4_letter 79 = .ok (.ireturn, 1) := by decide +kernel
theorem dX4_letter_80 : decode cX4_letter 80 = .ok (.aload_n 3, 1) := by decide +kernel
theorem dX4_letter_81 : decode cX4_letter 81 = .ok (.getfield 128, 3) := by decide +kernel
theorem dX4_letter_84 : decode cX4_letter 84 = .ok (.ireturn, 1) := by decide +kernel
theorem dX4_letter_85 : decode cX4_letter 85 = .ok (.aload_n 3, 1) := by decide +kernel
theorem dX4_letter_86 : decode cX4_letter 86 = .ok (.getfield 131, 3) := by decide +kernel
theorem dX4_letter_89 : decode cX4_letter 89 = .ok (.ireturn, 1) := by decide +kernel
theorem dX4_letter_90 : decode cX4_letter 90 = .ok (.iconst (-1), 1) := by decide +kernel
theorem dX4_letter_91 : decode cX4_letter 91 = .ok (.ireturn, 1) := by decide +kernel
set_option maxRecDepth 20000 in
theorem ggX4_now_X2_lettersUp : GoodIn wsX4_now wsX2_lettersUp := goodIn_r _ [10, 11, 12, 13, 26, 27, 28, 29, 30, 31, 32, 33, 34, 35, 36, 37, 38] (by decide +kernel) (by decide +kernel)
set_option maxRecDepth 20000 in
theorem gX4_now_X2_lettersUp : GoodIn wsX4_now (wsV RX4 137 RX2 yX2_lettersUp wsX2_lettersUp) := goodIn_app (goodIn_of _ (by decide +kernel)) ggX4_now_X2_lettersUp
theorem dX4_now_0 : decode cX4_now 0 = .ok (.iload_n 1, 1) := by decide +kernel
theorem dX4_now_1 : decode cX4_now 1 = .ok (.tableswitch 72 0 4 #[35, 43, 51, 59, 67], 35) := by decide +kernel
theorem dX4_now_36 : decode cX4_now 36 = .ok (.aload_n 0, 1) := by decide +kernel
theorem dX4_now_37 : decode cX4_now 37 = .ok (.getfield 29, 3) := by decide +kernel
theorem dX4_now_40 : decode cX4_now 40 = .ok (.getfield 102, 3) := by decide +kernel
theorem dX4_now_43 : decode cX4_now 43 = .ok (.ireturn, 1) := by decide +kernel
theorem dX4_now_44 : decode cX4_now 44 = .ok (.aload_n 0, 1) := by decide +kernel
theorem dX4_now_45 : decode cX4_now 45 = .ok (.getfield 29, 3) := by decide +kernel
theorem dX4_now_48 : decode cX4_now 48 = .ok (.getfield 134, 3) := by decide +kernel
theorem dX4_now_51 : decode cX4_now 51 = .ok (.ireturn, 1) := by decide +kernel
theorem dX4_now_52 : decode cX4_now 52 = .ok (.aload_n 0, 1) := by decide +kernel
theorem dX4_now_53 : decode cX4_now 53 = .ok (.getfield 29, 3) := by decide +kernel
theorem dX4_now_56 : decode cX4_now 56 = .ok (.invokevirtual 137, 3) := by decide +kernel
theorem dX4_now_59 : decode cX4_now 59 = .ok (.ireturn, 1) := by decide +kernel
theorem dX4_now_60 : decode cX4_now 60 = .ok (.aload_n 0, 1) := by decide +kernel
theorem dX4_now_61 : decode cX4_now 61 = .ok (.getfield 29, 3) := by decide +kernel
theorem dX4_now_64 : decode cX4_now 64 = .ok (.getfield 88, 3) := by decide +kernel
theorem dX4_now_67 : decode cX4_now 67 = .ok (.ireturn, 1) := by decide +kernel
theorem dX4_now_68 : decode cX4_now 68 = .ok (.aload_n 0, 1) := by decide +kernel
theorem dX4_now_69 : decode cX4_now 69 = .ok (.getfield 77, 3) := by decide +kernel
theorem dX4_now_72 : decode cX4_now 72 = .ok (.ireturn, 1) := by decide +kernel
theorem dX4_now_73 : decode cX4_now 73 = .ok (.iconst (-1), 1) := by decide +kernel
theorem dX4_now_74 : decode cX4_now 74 = .ok (.ireturn, 1) := by decide +kernel
set_option maxRecDepth 20000 in
theorem ggX4_lets_X4_isWay : GoodIn wsX4_lets wsX4_isWay := goodIn_r _ [9, 10, 11, 12, 8, 13, 4, 14, 15, 16, 17, 66, 67, 68, 69, 70, 71, 72, 73, 74, 75, 76, 77, 84, 85, 86, 87, 88, 89, 90, 91, 92, 93] (by decide +kernel) (by decide +kernel)
set_option maxRecDepth 20000 in
theorem gX4_lets_X4_isWay : GoodIn wsX4_lets (wsV RX4 140 RX4 yX4_isWay wsX4_isWay) := goodIn_app (goodIn_of _ (by decide +kernel)) ggX4_lets_X4_isWay
set_option maxRecDepth 20000 in
theorem ggX4_lets_X4_isWeight : GoodIn wsX4_lets wsX4_isWeight := goodIn_r _ [20, 15, 16, 8, 17] (by decide +kernel) (by decide +kernel)
set_option maxRecDepth 20000 in
theorem gX4_lets_X4_isWeight : GoodIn wsX4_lets (va_wsS RX4 144 yX4_isWeight wsX4_isWeight) := goodIn_app (goodIn_of _ (by decide +kernel)) ggX4_lets_X4_isWeight
set_option maxRecDepth 20000 in
theorem ggX4_lets_X4_remember : GoodIn wsX4_lets wsX4_remember := goodIn_r _ [24, 25, 26, 1, 27, 28, 29, 30, 31, 32, 33, 34, 35, 36, 37, 38, 39, 40, 41, 42, 43, 44, 45, 46, 47, 48, 49, 50, 51, 52, 53, 54, 66, 67, 68, 69, 70, 71, 72, 73, 74, 75, 76, 77, 78, 79, 80, 81, 82, 83, 94, 95, 96, 97, 98, 99, 100] (by decide +kernel) (by decide +kernel)
set_option maxRecDepth 20000 in
theorem gX4_lets_X4_remember : GoodIn wsX4_lets (wsV RX4 147 RX4 yX4_remember wsX4_remember) := goodIn_app (goodIn_of _ (by decide +kernel)) ggX4_lets_X4_remember
set_option maxRecDepth 20000 in
theorem ggX4_lets_X1_letUp : GoodIn wsX4_lets wsX1_letUp := goodIn_r _ [58, 48, 49, 50, 51, 52, 53, 59, 54, 60, 61, 62, 63, 64, 65, 94, 95, 96, 97, 98, 99, 100, 84, 85, 86, 87, 88, 89, 90, 91, 92, 93] (by decide +kernel) (by decide +kernel)
set_option maxRecDepth 20000 in
theorem gX4_lets_X1_letUp : GoodIn wsX4_lets (wsV RX4 150 RX1 yX1_letUp wsX1_letUp) := goodIn_app (goodIn_of _ (by decide +kernel)) ggX4_lets_X1_letUp
theorem dX4_lets_0 : decode cX4_lets 0 = .ok (.aload_n 0, 1) := by decide +kernel
theorem dX4_lets_1 : decode cX4_lets 1 = .ok (.iload_n 1, 1) := by decide +kernel
theorem dX4_lets_2 : decode cX4_lets 2 = .ok (.iload_n 2, 1) := by decide +kernel
theorem dX4_lets_3 : decode cX4_lets 3 = .ok (.invokevirtual 140, 3) := by decide +kernel
theorem dX4_lets_6 : decode cX4_lets 6 = .ok (.ifCond .eq 10, 3) := by decide +kernel
theorem dX4_lets_9 : decode cX4_lets 9 = .ok (.iload_n 3, 1) := by decide +kernel
theorem dX4_lets_10 : decode cX4_lets 10 = .ok (.invokestatic 144, 3) := by decide +kernel
theorem dX4_lets_13 : decode cX4_lets 13 = .ok (.ifCond .ne 5, 3) := by decide +kernel
theorem dX4_lets_16 : decode cX4_lets 16 = .ok (.iconst (-1), 1) := by decide +kernel
theorem dX4_lets_17 : decode cX4_lets 17 = .ok (.ireturn, 1) := by decide +kernel
theorem dX4_lets_18 : decode cX4_lets 18 = .ok (.aload_n 0, 1) := by decide +kernel
theorem dX4_lets_19 : decode cX4_lets 19 = .ok (.getfield 29, 3) := by decide +kernel
theorem dX4_lets_22 : decode cX4_lets 22 = .ok (.getfield 134, 3) := by decide +kernel
theorem dX4_lets_25 : decode cX4_lets 25 = .ok (.iconst 5, 1) := by decide +kernel
theorem dX4_lets_26 : decode cX4_lets 26 = .ok (.if_icmp .lt 6, 3) := by decide +kernel
theorem dX4_lets_29 : decode cX4_lets 29 = .ok (.bipush (-3), 2) := by decide +kernel
theorem dX4_lets_31 : decode cX4_lets 31 = .ok (.ireturn, 1) := by decide +kernel
theorem dX4_lets_32 : decode cX4_lets 32 = .ok (.aload_n 0, 1) := by decide +kernel
theorem dX4_lets_33 : decode cX4_lets 33 = .ok (.invokevirtual 147, 3) := by decide +kernel
theorem dX4_lets_36 : decode cX4_lets 36 = .ok (.aload_n 0, 1) := by decide +kernel
theorem dX4_lets_37 : decode cX4_lets 37 = .ok (.getfield 29, 3) := by decide +kernel
theorem dX4_lets_40 : decode cX4_lets 40 = .ok (.getfield 134, 3) := by decide +kernel
theorem dX4_lets_43 : decode cX4_lets 43 = .ok (.istore 4, 2) := by decide +kernel
theorem dX4_lets_45 : decode cX4_lets 45 = .ok (.aload_n 0, 1) := by decide +kernel
theorem dX4_lets_46 : decode cX4_lets 46 = .ok (.getfield 29, 3) := by decide +kernel
theorem dX4_lets_49 : decode cX4_lets 49 = .ok (.getfield 112, 3) := by decide +kernel
theorem dX4_lets_52 : decode cX4_lets 52 = .ok (.iload 4, 2) := by decide +kernel
theorem dX4_lets_54 : decode cX4_lets 54 = .ok (.aaload, 1) := by decide +kernel
theorem dX4_lets_55 : decode cX4_lets 55 = .ok (.aload_n 0, 1) := by decide +kernel
theorem dX4_lets_56 : decode cX4_lets 56 = .ok (.getfield 19, 3) := by decide +kernel
theorem dX4_lets_59 : decode cX4_lets 59 = .ok (.iload_n 1, 1) := by decide +kernel
theorem dX4_lets_60 : decode cX4_lets 60 = .ok (.iload_n 2, 1) := by decide +kernel
theorem dX4_lets_61 : decode cX4_lets 61 = .ok (.iload_n 3, 1) := by decide +kernel
theorem dX4_lets_62 : decode cX4_lets 62 = .ok (.invokevirtual 150, 3) := by decide +kernel
theorem dX4_lets_65 : decode cX4_lets 65 = .ok (.aload_n 0, 1) := by decide +kernel
theorem dX4_lets_66 : decode cX4_lets 66 = .ok (.getfield 29, 3) := by decide +kernel
theorem dX4_lets_69 : decode cX4_lets 69 = .ok (.dup, 1) := by decide +kernel
theorem dX4_lets_70 : decode cX4_lets 70 = .ok (.getfield 134, 3) := by decide +kernel
theorem dX4_lets_73 : decode cX4_lets 73 = .ok (.iconst 1, 1) := by decide +kernel
theorem dX4_lets_74 : decode cX4_lets 74 = .ok (.iadd, 1) := by decide +kernel
theorem dX4_lets_75 : decode cX4_lets 75 = .ok (.putfield 134, 3) := by decide +kernel
theorem dX4_lets_78 : decode cX4_lets 78 = .ok (.iload 4, 2) := by decide +kernel
theorem dX4_lets_80 : decode cX4_lets 80 = .ok (.ireturn, 1) := by decide +kernel
set_option maxRecDepth 20000 in
theorem ggX4_hour_X4_remember : GoodIn wsX4_hour wsX4_remember := goodIn_r _ [12, 13, 14, 1, 15, 16, 17, 18, 19, 20, 21, 22, 23, 24, 25, 26, 27, 28, 29, 30, 31, 32, 33, 34, 35, 36, 37, 38, 39, 40, 41, 42, 68, 69, 70, 71, 72, 73, 74, 75, 76, 77, 78, 79, 80, 81, 82, 83, 84, 85, 86, 87, 88, 89, 90, 91, 92] (by decide +kernel) (by decide +kernel)
set_option maxRecDepth 20000 in
theorem gX4_hour_X4_remember : GoodIn wsX4_hour (wsV RX4 147 RX4 yX4_remember wsX4_remember) := goodIn_app (goodIn_of _ (by decide +kernel)) ggX4_hour_X4_remember
set_option maxRecDepth 20000 in
theorem ggX4_hour_X2_windOf : GoodIn wsX4_hour wsX2_windOf := goodIn_r _ [46, 28, 29, 47, 48, 49, 50, 80, 81, 82, 83, 84, 85] (by decide +kernel) (by decide +kernel)
set_option maxRecDepth 20000 in
theorem gX4_hour_X2_windOf : GoodIn wsX4_hour (wsV RX4 105 RX2 yX2_windOf wsX2_windOf) := goodIn_app (goodIn_of _ (by decide +kernel)) ggX4_hour_X2_windOf
set_option maxRecDepth 20000 in
theorem ggX4_hour_X1_passHour : GoodIn wsX4_hour wsX1_passHour := goodIn_r _ [54, 41, 42, 39, 38, 40, 55, 56, 57, 58, 59, 60, 61, 62, 63, 64, 65, 66, 11, 67, 86, 87, 88, 89, 90, 91, 92, 93, 94, 95, 96, 97, 98, 99, 100, 101, 102] (by decide +kernel) (by decide +kernel)
set_option maxRecDepth 20000 in
theorem gX4_hour_X1_passHour : GoodIn wsX4_hour (wsV RX4 154 RX1 yX1_passHour wsX1_passHour) := goodIn_app (goodIn_of _ (by decide +kernel)) ggX4_hour_X1_passHour
theorem dX4_hour_0 : decode cX4_hour 0 = .ok (.aload_n 0, 1) := by decide +kernel
theorem dX4_hour_1 : decode cX4_hour 1 = .ok (.getfield 29, 3) := by decide +kernel
theorem dX4_hour_4 : decode cX4_hour 4 = .ok (.getfield 102, 3) := by decide +kernel
theorem dX4_hour_7 : decode cX4_hour 7 = .ok (.sipush 9999, 3) := by decide +kernel
theorem dX4_hour_10 : decode cX4_hour 10 = .ok (.if_icmp .lt 6, 3) := by decide +kernel
theorem dX4_hour_13 : decode cX4_hour 13 = .ok (.bipush (-2), 2) := by decide +kernel
theorem dX4_hour_15 : decode cX4_hour 15 = .ok (.ireturn, 1) := by decide +kernel
theorem dX4_hour_16 : decode cX4_hour 16 = .ok (.aload_n 0, 1) := by decide +kernel
theorem dX4_hour_17 : decode cX4_hour 17 = .ok (.invokevirtual 147, 3) := by decide +kernel
theorem dX4_hour_20 : decode cX4_hour 20 = .ok (.aload_n 0, 1) := by decide +kernel
theorem dX4_hour_21 : decode cX4_hour 21 = .ok (.getfield 29, 3) := by decide +kernel
theorem dX4_hour_24 : decode cX4_hour 24 = .ok (.aload_n 0, 1) := by decide +kernel
theorem dX4_hour_25 : decode cX4_hour 25 = .ok (.getfield 29, 3) := by decide +kernel
theorem dX4_hour_28 : decode cX4_hour 28 = .ok (.getfield 102, 3) := by decide +kernel
theorem dX4_hour_31 : decode cX4_hour 31 = .ok (.invokevirtual 105, 3) := by decide +kernel
theorem dX4_hour_34 : decode cX4_hour 34 = .ok (.istore_n 1, 1) := by decide +kernel
theorem dX4_hour_35 : decode cX4_hour 35 = .ok (.iconst 0, 1) := by decide +kernel
theorem dX4_hour_36 : decode cX4_hour 36 = .ok (.istore_n 2, 1) := by decide +kernel
theorem dX4_hour_37 : decode cX4_hour 37 = .ok (.iconst 0, 1) := by decide +kernel
theorem dX4_hour_38 : decode cX4_hour 38 = .ok (.istore_n 3, 1) := by decide +kernel
theorem dX4_hour_39 : decode cX4_hour 39 = .ok (.iload_n 3, 1) := by decide +kernel
theorem dX4_hour_40 : decode cX4_hour 40 = .ok (.aload_n 0, 1) := by decide +kernel
theorem dX4_hour_41 : decode cX4_hour 41 = .ok (.getfield 29, 3) := by decide +kernel
theorem dX4_hour_44 : decode cX4_hour 44 = .ok (.getfield 134, 3) := by decide +kernel
theorem dX4_hour_47 : decode cX4_hour 47 = .ok (.if_icmp .ge 69, 3) := by decide +kernel
theorem dX4_hour_50 : decode cX4_hour 50 = .ok (.aload_n 0, 1) := by decide +kernel
theorem dX4_hour_51 : decode cX4_hour 51 = .ok (.getfield 29, 3) := by decide +kernel
theorem dX4_hour_54 : decode cX4_hour 54 = .ok (.getfield 112, 3) := by decide +kernel
theorem dX4_hour_57 : decode cX4_hour 57 = .ok (.iload_n 3, 1) := by decide +kernel
theorem dX4_hour_58 : decode cX4_hour 58 = .ok (.aaload, 1) := by decide +kernel
theorem dX4_hour_59 : decode cX4_hour 59 = .ok (.astore 4, 2) := by decide +kernel
theorem dX4_hour_61 : decode cX4_hour 61 = .ok (.aload 4, 2) := by decide +kernel
theorem dX4_hour_63 : decode cX4_hour 63 = .ok (.getfield 131, 3) := by decide +kernel
theorem dX4_hour_66 : decode cX4_hour 66 = .ok (.ifCond .ne 7, 3) := by decide +kernel
theorem dX4_hour_69 : decode cX4_hour 69 = .ok (.iconst 1, 1) := by decide +kernel
theorem dX4_hour_70 : decode cX4_hour 70 = .ok (.goto 4, 3) := by decide +kernel
theorem dX4_hour_73 : decode cX4_hour 73 = .ok (.iconst 0, 1) := by decide +kernel
theorem dX4_hour_74 : decode cX4_hour 74 = .ok (.istore 5, 2) := by decide +kernel
theorem dX4_hour_76 : decode cX4_hour 76 = .ok (.aload 4, 2) := by decide +kernel
theorem dX4_hour_78 : decode cX4_hour 78 = .ok (.aload_n 0, 1) := by decide +kernel
theorem dX4_hour_79 : decode cX4_hour 79 = .ok (.getfield 19, 3) := by decide +kernel
theorem dX4_hour_82 : decode cX4_hour 82 = .ok (.iload_n 1, 1) := by decide +kernel
theorem dX4_hour_83 : decode cX4_hour 83 = .ok (.aload_n 0, 1) := by decide +kernel
theorem dX4_hour_84 : decode cX4_hour 84 = .ok (.getfield 29, 3) := by decide +kernel
theorem dX4_hour_87 : decode cX4_hour 87 = .ok (.getfield 88, 3) := by decide +kernel
theorem dX4_hour_90 : decode cX4_hour 90 = .ok (.invokevirtual 154, 3) := by decide +kernel
theorem dX4_hour_93 : decode cX4_hour 93 = .ok (.iload 5, 2) := by decide +kernel
theorem dX4_hour_95 : decode cX4_hour 95 = .ok (.ifCond .eq 15, 3) := by decide +kernel
theorem dX4_hour_98 : decode cX4_hour 98 = .ok (.aload 4, 2) := by decide +kernel
theorem dX4_hour_100 : decode cX4_hour 100 = .ok (.getfield 131, 3) := by decide +kernel
theorem dX4_hour_103 : decode cX4_hour 103 = .ok (.iconst 1, 1) := by decide +kernel
theorem dX4_hour_104 : decode cX4_hour 104 = .ok (.if_icmp .ne 6, 3) := by decide +kernel
theorem dX4_hour_107 : decode cX4_hour 107 = .ok (.iinc 2 1, 3) := by decide +kernel
theorem dX4_hour_110 : decode cX4_hour 110 = .ok (.iinc 3 1, 3) := by decide +kernel
theorem dX4_hour_113 : decode cX4_hour 113 = .ok (.goto (-74), 3) := by decide +kernel
theorem dX4_hour_116 : decode cX4_hour 116 = .ok (.aload_n 0, 1) := by decide +kernel
theorem dX4_hour_117 : decode cX4_hour 117 = .ok (.getfield 29, 3) := by decide +kernel
theorem dX4_hour_120 : decode cX4_hour 120 = .ok (.dup, 1) := by decide +kernel
theorem dX4_hour_121 : decode cX4_hour 121 = .ok (.getfield 102, 3) := by decide +kernel
theorem dX4_hour_124 : decode cX4_hour 124 = .ok (.iconst 1, 1) := by decide +kernel
theorem dX4_hour_125 : decode cX4_hour 125 = .ok (.iadd, 1) := by decide +kernel
theorem dX4_hour_126 : decode cX4_hour 126 = .ok (.putfield 102, 3) := by decide +kernel
theorem dX4_hour_129 : decode cX4_hour 129 = .ok (.iload_n 2, 1) := by decide +kernel
theorem dX4_hour_130 : decode cX4_hour 130 = .ok (.ireturn, 1) := by decide +kernel
set_option maxRecDepth 20000 in
theorem ggX4_net_X4_isIsle : GoodIn wsX4_net wsX4_isIsle := goodIn_r _ [7, 8, 9, 10, 11, 6, 12, 50, 51, 52, 53, 54, 55, 56, 57, 58, 59, 60, 61, 68, 69, 70, 71, 72, 73, 74, 75, 76, 77] (by decide +kernel) (by decide +kernel)
set_option maxRecDepth 20000 in
theorem gX4_net_X4_isIsle : GoodIn wsX4_net (wsV RX4 80 RX4 yX4_isIsle wsX4_isIsle) := goodIn_app (goodIn_of _ (by decide +kernel)) ggX4_net_X4_isIsle
set_option maxRecDepth 20000 in
theorem ggX4_net_X4_isWithin : GoodIn wsX4_net wsX4_isWithin := goodIn_r _ [12] (by decide +kernel) (by decide +kernel)
set_option maxRecDepth 20000 in
theorem gX4_net_X4_isWithin : GoodIn wsX4_net (va_wsS RX4 54 yX4_isWithin wsX4_isWithin) := goodIn_app (goodIn_of _ (by decide +kernel)) ggX4_net_X4_isWithin
set_option maxRecDepth 20000 in
theorem ggX4_net_X4_remember : GoodIn wsX4_net wsX4_remember := goodIn_r _ [16, 17, 18, 1, 19, 20, 21, 22, 23, 24, 25, 26, 27, 28, 29, 30, 31, 32, 33, 34, 35, 36, 37, 38, 39, 40, 41, 42, 43, 44, 45, 46, 50, 51, 52, 53, 54, 55, 56, 57, 58, 59, 60, 61, 62, 63, 64, 65, 66, 67, 78, 79, 80, 81, 82, 83, 84] (by decide +kernel) (by decide +kernel)
set_option maxRecDepth 20000 in
theorem gX4_net_X4_remember : GoodIn wsX4_net (wsV RX4 147 RX4 yX4_remember wsX4_remember) := goodIn_app (goodIn_of _ (by decide +kernel)) ggX4_net_X4_remember
set_option maxRecDepth 20000 in
theorem ggX4_net_X4_bitOf : GoodIn wsX4_net wsX4_bitOf := goodIn_r _ [49] (by decide +kernel) (by decide +kernel)
set_option maxRecDepth 20000 in
theorem gX4_net_X4_bitOf : GoodIn wsX4_net (va_wsS RX4 91 yX4_bitOf wsX4_bitOf) := goodIn_app (goodIn_of _ (by decide +kernel)) ggX4_net_X4_bitOf
theorem dX4_net_0 : decode cX4_net 0 = .ok (.aload_n 0, 1) := by decide +kernel
theorem dX4_net_1 : decode cX4_net 1 = .ok (.iload_n 1, 1) := by decide +kernel
theorem dX4_net_2 : decode cX4_net 2 = .ok (.invokevirtual 80, 3) := by decide +kernel
theorem dX4_net_5 : decode cX4_net 5 = .ok (.ifCond .eq 12, 3) := by decide +kernel
theorem dX4_net_8 : decode cX4_net 8 = .ok (.iload_n 2, 1) := by decide +kernel
theorem dX4_net_9 : decode cX4_net 9 = .ok (.iconst 0, 1) := by decide +kernel
theorem dX4_net_10 : decode cX4_net 10 = .ok (.iconst 1, 1) := by decide +kernel
theorem dX4_net_11 : decode cX4_net 11 = .ok (.invokestatic 54, 3) := by decide +kernel
theorem dX4_net_14 : decode cX4_net 14 = .ok (.ifCond .ne 5, 3) := by decide +kernel
theorem dX4_net_17 : decode cX4_net 17 = .ok (.iconst (-1), 1) := by decide +kernel
theorem dX4_net_18 : decode cX4_net 18 = .ok (.ireturn, 1) := by decide +kernel
theorem dX4_net_19 : decode cX4_net 19 = .ok (.aload_n 0, 1) := by decide +kernel
theorem dX4_net_20 : decode cX4_net 20 = .ok (.invokevirtual 147, 3) := by decide +kernel
theorem dX4_net_23 : decode cX4_net 23 = .ok (.aload_n 0, 1) := by decide +kernel
theorem dX4_net_24 : decode cX4_net 24 = .ok (.getfield 29, 3) := by decide +kernel
theorem dX4_net_27 : decode cX4_net 27 = .ok (.getfield 88, 3) := by decide +kernel
theorem dX4_net_30 : decode cX4_net 30 = .ok (.iload_n 1, 1) := by decide +kernel
theorem dX4_net_31 : decode cX4_net 31 = .ok (.invokestatic 91, 3) := by decide +kernel
theorem dX4_net_34 : decode cX4_net 34 = .ok (.istore_n 3, 1) := by decide +kernel
theorem dX4_net_35 : decode cX4_net 35 = .ok (.aload_n 0, 1) := by decide +kernel
theorem dX4_net_36 : decode cX4_net 36 = .ok (.getfield 29, 3) := by decide +kernel
theorem dX4_net_39 : decode cX4_net 39 = .ok (.iload_n 2, 1) := by decide +kernel
theorem dX4_net_40 : decode cX4_net 40 = .ok (.iconst 1, 1) := by decide +kernel
theorem dX4_net_41 : decode cX4_net 41 = .ok (.if_icmp .ne 17, 3) := by decide +kernel
theorem dX4_net_44 : decode cX4_net 44 = .ok (.aload_n 0, 1) := by decide +kernel
theorem dX4_net_45 : decode cX4_net 45 = .ok (.getfield 29, 3) := by decide +kernel
theorem dX4_net_48 : decode cX4_net 48 = .ok (.getfield 88, 3) := by decide +kernel
theorem dX4_net_51 : decode cX4_net 51 = .ok (.iconst 1, 1) := by decide +kernel
theorem dX4_net_52 : decode cX4_net 52 = .ok (.iload_n 1, 1) := by decide +kernel
theorem dX4_net_53 : decode cX4_net 53 = .ok (.ishl, 1) := by decide +kernel
theorem dX4_net_54 : decode cX4_net 54 = .ok (.ior, 1) := by decide +kernel
theorem dX4_net_55 : decode cX4_net 55 = .ok (.goto 16, 3) := by decide +kernel
theorem dX4_net_58 : decode cX4_net 58 = .ok (.aload_n 0, 1) := by decide +kernel
theorem dX4_net_59 : decode cX4_net 59 = .ok (.getfield 29, 3) := by decide +kernel
theorem dX4_net_62 : decode cX4_net 62 = .ok (.getfield 88, 3) := by decide +kernel
theorem dX4_net_65 : decode cX4_net 65 = .ok (.iconst 1, 1) := by decide +kernel
theorem dX4_net_66 : decode cX4_net 66 = .ok (.iload_n 1, 1) := by decide +kernel
theorem dX4_net_67 : decode cX4_net 67 = .ok (.ishl, 1) := by decide +kernel
theorem dX4_net_68 : decode cX4_net 68 = .ok (.iconst (-1), 1) := by decide +kernel
theorem dX4_net_69 : decode cX4_net 69 = .ok (.ixor, 1) := by decide +kernel
theorem dX4_net_70 : decode cX4_net 70 = .ok (.iand, 1) := by decide +kernel
theorem dX4_net_71 : decode cX4_net 71 = .ok (.putfield 88, 3) := by decide +kernel
theorem dX4_net_74 : decode cX4_net 74 = .ok (.iload_n 3, 1) := by decide +kernel
theorem dX4_net_75 : decode cX4_net 75 = .ok (.ireturn, 1) := by decide +kernel
set_option maxRecDepth 20000 in
theorem ggX4_turn_X4_isWithin : GoodIn wsX4_turn wsX4_isWithin := goodIn_r _ [7] (by decide +kernel) (by decide +kernel)
set_option maxRecDepth 20000 in
theorem gX4_turn_X4_isWithin : GoodIn wsX4_turn (va_wsS RX4 54 yX4_isWithin wsX4_isWithin) := goodIn_app (goodIn_of _ (by decide +kernel)) ggX4_turn_X4_isWithin
set_option maxRecDepth 20000 in
theorem ggX4_turn_X4_remember : GoodIn wsX4_turn wsX4_remember := goodIn_r _ [11, 12, 13, 1, 14, 15, 16, 17, 18, 19, 20, 21, 22, 23, 24, 25, 26, 27, 28, 29, 30, 31, 32, 33, 34, 35, 36, 37, 38, 39, 40, 41, 42, 43, 44, 45, 46, 47, 48, 49, 50, 51, 52, 53, 54, 55, 56, 57, 58, 59, 60, 61, 62, 63, 64, 65, 66] (by decide +kernel) (by decide +kernel)
set_option maxRecDepth 20000 in
theorem gX4_turn_X4_remember : GoodIn wsX4_turn (wsV RX4 147 RX4 yX4_remember wsX4_remember) := goodIn_app (goodIn_of _ (by decide +kernel)) ggX4_turn_X4_remember
theorem dX4_turn_0 : decode cX4_turn 0 = .ok (.iload_n 1, 1) := by decide +kernel
theorem dX4_turn_1 : decode cX4_turn 1 = .ok (.iconst 0, 1) := by decide +kernel
theorem dX4_turn_2 : decode cX4_turn 2 = .ok (.aload_n 0, 1) := by decide +kernel
theorem dX4_turn_3 : decode cX4_turn 3 = .ok (.getfield 29, 3) := by decide +kernel
theorem dX4_turn_6 : decode cX4_turn 6 = .ok (.getfield 158, 3) := by decide +kernel
theorem dX4_turn_9 : decode cX4_turn 9 = .ok (.iconst 1, 1) := by decide +kernel
theorem dX4_turn_10 : decode cX4_turn 10 = .ok (.isub, 1) := by decide +kernel
theorem dX4_turn_11 : decode cX4_turn 11 = .ok (.invokestatic 54, 3) := by decide +kernel
theorem dX4_turn_14 : decode cX4_turn 14 = .ok (.ifCond .eq 12, 3) := by decide +kernel
theorem dX4_turn_17 : decode cX4_turn 17 = .ok (.iload_n 2, 1) := by decide +kernel
theorem dX4_turn_18 : decode cX4_turn 18 = .ok (.iconst 0, 1) := by decide +kernel
theorem dX4_turn_19 : decode cX4_turn 19 = .ok (.iconst 4, 1) := by decide +kernel
theorem dX4_turn_20 : decode cX4_turn 20 = .ok (.invokestatic 54, 3) := by decide +kernel
theorem dX4_turn_23 : decode cX4_turn 23 = .ok (.ifCond .ne 5, 3) := by decide +kernel
theorem dX4_turn_26 : decode cX4_turn 26 = .ok (.iconst (-1), 1) := by decide +kernel
theorem dX4_turn_27 : decode cX4_turn 27 = .ok (.ireturn, 1) := by decide +kernel
theorem dX4_turn_28 : decode cX4_turn 28 = .ok (.aload_n 0, 1) := by decide +kernel
theorem dX4_turn_29 : decode cX4_turn 29 = .ok (.invokevirtual 147, 3) := by decide +kernel
theorem dX4_turn_32 : decode cX4_turn 32 = .ok (.aload_n 0, 1) := by decide +kernel
theorem dX4_turn_33 : decode cX4_turn 33 = .ok (.getfield 29, 3) := by decide +kernel
theorem dX4_turn_36 : decode cX4_turn 36 = .ok (.getfield 161, 3) := by decide +kernel
theorem dX4_turn_39 : decode cX4_turn 39 = .ok (.iload_n 1, 1) := by decide +kernel
theorem dX4_turn_40 : decode cX4_turn 40 = .ok (.iaload, 1) := by decide +kernel
theorem dX4_turn_41 : decode cX4_turn 41 = .ok (.istore_n 3, 1) := by decide +kernel
theorem dX4_turn_42 : decode cX4_turn 42 = .ok (.aload_n 0, 1) := by decide +kernel
theorem dX4_turn_43 : decode cX4_turn 43 = .ok (.getfield 29, 3) := by decide +kernel
theorem dX4_turn_46 : decode cX4_turn 46 = .ok (.getfield 161, 3) := by decide +kernel
theorem dX4_turn_49 : decode cX4_turn 49 = .ok (.iload_n 1, 1) := by decide +kernel
theorem dX4_turn_50 : decode cX4_turn 50 = .ok (.iload_n 2, 1) := by decide +kernel
theorem dX4_turn_51 : decode cX4_turn 51 = .ok (.iastore, 1) := by decide +kernel
theorem dX4_turn_52 : decode cX4_turn 52 = .ok (.iload_n 3, 1) := by decide +kernel
theorem dX4_turn_53 : decode cX4_turn 53 = .ok (.ireturn, 1) := by decide +kernel
set_option maxRecDepth 20000 in
theorem ggX4_undo_X2_copyFrom : GoodIn wsX4_undo wsX2_copyFrom := goodIn_r _ [9, 10, 11, 12, 13, 14, 15, 16, 17, 18, 19, 20, 21, 22, 23, 24, 25, 26, 27, 40, 41, 42, 43, 44, 45, 46, 47, 48, 49, 50, 51, 52] (by decide +kernel) (by decide +kernel)
set_option maxRecDepth 20000 in
theorem gX4_undo_X2_copyFrom : GoodIn wsX4_undo (wsV RX4 167 RX2 yX2_copyFrom wsX2_copyFrom) := goodIn_app (goodIn_of _ (by decide +kernel)) ggX4_undo_X2_copyFrom
theorem dX4_undo_0 : decode cX4_undo 0 = .ok (.aload_n 0, 1) := by decide +kernel
theorem dX4_undo_1 : decode cX4_undo 1 = .ok (.getfield 77, 3) := by decide +kernel
theorem dX4_undo_4 : decode cX4_undo 4 = .ok (.iconst 1, 1) := by decide +kernel
theorem dX4_undo_5 : decode cX4_undo 5 = .ok (.if_icmp .ge 6, 3) := by decide +kernel
theorem dX4_undo_8 : decode cX4_undo 8 = .ok (.bipush (-2), 2) := by decide +kernel
theorem dX4_undo_10 : decode cX4_undo 10 = .ok (.ireturn, 1) := by decide +kernel
theorem dX4_undo_11 : decode cX4_undo 11 = .ok (.aload_n 0, 1) := by decide +kernel
theorem dX4_undo_12 : decode cX4_undo 12 = .ok (.aload_n 0, 1) := by decide +kernel
theorem dX4_undo_13 : decode cX4_undo 13 = .ok (.getfield 164, 3) := by decide +kernel
theorem dX4_undo_16 : decode cX4_undo 16 = .ok (.ifCond .le 12, 3) := by decide +kernel
theorem dX4_undo_19 : decode cX4_undo 19 = .ok (.aload_n 0, 1) := by decide +kernel
theorem dX4_undo_20 : decode cX4_undo 20 = .ok (.getfield 164, 3) := by decide +kernel
theorem dX4_undo_23 : decode cX4_undo 23 = .ok (.iconst 1, 1) := by decide +kernel
theorem dX4_undo_24 : decode cX4_undo 24 = .ok (.isub, 1) := by decide +kernel
theorem dX4_undo_25 : decode cX4_undo 25 = .ok (.goto 5, 3) := by decide +kernel
theorem dX4_undo_28 : decode cX4_undo 28 = .ok (.bipush 9, 2) := by decide +kernel
theorem dX4_undo_30 : decode cX4_undo 30 = .ok (.putfield 164, 3) := by decide +kernel
theorem dX4_undo_33 : decode cX4_undo 33 = .ok (.aload_n 0, 1) := by decide +kernel
theorem dX4_undo_34 : decode cX4_undo 34 = .ok (.getfield 29, 3) := by decide +kernel
theorem dX4_undo_37 : decode cX4_undo 37 = .ok (.aload_n 0, 1) := by decide +kernel
theorem dX4_undo_38 : decode cX4_undo 38 = .ok (.getfield 33, 3) := by decide +kernel
theorem dX4_undo_41 : decode cX4_undo 41 = .ok (.aload_n 0, 1) := by decide +kernel
theorem dX4_undo_42 : decode cX4_undo 42 = .ok (.getfield 164, 3) := by decide +kernel
theorem dX4_undo_45 : decode cX4_undo 45 = .ok (.aaload, 1) := by decide +kernel
theorem dX4_undo_46 : decode cX4_undo 46 = .ok (.invokevirtual 167, 3) := by decide +kernel
theorem dX4_undo_49 : decode cX4_undo 49 = .ok (.aload_n 0, 1) := by decide +kernel
theorem dX4_undo_50 : decode cX4_undo 50 = .ok (.dup, 1) := by decide +kernel
theorem dX4_undo_51 : decode cX4_undo 51 = .ok (.getfield 77, 3) := by decide +kernel
theorem dX4_undo_54 : decode cX4_undo 54 = .ok (.iconst 1, 1) := by decide +kernel
theorem dX4_undo_55 : decode cX4_undo 55 = .ok (.isub, 1) := by decide +kernel
theorem dX4_undo_56 : decode cX4_undo 56 = .ok (.putfield 77, 3) := by decide +kernel
theorem dX4_undo_59 : decode cX4_undo 59 = .ok (.aload_n 0, 1) := by decide +kernel
theorem dX4_undo_60 : decode cX4_undo 60 = .ok (.getfield 77, 3) := by decide +kernel
theorem dX4_undo_63 : decode cX4_undo 63 = .ok (.ireturn, 1) := by decide +kernel
set_option maxRecDepth 20000 in
theorem ggX4_where_X4_isLetter : GoodIn wsX4_where wsX4_isLetter := goodIn_r _ [6, 7, 8, 9, 10, 5, 11, 72, 73, 74, 75, 76, 77, 78, 79, 80, 81, 82, 83, 84, 85, 86, 87, 88, 89] (by decide +kernel) (by decide +kernel)
set_option maxRecDepth 20000 in
theorem gX4_where_X4_isLetter : GoodIn wsX4_where (wsV RX4 109 RX4 yX4_isLetter wsX4_isLetter) := goodIn_app (goodIn_of _ (by decide +kernel)) ggX4_where_X4_isLetter
set_option maxRecDepth 20000 in
theorem ggX4_where_X4_isWithin : GoodIn wsX4_where wsX4_isWithin := goodIn_r _ [11] (by decide +kernel) (by decide +kernel)
set_option maxRecDepth 20000 in
theorem gX4_where_X4_isWithin : GoodIn wsX4_where (va_wsS RX4 54 yX4_isWithin wsX4_isWithin) := goodIn_app (goodIn_of _ (by decide +kernel)) ggX4_where_X4_isWithin
set_option maxRecDepth 20000 in
theorem ggX4_where_X4_letterIn : GoodIn wsX4_where wsX4_letterIn := goodIn_r _ [15, 16, 7, 17, 18, 19, 20, 21, 22, 23, 24, 25, 26, 27, 28, 29, 30, 31, 32, 33, 5, 34, 35, 36, 37, 38, 39, 40, 41, 42, 43, 44, 45, 46, 47, 48, 49, 50, 51, 52, 53, 54, 55, 56, 57, 58, 59, 60, 61, 62, 63, 64, 72, 73, 74, 75, 76, 77, 78, 79, 80, 81, 82, 83, 84, 85, 86, 87, 88, 89, 65, 66, 67, 68, 69, 70, 71, 90, 91, 92, 93, 94, 95, 96, 97, 98, 99] (by decide +kernel) (by decide +kernel)
set_option maxRecDepth 20000 in
theorem gX4_where_X4_letterIn : GoodIn wsX4_where (wsV RX4 171 RX4 yX4_letterIn wsX4_letterIn) := goodIn_app (goodIn_of _ (by decide +kernel)) ggX4_where_X4_letterIn
theorem dX4_where_0 : decode cX4_where 0 = .ok (.aload_n 0, 1) := by decide +kernel
theorem dX4_where_1 : decode cX4_where 1 = .ok (.iload_n 1, 1) := by decide +kernel
theorem dX4_where_2 : decode cX4_where 2 = .ok (.invokevirtual 109, 3) := by decide +kernel
theorem dX4_where_5 : decode cX4_where 5 = .ok (.ifCond .eq 13, 3) := by decide +kernel
theorem dX4_where_8 : decode cX4_where 8 = .ok (.iload_n 2, 1) := by decide +kernel
theorem dX4_where_9 : decode cX4_where 9 = .ok (.iconst 0, 1) := by decide +kernel
theorem dX4_where_10 : decode cX4_where 10 = .ok (.bipush 60, 2) := by decide +kernel
theorem dX4_where_12 : decode cX4_where 12 = .ok (.invokestatic 54, 3) := by decide +kernel
theorem dX4_where_15 : decode cX4_where 15 = .ok (.ifCond .ne 5, 3) := by decide +kernel
theorem dX4_where_18 : decode cX4_where 18 = .ok (.iconst (-1), 1) := by decide +kernel
theorem dX4_where_19 : decode cX4_where 19 = .ok (.ireturn, 1) := by decide +kernel
theorem dX4_where_20 : decode cX4_where 20 = .ok (.aload_n 0, 1) := by decide +kernel
theorem dX4_where_21 : decode cX4_where 21 = .ok (.iload_n 1, 1) := by decide +kernel
theorem dX4_where_22 : decode cX4_where 22 = .ok (.iload_n 2, 1) := by decide +kernel
theorem dX4_where_23 : decode cX4_where 23 = .ok (.invokevirtual 171, 3) := by decide +kernel
theorem dX4_where_26 : decode cX4_where 26 = .ok (.getfield 125, 3) := by decide +kernel
theorem dX4_where_29 : decode cX4_where 29 = .ok (.ireturn, 1) := by decide +kernel
set_option maxRecDepth 20000 in
theorem ggX4_comes_X4_isLetter : GoodIn wsX4_comes wsX4_isLetter := goodIn_r _ [10, 2, 11, 12, 13, 9, 14, 76, 77, 78, 79, 80, 81, 82, 83, 84, 85, 86, 87, 88, 89, 90, 91, 92, 93] (by decide +kernel) (by decide +kernel)
set_option maxRecDepth 20000 in
theorem gX4_comes_X4_isLetter : GoodIn wsX4_comes (wsV RX4 109 RX4 yX4_isLetter wsX4_isLetter) := goodIn_app (goodIn_of _ (by decide +kernel)) ggX4_comes_X4_isLetter
set_option maxRecDepth 20000 in
theorem ggX4_comes_X1_copyFrom : GoodIn wsX4_comes wsX1_copyFrom := goodIn_r _ [19, 20, 21, 22, 23, 24, 25, 26, 94, 95, 96, 97, 98, 99, 100] (by decide +kernel) (by decide +kernel)
set_option maxRecDepth 20000 in
theorem gX4_comes_X1_copyFrom : GoodIn wsX4_comes (wsV RX4 175 RX1 yX1_copyFrom wsX1_copyFrom) := goodIn_app (goodIn_of _ (by decide +kernel)) ggX4_comes_X1_copyFrom
set_option maxRecDepth 20000 in
theorem ggX4_comes_X4_arrival : GoodIn wsX4_comes wsX4_arrival := goodIn_r _ [30, 1, 31, 32, 2, 33, 34, 35, 36, 37, 38, 39, 40, 41, 42, 43, 44, 45, 46, 47, 48, 49, 50, 51, 52, 53, 54, 55, 56, 57, 58, 59, 60, 61, 62, 18, 63, 25, 26, 23, 22, 24, 64, 65, 66, 67, 68, 69, 70, 71, 72, 73, 74, 9, 75, 76, 77, 78, 79, 80, 81, 82, 83, 84, 85, 86, 87, 94, 95, 96, 97, 98, 99, 100, 88, 89, 90, 91, 92, 93, 101, 102, 103, 104, 105, 106, 107, 108, 109, 110] (by decide +kernel) (by decide +kernel)
set_option maxRecDepth 20000 in
theorem gX4_comes_X4_arrival : GoodIn wsX4_comes (wsV RX4 178 RX4 yX4_arrival wsX4_arrival) := goodIn_app (goodIn_of _ (by decide +kernel)) ggX4_comes_X4_arrival
theorem dX4_comes_0 : decode cX4_comes 0 = .ok (.aload_n 0, 1) := by decide +kernel
theorem dX4_comes_1 : decode cX4_comes 1 = .ok (.iload_n 1, 1) := by decide +kernel
theorem dX4_comes_2 : decode cX4_comes 2 = .ok (.invokevirtual 109, 3) := by decide +kernel
theorem dX4_comes_5 : decode cX4_comes 5 = .ok (.ifCond .ne 5, 3) := by decide +kernel
theorem dX4_comes_8 : decode cX4_comes 8 = .ok (.iconst (-1), 1) := by decide +kernel
theorem dX4_comes_9 : decode cX4_comes 9 = .ok (.ireturn, 1) := by decide +kernel
theorem dX4_comes_10 : decode cX4_comes 10 = .ok (.aload_n 0, 1) := by decide +kernel
theorem dX4_comes_11 : decode cX4_comes 11 = .ok (.getfield 47, 3) := by decide +kernel
theorem dX4_comes_14 : decode cX4_comes 14 = .ok (.aload_n 0, 1) := by decide +kernel
theorem dX4_comes_15 : decode cX4_comes 15 = .ok (.getfield 29, 3) := by decide +kernel
theorem dX4_comes_18 : decode cX4_comes 18 = .ok (.getfield 112, 3) := by decide +kernel
theorem dX4_comes_21 : decode cX4_comes 21 = .ok (.iload_n 1, 1) := by decide +kernel
theorem dX4_comes_22 : decode cX4_comes 22 = .ok (.aaload, 1) := by decide +kernel
theorem dX4_comes_23 : decode cX4_comes 23 = .ok (.invokevirtual 175, 3) := by decide +kernel
theorem dX4_comes_26 : decode cX4_comes 26 = .ok (.aload_n 0, 1) := by decide +kernel
theorem dX4_comes_27 : decode cX4_comes 27 = .ok (.aload_n 0, 1) := by decide +kernel
theorem dX4_comes_28 : decode cX4_comes 28 = .ok (.getfield 29, 3) := by decide +kernel
theorem dX4_comes_31 : decode cX4_comes 31 = .ok (.getfield 102, 3) := by decide +kernel
theorem dX4_comes_34 : decode cX4_comes 34 = .ok (.aload_n 0, 1) := by decide +kernel
theorem dX4_comes_35 : decode cX4_comes 35 = .ok (.getfield 29, 3) := by decide +kernel
theorem dX4_comes_38 : decode cX4_comes 38 = .ok (.getfield 88, 3) := by decide +kernel
theorem dX4_comes_41 : decode cX4_comes 41 = .ok (.invokevirtual 178, 3) := by decide +kernel
theorem dX4_comes_44 : decode cX4_comes 44 = .ok (.ireturn, 1) := by decide +kernel
set_option maxRecDepth 20000 in
theorem ggX4_blots_X4_isLetter : GoodIn wsX4_blots wsX4_isLetter := goodIn_r _ [6, 7, 8, 9, 10, 5, 11, 72, 73, 74, 75, 76, 77, 78, 79, 80, 81, 82, 83, 84, 85, 86, 87, 88, 89] (by decide +kernel) (by decide +kernel)
set_option maxRecDepth 20000 in
theorem gX4_blots_X4_isLetter : GoodIn wsX4_blots (wsV RX4 109 RX4 yX4_isLetter wsX4_isLetter) := goodIn_app (goodIn_of _ (by decide +kernel)) ggX4_blots_X4_isLetter
set_option maxRecDepth 20000 in
theorem ggX4_blots_X4_isWithin : GoodIn wsX4_blots wsX4_isWithin := goodIn_r _ [11] (by decide +kernel) (by decide +kernel)
set_option maxRecDepth 20000 in
theorem gX4_blots_X4_isWithin : GoodIn wsX4_blots (va_wsS RX4 54 yX4_isWithin wsX4_isWithin) := goodIn_app (goodIn_of _ (by decide +kernel)) ggX4_blots_X4_isWithin
set_option maxRecDepth 20000 in
theorem ggX4_blots_X4_letterIn : GoodIn wsX4_blots wsX4_letterIn := goodIn_r _ [15, 16, 7, 17, 18, 19, 20, 21, 22, 23, 24, 25, 26, 27, 28, 29, 30, 31, 32, 33, 5, 34, 35, 36, 37, 38, 39, 40, 41, 42, 43, 44, 45, 46, 47, 48, 49, 50, 51, 52, 53, 54, 55, 56, 57, 58, 59, 60, 61, 62, 63, 64, 72, 73, 74, 75, 76, 77, 78, 79, 80, 81, 82, 83, 84, 85, 86, 87, 88, 89, 65, 66, 67, 68, 69, 70, 71, 90, 91, 92, 93, 94, 95, 96, 97, 98, 99] (by decide +kernel) (by decide +kernel)
set_option maxRecDepth 20000 in
theorem gX4_blots_X4_letterIn : GoodIn wsX4_blots (wsV RX4 171 RX4 yX4_letterIn wsX4_letterIn) := goodIn_app (goodIn_of _ (by decide +kernel)) ggX4_blots_X4_letterIn
theorem dX4_blots_0 : decode cX4_blots 0 = .ok (.aload_n 0, 1) := by decide +kernel
theorem dX4_blots_1 : decode cX4_blots 1 = .ok (.iload_n 1, 1) := by decide +kernel
theorem dX4_blots_2 : decode cX4_blots 2 = .ok (.invokevirtual 109, 3) := by decide +kernel
theorem dX4_blots_5 : decode cX4_blots 5 = .ok (.ifCond .eq 13, 3) := by decide +kernel
theorem dX4_blots_8 : decode cX4_blots 8 = .ok (.iload_n 2, 1) := by decide +kernel
theorem dX4_blots_9 : decode cX4_blots 9 = .ok (.iconst 0, 1) := by decide +kernel
theorem dX4_blots_10 : decode cX4_blots 10 = .ok (.bipush 60, 2) := by decide +kernel
theorem dX4_blots_12 : decode cX4_blots 12 = .ok (.invokestatic 54, 3) := by decide +kernel
theorem dX4_blots_15 : decode cX4_blots 15 = .ok (.ifCond .ne 5, 3) := by decide +kernel
theorem dX4_blots_18 : decode cX4_blots 18 = .ok (.iconst (-1), 1) := by decide +kernel
theorem dX4_blots_19 : decode cX4_blots 19 = .ok (.ireturn, 1) := by decide +kernel
theorem dX4_blots_20 : decode cX4_blots 20 = .ok (.aload_n 0, 1) := by decide +kernel
theorem dX4_blots_21 : decode cX4_blots 21 = .ok (.iload_n 1, 1) := by decide +kernel
theorem dX4_blots_22 : decode cX4_blots 22 = .ok (.iload_n 2, 1) := by decide +kernel
theorem dX4_blots_23 : decode cX4_blots 23 = .ok (.invokevirtual 171, 3) := by decide +kernel
theorem dX4_blots_26 : decode cX4_blots 26 = .ok (.getfield 128, 3) := by decide +kernel
theorem dX4_blots_29 : decode cX4_blots 29 = .ok (.ireturn, 1) := by decide +kernel
set_option maxRecDepth 20000 in
theorem ggX4_loop_X4_isLetter : GoodIn wsX4_loop wsX4_isLetter := goodIn_r _ [16, 1, 17, 18, 19, 15, 20, 80, 81, 82, 83, 84, 85, 86, 87, 88, 89, 90, 91, 92, 93, 94, 95, 96, 97] (by decide +kernel) (by decide +kernel)
set_option maxRecDepth 20000 in
theorem gX4_loop_X4_isLetter : GoodIn wsX4_loop (wsV RX4 109 RX4 yX4_isLetter wsX4_isLetter) := goodIn_app (goodIn_of _ (by decide +kernel)) ggX4_loop_X4_isLetter
set_option maxRecDepth 20000 in
theorem ggX4_loop_X0_cells : GoodIn wsX4_loop wsX0_cells := goodIn_r _ [25, 26, 27, 28, 29, 5, 30, 105, 106, 107, 108, 109, 110, 111, 112, 113, 114] (by decide +kernel) (by decide +kernel)
set_option maxRecDepth 20000 in
theorem gX4_loop_X0_cells : GoodIn wsX4_loop (wsV RX4 95 RX0 yX0_cells wsX0_cells) := goodIn_app (goodIn_of _ (by decide +kernel)) ggX4_loop_X0_cells
set_option maxRecDepth 20000 in
theorem ggX4_loop_X4_letterIn : GoodIn wsX4_loop wsX4_letterIn := goodIn_r _ [34, 9, 1, 35, 11, 36, 37, 38, 39, 40, 41, 42, 43, 44, 45, 46, 47, 48, 49, 50, 15, 51, 7, 52, 53, 54, 55, 56, 57, 58, 59, 60, 61, 62, 63, 64, 65, 66, 67, 68, 69, 70, 24, 71, 72, 73, 74, 75, 76, 77, 78, 79, 80, 81, 82, 83, 84, 85, 86, 87, 88, 89, 90, 91, 92, 93, 94, 95, 96, 97, 98, 99, 100, 101, 102, 103, 104, 105, 106, 107, 108, 109, 110, 111, 112, 113, 114] (by decide +kernel) (by decide +kernel)
set_option maxRecDepth 20000 in
theorem gX4_loop_X4_letterIn : GoodIn wsX4_loop (wsV RX4 171 RX4 yX4_letterIn wsX4_letterIn) := goodIn_app (goodIn_of _ (by decide +kernel)) ggX4_loop_X4_letterIn
set_option maxRecDepth 20000 in
theorem ggX4_loop_X4_passHours : GoodIn wsX4_loop wsX4_passHours := goodIn_r _ [51, 7, 1, 52, 53, 54, 55, 56, 57, 58, 59, 60, 61, 62, 63, 64, 65, 66, 39, 67, 46, 47, 44, 43, 45, 68, 69, 70, 24, 71, 72, 73, 74, 75, 76, 77, 78, 15, 79, 80, 81, 82, 83, 84, 85, 86, 87, 88, 89, 90, 91, 92, 93, 94, 95, 96, 97, 98, 99, 100, 101, 102, 103, 104, 105, 106, 107, 108, 109, 110, 111, 112, 113, 114] (by decide +kernel) (by decide +kernel)
set_option maxRecDepth 20000 in
theorem gX4_loop_X4_passHours : GoodIn wsX4_loop (wsV RX4 186 RX4 yX4_passHours wsX4_passHours) := goodIn_app (goodIn_of _ (by decide +kernel)) ggX4_loop_X4_passHours
theorem dX4_loop_0 : decode cX4_loop 0 = .ok (.aload_n 0, 1) := by decide +kernel
theorem dX4_loop_1 : decode cX4_loop 1 = .ok (.iload_n 1, 1) := by decide +kernel
theorem dX4_loop_2 : decode cX4_loop 2 = .ok (.invokevirtual 109, 3) := by decide +kernel
theorem dX4_loop_5 : decode cX4_loop 5 = .ok (.ifCond .ne 5, 3) := by decide +kernel
theorem dX4_loop_8 : decode cX4_loop 8 = .ok (.iconst (-1), 1) := by decide +kernel
theorem dX4_loop_9 : decode cX4_loop 9 = .ok (.ireturn, 1) := by decide +kernel
theorem dX4_loop_10 : decode cX4_loop 10 = .ok (.iconst 1, 1) := by decide +kernel
theorem dX4_loop_11 : decode cX4_loop 11 = .ok (.aload_n 0, 1) := by decide +kernel
theorem dX4_loop_12 : decode cX4_loop 12 = .ok (.getfield 29, 3) := by decide +kernel
theorem dX4_loop_15 : decode cX4_loop 15 = .ok (.getfield 158, 3) := by decide +kernel
theorem dX4_loop_18 : decode cX4_loop 18 = .ok (.invokestatic 181, 3) := by decide +kernel
theorem dX4_loop_21 : decode cX4_loop 21 = .ok (.istore_n 2, 1) := by decide +kernel
theorem dX4_loop_22 : decode cX4_loop 22 = .ok (.aload_n 0, 1) := by decide +kernel
theorem dX4_loop_23 : decode cX4_loop 23 = .ok (.iload_n 1, 1) := by decide +kernel
theorem dX4_loop_24 : decode cX4_loop 24 = .ok (.aload_n 0, 1) := by decide +kernel
theorem dX4_loop_25 : decode cX4_loop 25 = .ok (.getfield 19, 3) := by decide +kernel
theorem dX4_loop_28 : decode cX4_loop 28 = .ok (.invokevirtual 95, 3) := by decide +kernel
theorem dX4_loop_31 : decode cX4_loop 31 = .ok (.iload_n 2, 1) := by decide +kernel
theorem dX4_loop_32 : decode cX4_loop 32 = .ok (.imul, 1) := by decide +kernel
theorem dX4_loop_33 : decode cX4_loop 33 = .ok (.invokevirtual 171, 3) := by decide +kernel
theorem dX4_loop_36 : decode cX4_loop 36 = .ok (.getfield 131, 3) := by decide +kernel
theorem dX4_loop_39 : decode cX4_loop 39 = .ok (.ifCond .eq 6, 3) := by decide +kernel
theorem dX4_loop_42 : decode cX4_loop 42 = .ok (.bipush (-9), 2) := by decide +kernel
theorem dX4_loop_44 : decode cX4_loop 44 = .ok (.ireturn, 1) := by decide +kernel
theorem dX4_loop_45 : decode cX4_loop 45 = .ok (.aload_n 0, 1) := by decide +kernel
theorem dX4_loop_46 : decode cX4_loop 46 = .ok (.getfield 47, 3) := by decide +kernel
theorem dX4_loop_49 : decode cX4_loop 49 = .ok (.getfield 125, 3) := by decide +kernel
theorem dX4_loop_52 : decode cX4_loop 52 = .ok (.istore_n 3, 1) := by decide +kernel
theorem dX4_loop_53 : decode cX4_loop 53 = .ok (.iconst 1, 1) := by decide +kernel
theorem dX4_loop_54 : decode cX4_loop 54 = .ok (.istore 4, 2) := by decide +kernel
theorem dX4_loop_56 : decode cX4_loop 56 = .ok (.iload 4, 2) := by decide +kernel
theorem dX4_loop_58 : decode cX4_loop 58 = .ok (.bipush 30, 2) := by decide +kernel
theorem dX4_loop_60 : decode cX4_loop 60 = .ok (.if_icmp .gt 41, 3) := by decide +kernel
theorem dX4_loop_63 : decode cX4_loop 63 = .ok (.aload_n 0, 1) := by decide +kernel
theorem dX4_loop_64 : decode cX4_loop 64 = .ok (.aload_n 0, 1) := by decide +kernel
theorem dX4_loop_65 : decode cX4_loop 65 = .ok (.getfield 47, 3) := by decide +kernel
theorem dX4_loop_68 : decode cX4_loop 68 = .ok (.aload_n 0, 1) := by decide +kernel
theorem dX4_loop_69 : decode cX4_loop 69 = .ok (.getfield 29, 3) := by decide +kernel
theorem dX4_loop_72 : decode cX4_loop 72 = .ok (.getfield 102, 3) := by decide +kernel
theorem dX4_loop_75 : decode cX4_loop 75 = .ok (.iload_n 2, 1) := by decide +kernel
theorem dX4_loop_76 : decode cX4_loop 76 = .ok (.invokevirtual 186, 3) := by decide +kernel
theorem dX4_loop_79 : decode cX4_loop 79 = .ok (.aload_n 0, 1) := by decide +kernel
theorem dX4_loop_80 : decode cX4_loop 80 = .ok (.getfield 47, 3) := by decide +kernel
theorem dX4_loop_83 : decode cX4_loop 83 = .ok (.getfield 125, 3) := by decide +kernel
theorem dX4_loop_86 : decode cX4_loop 86 = .ok (.iload_n 3, 1) := by decide +kernel
theorem dX4_loop_87 : decode cX4_loop 87 = .ok (.if_icmp .ne 8, 3) := by decide +kernel
theorem dX4_loop_90 : decode cX4_loop 90 = .ok (.iload 4, 2) := by decide +kernel
theorem dX4_loop_92 : decode cX4_loop 92 = .ok (.iload_n 2, 1) := by decide +kernel
theorem dX4_loop_93 : decode cX4_loop 93 = .ok (.imul, 1) := by decide +kernel
theorem dX4_loop_94 : decode cX4_loop 94 = .ok (.ireturn, 1) := by decide +kernel
theorem dX4_loop_95 : decode cX4_loop 95 = .ok (.iinc 4 1, 3) := by decide +kernel
theorem dX4_loop_98 : decode cX4_loop 98 = .ok (.goto (-42), 3) := by decide +kernel
theorem dX4_loop_101 : decode cX4_loop 101 = .ok (.bipush (-9), 2) := by decide +kernel
theorem dX4_loop_103 : decode cX4_loop 103 = .ok (.ireturn, 1) := by decide +kernel
set_option maxRecDepth 20000 in
theorem ggX4_tangled_X4_isLetter : GoodIn wsX4_tangled wsX4_isLetter := goodIn_r _ [12, 2, 13, 14, 15, 11, 16, 63, 64, 65, 66, 67, 68, 69, 70, 71, 72, 73, 74, 75, 76, 77, 78, 79, 80] (by decide +kernel) (by decide +kernel)
set_option maxRecDepth 20000 in
theorem gX4_tangled_X4_isLetter : GoodIn wsX4_tangled (wsV RX4 109 RX4 yX4_isLetter wsX4_isLetter) := goodIn_app (goodIn_of _ (by decide +kernel)) ggX4_tangled_X4_isLetter
set_option maxRecDepth 20000 in
theorem ggX4_tangled_X1_copyFrom : GoodIn wsX4_tangled wsX1_copyFrom := goodIn_r _ [21, 22, 23, 24, 25, 26, 27, 28, 81, 82, 83, 84, 85, 86, 87] (by decide +kernel) (by decide +kernel)
set_option maxRecDepth 20000 in
theorem gX4_tangled_X1_copyFrom : GoodIn wsX4_tangled (wsV RX4 175 RX1 yX1_copyFrom wsX1_copyFrom) := goodIn_app (goodIn_of _ (by decide +kernel)) ggX4_tangled_X1_copyFrom
set_option maxRecDepth 20000 in
theorem ggX4_tangled_X4_passHours : GoodIn wsX4_tangled wsX4_passHours := goodIn_r _ [32, 33, 2, 34, 35, 36, 37, 38, 39, 40, 41, 42, 43, 44, 45, 46, 47, 48, 20, 49, 27, 28, 25, 24, 26, 50, 51, 52, 53, 54, 55, 56, 57, 58, 59, 60, 61, 11, 62, 63, 64, 65, 66, 67, 68, 69, 70, 71, 72, 73, 74, 75, 76, 77, 78, 79, 80, 81, 82, 83, 84, 85, 86, 87, 88, 89, 90, 91, 92, 93, 94, 95, 96, 97] (by decide +kernel) (by decide +kernel)
set_option maxRecDepth 20000 in
theorem gX4_tangled_X4_passHours : GoodIn wsX4_tangled (wsV RX4 186 RX4 yX4_passHours wsX4_passHours) := goodIn_app (goodIn_of _ (by decide +kernel)) ggX4_tangled_X4_passHours
theorem dX4_tangled_0 : decode cX4_tangled 0 = .ok (.aload_n 0, 1) := by decide +kernel
theorem dX4_tangled_1 : decode cX4_tangled 1 = .ok (.iload_n 1, 1) := by decide +kernel
theorem dX4_tangled_2 : decode cX4_tangled 2 = .ok (.invokevirtual 109, 3) := by decide +kernel
theorem dX4_tangled_5 : decode cX4_tangled 5 = .ok (.ifCond .eq 16, 3) := by decide +kernel
theorem dX4_tangled_8 : decode cX4_tangled 8 = .ok (.aload_n 0, 1) := by decide +kernel
theorem dX4_tangled_9 : decode cX4_tangled 9 = .ok (.iload_n 2, 1) := by decide +kernel
theorem dX4_tangled_10 : decode cX4_tangled 10 = .ok (.invokevirtual 109, 3) := by decide +kernel
theorem dX4_tangled_13 : decode cX4_tangled 13 = .ok (.ifCond .eq 8, 3) := by decide +kernel
theorem dX4_tangled_16 : decode cX4_tangled 16 = .ok (.iload_n 1, 1) := by decide +kernel
theorem dX4_tangled_17 : decode cX4_tangled 17 = .ok (.iload_n 2, 1) := by decide +kernel
theorem dX4_tangled_18 : decode cX4_tangled 18 = .ok (.if_icmp .ne 5, 3) := by decide +kernel
theorem dX4_tangled_21 : decode cX4_tangled 21 = .ok (.iconst (-1), 1) := by decide +kernel
theorem dX4_tangled_22 : decode cX4_tangled 22 = .ok (.ireturn, 1) := by decide +kernel
theorem dX4_tangled_23 : decode cX4_tangled 23 = .ok (.aload_n 0, 1) := by decide +kernel
theorem dX4_tangled_24 : decode cX4_tangled 24 = .ok (.getfield 47, 3) := by decide +kernel
theorem dX4_tangled_27 : decode cX4_tangled 27 = .ok (.aload_n 0, 1) := by decide +kernel
theorem dX4_tangled_28 : decode cX4_tangled 28 = .ok (.getfield 29, 3) := by decide +kernel
theorem dX4_tangled_31 : decode cX4_tangled 31 = .ok (.getfield 112, 3) := by decide +kernel
theorem dX4_tangled_34 : decode cX4_tangled 34 = .ok (.iload_n 1, 1) := by decide +kernel
theorem dX4_tangled_35 : decode cX4_tangled 35 = .ok (.aaload, 1) := by decide +kernel
theorem dX4_tangled_36 : decode cX4_tangled 36 = .ok (.invokevirtual 175, 3) := by decide +kernel
theorem dX4_tangled_39 : decode cX4_tangled 39 = .ok (.aload_n 0, 1) := by decide +kernel
theorem dX4_tangled_40 : decode cX4_tangled 40 = .ok (.getfield 51, 3) := by decide +kernel
theorem dX4_tangled_43 : decode cX4_tangled 43 = .ok (.aload_n 0, 1) := by decide +kernel
theorem dX4_tangled_44 : decode cX4_tangled 44 = .ok (.getfield 29, 3) := by decide +kernel
theorem dX4_tangled_47 : decode cX4_tangled 47 = .ok (.getfield 112, 3) := by decide +kernel
theorem dX4_tangled_50 : decode cX4_tangled 50 = .ok (.iload_n 2, 1) := by decide +kernel
theorem dX4_tangled_51 : decode cX4_tangled 51 = .ok (.aaload, 1) := by decide +kernel
theorem dX4_tangled_52 : decode cX4_tangled 52 = .ok (.invokevirtual 175, 3) := by decide +kernel
theorem dX4_tangled_55 : decode cX4_tangled 55 = .ok (.iconst 0, 1) := by decide +kernel
theorem dX4_tangled_56 : decode cX4_tangled 56 = .ok (.istore_n 3, 1) := by decide +kernel
theorem dX4_tangled_57 : decode cX4_tangled 57 = .ok (.iload_n 3, 1) := by decide +kernel
theorem dX4_tangled_58 : decode cX4_tangled 58 = .ok (.sipush 400, 3) := by decide +kernel
theorem dX4_tangled_61 : decode cX4_tangled 61 = .ok (.if_icmp .gt 87, 3) := by decide +kernel
theorem dX4_tangled_64 : decode cX4_tangled 64 = .ok (.aload_n 0, 1) := by decide +kernel
theorem dX4_tangled_65 : decode cX4_tangled 65 = .ok (.getfield 47, 3) := by decide +kernel
theorem dX4_tangled_68 : decode cX4_tangled 68 = .ok (.getfield 131, 3) := by decide +kernel
theorem dX4_tangled_71 : decode cX4_tangled 71 = .ok (.ifCond .ne 13, 3) := by decide +kernel
theorem dX4_tangled_74 : decode cX4_tangled 74 = .ok (.aload_n 0, 1) := by decide +kernel
theorem dX4_tangled_75 : decode cX4_tangled 75 = .ok (.getfield 51, 3) := by decide +kernel
theorem dX4_tangled_78 : decode cX4_tangled 78 = .ok (.getfield 131, 3) := by decide +kernel
theorem dX4_tangled_81 : decode cX4_tangled 81 = .ok (.ifCond .eq 6, 3) := by decide +kernel
theorem dX4_tangled_84 : decode cX4_tangled 84 = .ok (.bipush (-9), 2) := by decide +kernel
theorem dX4_tangled_86 : decode cX4_tangled 86 = .ok (.ireturn, 1) := by decide +kernel
theorem dX4_tangled_87 : decode cX4_tangled 87 = .ok (.aload_n 0, 1) := by decide +kernel
theorem dX4_tangled_88 : decode cX4_tangled 88 = .ok (.getfield 47, 3) := by decide +kernel
theorem dX4_tangled_91 : decode cX4_tangled 91 = .ok (.getfield 125, 3) := by decide +kernel
theorem dX4_tangled_94 : decode cX4_tangled 94 = .ok (.aload_n 0, 1) := by decide +kernel
theorem dX4_tangled_95 : decode cX4_tangled 95 = .ok (.getfield 51, 3) := by decide +kernel
theorem dX4_tangled_98 : decode cX4_tangled 98 = .ok (.getfield 125, 3) := by decide +kernel
theorem dX4_tangled_101 : decode cX4_tangled 101 = .ok (.if_icmp .ne 5, 3) := by decide +kernel
theorem dX4_tangled_104 : decode cX4_tangled 104 = .ok (.iload_n 3, 1) := by decide +kernel
theorem dX4_tangled_105 : decode cX4_tangled 105 = .ok (.ireturn, 1) := by decide +kernel
theorem dX4_tangled_106 : decode cX4_tangled 106 = .ok (.aload_n 0, 1) := by decide +kernel
theorem dX4_tangled_107 : decode cX4_tangled 107 = .ok (.aload_n 0, 1) := by decide +kernel
theorem dX4_tangled_108 : decode cX4_tangled 108 = .ok (.getfield 47, 3) := by decide +kernel
theorem dX4_tangled_111 : decode cX4_tangled 111 = .ok (.aload_n 0, 1) := by decide +kernel
theorem dX4_tangled_112 : decode cX4_tangled 112 = .ok (.getfield 29, 3) := by decide +kernel
theorem dX4_tangled_115 : decode cX4_tangled 115 = .ok (.getfield 102, 3) := by decide +kernel
theorem dX4_tangled_118 : decode cX4_tangled 118 = .ok (.iload_n 3, 1) := by decide +kernel
theorem dX4_tangled_119 : decode cX4_tangled 119 = .ok (.iadd, 1) := by decide +kernel
theorem dX4_tangled_120 : decode cX4_tangled 120 = .ok (.iconst 1, 1) := by decide +kernel
theorem dX4_tangled_121 : decode cX4_tangled 121 = .ok (.invokevirtual 186, 3) := by decide +kernel
theorem dX4_tangled_124 : decode cX4_tangled 124 = .ok (.aload_n 0, 1) := by decide +kernel
theorem dX4_tangled_125 : decode cX4_tangled 125 = .ok (.aload_n 0, 1) := by decide +kernel
theorem dX4_tangled_126 : decode cX4_tangled 126 = .ok (.getfield 51, 3) := by decide +kernel
theorem dX4_tangled_129 : decode cX4_tangled 129 = .ok (.aload_n 0, 1) := by decide +kernel
theorem dX4_tangled_130 : decode cX4_tangled 130 = .ok (.getfield 29, 3) := by decide +kernel
theorem dX4_tangled_133 : decode cX4_tangled 133 = .ok (.getfield 102, 3) := by decide +kernel
theorem dX4_tangled_136 : decode cX4_tangled 136 = .ok (.iload_n 3, 1) := by decide +kernel
theorem dX4_tangled_137 : decode cX4_tangled 137 = .ok (.iadd, 1) := by decide +kernel
theorem dX4_tangled_138 : decode cX4_tangled 138 = .ok (.iconst 1, 1) := by decide +kernel
theorem dX4_tangled_139 : decode cX4_tangled 139 = .ok (.invokevirtual 186, 3) := by decide +kernel
theorem dX4_tangled_142 : decode cX4_tangled 142 = .ok (.iinc 3 1, 3) := by decide +kernel
theorem dX4_tangled_145 : decode cX4_tangled 145 = .ok (.goto (-88), 3) := by decide +kernel
theorem dX4_tangled_148 : decode cX4_tangled 148 = .ok (.bipush (-9), 2) := by decide +kernel
theorem dX4_tangled_150 : decode cX4_tangled 150 = .ok (.ireturn, 1) := by decide +kernel
set_option maxRecDepth 20000 in
theorem ggX4_soonest_X4_isWay : GoodIn wsX4_soonest wsX4_isWay := goodIn_r _ [7, 8, 9, 10, 6, 11, 12, 13, 14, 15, 16, 93, 94, 95, 96, 97, 98, 99, 100, 101, 102, 103, 104, 111, 112, 113, 114, 115, 116, 117, 118, 119, 120] (by decide +kernel) (by decide +kernel)
set_option maxRecDepth 20000 in
theorem gX4_soonest_X4_isWay : GoodIn wsX4_soonest (wsV RX4 140 RX4 yX4_isWay wsX4_isWay) := goodIn_app (goodIn_of _ (by decide +kernel)) ggX4_soonest_X4_isWay
set_option maxRecDepth 20000 in
theorem ggX4_soonest_X4_isWeight : GoodIn wsX4_soonest wsX4_isWeight := goodIn_r _ [19, 14, 15, 6, 16] (by decide +kernel) (by decide +kernel)
set_option maxRecDepth 20000 in
theorem gX4_soonest_X4_isWeight : GoodIn wsX4_soonest (va_wsS RX4 144 yX4_isWeight wsX4_isWeight) := goodIn_app (goodIn_of _ (by decide +kernel)) ggX4_soonest_X4_isWeight
set_option maxRecDepth 20000 in
theorem ggX4_soonest_X4_isWithin : GoodIn wsX4_soonest wsX4_isWithin := goodIn_r _ [16] (by decide +kernel) (by decide +kernel)
set_option maxRecDepth 20000 in
theorem gX4_soonest_X4_isWithin : GoodIn wsX4_soonest (va_wsS RX4 54 yX4_isWithin wsX4_isWithin) := goodIn_app (goodIn_of _ (by decide +kernel)) ggX4_soonest_X4_isWithin
set_option maxRecDepth 20000 in
theorem ggX4_soonest_X4_supposed : GoodIn wsX4_soonest wsX4_supposed := goodIn_r _ [23, 24, 12, 25, 1, 26, 27, 28, 29, 30, 31, 32, 33, 34, 35, 36, 37, 38, 39, 40, 41, 42, 43, 44, 45, 46, 47, 48, 6, 49, 50, 51, 52, 53, 54, 55, 56, 57, 58, 59, 60, 61, 62, 63, 64, 65, 66, 67, 68, 69, 70, 71, 72, 73, 74, 75, 76, 77, 78, 79, 80, 81, 82, 83, 84, 85, 86, 87, 88, 89, 90, 91, 92, 93, 94, 95, 96, 97, 98, 99, 100, 101, 102, 103, 104, 121, 122, 123, 124, 125, 126, 127, 105, 106, 107, 108, 109, 110, 111, 112, 113, 114, 115, 116, 117, 118, 119, 120] (by decide +kernel) (by decide +kernel)
set_option maxRecDepth 20000 in
theorem gX4_soonest_X4_supposed : GoodIn wsX4_soonest (wsV RX4 190 RX4 yX4_supposed wsX4_supposed) := goodIn_app (goodIn_of _ (by decide +kernel)) ggX4_soonest_X4_supposed
theorem dX4_soonest_0 : decode cX4_soonest 0 = .ok (.aload_n 0, 1) := by decide +kernel
theorem dX4_soonest_1 : decode cX4_soonest 1 = .ok (.iload_n 1, 1) := by decide +kernel
theorem dX4_soonest_2 : decode cX4_soonest 2 = .ok (.iload_n 2, 1) := by decide +kernel
theorem dX4_soonest_3 : decode cX4_soonest 3 = .ok (.invokevirtual 140, 3) := by decide +kernel
theorem dX4_soonest_6 : decode cX4_soonest 6 = .ok (.ifCond .eq 20, 3) := by decide +kernel
theorem dX4_soonest_9 : decode cX4_soonest 9 = .ok (.iload_n 3, 1) := by decide +kernel
theorem dX4_soonest_10 : decode cX4_soonest 10 = .ok (.invokestatic 144, 3) := by decide +kernel
theorem dX4_soonest_13 : decode cX4_soonest 13 = .ok (.ifCond .eq 13, 3) := by decide +kernel
theorem dX4_soonest_16 : decode cX4_soonest 16 = .ok (.iload 4, 2) := by decide +kernel
theorem dX4_soonest_18 : decode cX4_soonest 18 = .ok (.iconst 0, 1) := by decide +kernel
theorem dX4_soonest_19 : decode cX4_soonest 19 = .ok (.iconst 1, 1) := by decide +kernel
theorem dX4_soonest_20 : decode cX4_soonest 20 = .ok (.invokestatic 54, 3) := by decide +kernel
theorem dX4_soonest_23 : decode cX4_soonest 23 = .ok (.ifCond .ne 5, 3) := by decide +kernel
theorem dX4_soonest_26 : decode cX4_soonest 26 = .ok (.iconst (-1), 1) := by decide +kernel
theorem dX4_soonest_27 : decode cX4_soonest 27 = .ok (.ireturn, 1) := by decide +kernel
theorem dX4_soonest_28 : decode cX4_soonest 28 = .ok (.bipush (-9), 2) := by decide +kernel
theorem dX4_soonest_30 : decode cX4_soonest 30 = .ok (.istore 5, 2) := by decide +kernel
theorem dX4_soonest_32 : decode cX4_soonest 32 = .ok (.bipush (-9), 2) := by decide +kernel
theorem dX4_soonest_34 : decode cX4_soonest 34 = .ok (.istore 6, 2) := by decide +kernel
theorem dX4_soonest_36 : decode cX4_soonest 36 = .ok (.iconst 0, 1) := by decide +kernel
theorem dX4_soonest_37 : decode cX4_soonest 37 = .ok (.istore 7, 2) := by decide +kernel
theorem dX4_soonest_39 : decode cX4_soonest 39 = .ok (.iload 7, 2) := by decide +kernel
theorem dX4_soonest_41 : decode cX4_soonest 41 = .ok (.bipush 12, 2) := by decide +kernel
theorem dX4_soonest_43 : decode cX4_soonest 43 = .ok (.if_icmp .ge 62, 3) := by decide +kernel
theorem dX4_soonest_46 : decode cX4_soonest 46 = .ok (.aload_n 0, 1) := by decide +kernel
theorem dX4_soonest_47 : decode cX4_soonest 47 = .ok (.iload_n 1, 1) := by decide +kernel
theorem dX4_soonest_48 : decode cX4_soonest 48 = .ok (.iload_n 2, 1) := by decide +kernel
theorem dX4_soonest_49 : decode cX4_soonest 49 = .ok (.iload_n 3, 1) := by decide +kernel
theorem dX4_soonest_50 : decode cX4_soonest 50 = .ok (.iload 7, 2) := by decide +kernel
theorem dX4_soonest_52 : decode cX4_soonest 52 = .ok (.aload_n 0, 1) := by decide +kernel
theorem dX4_soonest_53 : decode cX4_soonest 53 = .ok (.getfield 29, 3) := by decide +kernel
theorem dX4_soonest_56 : decode cX4_soonest 56 = .ok (.getfield 88, 3) := by decide +kernel
theorem dX4_soonest_59 : decode cX4_soonest 59 = .ok (.invokevirtual 190, 3) := by decide +kernel
theorem dX4_soonest_62 : decode cX4_soonest 62 = .ok (.istore 8, 2) := by decide +kernel
theorem dX4_soonest_64 : decode cX4_soonest 64 = .ok (.iload 8, 2) := by decide +kernel
theorem dX4_soonest_66 : decode cX4_soonest 66 = .ok (.bipush (-9), 2) := by decide +kernel
theorem dX4_soonest_68 : decode cX4_soonest 68 = .ok (.if_icmp .eq 31, 3) := by decide +kernel
theorem dX4_soonest_71 : decode cX4_soonest 71 = .ok (.iload 6, 2) := by decide +kernel
theorem dX4_soonest_73 : decode cX4_soonest 73 = .ok (.bipush (-9), 2) := by decide +kernel
theorem dX4_soonest_75 : decode cX4_soonest 75 = .ok (.if_icmp .eq 13, 3) := by decide +kernel
theorem dX4_soonest_78 : decode cX4_soonest 78 = .ok (.iload 7, 2) := by decide +kernel
theorem dX4_soonest_80 : decode cX4_soonest 80 = .ok (.iload 8, 2) := by decide +kernel
theorem dX4_soonest_82 : decode cX4_soonest 82 = .ok (.iadd, 1) := by decide +kernel
theorem dX4_soonest_83 : decode cX4_soonest 83 = .ok (.iload 6, 2) := by decide +kernel
theorem dX4_soonest_85 : decode cX4_soonest 85 = .ok (.if_icmp .ge 14, 3) := by decide +kernel
theorem dX4_soonest_88 : decode cX4_soonest 88 = .ok (.iload 7, 2) := by decide +kernel
theorem dX4_soonest_90 : decode cX4_soonest 90 = .ok (.istore 5, 2) := by decide +kernel
theorem dX4_soonest_92 : decode cX4_soonest 92 = .ok (.iload 7, 2) := by decide +kernel
theorem dX4_soonest_94 : decode cX4_soonest 94 = .ok (.iload 8, 2) := by decide +kernel
theorem dX4_soonest_96 : decode cX4_soonest 96 = .ok (.iadd, 1) := by decide +kernel
theorem dX4_soonest_97 : decode cX4_soonest 97 = .ok (.istore 6, 2) := by decide +kernel
theorem dX4_soonest_99 : decode cX4_soonest 99 = .ok (.iinc 7 1, 3) := by decide +kernel
theorem dX4_soonest_102 : decode cX4_soonest 102 = .ok (.goto (-63), 3) := by decide +kernel
theorem dX4_soonest_105 : decode cX4_soonest 105 = .ok (.iload 4, 2) := by decide +kernel
theorem dX4_soonest_107 : decode cX4_soonest 107 = .ok (.ifCond .ne 8, 3) := by decide +kernel
theorem dX4_soonest_110 : decode cX4_soonest 110 = .ok (.iload 5, 2) := by decide +kernel
theorem dX4_soonest_112 : decode cX4_soonest 112 = .ok (.goto 5, 3) := by decide +kernel
theorem dX4_soonest_115 : decode cX4_soonest 115 = .ok (.iload 6, 2) := by decide +kernel
theorem dX4_soonest_117 : decode cX4_soonest 117 = .ok (.ireturn, 1) := by decide +kernel
set_option maxRecDepth 20000 in
theorem ggX4_lightest_X4_isWay : GoodIn wsX4_lightest wsX4_isWay := goodIn_r _ [7, 8, 9, 10, 6, 11, 12, 13, 14, 15, 16, 90, 91, 92, 93, 94, 95, 96, 97, 98, 99, 100, 101, 108, 109, 110, 111, 112, 113, 114, 115, 116, 117] (by decide +kernel) (by decide +kernel)
set_option maxRecDepth 20000 in
theorem gX4_lightest_X4_isWay : GoodIn wsX4_lightest (wsV RX4 140 RX4 yX4_isWay wsX4_isWay) := goodIn_app (goodIn_of _ (by decide +kernel)) ggX4_lightest_X4_isWay
set_option maxRecDepth 20000 in
theorem ggX4_lightest_X4_isWithin : GoodIn wsX4_lightest wsX4_isWithin := goodIn_r _ [16] (by decide +kernel) (by decide +kernel)
set_option maxRecDepth 20000 in
theorem gX4_lightest_X4_isWithin : GoodIn wsX4_lightest (va_wsS RX4 54 yX4_isWithin wsX4_isWithin) := goodIn_app (goodIn_of _ (by decide +kernel)) ggX4_lightest_X4_isWithin
set_option maxRecDepth 20000 in
theorem ggX4_lightest_X4_supposed : GoodIn wsX4_lightest wsX4_supposed := goodIn_r _ [20, 21, 12, 22, 1, 23, 24, 25, 26, 27, 28, 29, 30, 31, 32, 33, 34, 35, 36, 37, 38, 39, 40, 41, 42, 43, 44, 45, 6, 46, 47, 48, 49, 50, 51, 52, 53, 54, 55, 56, 57, 58, 59, 60, 61, 62, 63, 64, 65, 66, 67, 68, 69, 70, 71, 72, 73, 74, 75, 76, 77, 78, 79, 80, 81, 82, 83, 84, 85, 86, 87, 88, 89, 90, 91, 92, 93, 94, 95, 96, 97, 98, 99, 100, 101, 118, 119, 120, 121, 122, 123, 124, 102, 103, 104, 105, 106, 107, 108, 109, 110, 111, 112, 113, 114, 115, 116, 117] (by decide +kernel) (by decide +kernel)
set_option maxRecDepth 20000 in
theorem gX4_lightest_X4_supposed : GoodIn wsX4_lightest (wsV RX4 190 RX4 yX4_supposed wsX4_supposed) := goodIn_app (goodIn_of _ (by decide +kernel)) ggX4_lightest_X4_supposed
theorem dX4_lightest_0 : decode cX4_lightest 0 = .ok (.aload_n 0, 1) := by decide +kernel
theorem dX4_lightest_1 : decode cX4_lightest 1 = .ok (.iload_n 1, 1) := by decide +kernel
theorem dX4_lightest_2 : decode cX4_lightest 2 = .ok (.iload_n 2, 1) := by decide +kernel
theorem dX4_lightest_3 : decode cX4_lightest 3 = .ok (.invokevirtual 140, 3) := by decide +kernel
theorem dX4_lightest_6 : decode cX4_lightest 6 = .ok (.ifCond .eq 13, 3) := by decide +kernel
theorem dX4_lightest_9 : decode cX4_lightest 9 = .ok (.iload_n 3, 1) := by decide +kernel
theorem dX4_lightest_10 : decode cX4_lightest 10 = .ok (.iconst 1, 1) := by decide +kernel
theorem dX4_lightest_11 : decode cX4_lightest 11 = .ok (.bipush 60, 2) := by decide +kernel
theorem dX4_lightest_13 : decode cX4_lightest 13 = .ok (.invokestatic 54, 3) := by decide +kernel
theorem dX4_lightest_16 : decode cX4_lightest 16 = .ok (.ifCond .ne 5, 3) := by decide +kernel
theorem dX4_lightest_19 : decode cX4_lightest 19 = .ok (.iconst (-1), 1) := by decide +kernel
theorem dX4_lightest_20 : decode cX4_lightest 20 = .ok (.ireturn, 1) := by decide +kernel
theorem dX4_lightest_21 : decode cX4_lightest 21 = .ok (.iconst 1, 1) := by decide +kernel
theorem dX4_lightest_22 : decode cX4_lightest 22 = .ok (.istore 4, 2) := by decide +kernel
theorem dX4_lightest_24 : decode cX4_lightest 24 = .ok (.iload 4, 2) := by decide +kernel
theorem dX4_lightest_26 : decode cX4_lightest 26 = .ok (.iconst 5, 1) := by decide +kernel
theorem dX4_lightest_27 : decode cX4_lightest 27 = .ok (.if_icmp .gt 43, 3) := by decide +kernel
theorem dX4_lightest_30 : decode cX4_lightest 30 = .ok (.aload_n 0, 1) := by decide +kernel
theorem dX4_lightest_31 : decode cX4_lightest 31 = .ok (.iload_n 1, 1) := by decide +kernel
theorem dX4_lightest_32 : decode cX4_lightest 32 = .ok (.iload_n 2, 1) := by decide +kernel
theorem dX4_lightest_33 : decode cX4_lightest 33 = .ok (.iload 4, 2) := by decide +kernel
theorem dX4_lightest_35 : decode cX4_lightest 35 = .ok (.iconst 0, 1) := by decide +kernel
theorem dX4_lightest_36 : decode cX4_lightest 36 = .ok (.aload_n 0, 1) := by decide +kernel
theorem dX4_lightest_37 : decode cX4_lightest 37 = .ok (.getfield 29, 3) := by decide +kernel
theorem dX4_lightest_40 : decode cX4_lightest 40 = .ok (.getfield 88, 3) := by decide +kernel
theorem dX4_lightest_43 : decode cX4_lightest 43 = .ok (.invokevirtual 190, 3) := by decide +kernel
theorem dX4_lightest_46 : decode cX4_lightest 46 = .ok (.istore 5, 2) := by decide +kernel
theorem dX4_lightest_48 : decode cX4_lightest 48 = .ok (.iload 5, 2) := by decide +kernel
theorem dX4_lightest_50 : decode cX4_lightest 50 = .ok (.bipush (-9), 2) := by decide +kernel
theorem dX4_lightest_52 : decode cX4_lightest 52 = .ok (.if_icmp .eq 12, 3) := by decide +kernel
theorem dX4_lightest_55 : decode cX4_lightest 55 = .ok (.iload 5, 2) := by decide +kernel
theorem dX4_lightest_57 : decode cX4_lightest 57 = .ok (.iload_n 3, 1) := by decide +kernel
theorem dX4_lightest_58 : decode cX4_lightest 58 = .ok (.if_icmp .gt 6, 3) := by decide +kernel
theorem dX4_lightest_61 : decode cX4_lightest 61 = .ok (.iload 4, 2) := by decide +kernel
theorem dX4_lightest_63 : decode cX4_lightest 63 = .ok (.ireturn, 1) := by decide +kernel
theorem dX4_lightest_64 : decode cX4_lightest 64 = .ok (.iinc 4 1, 3) := by decide +kernel
theorem dX4_lightest_67 : decode cX4_lightest 67 = .ok (.goto (-43), 3) := by decide +kernel
theorem dX4_lightest_70 : decode cX4_lightest 70 = .ok (.bipush (-9), 2) := by decide +kernel
theorem dX4_lightest_72 : decode cX4_lightest 72 = .ok (.ireturn, 1) := by decide +kernel
set_option maxRecDepth 20000 in
theorem ggX4_words_X4_isIsle : GoodIn wsX4_words wsX4_isIsle := goodIn_r _ [7, 1, 2, 8, 9, 6, 10, 94, 95, 96, 97, 98, 99, 100, 101, 102, 103, 104, 105, 106, 107, 108, 109, 110, 111, 112, 113, 114, 115] (by decide +kernel) (by decide +kernel)
set_option maxRecDepth 20000 in
theorem gX4_words_X4_isIsle : GoodIn wsX4_words (wsV RX4 80 RX4 yX4_isIsle wsX4_isIsle) := goodIn_app (goodIn_of _ (by decide +kernel)) ggX4_words_X4_isIsle
set_option maxRecDepth 20000 in
theorem ggX4_words_X4_hasWordOf : GoodIn wsX4_words wsX4_hasWordOf := goodIn_r _ [14, 15, 16, 17, 6, 18, 19, 20, 21, 22, 23, 24, 25, 1, 26, 27, 28, 29, 30, 31, 32, 33, 34, 35, 36, 37, 38, 39, 40, 41, 42, 43, 44, 45, 46, 47, 48, 49, 50, 51, 52, 53, 54, 55, 56, 57, 58, 59, 60, 61, 62, 63, 64, 65, 66, 67, 68, 69, 70, 71, 72, 73, 74, 75, 76, 77, 78, 79, 80, 81, 82, 83, 84, 85, 86, 87, 88, 89, 90, 91, 92, 93, 94, 95, 96, 97, 98, 99, 100, 101, 102, 103, 104, 105, 116, 117, 118, 119, 120, 121, 122, 123, 124, 125, 126, 127, 128, 106, 107, 108, 109, 110, 111, 112, 113, 114, 115] (by decide +kernel) (by decide +kernel)
set_option maxRecDepth 20000 in
theorem gX4_words_X4_hasWordOf : GoodIn wsX4_words (wsV RX4 197 RX4 yX4_hasWordOf wsX4_hasWordOf) := goodIn_app (goodIn_of _ (by decide +kernel)) ggX4_words_X4_hasWordOf
theorem dX4_words_0 : decode cX4_words 0 = .ok (.aload_n 0, 1) := by decide +kernel
theorem dX4_words_1 : decode cX4_words 1 = .ok (.iload_n 1, 1) := by decide +kernel
theorem dX4_words_2 : decode cX4_words 2 = .ok (.invokevirtual 80, 3) := by decide +kernel
theorem dX4_words_5 : decode cX4_words 5 = .ok (.ifCond .ne 5, 3) := by decide +kernel
theorem dX4_words_8 : decode cX4_words 8 = .ok (.iconst (-1), 1) := by decide +kernel
theorem dX4_words_9 : decode cX4_words 9 = .ok (.ireturn, 1) := by decide +kernel
theorem dX4_words_10 : decode cX4_words 10 = .ok (.iconst 0, 1) := by decide +kernel
theorem dX4_words_11 : decode cX4_words 11 = .ok (.istore_n 2, 1) := by decide +kernel
theorem dX4_words_12 : decode cX4_words 12 = .ok (.iconst 0, 1) := by decide +kernel
theorem dX4_words_13 : decode cX4_words 13 = .ok (.istore_n 3, 1) := by decide +kernel
theorem dX4_words_14 : decode cX4_words 14 = .ok (.iload_n 3, 1) := by decide +kernel
theorem dX4_words_15 : decode cX4_words 15 = .ok (.aload_n 0, 1) := by decide +kernel
theorem dX4_words_16 : decode cX4_words 16 = .ok (.getfield 19, 3) := by decide +kernel
theorem dX4_words_19 : decode cX4_words 19 = .ok (.getfield 194, 3) := by decide +kernel
theorem dX4_words_22 : decode cX4_words 22 = .ok (.if_icmp .ge 29, 3) := by decide +kernel
theorem dX4_words_25 : decode cX4_words 25 = .ok (.iload_n 3, 1) := by decide +kernel
theorem dX4_words_26 : decode cX4_words 26 = .ok (.iload_n 1, 1) := by decide +kernel
theorem dX4_words_27 : decode cX4_words 27 = .ok (.if_icmp .eq 18, 3) := by decide +kernel
theorem dX4_words_30 : decode cX4_words 30 = .ok (.aload_n 0, 1) := by decide +kernel
theorem dX4_words_31 : decode cX4_words 31 = .ok (.iload_n 3, 1) := by decide +kernel
theorem dX4_words_32 : decode cX4_words 32 = .ok (.iload_n 1, 1) := by decide +kernel
theorem dX4_words_33 : decode cX4_words 33 = .ok (.invokevirtual 197, 3) := by decide +kernel
theorem dX4_words_36 : decode cX4_words 36 = .ok (.ifCond .eq 9, 3) := by decide +kernel
theorem dX4_words_39 : decode cX4_words 39 = .ok (.iload_n 2, 1) := by decide +kernel
theorem dX4_words_40 : decode cX4_words 40 = .ok (.iconst 1, 1) := by decide +kernel
theorem dX4_words_41 : decode cX4_words 41 = .ok (.iload_n 3, 1) := by decide +kernel
theorem dX4_words_42 : decode cX4_words 42 = .ok (.ishl, 1) := by decide +kernel
theorem dX4_words_43 : decode cX4_words 43 = .ok (.ior, 1) := by decide +kernel
theorem dX4_words_44 : decode cX4_words 44 = .ok (.istore_n 2, 1) := by decide +kernel
theorem dX4_words_45 : decode cX4_words 45 = .ok (.iinc 3 1, 3) := by decide +kernel
theorem dX4_words_48 : decode cX4_words 48 = .ok (.goto (-34), 3) := by decide +kernel
theorem dX4_words_51 : decode cX4_words 51 = .ok (.iload_n 2, 1) := by decide +kernel
theorem dX4_words_52 : decode cX4_words 52 = .ok (.ireturn, 1) := by decide +kernel
set_option maxRecDepth 20000 in
theorem ggX4_nets_X4_isWay : GoodIn wsX4_nets wsX4_isWay := goodIn_r _ [7, 8, 9, 10, 6, 11, 1, 2, 12, 13, 14, 104, 105, 106, 107, 108, 109, 110, 111, 112, 113, 114, 115, 116, 117, 118, 119, 120, 121, 122, 123, 124, 125] (by decide +kernel) (by decide +kernel)
set_option maxRecDepth 20000 in
theorem gX4_nets_X4_isWay : GoodIn wsX4_nets (wsV RX4 140 RX4 yX4_isWay wsX4_isWay) := goodIn_app (goodIn_of _ (by decide +kernel)) ggX4_nets_X4_isWay
set_option maxRecDepth 20000 in
theorem ggX4_nets_X4_isWeight : GoodIn wsX4_nets wsX4_isWeight := goodIn_r _ [17, 12, 13, 6, 14] (by decide +kernel) (by decide +kernel)
set_option maxRecDepth 20000 in
theorem gX4_nets_X4_isWeight : GoodIn wsX4_nets (va_wsS RX4 144 yX4_isWeight wsX4_isWeight) := goodIn_app (goodIn_of _ (by decide +kernel)) ggX4_nets_X4_isWeight
set_option maxRecDepth 20000 in
theorem ggX4_nets_J6_bitCount_0f7a4 : GoodIn wsX4_nets wsJ6_bitCount_0f7a4 := goodIn_r _ [21, 22, 23, 24] (by decide +kernel) (by decide +kernel)
set_option maxRecDepth 20000 in
theorem gX4_nets_J6_bitCount_0f7a4 : GoodIn wsX4_nets (va_wsS RX4 200 yJ6_bitCount_0f7a4 wsJ6_bitCount_0f7a4) := goodIn_app (goodIn_of _ (by decide +kernel)) ggX4_nets_J6_bitCount_0f7a4
set_option maxRecDepth 20000 in
theorem ggX4_nets_X4_keepsOff : GoodIn wsX4_nets wsX4_keepsOff := goodIn_r _ [28, 29, 30, 31, 32, 33, 6, 34, 35, 1, 36, 37, 38, 39, 40, 41, 42, 43, 44, 45, 46, 47, 48, 49, 50, 51, 52, 53, 54, 55, 56, 57, 58, 59, 60, 61, 62, 63, 64, 65, 66, 67, 68, 69, 70, 71, 72, 73, 74, 75, 76, 77, 78, 79, 80, 81, 82, 83, 84, 85, 86, 87, 88, 89, 90, 91, 92, 93, 94, 95, 96, 97, 98, 99, 100, 101, 102, 103, 104, 105, 106, 107, 108, 109, 110, 111, 112, 113, 114, 115, 126, 127, 128, 129, 130, 131, 132, 133, 134, 135, 136, 137, 138, 116, 117, 118, 119, 120, 121, 122, 123, 124, 125] (by decide +kernel) (by decide +kernel)
set_option maxRecDepth 20000 in
theorem gX4_nets_X4_keepsOff : GoodIn wsX4_nets (wsV RX4 205 RX4 yX4_keepsOff wsX4_keepsOff) := goodIn_app (goodIn_of _ (by decide +kernel)) ggX4_nets_X4_keepsOff
theorem dX4_nets_0 : decode cX4_nets 0 = .ok (.aload_n 0, 1) := by decide +kernel
theorem dX4_nets_1 : decode cX4_nets 1 = .ok (.iload_n 1, 1) := by decide +kernel
theorem dX4_nets_2 : decode cX4_nets 2 = .ok (.iload_n 2, 1) := by decide +kernel
theorem dX4_nets_3 : decode cX4_nets 3 = .ok (.invokevirtual 140, 3) := by decide +kernel
theorem dX4_nets_6 : decode cX4_nets 6 = .ok (.ifCond .eq 10, 3) := by decide +kernel
theorem dX4_nets_9 : decode cX4_nets 9 = .ok (.iload_n 3, 1) := by decide +kernel
theorem dX4_nets_10 : decode cX4_nets 10 = .ok (.invokestatic 144, 3) := by decide +kernel
theorem dX4_nets_13 : decode cX4_nets 13 = .ok (.ifCond .ne 5, 3) := by decide +kernel
theorem dX4_nets_16 : decode cX4_nets 16 = .ok (.iconst (-1), 1) := by decide +kernel
theorem dX4_nets_17 : decode cX4_nets 17 = .ok (.ireturn, 1) := by decide +kernel
theorem dX4_nets_18 : decode cX4_nets 18 = .ok (.bipush (-9), 2) := by decide +kernel
theorem dX4_nets_20 : decode cX4_nets 20 = .ok (.istore 4, 2) := by decide +kernel
theorem dX4_nets_22 : decode cX4_nets 22 = .ok (.bipush 7, 2) := by decide +kernel
theorem dX4_nets_24 : decode cX4_nets 24 = .ok (.istore 5, 2) := by decide +kernel
theorem dX4_nets_26 : decode cX4_nets 26 = .ok (.iconst 1, 1) := by decide +kernel
theorem dX4_nets_27 : decode cX4_nets 27 = .ok (.iload_n 1, 1) := by decide +kernel
theorem dX4_nets_28 : decode cX4_nets 28 = .ok (.ishl, 1) := by decide +kernel
theorem dX4_nets_29 : decode cX4_nets 29 = .ok (.iconst 1, 1) := by decide +kernel
theorem dX4_nets_30 : decode cX4_nets 30 = .ok (.iload_n 2, 1) := by decide +kernel
theorem dX4_nets_31 : decode cX4_nets 31 = .ok (.ishl, 1) := by decide +kernel
theorem dX4_nets_32 : decode cX4_nets 32 = .ok (.ior, 1) := by decide +kernel
theorem dX4_nets_33 : decode cX4_nets 33 = .ok (.istore 6, 2) := by decide +kernel
theorem dX4_nets_35 : decode cX4_nets 35 = .ok (.iconst 0, 1) := by decide +kernel
theorem dX4_nets_36 : decode cX4_nets 36 = .ok (.istore 7, 2) := by decide +kernel
theorem dX4_nets_38 : decode cX4_nets 38 = .ok (.iload 7, 2) := by decide +kernel
theorem dX4_nets_40 : decode cX4_nets 40 = .ok (.iconst 1, 1) := by decide +kernel
theorem dX4_nets_41 : decode cX4_nets 41 = .ok (.aload_n 0, 1) := by decide +kernel
theorem dX4_nets_42 : decode cX4_nets 42 = .ok (.getfield 19, 3) := by decide +kernel
theorem dX4_nets_45 : decode cX4_nets 45 = .ok (.getfield 194, 3) := by decide +kernel
theorem dX4_nets_48 : decode cX4_nets 48 = .ok (.ishl, 1) := by decide +kernel
theorem dX4_nets_49 : decode cX4_nets 49 = .ok (.if_icmp .ge 51, 3) := by decide +kernel
theorem dX4_nets_52 : decode cX4_nets 52 = .ok (.iload 7, 2) := by decide +kernel
theorem dX4_nets_54 : decode cX4_nets 54 = .ok (.invokestatic 200, 3) := by decide +kernel
theorem dX4_nets_57 : decode cX4_nets 57 = .ok (.istore 8, 2) := by decide +kernel
theorem dX4_nets_59 : decode cX4_nets 59 = .ok (.iload 7, 2) := by decide +kernel
theorem dX4_nets_61 : decode cX4_nets 61 = .ok (.iload 6, 2) := by decide +kernel
theorem dX4_nets_63 : decode cX4_nets 63 = .ok (.iand, 1) := by decide +kernel
theorem dX4_nets_64 : decode cX4_nets 64 = .ok (.ifCond .ne 30, 3) := by decide +kernel
theorem dX4_nets_67 : decode cX4_nets 67 = .ok (.iload 8, 2) := by decide +kernel
theorem dX4_nets_69 : decode cX4_nets 69 = .ok (.iload 5, 2) := by decide +kernel
theorem dX4_nets_71 : decode cX4_nets 71 = .ok (.if_icmp .ge 23, 3) := by decide +kernel
theorem dX4_nets_74 : decode cX4_nets 74 = .ok (.aload_n 0, 1) := by decide +kernel
theorem dX4_nets_75 : decode cX4_nets 75 = .ok (.iload_n 1, 1) := by decide +kernel
theorem dX4_nets_76 : decode cX4_nets 76 = .ok (.iload_n 2, 1) := by decide +kernel
theorem dX4_nets_77 : decode cX4_nets 77 = .ok (.iload_n 3, 1) := by decide +kernel
theorem dX4_nets_78 : decode cX4_nets 78 = .ok (.iload 7, 2) := by decide +kernel
theorem dX4_nets_80 : decode cX4_nets 80 = .ok (.invokevirtual 205, 3) := by decide +kernel
theorem dX4_nets_83 : decode cX4_nets 83 = .ok (.ifCond .eq 11, 3) := by decide +kernel
theorem dX4_nets_86 : decode cX4_nets 86 = .ok (.iload 7, 2) := by decide +kernel
theorem dX4_nets_88 : decode cX4_nets 88 = .ok (.istore 4, 2) := by decide +kernel
theorem dX4_nets_90 : decode cX4_nets 90 = .ok (.iload 8, 2) := by decide +kernel
theorem dX4_nets_92 : decode cX4_nets 92 = .ok (.istore 5, 2) := by decide +kernel
theorem dX4_nets_94 : decode cX4_nets 94 = .ok (.iinc 7 1, 3) := by decide +kernel
theorem dX4_nets_97 : decode cX4_nets 97 = .ok (.goto (-59), 3) := by decide +kernel
theorem dX4_nets_100 : decode cX4_nets 100 = .ok (.iload 4, 2) := by decide +kernel
theorem dX4_nets_102 : decode cX4_nets 102 = .ok (.ireturn, 1) := by decide +kernel
set_option maxRecDepth 20000 in
theorem ggX4_who_X4_isIsle : GoodIn wsX4_who wsX4_isIsle := goodIn_r _ [7, 1, 2, 8, 9, 6, 10, 94, 95, 96, 97, 98, 99, 100, 101, 102, 103, 104, 105, 106, 107, 108, 109, 110, 111, 112, 113, 114, 115] (by decide +kernel) (by decide +kernel)
set_option maxRecDepth 20000 in
theorem gX4_who_X4_isIsle : GoodIn wsX4_who (wsV RX4 80 RX4 yX4_isIsle wsX4_isIsle) := goodIn_app (goodIn_of _ (by decide +kernel)) ggX4_who_X4_isIsle
set_option maxRecDepth 20000 in
theorem ggX4_who_X4_isWeight : GoodIn wsX4_who wsX4_isWeight := goodIn_r _ [13, 8, 9, 6, 10] (by decide +kernel) (by decide +kernel)
set_option maxRecDepth 20000 in
theorem gX4_who_X4_isWeight : GoodIn wsX4_who (va_wsS RX4 144 yX4_isWeight wsX4_isWeight) := goodIn_app (goodIn_of _ (by decide +kernel)) ggX4_who_X4_isWeight
set_option maxRecDepth 20000 in
theorem ggX4_who_X4_isWithin : GoodIn wsX4_who wsX4_isWithin := goodIn_r _ [10] (by decide +kernel) (by decide +kernel)
set_option maxRecDepth 20000 in
theorem gX4_who_X4_isWithin : GoodIn wsX4_who (va_wsS RX4 54 yX4_isWithin wsX4_isWithin) := goodIn_app (goodIn_of _ (by decide +kernel)) ggX4_who_X4_isWithin
set_option maxRecDepth 20000 in
theorem ggX4_who_X4_comesWith : GoodIn wsX4_who wsX4_comesWith := goodIn_r _ [17, 18, 19, 20, 21, 22, 23, 24, 6, 25, 1, 26, 27, 28, 29, 30, 31, 32, 33, 34, 35, 36, 37, 38, 39, 40, 41, 42, 43, 44, 45, 46, 47, 48, 49, 50, 51, 52, 53, 54, 55, 56, 57, 58, 59, 60, 61, 62, 63, 64, 65, 66, 67, 68, 69, 70, 71, 72, 73, 74, 75, 76, 77, 78, 79, 80, 81, 82, 83, 84, 85, 86, 87, 88, 89, 90, 91, 92, 93, 94, 95, 96, 97, 98, 99, 100, 101, 102, 103, 104, 105, 116, 117, 118, 119, 120, 121, 122, 123, 124, 125, 126, 127, 128, 106, 107, 108, 109, 110, 111, 112, 113, 114, 115] (by decide +kernel) (by decide +kernel)
set_option maxRecDepth 20000 in
theorem gX4_who_X4_comesWith : GoodIn wsX4_who (wsV RX4 209 RX4 yX4_comesWith wsX4_comesWith) := goodIn_app (goodIn_of _ (by decide +kernel)) ggX4_who_X4_comesWith
theorem dX4_who_0 : decode cX4_who 0 = .ok (.aload_n 0, 1) := by decide +kernel
theorem dX4_who_1 : decode cX4_who 1 = .ok (.iload_n 1, 1) := by decide +kernel
theorem dX4_who_2 : decode cX4_who 2 = .ok (.invokevirtual 80, 3) := by decide +kernel
theorem dX4_who_5 : decode cX4_who 5 = .ok (.ifCond .eq 10, 3) := by decide +kernel
theorem dX4_who_8 : decode cX4_who 8 = .ok (.iload_n 2, 1) := by decide +kernel
theorem dX4_who_9 : decode cX4_who 9 = .ok (.invokestatic 144, 3) := by decide +kernel
theorem dX4_who_12 : decode cX4_who 12 = .ok (.ifCond .ne 5, 3) := by decide +kernel
theorem dX4_who_15 : decode cX4_who 15 = .ok (.iconst (-1), 1) := by decide +kernel
theorem dX4_who_16 : decode cX4_who 16 = .ok (.ireturn, 1) := by decide +kernel
theorem dX4_who_17 : decode cX4_who 17 = .ok (.iload_n 3, 1) := by decide +kernel
theorem dX4_who_18 : decode cX4_who 18 = .ok (.iconst 0, 1) := by decide +kernel
theorem dX4_who_19 : decode cX4_who 19 = .ok (.iconst 1, 1) := by decide +kernel
theorem dX4_who_20 : decode cX4_who 20 = .ok (.aload_n 0, 1) := by decide +kernel
theorem dX4_who_21 : decode cX4_who 21 = .ok (.getfield 19, 3) := by decide +kernel
theorem dX4_who_24 : decode cX4_who 24 = .ok (.getfield 194, 3) := by decide +kernel
theorem dX4_who_27 : decode cX4_who 27 = .ok (.ishl, 1) := by decide +kernel
theorem dX4_who_28 : decode cX4_who 28 = .ok (.iconst 1, 1) := by decide +kernel
theorem dX4_who_29 : decode cX4_who 29 = .ok (.isub, 1) := by decide +kernel
theorem dX4_who_30 : decode cX4_who 30 = .ok (.invokestatic 54, 3) := by decide +kernel
theorem dX4_who_33 : decode cX4_who 33 = .ok (.ifCond .ne 5, 3) := by decide +kernel
theorem dX4_who_36 : decode cX4_who 36 = .ok (.iconst (-1), 1) := by decide +kernel
theorem dX4_who_37 : decode cX4_who 37 = .ok (.ireturn, 1) := by decide +kernel
theorem dX4_who_38 : decode cX4_who 38 = .ok (.iconst 0, 1) := by decide +kernel
theorem dX4_who_39 : decode cX4_who 39 = .ok (.istore 4, 2) := by decide +kernel
theorem dX4_who_41 : decode cX4_who 41 = .ok (.iconst 0, 1) := by decide +kernel
theorem dX4_who_42 : decode cX4_who 42 = .ok (.istore 5, 2) := by decide +kernel
theorem dX4_who_44 : decode cX4_who 44 = .ok (.iload 5, 2) := by decide +kernel
theorem dX4_who_46 : decode cX4_who 46 = .ok (.aload_n 0, 1) := by decide +kernel
theorem dX4_who_47 : decode cX4_who 47 = .ok (.getfield 19, 3) := by decide +kernel
theorem dX4_who_50 : decode cX4_who 50 = .ok (.getfield 194, 3) := by decide +kernel
theorem dX4_who_53 : decode cX4_who 53 = .ok (.if_icmp .ge 36, 3) := by decide +kernel
theorem dX4_who_56 : decode cX4_who 56 = .ok (.iload 5, 2) := by decide +kernel
theorem dX4_who_58 : decode cX4_who 58 = .ok (.iload_n 1, 1) := by decide +kernel
theorem dX4_who_59 : decode cX4_who 59 = .ok (.if_icmp .eq 24, 3) := by decide +kernel
theorem dX4_who_62 : decode cX4_who 62 = .ok (.aload_n 0, 1) := by decide +kernel
theorem dX4_who_63 : decode cX4_who 63 = .ok (.iload 5, 2) := by decide +kernel
theorem dX4_who_65 : decode cX4_who 65 = .ok (.iload_n 1, 1) := by decide +kernel
theorem dX4_who_66 : decode cX4_who 66 = .ok (.iload_n 2, 1) := by decide +kernel
theorem dX4_who_67 : decode cX4_who 67 = .ok (.iload_n 3, 1) := by decide +kernel
theorem dX4_who_68 : decode cX4_who 68 = .ok (.invokevirtual 209, 3) := by decide +kernel
theorem dX4_who_71 : decode cX4_who 71 = .ok (.ifCond .eq 12, 3) := by decide +kernel
theorem dX4_who_74 : decode cX4_who 74 = .ok (.iload 4, 2) := by decide +kernel
theorem dX4_who_76 : decode cX4_who 76 = .ok (.iconst 1, 1) := by decide +kernel
theorem dX4_who_77 : decode cX4_who 77 = .ok (.iload 5, 2) := by decide +kernel
theorem dX4_who_79 : decode cX4_who 79 = .ok (.ishl, 1) := by decide +kernel
theorem dX4_who_80 : decode cX4_who 80 = .ok (.ior, 1) := by decide +kernel
theorem dX4_who_81 : decode cX4_who 81 = .ok (.istore 4, 2) := by decide +kernel
theorem dX4_who_83 : decode cX4_who 83 = .ok (.iinc 5 1, 3) := by decide +kernel
theorem dX4_who_86 : decode cX4_who 86 = .ok (.goto (-42), 3) := by decide +kernel
theorem dX4_who_89 : decode cX4_who 89 = .ok (.iload 4, 2) := by decide +kernel
theorem dX4_who_91 : decode cX4_who 91 = .ok (.ireturn, 1) := by decide +kernel
set_option maxRecDepth 20000 in
theorem ggX4_knee_X4_isWithin : GoodIn wsX4_knee wsX4_isWithin := goodIn_r _ [6] (by decide +kernel) (by decide +kernel)
set_option maxRecDepth 20000 in
theorem gX4_knee_X4_isWithin : GoodIn wsX4_knee (va_wsS RX4 54 yX4_isWithin wsX4_isWithin) := goodIn_app (goodIn_of _ (by decide +kernel)) ggX4_knee_X4_isWithin
set_option maxRecDepth 20000 in
theorem ggX4_knee_X2_windOf : GoodIn wsX4_knee wsX2_windOf := goodIn_r _ [11, 12, 13, 14, 15, 16, 17, 30, 31, 32, 33, 34, 35] (by decide +kernel) (by decide +kernel)
set_option maxRecDepth 20000 in
theorem gX4_knee_X2_windOf : GoodIn wsX4_knee (wsV RX4 105 RX2 yX2_windOf wsX2_windOf) := goodIn_app (goodIn_of _ (by decide +kernel)) ggX4_knee_X2_windOf
theorem dX4_knee_0 : decode cX4_knee 0 = .ok (.iload_n 1, 1) := by decide +kernel
theorem dX4_knee_1 : decode cX4_knee 1 = .ok (.iconst 1, 1) := by decide +kernel
theorem dX4_knee_2 : decode cX4_knee 2 = .ok (.bipush 12, 2) := by decide +kernel
theorem dX4_knee_4 : decode cX4_knee 4 = .ok (.invokestatic 54, 3) := by decide +kernel
theorem dX4_knee_7 : decode cX4_knee 7 = .ok (.ifCond .eq 13, 3) := by decide +kernel
theorem dX4_knee_10 : decode cX4_knee 10 = .ok (.iload_n 2, 1) := by decide +kernel
theorem dX4_knee_11 : decode cX4_knee 11 = .ok (.iconst 1, 1) := by decide +kernel
theorem dX4_knee_12 : decode cX4_knee 12 = .ok (.bipush 12, 2) := by decide +kernel
theorem dX4_knee_14 : decode cX4_knee 14 = .ok (.invokestatic 54, 3) := by decide +kernel
theorem dX4_knee_17 : decode cX4_knee 17 = .ok (.ifCond .ne 5, 3) := by decide +kernel
theorem dX4_knee_20 : decode cX4_knee 20 = .ok (.iconst (-1), 1) := by decide +kernel
theorem dX4_knee_21 : decode cX4_knee 21 = .ok (.ireturn, 1) := by decide +kernel
theorem dX4_knee_22 : decode cX4_knee 22 = .ok (.iconst 0, 1) := by decide +kernel
theorem dX4_knee_23 : decode cX4_knee 23 = .ok (.istore_n 3, 1) := by decide +kernel
theorem dX4_knee_24 : decode cX4_knee 24 = .ok (.iconst 0, 1) := by decide +kernel
theorem dX4_knee_25 : decode cX4_knee 25 = .ok (.istore 4, 2) := by decide +kernel
theorem dX4_knee_27 : decode cX4_knee 27 = .ok (.iload 4, 2) := by decide +kernel
theorem dX4_knee_29 : decode cX4_knee 29 = .ok (.iload_n 2, 1) := by decide +kernel
theorem dX4_knee_30 : decode cX4_knee 30 = .ok (.if_icmp .ge 47, 3) := by decide +kernel
theorem dX4_knee_33 : decode cX4_knee 33 = .ok (.aload_n 0, 1) := by decide +kernel
theorem dX4_knee_34 : decode cX4_knee 34 = .ok (.getfield 29, 3) := by decide +kernel
theorem dX4_knee_37 : decode cX4_knee 37 = .ok (.getfield 102, 3) := by decide +kernel
theorem dX4_knee_40 : decode cX4_knee 40 = .ok (.iload 4, 2) := by decide +kernel
theorem dX4_knee_42 : decode cX4_knee 42 = .ok (.iadd, 1) := by decide +kernel
theorem dX4_knee_43 : decode cX4_knee 43 = .ok (.istore 5, 2) := by decide +kernel
theorem dX4_knee_45 : decode cX4_knee 45 = .ok (.aload_n 0, 1) := by decide +kernel
theorem dX4_knee_46 : decode cX4_knee 46 = .ok (.getfield 29, 3) := by decide +kernel
theorem dX4_knee_49 : decode cX4_knee 49 = .ok (.iload 5, 2) := by decide +kernel
theorem dX4_knee_51 : decode cX4_knee 51 = .ok (.invokevirtual 105, 3) := by decide +kernel
theorem dX4_knee_54 : decode cX4_knee 54 = .ok (.aload_n 0, 1) := by decide +kernel
theorem dX4_knee_55 : decode cX4_knee 55 = .ok (.getfield 29, 3) := by decide +kernel
theorem dX4_knee_58 : decode cX4_knee 58 = .ok (.iload 5, 2) := by decide +kernel
theorem dX4_knee_60 : decode cX4_knee 60 = .ok (.iload_n 1, 1) := by decide +kernel
theorem dX4_knee_61 : decode cX4_knee 61 = .ok (.isub, 1) := by decide +kernel
theorem dX4_knee_62 : decode cX4_knee 62 = .ok (.invokevirtual 105, 3) := by decide +kernel
theorem dX4_knee_65 : decode cX4_knee 65 = .ok (.if_icmp .ne 6, 3) := by decide +kernel
theorem dX4_knee_68 : decode cX4_knee 68 = .ok (.iinc 3 1, 3) := by decide +kernel
theorem dX4_knee_71 : decode cX4_knee 71 = .ok (.iinc 4 1, 3) := by decide +kernel
theorem dX4_knee_74 : decode cX4_knee 74 = .ok (.goto (-47), 3) := by decide +kernel
theorem dX4_knee_77 : decode cX4_knee 77 = .ok (.iload_n 3, 1) := by decide +kernel
theorem dX4_knee_78 : decode cX4_knee 78 = .ok (.ireturn, 1) := by decide +kernel
set_option maxRecDepth 20000 in
theorem ggX4_drift_X4_isWeight : GoodIn wsX4_drift wsX4_isWeight := goodIn_r _ [14, 15, 16, 13, 17] (by decide +kernel) (by decide +kernel)
set_option maxRecDepth 20000 in
theorem gX4_drift_X4_isWeight : GoodIn wsX4_drift (va_wsS RX4 144 yX4_isWeight wsX4_isWeight) := goodIn_app (goodIn_of _ (by decide +kernel)) ggX4_drift_X4_isWeight
set_option maxRecDepth 20000 in
theorem ggX4_drift_X4_isWithin : GoodIn wsX4_drift wsX4_isWithin := goodIn_r _ [17] (by decide +kernel) (by decide +kernel)
set_option maxRecDepth 20000 in
theorem gX4_drift_X4_isWithin : GoodIn wsX4_drift (va_wsS RX4 54 yX4_isWithin wsX4_isWithin) := goodIn_app (goodIn_of _ (by decide +kernel)) ggX4_drift_X4_isWithin
theorem dX4_drift_0 : decode cX4_drift 0 = .ok (.iload_n 1, 1) := by decide +kernel
theorem dX4_drift_1 : decode cX4_drift 1 = .ok (.invokestatic 144, 3) := by decide +kernel
theorem dX4_drift_4 : decode cX4_drift 4 = .ok (.ifCond .eq 12, 3) := by decide +kernel
theorem dX4_drift_7 : decode cX4_drift 7 = .ok (.iload_n 2, 1) := by decide +kernel
theorem dX4_drift_8 : decode cX4_drift 8 = .ok (.iconst 0, 1) := by decide +kernel
theorem dX4_drift_9 : decode cX4_drift 9 = .ok (.iconst 1, 1) := by decide +kernel
theorem dX4_drift_10 : decode cX4_drift 10 = .ok (.invokestatic 54, 3) := by decide +kernel
theorem dX4_drift_13 : decode cX4_drift 13 = .ok (.ifCond .ne 6, 3) := by decide +kernel
theorem dX4_drift_16 : decode cX4_drift 16 = .ok (.ldc 212, 2) := by decide +kernel
theorem dX4_drift_18 : decode cX4_drift 18 = .ok (.ireturn, 1) := by decide +kernel
theorem dX4_drift_19 : decode cX4_drift 19 = .ok (.iload_n 2, 1) := by decide +kernel
theorem dX4_drift_20 : decode cX4_drift 20 = .ok (.ifCond .ne 7, 3) := by decide +kernel
theorem dX4_drift_23 : decode cX4_drift 23 = .ok (.iconst 1, 1) := by decide +kernel
theorem dX4_drift_24 : decode cX4_drift 24 = .ok (.goto 4, 3) := by decide +kernel
theorem dX4_drift_27 : decode cX4_drift 27 = .ok (.iconst 2, 1) := by decide +kernel
theorem dX4_drift_28 : decode cX4_drift 28 = .ok (.istore_n 3, 1) := by decide +kernel
theorem dX4_drift_29 : decode cX4_drift 29 = .ok (.iload_n 2, 1) := by decide +kernel
theorem dX4_drift_30 : decode cX4_drift 30 = .ok (.ifCond .ne 7, 3) := by decide +kernel
theorem dX4_drift_33 : decode cX4_drift 33 = .ok (.iconst 3, 1) := by decide +kernel
theorem dX4_drift_34 : decode cX4_drift 34 = .ok (.goto 4, 3) := by decide +kernel
theorem dX4_drift_37 : decode cX4_drift 37 = .ok (.iconst 0, 1) := by decide +kernel
theorem dX4_drift_38 : decode cX4_drift 38 = .ok (.istore 4, 2) := by decide +kernel
theorem dX4_drift_40 : decode cX4_drift 40 = .ok (.iconst 0, 1) := by decide +kernel
theorem dX4_drift_41 : decode cX4_drift 41 = .ok (.istore 5, 2) := by decide +kernel
theorem dX4_drift_43 : decode cX4_drift 43 = .ok (.iconst 0, 1) := by decide +kernel
theorem dX4_drift_44 : decode cX4_drift 44 = .ok (.istore 6, 2) := by decide +kernel
theorem dX4_drift_46 : decode cX4_drift 46 = .ok (.iload 6, 2) := by decide +kernel
theorem dX4_drift_48 : decode cX4_drift 48 = .ok (.aload_n 0, 1) := by decide +kernel
theorem dX4_drift_49 : decode cX4_drift 49 = .ok (.getfield 29, 3) := by decide +kernel
theorem dX4_drift_52 : decode cX4_drift 52 = .ok (.getfield 158, 3) := by decide +kernel
theorem dX4_drift_55 : decode cX4_drift 55 = .ok (.if_icmp .ge 44, 3) := by decide +kernel
theorem dX4_drift_58 : decode cX4_drift 58 = .ok (.aload_n 0, 1) := by decide +kernel
theorem dX4_drift_59 : decode cX4_drift 59 = .ok (.getfield 29, 3) := by decide +kernel
theorem dX4_drift_62 : decode cX4_drift 62 = .ok (.getfield 161, 3) := by decide +kernel
theorem dX4_drift_65 : decode cX4_drift 65 = .ok (.iload 6, 2) := by decide +kernel
theorem dX4_drift_67 : decode cX4_drift 67 = .ok (.iaload, 1) := by decide +kernel
theorem dX4_drift_68 : decode cX4_drift 68 = .ok (.iload_n 3, 1) := by decide +kernel
theorem dX4_drift_69 : decode cX4_drift 69 = .ok (.if_icmp .ne 6, 3) := by decide +kernel
theorem dX4_drift_72 : decode cX4_drift 72 = .ok (.iinc 5 1, 3) := by decide +kernel
theorem dX4_drift_75 : decode cX4_drift 75 = .ok (.aload_n 0, 1) := by decide +kernel
theorem dX4_drift_76 : decode cX4_drift 76 = .ok (.getfield 29, 3) := by decide +kernel
theorem dX4_drift_79 : decode cX4_drift 79 = .ok (.getfield 161, 3) := by decide +kernel
theorem dX4_drift_82 : decode cX4_drift 82 = .ok (.iload 6, 2) := by decide +kernel
theorem dX4_drift_84 : decode cX4_drift 84 = .ok (.iaload, 1) := by decide +kernel
theorem dX4_drift_85 : decode cX4_drift 85 = .ok (.iload 4, 2) := by decide +kernel
theorem dX4_drift_87 : decode cX4_drift 87 = .ok (.if_icmp .ne 6, 3) := by decide +kernel
theorem dX4_drift_90 : decode cX4_drift 90 = .ok (.iinc 5 (-1), 3) := by decide +kernel
theorem dX4_drift_93 : decode cX4_drift 93 = .ok (.iinc 6 1, 3) := by decide +kernel
theorem dX4_drift_96 : decode cX4_drift 96 = .ok (.goto (-50), 3) := by decide +kernel
theorem dX4_drift_99 : decode cX4_drift 99 = .ok (.iload 5, 2) := by decide +kernel
theorem dX4_drift_101 : decode cX4_drift 101 = .ok (.iconst 0, 1) := by decide +kernel
theorem dX4_drift_102 : decode cX4_drift 102 = .ok (.aload_n 0, 1) := by decide +kernel
theorem dX4_drift_103 : decode cX4_drift 103 = .ok (.getfield 19, 3) := by decide +kernel
theorem dX4_drift_106 : decode cX4_drift 106 = .ok (.getfield 213, 3) := by decide +kernel
theorem dX4_drift_109 : decode cX4_drift 109 = .ok (.iload_n 1, 1) := by decide +kernel
theorem dX4_drift_110 : decode cX4_drift 110 = .ok (.isub, 1) := by decide +kernel
theorem dX4_drift_111 : decode cX4_drift 111 = .ok (.invokestatic 181, 3) := by decide +kernel
theorem dX4_drift_114 : decode cX4_drift 114 = .ok (.imul, 1) := by decide +kernel
theorem dX4_drift_115 : decode cX4_drift 115 = .ok (.ireturn, 1) := by decide +kernel
set_option maxRecDepth 20000 in
theorem ggX4_odds_X4_isLetter : GoodIn wsX4_odds wsX4_isLetter := goodIn_r _ [5, 6, 7, 8, 9, 4, 10, 65, 66, 67, 68, 69, 70, 71, 72, 73, 74, 75, 76, 77, 78, 79, 80, 81, 82] (by decide +kernel) (by decide +kernel)
set_option maxRecDepth 20000 in
theorem gX4_odds_X4_isLetter : GoodIn wsX4_odds (wsV RX4 109 RX4 yX4_isLetter wsX4_isLetter) := goodIn_app (goodIn_of _ (by decide +kernel)) ggX4_odds_X4_isLetter
set_option maxRecDepth 20000 in
theorem ggX4_odds_X4_isWithin : GoodIn wsX4_odds wsX4_isWithin := goodIn_r _ [10] (by decide +kernel) (by decide +kernel)
set_option maxRecDepth 20000 in
theorem gX4_odds_X4_isWithin : GoodIn wsX4_odds (va_wsS RX4 54 yX4_isWithin wsX4_isWithin) := goodIn_app (goodIn_of _ (by decide +kernel)) ggX4_odds_X4_isWithin
set_option maxRecDepth 20000 in
theorem ggX4_odds_X4_shareArrived : GoodIn wsX4_odds wsX4_shareArrived := goodIn_r _ [14, 15, 6, 16, 17, 18, 19, 20, 21, 22, 23, 24, 25, 26, 27, 28, 29, 30, 31, 32, 33, 34, 4, 35, 36, 37, 38, 39, 40, 41, 42, 43, 44, 45, 46, 47, 48, 49, 50, 51, 52, 53, 54, 55, 56, 57, 58, 59, 60, 61, 65, 66, 67, 68, 69, 70, 71, 72, 73, 74, 75, 76, 77, 78, 79, 80, 81, 82, 83, 84, 85, 86, 87, 88, 89, 90, 91, 92, 93, 94, 95, 96, 97, 98, 99] (by decide +kernel) (by decide +kernel)
set_option maxRecDepth 20000 in
theorem gX4_odds_X4_shareArrived : GoodIn wsX4_odds (wsV RX4 216 RX4 yX4_shareArrived wsX4_shareArrived) := goodIn_app (goodIn_of _ (by decide +kernel)) ggX4_odds_X4_shareArrived
set_option maxRecDepth 20000 in
theorem ggX4_odds_X4_commonDivisor : GoodIn wsX4_odds wsX4_commonDivisor := goodIn_r _ [64] (by decide +kernel) (by decide +kernel)
set_option maxRecDepth 20000 in
theorem gX4_odds_X4_commonDivisor : GoodIn wsX4_odds (va_wsS RX4 220 yX4_commonDivisor wsX4_commonDivisor) := goodIn_app (goodIn_of _ (by decide +kernel)) ggX4_odds_X4_commonDivisor
theorem dX4_odds_0 : decode cX4_odds 0 = .ok (.aload_n 0, 1) := by decide +kernel
theorem dX4_odds_1 : decode cX4_odds 1 = .ok (.iload_n 1, 1) := by decide +kernel
theorem dX4_odds_2 : decode cX4_odds 2 = .ok (.invokevirtual 109, 3) := by decide +kernel
theorem dX4_odds_5 : decode cX4_odds 5 = .ok (.ifCond .eq 13, 3) := by decide +kernel
theorem dX4_odds_8 : decode cX4_odds 8 = .ok (.iload_n 2, 1) := by decide +kernel
theorem dX4_odds_9 : decode cX4_odds 9 = .ok (.iconst 0, 1) := by decide +kernel
theorem dX4_odds_10 : decode cX4_odds 10 = .ok (.bipush 10, 2) := by decide +kernel
theorem dX4_odds_12 : decode cX4_odds 12 = .ok (.invokestatic 54, 3) := by decide +kernel
theorem dX4_odds_15 : decode cX4_odds 15 = .ok (.ifCond .ne 5, 3) := by decide +kernel
theorem dX4_odds_18 : decode cX4_odds 18 = .ok (.iconst (-1), 1) := by decide +kernel
theorem dX4_odds_19 : decode cX4_odds 19 = .ok (.ireturn, 1) := by decide +kernel
theorem dX4_odds_20 : decode cX4_odds 20 = .ok (.iload_n 3, 1) := by decide +kernel
theorem dX4_odds_21 : decode cX4_odds 21 = .ok (.iconst 0, 1) := by decide +kernel
theorem dX4_odds_22 : decode cX4_odds 22 = .ok (.bipush 6, 2) := by decide +kernel
theorem dX4_odds_24 : decode cX4_odds 24 = .ok (.invokestatic 54, 3) := by decide +kernel
theorem dX4_odds_27 : decode cX4_odds 27 = .ok (.ifCond .eq 13, 3) := by decide +kernel
theorem dX4_odds_30 : decode cX4_odds 30 = .ok (.iload 4, 2) := by decide +kernel
theorem dX4_odds_32 : decode cX4_odds 32 = .ok (.iconst 0, 1) := by decide +kernel
theorem dX4_odds_33 : decode cX4_odds 33 = .ok (.iconst 1, 1) := by decide +kernel
theorem dX4_odds_34 : decode cX4_odds 34 = .ok (.invokestatic 54, 3) := by decide +kernel
theorem dX4_odds_37 : decode cX4_odds 37 = .ok (.ifCond .ne 5, 3) := by decide +kernel
theorem dX4_odds_40 : decode cX4_odds 40 = .ok (.iconst (-1), 1) := by decide +kernel
theorem dX4_odds_41 : decode cX4_odds 41 = .ok (.ireturn, 1) := by decide +kernel
theorem dX4_odds_42 : decode cX4_odds 42 = .ok (.iconst 0, 1) := by decide +kernel
theorem dX4_odds_43 : decode cX4_odds 43 = .ok (.istore 5, 2) := by decide +kernel
theorem dX4_odds_45 : decode cX4_odds 45 = .ok (.iconst 0, 1) := by decide +kernel
theorem dX4_odds_46 : decode cX4_odds 46 = .ok (.istore 6, 2) := by decide +kernel
theorem dX4_odds_48 : decode cX4_odds 48 = .ok (.iload 6, 2) := by decide +kernel
theorem dX4_odds_50 : decode cX4_odds 50 = .ok (.iconst 1, 1) := by decide +kernel
theorem dX4_odds_51 : decode cX4_odds 51 = .ok (.iload_n 3, 1) := by decide +kernel
theorem dX4_odds_52 : decode cX4_odds 52 = .ok (.ishl, 1) := by decide +kernel
theorem dX4_odds_53 : decode cX4_odds 53 = .ok (.if_icmp .ge 23, 3) := by decide +kernel
theorem dX4_odds_56 : decode cX4_odds 56 = .ok (.iload 5, 2) := by decide +kernel
theorem dX4_odds_58 : decode cX4_odds 58 = .ok (.aload_n 0, 1) := by decide +kernel
theorem dX4_odds_59 : decode cX4_odds 59 = .ok (.iload_n 1, 1) := by decide +kernel
theorem dX4_odds_60 : decode cX4_odds 60 = .ok (.iload_n 2, 1) := by decide +kernel
theorem dX4_odds_61 : decode cX4_odds 61 = .ok (.iload_n 3, 1) := by decide +kernel
theorem dX4_odds_62 : decode cX4_odds 62 = .ok (.iload 6, 2) := by decide +kernel
theorem dX4_odds_64 : decode cX4_odds 64 = .ok (.invokevirtual 216, 3) := by decide +kernel
theorem dX4_odds_67 : decode cX4_odds 67 = .ok (.iadd, 1) := by decide +kernel
theorem dX4_odds_68 : decode cX4_odds 68 = .ok (.istore 5, 2) := by decide +kernel
theorem dX4_odds_70 : decode cX4_odds 70 = .ok (.iinc 6 1, 3) := by decide +kernel
theorem dX4_odds_73 : decode cX4_odds 73 = .ok (.goto (-25), 3) := by decide +kernel
theorem dX4_odds_76 : decode cX4_odds 76 = .ok (.iconst 1, 1) := by decide +kernel
theorem dX4_odds_77 : decode cX4_odds 77 = .ok (.istore 6, 2) := by decide +kernel
theorem dX4_odds_79 : decode cX4_odds 79 = .ok (.iconst 0, 1) := by decide +kernel
theorem dX4_odds_80 : decode cX4_odds 80 = .ok (.istore 7, 2) := by decide +kernel
theorem dX4_odds_82 : decode cX4_odds 82 = .ok (.iload 7, 2) := by decide +kernel
theorem dX4_odds_84 : decode cX4_odds 84 = .ok (.iload_n 3, 1) := by decide +kernel
theorem dX4_odds_85 : decode cX4_odds 85 = .ok (.if_icmp .ge 16, 3) := by decide +kernel
theorem dX4_odds_88 : decode cX4_odds 88 = .ok (.iload 6, 2) := by decide +kernel
theorem dX4_odds_90 : decode cX4_odds 90 = .ok (.bipush 10, 2) := by decide +kernel
theorem dX4_odds_92 : decode cX4_odds 92 = .ok (.imul, 1) := by decide +kernel
theorem dX4_odds_93 : decode cX4_odds 93 = .ok (.istore 6, 2) := by decide +kernel
theorem dX4_odds_95 : decode cX4_odds 95 = .ok (.iinc 7 1, 3) := by decide +kernel
theorem dX4_odds_98 : decode cX4_odds 98 = .ok (.goto (-16), 3) := by decide +kernel
theorem dX4_odds_101 : decode cX4_odds 101 = .ok (.iload 5, 2) := by decide +kernel
theorem dX4_odds_103 : decode cX4_odds 103 = .ok (.iload 6, 2) := by decide +kernel
theorem dX4_odds_105 : decode cX4_odds 105 = .ok (.invokestatic 220, 3) := by decide +kernel
theorem dX4_odds_108 : decode cX4_odds 108 = .ok (.istore 7, 2) := by decide +kernel
theorem dX4_odds_110 : decode cX4_odds 110 = .ok (.iload 7, 2) := by decide +kernel
theorem dX4_odds_112 : decode cX4_odds 112 = .ok (.iconst 1, 1) := by decide +kernel
theorem dX4_odds_113 : decode cX4_odds 113 = .ok (.if_icmp .ge 5, 3) := by decide +kernel
theorem dX4_odds_116 : decode cX4_odds 116 = .ok (.iconst (-1), 1) := by decide +kernel
theorem dX4_odds_117 : decode cX4_odds 117 = .ok (.ireturn, 1) := by decide +kernel
theorem dX4_odds_118 : decode cX4_odds 118 = .ok (.iload 4, 2) := by decide +kernel
theorem dX4_odds_120 : decode cX4_odds 120 = .ok (.ifCond .ne 11, 3) := by decide +kernel
theorem dX4_odds_123 : decode cX4_odds 123 = .ok (.iload 5, 2) := by decide +kernel
theorem dX4_odds_125 : decode cX4_odds 125 = .ok (.iload 7, 2) := by decide +kernel
theorem dX4_odds_127 : decode cX4_odds 127 = .ok (.idiv, 1) := by decide +kernel
theorem dX4_odds_128 : decode cX4_odds 128 = .ok (.goto 8, 3) := by decide +kernel
theorem dX4_odds_131 : decode cX4_odds 131 = .ok (.iload 6, 2) := by decide +kernel
theorem dX4_odds_133 : decode cX4_odds 133 = .ok (.iload 7, 2) := by decide +kernel
theorem dX4_odds_135 : decode cX4_odds 135 = .ok (.idiv, 1) := by decide +kernel
theorem dX4_odds_136 : decode cX4_odds 136 = .ok (.ireturn, 1) := by decide +kernel
set_option maxRecDepth 20000 in
theorem ggX4_rate_X4_isLetter : GoodIn wsX4_rate wsX4_isLetter := goodIn_r _ [6, 7, 8, 9, 10, 5, 11, 54, 55, 56, 57, 58, 59, 60, 61, 62, 63, 64, 65, 66, 67, 68, 69, 70, 71] (by decide +kernel) (by decide +kernel)
set_option maxRecDepth 20000 in
theorem gX4_rate_X4_isLetter : GoodIn wsX4_rate (wsV RX4 109 RX4 yX4_isLetter wsX4_isLetter) := goodIn_app (goodIn_of _ (by decide +kernel)) ggX4_rate_X4_isLetter
set_option maxRecDepth 20000 in
theorem ggX4_rate_X4_rateLetter : GoodIn wsX4_rate wsX4_rateLetter := goodIn_r _ [15, 16, 7, 17, 18, 54, 55, 56, 57, 58, 59, 60, 61, 62, 63, 64, 65, 66, 67, 68, 69, 70, 71, 72, 73, 74, 75, 76, 77, 78] (by decide +kernel) (by decide +kernel)
set_option maxRecDepth 20000 in
theorem gX4_rate_X4_rateLetter : GoodIn wsX4_rate (wsV RX4 223 RX4 yX4_rateLetter wsX4_rateLetter) := goodIn_app (goodIn_of _ (by decide +kernel)) ggX4_rate_X4_rateLetter
set_option maxRecDepth 20000 in
theorem ggX4_rate_X4_rateSummons : GoodIn wsX4_rate wsX4_rateSummons := goodIn_r _ [22, 16, 23, 7, 17, 24, 12, 13, 14, 5, 15, 18, 25, 26, 27, 28, 29, 30, 31, 54, 55, 56, 57, 58, 59, 60, 61, 62, 63, 64, 65, 66, 67, 68, 69, 70, 71, 72, 73, 74, 75, 76, 77, 78] (by decide +kernel) (by decide +kernel)
set_option maxRecDepth 20000 in
theorem gX4_rate_X4_rateSummons : GoodIn wsX4_rate (wsV RX4 226 RX4 yX4_rateSummons wsX4_rateSummons) := goodIn_app (goodIn_of _ (by decide +kernel)) ggX4_rate_X4_rateSummons
set_option maxRecDepth 20000 in
theorem ggX4_rate_X4_rateGoose : GoodIn wsX4_rate wsX4_rateGoose := goodIn_r _ [35, 16, 36, 7, 17, 37, 12, 13, 14, 5, 15, 18, 54, 55, 56, 57, 58, 59, 60, 61, 62, 63, 64, 65, 66, 67, 68, 69, 70, 71, 72, 73, 74, 75, 76, 77, 78] (by decide +kernel) (by decide +kernel)
set_option maxRecDepth 20000 in
theorem gX4_rate_X4_rateGoose : GoodIn wsX4_rate (wsV RX4 229 RX4 yX4_rateGoose wsX4_rateGoose) := goodIn_app (goodIn_of _ (by decide +kernel)) ggX4_rate_X4_rateGoose
set_option maxRecDepth 20000 in
theorem ggX4_rate_X4_rateBill : GoodIn wsX4_rate wsX4_rateBill := goodIn_r _ [41, 16, 42, 19, 20, 21, 5, 22, 23, 7, 17, 24, 12, 13, 14, 15, 18, 25, 26, 27, 28, 29, 30, 31, 54, 55, 56, 57, 58, 59, 60, 61, 62, 63, 64, 65, 66, 67, 68, 69, 70, 71, 72, 73, 74, 75, 76, 77, 78] (by decide +kernel) (by decide +kernel)
set_option maxRecDepth 20000 in
theorem gX4_rate_X4_rateBill : GoodIn wsX4_rate (wsV RX4 232 RX4 yX4_rateBill wsX4_rateBill) := goodIn_app (goodIn_of _ (by decide +kernel)) ggX4_rate_X4_rateBill
set_option maxRecDepth 20000 in
theorem ggX4_rate_X4_rateVow : GoodIn wsX4_rate wsX4_rateVow := goodIn_r _ [46, 16, 47, 32, 33, 34, 5, 35, 36, 7, 17, 37, 12, 13, 14, 15, 18, 54, 55, 56, 57, 58, 59, 60, 61, 62, 63, 64, 65, 66, 67, 68, 69, 70, 71, 72, 73, 74, 75, 76, 77, 78] (by decide +kernel) (by decide +kernel)
set_option maxRecDepth 20000 in
theorem gX4_rate_X4_rateVow : GoodIn wsX4_rate (wsV RX4 235 RX4 yX4_rateVow wsX4_rateVow) := goodIn_app (goodIn_of _ (by decide +kernel)) ggX4_rate_X4_rateVow
set_option maxRecDepth 20000 in
theorem ggX4_rate_X4_rateKite : GoodIn wsX4_rate wsX4_rateKite := goodIn_r _ [51, 16, 52, 7, 53, 12, 13, 14, 5, 15, 17, 18, 54, 55, 56, 57, 58, 59, 60, 61, 62, 63, 64, 65, 66, 67, 68, 69, 70, 71, 72, 73, 74, 75, 76, 77, 78] (by decide +kernel) (by decide +kernel)
set_option maxRecDepth 20000 in
theorem gX4_rate_X4_rateKite : GoodIn wsX4_rate (wsV RX4 238 RX4 yX4_rateKite wsX4_rateKite) := goodIn_app (goodIn_of _ (by decide +kernel)) ggX4_rate_X4_rateKite
theorem dX4_rate_0 : decode cX4_rate 0 = .ok (.aload_n 0, 1) := by decide +kernel
theorem dX4_rate_1 : decode cX4_rate 1 = .ok (.iload_n 2, 1) := by decide +kernel
theorem dX4_rate_2 : decode cX4_rate 2 = .ok (.invokevirtual 109, 3) := by decide +kernel
theorem dX4_rate_5 : decode cX4_rate 5 = .ok (.ifCond .ne 6, 3) := by decide +kernel
theorem dX4_rate_8 : decode cX4_rate 8 = .ok (.ldc 212, 2) := by decide +kernel
theorem dX4_rate_10 : decode cX4_rate 10 = .ok (.ireturn, 1) := by decide +kernel
theorem dX4_rate_11 : decode cX4_rate 11 = .ok (.iload_n 1, 1) := by decide +kernel
theorem dX4_rate_12 : decode cX4_rate 12 = .ok (.tableswitch 76 0 5 #[40, 46, 52, 58, 64, 70], 40) := by decide +kernel
theorem dX4_rate_52 : decode cX4_rate 52 = .ok (.aload_n 0, 1) := by decide +kernel
theorem dX4_rate_53 : decode cX4_rate 53 = .ok (.iload_n 2, 1) := by decide +kernel
theorem dX4_rate_54 : decode cX4_rate 54 = .ok (.invokevirtual 223, 3) := by decide +kernel
theorem dX4_rate_57 : decode cX4_rate 57 = .ok (.ireturn, 1) := by decide +kernel
theorem dX4_rate_58 : decode cX4_rate 58 = .ok (.aload_n 0, 1) := by decide +kernel
theorem dX4_rate_59 : decode cX4_rate 59 = .ok (.iload_n 2, 1) := by decide +kernel
theorem dX4_rate_60 : decode cX4_rate 60 = .ok (.invokevirtual 226, 3) := by decide +kernel
theorem dX4_rate_63 : decode cX4_rate 63 = .ok (.ireturn, 1) := by decide +kernel
theorem dX4_rate_64 : decode cX4_rate 64 = .ok (.aload_n 0, 1) := by decide +kernel
theorem dX4_rate_65 : decode cX4_rate 65 = .ok (.iload_n 2, 1) := by decide +kernel
theorem dX4_rate_66 : decode cX4_rate 66 = .ok (.invokevirtual 229, 3) := by decide +kernel
theorem dX4_rate_69 : decode cX4_rate 69 = .ok (.ireturn, 1) := by decide +kernel
theorem dX4_rate_70 : decode cX4_rate 70 = .ok (.aload_n 0, 1) := by decide +kernel
theorem dX4_rate_71 : decode cX4_rate 71 = .ok (.iload_n 2, 1) := by decide +kernel
theorem dX4_rate_72 : decode cX4_rate 72 = .ok (.invokevirtual 232, 3) := by decide +kernel
theorem dX4_rate_75 : decode cX4_rate 75 = .ok (.ireturn, 1) := by decide +kernel
theorem dX4_rate_76 : decode cX4_rate 76 = .ok (.aload_n 0, 1) := by decide +kernel
theorem dX4_rate_77 : decode cX4_rate 77 = .ok (.iload_n 2, 1) := by decide +kernel
theorem dX4_rate_78 : decode cX4_rate 78 = .ok (.invokevirtual 235, 3) := by decide +kernel
theorem dX4_rate_81 : decode cX4_rate 81 = .ok (.ireturn, 1) := by decide +kernel
theorem dX4_rate_82 : decode cX4_rate 82 = .ok (.aload_n 0, 1) := by decide +kernel
theorem dX4_rate_83 : decode cX4_rate 83 = .ok (.iload_n 2, 1) := by decide +kernel
theorem dX4_rate_84 : decode cX4_rate 84 = .ok (.invokevirtual 238, 3) := by decide +kernel
theorem dX4_rate_87 : decode cX4_rate 87 = .ok (.ireturn, 1) := by decide +kernel
theorem dX4_rate_88 : decode cX4_rate 88 = .ok (.ldc 212, 2) := by decide +kernel
theorem dX4_rate_90 : decode cX4_rate 90 = .ok (.ireturn, 1) := by decide +kernel
set_option maxRecDepth 20000 in
theorem ggX4_keep_X4_isWithin : GoodIn wsX4_keep wsX4_isWithin := goodIn_r _ [8] (by decide +kernel) (by decide +kernel)
set_option maxRecDepth 20000 in
theorem gX4_keep_X4_isWithin : GoodIn wsX4_keep (va_wsS RX4 54 yX4_isWithin wsX4_isWithin) := goodIn_app (goodIn_of _ (by decide +kernel)) ggX4_keep_X4_isWithin
set_option maxRecDepth 20000 in
theorem ggX4_keep_X2_copyFrom : GoodIn wsX4_keep wsX2_copyFrom := goodIn_r _ [13, 14, 15, 16, 17, 18, 19, 20, 21, 22, 23, 24, 25, 26, 27, 28, 29, 30, 31, 44, 45, 46, 47, 48, 49, 50, 51, 52, 53, 54, 55, 56] (by decide +kernel) (by decide +kernel)
set_option maxRecDepth 20000 in
theorem gX4_keep_X2_copyFrom : GoodIn wsX4_keep (wsV RX4 167 RX2 yX2_copyFrom wsX2_copyFrom) := goodIn_app (goodIn_of _ (by decide +kernel)) ggX4_keep_X2_copyFrom
theorem dX4_keep_0 : decode cX4_keep 0 = .ok (.iload_n 1, 1) := by decide +kernel
theorem dX4_keep_1 : decode cX4_keep 1 = .ok (.iconst 0, 1) := by decide +kernel
theorem dX4_keep_2 : decode cX4_keep 2 = .ok (.iconst 1, 1) := by decide +kernel
theorem dX4_keep_3 : decode cX4_keep 3 = .ok (.invokestatic 54, 3) := by decide +kernel
theorem dX4_keep_6 : decode cX4_keep 6 = .ok (.ifCond .ne 5, 3) := by decide +kernel
theorem dX4_keep_9 : decode cX4_keep 9 = .ok (.iconst (-1), 1) := by decide +kernel
theorem dX4_keep_10 : decode cX4_keep 10 = .ok (.ireturn, 1) := by decide +kernel
theorem dX4_keep_11 : decode cX4_keep 11 = .ok (.aload_n 0, 1) := by decide +kernel
theorem dX4_keep_12 : decode cX4_keep 12 = .ok (.getfield 37, 3) := by decide +kernel
theorem dX4_keep_15 : decode cX4_keep 15 = .ok (.iload_n 1, 1) := by decide +kernel
theorem dX4_keep_16 : decode cX4_keep 16 = .ok (.aaload, 1) := by decide +kernel
theorem dX4_keep_17 : decode cX4_keep 17 = .ok (.aload_n 0, 1) := by decide +kernel
theorem dX4_keep_18 : decode cX4_keep 18 = .ok (.getfield 29, 3) := by decide +kernel
theorem dX4_keep_21 : decode cX4_keep 21 = .ok (.invokevirtual 167, 3) := by decide +kernel
theorem dX4_keep_24 : decode cX4_keep 24 = .ok (.aload_n 0, 1) := by decide +kernel
theorem dX4_keep_25 : decode cX4_keep 25 = .ok (.getfield 40, 3) := by decide +kernel
theorem dX4_keep_28 : decode cX4_keep 28 = .ok (.iload_n 1, 1) := by decide +kernel
theorem dX4_keep_29 : decode cX4_keep 29 = .ok (.iconst 1, 1) := by decide +kernel
theorem dX4_keep_30 : decode cX4_keep 30 = .ok (.bastore, 1) := by decide +kernel
theorem dX4_keep_31 : decode cX4_keep 31 = .ok (.aload_n 0, 1) := by decide +kernel
theorem dX4_keep_32 : decode cX4_keep 32 = .ok (.getfield 29, 3) := by decide +kernel
theorem dX4_keep_35 : decode cX4_keep 35 = .ok (.getfield 102, 3) := by decide +kernel
theorem dX4_keep_38 : decode cX4_keep 38 = .ok (.ireturn, 1) := by decide +kernel
set_option maxRecDepth 20000 in
theorem ggX4_back_X4_isWithin : GoodIn wsX4_back wsX4_isWithin := goodIn_r _ [9] (by decide +kernel) (by decide +kernel)
set_option maxRecDepth 20000 in
theorem gX4_back_X4_isWithin : GoodIn wsX4_back (va_wsS RX4 54 yX4_isWithin wsX4_isWithin) := goodIn_app (goodIn_of _ (by decide +kernel)) ggX4_back_X4_isWithin
set_option maxRecDepth 20000 in
theorem ggX4_back_X2_copyFrom : GoodIn wsX4_back wsX2_copyFrom := goodIn_r _ [14, 15, 16, 17, 18, 19, 20, 21, 22, 23, 24, 25, 26, 27, 28, 29, 30, 31, 32, 45, 46, 47, 48, 49, 50, 51, 52, 53, 54, 55, 56, 57] (by decide +kernel) (by decide +kernel)
set_option maxRecDepth 20000 in
theorem gX4_back_X2_copyFrom : GoodIn wsX4_back (wsV RX4 167 RX2 yX2_copyFrom wsX2_copyFrom) := goodIn_app (goodIn_of _ (by decide +kernel)) ggX4_back_X2_copyFrom
theorem dX4_back_0 : decode cX4_back 0 = .ok (.iload_n 1, 1) := by decide +kernel
theorem dX4_back_1 : decode cX4_back 1 = .ok (.iconst 0, 1) := by decide +kernel
theorem dX4_back_2 : decode cX4_back 2 = .ok (.iconst 1, 1) := by decide +kernel
theorem dX4_back_3 : decode cX4_back 3 = .ok (.invokestatic 54, 3) := by decide +kernel
theorem dX4_back_6 : decode cX4_back 6 = .ok (.ifCond .ne 5, 3) := by decide +kernel
theorem dX4_back_9 : decode cX4_back 9 = .ok (.iconst (-1), 1) := by decide +kernel
theorem dX4_back_10 : decode cX4_back 10 = .ok (.ireturn, 1) := by decide +kernel
theorem dX4_back_11 : decode cX4_back 11 = .ok (.aload_n 0, 1) := by decide +kernel
theorem dX4_back_12 : decode cX4_back 12 = .ok (.getfield 40, 3) := by decide +kernel
theorem dX4_back_15 : decode cX4_back 15 = .ok (.iload_n 1, 1) := by decide +kernel
theorem dX4_back_16 : decode cX4_back 16 = .ok (.baload, 1) := by decide +kernel
theorem dX4_back_17 : decode cX4_back 17 = .ok (.ifCond .ne 6, 3) := by decide +kernel
theorem dX4_back_20 : decode cX4_back 20 = .ok (.bipush (-2), 2) := by decide +kernel
theorem dX4_back_22 : decode cX4_back 22 = .ok (.ireturn, 1) := by decide +kernel
theorem dX4_back_23 : decode cX4_back 23 = .ok (.aload_n 0, 1) := by decide +kernel
theorem dX4_back_24 : decode cX4_back 24 = .ok (.getfield 29, 3) := by decide +kernel
theorem dX4_back_27 : decode cX4_back 27 = .ok (.aload_n 0, 1) := by decide +kernel
theorem dX4_back_28 : decode cX4_back 28 = .ok (.getfield 37, 3) := by decide +kernel
theorem dX4_back_31 : decode cX4_back 31 = .ok (.iload_n 1, 1) := by decide +kernel
theorem dX4_back_32 : decode cX4_back 32 = .ok (.aaload, 1) := by decide +kernel
theorem dX4_back_33 : decode cX4_back 33 = .ok (.invokevirtual 167, 3) := by decide +kernel
theorem dX4_back_36 : decode cX4_back 36 = .ok (.aload_n 0, 1) := by decide +kernel
theorem dX4_back_37 : decode cX4_back 37 = .ok (.iconst 0, 1) := by decide +kernel
theorem dX4_back_38 : decode cX4_back 38 = .ok (.putfield 77, 3) := by decide +kernel
theorem dX4_back_41 : decode cX4_back 41 = .ok (.aload_n 0, 1) := by decide +kernel
theorem dX4_back_42 : decode cX4_back 42 = .ok (.getfield 29, 3) := by decide +kernel
theorem dX4_back_45 : decode cX4_back 45 = .ok (.getfield 102, 3) := by decide +kernel
theorem dX4_back_48 : decode cX4_back 48 = .ok (.ireturn, 1) := by decide +kernel
theorem dX4_count_0 : decode cX4_count 0 = .ok (.iload_n 1, 1) := by decide +kernel
theorem dX4_count_1 : decode cX4_count 1 = .ok (.tableswitch 99 0 6 #[43, 51, 59, 67, 75, 83, 91], 43) := by decide +kernel
theorem dX4_count_44 : decode cX4_count 44 = .ok (.aload_n 0, 1) := by decide +kernel
theorem dX4_count_45 : decode cX4_count 45 = .ok (.getfield 19, 3) := by decide +kernel
theorem dX4_count_48 : decode cX4_count 48 = .ok (.getfield 241, 3) := by decide +kernel
theorem dX4_count_51 : decode cX4_count 51 = .ok (.ireturn, 1) := by decide +kernel
theorem dX4_count_52 : decode cX4_count 52 = .ok (.aload_n 0, 1) := by decide +kernel
theorem dX4_count_53 : decode cX4_count 53 = .ok (.getfield 19, 3) := by decide +kernel
theorem dX4_count_56 : decode cX4_count 56 = .ok (.getfield 244, 3) := by decide +kernel
theorem dX4_count_59 : decode cX4_count 59 = .ok (.ireturn, 1) := by decide +kernel
theorem dX4_count_60 : decode cX4_count 60 = .ok (.aload_n 0, 1) := by decide +kernel
theorem dX4_count_61 : decode cX4_count 61 = .ok (.getfield 19, 3) := by decide +kernel
theorem dX4_count_64 : decode cX4_count 64 = .ok (.getfield 194, 3) := by decide +kernel
theorem dX4_count_67 : decode cX4_count 67 = .ok (.ireturn, 1) := by decide +kernel
theorem dX4_count_68 : decode cX4_count 68 = .ok (.aload_n 0, 1) := by decide +kernel
theorem dX4_count_69 : decode cX4_count 69 = .ok (.getfield 19, 3) := by decide +kernel
theorem dX4_count_72 : decode cX4_count 72 = .ok (.getfield 247, 3) := by decide +kernel
theorem dX4_count_75 : decode cX4_count 75 = .ok (.ireturn, 1) := by decide +kernel
theorem dX4_count_76 : decode cX4_count 76 = .ok (.aload_n 0, 1) := by decide +kernel
theorem dX4_count_77 : decode cX4_count 77 = .ok (.getfield 29, 3) := by decide +kernel
theorem dX4_count_80 : decode cX4_count 80 = .ok (.getfield 158, 3) := by decide +kernel
theorem dX4_count_83 : decode cX4_count 83 = .ok (.ireturn, 1) := by decide +kernel
theorem dX4_count_84 : decode cX4_count 84 = .ok (.aload_n 0, 1) := by decide +kernel
theorem dX4_count_85 : decode cX4_count 85 = .ok (.getfield 19, 3) := by decide +kernel
theorem dX4_count_88 : decode cX4_count 88 = .ok (.getfield 213, 3) := by decide +kernel
theorem dX4_count_91 : decode cX4_count 91 = .ok (.ireturn, 1) := by decide +kernel
theorem dX4_count_92 : decode cX4_count 92 = .ok (.aload_n 0, 1) := by decide +kernel
theorem dX4_count_93 : decode cX4_count 93 = .ok (.getfield 10, 3) := by decide +kernel
theorem dX4_count_96 : decode cX4_count 96 = .ok (.getfield 58, 3) := by decide +kernel
theorem dX4_count_99 : decode cX4_count 99 = .ok (.ireturn, 1) := by decide +kernel
theorem dX4_count_100 : decode cX4_count 100 = .ok (.iconst (-1), 1) := by decide +kernel
theorem dX4_count_101 : decode cX4_count 101 = .ok (.ireturn, 1) := by decide +kernel
theorem dX4_trace_0 : decode cX4_trace 0 = .ok (.aload_n 0, 1) := by decide +kernel
theorem dX4_trace_1 : decode cX4_trace 1 = .ok (.getfield 250, 3) := by decide +kernel
theorem dX4_trace_4 : decode cX4_trace 4 = .ok (.lreturn, 1) := by decide +kernel
theorem dX4_isWithin_0 : decode cX4_isWithin 0 = .ok (.iload_n 0, 1) := by decide +kernel
theorem dX4_isWithin_1 : decode cX4_isWithin 1 = .ok (.iload_n 1, 1) := by decide +kernel
theorem dX4_isWithin_2 : decode cX4_isWithin 2 = .ok (.if_icmp .lt 12, 3) := by decide +kernel
theorem dX4_isWithin_5 : decode cX4_isWithin 5 = .ok (.iload_n 0, 1) := by decide +kernel
theorem dX4_isWithin_6 : decode cX4_isWithin 6 = .ok (.iload_n 2, 1) := by decide +kernel
theorem dX4_isWithin_7 : decode cX4_isWithin 7 = .ok (.if_icmp .gt 7, 3) := by decide +kernel
theorem dX4_isWithin_10 : decode cX4_isWithin 10 = .ok (.iconst 1, 1) := by decide +kernel
theorem dX4_isWithin_11 : decode cX4_isWithin 11 = .ok (.goto 4, 3) := by decide +kernel
theorem dX4_isWithin_14 : decode cX4_isWithin 14 = .ok (.iconst 0, 1) := by decide +kernel
theorem dX4_isWithin_15 : decode cX4_isWithin 15 = .ok (.ireturn, 1) := by decide +kernel
theorem dX4_bitOf_0 : decode cX4_bitOf 0 = .ok (.iload_n 0, 1) := by decide +kernel
theorem dX4_bitOf_1 : decode cX4_bitOf 1 = .ok (.iload_n 1, 1) := by decide +kernel
theorem dX4_bitOf_2 : decode cX4_bitOf 2 = .ok (.ishr, 1) := by decide +kernel
theorem dX4_bitOf_3 : decode cX4_bitOf 3 = .ok (.iconst 1, 1) := by decide +kernel
theorem dX4_bitOf_4 : decode cX4_bitOf 4 = .ok (.iand, 1) := by decide +kernel
theorem dX4_bitOf_5 : decode cX4_bitOf 5 = .ok (.ireturn, 1) := by decide +kernel
set_option maxRecDepth 20000 in
theorem ggX4_isIsle_X4_isWithin : GoodIn wsX4_isIsle wsX4_isWithin := goodIn_r _ [6] (by decide +kernel) (by decide +kernel)
set_option maxRecDepth 20000 in
theorem gX4_isIsle_X4_isWithin : GoodIn wsX4_isIsle (va_wsS RX4 54 yX4_isWithin wsX4_isWithin) := goodIn_app (goodIn_of _ (by decide +kernel)) ggX4_isIsle_X4_isWithin
theorem dX4_isIsle_0 : decode cX4_isIsle 0 = .ok (.iload_n 1, 1) := by decide +kernel
theorem dX4_isIsle_1 : decode cX4_isIsle 1 = .ok (.iconst 0, 1) := by decide +kernel
theorem dX4_isIsle_2 : decode cX4_isIsle 2 = .ok (.aload_n 0, 1) := by decide +kernel
theorem dX4_isIsle_3 : decode cX4_isIsle 3 = .ok (.getfield 19, 3) := by decide +kernel
theorem dX4_isIsle_6 : decode cX4_isIsle 6 = .ok (.getfield 194, 3) := by decide +kernel
theorem dX4_isIsle_9 : decode cX4_isIsle 9 = .ok (.iconst 1, 1) := by decide +kernel
theorem dX4_isIsle_10 : decode cX4_isIsle 10 = .ok (.isub, 1) := by decide +kernel
theorem dX4_isIsle_11 : decode cX4_isIsle 11 = .ok (.invokestatic 54, 3) := by decide +kernel
theorem dX4_isIsle_14 : decode cX4_isIsle 14 = .ok (.ireturn, 1) := by decide +kernel
set_option maxRecDepth 20000 in
theorem ggX4_isLetter_X4_isWithin : GoodIn wsX4_isLetter wsX4_isWithin := goodIn_r _ [6] (by decide +kernel) (by decide +kernel)
set_option maxRecDepth 20000 in
theorem gX4_isLetter_X4_isWithin : GoodIn wsX4_isLetter (va_wsS RX4 54 yX4_isWithin wsX4_isWithin) := goodIn_app (goodIn_of _ (by decide +kernel)) ggX4_isLetter_X4_isWithin
theorem dX4_isLetter_0 : decode cX4_isLetter 0 = .ok (.iload_n 1, 1) := by decide +kernel
theorem dX4_isLetter_1 : decode cX4_isLetter 1 = .ok (.iconst 0, 1) := by decide +kernel
theorem dX4_isLetter_2 : decode cX4_isLetter 2 = .ok (.aload_n 0, 1) := by decide +kernel
theorem dX4_isLetter_3 : decode cX4_isLetter 3 = .ok (.getfield 29, 3) := by decide +kernel
theorem dX4_isLetter_6 : decode cX4_isLetter 6 = .ok (.getfield 134, 3) := by decide +kernel
theorem dX4_isLetter_9 : decode cX4_isLetter 9 = .ok (.iconst 1, 1) := by decide +kernel
theorem dX4_isLetter_10 : decode cX4_isLetter 10 = .ok (.isub, 1) := by decide +kernel
theorem dX4_isLetter_11 : decode cX4_isLetter 11 = .ok (.invokestatic 54, 3) := by decide +kernel
theorem dX4_isLetter_14 : decode cX4_isLetter 14 = .ok (.ireturn, 1) := by decide +kernel
set_option maxRecDepth 20000 in
theorem ggX4_isWeight_X4_isWithin : GoodIn wsX4_isWeight wsX4_isWithin := goodIn_r _ [4] (by decide +kernel) (by decide +kernel)
set_option maxRecDepth 20000 in
theorem gX4_isWeight_X4_isWithin : GoodIn wsX4_isWeight (va_wsS RX4 54 yX4_isWithin wsX4_isWithin) := goodIn_app (goodIn_of _ (by decide +kernel)) ggX4_isWeight_X4_isWithin
theorem dX4_isWeight_0 : decode cX4_isWeight 0 = .ok (.iload_n 0, 1) := by decide +kernel
theorem dX4_isWeight_1 : decode cX4_isWeight 1 = .ok (.iconst 1, 1) := by decide +kernel
theorem dX4_isWeight_2 : decode cX4_isWeight 2 = .ok (.iconst 5, 1) := by decide +kernel
theorem dX4_isWeight_3 : decode cX4_isWeight 3 = .ok (.invokestatic 54, 3) := by decide +kernel
theorem dX4_isWeight_6 : decode cX4_isWeight 6 = .ok (.ireturn, 1) := by decide +kernel
set_option maxRecDepth 20000 in
theorem ggX4_isWay_X4_isIsle : GoodIn wsX4_isWay wsX4_isIsle := goodIn_r _ [5, 6, 7, 8, 9, 4, 10, 11, 12, 13, 14, 15, 16, 17, 18, 19, 20, 21, 22, 23, 24, 25, 26, 27, 28, 29, 30, 31, 32] (by decide +kernel) (by decide +kernel)
set_option maxRecDepth 20000 in
theorem gX4_isWay_X4_isIsle : GoodIn wsX4_isWay (wsV RX4 80 RX4 yX4_isIsle wsX4_isIsle) := goodIn_app (goodIn_of _ (by decide +kernel)) ggX4_isWay_X4_isIsle
theorem dX4_isWay_0 : decode cX4_isWay 0 = .ok (.aload_n 0, 1) := by decide +kernel
theorem dX4_isWay_1 : decode cX4_isWay 1 = .ok (.iload_n 1, 1) := by decide +kernel
theorem dX4_isWay_2 : decode cX4_isWay 2 = .ok (.invokevirtual 80, 3) := by decide +kernel
theorem dX4_isWay_5 : decode cX4_isWay 5 = .ok (.ifCond .eq 20, 3) := by decide +kernel
theorem dX4_isWay_8 : decode cX4_isWay 8 = .ok (.aload_n 0, 1) := by decide +kernel
theorem dX4_isWay_9 : decode cX4_isWay 9 = .ok (.iload_n 2, 1) := by decide +kernel
theorem dX4_isWay_10 : decode cX4_isWay 10 = .ok (.invokevirtual 80, 3) := by decide +kernel
theorem dX4_isWay_13 : decode cX4_isWay 13 = .ok (.ifCond .eq 12, 3) := by decide +kernel
theorem dX4_isWay_16 : decode cX4_isWay 16 = .ok (.iload_n 1, 1) := by decide +kernel
theorem dX4_isWay_17 : decode cX4_isWay 17 = .ok (.iload_n 2, 1) := by decide +kernel
theorem dX4_isWay_18 : decode cX4_isWay 18 = .ok (.if_icmp .eq 7, 3) := by decide +kernel
theorem dX4_isWay_21 : decode cX4_isWay 21 = .ok (.iconst 1, 1) := by decide +kernel
theorem dX4_isWay_22 : decode cX4_isWay 22 = .ok (.goto 4, 3) := by decide +kernel
theorem dX4_isWay_25 : decode cX4_isWay 25 = .ok (.iconst 0, 1) := by decide +kernel
theorem dX4_isWay_26 : decode cX4_isWay 26 = .ok (.ireturn, 1) := by decide +kernel
set_option maxRecDepth 20000 in
theorem ggX4_remember_X2_copyFrom : GoodIn wsX4_remember wsX2_copyFrom := goodIn_r _ [13, 14, 15, 16, 17, 18, 19, 20, 21, 22, 23, 24, 25, 26, 27, 28, 29, 30, 31, 44, 45, 46, 47, 48, 49, 50, 51, 52, 53, 54, 55, 56] (by decide +kernel) (by decide +kernel)
set_option maxRecDepth 20000 in
theorem gX4_remember_X2_copyFrom : GoodIn wsX4_remember (wsV RX4 167 RX2 yX2_copyFrom wsX2_copyFrom) := goodIn_app (goodIn_of _ (by decide +kernel)) ggX4_remember_X2_copyFrom
theorem dX4_remember_0 : decode cX4_remember 0 = .ok (.aload_n 0, 1) := by decide +kernel
theorem dX4_remember_1 : decode cX4_remember 1 = .ok (.getfield 33, 3) := by decide +kernel
theorem dX4_remember_4 : decode cX4_remember 4 = .ok (.aload_n 0, 1) := by decide +kernel
theorem dX4_remember_5 : decode cX4_remember 5 = .ok (.getfield 164, 3) := by decide +kernel
theorem dX4_remember_8 : decode cX4_remember 8 = .ok (.aaload, 1) := by decide +kernel
theorem dX4_remember_9 : decode cX4_remember 9 = .ok (.aload_n 0, 1) := by decide +kernel
theorem dX4_remember_10 : decode cX4_remember 10 = .ok (.getfield 29, 3) := by decide +kernel
theorem dX4_remember_13 : decode cX4_remember 13 = .ok (.invokevirtual 167, 3) := by decide +kernel
theorem dX4_remember_16 : decode cX4_remember 16 = .ok (.aload_n 0, 1) := by decide +kernel
theorem dX4_remember_17 : decode cX4_remember 17 = .ok (.aload_n 0, 1) := by decide +kernel
theorem dX4_remember_18 : decode cX4_remember 18 = .ok (.getfield 164, 3) := by decide +kernel
theorem dX4_remember_21 : decode cX4_remember 21 = .ok (.bipush 9, 2) := by decide +kernel
theorem dX4_remember_23 : decode cX4_remember 23 = .ok (.if_icmp .ge 12, 3) := by decide +kernel
theorem dX4_remember_26 : decode cX4_remember 26 = .ok (.aload_n 0, 1) := by decide +kernel
theorem dX4_remember_27 : decode cX4_remember 27 = .ok (.getfield 164, 3) := by decide +kernel
theorem dX4_remember_30 : decode cX4_remember 30 = .ok (.iconst 1, 1) := by decide +kernel
theorem dX4_remember_31 : decode cX4_remember 31 = .ok (.iadd, 1) := by decide +kernel
theorem dX4_remember_32 : decode cX4_remember 32 = .ok (.goto 4, 3) := by decide +kernel
theorem dX4_remember_35 : decode cX4_remember 35 = .ok (.iconst 0, 1) := by decide +kernel
theorem dX4_remember_36 : decode cX4_remember 36 = .ok (.putfield 164, 3) := by decide +kernel
theorem dX4_remember_39 : decode cX4_remember 39 = .ok (.aload_n 0, 1) := by decide +kernel
theorem dX4_remember_40 : decode cX4_remember 40 = .ok (.aload_n 0, 1) := by decide +kernel
theorem dX4_remember_41 : decode cX4_remember 41 = .ok (.getfield 77, 3) := by decide +kernel
theorem dX4_remember_44 : decode cX4_remember 44 = .ok (.iconst 1, 1) := by decide +kernel
theorem dX4_remember_45 : decode cX4_remember 45 = .ok (.iadd, 1) := by decide +kernel
theorem dX4_remember_46 : decode cX4_remember 46 = .ok (.bipush 10, 2) := by decide +kernel
theorem dX4_remember_48 : decode cX4_remember 48 = .ok (.invokestatic 254, 3) := by decide +kernel
theorem dX4_remember_51 : decode cX4_remember 51 = .ok (.putfield 77, 3) := by decide +kernel
theorem dX4_remember_54 : decode cX4_remember 54 = .ok (.return_, 1) := by decide +kernel
set_option maxRecDepth 20000 in
theorem ggX4_passHours_X2_windOf : GoodIn wsX4_passHours wsX2_windOf := goodIn_r _ [8, 9, 10, 11, 12, 13, 14, 51, 52, 53, 54, 55, 56] (by decide +kernel) (by decide +kernel)
set_option maxRecDepth 20000 in
theorem gX4_passHours_X2_windOf : GoodIn wsX4_passHours (wsV RX4 105 RX2 yX2_windOf wsX2_windOf) := goodIn_app (goodIn_of _ (by decide +kernel)) ggX4_passHours_X2_windOf
set_option maxRecDepth 20000 in
theorem ggX4_passHours_X1_passHour : GoodIn wsX4_passHours wsX1_passHour := goodIn_r _ [19, 20, 21, 22, 23, 24, 25, 26, 27, 28, 29, 30, 31, 32, 33, 34, 35, 36, 37, 38, 57, 58, 59, 60, 61, 62, 63, 64, 65, 66, 67, 68, 69, 70, 71, 72, 73] (by decide +kernel) (by decide +kernel)
set_option maxRecDepth 20000 in
theorem gX4_passHours_X1_passHour : GoodIn wsX4_passHours (wsV RX4 154 RX1 yX1_passHour wsX1_passHour) := goodIn_app (goodIn_of _ (by decide +kernel)) ggX4_passHours_X1_passHour
theorem dX4_passHours_0 : decode cX4_passHours 0 = .ok (.iconst 0, 1) := by decide +kernel
theorem dX4_passHours_1 : decode cX4_passHours 1 = .ok (.istore 4, 2) := by decide +kernel
theorem dX4_passHours_3 : decode cX4_passHours 3 = .ok (.iload 4, 2) := by decide +kernel
theorem dX4_passHours_5 : decode cX4_passHours 5 = .ok (.iload_n 3, 1) := by decide +kernel
theorem dX4_passHours_6 : decode cX4_passHours 6 = .ok (.if_icmp .ge 35, 3) := by decide +kernel
theorem dX4_passHours_9 : decode cX4_passHours 9 = .ok (.aload_n 1, 1) := by decide +kernel
theorem dX4_passHours_10 : decode cX4_passHours 10 = .ok (.aload_n 0, 1) := by decide +kernel
theorem dX4_passHours_11 : decode cX4_passHours 11 = .ok (.getfield 19, 3) := by decide +kernel
theorem dX4_passHours_14 : decode cX4_passHours 14 = .ok (.aload_n 0, 1) := by decide +kernel
theorem dX4_passHours_15 : decode cX4_passHours 15 = .ok (.getfield 29, 3) := by decide +kernel
theorem dX4_passHours_18 : decode cX4_passHours 18 = .ok (.iload_n 2, 1) := by decide +kernel
theorem dX4_passHours_19 : decode cX4_passHours 19 = .ok (.iload 4, 2) := by decide +kernel
theorem dX4_passHours_21 : decode cX4_passHours 21 = .ok (.iadd, 1) := by decide +kernel
theorem dX4_passHours_22 : decode cX4_passHours 22 = .ok (.invokevirtual 105, 3) := by decide +kernel
theorem dX4_passHours_25 : decode cX4_passHours 25 = .ok (.aload_n 0, 1) := by decide +kernel
theorem dX4_passHours_26 : decode cX4_passHours 26 = .ok (.getfield 29, 3) := by decide +kernel
theorem dX4_passHours_29 : decode cX4_passHours 29 = .ok (.getfield 88, 3) := by decide +kernel
theorem dX4_passHours_32 : decode cX4_passHours 32 = .ok (.invokevirtual 154, 3) := by decide +kernel
theorem dX4_passHours_35 : decode cX4_passHours 35 = .ok (.iinc 4 1, 3) := by decide +kernel
theorem dX4_passHours_38 : decode cX4_passHours 38 = .ok (.goto (-35), 3) := by decide +kernel
theorem dX4_passHours_41 : decode cX4_passHours 41 = .ok (.return_, 1) := by decide +kernel
set_option maxRecDepth 20000 in
theorem ggX4_letterIn_X1_copyFrom : GoodIn wsX4_letterIn wsX1_copyFrom := goodIn_r _ [9, 10, 11, 12, 13, 14, 15, 16, 70, 71, 72, 73, 74, 75, 76] (by decide +kernel) (by decide +kernel)
set_option maxRecDepth 20000 in
theorem gX4_letterIn_X1_copyFrom : GoodIn wsX4_letterIn (wsV RX4 175 RX1 yX1_copyFrom wsX1_copyFrom) := goodIn_app (goodIn_of _ (by decide +kernel)) ggX4_letterIn_X1_copyFrom
set_option maxRecDepth 20000 in
theorem ggX4_letterIn_X4_passHours : GoodIn wsX4_letterIn wsX4_passHours := goodIn_r _ [21, 22, 2, 23, 24, 25, 26, 27, 28, 29, 30, 31, 32, 33, 34, 35, 36, 37, 8, 38, 15, 16, 13, 12, 14, 39, 40, 41, 42, 43, 44, 45, 46, 47, 48, 49, 50, 20, 51, 52, 53, 54, 55, 56, 57, 58, 59, 60, 61, 62, 63, 64, 65, 66, 67, 68, 69, 70, 71, 72, 73, 74, 75, 76, 77, 78, 79, 80, 81, 82, 83, 84, 85, 86] (by decide +kernel) (by decide +kernel)
set_option maxRecDepth 20000 in
theorem gX4_letterIn_X4_passHours : GoodIn wsX4_letterIn (wsV RX4 186 RX4 yX4_passHours wsX4_passHours) := goodIn_app (goodIn_of _ (by decide +kernel)) ggX4_letterIn_X4_passHours
theorem dX4_letterIn_0 : decode cX4_letterIn 0 = .ok (.aload_n 0, 1) := by decide +kernel
theorem dX4_letterIn_1 : decode cX4_letterIn 1 = .ok (.getfield 47, 3) := by decide +kernel
theorem dX4_letterIn_4 : decode cX4_letterIn 4 = .ok (.aload_n 0, 1) := by decide +kernel
theorem dX4_letterIn_5 : decode cX4_letterIn 5 = .ok (.getfield 29, 3) := by decide +kernel
theorem dX4_letterIn_8 : decode cX4_letterIn 8 = .ok (.getfield 112, 3) := by decide +kernel
theorem dX4_letterIn_11 : decode cX4_letterIn 11 = .ok (.iload_n 1, 1) := by decide +kernel
theorem dX4_letterIn_12 : decode cX4_letterIn 12 = .ok (.aaload, 1) := by decide +kernel
theorem dX4_letterIn_13 : decode cX4_letterIn 13 = .ok (.invokevirtual 175, 3) := by decide +kernel
theorem dX4_letterIn_16 : decode cX4_letterIn 16 = .ok (.aload_n 0, 1) := by decide +kernel
theorem dX4_letterIn_17 : decode cX4_letterIn 17 = .ok (.aload_n 0, 1) := by decide +kernel
theorem dX4_letterIn_18 : decode cX4_letterIn 18 = .ok (.getfield 47, 3) := by decide +kernel
theorem dX4_letterIn_21 : decode cX4_letterIn 21 = .ok (.aload_n 0, 1) := by decide +kernel
theorem dX4_letterIn_22 : decode cX4_letterIn 22 = .ok (.getfield 29, 3) := by decide +kernel
theorem dX4_letterIn_25 : decode cX4_letterIn 25 = .ok (.getfield 102, 3) := by decide +kernel
theorem dX4_letterIn_28 : decode cX4_letterIn 28 = .ok (.iload_n 2, 1) := by decide +kernel
theorem dX4_letterIn_29 : decode cX4_letterIn 29 = .ok (.invokevirtual 186, 3) := by decide +kernel
theorem dX4_letterIn_32 : decode cX4_letterIn 32 = .ok (.aload_n 0, 1) := by decide +kernel
theorem dX4_letterIn_33 : decode cX4_letterIn 33 = .ok (.getfield 47, 3) := by decide +kernel
theorem dX4_letterIn_36 : decode cX4_letterIn 36 = .ok (.areturn, 1) := by decide +kernel
set_option maxRecDepth 20000 in
theorem ggX4_arrival_X0_cells : GoodIn wsX4_arrival wsX0_cells := goodIn_r _ [17, 18, 19, 20, 11, 8, 12, 80, 81, 82, 83, 84, 85, 86, 87, 88, 89] (by decide +kernel) (by decide +kernel)
set_option maxRecDepth 20000 in
theorem gX4_arrival_X0_cells : GoodIn wsX4_arrival (wsV RX4 95 RX0 yX0_cells wsX0_cells) := goodIn_app (goodIn_of _ (by decide +kernel)) ggX4_arrival_X0_cells
set_option maxRecDepth 20000 in
theorem ggX4_arrival_X2_windOf : GoodIn wsX4_arrival wsX2_windOf := goodIn_r _ [25, 26, 27, 28, 29, 30, 31, 74, 75, 76, 77, 78, 79] (by decide +kernel) (by decide +kernel)
set_option maxRecDepth 20000 in
theorem gX4_arrival_X2_windOf : GoodIn wsX4_arrival (wsV RX4 105 RX2 yX2_windOf wsX2_windOf) := goodIn_app (goodIn_of _ (by decide +kernel)) ggX4_arrival_X2_windOf
set_option maxRecDepth 20000 in
theorem ggX4_arrival_X1_passHour : GoodIn wsX4_arrival wsX1_passHour := goodIn_r _ [36, 37, 38, 39, 40, 41, 42, 43, 44, 16, 45, 46, 47, 48, 49, 50, 51, 52, 53, 54, 67, 68, 69, 70, 71, 72, 73, 80, 81, 82, 83, 84, 85, 86, 87, 88, 89] (by decide +kernel) (by decide +kernel)
set_option maxRecDepth 20000 in
theorem gX4_arrival_X1_passHour : GoodIn wsX4_arrival (wsV RX4 154 RX1 yX1_passHour wsX1_passHour) := goodIn_app (goodIn_of _ (by decide +kernel)) ggX4_arrival_X1_passHour
theorem dX4_arrival_0 : decode cX4_arrival 0 = .ok (.aload_n 0, 1) := by decide +kernel
theorem dX4_arrival_1 : decode cX4_arrival 1 = .ok (.getfield 47, 3) := by decide +kernel
theorem dX4_arrival_4 : decode cX4_arrival 4 = .ok (.getfield 131, 3) := by decide +kernel
theorem dX4_arrival_7 : decode cX4_arrival 7 = .ok (.iconst 1, 1) := by decide +kernel
theorem dX4_arrival_8 : decode cX4_arrival 8 = .ok (.if_icmp .ne 5, 3) := by decide +kernel
theorem dX4_arrival_11 : decode cX4_arrival 11 = .ok (.iconst 0, 1) := by decide +kernel
theorem dX4_arrival_12 : decode cX4_arrival 12 = .ok (.ireturn, 1) := by decide +kernel
theorem dX4_arrival_13 : decode cX4_arrival 13 = .ok (.sipush 400, 3) := by decide +kernel
theorem dX4_arrival_16 : decode cX4_arrival 16 = .ok (.aload_n 0, 1) := by decide +kernel
theorem dX4_arrival_17 : decode cX4_arrival 17 = .ok (.getfield 19, 3) := by decide +kernel
theorem dX4_arrival_20 : decode cX4_arrival 20 = .ok (.invokevirtual 95, 3) := by decide +kernel
theorem dX4_arrival_23 : decode cX4_arrival 23 = .ok (.iconst 1, 1) := by decide +kernel
theorem dX4_arrival_24 : decode cX4_arrival 24 = .ok (.aload_n 0, 1) := by decide +kernel
theorem dX4_arrival_25 : decode cX4_arrival 25 = .ok (.getfield 29, 3) := by decide +kernel
theorem dX4_arrival_28 : decode cX4_arrival 28 = .ok (.getfield 158, 3) := by decide +kernel
theorem dX4_arrival_31 : decode cX4_arrival 31 = .ok (.invokestatic 181, 3) := by decide +kernel
theorem dX4_arrival_34 : decode cX4_arrival 34 = .ok (.imul, 1) := by decide +kernel
theorem dX4_arrival_35 : decode cX4_arrival 35 = .ok (.invokestatic 254, 3) := by decide +kernel
theorem dX4_arrival_38 : decode cX4_arrival 38 = .ok (.istore_n 3, 1) := by decide +kernel
theorem dX4_arrival_39 : decode cX4_arrival 39 = .ok (.iconst 1, 1) := by decide +kernel
theorem dX4_arrival_40 : decode cX4_arrival 40 = .ok (.istore 4, 2) := by decide +kernel
theorem dX4_arrival_42 : decode cX4_arrival 42 = .ok (.iload 4, 2) := by decide +kernel
theorem dX4_arrival_44 : decode cX4_arrival 44 = .ok (.iload_n 3, 1) := by decide +kernel
theorem dX4_arrival_45 : decode cX4_arrival 45 = .ok (.if_icmp .gt 58, 3) := by decide +kernel
theorem dX4_arrival_48 : decode cX4_arrival 48 = .ok (.aload_n 0, 1) := by decide +kernel
theorem dX4_arrival_49 : decode cX4_arrival 49 = .ok (.getfield 47, 3) := by decide +kernel
theorem dX4_arrival_52 : decode cX4_arrival 52 = .ok (.getfield 131, 3) := by decide +kernel
theorem dX4_arrival_55 : decode cX4_arrival 55 = .ok (.ifCond .ne 48, 3) := by decide +kernel
theorem dX4_arrival_58 : decode cX4_arrival 58 = .ok (.aload_n 0, 1) := by decide +kernel
theorem dX4_arrival_59 : decode cX4_arrival 59 = .ok (.getfield 47, 3) := by decide +kernel
theorem dX4_arrival_62 : decode cX4_arrival 62 = .ok (.aload_n 0, 1) := by decide +kernel
theorem dX4_arrival_63 : decode cX4_arrival 63 = .ok (.getfield 19, 3) := by decide +kernel
theorem dX4_arrival_66 : decode cX4_arrival 66 = .ok (.aload_n 0, 1) := by decide +kernel
theorem dX4_arrival_67 : decode cX4_arrival 67 = .ok (.getfield 29, 3) := by decide +kernel
theorem dX4_arrival_70 : decode cX4_arrival 70 = .ok (.iload_n 1, 1) := by decide +kernel
theorem dX4_arrival_71 : decode cX4_arrival 71 = .ok (.iload 4, 2) := by decide +kernel
theorem dX4_arrival_73 : decode cX4_arrival 73 = .ok (.iadd, 1) := by decide +kernel
theorem dX4_arrival_74 : decode cX4_arrival 74 = .ok (.iconst 1, 1) := by decide +kernel
theorem dX4_arrival_75 : decode cX4_arrival 75 = .ok (.isub, 1) := by decide +kernel
theorem dX4_arrival_76 : decode cX4_arrival 76 = .ok (.invokevirtual 105, 3) := by decide +kernel
theorem dX4_arrival_79 : decode cX4_arrival 79 = .ok (.iload_n 2, 1) := by decide +kernel
theorem dX4_arrival_80 : decode cX4_arrival 80 = .ok (.invokevirtual 154, 3) := by decide +kernel
theorem dX4_arrival_83 : decode cX4_arrival 83 = .ok (.aload_n 0, 1) := by decide +kernel
theorem dX4_arrival_84 : decode cX4_arrival 84 = .ok (.getfield 47, 3) := by decide +kernel
theorem dX4_arrival_87 : decode cX4_arrival 87 = .ok (.getfield 131, 3) := by decide +kernel
theorem dX4_arrival_90 : decode cX4_arrival 90 = .ok (.iconst 1, 1) := by decide +kernel
theorem dX4_arrival_91 : decode cX4_arrival 91 = .ok (.if_icmp .ne 6, 3) := by decide +kernel
theorem dX4_arrival_94 : decode cX4_arrival 94 = .ok (.iload 4, 2) := by decide +kernel
theorem dX4_arrival_96 : decode cX4_arrival 96 = .ok (.ireturn, 1) := by decide +kernel
theorem dX4_arrival_97 : decode cX4_arrival 97 = .ok (.iinc 4 1, 3) := by decide +kernel
theorem dX4_arrival_100 : decode cX4_arrival 100 = .ok (.goto (-58), 3) := by decide +kernel
theorem dX4_arrival_103 : decode cX4_arrival 103 = .ok (.bipush (-9), 2) := by decide +kernel
theorem dX4_arrival_105 : decode cX4_arrival 105 = .ok (.ireturn, 1) := by decide +kernel
set_option maxRecDepth 20000 in
theorem ggX4_supposed_X1_letUp : GoodIn wsX4_supposed wsX1_letUp := goodIn_r _ [10, 11, 12, 13, 14, 15, 16, 17, 18, 19, 20, 21, 22, 23, 24, 85, 86, 87, 88, 89, 90, 91, 98, 99, 100, 101, 102, 103, 104, 105, 106, 107] (by decide +kernel) (by decide +kernel)
set_option maxRecDepth 20000 in
theorem gX4_supposed_X1_letUp : GoodIn wsX4_supposed (wsV RX4 150 RX1 yX1_letUp wsX1_letUp) := goodIn_app (goodIn_of _ (by decide +kernel)) ggX4_supposed_X1_letUp
set_option maxRecDepth 20000 in
theorem ggX4_supposed_X4_arrival : GoodIn wsX4_supposed wsX4_arrival := goodIn_r _ [29, 1, 30, 2, 4, 31, 32, 33, 34, 35, 36, 37, 38, 39, 40, 41, 22, 42, 43, 44, 45, 46, 47, 48, 49, 50, 51, 52, 53, 54, 55, 56, 57, 58, 59, 9, 60, 16, 18, 14, 13, 15, 61, 62, 63, 64, 65, 66, 67, 68, 69, 70, 71, 28, 72, 73, 74, 75, 76, 77, 78, 79, 80, 81, 82, 83, 84, 85, 86, 87, 88, 89, 90, 91, 92, 93, 94, 95, 96, 97, 98, 99, 100, 101, 102, 103, 104, 105, 106, 107] (by decide +kernel) (by decide +kernel)
set_option maxRecDepth 20000 in
theorem gX4_supposed_X4_arrival : GoodIn wsX4_supposed (wsV RX4 178 RX4 yX4_arrival wsX4_arrival) := goodIn_app (goodIn_of _ (by decide +kernel)) ggX4_supposed_X4_arrival
theorem dX4_supposed_0 : decode cX4_supposed 0 = .ok (.aload_n 0, 1) := by decide +kernel
theorem dX4_supposed_1 : decode cX4_supposed 1 = .ok (.getfield 47, 3) := by decide +kernel
theorem dX4_supposed_4 : decode cX4_supposed 4 = .ok (.aload_n 0, 1) := by decide +kernel
theorem dX4_supposed_5 : decode cX4_supposed 5 = .ok (.getfield 19, 3) := by decide +kernel
theorem dX4_supposed_8 : decode cX4_supposed 8 = .ok (.iload_n 1, 1) := by decide +kernel
theorem dX4_supposed_9 : decode cX4_supposed 9 = .ok (.iload_n 2, 1) := by decide +kernel
theorem dX4_supposed_10 : decode cX4_supposed 10 = .ok (.iload_n 3, 1) := by decide +kernel
theorem dX4_supposed_11 : decode cX4_supposed 11 = .ok (.invokevirtual 150, 3) := by decide +kernel
theorem dX4_supposed_14 : decode cX4_supposed 14 = .ok (.aload_n 0, 1) := by decide +kernel
theorem dX4_supposed_15 : decode cX4_supposed 15 = .ok (.getfield 47, 3) := by decide +kernel
theorem dX4_supposed_18 : decode cX4_supposed 18 = .ok (.getfield 257, 3) := by decide +kernel
theorem dX4_supposed_21 : decode cX4_supposed 21 = .ok (.iconst 1, 1) := by decide +kernel
theorem dX4_supposed_22 : decode cX4_supposed 22 = .ok (.if_icmp .ge 6, 3) := by decide +kernel
theorem dX4_supposed_25 : decode cX4_supposed 25 = .ok (.bipush (-9), 2) := by decide +kernel
theorem dX4_supposed_27 : decode cX4_supposed 27 = .ok (.ireturn, 1) := by decide +kernel
theorem dX4_supposed_28 : decode cX4_supposed 28 = .ok (.aload_n 0, 1) := by decide +kernel
theorem dX4_supposed_29 : decode cX4_supposed 29 = .ok (.aload_n 0, 1) := by decide +kernel
theorem dX4_supposed_30 : decode cX4_supposed 30 = .ok (.getfield 29, 3) := by decide +kernel
theorem dX4_supposed_33 : decode cX4_supposed 33 = .ok (.getfield 102, 3) := by decide +kernel
theorem dX4_supposed_36 : decode cX4_supposed 36 = .ok (.iload 4, 2) := by decide +kernel
theorem dX4_supposed_38 : decode cX4_supposed 38 = .ok (.iadd, 1) := by decide +kernel
theorem dX4_supposed_39 : decode cX4_supposed 39 = .ok (.iload 5, 2) := by decide +kernel
theorem dX4_supposed_41 : decode cX4_supposed 41 = .ok (.invokevirtual 178, 3) := by decide +kernel
theorem dX4_supposed_44 : decode cX4_supposed 44 = .ok (.ireturn, 1) := by decide +kernel
set_option maxRecDepth 20000 in
theorem ggX4_hasWordOf_X4_keepsOff : GoodIn wsX4_hasWordOf wsX4_keepsOff := goodIn_r _ [5, 6, 7, 8, 9, 10, 4, 11, 12, 13, 14, 15, 16, 17, 18, 19, 20, 21, 22, 23, 24, 25, 26, 27, 28, 29, 30, 31, 32, 33, 34, 35, 36, 37, 38, 39, 40, 41, 42, 43, 44, 45, 46, 47, 48, 49, 50, 51, 52, 53, 54, 55, 56, 57, 58, 59, 60, 61, 62, 63, 64, 65, 66, 67, 68, 69, 70, 71, 72, 73, 74, 75, 76, 77, 78, 79, 80, 81, 82, 83, 84, 85, 86, 87, 88, 89, 90, 91, 92, 93, 94, 95, 96, 97, 98, 99, 100, 101, 102, 103, 104, 105, 106, 107, 108, 109, 110, 111, 112, 113, 114, 115, 116] (by decide +kernel) (by decide +kernel)
set_option maxRecDepth 20000 in
theorem gX4_hasWordOf_X4_keepsOff : GoodIn wsX4_hasWordOf (wsV RX4 205 RX4 yX4_keepsOff wsX4_keepsOff) := goodIn_app (goodIn_of _ (by decide +kernel)) ggX4_hasWordOf_X4_keepsOff
theorem dX4_hasWordOf_0 : decode cX4_hasWordOf 0 = .ok (.iconst 1, 1) := by decide +kernel
theorem dX4_hasWordOf_1 : decode cX4_hasWordOf 1 = .ok (.istore_n 3, 1) := by decide +kernel
theorem dX4_hasWordOf_2 : decode cX4_hasWordOf 2 = .ok (.iload_n 3, 1) := by decide +kernel
theorem dX4_hasWordOf_3 : decode cX4_hasWordOf 3 = .ok (.iconst 5, 1) := by decide +kernel
theorem dX4_hasWordOf_4 : decode cX4_hasWordOf 4 = .ok (.if_icmp .gt 22, 3) := by decide +kernel
theorem dX4_hasWordOf_7 : decode cX4_hasWordOf 7 = .ok (.aload_n 0, 1) := by decide +kernel
theorem dX4_hasWordOf_8 : decode cX4_hasWordOf 8 = .ok (.iload_n 1, 1) := by decide +kernel
theorem dX4_hasWordOf_9 : decode cX4_hasWordOf 9 = .ok (.iload_n 2, 1) := by decide +kernel
theorem dX4_hasWordOf_10 : decode cX4_hasWordOf 10 = .ok (.iload_n 3, 1) := by decide +kernel
theorem dX4_hasWordOf_11 : decode cX4_hasWordOf 11 = .ok (.iconst 0, 1) := by decide +kernel
theorem dX4_hasWordOf_12 : decode cX4_hasWordOf 12 = .ok (.invokevirtual 205, 3) := by decide +kernel
theorem dX4_hasWordOf_15 : decode cX4_hasWordOf 15 = .ok (.ifCond .ne 5, 3) := by decide +kernel
theorem dX4_hasWordOf_18 : decode cX4_hasWordOf 18 = .ok (.iconst 1, 1) := by decide +kernel
theorem dX4_hasWordOf_19 : decode cX4_hasWordOf 19 = .ok (.ireturn, 1) := by decide +kernel
theorem dX4_hasWordOf_20 : decode cX4_hasWordOf 20 = .ok (.iinc 3 1, 3) := by decide +kernel
theorem dX4_hasWordOf_23 : decode cX4_hasWordOf 23 = .ok (.goto (-21), 3) := by decide +kernel
theorem dX4_hasWordOf_26 : decode cX4_hasWordOf 26 = .ok (.iconst 0, 1) := by decide +kernel
theorem dX4_hasWordOf_27 : decode cX4_hasWordOf 27 = .ok (.ireturn, 1) := by decide +kernel
set_option maxRecDepth 20000 in
theorem ggX4_keepsOff_X4_supposed : GoodIn wsX4_keepsOff wsX4_supposed := goodIn_r _ [7, 8, 9, 10, 1, 11, 12, 13, 14, 15, 16, 17, 18, 19, 20, 21, 22, 23, 24, 25, 26, 27, 28, 29, 30, 31, 32, 33, 6, 34, 35, 36, 37, 38, 39, 40, 41, 42, 43, 44, 45, 46, 47, 48, 49, 50, 51, 52, 53, 54, 55, 56, 57, 58, 59, 60, 61, 62, 63, 64, 65, 66, 67, 68, 69, 70, 71, 72, 73, 74, 75, 76, 77, 78, 79, 80, 81, 82, 83, 84, 85, 86, 87, 88, 89, 96, 97, 98, 99, 100, 101, 102, 90, 91, 92, 93, 94, 95, 103, 104, 105, 106, 107, 108, 109, 110, 111, 112] (by decide +kernel) (by decide +kernel)
set_option maxRecDepth 20000 in
theorem gX4_keepsOff_X4_supposed : GoodIn wsX4_keepsOff (wsV RX4 190 RX4 yX4_supposed wsX4_supposed) := goodIn_app (goodIn_of _ (by decide +kernel)) ggX4_keepsOff_X4_supposed
theorem dX4_keepsOff_0 : decode cX4_keepsOff 0 = .ok (.iconst 0, 1) := by decide +kernel
theorem dX4_keepsOff_1 : decode cX4_keepsOff 1 = .ok (.istore 5, 2) := by decide +kernel
theorem dX4_keepsOff_3 : decode cX4_keepsOff 3 = .ok (.iload 5, 2) := by decide +kernel
theorem dX4_keepsOff_5 : decode cX4_keepsOff 5 = .ok (.bipush 12, 2) := by decide +kernel
theorem dX4_keepsOff_7 : decode cX4_keepsOff 7 = .ok (.if_icmp .ge 35, 3) := by decide +kernel
theorem dX4_keepsOff_10 : decode cX4_keepsOff 10 = .ok (.aload_n 0, 1) := by decide +kernel
theorem dX4_keepsOff_11 : decode cX4_keepsOff 11 = .ok (.iload_n 1, 1) := by decide +kernel
theorem dX4_keepsOff_12 : decode cX4_keepsOff 12 = .ok (.iload_n 2, 1) := by decide +kernel
theorem dX4_keepsOff_13 : decode cX4_keepsOff 13 = .ok (.iload_n 3, 1) := by decide +kernel
theorem dX4_keepsOff_14 : decode cX4_keepsOff 14 = .ok (.iload 5, 2) := by decide +kernel
theorem dX4_keepsOff_16 : decode cX4_keepsOff 16 = .ok (.aload_n 0, 1) := by decide +kernel
theorem dX4_keepsOff_17 : decode cX4_keepsOff 17 = .ok (.getfield 29, 3) := by decide +kernel
theorem dX4_keepsOff_20 : decode cX4_keepsOff 20 = .ok (.getfield 88, 3) := by decide +kernel
theorem dX4_keepsOff_23 : decode cX4_keepsOff 23 = .ok (.iload 4, 2) := by decide +kernel
theorem dX4_keepsOff_25 : decode cX4_keepsOff 25 = .ok (.ior, 1) := by decide +kernel
theorem dX4_keepsOff_26 : decode cX4_keepsOff 26 = .ok (.invokevirtual 190, 3) := by decide +kernel
theorem dX4_keepsOff_29 : decode cX4_keepsOff 29 = .ok (.bipush (-9), 2) := by decide +kernel
theorem dX4_keepsOff_31 : decode cX4_keepsOff 31 = .ok (.if_icmp .eq 5, 3) := by decide +kernel
theorem dX4_keepsOff_34 : decode cX4_keepsOff 34 = .ok (.iconst 0, 1) := by decide +kernel
theorem dX4_keepsOff_35 : decode cX4_keepsOff 35 = .ok (.ireturn, 1) := by decide +kernel
theorem dX4_keepsOff_36 : decode cX4_keepsOff 36 = .ok (.iinc 5 1, 3) := by decide +kernel
theorem dX4_keepsOff_39 : decode cX4_keepsOff 39 = .ok (.goto (-36), 3) := by decide +kernel
theorem dX4_keepsOff_42 : decode cX4_keepsOff 42 = .ok (.iconst 1, 1) := by decide +kernel
theorem dX4_keepsOff_43 : decode cX4_keepsOff 43 = .ok (.ireturn, 1) := by decide +kernel
set_option maxRecDepth 20000 in
theorem ggX4_comesWith_X4_supposed : GoodIn wsX4_comesWith wsX4_supposed := goodIn_r _ [9, 3, 10, 11, 1, 12, 13, 14, 15, 16, 17, 18, 19, 20, 21, 22, 23, 24, 25, 26, 27, 28, 29, 30, 31, 32, 33, 34, 8, 35, 36, 37, 38, 39, 40, 41, 42, 43, 44, 45, 46, 47, 48, 49, 50, 51, 52, 53, 54, 55, 56, 57, 58, 59, 60, 61, 62, 63, 64, 65, 66, 67, 68, 69, 70, 71, 72, 73, 74, 75, 76, 77, 78, 79, 80, 81, 82, 83, 84, 85, 86, 87, 88, 89, 90, 97, 98, 99, 100, 101, 102, 103, 91, 92, 93, 94, 95, 96, 104, 105, 106, 107, 108, 109, 110, 111, 112, 113] (by decide +kernel) (by decide +kernel)
set_option maxRecDepth 20000 in
theorem gX4_comesWith_X4_supposed : GoodIn wsX4_comesWith (wsV RX4 190 RX4 yX4_supposed wsX4_supposed) := goodIn_app (goodIn_of _ (by decide +kernel)) ggX4_comesWith_X4_supposed
theorem dX4_comesWith_0 : decode cX4_comesWith 0 = .ok (.iconst 0, 1) := by decide +kernel
theorem dX4_comesWith_1 : decode cX4_comesWith 1 = .ok (.istore 5, 2) := by decide +kernel
theorem dX4_comesWith_3 : decode cX4_comesWith 3 = .ok (.iload 5, 2) := by decide +kernel
theorem dX4_comesWith_5 : decode cX4_comesWith 5 = .ok (.bipush 12, 2) := by decide +kernel
theorem dX4_comesWith_7 : decode cX4_comesWith 7 = .ok (.if_icmp .ge 44, 3) := by decide +kernel
theorem dX4_comesWith_10 : decode cX4_comesWith 10 = .ok (.aload_n 0, 1) := by decide +kernel
theorem dX4_comesWith_11 : decode cX4_comesWith 11 = .ok (.iload_n 1, 1) := by decide +kernel
theorem dX4_comesWith_12 : decode cX4_comesWith 12 = .ok (.iload_n 2, 1) := by decide +kernel
theorem dX4_comesWith_13 : decode cX4_comesWith 13 = .ok (.iload_n 3, 1) := by decide +kernel
theorem dX4_comesWith_14 : decode cX4_comesWith 14 = .ok (.iload 5, 2) := by decide +kernel
theorem dX4_comesWith_16 : decode cX4_comesWith 16 = .ok (.aload_n 0, 1) := by decide +kernel
theorem dX4_comesWith_17 : decode cX4_comesWith 17 = .ok (.getfield 29, 3) := by decide +kernel
theorem dX4_comesWith_20 : decode cX4_comesWith 20 = .ok (.getfield 88, 3) := by decide +kernel
theorem dX4_comesWith_23 : decode cX4_comesWith 23 = .ok (.invokevirtual 190, 3) := by decide +kernel
theorem dX4_comesWith_26 : decode cX4_comesWith 26 = .ok (.bipush (-9), 2) := by decide +kernel
theorem dX4_comesWith_28 : decode cX4_comesWith 28 = .ok (.if_icmp .eq 17, 3) := by decide +kernel
theorem dX4_comesWith_31 : decode cX4_comesWith 31 = .ok (.aload_n 0, 1) := by decide +kernel
theorem dX4_comesWith_32 : decode cX4_comesWith 32 = .ok (.getfield 47, 3) := by decide +kernel
theorem dX4_comesWith_35 : decode cX4_comesWith 35 = .ok (.getfield 128, 3) := by decide +kernel
theorem dX4_comesWith_38 : decode cX4_comesWith 38 = .ok (.iload 4, 2) := by decide +kernel
theorem dX4_comesWith_40 : decode cX4_comesWith 40 = .ok (.if_icmp .ne 5, 3) := by decide +kernel
theorem dX4_comesWith_43 : decode cX4_comesWith 43 = .ok (.iconst 1, 1) := by decide +kernel
theorem dX4_comesWith_44 : decode cX4_comesWith 44 = .ok (.ireturn, 1) := by decide +kernel
theorem dX4_comesWith_45 : decode cX4_comesWith 45 = .ok (.iinc 5 1, 3) := by decide +kernel
theorem dX4_comesWith_48 : decode cX4_comesWith 48 = .ok (.goto (-45), 3) := by decide +kernel
theorem dX4_comesWith_51 : decode cX4_comesWith 51 = .ok (.iconst 0, 1) := by decide +kernel
theorem dX4_comesWith_52 : decode cX4_comesWith 52 = .ok (.ireturn, 1) := by decide +kernel
set_option maxRecDepth 20000 in
theorem ggX4_shareArrived_X1_copyFrom : GoodIn wsX4_shareArrived wsX1_copyFrom := goodIn_r _ [12, 13, 14, 15, 16, 17, 18, 19, 68, 69, 70, 71, 72, 73, 74] (by decide +kernel) (by decide +kernel)
set_option maxRecDepth 20000 in
theorem gX4_shareArrived_X1_copyFrom : GoodIn wsX4_shareArrived (wsV RX4 175 RX1 yX1_copyFrom wsX1_copyFrom) := goodIn_app (goodIn_of _ (by decide +kernel)) ggX4_shareArrived_X1_copyFrom
set_option maxRecDepth 20000 in
theorem ggX4_shareArrived_X4_bitOf : GoodIn wsX4_shareArrived wsX4_bitOf := goodIn_r _ [23] (by decide +kernel) (by decide +kernel)
set_option maxRecDepth 20000 in
theorem gX4_shareArrived_X4_bitOf : GoodIn wsX4_shareArrived (va_wsS RX4 91 yX4_bitOf wsX4_bitOf) := goodIn_app (goodIn_of _ (by decide +kernel)) ggX4_shareArrived_X4_bitOf
set_option maxRecDepth 20000 in
theorem ggX4_shareArrived_X2_windOf : GoodIn wsX4_shareArrived wsX2_windOf := goodIn_r _ [28, 29, 30, 31, 32, 33, 34, 62, 63, 64, 65, 66, 67] (by decide +kernel) (by decide +kernel)
set_option maxRecDepth 20000 in
theorem gX4_shareArrived_X2_windOf : GoodIn wsX4_shareArrived (wsV RX4 105 RX2 yX2_windOf wsX2_windOf) := goodIn_app (goodIn_of _ (by decide +kernel)) ggX4_shareArrived_X2_windOf
set_option maxRecDepth 20000 in
theorem ggX4_shareArrived_X1_passHour : GoodIn wsX4_shareArrived wsX1_passHour := goodIn_r _ [38, 18, 19, 16, 15, 17, 39, 40, 41, 42, 43, 44, 45, 46, 47, 48, 49, 21, 22, 23, 68, 69, 70, 71, 72, 73, 74, 75, 76, 77, 78, 79, 80, 81, 82, 83, 84] (by decide +kernel) (by decide +kernel)
set_option maxRecDepth 20000 in
theorem gX4_shareArrived_X1_passHour : GoodIn wsX4_shareArrived (wsV RX4 154 RX1 yX1_passHour wsX1_passHour) := goodIn_app (goodIn_of _ (by decide +kernel)) ggX4_shareArrived_X1_passHour
theorem dX4_shareArrived_0 : decode cX4_shareArrived 0 = .ok (.aload_n 0, 1) := by decide +kernel
theorem dX4_shareArrived_1 : decode cX4_shareArrived 1 = .ok (.getfield 47, 3) := by decide +kernel
theorem dX4_shareArrived_4 : decode cX4_shareArrived 4 = .ok (.aload_n 0, 1) := by decide +kernel
theorem dX4_shareArrived_5 : decode cX4_shareArrived 5 = .ok (.getfield 29, 3) := by decide +kernel
theorem dX4_shareArrived_8 : decode cX4_shareArrived 8 = .ok (.getfield 112, 3) := by decide +kernel
theorem dX4_shareArrived_11 : decode cX4_shareArrived 11 = .ok (.iload_n 1, 1) := by decide +kernel
theorem dX4_shareArrived_12 : decode cX4_shareArrived 12 = .ok (.aaload, 1) := by decide +kernel
theorem dX4_shareArrived_13 : decode cX4_shareArrived 13 = .ok (.invokevirtual 175, 3) := by decide +kernel
theorem dX4_shareArrived_16 : decode cX4_shareArrived 16 = .ok (.iconst 1, 1) := by decide +kernel
theorem dX4_shareArrived_17 : decode cX4_shareArrived 17 = .ok (.istore 5, 2) := by decide +kernel
theorem dX4_shareArrived_19 : decode cX4_shareArrived 19 = .ok (.iconst 0, 1) := by decide +kernel
theorem dX4_shareArrived_20 : decode cX4_shareArrived 20 = .ok (.istore 6, 2) := by decide +kernel
theorem dX4_shareArrived_22 : decode cX4_shareArrived 22 = .ok (.iload 6, 2) := by decide +kernel
theorem dX4_shareArrived_24 : decode cX4_shareArrived 24 = .ok (.iload_n 3, 1) := by decide +kernel
theorem dX4_shareArrived_25 : decode cX4_shareArrived 25 = .ok (.if_icmp .ge 89, 3) := by decide +kernel
theorem dX4_shareArrived_28 : decode cX4_shareArrived 28 = .ok (.iload 4, 2) := by decide +kernel
theorem dX4_shareArrived_30 : decode cX4_shareArrived 30 = .ok (.iload 6, 2) := by decide +kernel
theorem dX4_shareArrived_32 : decode cX4_shareArrived 32 = .ok (.invokestatic 91, 3) := by decide +kernel
theorem dX4_shareArrived_35 : decode cX4_shareArrived 35 = .ok (.iconst 1, 1) := by decide +kernel
theorem dX4_shareArrived_36 : decode cX4_shareArrived 36 = .ok (.if_icmp .ne 7, 3) := by decide +kernel
theorem dX4_shareArrived_39 : decode cX4_shareArrived 39 = .ok (.iconst 1, 1) := by decide +kernel
theorem dX4_shareArrived_40 : decode cX4_shareArrived 40 = .ok (.goto 4, 3) := by decide +kernel
theorem dX4_shareArrived_43 : decode cX4_shareArrived 43 = .ok (.iconst 0, 1) := by decide +kernel
theorem dX4_shareArrived_44 : decode cX4_shareArrived 44 = .ok (.istore 7, 2) := by decide +kernel
theorem dX4_shareArrived_46 : decode cX4_shareArrived 46 = .ok (.iload 5, 2) := by decide +kernel
theorem dX4_shareArrived_48 : decode cX4_shareArrived 48 = .ok (.iload 7, 2) := by decide +kernel
theorem dX4_shareArrived_50 : decode cX4_shareArrived 50 = .ok (.ifCond .eq 7, 3) := by decide +kernel
theorem dX4_shareArrived_53 : decode cX4_shareArrived 53 = .ok (.iload_n 2, 1) := by decide +kernel
theorem dX4_shareArrived_54 : decode cX4_shareArrived 54 = .ok (.goto 7, 3) := by decide +kernel
theorem dX4_shareArrived_57 : decode cX4_shareArrived 57 = .ok (.bipush 10, 2) := by decide +kernel
theorem dX4_shareArrived_59 : decode cX4_shareArrived 59 = .ok (.iload_n 2, 1) := by decide +kernel
theorem dX4_shareArrived_60 : decode cX4_shareArrived 60 = .ok (.isub, 1) := by decide +kernel
theorem dX4_shareArrived_61 : decode cX4_shareArrived 61 = .ok (.imul, 1) := by decide +kernel
theorem dX4_shareArrived_62 : decode cX4_shareArrived 62 = .ok (.istore 5, 2) := by decide +kernel
theorem dX4_shareArrived_64 : decode cX4_shareArrived 64 = .ok (.aload_n 0, 1) := by decide +kernel
theorem dX4_shareArrived_65 : decode cX4_shareArrived 65 = .ok (.getfield 47, 3) := by decide +kernel
theorem dX4_shareArrived_68 : decode cX4_shareArrived 68 = .ok (.aload_n 0, 1) := by decide +kernel
theorem dX4_shareArrived_69 : decode cX4_shareArrived 69 = .ok (.getfield 19, 3) := by decide +kernel
theorem dX4_shareArrived_72 : decode cX4_shareArrived 72 = .ok (.iload 7, 2) := by decide +kernel
theorem dX4_shareArrived_74 : decode cX4_shareArrived 74 = .ok (.ifCond .eq 7, 3) := by decide +kernel
theorem dX4_shareArrived_77 : decode cX4_shareArrived 77 = .ok (.iconst 4, 1) := by decide +kernel
theorem dX4_shareArrived_78 : decode cX4_shareArrived 78 = .ok (.goto 20, 3) := by decide +kernel
theorem dX4_shareArrived_81 : decode cX4_shareArrived 81 = .ok (.aload_n 0, 1) := by decide +kernel
theorem dX4_shareArrived_82 : decode cX4_shareArrived 82 = .ok (.getfield 29, 3) := by decide +kernel
theorem dX4_shareArrived_85 : decode cX4_shareArrived 85 = .ok (.aload_n 0, 1) := by decide +kernel
theorem dX4_shareArrived_86 : decode cX4_shareArrived 86 = .ok (.getfield 29, 3) := by decide +kernel
theorem dX4_shareArrived_89 : decode cX4_shareArrived 89 = .ok (.getfield 102, 3) := by decide +kernel
theorem dX4_shareArrived_92 : decode cX4_shareArrived 92 = .ok (.iload 6, 2) := by decide +kernel
theorem dX4_shareArrived_94 : decode cX4_shareArrived 94 = .ok (.iadd, 1) := by decide +kernel
theorem dX4_shareArrived_95 : decode cX4_shareArrived 95 = .ok (.invokevirtual 105, 3) := by decide +kernel
theorem dX4_shareArrived_98 : decode cX4_shareArrived 98 = .ok (.aload_n 0, 1) := by decide +kernel
theorem dX4_shareArrived_99 : decode cX4_shareArrived 99 = .ok (.getfield 29, 3) := by decide +kernel
theorem dX4_shareArrived_102 : decode cX4_shareArrived 102 = .ok (.getfield 88, 3) := by decide +kernel
theorem dX4_shareArrived_105 : decode cX4_shareArrived 105 = .ok (.invokevirtual 154, 3) := by decide +kernel
theorem dX4_shareArrived_108 : decode cX4_shareArrived 108 = .ok (.iinc 6 1, 3) := by decide +kernel
theorem dX4_shareArrived_111 : decode cX4_shareArrived 111 = .ok (.goto (-89), 3) := by decide +kernel
theorem dX4_shareArrived_114 : decode cX4_shareArrived 114 = .ok (.aload_n 0, 1) := by decide +kernel
theorem dX4_shareArrived_115 : decode cX4_shareArrived 115 = .ok (.getfield 47, 3) := by decide +kernel
theorem dX4_shareArrived_118 : decode cX4_shareArrived 118 = .ok (.getfield 131, 3) := by decide +kernel
theorem dX4_shareArrived_121 : decode cX4_shareArrived 121 = .ok (.iconst 1, 1) := by decide +kernel
theorem dX4_shareArrived_122 : decode cX4_shareArrived 122 = .ok (.if_icmp .ne 8, 3) := by decide +kernel
theorem dX4_shareArrived_125 : decode cX4_shareArrived 125 = .ok (.iload 5, 2) := by decide +kernel
theorem dX4_shareArrived_127 : decode cX4_shareArrived 127 = .ok (.goto 4, 3) := by decide +kernel
theorem dX4_shareArrived_130 : decode cX4_shareArrived 130 = .ok (.iconst 0, 1) := by decide +kernel
theorem dX4_shareArrived_131 : decode cX4_shareArrived 131 = .ok (.ireturn, 1) := by decide +kernel
theorem dX4_commonDivisor_0 : decode cX4_commonDivisor 0 = .ok (.iload_n 0, 1) := by decide +kernel
theorem dX4_commonDivisor_1 : decode cX4_commonDivisor 1 = .ok (.istore_n 2, 1) := by decide +kernel
theorem dX4_commonDivisor_2 : decode cX4_commonDivisor 2 = .ok (.iload_n 1, 1) := by decide +kernel
theorem dX4_commonDivisor_3 : decode cX4_commonDivisor 3 = .ok (.istore_n 3, 1) := by decide +kernel
theorem dX4_commonDivisor_4 : decode cX4_commonDivisor 4 = .ok (.iconst 0, 1) := by decide +kernel
theorem dX4_commonDivisor_5 : decode cX4_commonDivisor 5 = .ok (.istore 4, 2) := by decide +kernel
theorem dX4_commonDivisor_7 : decode cX4_commonDivisor 7 = .ok (.iload 4, 2) := by decide +kernel
theorem dX4_commonDivisor_9 : decode cX4_commonDivisor 9 = .ok (.bipush 100, 2) := by decide +kernel
theorem dX4_commonDivisor_11 : decode cX4_commonDivisor 11 = .ok (.if_icmp .ge 23, 3) := by decide +kernel
theorem dX4_commonDivisor_14 : decode cX4_commonDivisor 14 = .ok (.iload_n 3, 1) := by decide +kernel
theorem dX4_commonDivisor_15 : decode cX4_commonDivisor 15 = .ok (.ifCond .le 19, 3) := by decide +kernel
theorem dX4_commonDivisor_18 : decode cX4_commonDivisor 18 = .ok (.iload_n 2, 1) := by decide +kernel
theorem dX4_commonDivisor_19 : decode cX4_commonDivisor 19 = .ok (.iload_n 3, 1) := by decide +kernel
theorem dX4_commonDivisor_20 : decode cX4_commonDivisor 20 = .ok (.irem, 1) := by decide +kernel
theorem dX4_commonDivisor_21 : decode cX4_commonDivisor 21 = .ok (.istore 5, 2) := by decide +kernel
theorem dX4_commonDivisor_23 : decode cX4_commonDivisor 23 = .ok (.iload_n 3, 1) := by decide +kernel
theorem dX4_commonDivisor_24 : decode cX4_commonDivisor 24 = .ok (.istore_n 2, 1) := by decide +kernel
theorem dX4_commonDivisor_25 : decode cX4_commonDivisor 25 = .ok (.iload 5, 2) := by decide +kernel
theorem dX4_commonDivisor_27 : decode cX4_commonDivisor 27 = .ok (.istore_n 3, 1) := by decide +kernel
theorem dX4_commonDivisor_28 : decode cX4_commonDivisor 28 = .ok (.iinc 4 1, 3) := by decide +kernel
theorem dX4_commonDivisor_31 : decode cX4_commonDivisor 31 = .ok (.goto (-24), 3) := by decide +kernel
theorem dX4_commonDivisor_34 : decode cX4_commonDivisor 34 = .ok (.iload_n 2, 1) := by decide +kernel
theorem dX4_commonDivisor_35 : decode cX4_commonDivisor 35 = .ok (.ireturn, 1) := by decide +kernel
theorem dX4_rateLetter_0 : decode cX4_rateLetter 0 = .ok (.aload_n 0, 1) := by decide +kernel
theorem dX4_rateLetter_1 : decode cX4_rateLetter 1 = .ok (.dup, 1) := by decide +kernel
theorem dX4_rateLetter_2 : decode cX4_rateLetter 2 = .ok (.getfield 250, 3) := by decide +kernel
theorem dX4_rateLetter_5 : decode cX4_rateLetter 5 = .ok (.lconst 1, 1) := by decide +kernel
theorem dX4_rateLetter_6 : decode cX4_rateLetter 6 = .ok (.ladd, 1) := by decide +kernel
theorem dX4_rateLetter_7 : decode cX4_rateLetter 7 = .ok (.putfield 250, 3) := by decide +kernel
theorem dX4_rateLetter_10 : decode cX4_rateLetter 10 = .ok (.aload_n 0, 1) := by decide +kernel
theorem dX4_rateLetter_11 : decode cX4_rateLetter 11 = .ok (.getfield 29, 3) := by decide +kernel
theorem dX4_rateLetter_14 : decode cX4_rateLetter 14 = .ok (.getfield 112, 3) := by decide +kernel
theorem dX4_rateLetter_17 : decode cX4_rateLetter 17 = .ok (.iload_n 1, 1) := by decide +kernel
theorem dX4_rateLetter_18 : decode cX4_rateLetter 18 = .ok (.aaload, 1) := by decide +kernel
theorem dX4_rateLetter_19 : decode cX4_rateLetter 19 = .ok (.getfield 116, 3) := by decide +kernel
theorem dX4_rateLetter_22 : decode cX4_rateLetter 22 = .ok (.ireturn, 1) := by decide +kernel
set_option maxRecDepth 20000 in
theorem ggX4_rateSummons_X4_rateLetter : GoodIn wsX4_rateSummons wsX4_rateLetter := goodIn_r _ [10, 1, 3, 4, 11, 19, 20, 21, 22, 23, 24, 25, 26, 27, 28, 29, 30, 31, 32, 33, 34, 35, 36, 37, 38, 39, 40, 41, 42, 43] (by decide +kernel) (by decide +kernel)
set_option maxRecDepth 20000 in
theorem gX4_rateSummons_X4_rateLetter : GoodIn wsX4_rateSummons (wsV RX4 223 RX4 yX4_rateLetter wsX4_rateLetter) := goodIn_app (goodIn_of _ (by decide +kernel)) ggX4_rateSummons_X4_rateLetter
set_option maxRecDepth 20000 in
theorem ggX4_rateSummons_J6_bitCount_0f7a4 : GoodIn wsX4_rateSummons wsJ6_bitCount_0f7a4 := goodIn_r _ [15, 16, 17, 18] (by decide +kernel) (by decide +kernel)
set_option maxRecDepth 20000 in
theorem gX4_rateSummons_J6_bitCount_0f7a4 : GoodIn wsX4_rateSummons (va_wsS RX4 200 yJ6_bitCount_0f7a4 wsJ6_bitCount_0f7a4) := goodIn_app (goodIn_of _ (by decide +kernel)) ggX4_rateSummons_J6_bitCount_0f7a4
theorem dX4_rateSummons_0 : decode cX4_rateSummons 0 = .ok (.aload_n 0, 1) := by decide +kernel
theorem dX4_rateSummons_1 : decode cX4_rateSummons 1 = .ok (.dup, 1) := by decide +kernel
theorem dX4_rateSummons_2 : decode cX4_rateSummons 2 = .ok (.getfield 250, 3) := by decide +kernel
theorem dX4_rateSummons_5 : decode cX4_rateSummons 5 = .ok (.ldc2_w 260, 3) := by decide +kernel
theorem dX4_rateSummons_8 : decode cX4_rateSummons 8 = .ok (.ladd, 1) := by decide +kernel
theorem dX4_rateSummons_9 : decode cX4_rateSummons 9 = .ok (.putfield 250, 3) := by decide +kernel
theorem dX4_rateSummons_12 : decode cX4_rateSummons 12 = .ok (.aload_n 0, 1) := by decide +kernel
theorem dX4_rateSummons_13 : decode cX4_rateSummons 13 = .ok (.iload_n 1, 1) := by decide +kernel
theorem dX4_rateSummons_14 : decode cX4_rateSummons 14 = .ok (.invokevirtual 223, 3) := by decide +kernel
theorem dX4_rateSummons_17 : decode cX4_rateSummons 17 = .ok (.aload_n 0, 1) := by decide +kernel
theorem dX4_rateSummons_18 : decode cX4_rateSummons 18 = .ok (.getfield 29, 3) := by decide +kernel
theorem dX4_rateSummons_21 : decode cX4_rateSummons 21 = .ok (.getfield 112, 3) := by decide +kernel
theorem dX4_rateSummons_24 : decode cX4_rateSummons 24 = .ok (.iload_n 1, 1) := by decide +kernel
theorem dX4_rateSummons_25 : decode cX4_rateSummons 25 = .ok (.aaload, 1) := by decide +kernel
theorem dX4_rateSummons_26 : decode cX4_rateSummons 26 = .ok (.getfield 128, 3) := by decide +kernel
theorem dX4_rateSummons_29 : decode cX4_rateSummons 29 = .ok (.invokestatic 200, 3) := by decide +kernel
theorem dX4_rateSummons_32 : decode cX4_rateSummons 32 = .ok (.iadd, 1) := by decide +kernel
theorem dX4_rateSummons_33 : decode cX4_rateSummons 33 = .ok (.ireturn, 1) := by decide +kernel
set_option maxRecDepth 20000 in
theorem ggX4_rateGoose_X4_rateLetter : GoodIn wsX4_rateGoose wsX4_rateLetter := goodIn_r _ [10, 1, 3, 4, 11, 12, 13, 14, 15, 16, 17, 18, 19, 20, 21, 22, 23, 24, 25, 26, 27, 28, 29, 30, 31, 32, 33, 34, 35, 36] (by decide +kernel) (by decide +kernel)
set_option maxRecDepth 20000 in
theorem gX4_rateGoose_X4_rateLetter : GoodIn wsX4_rateGoose (wsV RX4 223 RX4 yX4_rateLetter wsX4_rateLetter) := goodIn_app (goodIn_of _ (by decide +kernel)) ggX4_rateGoose_X4_rateLetter
theorem dX4_rateGoose_0 : decode cX4_rateGoose 0 = .ok (.aload_n 0, 1) := by decide +kernel
theorem dX4_rateGoose_1 : decode cX4_rateGoose 1 = .ok (.dup, 1) := by decide +kernel
theorem dX4_rateGoose_2 : decode cX4_rateGoose 2 = .ok (.getfield 250, 3) := by decide +kernel
theorem dX4_rateGoose_5 : decode cX4_rateGoose 5 = .ok (.ldc2_w 262, 3) := by decide +kernel
theorem dX4_rateGoose_8 : decode cX4_rateGoose 8 = .ok (.ladd, 1) := by decide +kernel
theorem dX4_rateGoose_9 : decode cX4_rateGoose 9 = .ok (.putfield 250, 3) := by decide +kernel
theorem dX4_rateGoose_12 : decode cX4_rateGoose 12 = .ok (.aload_n 0, 1) := by decide +kernel
theorem dX4_rateGoose_13 : decode cX4_rateGoose 13 = .ok (.iload_n 1, 1) := by decide +kernel
theorem dX4_rateGoose_14 : decode cX4_rateGoose 14 = .ok (.invokevirtual 223, 3) := by decide +kernel
theorem dX4_rateGoose_17 : decode cX4_rateGoose 17 = .ok (.aload_n 0, 1) := by decide +kernel
theorem dX4_rateGoose_18 : decode cX4_rateGoose 18 = .ok (.getfield 29, 3) := by decide +kernel
theorem dX4_rateGoose_21 : decode cX4_rateGoose 21 = .ok (.getfield 112, 3) := by decide +kernel
theorem dX4_rateGoose_24 : decode cX4_rateGoose 24 = .ok (.iload_n 1, 1) := by decide +kernel
theorem dX4_rateGoose_25 : decode cX4_rateGoose 25 = .ok (.aaload, 1) := by decide +kernel
theorem dX4_rateGoose_26 : decode cX4_rateGoose 26 = .ok (.getfield 125, 3) := by decide +kernel
theorem dX4_rateGoose_29 : decode cX4_rateGoose 29 = .ok (.isub, 1) := by decide +kernel
theorem dX4_rateGoose_30 : decode cX4_rateGoose 30 = .ok (.ireturn, 1) := by decide +kernel
set_option maxRecDepth 20000 in
theorem ggX4_rateBill_X4_rateSummons : GoodIn wsX4_rateBill wsX4_rateSummons := goodIn_r _ [7, 1, 8, 9, 10, 11, 12, 13, 14, 6, 15, 16, 17, 18, 19, 20, 21, 22, 23, 24, 25, 26, 27, 28, 29, 30, 31, 32, 33, 34, 35, 36, 37, 38, 39, 40, 41, 42, 43, 44, 45, 46, 47, 48] (by decide +kernel) (by decide +kernel)
set_option maxRecDepth 20000 in
theorem gX4_rateBill_X4_rateSummons : GoodIn wsX4_rateBill (wsV RX4 226 RX4 yX4_rateSummons wsX4_rateSummons) := goodIn_app (goodIn_of _ (by decide +kernel)) ggX4_rateBill_X4_rateSummons
theorem dX4_rateBill_0 : decode cX4_rateBill 0 = .ok (.aload_n 0, 1) := by decide +kernel
theorem dX4_rateBill_1 : decode cX4_rateBill 1 = .ok (.dup, 1) := by decide +kernel
theorem dX4_rateBill_2 : decode cX4_rateBill 2 = .ok (.getfield 250, 3) := by decide +kernel
theorem dX4_rateBill_5 : decode cX4_rateBill 5 = .ok (.ldc2_w 264, 3) := by decide +kernel
theorem dX4_rateBill_8 : decode cX4_rateBill 8 = .ok (.ladd, 1) := by decide +kernel
theorem dX4_rateBill_9 : decode cX4_rateBill 9 = .ok (.putfield 250, 3) := by decide +kernel
theorem dX4_rateBill_12 : decode cX4_rateBill 12 = .ok (.iconst 2, 1) := by decide +kernel
theorem dX4_rateBill_13 : decode cX4_rateBill 13 = .ok (.aload_n 0, 1) := by decide +kernel
theorem dX4_rateBill_14 : decode cX4_rateBill 14 = .ok (.iload_n 1, 1) := by decide +kernel
theorem dX4_rateBill_15 : decode cX4_rateBill 15 = .ok (.invokevirtual 226, 3) := by decide +kernel
theorem dX4_rateBill_18 : decode cX4_rateBill 18 = .ok (.imul, 1) := by decide +kernel
theorem dX4_rateBill_19 : decode cX4_rateBill 19 = .ok (.ireturn, 1) := by decide +kernel
set_option maxRecDepth 20000 in
theorem ggX4_rateVow_X4_rateGoose : GoodIn wsX4_rateVow wsX4_rateGoose := goodIn_r _ [7, 1, 8, 9, 10, 11, 12, 13, 14, 6, 15, 16, 17, 18, 19, 20, 21, 22, 23, 24, 25, 26, 27, 28, 29, 30, 31, 32, 33, 34, 35, 36, 37, 38, 39, 40, 41] (by decide +kernel) (by decide +kernel)
set_option maxRecDepth 20000 in
theorem gX4_rateVow_X4_rateGoose : GoodIn wsX4_rateVow (wsV RX4 229 RX4 yX4_rateGoose wsX4_rateGoose) := goodIn_app (goodIn_of _ (by decide +kernel)) ggX4_rateVow_X4_rateGoose
theorem dX4_rateVow_0 : decode cX4_rateVow 0 = .ok (.aload_n 0, 1) := by decide +kernel
theorem dX4_rateVow_1 : decode cX4_rateVow 1 = .ok (.dup, 1) := by decide +kernel
theorem dX4_rateVow_2 : decode cX4_rateVow 2 = .ok (.getfield 250, 3) := by decide +kernel
theorem dX4_rateVow_5 : decode cX4_rateVow 5 = .ok (.ldc2_w 266, 3) := by decide +kernel
theorem dX4_rateVow_8 : decode cX4_rateVow 8 = .ok (.ladd, 1) := by decide +kernel
theorem dX4_rateVow_9 : decode cX4_rateVow 9 = .ok (.putfield 250, 3) := by decide +kernel
theorem dX4_rateVow_12 : decode cX4_rateVow 12 = .ok (.aload_n 0, 1) := by decide +kernel
theorem dX4_rateVow_13 : decode cX4_rateVow 13 = .ok (.iload_n 1, 1) := by decide +kernel
theorem dX4_rateVow_14 : decode cX4_rateVow 14 = .ok (.invokevirtual 229, 3) := by decide +kernel
theorem dX4_rateVow_17 : decode cX4_rateVow 17 = .ok (.iload_n 1, 1) := by decide +kernel
theorem dX4_rateVow_18 : decode cX4_rateVow 18 = .ok (.iadd, 1) := by decide +kernel
theorem dX4_rateVow_19 : decode cX4_rateVow 19 = .ok (.ireturn, 1) := by decide +kernel
set_option maxRecDepth 20000 in
theorem ggX4_rateKite_X4_rateLetter : GoodIn wsX4_rateKite wsX4_rateLetter := goodIn_r _ [9, 1, 3, 10, 11, 12, 13, 14, 15, 16, 17, 18, 19, 20, 21, 22, 23, 24, 25, 26, 27, 28, 29, 30, 31, 32, 33, 34, 35, 36] (by decide +kernel) (by decide +kernel)
set_option maxRecDepth 20000 in
theorem gX4_rateKite_X4_rateLetter : GoodIn wsX4_rateKite (wsV RX4 223 RX4 yX4_rateLetter wsX4_rateLetter) := goodIn_app (goodIn_of _ (by decide +kernel)) ggX4_rateKite_X4_rateLetter
theorem dX4_rateKite_0 : decode cX4_rateKite 0 = .ok (.aload_n 0, 1) := by decide +kernel
theorem dX4_rateKite_1 : decode cX4_rateKite 1 = .ok (.dup, 1) := by decide +kernel
theorem dX4_rateKite_2 : decode cX4_rateKite 2 = .ok (.getfield 250, 3) := by decide +kernel
theorem dX4_rateKite_5 : decode cX4_rateKite 5 = .ok (.ldc2_w 268, 3) := by decide +kernel
theorem dX4_rateKite_8 : decode cX4_rateKite 8 = .ok (.ladd, 1) := by decide +kernel
theorem dX4_rateKite_9 : decode cX4_rateKite 9 = .ok (.putfield 250, 3) := by decide +kernel
theorem dX4_rateKite_12 : decode cX4_rateKite 12 = .ok (.aload_n 0, 1) := by decide +kernel
theorem dX4_rateKite_13 : decode cX4_rateKite 13 = .ok (.iload_n 1, 1) := by decide +kernel
theorem dX4_rateKite_14 : decode cX4_rateKite 14 = .ok (.invokevirtual 223, 3) := by decide +kernel
theorem dX4_rateKite_17 : decode cX4_rateKite 17 = .ok (.aload_n 0, 1) := by decide +kernel
theorem dX4_rateKite_18 : decode cX4_rateKite 18 = .ok (.getfield 29, 3) := by decide +kernel
theorem dX4_rateKite_21 : decode cX4_rateKite 21 = .ok (.getfield 102, 3) := by decide +kernel
theorem dX4_rateKite_24 : decode cX4_rateKite 24 = .ok (.iadd, 1) := by decide +kernel
theorem dX4_rateKite_25 : decode cX4_rateKite 25 = .ok (.ireturn, 1) := by decide +kernel
theorem dX5_init_0 : decode cX5_init 0 = .ok (.aload_n 0, 1) := by decide +kernel
theorem dX5_init_1 : decode cX5_init 1 = .ok (.invokespecial 1, 3) := by decide +kernel
theorem dX5_init_4 : decode cX5_init 4 = .ok (.aload_n 0, 1) := by decide +kernel
theorem dX5_init_5 : decode cX5_init 5 = .ok (.sipush 200, 3) := by decide +kernel
theorem dX5_init_8 : decode cX5_init 8 = .ok (.newarray .int, 2) := by decide +kernel
theorem dX5_init_10 : decode cX5_init 10 = .ok (.putfield 7, 3) := by decide +kernel
theorem dX5_init_13 : decode cX5_init 13 = .ok (.aload_n 0, 1) := by decide +kernel
theorem dX5_init_14 : decode cX5_init 14 = .ok (.bipush 12, 2) := by decide +kernel
theorem dX5_init_16 : decode cX5_init 16 = .ok (.newarray .int, 2) := by decide +kernel
theorem dX5_init_18 : decode cX5_init 18 = .ok (.putfield 13, 3) := by decide +kernel
theorem dX5_init_21 : decode cX5_init 21 = .ok (.aload_n 0, 1) := by decide +kernel
theorem dX5_init_22 : decode cX5_init 22 = .ok (.bipush 12, 2) := by decide +kernel
theorem dX5_init_24 : decode cX5_init 24 = .ok (.newarray .int, 2) := by decide +kernel
theorem dX5_init_26 : decode cX5_init 26 = .ok (.putfield 16, 3) := by decide +kernel
theorem dX5_init_29 : decode cX5_init 29 = .ok (.aload_n 0, 1) := by decide +kernel
theorem dX5_init_30 : decode cX5_init 30 = .ok (.bipush 12, 2) := by decide +kernel
theorem dX5_init_32 : decode cX5_init 32 = .ok (.newarray .int, 2) := by decide +kernel
theorem dX5_init_34 : decode cX5_init 34 = .ok (.putfield 19, 3) := by decide +kernel
theorem dX5_init_37 : decode cX5_init 37 = .ok (.aload_n 0, 1) := by decide +kernel
theorem dX5_init_38 : decode cX5_init 38 = .ok (.bipush 12, 2) := by decide +kernel
theorem dX5_init_40 : decode cX5_init 40 = .ok (.newarray .int, 2) := by decide +kernel
theorem dX5_init_42 : decode cX5_init 42 = .ok (.putfield 22, 3) := by decide +kernel
theorem dX5_init_45 : decode cX5_init 45 = .ok (.aload_n 0, 1) := by decide +kernel
theorem dX5_init_46 : decode cX5_init 46 = .ok (.bipush 45, 2) := by decide +kernel
theorem dX5_init_48 : decode cX5_init 48 = .ok (.newarray .int, 2) := by decide +kernel
theorem dX5_init_50 : decode cX5_init 50 = .ok (.putfield 25, 3) := by decide +kernel
theorem dX5_init_53 : decode cX5_init 53 = .ok (.aload_n 0, 1) := by decide +kernel
theorem dX5_init_54 : decode cX5_init 54 = .ok (.bipush 90, 2) := by decide +kernel
theorem dX5_init_56 : decode cX5_init 56 = .ok (.newarray .int, 2) := by decide +kernel
theorem dX5_init_58 : decode cX5_init 58 = .ok (.putfield 28, 3) := by decide +kernel
theorem dX5_init_61 : decode cX5_init 61 = .ok (.aload_n 0, 1) := by decide +kernel
theorem dX5_init_62 : decode cX5_init 62 = .ok (.iconst 2, 1) := by decide +kernel
theorem dX5_init_63 : decode cX5_init 63 = .ok (.newarray .boolean, 2) := by decide +kernel
theorem dX5_init_65 : decode cX5_init 65 = .ok (.putfield 31, 3) := by decide +kernel
theorem dX5_init_68 : decode cX5_init 68 = .ok (.aload_n 0, 1) := by decide +kernel
theorem dX5_init_69 : decode cX5_init 69 = .ok (.sipush 450, 3) := by decide +kernel
theorem dX5_init_72 : decode cX5_init 72 = .ok (.newarray .int, 2) := by decide +kernel
theorem dX5_init_74 : decode cX5_init 74 = .ok (.putfield 35, 3) := by decide +kernel
theorem dX5_init_77 : decode cX5_init 77 = .ok (.aload_n 0, 1) := by decide +kernel
theorem dX5_init_78 : decode cX5_init 78 = .ok (.bipush 6, 2) := by decide +kernel
theorem dX5_init_80 : decode cX5_init 80 = .ok (.newarray .int, 2) := by decide +kernel
theorem dX5_init_82 : decode cX5_init 82 = .ok (.putfield 38, 3) := by decide +kernel
theorem dX5_init_85 : decode cX5_init 85 = .ok (.aload_n 0, 1) := by decide +kernel
theorem dX5_init_86 : decode cX5_init 86 = .ok (.bipush 6, 2) := by decide +kernel
theorem dX5_init_88 : decode cX5_init 88 = .ok (.newarray .int, 2) := by decide +kernel
theorem dX5_init_90 : decode cX5_init 90 = .ok (.putfield 41, 3) := by decide +kernel
theorem dX5_init_93 : decode cX5_init 93 = .ok (.aload_n 0, 1) := by decide +kernel
theorem dX5_init_94 : decode cX5_init 94 = .ok (.bipush 30, 2) := by decide +kernel
theorem dX5_init_96 : decode cX5_init 96 = .ok (.newarray .int, 2) := by decide +kernel
theorem dX5_init_98 : decode cX5_init 98 = .ok (.putfield 44, 3) := by decide +kernel
theorem dX5_init_101 : decode cX5_init 101 = .ok (.aload_n 0, 1) := by decide +kernel
theorem dX5_init_102 : decode cX5_init 102 = .ok (.getfield 13, 3) := by decide +kernel
theorem dX5_init_105 : decode cX5_init 105 = .ok (.iconst 0, 1) := by decide +kernel
theorem dX5_init_106 : decode cX5_init 106 = .ok (.iconst 4, 1) := by decide +kernel
theorem dX5_init_107 : decode cX5_init 107 = .ok (.iastore, 1) := by decide +kernel
theorem dX5_init_108 : decode cX5_init 108 = .ok (.aload_n 0, 1) := by decide +kernel
theorem dX5_init_109 : decode cX5_init 109 = .ok (.getfield 13, 3) := by decide +kernel
theorem dX5_init_112 : decode cX5_init 112 = .ok (.iconst 1, 1) := by decide +kernel
theorem dX5_init_113 : decode cX5_init 113 = .ok (.iconst 4, 1) := by decide +kernel
theorem dX5_init_114 : decode cX5_init 114 = .ok (.iastore, 1) := by decide +kernel
theorem dX5_init_115 : decode cX5_init 115 = .ok (.aload_n 0, 1) := by decide +kernel
theorem dX5_init_116 : decode cX5_init 116 = .ok (.getfield 13, 3) := by decide +kernel
theorem dX5_init_119 : decode cX5_init 119 = .ok (.iconst 5, 1) := by decide +kernel
theorem dX5_init_120 : decode cX5_init 120 = .ok (.iconst 3, 1) := by decide +kernel
theorem dX5_init_121 : decode cX5_init 121 = .ok (.iastore, 1) := by decide +kernel
theorem dX5_init_122 : decode cX5_init 122 = .ok (.return_, 1) := by decide +kernel
theorem dX5_in_0 : decode cX5_in 0 = .ok (.iload_n 0, 1) := by decide +kernel
theorem dX5_in_1 : decode cX5_in 1 = .ok (.iload_n 1, 1) := by decide +kernel
theorem dX5_in_2 : decode cX5_in 2 = .ok (.if_icmp .lt 12, 3) := by decide +kernel
theorem dX5_in_5 : decode cX5_in 5 = .ok (.iload_n 0, 1) := by decide +kernel
theorem dX5_in_6 : decode cX5_in 6 = .ok (.iload_n 2, 1) := by decide +kernel
theorem dX5_in_7 : decode cX5_in 7 = .ok (.if_icmp .gt 7, 3) := by decide +kernel
theorem dX5_in_10 : decode cX5_in 10 = .ok (.iconst 1, 1) := by decide +kernel
theorem dX5_in_11 : decode cX5_in 11 = .ok (.goto 4, 3) := by decide +kernel
theorem dX5_in_14 : decode cX5_in 14 = .ok (.iconst 0, 1) := by decide +kernel
theorem dX5_in_15 : decode cX5_in 15 = .ok (.ireturn, 1) := by decide +kernel
theorem dX5_ones_0 : decode cX5_ones 0 = .ok (.iconst 0, 1) := by decide +kernel
theorem dX5_ones_1 : decode cX5_ones 1 = .ok (.istore_n 1, 1) := by decide +kernel
theorem dX5_ones_2 : decode cX5_ones 2 = .ok (.iconst 0, 1) := by decide +kernel
theorem dX5_ones_3 : decode cX5_ones 3 = .ok (.istore_n 2, 1) := by decide +kernel
theorem dX5_ones_4 : decode cX5_ones 4 = .ok (.iload_n 2, 1) := by decide +kernel
theorem dX5_ones_5 : decode cX5_ones 5 = .ok (.bipush 6, 2) := by decide +kernel
theorem dX5_ones_7 : decode cX5_ones 7 = .ok (.if_icmp .ge 17, 3) := by decide +kernel
theorem dX5_ones_10 : decode cX5_ones 10 = .ok (.iload_n 1, 1) := by decide +kernel
theorem dX5_ones_11 : decode cX5_ones 11 = .ok (.iload_n 0, 1) := by decide +kernel
theorem dX5_ones_12 : decode cX5_ones 12 = .ok (.iload_n 2, 1) := by decide +kernel
theorem dX5_ones_13 : decode cX5_ones 13 = .ok (.ishr, 1) := by decide +kernel
theorem dX5_ones_14 : decode cX5_ones 14 = .ok (.iconst 1, 1) := by decide +kernel
theorem dX5_ones_15 : decode cX5_ones 15 = .ok (.iand, 1) := by decide +kernel
theorem dX5_ones_16 : decode cX5_ones 16 = .ok (.iadd, 1) := by decide +kernel
theorem dX5_ones_17 : decode cX5_ones 17 = .ok (.istore_n 1, 1) := by decide +kernel
theorem dX5_ones_18 : decode cX5_ones 18 = .ok (.iinc 2 1, 3) := by decide +kernel
theorem dX5_ones_21 : decode cX5_ones 21 = .ok (.goto (-17), 3) := by decide +kernel
theorem dX5_ones_24 : decode cX5_ones 24 = .ok (.iload_n 1, 1) := by decide +kernel
theorem dX5_ones_25 : decode cX5_ones 25 = .ok (.ireturn, 1) := by decide +kernel
set_option maxRecDepth 20000 in
theorem ggX5_type_X5_in : GoodIn wsX5_type wsX5_in := goodIn_r _ [7] (by decide +kernel) (by decide +kernel)
set_option maxRecDepth 20000 in
theorem gX5_type_X5_in : GoodIn wsX5_type (va_wsS RX5 51 yX5_in wsX5_in) := goodIn_app (goodIn_of _ (by decide +kernel)) ggX5_type_X5_in
theorem dX5_type_0 : decode cX5_type 0 = .ok (.aload_n 0, 1) := by decide +kernel
theorem dX5_type_1 : decode cX5_type 1 = .ok (.iconst 0, 1) := by decide +kernel
theorem dX5_type_2 : decode cX5_type 2 = .ok (.putfield 47, 3) := by decide +kernel
theorem dX5_type_5 : decode cX5_type 5 = .ok (.iload_n 1, 1) := by decide +kernel
theorem dX5_type_6 : decode cX5_type 6 = .ok (.iconst 0, 1) := by decide +kernel
theorem dX5_type_7 : decode cX5_type 7 = .ok (.sipush 255, 3) := by decide +kernel
theorem dX5_type_10 : decode cX5_type 10 = .ok (.invokestatic 51, 3) := by decide +kernel
theorem dX5_type_13 : decode cX5_type 13 = .ok (.ifCond .ne 5, 3) := by decide +kernel
theorem dX5_type_16 : decode cX5_type 16 = .ok (.iconst (-1), 1) := by decide +kernel
theorem dX5_type_17 : decode cX5_type 17 = .ok (.ireturn, 1) := by decide +kernel
theorem dX5_type_18 : decode cX5_type 18 = .ok (.aload_n 0, 1) := by decide +kernel
theorem dX5_type_19 : decode cX5_type 19 = .ok (.getfield 55, 3) := by decide +kernel
theorem dX5_type_22 : decode cX5_type 22 = .ok (.sipush 200, 3) := by decide +kernel
theorem dX5_type_25 : decode cX5_type 25 = .ok (.if_icmp .ne 6, 3) := by decide +kernel
theorem dX5_type_28 : decode cX5_type 28 = .ok (.bipush (-3), 2) := by decide +kernel
theorem dX5_type_30 : decode cX5_type 30 = .ok (.ireturn, 1) := by decide +kernel
theorem dX5_type_31 : decode cX5_type 31 = .ok (.aload_n 0, 1) := by decide +kernel
theorem dX5_type_32 : decode cX5_type 32 = .ok (.getfield 7, 3) := by decide +kernel
theorem dX5_type_35 : decode cX5_type 35 = .ok (.aload_n 0, 1) := by decide +kernel
theorem dX5_type_36 : decode cX5_type 36 = .ok (.getfield 55, 3) := by decide +kernel
theorem dX5_type_39 : decode cX5_type 39 = .ok (.iload_n 1, 1) := by decide +kernel
theorem dX5_type_40 : decode cX5_type 40 = .ok (.iastore, 1) := by decide +kernel
theorem dX5_type_41 : decode cX5_type 41 = .ok (.aload_n 0, 1) := by decide +kernel
theorem dX5_type_42 : decode cX5_type 42 = .ok (.dup, 1) := by decide +kernel
theorem dX5_type_43 : decode cX5_type 43 = .ok (.getfield 55, 3) := by decide +kernel
theorem dX5_type_46 : decode cX5_type 46 = .ok (.iconst 1, 1) := by decide +kernel
theorem dX5_type_47 : decode cX5_type 47 = .ok (.iadd, 1) := by decide +kernel
theorem dX5_type_48 : decode cX5_type 48 = .ok (.putfield 55, 3) := by decide +kernel
theorem dX5_type_51 : decode cX5_type 51 = .ok (.aload_n 0, 1) := by decide +kernel
theorem dX5_type_52 : decode cX5_type 52 = .ok (.getfield 55, 3) := by decide +kernel
theorem dX5_type_55 : decode cX5_type 55 = .ok (.ireturn, 1) := by decide +kernel
theorem dX5_clear_0 : decode cX5_clear 0 = .ok (.aload_n 0, 1) := by decide +kernel
theorem dX5_clear_1 : decode cX5_clear 1 = .ok (.iconst 0, 1) := by decide +kernel
theorem dX5_clear_2 : decode cX5_clear 2 = .ok (.putfield 47, 3) := by decide +kernel
theorem dX5_clear_5 : decode cX5_clear 5 = .ok (.aload_n 0, 1) := by decide +kernel
theorem dX5_clear_6 : decode cX5_clear 6 = .ok (.getfield 55, 3) := by decide +kernel
theorem dX5_clear_9 : decode cX5_clear 9 = .ok (.istore_n 1, 1) := by decide +kernel
theorem dX5_clear_10 : decode cX5_clear 10 = .ok (.aload_n 0, 1) := by decide +kernel
theorem dX5_clear_11 : decode cX5_clear 11 = .ok (.iconst 0, 1) := by decide +kernel
theorem dX5_clear_12 : decode cX5_clear 12 = .ok (.putfield 55, 3) := by decide +kernel
theorem dX5_clear_15 : decode cX5_clear 15 = .ok (.iload_n 1, 1) := by decide +kernel
theorem dX5_clear_16 : decode cX5_clear 16 = .ok (.ireturn, 1) := by decide +kernel
theorem dX5_letterAt_0 : decode cX5_letterAt 0 = .ok (.iload_n 1, 1) := by decide +kernel
theorem dX5_letterAt_1 : decode cX5_letterAt 1 = .ok (.aload_n 0, 1) := by decide +kernel
theorem dX5_letterAt_2 : decode cX5_letterAt 2 = .ok (.getfield 55, 3) := by decide +kernel
theorem dX5_letterAt_5 : decode cX5_letterAt 5 = .ok (.if_icmp .ge 12, 3) := by decide +kernel
theorem dX5_letterAt_8 : decode cX5_letterAt 8 = .ok (.aload_n 0, 1) := by decide +kernel
theorem dX5_letterAt_9 : decode cX5_letterAt 9 = .ok (.getfield 7, 3) := by decide +kernel
theorem dX5_letterAt_12 : decode cX5_letterAt 12 = .ok (.iload_n 1, 1) := by decide +kernel
theorem dX5_letterAt_13 : decode cX5_letterAt 13 = .ok (.iaload, 1) := by decide +kernel
theorem dX5_letterAt_14 : decode cX5_letterAt 14 = .ok (.goto 4, 3) := by decide +kernel
theorem dX5_letterAt_17 : decode cX5_letterAt 17 = .ok (.iconst (-1), 1) := by decide +kernel
theorem dX5_letterAt_18 : decode cX5_letterAt 18 = .ok (.ireturn, 1) := by decide +kernel
set_option maxRecDepth 20000 in
theorem ggX5_advances_X5_letterAt : GoodIn wsX5_advances wsX5_letterAt := goodIn_r _ [9, 10, 11, 15, 16, 17, 18, 19, 20, 21, 22, 23, 24, 25, 26, 27, 28, 29, 30, 31, 32, 33, 34, 35, 36] (by decide +kernel) (by decide +kernel)
set_option maxRecDepth 20000 in
theorem gX5_advances_X5_letterAt : GoodIn wsX5_advances (wsV RX5 61 RX5 yX5_letterAt wsX5_letterAt) := goodIn_app (goodIn_of _ (by decide +kernel)) ggX5_advances_X5_letterAt
set_option maxRecDepth 20000 in
theorem ggX5_advances_X5_in : GoodIn wsX5_advances wsX5_in := goodIn_r _ [14] (by decide +kernel) (by decide +kernel)
set_option maxRecDepth 20000 in
theorem gX5_advances_X5_in : GoodIn wsX5_advances (va_wsS RX5 51 yX5_in wsX5_in) := goodIn_app (goodIn_of _ (by decide +kernel)) ggX5_advances_X5_in
theorem dX5_advances_0 : decode cX5_advances 0 = .ok (.aload_n 0, 1) := by decide +kernel
theorem dX5_advances_1 : decode cX5_advances 1 = .ok (.aload_n 0, 1) := by decide +kernel
theorem dX5_advances_2 : decode cX5_advances 2 = .ok (.getfield 58, 3) := by decide +kernel
theorem dX5_advances_5 : decode cX5_advances 5 = .ok (.invokevirtual 61, 3) := by decide +kernel
theorem dX5_advances_8 : decode cX5_advances 8 = .ok (.bipush 32, 2) := by decide +kernel
theorem dX5_advances_10 : decode cX5_advances 10 = .ok (.if_icmp .ne 16, 3) := by decide +kernel
theorem dX5_advances_13 : decode cX5_advances 13 = .ok (.aload_n 0, 1) := by decide +kernel
theorem dX5_advances_14 : decode cX5_advances 14 = .ok (.dup, 1) := by decide +kernel
theorem dX5_advances_15 : decode cX5_advances 15 = .ok (.getfield 58, 3) := by decide +kernel
theorem dX5_advances_18 : decode cX5_advances 18 = .ok (.iconst 1, 1) := by decide +kernel
theorem dX5_advances_19 : decode cX5_advances 19 = .ok (.iadd, 1) := by decide +kernel
theorem dX5_advances_20 : decode cX5_advances 20 = .ok (.putfield 58, 3) := by decide +kernel
theorem dX5_advances_23 : decode cX5_advances 23 = .ok (.goto (-23), 3) := by decide +kernel
theorem dX5_advances_26 : decode cX5_advances 26 = .ok (.aload_n 0, 1) := by decide +kernel
theorem dX5_advances_27 : decode cX5_advances 27 = .ok (.aload_n 0, 1) := by decide +kernel
theorem dX5_advances_28 : decode cX5_advances 28 = .ok (.getfield 58, 3) := by decide +kernel
theorem dX5_advances_31 : decode cX5_advances 31 = .ok (.putfield 65, 3) := by decide +kernel
theorem dX5_advances_34 : decode cX5_advances 34 = .ok (.aload_n 0, 1) := by decide +kernel
theorem dX5_advances_35 : decode cX5_advances 35 = .ok (.aload_n 0, 1) := by decide +kernel
theorem dX5_advances_36 : decode cX5_advances 36 = .ok (.getfield 58, 3) := by decide +kernel
theorem dX5_advances_39 : decode cX5_advances 39 = .ok (.invokevirtual 61, 3) := by decide +kernel
theorem dX5_advances_42 : decode cX5_advances 42 = .ok (.istore_n 1, 1) := by decide +kernel
theorem dX5_advances_43 : decode cX5_advances 43 = .ok (.iload_n 1, 1) := by decide +kernel
theorem dX5_advances_44 : decode cX5_advances 44 = .ok (.ifCond .ge 11, 3) := by decide +kernel
theorem dX5_advances_47 : decode cX5_advances 47 = .ok (.aload_n 0, 1) := by decide +kernel
theorem dX5_advances_48 : decode cX5_advances 48 = .ok (.iconst 0, 1) := by decide +kernel
theorem dX5_advances_49 : decode cX5_advances 49 = .ok (.putfield 68, 3) := by decide +kernel
theorem dX5_advances_52 : decode cX5_advances 52 = .ok (.goto 193, 3) := by decide +kernel
theorem dX5_advances_55 : decode cX5_advances 55 = .ok (.iload_n 1, 1) := by decide +kernel
theorem dX5_advances_56 : decode cX5_advances 56 = .ok (.bipush 48, 2) := by decide +kernel
theorem dX5_advances_58 : decode cX5_advances 58 = .ok (.bipush 57, 2) := by decide +kernel
theorem dX5_advances_60 : decode cX5_advances 60 = .ok (.invokestatic 51, 3) := by decide +kernel
theorem dX5_advances_63 : decode cX5_advances 63 = .ok (.ifCond .eq 118, 3) := by decide +kernel
theorem dX5_advances_66 : decode cX5_advances 66 = .ok (.aload_n 0, 1) := by decide +kernel
theorem dX5_advances_67 : decode cX5_advances 67 = .ok (.iconst 0, 1) := by decide +kernel
theorem dX5_advances_68 : decode cX5_advances 68 = .ok (.putfield 71, 3) := by decide +kernel
theorem dX5_advances_71 : decode cX5_advances 71 = .ok (.aload_n 0, 1) := by decide +kernel
theorem dX5_advances_72 : decode cX5_advances 72 = .ok (.aload_n 0, 1) := by decide +kernel
theorem dX5_advances_73 : decode cX5_advances 73 = .ok (.getfield 58, 3) := by decide +kernel
theorem dX5_advances_76 : decode cX5_advances 76 = .ok (.invokevirtual 61, 3) := by decide +kernel
theorem dX5_advances_79 : decode cX5_advances 79 = .ok (.bipush 48, 2) := by decide +kernel
theorem dX5_advances_81 : decode cX5_advances 81 = .ok (.bipush 57, 2) := by decide +kernel
theorem dX5_advances_83 : decode cX5_advances 83 = .ok (.invokestatic 51, 3) := by decide +kernel
theorem dX5_advances_86 : decode cX5_advances 86 = .ok (.ifCond .eq 55, 3) := by decide +kernel
theorem dX5_advances_89 : decode cX5_advances 89 = .ok (.aload_n 0, 1) := by decide +kernel
theorem dX5_advances_90 : decode cX5_advances 90 = .ok (.aload_n 0, 1) := by decide +kernel
theorem dX5_advances_91 : decode cX5_advances 91 = .ok (.getfield 71, 3) := by decide +kernel
theorem dX5_advances_94 : decode cX5_advances 94 = .ok (.bipush 29, 2) := by decide +kernel
theorem dX5_advances_96 : decode cX5_advances 96 = .ok (.if_icmp .le 10, 3) := by decide +kernel
theorem dX5_advances_99 : decode cX5_advances 99 = .ok (.aload_n 0, 1) := by decide +kernel
theorem dX5_advances_100 : decode cX5_advances 100 = .ok (.getfield 71, 3) := by decide +kernel
theorem dX5_advances_103 : decode cX5_advances 103 = .ok (.goto 22, 3) := by decide +kernel
theorem dX5_advances_106 : decode cX5_advances 106 = .ok (.bipush 10, 2) := by decide +kernel
theorem dX5_advances_108 : decode cX5_advances 108 = .ok (.aload_n 0, 1) := by decide +kernel
theorem dX5_advances_109 : decode cX5_advances 109 = .ok (.getfield 71, 3) := by decide +kernel
theorem dX5_advances_112 : decode cX5_advances 112 = .ok (.imul, 1) := by decide +kernel
theorem dX5_advances_113 : decode cX5_advances 113 = .ok (.aload_n 0, 1) := by decide +kernel
theorem dX5_advances_114 : decode cX5_advances 114 = .ok (.aload_n 0, 1) := by decide +kernel
theorem dX5_advances_115 : decode cX5_advances 115 = .ok (.getfield 58, 3) := by decide +kernel
theorem dX5_advances_118 : decode cX5_advances 118 = .ok (.invokevirtual 61, 3) := by decide +kernel
theorem dX5_advances_121 : decode cX5_advances 121 = .ok (.iadd, 1) := by decide +kernel
theorem dX5_advances_122 : decode cX5_advances 122 = .ok (.bipush 48, 2) := by decide +kernel
theorem dX5_advances_124 : decode cX5_advances 124 = .ok (.isub, 1) := by decide +kernel
theorem dX5_advances_125 : decode cX5_advances 125 = .ok (.putfield 71, 3) := by decide +kernel
theorem dX5_advances_128 : decode cX5_advances 128 = .ok (.aload_n 0, 1) := by decide +kernel
theorem dX5_advances_129 : decode cX5_advances 129 = .ok (.dup, 1) := by decide +kernel
theorem dX5_advances_130 : decode cX5_advances 130 = .ok (.getfield 58, 3) := by decide +kernel
theorem dX5_advances_133 : decode cX5_advances 133 = .ok (.iconst 1, 1) := by decide +kernel
theorem dX5_advances_134 : decode cX5_advances 134 = .ok (.iadd, 1) := by decide +kernel
theorem dX5_advances_135 : decode cX5_advances 135 = .ok (.putfield 58, 3) := by decide +kernel
theorem dX5_advances_138 : decode cX5_advances 138 = .ok (.goto (-67), 3) := by decide +kernel
theorem dX5_advances_141 : decode cX5_advances 141 = .ok (.aload_n 0, 1) := by decide +kernel
theorem dX5_advances_142 : decode cX5_advances 142 = .ok (.aload_n 0, 1) := by decide +kernel
theorem dX5_advances_143 : decode cX5_advances 143 = .ok (.getfield 71, 3) := by decide +kernel
theorem dX5_advances_146 : decode cX5_advances 146 = .ok (.bipush 29, 2) := by decide +kernel
theorem dX5_advances_148 : decode cX5_advances 148 = .ok (.if_icmp .gt 22, 3) := by decide +kernel
theorem dX5_advances_151 : decode cX5_advances 151 = .ok (.iload_n 1, 1) := by decide +kernel
theorem dX5_advances_152 : decode cX5_advances 152 = .ok (.bipush 48, 2) := by decide +kernel
theorem dX5_advances_154 : decode cX5_advances 154 = .ok (.if_icmp .ne 20, 3) := by decide +kernel
theorem dX5_advances_157 : decode cX5_advances 157 = .ok (.aload_n 0, 1) := by decide +kernel
theorem dX5_advances_158 : decode cX5_advances 158 = .ok (.getfield 58, 3) := by decide +kernel
theorem dX5_advances_161 : decode cX5_advances 161 = .ok (.aload_n 0, 1) := by decide +kernel
theorem dX5_advances_162 : decode cX5_advances 162 = .ok (.getfield 65, 3) := by decide +kernel
theorem dX5_advances_165 : decode cX5_advances 165 = .ok (.isub, 1) := by decide +kernel
theorem dX5_advances_166 : decode cX5_advances 166 = .ok (.iconst 1, 1) := by decide +kernel
theorem dX5_advances_167 : decode cX5_advances 167 = .ok (.if_icmp .le 7, 3) := by decide +kernel
theorem dX5_advances_170 : decode cX5_advances 170 = .ok (.iconst 4, 1) := by decide +kernel
theorem dX5_advances_171 : decode cX5_advances 171 = .ok (.goto 4, 3) := by decide +kernel
theorem dX5_advances_174 : decode cX5_advances 174 = .ok (.iconst 2, 1) := by decide +kernel
theorem dX5_advances_175 : decode cX5_advances 175 = .ok (.putfield 68, 3) := by decide +kernel
theorem dX5_advances_178 : decode cX5_advances 178 = .ok (.goto 67, 3) := by decide +kernel
theorem dX5_advances_181 : decode cX5_advances 181 = .ok (.aload_n 0, 1) := by decide +kernel
theorem dX5_advances_182 : decode cX5_advances 182 = .ok (.dup, 1) := by decide +kernel
theorem dX5_advances_183 : decode cX5_advances 183 = .ok (.getfield 58, 3) := by decide +kernel
theorem dX5_advances_186 : decode cX5_advances 186 = .ok (.iconst 1, 1) := by decide +kernel
theorem dX5_advances_187 : decode cX5_advances 187 = .ok (.iadd, 1) := by decide +kernel
theorem dX5_advances_188 : decode cX5_advances 188 = .ok (.putfield 58, 3) := by decide +kernel
theorem dX5_advances_191 : decode cX5_advances 191 = .ok (.aload_n 0, 1) := by decide +kernel
theorem dX5_advances_192 : decode cX5_advances 192 = .ok (.iload_n 1, 1) := by decide +kernel
theorem dX5_advances_193 : decode cX5_advances 193 = .ok (.putfield 71, 3) := by decide +kernel
theorem dX5_advances_196 : decode cX5_advances 196 = .ok (.aload_n 0, 1) := by decide +kernel
theorem dX5_advances_197 : decode cX5_advances 197 = .ok (.iload_n 1, 1) := by decide +kernel
theorem dX5_advances_198 : decode cX5_advances 198 = .ok (.bipush 59, 2) := by decide +kernel
theorem dX5_advances_200 : decode cX5_advances 200 = .ok (.if_icmp .ne 7, 3) := by decide +kernel
theorem dX5_advances_203 : decode cX5_advances 203 = .ok (.iconst 3, 1) := by decide +kernel
theorem dX5_advances_204 : decode cX5_advances 204 = .ok (.goto 38, 3) := by decide +kernel
theorem dX5_advances_207 : decode cX5_advances 207 = .ok (.iload_n 1, 1) := by decide +kernel
theorem dX5_advances_208 : decode cX5_advances 208 = .ok (.bipush 103, 2) := by decide +kernel
theorem dX5_advances_210 : decode cX5_advances 210 = .ok (.if_icmp .eq 27, 3) := by decide +kernel
theorem dX5_advances_213 : decode cX5_advances 213 = .ok (.iload_n 1, 1) := by decide +kernel
theorem dX5_advances_214 : decode cX5_advances 214 = .ok (.bipush 105, 2) := by decide +kernel
theorem dX5_advances_216 : decode cX5_advances 216 = .ok (.if_icmp .eq 21, 3) := by decide +kernel
theorem dX5_advances_219 : decode cX5_advances 219 = .ok (.iload_n 1, 1) := by decide +kernel
theorem dX5_advances_220 : decode cX5_advances 220 = .ok (.bipush 120, 2) := by decide +kernel
theorem dX5_advances_222 : decode cX5_advances 222 = .ok (.if_icmp .eq 15, 3) := by decide +kernel
theorem dX5_advances_225 : decode cX5_advances 225 = .ok (.iload_n 1, 1) := by decide +kernel
theorem dX5_advances_226 : decode cX5_advances 226 = .ok (.bipush 98, 2) := by decide +kernel
theorem dX5_advances_228 : decode cX5_advances 228 = .ok (.if_icmp .eq 9, 3) := by decide +kernel
theorem dX5_advances_231 : decode cX5_advances 231 = .ok (.iload_n 1, 1) := by decide +kernel
theorem dX5_advances_232 : decode cX5_advances 232 = .ok (.bipush 102, 2) := by decide +kernel
theorem dX5_advances_234 : decode cX5_advances 234 = .ok (.if_icmp .ne 7, 3) := by decide +kernel
theorem dX5_advances_237 : decode cX5_advances 237 = .ok (.iconst 1, 1) := by decide +kernel
theorem dX5_advances_238 : decode cX5_advances 238 = .ok (.goto 4, 3) := by decide +kernel
theorem dX5_advances_241 : decode cX5_advances 241 = .ok (.iconst 4, 1) := by decide +kernel
theorem dX5_advances_242 : decode cX5_advances 242 = .ok (.putfield 68, 3) := by decide +kernel
theorem dX5_advances_245 : decode cX5_advances 245 = .ok (.return_, 1) := by decide +kernel
theorem dX5_isWell_0 : decode cX5_isWell 0 = .ok (.aload_n 0, 1) := by decide +kernel
theorem dX5_isWell_1 : decode cX5_isWell 1 = .ok (.getfield 74, 3) := by decide +kernel
theorem dX5_isWell_4 : decode cX5_isWell 4 = .ok (.ifCond .ge 7, 3) := by decide +kernel
theorem dX5_isWell_7 : decode cX5_isWell 7 = .ok (.iconst 1, 1) := by decide +kernel
theorem dX5_isWell_8 : decode cX5_isWell 8 = .ok (.goto 4, 3) := by decide +kernel
theorem dX5_isWell_11 : decode cX5_isWell 11 = .ok (.iconst 0, 1) := by decide +kernel
theorem dX5_isWell_12 : decode cX5_isWell 12 = .ok (.ireturn, 1) := by decide +kernel
set_option maxRecDepth 20000 in
theorem ggX5_takes_X5_isWell : GoodIn wsX5_takes wsX5_isWell := goodIn_r _ [8, 2, 24, 25, 26, 27, 28, 29, 30, 31, 32, 33, 34, 35, 36, 37, 38, 39, 40, 41, 42, 43, 44, 45] (by decide +kernel) (by decide +kernel)
set_option maxRecDepth 20000 in
theorem gX5_takes_X5_isWell : GoodIn wsX5_takes (wsV RX5 77 RX5 yX5_isWell wsX5_isWell) := goodIn_app (goodIn_of _ (by decide +kernel)) ggX5_takes_X5_isWell
set_option maxRecDepth 20000 in
theorem ggX5_takes_X5_advances : GoodIn wsX5_takes wsX5_advances := goodIn_r _ [12, 13, 1, 14, 3, 15, 16, 17, 7, 18, 19, 20, 21, 22, 23, 24, 25, 26, 27, 28, 29, 30, 31, 32, 33, 34, 35, 36, 37, 38, 39, 40, 41, 42, 43, 44, 45] (by decide +kernel) (by decide +kernel)
set_option maxRecDepth 20000 in
theorem gX5_takes_X5_advances : GoodIn wsX5_takes (wsV RX5 81 RX5 yX5_advances wsX5_advances) := goodIn_app (goodIn_of _ (by decide +kernel)) ggX5_takes_X5_advances
theorem dX5_takes_0 : decode cX5_takes 0 = .ok (.aload_n 0, 1) := by decide +kernel
theorem dX5_takes_1 : decode cX5_takes 1 = .ok (.invokevirtual 77, 3) := by decide +kernel
theorem dX5_takes_4 : decode cX5_takes 4 = .ok (.ifCond .ne 5, 3) := by decide +kernel
theorem dX5_takes_7 : decode cX5_takes 7 = .ok (.iconst 0, 1) := by decide +kernel
theorem dX5_takes_8 : decode cX5_takes 8 = .ok (.ireturn, 1) := by decide +kernel
theorem dX5_takes_9 : decode cX5_takes 9 = .ok (.iload_n 1, 1) := by decide +kernel
theorem dX5_takes_10 : decode cX5_takes 10 = .ok (.ifCond .ne 13, 3) := by decide +kernel
theorem dX5_takes_13 : decode cX5_takes 13 = .ok (.aload_n 0, 1) := by decide +kernel
theorem dX5_takes_14 : decode cX5_takes 14 = .ok (.aload_n 0, 1) := by decide +kernel
theorem dX5_takes_15 : decode cX5_takes 15 = .ok (.getfield 65, 3) := by decide +kernel
theorem dX5_takes_18 : decode cX5_takes 18 = .ok (.putfield 74, 3) := by decide +kernel
theorem dX5_takes_21 : decode cX5_takes 21 = .ok (.iconst 0, 1) := by decide +kernel
theorem dX5_takes_22 : decode cX5_takes 22 = .ok (.ireturn, 1) := by decide +kernel
theorem dX5_takes_23 : decode cX5_takes 23 = .ok (.aload_n 0, 1) := by decide +kernel
theorem dX5_takes_24 : decode cX5_takes 24 = .ok (.getfield 71, 3) := by decide +kernel
theorem dX5_takes_27 : decode cX5_takes 27 = .ok (.istore_n 2, 1) := by decide +kernel
theorem dX5_takes_28 : decode cX5_takes 28 = .ok (.aload_n 0, 1) := by decide +kernel
theorem dX5_takes_29 : decode cX5_takes 29 = .ok (.invokevirtual 81, 3) := by decide +kernel
theorem dX5_takes_32 : decode cX5_takes 32 = .ok (.iload_n 2, 1) := by decide +kernel
theorem dX5_takes_33 : decode cX5_takes 33 = .ok (.ireturn, 1) := by decide +kernel
set_option maxRecDepth 20000 in
theorem ggX5_number_X5_in : GoodIn wsX5_number wsX5_in := goodIn_r _ [6] (by decide +kernel) (by decide +kernel)
set_option maxRecDepth 20000 in
theorem gX5_number_X5_in : GoodIn wsX5_number (va_wsS RX5 51 yX5_in wsX5_in) := goodIn_app (goodIn_of _ (by decide +kernel)) ggX5_number_X5_in
set_option maxRecDepth 20000 in
theorem ggX5_number_X5_takes : GoodIn wsX5_number wsX5_takes := goodIn_r _ [10, 11, 12, 2, 13, 14, 15, 5, 16, 17, 18, 19, 20, 21, 1, 22, 23, 24, 25, 26, 27, 3, 4, 6, 28, 29, 30, 31, 32, 33, 34, 35, 36, 37, 38, 39, 40, 41, 42, 43, 44, 45, 46, 47, 48, 49] (by decide +kernel) (by decide +kernel)
set_option maxRecDepth 20000 in
theorem gX5_number_X5_takes : GoodIn wsX5_number (wsV RX5 84 RX5 yX5_takes wsX5_takes) := goodIn_app (goodIn_of _ (by decide +kernel)) ggX5_number_X5_takes
theorem dX5_number_0 : decode cX5_number 0 = .ok (.aload_n 0, 1) := by decide +kernel
theorem dX5_number_1 : decode cX5_number 1 = .ok (.aload_n 0, 1) := by decide +kernel
theorem dX5_number_2 : decode cX5_number 2 = .ok (.getfield 68, 3) := by decide +kernel
theorem dX5_number_5 : decode cX5_number 5 = .ok (.iconst 2, 1) := by decide +kernel
theorem dX5_number_6 : decode cX5_number 6 = .ok (.if_icmp .ne 19, 3) := by decide +kernel
theorem dX5_number_9 : decode cX5_number 9 = .ok (.aload_n 0, 1) := by decide +kernel
theorem dX5_number_10 : decode cX5_number 10 = .ok (.getfield 71, 3) := by decide +kernel
theorem dX5_number_13 : decode cX5_number 13 = .ok (.iload_n 1, 1) := by decide +kernel
theorem dX5_number_14 : decode cX5_number 14 = .ok (.iload_n 2, 1) := by decide +kernel
theorem dX5_number_15 : decode cX5_number 15 = .ok (.invokestatic 51, 3) := by decide +kernel
theorem dX5_number_18 : decode cX5_number 18 = .ok (.ifCond .eq 7, 3) := by decide +kernel
theorem dX5_number_21 : decode cX5_number 21 = .ok (.iconst 1, 1) := by decide +kernel
theorem dX5_number_22 : decode cX5_number 22 = .ok (.goto 4, 3) := by decide +kernel
theorem dX5_number_25 : decode cX5_number 25 = .ok (.iconst 0, 1) := by decide +kernel
theorem dX5_number_26 : decode cX5_number 26 = .ok (.invokevirtual 84, 3) := by decide +kernel
theorem dX5_number_29 : decode cX5_number 29 = .ok (.ireturn, 1) := by decide +kernel
set_option maxRecDepth 20000 in
theorem ggX5_isFree_X5_in : GoodIn wsX5_isFree wsX5_in := goodIn_r _ [7] (by decide +kernel) (by decide +kernel)
set_option maxRecDepth 20000 in
theorem gX5_isFree_X5_in : GoodIn wsX5_isFree (va_wsS RX5 51 yX5_in wsX5_in) := goodIn_app (goodIn_of _ (by decide +kernel)) ggX5_isFree_X5_in
theorem dX5_isFree_0 : decode cX5_isFree 0 = .ok (.iload_n 1, 1) := by decide +kernel
theorem dX5_isFree_1 : decode cX5_isFree 1 = .ok (.iconst 0, 1) := by decide +kernel
theorem dX5_isFree_2 : decode cX5_isFree 2 = .ok (.aload_n 0, 1) := by decide +kernel
theorem dX5_isFree_3 : decode cX5_isFree 3 = .ok (.getfield 13, 3) := by decide +kernel
theorem dX5_isFree_6 : decode cX5_isFree 6 = .ok (.bipush 6, 2) := by decide +kernel
theorem dX5_isFree_8 : decode cX5_isFree 8 = .ok (.iaload, 1) := by decide +kernel
theorem dX5_isFree_9 : decode cX5_isFree 9 = .ok (.aload_n 0, 1) := by decide +kernel
theorem dX5_isFree_10 : decode cX5_isFree 10 = .ok (.getfield 13, 3) := by decide +kernel
theorem dX5_isFree_13 : decode cX5_isFree 13 = .ok (.bipush 7, 2) := by decide +kernel
theorem dX5_isFree_15 : decode cX5_isFree 15 = .ok (.iaload, 1) := by decide +kernel
theorem dX5_isFree_16 : decode cX5_isFree 16 = .ok (.imul, 1) := by decide +kernel
theorem dX5_isFree_17 : decode cX5_isFree 17 = .ok (.iconst 1, 1) := by decide +kernel
theorem dX5_isFree_18 : decode cX5_isFree 18 = .ok (.isub, 1) := by decide +kernel
theorem dX5_isFree_19 : decode cX5_isFree 19 = .ok (.invokestatic 51, 3) := by decide +kernel
theorem dX5_isFree_22 : decode cX5_isFree 22 = .ok (.istore_n 2, 1) := by decide +kernel
theorem dX5_isFree_23 : decode cX5_isFree 23 = .ok (.iconst 0, 1) := by decide +kernel
theorem dX5_isFree_24 : decode cX5_isFree 24 = .ok (.istore_n 3, 1) := by decide +kernel
theorem dX5_isFree_25 : decode cX5_isFree 25 = .ok (.iload_n 3, 1) := by decide +kernel
theorem dX5_isFree_26 : decode cX5_isFree 26 = .ok (.aload_n 0, 1) := by decide +kernel
theorem dX5_isFree_27 : decode cX5_isFree 27 = .ok (.getfield 13, 3) := by decide +kernel
theorem dX5_isFree_30 : decode cX5_isFree 30 = .ok (.bipush 8, 2) := by decide +kernel
theorem dX5_isFree_32 : decode cX5_isFree 32 = .ok (.iaload, 1) := by decide +kernel
theorem dX5_isFree_33 : decode cX5_isFree 33 = .ok (.if_icmp .ge 32, 3) := by decide +kernel
theorem dX5_isFree_36 : decode cX5_isFree 36 = .ok (.iload_n 2, 1) := by decide +kernel
theorem dX5_isFree_37 : decode cX5_isFree 37 = .ok (.ifCond .eq 20, 3) := by decide +kernel
theorem dX5_isFree_40 : decode cX5_isFree 40 = .ok (.aload_n 0, 1) := by decide +kernel
theorem dX5_isFree_41 : decode cX5_isFree 41 = .ok (.getfield 16, 3) := by decide +kernel
theorem dX5_isFree_44 : decode cX5_isFree 44 = .ok (.bipush 6, 2) := by decide +kernel
theorem dX5_isFree_46 : decode cX5_isFree 46 = .ok (.iload_n 3, 1) := by decide +kernel
theorem dX5_isFree_47 : decode cX5_isFree 47 = .ok (.iadd, 1) := by decide +kernel
theorem dX5_isFree_48 : decode cX5_isFree 48 = .ok (.iaload, 1) := by decide +kernel
theorem dX5_isFree_49 : decode cX5_isFree 49 = .ok (.iload_n 1, 1) := by decide +kernel
theorem dX5_isFree_50 : decode cX5_isFree 50 = .ok (.if_icmp .eq 7, 3) := by decide +kernel
theorem dX5_isFree_53 : decode cX5_isFree 53 = .ok (.iconst 1, 1) := by decide +kernel
theorem dX5_isFree_54 : decode cX5_isFree 54 = .ok (.goto 4, 3) := by decide +kernel
theorem dX5_isFree_57 : decode cX5_isFree 57 = .ok (.iconst 0, 1) := by decide +kernel
theorem dX5_isFree_58 : decode cX5_isFree 58 = .ok (.istore_n 2, 1) := by decide +kernel
theorem dX5_isFree_59 : decode cX5_isFree 59 = .ok (.iinc 3 1, 3) := by decide +kernel
theorem dX5_isFree_62 : decode cX5_isFree 62 = .ok (.goto (-37), 3) := by decide +kernel
theorem dX5_isFree_65 : decode cX5_isFree 65 = .ok (.iconst 0, 1) := by decide +kernel
theorem dX5_isFree_66 : decode cX5_isFree 66 = .ok (.istore_n 3, 1) := by decide +kernel
theorem dX5_isFree_67 : decode cX5_isFree 67 = .ok (.iload_n 3, 1) := by decide +kernel
theorem dX5_isFree_68 : decode cX5_isFree 68 = .ok (.aload_n 0, 1) := by decide +kernel
theorem dX5_isFree_69 : decode cX5_isFree 69 = .ok (.getfield 13, 3) := by decide +kernel
theorem dX5_isFree_72 : decode cX5_isFree 72 = .ok (.bipush 9, 2) := by decide +kernel
theorem dX5_isFree_74 : decode cX5_isFree 74 = .ok (.iaload, 1) := by decide +kernel
theorem dX5_isFree_75 : decode cX5_isFree 75 = .ok (.if_icmp .ge 32, 3) := by decide +kernel
theorem dX5_isFree_78 : decode cX5_isFree 78 = .ok (.iload_n 2, 1) := by decide +kernel
theorem dX5_isFree_79 : decode cX5_isFree 79 = .ok (.ifCond .eq 20, 3) := by decide +kernel
theorem dX5_isFree_82 : decode cX5_isFree 82 = .ok (.aload_n 0, 1) := by decide +kernel
theorem dX5_isFree_83 : decode cX5_isFree 83 = .ok (.getfield 19, 3) := by decide +kernel
theorem dX5_isFree_86 : decode cX5_isFree 86 = .ok (.bipush 6, 2) := by decide +kernel
theorem dX5_isFree_88 : decode cX5_isFree 88 = .ok (.iload_n 3, 1) := by decide +kernel
theorem dX5_isFree_89 : decode cX5_isFree 89 = .ok (.iadd, 1) := by decide +kernel
theorem dX5_isFree_90 : decode cX5_isFree 90 = .ok (.iaload, 1) := by decide +kernel
theorem dX5_isFree_91 : decode cX5_isFree 91 = .ok (.iload_n 1, 1) := by decide +kernel
theorem dX5_isFree_92 : decode cX5_isFree 92 = .ok (.if_icmp .eq 7, 3) := by decide +kernel
theorem dX5_isFree_95 : decode cX5_isFree 95 = .ok (.iconst 1, 1) := by decide +kernel
theorem dX5_isFree_96 : decode cX5_isFree 96 = .ok (.goto 4, 3) := by decide +kernel
theorem dX5_isFree_99 : decode cX5_isFree 99 = .ok (.iconst 0, 1) := by decide +kernel
theorem dX5_isFree_100 : decode cX5_isFree 100 = .ok (.istore_n 2, 1) := by decide +kernel
theorem dX5_isFree_101 : decode cX5_isFree 101 = .ok (.iinc 3 1, 3) := by decide +kernel
theorem dX5_isFree_104 : decode cX5_isFree 104 = .ok (.goto (-37), 3) := by decide +kernel
theorem dX5_isFree_107 : decode cX5_isFree 107 = .ok (.iload_n 2, 1) := by decide +kernel
theorem dX5_isFree_108 : decode cX5_isFree 108 = .ok (.ireturn, 1) := by decide +kernel
theorem dX5_mayBegin_0 : decode cX5_mayBegin 0 = .ok (.aload_n 0, 1) := by decide +kernel
theorem dX5_mayBegin_1 : decode cX5_mayBegin 1 = .ok (.getfield 71, 3) := by decide +kernel
theorem dX5_mayBegin_4 : decode cX5_mayBegin 4 = .ok (.bipush 103, 2) := by decide +kernel
theorem dX5_mayBegin_6 : decode cX5_mayBegin 6 = .ok (.if_icmp .ne 15, 3) := by decide +kernel
theorem dX5_mayBegin_9 : decode cX5_mayBegin 9 = .ok (.iload_n 1, 1) := by decide +kernel
theorem dX5_mayBegin_10 : decode cX5_mayBegin 10 = .ok (.ifCond .ne 7, 3) := by decide +kernel
theorem dX5_mayBegin_13 : decode cX5_mayBegin 13 = .ok (.iconst 1, 1) := by decide +kernel
theorem dX5_mayBegin_14 : decode cX5_mayBegin 14 = .ok (.goto 86, 3) := by decide +kernel
theorem dX5_mayBegin_17 : decode cX5_mayBegin 17 = .ok (.iconst 0, 1) := by decide +kernel
theorem dX5_mayBegin_18 : decode cX5_mayBegin 18 = .ok (.goto 82, 3) := by decide +kernel
theorem dX5_mayBegin_21 : decode cX5_mayBegin 21 = .ok (.aload_n 0, 1) := by decide +kernel
theorem dX5_mayBegin_22 : decode cX5_mayBegin 22 = .ok (.getfield 71, 3) := by decide +kernel
theorem dX5_mayBegin_25 : decode cX5_mayBegin 25 = .ok (.bipush 105, 2) := by decide +kernel
theorem dX5_mayBegin_27 : decode cX5_mayBegin 27 = .ok (.if_icmp .ne 23, 3) := by decide +kernel
theorem dX5_mayBegin_30 : decode cX5_mayBegin 30 = .ok (.aload_n 0, 1) := by decide +kernel
theorem dX5_mayBegin_31 : decode cX5_mayBegin 31 = .ok (.getfield 13, 3) := by decide +kernel
theorem dX5_mayBegin_34 : decode cX5_mayBegin 34 = .ok (.bipush 8, 2) := by decide +kernel
theorem dX5_mayBegin_36 : decode cX5_mayBegin 36 = .ok (.iaload, 1) := by decide +kernel
theorem dX5_mayBegin_37 : decode cX5_mayBegin 37 = .ok (.bipush 6, 2) := by decide +kernel
theorem dX5_mayBegin_39 : decode cX5_mayBegin 39 = .ok (.if_icmp .ge 7, 3) := by decide +kernel
theorem dX5_mayBegin_42 : decode cX5_mayBegin 42 = .ok (.iconst 1, 1) := by decide +kernel
theorem dX5_mayBegin_43 : decode cX5_mayBegin 43 = .ok (.goto 57, 3) := by decide +kernel
theorem dX5_mayBegin_46 : decode cX5_mayBegin 46 = .ok (.iconst 0, 1) := by decide +kernel
theorem dX5_mayBegin_47 : decode cX5_mayBegin 47 = .ok (.goto 53, 3) := by decide +kernel
theorem dX5_mayBegin_50 : decode cX5_mayBegin 50 = .ok (.aload_n 0, 1) := by decide +kernel
theorem dX5_mayBegin_51 : decode cX5_mayBegin 51 = .ok (.getfield 71, 3) := by decide +kernel
theorem dX5_mayBegin_54 : decode cX5_mayBegin 54 = .ok (.bipush 120, 2) := by decide +kernel
theorem dX5_mayBegin_56 : decode cX5_mayBegin 56 = .ok (.if_icmp .ne 23, 3) := by decide +kernel
theorem dX5_mayBegin_59 : decode cX5_mayBegin 59 = .ok (.aload_n 0, 1) := by decide +kernel
theorem dX5_mayBegin_60 : decode cX5_mayBegin 60 = .ok (.getfield 13, 3) := by decide +kernel
theorem dX5_mayBegin_63 : decode cX5_mayBegin 63 = .ok (.bipush 9, 2) := by decide +kernel
theorem dX5_mayBegin_65 : decode cX5_mayBegin 65 = .ok (.iaload, 1) := by decide +kernel
theorem dX5_mayBegin_66 : decode cX5_mayBegin 66 = .ok (.bipush 6, 2) := by decide +kernel
theorem dX5_mayBegin_68 : decode cX5_mayBegin 68 = .ok (.if_icmp .ge 7, 3) := by decide +kernel
theorem dX5_mayBegin_71 : decode cX5_mayBegin 71 = .ok (.iconst 1, 1) := by decide +kernel
theorem dX5_mayBegin_72 : decode cX5_mayBegin 72 = .ok (.goto 28, 3) := by decide +kernel
theorem dX5_mayBegin_75 : decode cX5_mayBegin 75 = .ok (.iconst 0, 1) := by decide +kernel
theorem dX5_mayBegin_76 : decode cX5_mayBegin 76 = .ok (.goto 24, 3) := by decide +kernel
theorem dX5_mayBegin_79 : decode cX5_mayBegin 79 = .ok (.aload_n 0, 1) := by decide +kernel
theorem dX5_mayBegin_80 : decode cX5_mayBegin 80 = .ok (.getfield 71, 3) := by decide +kernel
theorem dX5_mayBegin_83 : decode cX5_mayBegin 83 = .ok (.bipush 98, 2) := by decide +kernel
theorem dX5_mayBegin_85 : decode cX5_mayBegin 85 = .ok (.if_icmp .eq 10, 3) := by decide +kernel
theorem dX5_mayBegin_88 : decode cX5_mayBegin 88 = .ok (.aload_n 0, 1) := by decide +kernel
theorem dX5_mayBegin_89 : decode cX5_mayBegin 89 = .ok (.getfield 88, 3) := by decide +kernel
theorem dX5_mayBegin_92 : decode cX5_mayBegin 92 = .ok (.ifCond .ne 7, 3) := by decide +kernel
theorem dX5_mayBegin_95 : decode cX5_mayBegin 95 = .ok (.iconst 1, 1) := by decide +kernel
theorem dX5_mayBegin_96 : decode cX5_mayBegin 96 = .ok (.goto 4, 3) := by decide +kernel
theorem dX5_mayBegin_99 : decode cX5_mayBegin 99 = .ok (.iconst 0, 1) := by decide +kernel
theorem dX5_mayBegin_100 : decode cX5_mayBegin 100 = .ok (.ireturn, 1) := by decide +kernel
set_option maxRecDepth 20000 in
theorem ggX5_readsItem_X5_number : GoodIn wsX5_readsItem wsX5_number := goodIn_r _ [11, 3, 4, 12, 13, 10, 14, 15, 16, 17, 18, 19, 20, 21, 22, 23, 24, 25, 26, 27, 28, 29, 30, 31, 32, 33, 34, 35, 45, 46, 47, 48, 49, 50, 51, 52, 53, 54, 55, 56, 57, 58, 59, 60, 61, 62, 63, 64, 65, 66] (by decide +kernel) (by decide +kernel)
set_option maxRecDepth 20000 in
theorem gX5_readsItem_X5_number : GoodIn wsX5_readsItem (wsV RX5 92 RX5 yX5_number wsX5_number) := goodIn_app (goodIn_of _ (by decide +kernel)) ggX5_readsItem_X5_number
set_option maxRecDepth 20000 in
theorem ggX5_readsItem_X5_isFree : GoodIn wsX5_readsItem wsX5_isFree := goodIn_r _ [39, 1, 2, 5, 12, 13, 10, 14, 45, 46, 47, 48, 49, 50, 51, 52, 53, 54, 55, 56, 57, 58, 59, 60, 61, 62, 63, 64, 65, 66] (by decide +kernel) (by decide +kernel)
set_option maxRecDepth 20000 in
theorem gX5_readsItem_X5_isFree : GoodIn wsX5_readsItem (wsV RX5 96 RX5 yX5_isFree wsX5_isFree) := goodIn_app (goodIn_of _ (by decide +kernel)) ggX5_readsItem_X5_isFree
set_option maxRecDepth 20000 in
theorem ggX5_readsItem_X5_takes : GoodIn wsX5_readsItem wsX5_takes := goodIn_r _ [18, 19, 20, 4, 21, 22, 23, 10, 24, 25, 26, 27, 28, 29, 3, 30, 31, 32, 33, 34, 35, 12, 13, 14, 45, 46, 47, 48, 49, 50, 51, 52, 53, 54, 55, 56, 57, 58, 59, 60, 61, 62, 63, 64, 65, 66] (by decide +kernel) (by decide +kernel)
set_option maxRecDepth 20000 in
theorem gX5_readsItem_X5_takes : GoodIn wsX5_readsItem (wsV RX5 84 RX5 yX5_takes wsX5_takes) := goodIn_app (goodIn_of _ (by decide +kernel)) ggX5_readsItem_X5_takes
set_option maxRecDepth 20000 in
theorem ggX5_readsItem_X5_readsWind : GoodIn wsX5_readsItem wsX5_readsWind := goodIn_r _ [43, 3, 4, 1, 44, 12, 13, 10, 14, 15, 16, 17, 18, 19, 20, 21, 22, 23, 24, 25, 26, 27, 28, 29, 30, 31, 32, 33, 34, 35, 45, 46, 47, 48, 49, 50, 51, 52, 53, 54, 55, 56, 57, 58, 59, 60, 61, 62, 63, 64, 65, 66] (by decide +kernel) (by decide +kernel)
set_option maxRecDepth 20000 in
theorem gX5_readsItem_X5_readsWind : GoodIn wsX5_readsItem (wsV RX5 100 RX5 yX5_readsWind wsX5_readsWind) := goodIn_app (goodIn_of _ (by decide +kernel)) ggX5_readsItem_X5_readsWind
set_option maxRecDepth 20000 in
theorem ggX5_readsItem_X5_isWell : GoodIn wsX5_readsItem wsX5_isWell := goodIn_r _ [24, 20, 45, 46, 47, 48, 49, 50, 51, 52, 53, 54, 55, 56, 57, 58, 59, 60, 61, 62, 63, 64, 65, 66] (by decide +kernel) (by decide +kernel)
set_option maxRecDepth 20000 in
theorem gX5_readsItem_X5_isWell : GoodIn wsX5_readsItem (wsV RX5 77 RX5 yX5_isWell wsX5_isWell) := goodIn_app (goodIn_of _ (by decide +kernel)) ggX5_readsItem_X5_isWell
theorem dX5_readsItem_0 : decode cX5_readsItem 0 = .ok (.iload_n 1, 1) := by decide +kernel
theorem dX5_readsItem_1 : decode cX5_readsItem 1 = .ok (.bipush 103, 2) := by decide +kernel
theorem dX5_readsItem_3 : decode cX5_readsItem 3 = .ok (.if_icmp .ne 33, 3) := by decide +kernel
theorem dX5_readsItem_6 : decode cX5_readsItem 6 = .ok (.aload_n 0, 1) := by decide +kernel
theorem dX5_readsItem_7 : decode cX5_readsItem 7 = .ok (.getfield 13, 3) := by decide +kernel
theorem dX5_readsItem_10 : decode cX5_readsItem 10 = .ok (.bipush 6, 2) := by decide +kernel
theorem dX5_readsItem_12 : decode cX5_readsItem 12 = .ok (.aload_n 0, 1) := by decide +kernel
theorem dX5_readsItem_13 : decode cX5_readsItem 13 = .ok (.iconst 2, 1) := by decide +kernel
theorem dX5_readsItem_14 : decode cX5_readsItem 14 = .ok (.bipush 6, 2) := by decide +kernel
theorem dX5_readsItem_16 : decode cX5_readsItem 16 = .ok (.invokevirtual 92, 3) := by decide +kernel
theorem dX5_readsItem_19 : decode cX5_readsItem 19 = .ok (.iastore, 1) := by decide +kernel
theorem dX5_readsItem_20 : decode cX5_readsItem 20 = .ok (.aload_n 0, 1) := by decide +kernel
theorem dX5_readsItem_21 : decode cX5_readsItem 21 = .ok (.getfield 13, 3) := by decide +kernel
theorem dX5_readsItem_24 : decode cX5_readsItem 24 = .ok (.bipush 7, 2) := by decide +kernel
theorem dX5_readsItem_26 : decode cX5_readsItem 26 = .ok (.aload_n 0, 1) := by decide +kernel
theorem dX5_readsItem_27 : decode cX5_readsItem 27 = .ok (.iconst 2, 1) := by decide +kernel
theorem dX5_readsItem_28 : decode cX5_readsItem 28 = .ok (.iconst 5, 1) := by decide +kernel
theorem dX5_readsItem_29 : decode cX5_readsItem 29 = .ok (.invokevirtual 92, 3) := by decide +kernel
theorem dX5_readsItem_32 : decode cX5_readsItem 32 = .ok (.iastore, 1) := by decide +kernel
theorem dX5_readsItem_33 : decode cX5_readsItem 33 = .ok (.goto 180, 3) := by decide +kernel
theorem dX5_readsItem_36 : decode cX5_readsItem 36 = .ok (.iload_n 1, 1) := by decide +kernel
theorem dX5_readsItem_37 : decode cX5_readsItem 37 = .ok (.bipush 105, 2) := by decide +kernel
theorem dX5_readsItem_39 : decode cX5_readsItem 39 = .ok (.if_icmp .ne 60, 3) := by decide +kernel
theorem dX5_readsItem_42 : decode cX5_readsItem 42 = .ok (.aload_n 0, 1) := by decide +kernel
theorem dX5_readsItem_43 : decode cX5_readsItem 43 = .ok (.getfield 16, 3) := by decide +kernel
theorem dX5_readsItem_46 : decode cX5_readsItem 46 = .ok (.bipush 6, 2) := by decide +kernel
theorem dX5_readsItem_48 : decode cX5_readsItem 48 = .ok (.aload_n 0, 1) := by decide +kernel
theorem dX5_readsItem_49 : decode cX5_readsItem 49 = .ok (.getfield 13, 3) := by decide +kernel
theorem dX5_readsItem_52 : decode cX5_readsItem 52 = .ok (.bipush 8, 2) := by decide +kernel
theorem dX5_readsItem_54 : decode cX5_readsItem 54 = .ok (.iaload, 1) := by decide +kernel
theorem dX5_readsItem_55 : decode cX5_readsItem 55 = .ok (.iadd, 1) := by decide +kernel
theorem dX5_readsItem_56 : decode cX5_readsItem 56 = .ok (.aload_n 0, 1) := by decide +kernel
theorem dX5_readsItem_57 : decode cX5_readsItem 57 = .ok (.aload_n 0, 1) := by decide +kernel
theorem dX5_readsItem_58 : decode cX5_readsItem 58 = .ok (.getfield 68, 3) := by decide +kernel
theorem dX5_readsItem_61 : decode cX5_readsItem 61 = .ok (.iconst 2, 1) := by decide +kernel
theorem dX5_readsItem_62 : decode cX5_readsItem 62 = .ok (.if_icmp .ne 18, 3) := by decide +kernel
theorem dX5_readsItem_65 : decode cX5_readsItem 65 = .ok (.aload_n 0, 1) := by decide +kernel
theorem dX5_readsItem_66 : decode cX5_readsItem 66 = .ok (.aload_n 0, 1) := by decide +kernel
theorem dX5_readsItem_67 : decode cX5_readsItem 67 = .ok (.getfield 71, 3) := by decide +kernel
theorem dX5_readsItem_70 : decode cX5_readsItem 70 = .ok (.invokevirtual 96, 3) := by decide +kernel
theorem dX5_readsItem_73 : decode cX5_readsItem 73 = .ok (.ifCond .eq 7, 3) := by decide +kernel
theorem dX5_readsItem_76 : decode cX5_readsItem 76 = .ok (.iconst 1, 1) := by decide +kernel
theorem dX5_readsItem_77 : decode cX5_readsItem 77 = .ok (.goto 4, 3) := by decide +kernel
theorem dX5_readsItem_80 : decode cX5_readsItem 80 = .ok (.iconst 0, 1) := by decide +kernel
theorem dX5_readsItem_81 : decode cX5_readsItem 81 = .ok (.invokevirtual 84, 3) := by decide +kernel
theorem dX5_readsItem_84 : decode cX5_readsItem 84 = .ok (.iastore, 1) := by decide +kernel
theorem dX5_readsItem_85 : decode cX5_readsItem 85 = .ok (.aload_n 0, 1) := by decide +kernel
theorem dX5_readsItem_86 : decode cX5_readsItem 86 = .ok (.getfield 13, 3) := by decide +kernel
theorem dX5_readsItem_89 : decode cX5_readsItem 89 = .ok (.bipush 8, 2) := by decide +kernel
theorem dX5_readsItem_91 : decode cX5_readsItem 91 = .ok (.dup2, 1) := by decide +kernel
theorem dX5_readsItem_92 : decode cX5_readsItem 92 = .ok (.iaload, 1) := by decide +kernel
theorem dX5_readsItem_93 : decode cX5_readsItem 93 = .ok (.iconst 1, 1) := by decide +kernel
theorem dX5_readsItem_94 : decode cX5_readsItem 94 = .ok (.iadd, 1) := by decide +kernel
theorem dX5_readsItem_95 : decode cX5_readsItem 95 = .ok (.iastore, 1) := by decide +kernel
theorem dX5_readsItem_96 : decode cX5_readsItem 96 = .ok (.goto 117, 3) := by decide +kernel
theorem dX5_readsItem_99 : decode cX5_readsItem 99 = .ok (.iload_n 1, 1) := by decide +kernel
theorem dX5_readsItem_100 : decode cX5_readsItem 100 = .ok (.bipush 120, 2) := by decide +kernel
theorem dX5_readsItem_102 : decode cX5_readsItem 102 = .ok (.if_icmp .ne 60, 3) := by decide +kernel
theorem dX5_readsItem_105 : decode cX5_readsItem 105 = .ok (.aload_n 0, 1) := by decide +kernel
theorem dX5_readsItem_106 : decode cX5_readsItem 106 = .ok (.getfield 19, 3) := by decide +kernel
theorem dX5_readsItem_109 : decode cX5_readsItem 109 = .ok (.bipush 6, 2) := by decide +kernel
theorem dX5_readsItem_111 : decode cX5_readsItem 111 = .ok (.aload_n 0, 1) := by decide +kernel
theorem dX5_readsItem_112 : decode cX5_readsItem 112 = .ok (.getfield 13, 3) := by decide +kernel
theorem dX5_readsItem_115 : decode cX5_readsItem 115 = .ok (.bipush 9, 2) := by decide +kernel
theorem dX5_readsItem_117 : decode cX5_readsItem 117 = .ok (.iaload, 1) := by decide +kernel
theorem dX5_readsItem_118 : decode cX5_readsItem 118 = .ok (.iadd, 1) := by decide +kernel
theorem dX5_readsItem_119 : decode cX5_readsItem 119 = .ok (.aload_n 0, 1) := by decide +kernel
theorem dX5_readsItem_120 : decode cX5_readsItem 120 = .ok (.aload_n 0, 1) := by decide +kernel
theorem dX5_readsItem_121 : decode cX5_readsItem 121 = .ok (.getfield 68, 3) := by decide +kernel
theorem dX5_readsItem_124 : decode cX5_readsItem 124 = .ok (.iconst 2, 1) := by decide +kernel
theorem dX5_readsItem_125 : decode cX5_readsItem 125 = .ok (.if_icmp .ne 18, 3) := by decide +kernel
theorem dX5_readsItem_128 : decode cX5_readsItem 128 = .ok (.aload_n 0, 1) := by decide +kernel
theorem dX5_readsItem_129 : decode cX5_readsItem 129 = .ok (.aload_n 0, 1) := by decide +kernel
theorem dX5_readsItem_130 : decode cX5_readsItem 130 = .ok (.getfield 71, 3) := by decide +kernel
theorem dX5_readsItem_133 : decode cX5_readsItem 133 = .ok (.invokevirtual 96, 3) := by decide +kernel
theorem dX5_readsItem_136 : decode cX5_readsItem 136 = .ok (.ifCond .eq 7, 3) := by decide +kernel
theorem dX5_readsItem_139 : decode cX5_readsItem 139 = .ok (.iconst 1, 1) := by decide +kernel
theorem dX5_readsItem_140 : decode cX5_readsItem 140 = .ok (.goto 4, 3) := by decide +kernel
theorem dX5_readsItem_143 : decode cX5_readsItem 143 = .ok (.iconst 0, 1) := by decide +kernel
theorem dX5_readsItem_144 : decode cX5_readsItem 144 = .ok (.invokevirtual 84, 3) := by decide +kernel
theorem dX5_readsItem_147 : decode cX5_readsItem 147 = .ok (.iastore, 1) := by decide +kernel
theorem dX5_readsItem_148 : decode cX5_readsItem 148 = .ok (.aload_n 0, 1) := by decide +kernel
theorem dX5_readsItem_149 : decode cX5_readsItem 149 = .ok (.getfield 13, 3) := by decide +kernel
theorem dX5_readsItem_152 : decode cX5_readsItem 152 = .ok (.bipush 9, 2) := by decide +kernel
theorem dX5_readsItem_154 : decode cX5_readsItem 154 = .ok (.dup2, 1) := by decide +kernel
theorem dX5_readsItem_155 : decode cX5_readsItem 155 = .ok (.iaload, 1) := by decide +kernel
theorem dX5_readsItem_156 : decode cX5_readsItem 156 = .ok (.iconst 1, 1) := by decide +kernel
theorem dX5_readsItem_157 : decode cX5_readsItem 157 = .ok (.iadd, 1) := by decide +kernel
theorem dX5_readsItem_158 : decode cX5_readsItem 158 = .ok (.iastore, 1) := by decide +kernel
theorem dX5_readsItem_159 : decode cX5_readsItem 159 = .ok (.goto 54, 3) := by decide +kernel
theorem dX5_readsItem_162 : decode cX5_readsItem 162 = .ok (.iload_n 1, 1) := by decide +kernel
theorem dX5_readsItem_163 : decode cX5_readsItem 163 = .ok (.bipush 98, 2) := by decide +kernel
theorem dX5_readsItem_165 : decode cX5_readsItem 165 = .ok (.if_icmp .ne 29, 3) := by decide +kernel
theorem dX5_readsItem_168 : decode cX5_readsItem 168 = .ok (.aload_n 0, 1) := by decide +kernel
theorem dX5_readsItem_169 : decode cX5_readsItem 169 = .ok (.invokevirtual 100, 3) := by decide +kernel
theorem dX5_readsItem_172 : decode cX5_readsItem 172 = .ok (.aload_n 0, 1) := by decide +kernel
theorem dX5_readsItem_173 : decode cX5_readsItem 173 = .ok (.invokevirtual 77, 3) := by decide +kernel
theorem dX5_readsItem_176 : decode cX5_readsItem 176 = .ok (.ifCond .eq 37, 3) := by decide +kernel
theorem dX5_readsItem_179 : decode cX5_readsItem 179 = .ok (.aload_n 0, 1) := by decide +kernel
theorem dX5_readsItem_180 : decode cX5_readsItem 180 = .ok (.getfield 68, 3) := by decide +kernel
theorem dX5_readsItem_183 : decode cX5_readsItem 183 = .ok (.iconst 2, 1) := by decide +kernel
theorem dX5_readsItem_184 : decode cX5_readsItem 184 = .ok (.if_icmp .ne 29, 3) := by decide +kernel
theorem dX5_readsItem_187 : decode cX5_readsItem 187 = .ok (.aload_n 0, 1) := by decide +kernel
theorem dX5_readsItem_188 : decode cX5_readsItem 188 = .ok (.invokevirtual 100, 3) := by decide +kernel
theorem dX5_readsItem_191 : decode cX5_readsItem 191 = .ok (.goto (-19), 3) := by decide +kernel
theorem dX5_readsItem_194 : decode cX5_readsItem 194 = .ok (.aload_n 0, 1) := by decide +kernel
theorem dX5_readsItem_195 : decode cX5_readsItem 195 = .ok (.getfield 13, 3) := by decide +kernel
theorem dX5_readsItem_198 : decode cX5_readsItem 198 = .ok (.bipush 11, 2) := by decide +kernel
theorem dX5_readsItem_200 : decode cX5_readsItem 200 = .ok (.aload_n 0, 1) := by decide +kernel
theorem dX5_readsItem_201 : decode cX5_readsItem 201 = .ok (.iconst 1, 1) := by decide +kernel
theorem dX5_readsItem_202 : decode cX5_readsItem 202 = .ok (.bipush 6, 2) := by decide +kernel
theorem dX5_readsItem_204 : decode cX5_readsItem 204 = .ok (.invokevirtual 92, 3) := by decide +kernel
theorem dX5_readsItem_207 : decode cX5_readsItem 207 = .ok (.iastore, 1) := by decide +kernel
theorem dX5_readsItem_208 : decode cX5_readsItem 208 = .ok (.aload_n 0, 1) := by decide +kernel
theorem dX5_readsItem_209 : decode cX5_readsItem 209 = .ok (.iconst 1, 1) := by decide +kernel
theorem dX5_readsItem_210 : decode cX5_readsItem 210 = .ok (.putfield 88, 3) := by decide +kernel
theorem dX5_readsItem_213 : decode cX5_readsItem 213 = .ok (.return_, 1) := by decide +kernel
set_option maxRecDepth 20000 in
theorem ggX5_readsWind_X5_in : GoodIn wsX5_readsWind wsX5_in := goodIn_r _ [8] (by decide +kernel) (by decide +kernel)
set_option maxRecDepth 20000 in
theorem gX5_readsWind_X5_in : GoodIn wsX5_readsWind (va_wsS RX5 51 yX5_in wsX5_in) := goodIn_app (goodIn_of _ (by decide +kernel)) ggX5_readsWind_X5_in
set_option maxRecDepth 20000 in
theorem ggX5_readsWind_X5_takes : GoodIn wsX5_readsWind wsX5_takes := goodIn_r _ [12, 13, 14, 2, 15, 16, 17, 7, 18, 19, 20, 21, 22, 23, 1, 24, 25, 26, 27, 28, 29, 5, 6, 8, 30, 31, 32, 33, 34, 35, 36, 37, 38, 39, 40, 41, 42, 43, 44, 45, 46, 47, 48, 49, 50, 51] (by decide +kernel) (by decide +kernel)
set_option maxRecDepth 20000 in
theorem gX5_readsWind_X5_takes : GoodIn wsX5_readsWind (wsV RX5 84 RX5 yX5_takes wsX5_takes) := goodIn_app (goodIn_of _ (by decide +kernel)) ggX5_readsWind_X5_takes
set_option maxRecDepth 20000 in
theorem ggX5_readsWind_X5_isWell : GoodIn wsX5_readsWind wsX5_isWell := goodIn_r _ [18, 14, 30, 31, 32, 33, 34, 35, 36, 37, 38, 39, 40, 41, 42, 43, 44, 45, 46, 47, 48, 49, 50, 51] (by decide +kernel) (by decide +kernel)
set_option maxRecDepth 20000 in
theorem gX5_readsWind_X5_isWell : GoodIn wsX5_readsWind (wsV RX5 77 RX5 yX5_isWell wsX5_isWell) := goodIn_app (goodIn_of _ (by decide +kernel)) ggX5_readsWind_X5_isWell
theorem dX5_readsWind_0 : decode cX5_readsWind 0 = .ok (.aload_n 0, 1) := by decide +kernel
theorem dX5_readsWind_1 : decode cX5_readsWind 1 = .ok (.aload_n 0, 1) := by decide +kernel
theorem dX5_readsWind_2 : decode cX5_readsWind 2 = .ok (.getfield 68, 3) := by decide +kernel
theorem dX5_readsWind_5 : decode cX5_readsWind 5 = .ok (.iconst 2, 1) := by decide +kernel
theorem dX5_readsWind_6 : decode cX5_readsWind 6 = .ok (.if_icmp .ne 31, 3) := by decide +kernel
theorem dX5_readsWind_9 : decode cX5_readsWind 9 = .ok (.aload_n 0, 1) := by decide +kernel
theorem dX5_readsWind_10 : decode cX5_readsWind 10 = .ok (.getfield 71, 3) := by decide +kernel
theorem dX5_readsWind_13 : decode cX5_readsWind 13 = .ok (.iconst 0, 1) := by decide +kernel
theorem dX5_readsWind_14 : decode cX5_readsWind 14 = .ok (.iconst 4, 1) := by decide +kernel
theorem dX5_readsWind_15 : decode cX5_readsWind 15 = .ok (.invokestatic 51, 3) := by decide +kernel
theorem dX5_readsWind_18 : decode cX5_readsWind 18 = .ok (.ifCond .eq 19, 3) := by decide +kernel
theorem dX5_readsWind_21 : decode cX5_readsWind 21 = .ok (.aload_n 0, 1) := by decide +kernel
theorem dX5_readsWind_22 : decode cX5_readsWind 22 = .ok (.getfield 13, 3) := by decide +kernel
theorem dX5_readsWind_25 : decode cX5_readsWind 25 = .ok (.bipush 10, 2) := by decide +kernel
theorem dX5_readsWind_27 : decode cX5_readsWind 27 = .ok (.iaload, 1) := by decide +kernel
theorem dX5_readsWind_28 : decode cX5_readsWind 28 = .ok (.bipush 12, 2) := by decide +kernel
theorem dX5_readsWind_30 : decode cX5_readsWind 30 = .ok (.if_icmp .ge 7, 3) := by decide +kernel
theorem dX5_readsWind_33 : decode cX5_readsWind 33 = .ok (.iconst 1, 1) := by decide +kernel
theorem dX5_readsWind_34 : decode cX5_readsWind 34 = .ok (.goto 4, 3) := by decide +kernel
theorem dX5_readsWind_37 : decode cX5_readsWind 37 = .ok (.iconst 0, 1) := by decide +kernel
theorem dX5_readsWind_38 : decode cX5_readsWind 38 = .ok (.invokevirtual 84, 3) := by decide +kernel
theorem dX5_readsWind_41 : decode cX5_readsWind 41 = .ok (.istore_n 1, 1) := by decide +kernel
theorem dX5_readsWind_42 : decode cX5_readsWind 42 = .ok (.aload_n 0, 1) := by decide +kernel
theorem dX5_readsWind_43 : decode cX5_readsWind 43 = .ok (.invokevirtual 77, 3) := by decide +kernel
theorem dX5_readsWind_46 : decode cX5_readsWind 46 = .ok (.ifCond .eq 27, 3) := by decide +kernel
theorem dX5_readsWind_49 : decode cX5_readsWind 49 = .ok (.aload_n 0, 1) := by decide +kernel
theorem dX5_readsWind_50 : decode cX5_readsWind 50 = .ok (.getfield 22, 3) := by decide +kernel
theorem dX5_readsWind_53 : decode cX5_readsWind 53 = .ok (.aload_n 0, 1) := by decide +kernel
theorem dX5_readsWind_54 : decode cX5_readsWind 54 = .ok (.getfield 13, 3) := by decide +kernel
theorem dX5_readsWind_57 : decode cX5_readsWind 57 = .ok (.bipush 10, 2) := by decide +kernel
theorem dX5_readsWind_59 : decode cX5_readsWind 59 = .ok (.iaload, 1) := by decide +kernel
theorem dX5_readsWind_60 : decode cX5_readsWind 60 = .ok (.iload_n 1, 1) := by decide +kernel
theorem dX5_readsWind_61 : decode cX5_readsWind 61 = .ok (.iastore, 1) := by decide +kernel
theorem dX5_readsWind_62 : decode cX5_readsWind 62 = .ok (.aload_n 0, 1) := by decide +kernel
theorem dX5_readsWind_63 : decode cX5_readsWind 63 = .ok (.getfield 13, 3) := by decide +kernel
theorem dX5_readsWind_66 : decode cX5_readsWind 66 = .ok (.bipush 10, 2) := by decide +kernel
theorem dX5_readsWind_68 : decode cX5_readsWind 68 = .ok (.dup2, 1) := by decide +kernel
theorem dX5_readsWind_69 : decode cX5_readsWind 69 = .ok (.iaload, 1) := by decide +kernel
theorem dX5_readsWind_70 : decode cX5_readsWind 70 = .ok (.iconst 1, 1) := by decide +kernel
theorem dX5_readsWind_71 : decode cX5_readsWind 71 = .ok (.iadd, 1) := by decide +kernel
theorem dX5_readsWind_72 : decode cX5_readsWind 72 = .ok (.iastore, 1) := by decide +kernel
theorem dX5_readsWind_73 : decode cX5_readsWind 73 = .ok (.return_, 1) := by decide +kernel
set_option maxRecDepth 20000 in
theorem ggX5_sea_X5_advances : GoodIn wsX5_sea wsX5_advances := goodIn_r _ [11, 3, 12, 6, 13, 14, 15, 16, 10, 17, 18, 19, 20, 21, 22, 61, 62, 63, 64, 65, 66, 67, 68, 69, 70, 71, 72, 73, 74, 75, 76, 77, 78, 79, 80, 81, 82] (by decide +kernel) (by decide +kernel)
set_option maxRecDepth 20000 in
theorem gX5_sea_X5_advances : GoodIn wsX5_sea (wsV RX5 81 RX5 yX5_advances wsX5_advances) := goodIn_app (goodIn_of _ (by decide +kernel)) ggX5_sea_X5_advances
set_option maxRecDepth 20000 in
theorem ggX5_sea_X5_isWell : GoodIn wsX5_sea wsX5_isWell := goodIn_r _ [26, 2, 61, 62, 63, 64, 65, 66, 67, 68, 69, 70, 71, 72, 73, 74, 75, 76, 77, 78, 79, 80, 81, 82] (by decide +kernel) (by decide +kernel)
set_option maxRecDepth 20000 in
theorem gX5_sea_X5_isWell : GoodIn wsX5_sea (wsV RX5 77 RX5 yX5_isWell wsX5_isWell) := goodIn_app (goodIn_of _ (by decide +kernel)) ggX5_sea_X5_isWell
set_option maxRecDepth 20000 in
theorem ggX5_sea_X5_mayBegin : GoodIn wsX5_sea wsX5_mayBegin := goodIn_r _ [30, 13, 4, 5, 61, 62, 63, 64, 65, 66, 67, 68, 69, 70, 71, 72, 73, 74, 75, 76, 77, 78, 79, 80, 81, 82] (by decide +kernel) (by decide +kernel)
set_option maxRecDepth 20000 in
theorem gX5_sea_X5_mayBegin : GoodIn wsX5_sea (wsV RX5 103 RX5 yX5_mayBegin wsX5_mayBegin) := goodIn_app (goodIn_of _ (by decide +kernel)) ggX5_sea_X5_mayBegin
set_option maxRecDepth 20000 in
theorem ggX5_sea_X5_takes : GoodIn wsX5_sea wsX5_takes := goodIn_r _ [34, 12, 2, 13, 23, 24, 25, 10, 26, 7, 8, 9, 11, 3, 6, 14, 15, 16, 17, 18, 19, 20, 21, 22, 61, 62, 63, 64, 65, 66, 67, 68, 69, 70, 71, 72, 73, 74, 75, 76, 77, 78, 79, 80, 81, 82] (by decide +kernel) (by decide +kernel)
set_option maxRecDepth 20000 in
theorem gX5_sea_X5_takes : GoodIn wsX5_sea (wsV RX5 84 RX5 yX5_takes wsX5_takes) := goodIn_app (goodIn_of _ (by decide +kernel)) ggX5_sea_X5_takes
set_option maxRecDepth 20000 in
theorem ggX5_sea_X5_readsItem : GoodIn wsX5_sea wsX5_readsItem := goodIn_r _ [38, 4, 39, 6, 13, 40, 5, 41, 42, 43, 10, 44, 20, 21, 22, 31, 32, 33, 34, 12, 2, 23, 24, 25, 26, 7, 8, 9, 11, 3, 14, 15, 16, 17, 18, 19, 45, 46, 47, 48, 49, 50, 51, 52, 53, 61, 62, 63, 64, 65, 66, 67, 68, 69, 70, 71, 72, 73, 74, 75, 76, 77, 78, 79, 80, 81, 82] (by decide +kernel) (by decide +kernel)
set_option maxRecDepth 20000 in
theorem gX5_sea_X5_readsItem : GoodIn wsX5_sea (wsV RX5 106 RX5 yX5_readsItem wsX5_readsItem) := goodIn_app (goodIn_of _ (by decide +kernel)) ggX5_sea_X5_readsItem
set_option maxRecDepth 20000 in
theorem ggX5_sea_X5_settles : GoodIn wsX5_sea wsX5_settles := goodIn_r _ [57, 4, 39, 40, 58, 53, 18, 59, 60, 61, 62, 63, 64, 65, 66, 67, 68, 69, 70, 71, 72, 73, 74, 75, 76, 77, 78, 79, 80, 81, 82] (by decide +kernel) (by decide +kernel)
set_option maxRecDepth 20000 in
theorem gX5_sea_X5_settles : GoodIn wsX5_sea (wsV RX5 110 RX5 yX5_settles wsX5_settles) := goodIn_app (goodIn_of _ (by decide +kernel)) ggX5_sea_X5_settles
theorem dX5_sea_0 : decode cX5_sea 0 = .ok (.aload_n 0, 1) := by decide +kernel
theorem dX5_sea_1 : decode cX5_sea 1 = .ok (.iconst 0, 1) := by decide +kernel
theorem dX5_sea_2 : decode cX5_sea 2 = .ok (.putfield 47, 3) := by decide +kernel
theorem dX5_sea_5 : decode cX5_sea 5 = .ok (.aload_n 0, 1) := by decide +kernel
theorem dX5_sea_6 : decode cX5_sea 6 = .ok (.iconst (-1), 1) := by decide +kernel
theorem dX5_sea_7 : decode cX5_sea 7 = .ok (.putfield 74, 3) := by decide +kernel
theorem dX5_sea_10 : decode cX5_sea 10 = .ok (.aload_n 0, 1) := by decide +kernel
theorem dX5_sea_11 : decode cX5_sea 11 = .ok (.iconst 0, 1) := by decide +kernel
theorem dX5_sea_12 : decode cX5_sea 12 = .ok (.putfield 58, 3) := by decide +kernel
theorem dX5_sea_15 : decode cX5_sea 15 = .ok (.iconst 0, 1) := by decide +kernel
theorem dX5_sea_16 : decode cX5_sea 16 = .ok (.istore_n 1, 1) := by decide +kernel
theorem dX5_sea_17 : decode cX5_sea 17 = .ok (.aload_n 0, 1) := by decide +kernel
theorem dX5_sea_18 : decode cX5_sea 18 = .ok (.getfield 13, 3) := by decide +kernel
theorem dX5_sea_21 : decode cX5_sea 21 = .ok (.bipush 6, 2) := by decide +kernel
theorem dX5_sea_23 : decode cX5_sea 23 = .ok (.iconst 4, 1) := by decide +kernel
theorem dX5_sea_24 : decode cX5_sea 24 = .ok (.iastore, 1) := by decide +kernel
theorem dX5_sea_25 : decode cX5_sea 25 = .ok (.aload_n 0, 1) := by decide +kernel
theorem dX5_sea_26 : decode cX5_sea 26 = .ok (.getfield 13, 3) := by decide +kernel
theorem dX5_sea_29 : decode cX5_sea 29 = .ok (.bipush 7, 2) := by decide +kernel
theorem dX5_sea_31 : decode cX5_sea 31 = .ok (.iconst 4, 1) := by decide +kernel
theorem dX5_sea_32 : decode cX5_sea 32 = .ok (.iastore, 1) := by decide +kernel
theorem dX5_sea_33 : decode cX5_sea 33 = .ok (.aload_n 0, 1) := by decide +kernel
theorem dX5_sea_34 : decode cX5_sea 34 = .ok (.getfield 13, 3) := by decide +kernel
theorem dX5_sea_37 : decode cX5_sea 37 = .ok (.bipush 8, 2) := by decide +kernel
theorem dX5_sea_39 : decode cX5_sea 39 = .ok (.iconst 0, 1) := by decide +kernel
theorem dX5_sea_40 : decode cX5_sea 40 = .ok (.iastore, 1) := by decide +kernel
theorem dX5_sea_41 : decode cX5_sea 41 = .ok (.aload_n 0, 1) := by decide +kernel
theorem dX5_sea_42 : decode cX5_sea 42 = .ok (.getfield 13, 3) := by decide +kernel
theorem dX5_sea_45 : decode cX5_sea 45 = .ok (.bipush 9, 2) := by decide +kernel
theorem dX5_sea_47 : decode cX5_sea 47 = .ok (.iconst 0, 1) := by decide +kernel
theorem dX5_sea_48 : decode cX5_sea 48 = .ok (.iastore, 1) := by decide +kernel
theorem dX5_sea_49 : decode cX5_sea 49 = .ok (.aload_n 0, 1) := by decide +kernel
theorem dX5_sea_50 : decode cX5_sea 50 = .ok (.getfield 13, 3) := by decide +kernel
theorem dX5_sea_53 : decode cX5_sea 53 = .ok (.bipush 10, 2) := by decide +kernel
theorem dX5_sea_55 : decode cX5_sea 55 = .ok (.iconst 0, 1) := by decide +kernel
theorem dX5_sea_56 : decode cX5_sea 56 = .ok (.iastore, 1) := by decide +kernel
theorem dX5_sea_57 : decode cX5_sea 57 = .ok (.aload_n 0, 1) := by decide +kernel
theorem dX5_sea_58 : decode cX5_sea 58 = .ok (.getfield 13, 3) := by decide +kernel
theorem dX5_sea_61 : decode cX5_sea 61 = .ok (.bipush 11, 2) := by decide +kernel
theorem dX5_sea_63 : decode cX5_sea 63 = .ok (.iconst 3, 1) := by decide +kernel
theorem dX5_sea_64 : decode cX5_sea 64 = .ok (.iastore, 1) := by decide +kernel
theorem dX5_sea_65 : decode cX5_sea 65 = .ok (.aload_n 0, 1) := by decide +kernel
theorem dX5_sea_66 : decode cX5_sea 66 = .ok (.iconst 0, 1) := by decide +kernel
theorem dX5_sea_67 : decode cX5_sea 67 = .ok (.putfield 88, 3) := by decide +kernel
theorem dX5_sea_70 : decode cX5_sea 70 = .ok (.aload_n 0, 1) := by decide +kernel
theorem dX5_sea_71 : decode cX5_sea 71 = .ok (.invokevirtual 81, 3) := by decide +kernel
theorem dX5_sea_74 : decode cX5_sea 74 = .ok (.aload_n 0, 1) := by decide +kernel
theorem dX5_sea_75 : decode cX5_sea 75 = .ok (.invokevirtual 77, 3) := by decide +kernel
theorem dX5_sea_78 : decode cX5_sea 78 = .ok (.ifCond .eq 72, 3) := by decide +kernel
theorem dX5_sea_81 : decode cX5_sea 81 = .ok (.aload_n 0, 1) := by decide +kernel
theorem dX5_sea_82 : decode cX5_sea 82 = .ok (.getfield 68, 3) := by decide +kernel
theorem dX5_sea_85 : decode cX5_sea 85 = .ok (.ifCond .eq 65, 3) := by decide +kernel
theorem dX5_sea_88 : decode cX5_sea 88 = .ok (.aload_n 0, 1) := by decide +kernel
theorem dX5_sea_89 : decode cX5_sea 89 = .ok (.aload_n 0, 1) := by decide +kernel
theorem dX5_sea_90 : decode cX5_sea 90 = .ok (.getfield 68, 3) := by decide +kernel
theorem dX5_sea_93 : decode cX5_sea 93 = .ok (.iconst 1, 1) := by decide +kernel
theorem dX5_sea_94 : decode cX5_sea 94 = .ok (.if_icmp .ne 15, 3) := by decide +kernel
theorem dX5_sea_97 : decode cX5_sea 97 = .ok (.aload_n 0, 1) := by decide +kernel
theorem dX5_sea_98 : decode cX5_sea 98 = .ok (.iload_n 1, 1) := by decide +kernel
theorem dX5_sea_99 : decode cX5_sea 99 = .ok (.invokevirtual 103, 3) := by decide +kernel
theorem dX5_sea_102 : decode cX5_sea 102 = .ok (.ifCond .eq 7, 3) := by decide +kernel
theorem dX5_sea_105 : decode cX5_sea 105 = .ok (.iconst 1, 1) := by decide +kernel
theorem dX5_sea_106 : decode cX5_sea 106 = .ok (.goto 4, 3) := by decide +kernel
theorem dX5_sea_109 : decode cX5_sea 109 = .ok (.iconst 0, 1) := by decide +kernel
theorem dX5_sea_110 : decode cX5_sea 110 = .ok (.invokevirtual 84, 3) := by decide +kernel
theorem dX5_sea_113 : decode cX5_sea 113 = .ok (.istore_n 2, 1) := by decide +kernel
theorem dX5_sea_114 : decode cX5_sea 114 = .ok (.aload_n 0, 1) := by decide +kernel
theorem dX5_sea_115 : decode cX5_sea 115 = .ok (.invokevirtual 77, 3) := by decide +kernel
theorem dX5_sea_118 : decode cX5_sea 118 = .ok (.ifCond .eq 8, 3) := by decide +kernel
theorem dX5_sea_121 : decode cX5_sea 121 = .ok (.aload_n 0, 1) := by decide +kernel
theorem dX5_sea_122 : decode cX5_sea 122 = .ok (.iload_n 2, 1) := by decide +kernel
theorem dX5_sea_123 : decode cX5_sea 123 = .ok (.invokevirtual 106, 3) := by decide +kernel
theorem dX5_sea_126 : decode cX5_sea 126 = .ok (.aload_n 0, 1) := by decide +kernel
theorem dX5_sea_127 : decode cX5_sea 127 = .ok (.aload_n 0, 1) := by decide +kernel
theorem dX5_sea_128 : decode cX5_sea 128 = .ok (.getfield 68, 3) := by decide +kernel
theorem dX5_sea_131 : decode cX5_sea 131 = .ok (.iconst 3, 1) := by decide +kernel
theorem dX5_sea_132 : decode cX5_sea 132 = .ok (.if_icmp .ne 7, 3) := by decide +kernel
theorem dX5_sea_135 : decode cX5_sea 135 = .ok (.iconst 1, 1) := by decide +kernel
theorem dX5_sea_136 : decode cX5_sea 136 = .ok (.goto 4, 3) := by decide +kernel
theorem dX5_sea_139 : decode cX5_sea 139 = .ok (.iconst 0, 1) := by decide +kernel
theorem dX5_sea_140 : decode cX5_sea 140 = .ok (.invokevirtual 84, 3) := by decide +kernel
theorem dX5_sea_143 : decode cX5_sea 143 = .ok (.pop, 1) := by decide +kernel
theorem dX5_sea_144 : decode cX5_sea 144 = .ok (.iinc 1 1, 3) := by decide +kernel
theorem dX5_sea_147 : decode cX5_sea 147 = .ok (.goto (-73), 3) := by decide +kernel
theorem dX5_sea_150 : decode cX5_sea 150 = .ok (.aload_n 0, 1) := by decide +kernel
theorem dX5_sea_151 : decode cX5_sea 151 = .ok (.invokevirtual 77, 3) := by decide +kernel
theorem dX5_sea_154 : decode cX5_sea 154 = .ok (.ifCond .ne 11, 3) := by decide +kernel
theorem dX5_sea_157 : decode cX5_sea 157 = .ok (.bipush (-10), 2) := by decide +kernel
theorem dX5_sea_159 : decode cX5_sea 159 = .ok (.aload_n 0, 1) := by decide +kernel
theorem dX5_sea_160 : decode cX5_sea 160 = .ok (.getfield 74, 3) := by decide +kernel
theorem dX5_sea_163 : decode cX5_sea 163 = .ok (.isub, 1) := by decide +kernel
theorem dX5_sea_164 : decode cX5_sea 164 = .ok (.ireturn, 1) := by decide +kernel
theorem dX5_sea_165 : decode cX5_sea 165 = .ok (.aload_n 0, 1) := by decide +kernel
theorem dX5_sea_166 : decode cX5_sea 166 = .ok (.invokevirtual 110, 3) := by decide +kernel
theorem dX5_sea_169 : decode cX5_sea 169 = .ok (.iload_n 1, 1) := by decide +kernel
theorem dX5_sea_170 : decode cX5_sea 170 = .ok (.ireturn, 1) := by decide +kernel
theorem dX5_settles_0 : decode cX5_settles 0 = .ok (.iconst 0, 1) := by decide +kernel
theorem dX5_settles_1 : decode cX5_settles 1 = .ok (.istore_n 1, 1) := by decide +kernel
theorem dX5_settles_2 : decode cX5_settles 2 = .ok (.iload_n 1, 1) := by decide +kernel
theorem dX5_settles_3 : decode cX5_settles 3 = .ok (.bipush 6, 2) := by decide +kernel
theorem dX5_settles_5 : decode cX5_settles 5 = .ok (.if_icmp .ge 54, 3) := by decide +kernel
theorem dX5_settles_8 : decode cX5_settles 8 = .ok (.aload_n 0, 1) := by decide +kernel
theorem dX5_settles_9 : decode cX5_settles 9 = .ok (.getfield 13, 3) := by decide +kernel
theorem dX5_settles_12 : decode cX5_settles 12 = .ok (.iload_n 1, 1) := by decide +kernel
theorem dX5_settles_13 : decode cX5_settles 13 = .ok (.aload_n 0, 1) := by decide +kernel
theorem dX5_settles_14 : decode cX5_settles 14 = .ok (.getfield 13, 3) := by decide +kernel
theorem dX5_settles_17 : decode cX5_settles 17 = .ok (.bipush 6, 2) := by decide +kernel
theorem dX5_settles_19 : decode cX5_settles 19 = .ok (.iload_n 1, 1) := by decide +kernel
theorem dX5_settles_20 : decode cX5_settles 20 = .ok (.iadd, 1) := by decide +kernel
theorem dX5_settles_21 : decode cX5_settles 21 = .ok (.iaload, 1) := by decide +kernel
theorem dX5_settles_22 : decode cX5_settles 22 = .ok (.iastore, 1) := by decide +kernel
theorem dX5_settles_23 : decode cX5_settles 23 = .ok (.aload_n 0, 1) := by decide +kernel
theorem dX5_settles_24 : decode cX5_settles 24 = .ok (.getfield 16, 3) := by decide +kernel
theorem dX5_settles_27 : decode cX5_settles 27 = .ok (.iload_n 1, 1) := by decide +kernel
theorem dX5_settles_28 : decode cX5_settles 28 = .ok (.aload_n 0, 1) := by decide +kernel
theorem dX5_settles_29 : decode cX5_settles 29 = .ok (.getfield 16, 3) := by decide +kernel
theorem dX5_settles_32 : decode cX5_settles 32 = .ok (.bipush 6, 2) := by decide +kernel
theorem dX5_settles_34 : decode cX5_settles 34 = .ok (.iload_n 1, 1) := by decide +kernel
theorem dX5_settles_35 : decode cX5_settles 35 = .ok (.iadd, 1) := by decide +kernel
theorem dX5_settles_36 : decode cX5_settles 36 = .ok (.iaload, 1) := by decide +kernel
theorem dX5_settles_37 : decode cX5_settles 37 = .ok (.iastore, 1) := by decide +kernel
theorem dX5_settles_38 : decode cX5_settles 38 = .ok (.aload_n 0, 1) := by decide +kernel
theorem dX5_settles_39 : decode cX5_settles 39 = .ok (.getfield 19, 3) := by decide +kernel
theorem dX5_settles_42 : decode cX5_settles 42 = .ok (.iload_n 1, 1) := by decide +kernel
theorem dX5_settles_43 : decode cX5_settles 43 = .ok (.aload_n 0, 1) := by decide +kernel
theorem dX5_settles_44 : decode cX5_settles 44 = .ok (.getfield 19, 3) := by decide +kernel
theorem dX5_settles_47 : decode cX5_settles 47 = .ok (.bipush 6, 2) := by decide +kernel
theorem dX5_settles_49 : decode cX5_settles 49 = .ok (.iload_n 1, 1) := by decide +kernel
theorem dX5_settles_50 : decode cX5_settles 50 = .ok (.iadd, 1) := by decide +kernel
theorem dX5_settles_51 : decode cX5_settles 51 = .ok (.iaload, 1) := by decide +kernel
theorem dX5_settles_52 : decode cX5_settles 52 = .ok (.iastore, 1) := by decide +kernel
theorem dX5_settles_53 : decode cX5_settles 53 = .ok (.iinc 1 1, 3) := by decide +kernel
theorem dX5_settles_56 : decode cX5_settles 56 = .ok (.goto (-54), 3) := by decide +kernel
theorem dX5_settles_59 : decode cX5_settles 59 = .ok (.iconst 0, 1) := by decide +kernel
theorem dX5_settles_60 : decode cX5_settles 60 = .ok (.istore_n 1, 1) := by decide +kernel
theorem dX5_settles_61 : decode cX5_settles 61 = .ok (.iload_n 1, 1) := by decide +kernel
theorem dX5_settles_62 : decode cX5_settles 62 = .ok (.bipush 45, 2) := by decide +kernel
theorem dX5_settles_64 : decode cX5_settles 64 = .ok (.if_icmp .ge 16, 3) := by decide +kernel
theorem dX5_settles_67 : decode cX5_settles 67 = .ok (.aload_n 0, 1) := by decide +kernel
theorem dX5_settles_68 : decode cX5_settles 68 = .ok (.getfield 25, 3) := by decide +kernel
theorem dX5_settles_71 : decode cX5_settles 71 = .ok (.iload_n 1, 1) := by decide +kernel
theorem dX5_settles_72 : decode cX5_settles 72 = .ok (.iconst 0, 1) := by decide +kernel
theorem dX5_settles_73 : decode cX5_settles 73 = .ok (.iastore, 1) := by decide +kernel
theorem dX5_settles_74 : decode cX5_settles 74 = .ok (.iinc 1 1, 3) := by decide +kernel
theorem dX5_settles_77 : decode cX5_settles 77 = .ok (.goto (-16), 3) := by decide +kernel
theorem dX5_settles_80 : decode cX5_settles 80 = .ok (.iconst 0, 1) := by decide +kernel
theorem dX5_settles_81 : decode cX5_settles 81 = .ok (.istore_n 1, 1) := by decide +kernel
theorem dX5_settles_82 : decode cX5_settles 82 = .ok (.iload_n 1, 1) := by decide +kernel
theorem dX5_settles_83 : decode cX5_settles 83 = .ok (.aload_n 0, 1) := by decide +kernel
theorem dX5_settles_84 : decode cX5_settles 84 = .ok (.getfield 13, 3) := by decide +kernel
theorem dX5_settles_87 : decode cX5_settles 87 = .ok (.iconst 4, 1) := by decide +kernel
theorem dX5_settles_88 : decode cX5_settles 88 = .ok (.iaload, 1) := by decide +kernel
theorem dX5_settles_89 : decode cX5_settles 89 = .ok (.if_icmp .ge 23, 3) := by decide +kernel
theorem dX5_settles_92 : decode cX5_settles 92 = .ok (.aload_n 0, 1) := by decide +kernel
theorem dX5_settles_93 : decode cX5_settles 93 = .ok (.getfield 25, 3) := by decide +kernel
theorem dX5_settles_96 : decode cX5_settles 96 = .ok (.iconst 3, 1) := by decide +kernel
theorem dX5_settles_97 : decode cX5_settles 97 = .ok (.iload_n 1, 1) := by decide +kernel
theorem dX5_settles_98 : decode cX5_settles 98 = .ok (.iadd, 1) := by decide +kernel
theorem dX5_settles_99 : decode cX5_settles 99 = .ok (.aload_n 0, 1) := by decide +kernel
theorem dX5_settles_100 : decode cX5_settles 100 = .ok (.getfield 22, 3) := by decide +kernel
theorem dX5_settles_103 : decode cX5_settles 103 = .ok (.iload_n 1, 1) := by decide +kernel
theorem dX5_settles_104 : decode cX5_settles 104 = .ok (.iaload, 1) := by decide +kernel
theorem dX5_settles_105 : decode cX5_settles 105 = .ok (.iastore, 1) := by decide +kernel
theorem dX5_settles_106 : decode cX5_settles 106 = .ok (.iinc 1 1, 3) := by decide +kernel
theorem dX5_settles_109 : decode cX5_settles 109 = .ok (.goto (-27), 3) := by decide +kernel
theorem dX5_settles_112 : decode cX5_settles 112 = .ok (.aload_n 0, 1) := by decide +kernel
theorem dX5_settles_113 : decode cX5_settles 113 = .ok (.iconst 0, 1) := by decide +kernel
theorem dX5_settles_114 : decode cX5_settles 114 = .ok (.putfield 55, 3) := by decide +kernel
theorem dX5_settles_117 : decode cX5_settles 117 = .ok (.aload_n 0, 1) := by decide +kernel
theorem dX5_settles_118 : decode cX5_settles 118 = .ok (.iconst 0, 1) := by decide +kernel
theorem dX5_settles_119 : decode cX5_settles 119 = .ok (.putfield 113, 3) := by decide +kernel
theorem dX5_settles_122 : decode cX5_settles 122 = .ok (.aload_n 0, 1) := by decide +kernel
theorem dX5_settles_123 : decode cX5_settles 123 = .ok (.getfield 31, 3) := by decide +kernel
theorem dX5_settles_126 : decode cX5_settles 126 = .ok (.iconst 0, 1) := by decide +kernel
theorem dX5_settles_127 : decode cX5_settles 127 = .ok (.iconst 0, 1) := by decide +kernel
theorem dX5_settles_128 : decode cX5_settles 128 = .ok (.bastore, 1) := by decide +kernel
theorem dX5_settles_129 : decode cX5_settles 129 = .ok (.aload_n 0, 1) := by decide +kernel
theorem dX5_settles_130 : decode cX5_settles 130 = .ok (.getfield 31, 3) := by decide +kernel
theorem dX5_settles_133 : decode cX5_settles 133 = .ok (.iconst 1, 1) := by decide +kernel
theorem dX5_settles_134 : decode cX5_settles 134 = .ok (.iconst 0, 1) := by decide +kernel
theorem dX5_settles_135 : decode cX5_settles 135 = .ok (.bastore, 1) := by decide +kernel
theorem dX5_settles_136 : decode cX5_settles 136 = .ok (.return_, 1) := by decide +kernel
set_option maxRecDepth 20000 in
theorem ggX5_isIsle_X5_in : GoodIn wsX5_isIsle wsX5_in := goodIn_r _ [5] (by decide +kernel) (by decide +kernel)
set_option maxRecDepth 20000 in
theorem gX5_isIsle_X5_in : GoodIn wsX5_isIsle (va_wsS RX5 51 yX5_in wsX5_in) := goodIn_app (goodIn_of _ (by decide +kernel)) ggX5_isIsle_X5_in
theorem dX5_isIsle_0 : decode cX5_isIsle 0 = .ok (.iload_n 1, 1) := by decide +kernel
theorem dX5_isIsle_1 : decode cX5_isIsle 1 = .ok (.iconst 0, 1) := by decide +kernel
theorem dX5_isIsle_2 : decode cX5_isIsle 2 = .ok (.aload_n 0, 1) := by decide +kernel
theorem dX5_isIsle_3 : decode cX5_isIsle 3 = .ok (.getfield 13, 3) := by decide +kernel
theorem dX5_isIsle_6 : decode cX5_isIsle 6 = .ok (.iconst 2, 1) := by decide +kernel
theorem dX5_isIsle_7 : decode cX5_isIsle 7 = .ok (.iaload, 1) := by decide +kernel
theorem dX5_isIsle_8 : decode cX5_isIsle 8 = .ok (.iconst 1, 1) := by decide +kernel
theorem dX5_isIsle_9 : decode cX5_isIsle 9 = .ok (.isub, 1) := by decide +kernel
theorem dX5_isIsle_10 : decode cX5_isIsle 10 = .ok (.invokestatic 51, 3) := by decide +kernel
theorem dX5_isIsle_13 : decode cX5_isIsle 13 = .ok (.ireturn, 1) := by decide +kernel
set_option maxRecDepth 20000 in
theorem ggX5_isLetter_X5_in : GoodIn wsX5_isLetter wsX5_in := goodIn_r _ [5] (by decide +kernel) (by decide +kernel)
set_option maxRecDepth 20000 in
theorem gX5_isLetter_X5_in : GoodIn wsX5_isLetter (va_wsS RX5 51 yX5_in wsX5_in) := goodIn_app (goodIn_of _ (by decide +kernel)) ggX5_isLetter_X5_in
theorem dX5_isLetter_0 : decode cX5_isLetter 0 = .ok (.iload_n 1, 1) := by decide +kernel
theorem dX5_isLetter_1 : decode cX5_isLetter 1 = .ok (.iconst 0, 1) := by decide +kernel
theorem dX5_isLetter_2 : decode cX5_isLetter 2 = .ok (.aload_n 0, 1) := by decide +kernel
theorem dX5_isLetter_3 : decode cX5_isLetter 3 = .ok (.getfield 25, 3) := by decide +kernel
theorem dX5_isLetter_6 : decode cX5_isLetter 6 = .ok (.iconst 1, 1) := by decide +kernel
theorem dX5_isLetter_7 : decode cX5_isLetter 7 = .ok (.iaload, 1) := by decide +kernel
theorem dX5_isLetter_8 : decode cX5_isLetter 8 = .ok (.iconst 1, 1) := by decide +kernel
theorem dX5_isLetter_9 : decode cX5_isLetter 9 = .ok (.isub, 1) := by decide +kernel
theorem dX5_isLetter_10 : decode cX5_isLetter 10 = .ok (.invokestatic 51, 3) := by decide +kernel
theorem dX5_isLetter_13 : decode cX5_isLetter 13 = .ok (.ireturn, 1) := by decide +kernel
theorem dX5_isleAt_0 : decode cX5_isleAt 0 = .ok (.iconst 0, 1) := by decide +kernel
theorem dX5_isleAt_1 : decode cX5_isleAt 1 = .ok (.istore_n 2, 1) := by decide +kernel
theorem dX5_isleAt_2 : decode cX5_isleAt 2 = .ok (.iload_n 2, 1) := by decide +kernel
theorem dX5_isleAt_3 : decode cX5_isleAt 3 = .ok (.aload_n 0, 1) := by decide +kernel
theorem dX5_isleAt_4 : decode cX5_isleAt 4 = .ok (.getfield 13, 3) := by decide +kernel
theorem dX5_isleAt_7 : decode cX5_isleAt 7 = .ok (.iconst 2, 1) := by decide +kernel
theorem dX5_isleAt_8 : decode cX5_isleAt 8 = .ok (.iaload, 1) := by decide +kernel
theorem dX5_isleAt_9 : decode cX5_isleAt 9 = .ok (.if_icmp .ge 21, 3) := by decide +kernel
theorem dX5_isleAt_12 : decode cX5_isleAt 12 = .ok (.aload_n 0, 1) := by decide +kernel
theorem dX5_isleAt_13 : decode cX5_isleAt 13 = .ok (.getfield 16, 3) := by decide +kernel
theorem dX5_isleAt_16 : decode cX5_isleAt 16 = .ok (.iload_n 2, 1) := by decide +kernel
theorem dX5_isleAt_17 : decode cX5_isleAt 17 = .ok (.iaload, 1) := by decide +kernel
theorem dX5_isleAt_18 : decode cX5_isleAt 18 = .ok (.iload_n 1, 1) := by decide +kernel
theorem dX5_isleAt_19 : decode cX5_isleAt 19 = .ok (.if_icmp .ne 5, 3) := by decide +kernel
theorem dX5_isleAt_22 : decode cX5_isleAt 22 = .ok (.iload_n 2, 1) := by decide +kernel
theorem dX5_isleAt_23 : decode cX5_isleAt 23 = .ok (.ireturn, 1) := by decide +kernel
theorem dX5_isleAt_24 : decode cX5_isleAt 24 = .ok (.iinc 2 1, 3) := by decide +kernel
theorem dX5_isleAt_27 : decode cX5_isleAt 27 = .ok (.goto (-25), 3) := by decide +kernel
theorem dX5_isleAt_30 : decode cX5_isleAt 30 = .ok (.bipush (-9), 2) := by decide +kernel
theorem dX5_isleAt_32 : decode cX5_isleAt 32 = .ok (.ireturn, 1) := by decide +kernel
theorem dX5_isHill_0 : decode cX5_isHill 0 = .ok (.iconst 0, 1) := by decide +kernel
theorem dX5_isHill_1 : decode cX5_isHill 1 = .ok (.istore_n 2, 1) := by decide +kernel
theorem dX5_isHill_2 : decode cX5_isHill 2 = .ok (.iconst 0, 1) := by decide +kernel
theorem dX5_isHill_3 : decode cX5_isHill 3 = .ok (.istore_n 3, 1) := by decide +kernel
theorem dX5_isHill_4 : decode cX5_isHill 4 = .ok (.iload_n 3, 1) := by decide +kernel
theorem dX5_isHill_5 : decode cX5_isHill 5 = .ok (.aload_n 0, 1) := by decide +kernel
theorem dX5_isHill_6 : decode cX5_isHill 6 = .ok (.getfield 13, 3) := by decide +kernel
theorem dX5_isHill_9 : decode cX5_isHill 9 = .ok (.iconst 3, 1) := by decide +kernel
theorem dX5_isHill_10 : decode cX5_isHill 10 = .ok (.iaload, 1) := by decide +kernel
theorem dX5_isHill_11 : decode cX5_isHill 11 = .ok (.if_icmp .ge 29, 3) := by decide +kernel
theorem dX5_isHill_14 : decode cX5_isHill 14 = .ok (.iload_n 2, 1) := by decide +kernel
theorem dX5_isHill_15 : decode cX5_isHill 15 = .ok (.ifCond .ne 13, 3) := by decide +kernel
theorem dX5_isHill_18 : decode cX5_isHill 18 = .ok (.aload_n 0, 1) := by decide +kernel
theorem dX5_isHill_19 : decode cX5_isHill 19 = .ok (.getfield 19, 3) := by decide +kernel
theorem dX5_isHill_22 : decode cX5_isHill 22 = .ok (.iload_n 3, 1) := by decide +kernel
theorem dX5_isHill_23 : decode cX5_isHill 23 = .ok (.iaload, 1) := by decide +kernel
theorem dX5_isHill_24 : decode cX5_isHill 24 = .ok (.iload_n 1, 1) := by decide +kernel
theorem dX5_isHill_25 : decode cX5_isHill 25 = .ok (.if_icmp .ne 7, 3) := by decide +kernel
theorem dX5_isHill_28 : decode cX5_isHill 28 = .ok (.iconst 1, 1) := by decide +kernel
theorem dX5_isHill_29 : decode cX5_isHill 29 = .ok (.goto 4, 3) := by decide +kernel
theorem dX5_isHill_32 : decode cX5_isHill 32 = .ok (.iconst 0, 1) := by decide +kernel
theorem dX5_isHill_33 : decode cX5_isHill 33 = .ok (.istore_n 2, 1) := by decide +kernel
theorem dX5_isHill_34 : decode cX5_isHill 34 = .ok (.iinc 3 1, 3) := by decide +kernel
theorem dX5_isHill_37 : decode cX5_isHill 37 = .ok (.goto (-33), 3) := by decide +kernel
theorem dX5_isHill_40 : decode cX5_isHill 40 = .ok (.iload_n 2, 1) := by decide +kernel
theorem dX5_isHill_41 : decode cX5_isHill 41 = .ok (.ireturn, 1) := by decide +kernel
set_option maxRecDepth 20000 in
theorem ggX5_isle_X5_isIsle : GoodIn wsX5_isle wsX5_isIsle := goodIn_r _ [8, 9, 10, 11, 7, 12, 13, 14, 15, 16, 17, 18, 19, 20, 21, 22, 23, 24, 25, 26, 27, 28, 29, 30, 31, 32, 33, 34] (by decide +kernel) (by decide +kernel)
set_option maxRecDepth 20000 in
theorem gX5_isle_X5_isIsle : GoodIn wsX5_isle (wsV RX5 116 RX5 yX5_isIsle wsX5_isIsle) := goodIn_app (goodIn_of _ (by decide +kernel)) ggX5_isle_X5_isIsle
set_option maxRecDepth 20000 in
theorem ggX5_isle_X5_in : GoodIn wsX5_isle wsX5_in := goodIn_r _ [12] (by decide +kernel) (by decide +kernel)
set_option maxRecDepth 20000 in
theorem gX5_isle_X5_in : GoodIn wsX5_isle (va_wsS RX5 51 yX5_in wsX5_in) := goodIn_app (goodIn_of _ (by decide +kernel)) ggX5_isle_X5_in
theorem dX5_isle_0 : decode cX5_isle 0 = .ok (.aload_n 0, 1) := by decide +kernel
theorem dX5_isle_1 : decode cX5_isle 1 = .ok (.iconst 0, 1) := by decide +kernel
theorem dX5_isle_2 : decode cX5_isle 2 = .ok (.putfield 47, 3) := by decide +kernel
theorem dX5_isle_5 : decode cX5_isle 5 = .ok (.aload_n 0, 1) := by decide +kernel
theorem dX5_isle_6 : decode cX5_isle 6 = .ok (.iload_n 1, 1) := by decide +kernel
theorem dX5_isle_7 : decode cX5_isle 7 = .ok (.invokevirtual 116, 3) := by decide +kernel
theorem dX5_isle_10 : decode cX5_isle 10 = .ok (.ifCond .eq 12, 3) := by decide +kernel
theorem dX5_isle_13 : decode cX5_isle 13 = .ok (.iload_n 2, 1) := by decide +kernel
theorem dX5_isle_14 : decode cX5_isle 14 = .ok (.iconst 0, 1) := by decide +kernel
theorem dX5_isle_15 : decode cX5_isle 15 = .ok (.iconst 1, 1) := by decide +kernel
theorem dX5_isle_16 : decode cX5_isle 16 = .ok (.invokestatic 51, 3) := by decide +kernel
theorem dX5_isle_19 : decode cX5_isle 19 = .ok (.ifCond .ne 5, 3) := by decide +kernel
theorem dX5_isle_22 : decode cX5_isle 22 = .ok (.iconst (-1), 1) := by decide +kernel
theorem dX5_isle_23 : decode cX5_isle 23 = .ok (.ireturn, 1) := by decide +kernel
theorem dX5_isle_24 : decode cX5_isle 24 = .ok (.iload_n 2, 1) := by decide +kernel
theorem dX5_isle_25 : decode cX5_isle 25 = .ok (.ifCond .ne 12, 3) := by decide +kernel
theorem dX5_isle_28 : decode cX5_isle 28 = .ok (.aload_n 0, 1) := by decide +kernel
theorem dX5_isle_29 : decode cX5_isle 29 = .ok (.getfield 16, 3) := by decide +kernel
theorem dX5_isle_32 : decode cX5_isle 32 = .ok (.iload_n 1, 1) := by decide +kernel
theorem dX5_isle_33 : decode cX5_isle 33 = .ok (.iaload, 1) := by decide +kernel
theorem dX5_isle_34 : decode cX5_isle 34 = .ok (.goto 13, 3) := by decide +kernel
theorem dX5_isle_37 : decode cX5_isle 37 = .ok (.aload_n 0, 1) := by decide +kernel
theorem dX5_isle_38 : decode cX5_isle 38 = .ok (.getfield 25, 3) := by decide +kernel
theorem dX5_isle_41 : decode cX5_isle 41 = .ok (.iconst 2, 1) := by decide +kernel
theorem dX5_isle_42 : decode cX5_isle 42 = .ok (.iaload, 1) := by decide +kernel
theorem dX5_isle_43 : decode cX5_isle 43 = .ok (.iload_n 1, 1) := by decide +kernel
theorem dX5_isle_44 : decode cX5_isle 44 = .ok (.ishr, 1) := by decide +kernel
theorem dX5_isle_45 : decode cX5_isle 45 = .ok (.iconst 1, 1) := by decide +kernel
theorem dX5_isle_46 : decode cX5_isle 46 = .ok (.iand, 1) := by decide +kernel
theorem dX5_isle_47 : decode cX5_isle 47 = .ok (.ireturn, 1) := by decide +kernel
set_option maxRecDepth 20000 in
theorem ggX5_cell_X5_in : GoodIn wsX5_cell wsX5_in := goodIn_r _ [6] (by decide +kernel) (by decide +kernel)
set_option maxRecDepth 20000 in
theorem gX5_cell_X5_in : GoodIn wsX5_cell (va_wsS RX5 51 yX5_in wsX5_in) := goodIn_app (goodIn_of _ (by decide +kernel)) ggX5_cell_X5_in
set_option maxRecDepth 20000 in
theorem ggX5_cell_X5_isHill : GoodIn wsX5_cell wsX5_isHill := goodIn_r _ [10, 2, 11, 17, 18, 19, 20, 21, 22, 23, 24, 25, 26, 27, 28, 29, 30, 31, 32, 33, 34, 35, 36, 37, 38] (by decide +kernel) (by decide +kernel)
set_option maxRecDepth 20000 in
theorem gX5_cell_X5_isHill : GoodIn wsX5_cell (wsV RX5 119 RX5 yX5_isHill wsX5_isHill) := goodIn_app (goodIn_of _ (by decide +kernel)) ggX5_cell_X5_isHill
set_option maxRecDepth 20000 in
theorem ggX5_cell_X5_isleAt : GoodIn wsX5_cell wsX5_isleAt := goodIn_r _ [15, 2, 16, 17, 18, 19, 20, 21, 22, 23, 24, 25, 26, 27, 28, 29, 30, 31, 32, 33, 34, 35, 36, 37, 38] (by decide +kernel) (by decide +kernel)
set_option maxRecDepth 20000 in
theorem gX5_cell_X5_isleAt : GoodIn wsX5_cell (wsV RX5 122 RX5 yX5_isleAt wsX5_isleAt) := goodIn_app (goodIn_of _ (by decide +kernel)) ggX5_cell_X5_isleAt
theorem dX5_cell_0 : decode cX5_cell 0 = .ok (.aload_n 0, 1) := by decide +kernel
theorem dX5_cell_1 : decode cX5_cell 1 = .ok (.iconst 0, 1) := by decide +kernel
theorem dX5_cell_2 : decode cX5_cell 2 = .ok (.putfield 47, 3) := by decide +kernel
theorem dX5_cell_5 : decode cX5_cell 5 = .ok (.iload_n 1, 1) := by decide +kernel
theorem dX5_cell_6 : decode cX5_cell 6 = .ok (.iconst 0, 1) := by decide +kernel
theorem dX5_cell_7 : decode cX5_cell 7 = .ok (.aload_n 0, 1) := by decide +kernel
theorem dX5_cell_8 : decode cX5_cell 8 = .ok (.getfield 13, 3) := by decide +kernel
theorem dX5_cell_11 : decode cX5_cell 11 = .ok (.iconst 0, 1) := by decide +kernel
theorem dX5_cell_12 : decode cX5_cell 12 = .ok (.iaload, 1) := by decide +kernel
theorem dX5_cell_13 : decode cX5_cell 13 = .ok (.aload_n 0, 1) := by decide +kernel
theorem dX5_cell_14 : decode cX5_cell 14 = .ok (.getfield 13, 3) := by decide +kernel
theorem dX5_cell_17 : decode cX5_cell 17 = .ok (.iconst 1, 1) := by decide +kernel
theorem dX5_cell_18 : decode cX5_cell 18 = .ok (.iaload, 1) := by decide +kernel
theorem dX5_cell_19 : decode cX5_cell 19 = .ok (.imul, 1) := by decide +kernel
theorem dX5_cell_20 : decode cX5_cell 20 = .ok (.iconst 1, 1) := by decide +kernel
theorem dX5_cell_21 : decode cX5_cell 21 = .ok (.isub, 1) := by decide +kernel
theorem dX5_cell_22 : decode cX5_cell 22 = .ok (.invokestatic 51, 3) := by decide +kernel
theorem dX5_cell_25 : decode cX5_cell 25 = .ok (.ifCond .ne 5, 3) := by decide +kernel
theorem dX5_cell_28 : decode cX5_cell 28 = .ok (.iconst (-1), 1) := by decide +kernel
theorem dX5_cell_29 : decode cX5_cell 29 = .ok (.ireturn, 1) := by decide +kernel
theorem dX5_cell_30 : decode cX5_cell 30 = .ok (.aload_n 0, 1) := by decide +kernel
theorem dX5_cell_31 : decode cX5_cell 31 = .ok (.iload_n 1, 1) := by decide +kernel
theorem dX5_cell_32 : decode cX5_cell 32 = .ok (.invokevirtual 119, 3) := by decide +kernel
theorem dX5_cell_35 : decode cX5_cell 35 = .ok (.ifCond .eq 8, 3) := by decide +kernel
theorem dX5_cell_38 : decode cX5_cell 38 = .ok (.bipush (-5), 2) := by decide +kernel
theorem dX5_cell_40 : decode cX5_cell 40 = .ok (.goto 8, 3) := by decide +kernel
theorem dX5_cell_43 : decode cX5_cell 43 = .ok (.aload_n 0, 1) := by decide +kernel
theorem dX5_cell_44 : decode cX5_cell 44 = .ok (.iload_n 1, 1) := by decide +kernel
theorem dX5_cell_45 : decode cX5_cell 45 = .ok (.invokevirtual 122, 3) := by decide +kernel
theorem dX5_cell_48 : decode cX5_cell 48 = .ok (.ireturn, 1) := by decide +kernel
theorem dX5_windOf_0 : decode cX5_windOf 0 = .ok (.aload_n 0, 1) := by decide +kernel
theorem dX5_windOf_1 : decode cX5_windOf 1 = .ok (.getfield 13, 3) := by decide +kernel
theorem dX5_windOf_4 : decode cX5_windOf 4 = .ok (.iconst 4, 1) := by decide +kernel
theorem dX5_windOf_5 : decode cX5_windOf 5 = .ok (.iaload, 1) := by decide +kernel
theorem dX5_windOf_6 : decode cX5_windOf 6 = .ok (.ifCond .ne 5, 3) := by decide +kernel
theorem dX5_windOf_9 : decode cX5_windOf 9 = .ok (.iconst 4, 1) := by decide +kernel
theorem dX5_windOf_10 : decode cX5_windOf 10 = .ok (.ireturn, 1) := by decide +kernel
theorem dX5_windOf_11 : decode cX5_windOf 11 = .ok (.iload_n 1, 1) := by decide +kernel
theorem dX5_windOf_12 : decode cX5_windOf 12 = .ok (.aload_n 0, 1) := by decide +kernel
theorem dX5_windOf_13 : decode cX5_windOf 13 = .ok (.getfield 13, 3) := by decide +kernel
theorem dX5_windOf_16 : decode cX5_windOf 16 = .ok (.iconst 4, 1) := by decide +kernel
theorem dX5_windOf_17 : decode cX5_windOf 17 = .ok (.iaload, 1) := by decide +kernel
theorem dX5_windOf_18 : decode cX5_windOf 18 = .ok (.irem, 1) := by decide +kernel
theorem dX5_windOf_19 : decode cX5_windOf 19 = .ok (.istore_n 2, 1) := by decide +kernel
theorem dX5_windOf_20 : decode cX5_windOf 20 = .ok (.aload_n 0, 1) := by decide +kernel
theorem dX5_windOf_21 : decode cX5_windOf 21 = .ok (.getfield 25, 3) := by decide +kernel
theorem dX5_windOf_24 : decode cX5_windOf 24 = .ok (.iconst 3, 1) := by decide +kernel
theorem dX5_windOf_25 : decode cX5_windOf 25 = .ok (.iload_n 2, 1) := by decide +kernel
theorem dX5_windOf_26 : decode cX5_windOf 26 = .ok (.ifCond .ge 14, 3) := by decide +kernel
theorem dX5_windOf_29 : decode cX5_windOf 29 = .ok (.iload_n 2, 1) := by decide +kernel
theorem dX5_windOf_30 : decode cX5_windOf 30 = .ok (.aload_n 0, 1) := by decide +kernel
theorem dX5_windOf_31 : decode cX5_windOf 31 = .ok (.getfield 13, 3) := by decide +kernel
theorem dX5_windOf_34 : decode cX5_windOf 34 = .ok (.iconst 4, 1) := by decide +kernel
theorem dX5_windOf_35 : decode cX5_windOf 35 = .ok (.iaload, 1) := by decide +kernel
theorem dX5_windOf_36 : decode cX5_windOf 36 = .ok (.iadd, 1) := by decide +kernel
theorem dX5_windOf_37 : decode cX5_windOf 37 = .ok (.goto 4, 3) := by decide +kernel
theorem dX5_windOf_40 : decode cX5_windOf 40 = .ok (.iload_n 2, 1) := by decide +kernel
theorem dX5_windOf_41 : decode cX5_windOf 41 = .ok (.iadd, 1) := by decide +kernel
theorem dX5_windOf_42 : decode cX5_windOf 42 = .ok (.iaload, 1) := by decide +kernel
theorem dX5_windOf_43 : decode cX5_windOf 43 = .ok (.ireturn, 1) := by decide +kernel
set_option maxRecDepth 20000 in
theorem ggX5_wind_X5_in : GoodIn wsX5_wind wsX5_in := goodIn_r _ [6] (by decide +kernel) (by decide +kernel)
set_option maxRecDepth 20000 in
theorem gX5_wind_X5_in : GoodIn wsX5_wind (va_wsS RX5 51 yX5_in wsX5_in) := goodIn_app (goodIn_of _ (by decide +kernel)) ggX5_wind_X5_in
set_option maxRecDepth 20000 in
theorem ggX5_wind_X5_windOf : GoodIn wsX5_wind wsX5_windOf := goodIn_r _ [10, 11, 2, 12, 13, 14, 15, 16, 17, 18, 19, 20, 21, 22, 23, 24, 25, 26, 27, 28, 29, 30, 31, 32, 33] (by decide +kernel) (by decide +kernel)
set_option maxRecDepth 20000 in
theorem gX5_wind_X5_windOf : GoodIn wsX5_wind (wsV RX5 125 RX5 yX5_windOf wsX5_windOf) := goodIn_app (goodIn_of _ (by decide +kernel)) ggX5_wind_X5_windOf
theorem dX5_wind_0 : decode cX5_wind 0 = .ok (.aload_n 0, 1) := by decide +kernel
theorem dX5_wind_1 : decode cX5_wind 1 = .ok (.iconst 0, 1) := by decide +kernel
theorem dX5_wind_2 : decode cX5_wind 2 = .ok (.putfield 47, 3) := by decide +kernel
theorem dX5_wind_5 : decode cX5_wind 5 = .ok (.iload_n 1, 1) := by decide +kernel
theorem dX5_wind_6 : decode cX5_wind 6 = .ok (.iconst 0, 1) := by decide +kernel
theorem dX5_wind_7 : decode cX5_wind 7 = .ok (.sipush 400, 3) := by decide +kernel
theorem dX5_wind_10 : decode cX5_wind 10 = .ok (.invokestatic 51, 3) := by decide +kernel
theorem dX5_wind_13 : decode cX5_wind 13 = .ok (.ifCond .eq 18, 3) := by decide +kernel
theorem dX5_wind_16 : decode cX5_wind 16 = .ok (.aload_n 0, 1) := by decide +kernel
theorem dX5_wind_17 : decode cX5_wind 17 = .ok (.aload_n 0, 1) := by decide +kernel
theorem dX5_wind_18 : decode cX5_wind 18 = .ok (.getfield 25, 3) := by decide +kernel
theorem dX5_wind_21 : decode cX5_wind 21 = .ok (.iconst 0, 1) := by decide +kernel
theorem dX5_wind_22 : decode cX5_wind 22 = .ok (.iaload, 1) := by decide +kernel
theorem dX5_wind_23 : decode cX5_wind 23 = .ok (.iload_n 1, 1) := by decide +kernel
theorem dX5_wind_24 : decode cX5_wind 24 = .ok (.iadd, 1) := by decide +kernel
theorem dX5_wind_25 : decode cX5_wind 25 = .ok (.invokevirtual 125, 3) := by decide +kernel
theorem dX5_wind_28 : decode cX5_wind 28 = .ok (.goto 4, 3) := by decide +kernel
theorem dX5_wind_31 : decode cX5_wind 31 = .ok (.iconst (-1), 1) := by decide +kernel
theorem dX5_wind_32 : decode cX5_wind 32 = .ok (.ireturn, 1) := by decide +kernel
set_option maxRecDepth 20000 in
theorem ggX5_letter_X5_isLetter : GoodIn wsX5_letter wsX5_isLetter := goodIn_r _ [7, 2, 8, 9, 6, 10, 11, 12, 13, 14, 15, 16, 17, 18, 19, 20, 21, 22, 23, 24, 25, 26, 27, 28, 29, 30, 31, 32] (by decide +kernel) (by decide +kernel)
set_option maxRecDepth 20000 in
theorem gX5_letter_X5_isLetter : GoodIn wsX5_letter (wsV RX5 128 RX5 yX5_isLetter wsX5_isLetter) := goodIn_app (goodIn_of _ (by decide +kernel)) ggX5_letter_X5_isLetter
set_option maxRecDepth 20000 in
theorem ggX5_letter_X5_in : GoodIn wsX5_letter wsX5_in := goodIn_r _ [10] (by decide +kernel) (by decide +kernel)
set_option maxRecDepth 20000 in
theorem gX5_letter_X5_in : GoodIn wsX5_letter (va_wsS RX5 51 yX5_in wsX5_in) := goodIn_app (goodIn_of _ (by decide +kernel)) ggX5_letter_X5_in
theorem dX5_letter_0 : decode cX5_letter 0 = .ok (.aload_n 0, 1) := by decide +kernel
theorem dX5_letter_1 : decode cX5_letter 1 = .ok (.iconst 0, 1) := by decide +kernel
theorem dX5_letter_2 : decode cX5_letter 2 = .ok (.putfield 47, 3) := by decide +kernel
theorem dX5_letter_5 : decode cX5_letter 5 = .ok (.aload_n 0, 1) := by decide +kernel
theorem dX5_letter_6 : decode cX5_letter 6 = .ok (.iload_n 1, 1) := by decide +kernel
theorem dX5_letter_7 : decode cX5_letter 7 = .ok (.invokevirtual 128, 3) := by decide +kernel
theorem dX5_letter_10 : decode cX5_letter 10 = .ok (.ifCond .eq 29, 3) := by decide +kernel
theorem dX5_letter_13 : decode cX5_letter 13 = .ok (.iload_n 2, 1) := by decide +kernel
theorem dX5_letter_14 : decode cX5_letter 14 = .ok (.iconst 0, 1) := by decide +kernel
theorem dX5_letter_15 : decode cX5_letter 15 = .ok (.iconst 5, 1) := by decide +kernel
theorem dX5_letter_16 : decode cX5_letter 16 = .ok (.invokestatic 51, 3) := by decide +kernel
theorem dX5_letter_19 : decode cX5_letter 19 = .ok (.ifCond .eq 20, 3) := by decide +kernel
theorem dX5_letter_22 : decode cX5_letter 22 = .ok (.aload_n 0, 1) := by decide +kernel
theorem dX5_letter_23 : decode cX5_letter 23 = .ok (.getfield 25, 3) := by decide +kernel
theorem dX5_letter_26 : decode cX5_letter 26 = .ok (.bipush 15, 2) := by decide +kernel
theorem dX5_letter_28 : decode cX5_letter 28 = .ok (.bipush 6, 2) := by decide +kernel
theorem dX5_letter_30 : decode cX5_letter 30 = .ok (.iload_n 1, 1) := by decide +kernel
theorem dX5_letter_31 : decode cX5_letter 31 = .ok (.imul, 1) := by decide +kernel
theorem dX5_letter_32 : decode cX5_letter 32 = .ok (.iadd, 1) := by decide +kernel
theorem dX5_letter_33 : decode cX5_letter 33 = .ok (.iload_n 2, 1) := by decide +kernel
theorem dX5_letter_34 : decode cX5_letter 34 = .ok (.iadd, 1) := by decide +kernel
theorem dX5_letter_35 : decode cX5_letter 35 = .ok (.iaload, 1) := by decide +kernel
theorem dX5_letter_36 : decode cX5_letter 36 = .ok (.goto 4, 3) := by decide +kernel
theorem dX5_letter_39 : decode cX5_letter 39 = .ok (.iconst (-1), 1) := by decide +kernel
theorem dX5_letter_40 : decode cX5_letter 40 = .ok (.ireturn, 1) := by decide +kernel
set_option maxRecDepth 20000 in
theorem ggX5_now_X5_in : GoodIn wsX5_now wsX5_in := goodIn_r _ [7] (by decide +kernel) (by decide +kernel)
set_option maxRecDepth 20000 in
theorem gX5_now_X5_in : GoodIn wsX5_now (va_wsS RX5 51 yX5_in wsX5_in) := goodIn_app (goodIn_of _ (by decide +kernel)) ggX5_now_X5_in
theorem dX5_now_0 : decode cX5_now 0 = .ok (.aload_n 0, 1) := by decide +kernel
theorem dX5_now_1 : decode cX5_now 1 = .ok (.iconst 0, 1) := by decide +kernel
theorem dX5_now_2 : decode cX5_now 2 = .ok (.putfield 47, 3) := by decide +kernel
theorem dX5_now_5 : decode cX5_now 5 = .ok (.iload_n 1, 1) := by decide +kernel
theorem dX5_now_6 : decode cX5_now 6 = .ok (.iconst 0, 1) := by decide +kernel
theorem dX5_now_7 : decode cX5_now 7 = .ok (.iconst 4, 1) := by decide +kernel
theorem dX5_now_8 : decode cX5_now 8 = .ok (.invokestatic 51, 3) := by decide +kernel
theorem dX5_now_11 : decode cX5_now 11 = .ok (.ifCond .ne 5, 3) := by decide +kernel
theorem dX5_now_14 : decode cX5_now 14 = .ok (.iconst (-1), 1) := by decide +kernel
theorem dX5_now_15 : decode cX5_now 15 = .ok (.ireturn, 1) := by decide +kernel
theorem dX5_now_16 : decode cX5_now 16 = .ok (.iconst 0, 1) := by decide +kernel
theorem dX5_now_17 : decode cX5_now 17 = .ok (.istore_n 2, 1) := by decide +kernel
theorem dX5_now_18 : decode cX5_now 18 = .ok (.iconst 0, 1) := by decide +kernel
theorem dX5_now_19 : decode cX5_now 19 = .ok (.istore_n 3, 1) := by decide +kernel
theorem dX5_now_20 : decode cX5_now 20 = .ok (.iload_n 3, 1) := by decide +kernel
theorem dX5_now_21 : decode cX5_now 21 = .ok (.aload_n 0, 1) := by decide +kernel
theorem dX5_now_22 : decode cX5_now 22 = .ok (.getfield 25, 3) := by decide +kernel
theorem dX5_now_25 : decode cX5_now 25 = .ok (.iconst 1, 1) := by decide +kernel
theorem dX5_now_26 : decode cX5_now 26 = .ok (.iaload, 1) := by decide +kernel
theorem dX5_now_27 : decode cX5_now 27 = .ok (.if_icmp .ge 36, 3) := by decide +kernel
theorem dX5_now_30 : decode cX5_now 30 = .ok (.iload_n 2, 1) := by decide +kernel
theorem dX5_now_31 : decode cX5_now 31 = .ok (.aload_n 0, 1) := by decide +kernel
theorem dX5_now_32 : decode cX5_now 32 = .ok (.getfield 25, 3) := by decide +kernel
theorem dX5_now_35 : decode cX5_now 35 = .ok (.bipush 15, 2) := by decide +kernel
theorem dX5_now_37 : decode cX5_now 37 = .ok (.bipush 6, 2) := by decide +kernel
theorem dX5_now_39 : decode cX5_now 39 = .ok (.iload_n 3, 1) := by decide +kernel
theorem dX5_now_40 : decode cX5_now 40 = .ok (.imul, 1) := by decide +kernel
theorem dX5_now_41 : decode cX5_now 41 = .ok (.iadd, 1) := by decide +kernel
theorem dX5_now_42 : decode cX5_now 42 = .ok (.iconst 5, 1) := by decide +kernel
theorem dX5_now_43 : decode cX5_now 43 = .ok (.iadd, 1) := by decide +kernel
theorem dX5_now_44 : decode cX5_now 44 = .ok (.iaload, 1) := by decide +kernel
theorem dX5_now_45 : decode cX5_now 45 = .ok (.ifCond .ne 9, 3) := by decide +kernel
theorem dX5_now_48 : decode cX5_now 48 = .ok (.iconst 1, 1) := by decide +kernel
theorem dX5_now_49 : decode cX5_now 49 = .ok (.iload_n 3, 1) := by decide +kernel
theorem dX5_now_50 : decode cX5_now 50 = .ok (.ishl, 1) := by decide +kernel
theorem dX5_now_51 : decode cX5_now 51 = .ok (.goto 4, 3) := by decide +kernel
theorem dX5_now_54 : decode cX5_now 54 = .ok (.iconst 0, 1) := by decide +kernel
theorem dX5_now_55 : decode cX5_now 55 = .ok (.ior, 1) := by decide +kernel
theorem dX5_now_56 : decode cX5_now 56 = .ok (.istore_n 2, 1) := by decide +kernel
theorem dX5_now_57 : decode cX5_now 57 = .ok (.iinc 3 1, 3) := by decide +kernel
theorem dX5_now_60 : decode cX5_now 60 = .ok (.goto (-40), 3) := by decide +kernel
theorem dX5_now_63 : decode cX5_now 63 = .ok (.iload_n 1, 1) := by decide +kernel
theorem dX5_now_64 : decode cX5_now 64 = .ok (.iconst 2, 1) := by decide +kernel
theorem dX5_now_65 : decode cX5_now 65 = .ok (.if_icmp .ge 12, 3) := by decide +kernel
theorem dX5_now_68 : decode cX5_now 68 = .ok (.aload_n 0, 1) := by decide +kernel
theorem dX5_now_69 : decode cX5_now 69 = .ok (.getfield 25, 3) := by decide +kernel
theorem dX5_now_72 : decode cX5_now 72 = .ok (.iload_n 1, 1) := by decide +kernel
theorem dX5_now_73 : decode cX5_now 73 = .ok (.iaload, 1) := by decide +kernel
theorem dX5_now_74 : decode cX5_now 74 = .ok (.goto 30, 3) := by decide +kernel
theorem dX5_now_77 : decode cX5_now 77 = .ok (.iload_n 1, 1) := by decide +kernel
theorem dX5_now_78 : decode cX5_now 78 = .ok (.iconst 2, 1) := by decide +kernel
theorem dX5_now_79 : decode cX5_now 79 = .ok (.if_icmp .ne 7, 3) := by decide +kernel
theorem dX5_now_82 : decode cX5_now 82 = .ok (.iload_n 2, 1) := by decide +kernel
theorem dX5_now_83 : decode cX5_now 83 = .ok (.goto 21, 3) := by decide +kernel
theorem dX5_now_86 : decode cX5_now 86 = .ok (.iload_n 1, 1) := by decide +kernel
theorem dX5_now_87 : decode cX5_now 87 = .ok (.iconst 3, 1) := by decide +kernel
theorem dX5_now_88 : decode cX5_now 88 = .ok (.if_icmp .ne 12, 3) := by decide +kernel
theorem dX5_now_91 : decode cX5_now 91 = .ok (.aload_n 0, 1) := by decide +kernel
theorem dX5_now_92 : decode cX5_now 92 = .ok (.getfield 25, 3) := by decide +kernel
theorem dX5_now_95 : decode cX5_now 95 = .ok (.iconst 2, 1) := by decide +kernel
theorem dX5_now_96 : decode cX5_now 96 = .ok (.iaload, 1) := by decide +kernel
theorem dX5_now_97 : decode cX5_now 97 = .ok (.goto 7, 3) := by decide +kernel
theorem dX5_now_100 : decode cX5_now 100 = .ok (.aload_n 0, 1) := by decide +kernel
theorem dX5_now_101 : decode cX5_now 101 = .ok (.getfield 113, 3) := by decide +kernel
theorem dX5_now_104 : decode cX5_now 104 = .ok (.ireturn, 1) := by decide +kernel
theorem dX5_notes_0 : decode cX5_notes 0 = .ok (.aload_n 0, 1) := by decide +kernel
theorem dX5_notes_1 : decode cX5_notes 1 = .ok (.getfield 113, 3) := by decide +kernel
theorem dX5_notes_4 : decode cX5_notes 4 = .ok (.bipush 10, 2) := by decide +kernel
theorem dX5_notes_6 : decode cX5_notes 6 = .ok (.if_icmp .ne 39, 3) := by decide +kernel
theorem dX5_notes_9 : decode cX5_notes 9 = .ok (.iconst 0, 1) := by decide +kernel
theorem dX5_notes_10 : decode cX5_notes 10 = .ok (.istore_n 1, 1) := by decide +kernel
theorem dX5_notes_11 : decode cX5_notes 11 = .ok (.iload_n 1, 1) := by decide +kernel
theorem dX5_notes_12 : decode cX5_notes 12 = .ok (.sipush 405, 3) := by decide +kernel
theorem dX5_notes_15 : decode cX5_notes 15 = .ok (.if_icmp .ge 24, 3) := by decide +kernel
theorem dX5_notes_18 : decode cX5_notes 18 = .ok (.aload_n 0, 1) := by decide +kernel
theorem dX5_notes_19 : decode cX5_notes 19 = .ok (.getfield 35, 3) := by decide +kernel
theorem dX5_notes_22 : decode cX5_notes 22 = .ok (.iload_n 1, 1) := by decide +kernel
theorem dX5_notes_23 : decode cX5_notes 23 = .ok (.aload_n 0, 1) := by decide +kernel
theorem dX5_notes_24 : decode cX5_notes 24 = .ok (.getfield 35, 3) := by decide +kernel
theorem dX5_notes_27 : decode cX5_notes 27 = .ok (.iload_n 1, 1) := by decide +kernel
theorem dX5_notes_28 : decode cX5_notes 28 = .ok (.bipush 45, 2) := by decide +kernel
theorem dX5_notes_30 : decode cX5_notes 30 = .ok (.iadd, 1) := by decide +kernel
theorem dX5_notes_31 : decode cX5_notes 31 = .ok (.iaload, 1) := by decide +kernel
theorem dX5_notes_32 : decode cX5_notes 32 = .ok (.iastore, 1) := by decide +kernel
theorem dX5_notes_33 : decode cX5_notes 33 = .ok (.iinc 1 1, 3) := by decide +kernel
theorem dX5_notes_36 : decode cX5_notes 36 = .ok (.goto (-25), 3) := by decide +kernel
theorem dX5_notes_39 : decode cX5_notes 39 = .ok (.aload_n 0, 1) := by decide +kernel
theorem dX5_notes_40 : decode cX5_notes 40 = .ok (.bipush 9, 2) := by decide +kernel
theorem dX5_notes_42 : decode cX5_notes 42 = .ok (.putfield 113, 3) := by decide +kernel
theorem dX5_notes_45 : decode cX5_notes 45 = .ok (.iconst 0, 1) := by decide +kernel
theorem dX5_notes_46 : decode cX5_notes 46 = .ok (.istore_n 1, 1) := by decide +kernel
theorem dX5_notes_47 : decode cX5_notes 47 = .ok (.iload_n 1, 1) := by decide +kernel
theorem dX5_notes_48 : decode cX5_notes 48 = .ok (.bipush 45, 2) := by decide +kernel
theorem dX5_notes_50 : decode cX5_notes 50 = .ok (.if_icmp .ge 29, 3) := by decide +kernel
theorem dX5_notes_53 : decode cX5_notes 53 = .ok (.aload_n 0, 1) := by decide +kernel
theorem dX5_notes_54 : decode cX5_notes 54 = .ok (.getfield 35, 3) := by decide +kernel
theorem dX5_notes_57 : decode cX5_notes 57 = .ok (.bipush 45, 2) := by decide +kernel
theorem dX5_notes_59 : decode cX5_notes 59 = .ok (.aload_n 0, 1) := by decide +kernel
theorem dX5_notes_60 : decode cX5_notes 60 = .ok (.getfield 113, 3) := by decide +kernel
theorem dX5_notes_63 : decode cX5_notes 63 = .ok (.imul, 1) := by decide +kernel
theorem dX5_notes_64 : decode cX5_notes 64 = .ok (.iload_n 1, 1) := by decide +kernel
theorem dX5_notes_65 : decode cX5_notes 65 = .ok (.iadd, 1) := by decide +kernel
theorem dX5_notes_66 : decode cX5_notes 66 = .ok (.aload_n 0, 1) := by decide +kernel
theorem dX5_notes_67 : decode cX5_notes 67 = .ok (.getfield 25, 3) := by decide +kernel
theorem dX5_notes_70 : decode cX5_notes 70 = .ok (.iload_n 1, 1) := by decide +kernel
theorem dX5_notes_71 : decode cX5_notes 71 = .ok (.iaload, 1) := by decide +kernel
theorem dX5_notes_72 : decode cX5_notes 72 = .ok (.iastore, 1) := by decide +kernel
theorem dX5_notes_73 : decode cX5_notes 73 = .ok (.iinc 1 1, 3) := by decide +kernel
theorem dX5_notes_76 : decode cX5_notes 76 = .ok (.goto (-29), 3) := by decide +kernel
theorem dX5_notes_79 : decode cX5_notes 79 = .ok (.aload_n 0, 1) := by decide +kernel
theorem dX5_notes_80 : decode cX5_notes 80 = .ok (.dup, 1) := by decide +kernel
theorem dX5_notes_81 : decode cX5_notes 81 = .ok (.getfield 113, 3) := by decide +kernel
theorem dX5_notes_84 : decode cX5_notes 84 = .ok (.iconst 1, 1) := by decide +kernel
theorem dX5_notes_85 : decode cX5_notes 85 = .ok (.iadd, 1) := by decide +kernel
theorem dX5_notes_86 : decode cX5_notes 86 = .ok (.putfield 113, 3) := by decide +kernel
theorem dX5_notes_89 : decode cX5_notes 89 = .ok (.return_, 1) := by decide +kernel
theorem dX5_puts_0 : decode cX5_puts 0 = .ok (.aload_n 1, 1) := by decide +kernel
theorem dX5_puts_1 : decode cX5_puts 1 = .ok (.iload_n 2, 1) := by decide +kernel
theorem dX5_puts_2 : decode cX5_puts 2 = .ok (.iload 5, 2) := by decide +kernel
theorem dX5_puts_4 : decode cX5_puts 4 = .ok (.iastore, 1) := by decide +kernel
theorem dX5_puts_5 : decode cX5_puts 5 = .ok (.aload_n 1, 1) := by decide +kernel
theorem dX5_puts_6 : decode cX5_puts 6 = .ok (.iload_n 2, 1) := by decide +kernel
theorem dX5_puts_7 : decode cX5_puts 7 = .ok (.iconst 1, 1) := by decide +kernel
theorem dX5_puts_8 : decode cX5_puts 8 = .ok (.iadd, 1) := by decide +kernel
theorem dX5_puts_9 : decode cX5_puts 9 = .ok (.iload_n 3, 1) := by decide +kernel
theorem dX5_puts_10 : decode cX5_puts 10 = .ok (.iastore, 1) := by decide +kernel
theorem dX5_puts_11 : decode cX5_puts 11 = .ok (.aload_n 1, 1) := by decide +kernel
theorem dX5_puts_12 : decode cX5_puts 12 = .ok (.iload_n 2, 1) := by decide +kernel
theorem dX5_puts_13 : decode cX5_puts 13 = .ok (.iconst 2, 1) := by decide +kernel
theorem dX5_puts_14 : decode cX5_puts 14 = .ok (.iadd, 1) := by decide +kernel
theorem dX5_puts_15 : decode cX5_puts 15 = .ok (.iload 4, 2) := by decide +kernel
theorem dX5_puts_17 : decode cX5_puts 17 = .ok (.iastore, 1) := by decide +kernel
theorem dX5_puts_18 : decode cX5_puts 18 = .ok (.aload_n 1, 1) := by decide +kernel
theorem dX5_puts_19 : decode cX5_puts 19 = .ok (.iload_n 2, 1) := by decide +kernel
theorem dX5_puts_20 : decode cX5_puts 20 = .ok (.iconst 3, 1) := by decide +kernel
theorem dX5_puts_21 : decode cX5_puts 21 = .ok (.iadd, 1) := by decide +kernel
theorem dX5_puts_22 : decode cX5_puts 22 = .ok (.aload_n 0, 1) := by decide +kernel
theorem dX5_puts_23 : decode cX5_puts 23 = .ok (.getfield 16, 3) := by decide +kernel
theorem dX5_puts_26 : decode cX5_puts 26 = .ok (.iload_n 3, 1) := by decide +kernel
theorem dX5_puts_27 : decode cX5_puts 27 = .ok (.iaload, 1) := by decide +kernel
theorem dX5_puts_28 : decode cX5_puts 28 = .ok (.iastore, 1) := by decide +kernel
theorem dX5_puts_29 : decode cX5_puts 29 = .ok (.aload_n 1, 1) := by decide +kernel
theorem dX5_puts_30 : decode cX5_puts 30 = .ok (.iload_n 2, 1) := by decide +kernel
theorem dX5_puts_31 : decode cX5_puts 31 = .ok (.iconst 4, 1) := by decide +kernel
theorem dX5_puts_32 : decode cX5_puts 32 = .ok (.iadd, 1) := by decide +kernel
theorem dX5_puts_33 : decode cX5_puts 33 = .ok (.iconst 1, 1) := by decide +kernel
theorem dX5_puts_34 : decode cX5_puts 34 = .ok (.iload_n 3, 1) := by decide +kernel
theorem dX5_puts_35 : decode cX5_puts 35 = .ok (.ishl, 1) := by decide +kernel
theorem dX5_puts_36 : decode cX5_puts 36 = .ok (.iastore, 1) := by decide +kernel
theorem dX5_puts_37 : decode cX5_puts 37 = .ok (.aload_n 1, 1) := by decide +kernel
theorem dX5_puts_38 : decode cX5_puts 38 = .ok (.iload_n 2, 1) := by decide +kernel
theorem dX5_puts_39 : decode cX5_puts 39 = .ok (.iconst 5, 1) := by decide +kernel
theorem dX5_puts_40 : decode cX5_puts 40 = .ok (.iadd, 1) := by decide +kernel
theorem dX5_puts_41 : decode cX5_puts 41 = .ok (.iconst 0, 1) := by decide +kernel
theorem dX5_puts_42 : decode cX5_puts 42 = .ok (.iastore, 1) := by decide +kernel
theorem dX5_puts_43 : decode cX5_puts 43 = .ok (.return_, 1) := by decide +kernel
set_option maxRecDepth 20000 in
theorem ggX5_areTwo_X5_isIsle : GoodIn wsX5_areTwo wsX5_isIsle := goodIn_r _ [5, 6, 7, 8, 4, 9, 10, 11, 12, 13, 14, 15, 16, 17, 18, 19, 20, 21, 22, 23, 24, 25, 26, 27, 28, 29, 30, 31] (by decide +kernel) (by decide +kernel)
set_option maxRecDepth 20000 in
theorem gX5_areTwo_X5_isIsle : GoodIn wsX5_areTwo (wsV RX5 116 RX5 yX5_isIsle wsX5_isIsle) := goodIn_app (goodIn_of _ (by decide +kernel)) ggX5_areTwo_X5_isIsle
theorem dX5_areTwo_0 : decode cX5_areTwo 0 = .ok (.aload_n 0, 1) := by decide +kernel
theorem dX5_areTwo_1 : decode cX5_areTwo 1 = .ok (.iload_n 1, 1) := by decide +kernel
theorem dX5_areTwo_2 : decode cX5_areTwo 2 = .ok (.invokevirtual 116, 3) := by decide +kernel
theorem dX5_areTwo_5 : decode cX5_areTwo 5 = .ok (.ifCond .eq 20, 3) := by decide +kernel
theorem dX5_areTwo_8 : decode cX5_areTwo 8 = .ok (.aload_n 0, 1) := by decide +kernel
theorem dX5_areTwo_9 : decode cX5_areTwo 9 = .ok (.iload_n 2, 1) := by decide +kernel
theorem dX5_areTwo_10 : decode cX5_areTwo 10 = .ok (.invokevirtual 116, 3) := by decide +kernel
theorem dX5_areTwo_13 : decode cX5_areTwo 13 = .ok (.ifCond .eq 12, 3) := by decide +kernel
theorem dX5_areTwo_16 : decode cX5_areTwo 16 = .ok (.iload_n 1, 1) := by decide +kernel
theorem dX5_areTwo_17 : decode cX5_areTwo 17 = .ok (.iload_n 2, 1) := by decide +kernel
theorem dX5_areTwo_18 : decode cX5_areTwo 18 = .ok (.if_icmp .eq 7, 3) := by decide +kernel
theorem dX5_areTwo_21 : decode cX5_areTwo 21 = .ok (.iconst 1, 1) := by decide +kernel
theorem dX5_areTwo_22 : decode cX5_areTwo 22 = .ok (.goto 4, 3) := by decide +kernel
theorem dX5_areTwo_25 : decode cX5_areTwo 25 = .ok (.iconst 0, 1) := by decide +kernel
theorem dX5_areTwo_26 : decode cX5_areTwo 26 = .ok (.ireturn, 1) := by decide +kernel
set_option maxRecDepth 20000 in
theorem ggX5_lets_X5_areTwo : GoodIn wsX5_lets wsX5_areTwo := goodIn_r _ [7, 8, 9, 10, 6, 11, 12, 13, 14, 15, 27, 28, 29, 30, 31, 32, 33, 34, 35, 36, 37, 38, 39, 40, 41, 42, 43, 44, 45, 46, 47, 48] (by decide +kernel) (by decide +kernel)
set_option maxRecDepth 20000 in
theorem gX5_lets_X5_areTwo : GoodIn wsX5_lets (wsV RX5 131 RX5 yX5_areTwo wsX5_areTwo) := goodIn_app (goodIn_of _ (by decide +kernel)) ggX5_lets_X5_areTwo
set_option maxRecDepth 20000 in
theorem ggX5_lets_X5_in : GoodIn wsX5_lets wsX5_in := goodIn_r _ [15] (by decide +kernel) (by decide +kernel)
set_option maxRecDepth 20000 in
theorem gX5_lets_X5_in : GoodIn wsX5_lets (va_wsS RX5 51 yX5_in wsX5_in) := goodIn_app (goodIn_of _ (by decide +kernel)) ggX5_lets_X5_in
set_option maxRecDepth 20000 in
theorem ggX5_lets_X5_notes : GoodIn wsX5_lets wsX5_notes := goodIn_r _ [19, 20, 21, 2, 27, 28, 29, 30, 31, 32, 33, 34, 35, 36, 37, 38, 39, 40, 41, 42, 43, 44, 45, 46, 47, 48] (by decide +kernel) (by decide +kernel)
set_option maxRecDepth 20000 in
theorem gX5_lets_X5_notes : GoodIn wsX5_lets (wsV RX5 135 RX5 yX5_notes wsX5_notes) := goodIn_app (goodIn_of _ (by decide +kernel)) ggX5_lets_X5_notes
set_option maxRecDepth 20000 in
theorem ggX5_lets_X5_puts : GoodIn wsX5_lets wsX5_puts := goodIn_r _ [25, 26, 27, 28, 29, 30, 31, 32, 33, 34, 35, 36, 37, 38, 39, 40, 41, 42, 43, 44, 45, 46, 47, 48] (by decide +kernel) (by decide +kernel)
set_option maxRecDepth 20000 in
theorem gX5_lets_X5_puts : GoodIn wsX5_lets (wsV RX5 138 RX5 yX5_puts wsX5_puts) := goodIn_app (goodIn_of _ (by decide +kernel)) ggX5_lets_X5_puts
theorem dX5_lets_0 : decode cX5_lets 0 = .ok (.aload_n 0, 1) := by decide +kernel
theorem dX5_lets_1 : decode cX5_lets 1 = .ok (.iconst 0, 1) := by decide +kernel
theorem dX5_lets_2 : decode cX5_lets 2 = .ok (.putfield 47, 3) := by decide +kernel
theorem dX5_lets_5 : decode cX5_lets 5 = .ok (.aload_n 0, 1) := by decide +kernel
theorem dX5_lets_6 : decode cX5_lets 6 = .ok (.iload_n 1, 1) := by decide +kernel
theorem dX5_lets_7 : decode cX5_lets 7 = .ok (.iload_n 2, 1) := by decide +kernel
theorem dX5_lets_8 : decode cX5_lets 8 = .ok (.invokevirtual 131, 3) := by decide +kernel
theorem dX5_lets_11 : decode cX5_lets 11 = .ok (.ifCond .eq 12, 3) := by decide +kernel
theorem dX5_lets_14 : decode cX5_lets 14 = .ok (.iload_n 3, 1) := by decide +kernel
theorem dX5_lets_15 : decode cX5_lets 15 = .ok (.iconst 1, 1) := by decide +kernel
theorem dX5_lets_16 : decode cX5_lets 16 = .ok (.iconst 5, 1) := by decide +kernel
theorem dX5_lets_17 : decode cX5_lets 17 = .ok (.invokestatic 51, 3) := by decide +kernel
theorem dX5_lets_20 : decode cX5_lets 20 = .ok (.ifCond .ne 5, 3) := by decide +kernel
theorem dX5_lets_23 : decode cX5_lets 23 = .ok (.iconst (-1), 1) := by decide +kernel
theorem dX5_lets_24 : decode cX5_lets 24 = .ok (.ireturn, 1) := by decide +kernel
theorem dX5_lets_25 : decode cX5_lets 25 = .ok (.aload_n 0, 1) := by decide +kernel
theorem dX5_lets_26 : decode cX5_lets 26 = .ok (.getfield 25, 3) := by decide +kernel
theorem dX5_lets_29 : decode cX5_lets 29 = .ok (.iconst 1, 1) := by decide +kernel
theorem dX5_lets_30 : decode cX5_lets 30 = .ok (.iaload, 1) := by decide +kernel
theorem dX5_lets_31 : decode cX5_lets 31 = .ok (.iconst 5, 1) := by decide +kernel
theorem dX5_lets_32 : decode cX5_lets 32 = .ok (.if_icmp .ne 6, 3) := by decide +kernel
theorem dX5_lets_35 : decode cX5_lets 35 = .ok (.bipush (-3), 2) := by decide +kernel
theorem dX5_lets_37 : decode cX5_lets 37 = .ok (.ireturn, 1) := by decide +kernel
theorem dX5_lets_38 : decode cX5_lets 38 = .ok (.aload_n 0, 1) := by decide +kernel
theorem dX5_lets_39 : decode cX5_lets 39 = .ok (.invokevirtual 135, 3) := by decide +kernel
theorem dX5_lets_42 : decode cX5_lets 42 = .ok (.aload_n 0, 1) := by decide +kernel
theorem dX5_lets_43 : decode cX5_lets 43 = .ok (.aload_n 0, 1) := by decide +kernel
theorem dX5_lets_44 : decode cX5_lets 44 = .ok (.getfield 25, 3) := by decide +kernel
theorem dX5_lets_47 : decode cX5_lets 47 = .ok (.bipush 15, 2) := by decide +kernel
theorem dX5_lets_49 : decode cX5_lets 49 = .ok (.bipush 6, 2) := by decide +kernel
theorem dX5_lets_51 : decode cX5_lets 51 = .ok (.aload_n 0, 1) := by decide +kernel
theorem dX5_lets_52 : decode cX5_lets 52 = .ok (.getfield 25, 3) := by decide +kernel
theorem dX5_lets_55 : decode cX5_lets 55 = .ok (.iconst 1, 1) := by decide +kernel
theorem dX5_lets_56 : decode cX5_lets 56 = .ok (.iaload, 1) := by decide +kernel
theorem dX5_lets_57 : decode cX5_lets 57 = .ok (.imul, 1) := by decide +kernel
theorem dX5_lets_58 : decode cX5_lets 58 = .ok (.iadd, 1) := by decide +kernel
theorem dX5_lets_59 : decode cX5_lets 59 = .ok (.iload_n 1, 1) := by decide +kernel
theorem dX5_lets_60 : decode cX5_lets 60 = .ok (.iload_n 2, 1) := by decide +kernel
theorem dX5_lets_61 : decode cX5_lets 61 = .ok (.iload_n 3, 1) := by decide +kernel
theorem dX5_lets_62 : decode cX5_lets 62 = .ok (.invokevirtual 138, 3) := by decide +kernel
theorem dX5_lets_65 : decode cX5_lets 65 = .ok (.aload_n 0, 1) := by decide +kernel
theorem dX5_lets_66 : decode cX5_lets 66 = .ok (.getfield 25, 3) := by decide +kernel
theorem dX5_lets_69 : decode cX5_lets 69 = .ok (.iconst 1, 1) := by decide +kernel
theorem dX5_lets_70 : decode cX5_lets 70 = .ok (.dup2, 1) := by decide +kernel
theorem dX5_lets_71 : decode cX5_lets 71 = .ok (.iaload, 1) := by decide +kernel
theorem dX5_lets_72 : decode cX5_lets 72 = .ok (.iconst 1, 1) := by decide +kernel
theorem dX5_lets_73 : decode cX5_lets 73 = .ok (.iadd, 1) := by decide +kernel
theorem dX5_lets_74 : decode cX5_lets 74 = .ok (.iastore, 1) := by decide +kernel
theorem dX5_lets_75 : decode cX5_lets 75 = .ok (.aload_n 0, 1) := by decide +kernel
theorem dX5_lets_76 : decode cX5_lets 76 = .ok (.getfield 25, 3) := by decide +kernel
theorem dX5_lets_79 : decode cX5_lets 79 = .ok (.iconst 1, 1) := by decide +kernel
theorem dX5_lets_80 : decode cX5_lets 80 = .ok (.iaload, 1) := by decide +kernel
theorem dX5_lets_81 : decode cX5_lets 81 = .ok (.iconst 1, 1) := by decide +kernel
theorem dX5_lets_82 : decode cX5_lets 82 = .ok (.isub, 1) := by decide +kernel
theorem dX5_lets_83 : decode cX5_lets 83 = .ok (.ireturn, 1) := by decide +kernel
theorem dX5_beside_0 : decode cX5_beside 0 = .ok (.iload_n 1, 1) := by decide +kernel
theorem dX5_beside_1 : decode cX5_beside 1 = .ok (.aload_n 0, 1) := by decide +kernel
theorem dX5_beside_2 : decode cX5_beside 2 = .ok (.getfield 13, 3) := by decide +kernel
theorem dX5_beside_5 : decode cX5_beside 5 = .ok (.iconst 0, 1) := by decide +kernel
theorem dX5_beside_6 : decode cX5_beside 6 = .ok (.iaload, 1) := by decide +kernel
theorem dX5_beside_7 : decode cX5_beside 7 = .ok (.irem, 1) := by decide +kernel
theorem dX5_beside_8 : decode cX5_beside 8 = .ok (.istore_n 3, 1) := by decide +kernel
theorem dX5_beside_9 : decode cX5_beside 9 = .ok (.iload_n 1, 1) := by decide +kernel
theorem dX5_beside_10 : decode cX5_beside 10 = .ok (.aload_n 0, 1) := by decide +kernel
theorem dX5_beside_11 : decode cX5_beside 11 = .ok (.getfield 13, 3) := by decide +kernel
theorem dX5_beside_14 : decode cX5_beside 14 = .ok (.iconst 0, 1) := by decide +kernel
theorem dX5_beside_15 : decode cX5_beside 15 = .ok (.iaload, 1) := by decide +kernel
theorem dX5_beside_16 : decode cX5_beside 16 = .ok (.idiv, 1) := by decide +kernel
theorem dX5_beside_17 : decode cX5_beside 17 = .ok (.istore 4, 2) := by decide +kernel
theorem dX5_beside_19 : decode cX5_beside 19 = .ok (.iload_n 2, 1) := by decide +kernel
theorem dX5_beside_20 : decode cX5_beside 20 = .ok (.iconst 1, 1) := by decide +kernel
theorem dX5_beside_21 : decode cX5_beside 21 = .ok (.if_icmp .ne 16, 3) := by decide +kernel
theorem dX5_beside_24 : decode cX5_beside 24 = .ok (.iload_n 3, 1) := by decide +kernel
theorem dX5_beside_25 : decode cX5_beside 25 = .ok (.iconst 1, 1) := by decide +kernel
theorem dX5_beside_26 : decode cX5_beside 26 = .ok (.iadd, 1) := by decide +kernel
theorem dX5_beside_27 : decode cX5_beside 27 = .ok (.aload_n 0, 1) := by decide +kernel
theorem dX5_beside_28 : decode cX5_beside 28 = .ok (.getfield 13, 3) := by decide +kernel
theorem dX5_beside_31 : decode cX5_beside 31 = .ok (.iconst 0, 1) := by decide +kernel
theorem dX5_beside_32 : decode cX5_beside 32 = .ok (.iaload, 1) := by decide +kernel
theorem dX5_beside_33 : decode cX5_beside 33 = .ok (.irem, 1) := by decide +kernel
theorem dX5_beside_34 : decode cX5_beside 34 = .ok (.goto 29, 3) := by decide +kernel
theorem dX5_beside_37 : decode cX5_beside 37 = .ok (.iload_n 2, 1) := by decide +kernel
theorem dX5_beside_38 : decode cX5_beside 38 = .ok (.iconst 3, 1) := by decide +kernel
theorem dX5_beside_39 : decode cX5_beside 39 = .ok (.if_icmp .ne 23, 3) := by decide +kernel
theorem dX5_beside_42 : decode cX5_beside 42 = .ok (.iload_n 3, 1) := by decide +kernel
theorem dX5_beside_43 : decode cX5_beside 43 = .ok (.aload_n 0, 1) := by decide +kernel
theorem dX5_beside_44 : decode cX5_beside 44 = .ok (.getfield 13, 3) := by decide +kernel
theorem dX5_beside_47 : decode cX5_beside 47 = .ok (.iconst 0, 1) := by decide +kernel
theorem dX5_beside_48 : decode cX5_beside 48 = .ok (.iaload, 1) := by decide +kernel
theorem dX5_beside_49 : decode cX5_beside 49 = .ok (.iadd, 1) := by decide +kernel
theorem dX5_beside_50 : decode cX5_beside 50 = .ok (.iconst 1, 1) := by decide +kernel
theorem dX5_beside_51 : decode cX5_beside 51 = .ok (.isub, 1) := by decide +kernel
theorem dX5_beside_52 : decode cX5_beside 52 = .ok (.aload_n 0, 1) := by decide +kernel
theorem dX5_beside_53 : decode cX5_beside 53 = .ok (.getfield 13, 3) := by decide +kernel
theorem dX5_beside_56 : decode cX5_beside 56 = .ok (.iconst 0, 1) := by decide +kernel
theorem dX5_beside_57 : decode cX5_beside 57 = .ok (.iaload, 1) := by decide +kernel
theorem dX5_beside_58 : decode cX5_beside 58 = .ok (.irem, 1) := by decide +kernel
theorem dX5_beside_59 : decode cX5_beside 59 = .ok (.goto 4, 3) := by decide +kernel
theorem dX5_beside_62 : decode cX5_beside 62 = .ok (.iload_n 3, 1) := by decide +kernel
theorem dX5_beside_63 : decode cX5_beside 63 = .ok (.istore_n 3, 1) := by decide +kernel
theorem dX5_beside_64 : decode cX5_beside 64 = .ok (.iload_n 2, 1) := by decide +kernel
theorem dX5_beside_65 : decode cX5_beside 65 = .ok (.iconst 2, 1) := by decide +kernel
theorem dX5_beside_66 : decode cX5_beside 66 = .ok (.if_icmp .ne 17, 3) := by decide +kernel
theorem dX5_beside_69 : decode cX5_beside 69 = .ok (.iload 4, 2) := by decide +kernel
theorem dX5_beside_71 : decode cX5_beside 71 = .ok (.iconst 1, 1) := by decide +kernel
theorem dX5_beside_72 : decode cX5_beside 72 = .ok (.iadd, 1) := by decide +kernel
theorem dX5_beside_73 : decode cX5_beside 73 = .ok (.aload_n 0, 1) := by decide +kernel
theorem dX5_beside_74 : decode cX5_beside 74 = .ok (.getfield 13, 3) := by decide +kernel
theorem dX5_beside_77 : decode cX5_beside 77 = .ok (.iconst 1, 1) := by decide +kernel
theorem dX5_beside_78 : decode cX5_beside 78 = .ok (.iaload, 1) := by decide +kernel
theorem dX5_beside_79 : decode cX5_beside 79 = .ok (.irem, 1) := by decide +kernel
theorem dX5_beside_80 : decode cX5_beside 80 = .ok (.goto 30, 3) := by decide +kernel
theorem dX5_beside_83 : decode cX5_beside 83 = .ok (.iload_n 2, 1) := by decide +kernel
theorem dX5_beside_84 : decode cX5_beside 84 = .ok (.ifCond .ne 24, 3) := by decide +kernel
theorem dX5_beside_87 : decode cX5_beside 87 = .ok (.iload 4, 2) := by decide +kernel
theorem dX5_beside_89 : decode cX5_beside 89 = .ok (.aload_n 0, 1) := by decide +kernel
theorem dX5_beside_90 : decode cX5_beside 90 = .ok (.getfield 13, 3) := by decide +kernel
theorem dX5_beside_93 : decode cX5_beside 93 = .ok (.iconst 1, 1) := by decide +kernel
theorem dX5_beside_94 : decode cX5_beside 94 = .ok (.iaload, 1) := by decide +kernel
theorem dX5_beside_95 : decode cX5_beside 95 = .ok (.iadd, 1) := by decide +kernel
theorem dX5_beside_96 : decode cX5_beside 96 = .ok (.iconst 1, 1) := by decide +kernel
theorem dX5_beside_97 : decode cX5_beside 97 = .ok (.isub, 1) := by decide +kernel
theorem dX5_beside_98 : decode cX5_beside 98 = .ok (.aload_n 0, 1) := by decide +kernel
theorem dX5_beside_99 : decode cX5_beside 99 = .ok (.getfield 13, 3) := by decide +kernel
theorem dX5_beside_102 : decode cX5_beside 102 = .ok (.iconst 1, 1) := by decide +kernel
theorem dX5_beside_103 : decode cX5_beside 103 = .ok (.iaload, 1) := by decide +kernel
theorem dX5_beside_104 : decode cX5_beside 104 = .ok (.irem, 1) := by decide +kernel
theorem dX5_beside_105 : decode cX5_beside 105 = .ok (.goto 5, 3) := by decide +kernel
theorem dX5_beside_108 : decode cX5_beside 108 = .ok (.iload 4, 2) := by decide +kernel
theorem dX5_beside_110 : decode cX5_beside 110 = .ok (.istore 4, 2) := by decide +kernel
theorem dX5_beside_112 : decode cX5_beside 112 = .ok (.aload_n 0, 1) := by decide +kernel
theorem dX5_beside_113 : decode cX5_beside 113 = .ok (.getfield 13, 3) := by decide +kernel
theorem dX5_beside_116 : decode cX5_beside 116 = .ok (.iconst 0, 1) := by decide +kernel
theorem dX5_beside_117 : decode cX5_beside 117 = .ok (.iaload, 1) := by decide +kernel
theorem dX5_beside_118 : decode cX5_beside 118 = .ok (.iload 4, 2) := by decide +kernel
theorem dX5_beside_120 : decode cX5_beside 120 = .ok (.imul, 1) := by decide +kernel
theorem dX5_beside_121 : decode cX5_beside 121 = .ok (.iload_n 3, 1) := by decide +kernel
theorem dX5_beside_122 : decode cX5_beside 122 = .ok (.iadd, 1) := by decide +kernel
theorem dX5_beside_123 : decode cX5_beside 123 = .ok (.ireturn, 1) := by decide +kernel
set_option maxRecDepth 20000 in
theorem ggX5_blows_X5_beside : GoodIn wsX5_blows wsX5_beside := goodIn_r _ [6, 1, 17, 18, 19, 20, 21, 22, 23, 24, 25, 26, 27, 28, 29, 30, 31, 32, 33, 34, 35, 36, 37, 38] (by decide +kernel) (by decide +kernel)
set_option maxRecDepth 20000 in
theorem gX5_blows_X5_beside : GoodIn wsX5_blows (wsV RX5 142 RX5 yX5_beside wsX5_beside) := goodIn_app (goodIn_of _ (by decide +kernel)) ggX5_blows_X5_beside
set_option maxRecDepth 20000 in
theorem ggX5_blows_X5_isHill : GoodIn wsX5_blows wsX5_isHill := goodIn_r _ [10, 1, 11, 17, 18, 19, 20, 21, 22, 23, 24, 25, 26, 27, 28, 29, 30, 31, 32, 33, 34, 35, 36, 37, 38] (by decide +kernel) (by decide +kernel)
set_option maxRecDepth 20000 in
theorem gX5_blows_X5_isHill : GoodIn wsX5_blows (wsV RX5 119 RX5 yX5_isHill wsX5_isHill) := goodIn_app (goodIn_of _ (by decide +kernel)) ggX5_blows_X5_isHill
set_option maxRecDepth 20000 in
theorem ggX5_blows_X5_isleAt : GoodIn wsX5_blows wsX5_isleAt := goodIn_r _ [15, 1, 16, 17, 18, 19, 20, 21, 22, 23, 24, 25, 26, 27, 28, 29, 30, 31, 32, 33, 34, 35, 36, 37, 38] (by decide +kernel) (by decide +kernel)
set_option maxRecDepth 20000 in
theorem gX5_blows_X5_isleAt : GoodIn wsX5_blows (wsV RX5 122 RX5 yX5_isleAt wsX5_isleAt) := goodIn_app (goodIn_of _ (by decide +kernel)) ggX5_blows_X5_isleAt
theorem dX5_blows_0 : decode cX5_blows 0 = .ok (.iload_n 3, 1) := by decide +kernel
theorem dX5_blows_1 : decode cX5_blows 1 = .ok (.iconst 4, 1) := by decide +kernel
theorem dX5_blows_2 : decode cX5_blows 2 = .ok (.if_icmp .eq 11, 3) := by decide +kernel
theorem dX5_blows_5 : decode cX5_blows 5 = .ok (.aload_n 1, 1) := by decide +kernel
theorem dX5_blows_6 : decode cX5_blows 6 = .ok (.iload_n 2, 1) := by decide +kernel
theorem dX5_blows_7 : decode cX5_blows 7 = .ok (.iconst 5, 1) := by decide +kernel
theorem dX5_blows_8 : decode cX5_blows 8 = .ok (.iadd, 1) := by decide +kernel
theorem dX5_blows_9 : decode cX5_blows 9 = .ok (.iaload, 1) := by decide +kernel
theorem dX5_blows_10 : decode cX5_blows 10 = .ok (.ifCond .eq 7, 3) := by decide +kernel
theorem dX5_blows_13 : decode cX5_blows 13 = .ok (.iconst 0, 1) := by decide +kernel
theorem dX5_blows_14 : decode cX5_blows 14 = .ok (.goto 13, 3) := by decide +kernel
theorem dX5_blows_17 : decode cX5_blows 17 = .ok (.aload_n 0, 1) := by decide +kernel
theorem dX5_blows_18 : decode cX5_blows 18 = .ok (.getfield 13, 3) := by decide +kernel
theorem dX5_blows_21 : decode cX5_blows 21 = .ok (.iconst 5, 1) := by decide +kernel
theorem dX5_blows_22 : decode cX5_blows 22 = .ok (.iaload, 1) := by decide +kernel
theorem dX5_blows_23 : decode cX5_blows 23 = .ok (.aload_n 1, 1) := by decide +kernel
theorem dX5_blows_24 : decode cX5_blows 24 = .ok (.iload_n 2, 1) := by decide +kernel
theorem dX5_blows_25 : decode cX5_blows 25 = .ok (.iaload, 1) := by decide +kernel
theorem dX5_blows_26 : decode cX5_blows 26 = .ok (.isub, 1) := by decide +kernel
theorem dX5_blows_27 : decode cX5_blows 27 = .ok (.istore 5, 2) := by decide +kernel
theorem dX5_blows_29 : decode cX5_blows 29 = .ok (.iconst 0, 1) := by decide +kernel
theorem dX5_blows_30 : decode cX5_blows 30 = .ok (.istore 6, 2) := by decide +kernel
theorem dX5_blows_32 : decode cX5_blows 32 = .ok (.iload 5, 2) := by decide +kernel
theorem dX5_blows_34 : decode cX5_blows 34 = .ok (.ifCond .le 44, 3) := by decide +kernel
theorem dX5_blows_37 : decode cX5_blows 37 = .ok (.aload_n 0, 1) := by decide +kernel
theorem dX5_blows_38 : decode cX5_blows 38 = .ok (.aload_n 0, 1) := by decide +kernel
theorem dX5_blows_39 : decode cX5_blows 39 = .ok (.aload_n 1, 1) := by decide +kernel
theorem dX5_blows_40 : decode cX5_blows 40 = .ok (.iload_n 2, 1) := by decide +kernel
theorem dX5_blows_41 : decode cX5_blows 41 = .ok (.iconst 3, 1) := by decide +kernel
theorem dX5_blows_42 : decode cX5_blows 42 = .ok (.iadd, 1) := by decide +kernel
theorem dX5_blows_43 : decode cX5_blows 43 = .ok (.iaload, 1) := by decide +kernel
theorem dX5_blows_44 : decode cX5_blows 44 = .ok (.iload_n 3, 1) := by decide +kernel
theorem dX5_blows_45 : decode cX5_blows 45 = .ok (.invokevirtual 142, 3) := by decide +kernel
theorem dX5_blows_48 : decode cX5_blows 48 = .ok (.invokevirtual 119, 3) := by decide +kernel
theorem dX5_blows_51 : decode cX5_blows 51 = .ok (.ifCond .ne 27, 3) := by decide +kernel
theorem dX5_blows_54 : decode cX5_blows 54 = .ok (.aload_n 1, 1) := by decide +kernel
theorem dX5_blows_55 : decode cX5_blows 55 = .ok (.iload_n 2, 1) := by decide +kernel
theorem dX5_blows_56 : decode cX5_blows 56 = .ok (.iconst 3, 1) := by decide +kernel
theorem dX5_blows_57 : decode cX5_blows 57 = .ok (.iadd, 1) := by decide +kernel
theorem dX5_blows_58 : decode cX5_blows 58 = .ok (.aload_n 0, 1) := by decide +kernel
theorem dX5_blows_59 : decode cX5_blows 59 = .ok (.aload_n 1, 1) := by decide +kernel
theorem dX5_blows_60 : decode cX5_blows 60 = .ok (.iload_n 2, 1) := by decide +kernel
theorem dX5_blows_61 : decode cX5_blows 61 = .ok (.iconst 3, 1) := by decide +kernel
theorem dX5_blows_62 : decode cX5_blows 62 = .ok (.iadd, 1) := by decide +kernel
theorem dX5_blows_63 : decode cX5_blows 63 = .ok (.iaload, 1) := by decide +kernel
theorem dX5_blows_64 : decode cX5_blows 64 = .ok (.iload_n 3, 1) := by decide +kernel
theorem dX5_blows_65 : decode cX5_blows 65 = .ok (.invokevirtual 142, 3) := by decide +kernel
theorem dX5_blows_68 : decode cX5_blows 68 = .ok (.iastore, 1) := by decide +kernel
theorem dX5_blows_69 : decode cX5_blows 69 = .ok (.iconst 1, 1) := by decide +kernel
theorem dX5_blows_70 : decode cX5_blows 70 = .ok (.istore 6, 2) := by decide +kernel
theorem dX5_blows_72 : decode cX5_blows 72 = .ok (.iinc 5 (-1), 3) := by decide +kernel
theorem dX5_blows_75 : decode cX5_blows 75 = .ok (.goto (-43), 3) := by decide +kernel
theorem dX5_blows_78 : decode cX5_blows 78 = .ok (.iload 6, 2) := by decide +kernel
theorem dX5_blows_80 : decode cX5_blows 80 = .ok (.ifCond .eq 15, 3) := by decide +kernel
theorem dX5_blows_83 : decode cX5_blows 83 = .ok (.aload_n 0, 1) := by decide +kernel
theorem dX5_blows_84 : decode cX5_blows 84 = .ok (.aload_n 1, 1) := by decide +kernel
theorem dX5_blows_85 : decode cX5_blows 85 = .ok (.iload_n 2, 1) := by decide +kernel
theorem dX5_blows_86 : decode cX5_blows 86 = .ok (.iconst 3, 1) := by decide +kernel
theorem dX5_blows_87 : decode cX5_blows 87 = .ok (.iadd, 1) := by decide +kernel
theorem dX5_blows_88 : decode cX5_blows 88 = .ok (.iaload, 1) := by decide +kernel
theorem dX5_blows_89 : decode cX5_blows 89 = .ok (.invokevirtual 122, 3) := by decide +kernel
theorem dX5_blows_92 : decode cX5_blows 92 = .ok (.goto 5, 3) := by decide +kernel
theorem dX5_blows_95 : decode cX5_blows 95 = .ok (.bipush (-9), 2) := by decide +kernel
theorem dX5_blows_97 : decode cX5_blows 97 = .ok (.istore 7, 2) := by decide +kernel
theorem dX5_blows_99 : decode cX5_blows 99 = .ok (.iload 7, 2) := by decide +kernel
theorem dX5_blows_101 : decode cX5_blows 101 = .ok (.bipush (-9), 2) := by decide +kernel
theorem dX5_blows_103 : decode cX5_blows 103 = .ok (.if_icmp .eq 88, 3) := by decide +kernel
theorem dX5_blows_106 : decode cX5_blows 106 = .ok (.iload 7, 2) := by decide +kernel
theorem dX5_blows_108 : decode cX5_blows 108 = .ok (.aload_n 1, 1) := by decide +kernel
theorem dX5_blows_109 : decode cX5_blows 109 = .ok (.iload_n 2, 1) := by decide +kernel
theorem dX5_blows_110 : decode cX5_blows 110 = .ok (.iconst 2, 1) := by decide +kernel
theorem dX5_blows_111 : decode cX5_blows 111 = .ok (.iadd, 1) := by decide +kernel
theorem dX5_blows_112 : decode cX5_blows 112 = .ok (.iaload, 1) := by decide +kernel
theorem dX5_blows_113 : decode cX5_blows 113 = .ok (.if_icmp .ne 7, 3) := by decide +kernel
theorem dX5_blows_116 : decode cX5_blows 116 = .ok (.iconst 1, 1) := by decide +kernel
theorem dX5_blows_117 : decode cX5_blows 117 = .ok (.goto 4, 3) := by decide +kernel
theorem dX5_blows_120 : decode cX5_blows 120 = .ok (.iconst 0, 1) := by decide +kernel
theorem dX5_blows_121 : decode cX5_blows 121 = .ok (.istore 8, 2) := by decide +kernel
theorem dX5_blows_123 : decode cX5_blows 123 = .ok (.iload 8, 2) := by decide +kernel
theorem dX5_blows_125 : decode cX5_blows 125 = .ok (.ifCond .ne 18, 3) := by decide +kernel
theorem dX5_blows_128 : decode cX5_blows 128 = .ok (.iload 4, 2) := by decide +kernel
theorem dX5_blows_130 : decode cX5_blows 130 = .ok (.iload 7, 2) := by decide +kernel
theorem dX5_blows_132 : decode cX5_blows 132 = .ok (.ishr, 1) := by decide +kernel
theorem dX5_blows_133 : decode cX5_blows 133 = .ok (.iconst 1, 1) := by decide +kernel
theorem dX5_blows_134 : decode cX5_blows 134 = .ok (.iand, 1) := by decide +kernel
theorem dX5_blows_135 : decode cX5_blows 135 = .ok (.iconst 1, 1) := by decide +kernel
theorem dX5_blows_136 : decode cX5_blows 136 = .ok (.if_icmp .ne 7, 3) := by decide +kernel
theorem dX5_blows_139 : decode cX5_blows 139 = .ok (.iconst 1, 1) := by decide +kernel
theorem dX5_blows_140 : decode cX5_blows 140 = .ok (.goto 4, 3) := by decide +kernel
theorem dX5_blows_143 : decode cX5_blows 143 = .ok (.iconst 0, 1) := by decide +kernel
theorem dX5_blows_144 : decode cX5_blows 144 = .ok (.istore 9, 2) := by decide +kernel
theorem dX5_blows_146 : decode cX5_blows 146 = .ok (.aload_n 1, 1) := by decide +kernel
theorem dX5_blows_147 : decode cX5_blows 147 = .ok (.iload_n 2, 1) := by decide +kernel
theorem dX5_blows_148 : decode cX5_blows 148 = .ok (.iconst 4, 1) := by decide +kernel
theorem dX5_blows_149 : decode cX5_blows 149 = .ok (.iadd, 1) := by decide +kernel
theorem dX5_blows_150 : decode cX5_blows 150 = .ok (.dup2, 1) := by decide +kernel
theorem dX5_blows_151 : decode cX5_blows 151 = .ok (.iaload, 1) := by decide +kernel
theorem dX5_blows_152 : decode cX5_blows 152 = .ok (.iload 9, 2) := by decide +kernel
theorem dX5_blows_154 : decode cX5_blows 154 = .ok (.ifCond .eq 7, 3) := by decide +kernel
theorem dX5_blows_157 : decode cX5_blows 157 = .ok (.iconst 0, 1) := by decide +kernel
theorem dX5_blows_158 : decode cX5_blows 158 = .ok (.goto 7, 3) := by decide +kernel
theorem dX5_blows_161 : decode cX5_blows 161 = .ok (.iconst 1, 1) := by decide +kernel
theorem dX5_blows_162 : decode cX5_blows 162 = .ok (.iload 7, 2) := by decide +kernel
theorem dX5_blows_164 : decode cX5_blows 164 = .ok (.ishl, 1) := by decide +kernel
theorem dX5_blows_165 : decode cX5_blows 165 = .ok (.ior, 1) := by decide +kernel
theorem dX5_blows_166 : decode cX5_blows 166 = .ok (.iastore, 1) := by decide +kernel
theorem dX5_blows_167 : decode cX5_blows 167 = .ok (.aload_n 1, 1) := by decide +kernel
theorem dX5_blows_168 : decode cX5_blows 168 = .ok (.iload_n 2, 1) := by decide +kernel
theorem dX5_blows_169 : decode cX5_blows 169 = .ok (.iconst 5, 1) := by decide +kernel
theorem dX5_blows_170 : decode cX5_blows 170 = .ok (.iadd, 1) := by decide +kernel
theorem dX5_blows_171 : decode cX5_blows 171 = .ok (.iload 8, 2) := by decide +kernel
theorem dX5_blows_173 : decode cX5_blows 173 = .ok (.ifCond .eq 7, 3) := by decide +kernel
theorem dX5_blows_176 : decode cX5_blows 176 = .ok (.iconst 1, 1) := by decide +kernel
theorem dX5_blows_177 : decode cX5_blows 177 = .ok (.goto 13, 3) := by decide +kernel
theorem dX5_blows_180 : decode cX5_blows 180 = .ok (.iload 9, 2) := by decide +kernel
theorem dX5_blows_182 : decode cX5_blows 182 = .ok (.ifCond .eq 7, 3) := by decide +kernel
theorem dX5_blows_185 : decode cX5_blows 185 = .ok (.iconst 2, 1) := by decide +kernel
theorem dX5_blows_186 : decode cX5_blows 186 = .ok (.goto 4, 3) := by decide +kernel
theorem dX5_blows_189 : decode cX5_blows 189 = .ok (.iconst 0, 1) := by decide +kernel
theorem dX5_blows_190 : decode cX5_blows 190 = .ok (.iastore, 1) := by decide +kernel
theorem dX5_blows_191 : decode cX5_blows 191 = .ok (.return_, 1) := by decide +kernel
set_option maxRecDepth 20000 in
theorem ggX5_hour_X5_notes : GoodIn wsX5_hour wsX5_notes := goodIn_r _ [7, 8, 9, 2, 33, 34, 35, 36, 37, 38, 39, 40, 41, 42, 43, 44, 45, 46, 47, 48, 49, 50, 51, 52, 53, 54] (by decide +kernel) (by decide +kernel)
set_option maxRecDepth 20000 in
theorem gX5_hour_X5_notes : GoodIn wsX5_hour (wsV RX5 135 RX5 yX5_notes wsX5_notes) := goodIn_app (goodIn_of _ (by decide +kernel)) ggX5_hour_X5_notes
set_option maxRecDepth 20000 in
theorem ggX5_hour_X5_windOf : GoodIn wsX5_hour wsX5_windOf := goodIn_r _ [13, 14, 2, 33, 34, 35, 36, 37, 38, 39, 40, 41, 42, 43, 44, 45, 46, 47, 48, 49, 50, 51, 52, 53, 54] (by decide +kernel) (by decide +kernel)
set_option maxRecDepth 20000 in
theorem gX5_hour_X5_windOf : GoodIn wsX5_hour (wsV RX5 125 RX5 yX5_windOf wsX5_windOf) := goodIn_app (goodIn_of _ (by decide +kernel)) ggX5_hour_X5_windOf
set_option maxRecDepth 20000 in
theorem ggX5_hour_X5_blows : GoodIn wsX5_hour wsX5_blows := goodIn_r _ [18, 14, 19, 20, 21, 6, 22, 23, 24, 25, 26, 27, 28, 29, 30, 31, 32, 33, 34, 35, 36, 37, 38, 39, 40, 41, 42, 43, 44, 45, 46, 47, 48, 49, 50, 51, 52, 53, 54] (by decide +kernel) (by decide +kernel)
set_option maxRecDepth 20000 in
theorem gX5_hour_X5_blows : GoodIn wsX5_hour (wsV RX5 145 RX5 yX5_blows wsX5_blows) := goodIn_app (goodIn_of _ (by decide +kernel)) ggX5_hour_X5_blows
theorem dX5_hour_0 : decode cX5_hour 0 = .ok (.aload_n 0, 1) := by decide +kernel
theorem dX5_hour_1 : decode cX5_hour 1 = .ok (.iconst 0, 1) := by decide +kernel
theorem dX5_hour_2 : decode cX5_hour 2 = .ok (.putfield 47, 3) := by decide +kernel
theorem dX5_hour_5 : decode cX5_hour 5 = .ok (.aload_n 0, 1) := by decide +kernel
theorem dX5_hour_6 : decode cX5_hour 6 = .ok (.getfield 25, 3) := by decide +kernel
theorem dX5_hour_9 : decode cX5_hour 9 = .ok (.iconst 0, 1) := by decide +kernel
theorem dX5_hour_10 : decode cX5_hour 10 = .ok (.iaload, 1) := by decide +kernel
theorem dX5_hour_11 : decode cX5_hour 11 = .ok (.sipush 9999, 3) := by decide +kernel
theorem dX5_hour_14 : decode cX5_hour 14 = .ok (.if_icmp .ne 6, 3) := by decide +kernel
theorem dX5_hour_17 : decode cX5_hour 17 = .ok (.bipush (-2), 2) := by decide +kernel
theorem dX5_hour_19 : decode cX5_hour 19 = .ok (.ireturn, 1) := by decide +kernel
theorem dX5_hour_20 : decode cX5_hour 20 = .ok (.aload_n 0, 1) := by decide +kernel
theorem dX5_hour_21 : decode cX5_hour 21 = .ok (.invokevirtual 135, 3) := by decide +kernel
theorem dX5_hour_24 : decode cX5_hour 24 = .ok (.iconst 0, 1) := by decide +kernel
theorem dX5_hour_25 : decode cX5_hour 25 = .ok (.istore_n 1, 1) := by decide +kernel
theorem dX5_hour_26 : decode cX5_hour 26 = .ok (.aload_n 0, 1) := by decide +kernel
theorem dX5_hour_27 : decode cX5_hour 27 = .ok (.aload_n 0, 1) := by decide +kernel
theorem dX5_hour_28 : decode cX5_hour 28 = .ok (.getfield 25, 3) := by decide +kernel
theorem dX5_hour_31 : decode cX5_hour 31 = .ok (.iconst 0, 1) := by decide +kernel
theorem dX5_hour_32 : decode cX5_hour 32 = .ok (.iaload, 1) := by decide +kernel
theorem dX5_hour_33 : decode cX5_hour 33 = .ok (.invokevirtual 125, 3) := by decide +kernel
theorem dX5_hour_36 : decode cX5_hour 36 = .ok (.istore_n 2, 1) := by decide +kernel
theorem dX5_hour_37 : decode cX5_hour 37 = .ok (.iconst 0, 1) := by decide +kernel
theorem dX5_hour_38 : decode cX5_hour 38 = .ok (.istore_n 3, 1) := by decide +kernel
theorem dX5_hour_39 : decode cX5_hour 39 = .ok (.iload_n 3, 1) := by decide +kernel
theorem dX5_hour_40 : decode cX5_hour 40 = .ok (.aload_n 0, 1) := by decide +kernel
theorem dX5_hour_41 : decode cX5_hour 41 = .ok (.getfield 25, 3) := by decide +kernel
theorem dX5_hour_44 : decode cX5_hour 44 = .ok (.iconst 1, 1) := by decide +kernel
theorem dX5_hour_45 : decode cX5_hour 45 = .ok (.iaload, 1) := by decide +kernel
theorem dX5_hour_46 : decode cX5_hour 46 = .ok (.if_icmp .ge 72, 3) := by decide +kernel
theorem dX5_hour_49 : decode cX5_hour 49 = .ok (.bipush 15, 2) := by decide +kernel
theorem dX5_hour_51 : decode cX5_hour 51 = .ok (.bipush 6, 2) := by decide +kernel
theorem dX5_hour_53 : decode cX5_hour 53 = .ok (.iload_n 3, 1) := by decide +kernel
theorem dX5_hour_54 : decode cX5_hour 54 = .ok (.imul, 1) := by decide +kernel
theorem dX5_hour_55 : decode cX5_hour 55 = .ok (.iadd, 1) := by decide +kernel
theorem dX5_hour_56 : decode cX5_hour 56 = .ok (.istore 4, 2) := by decide +kernel
theorem dX5_hour_58 : decode cX5_hour 58 = .ok (.aload_n 0, 1) := by decide +kernel
theorem dX5_hour_59 : decode cX5_hour 59 = .ok (.getfield 25, 3) := by decide +kernel
theorem dX5_hour_62 : decode cX5_hour 62 = .ok (.iload 4, 2) := by decide +kernel
theorem dX5_hour_64 : decode cX5_hour 64 = .ok (.iconst 5, 1) := by decide +kernel
theorem dX5_hour_65 : decode cX5_hour 65 = .ok (.iadd, 1) := by decide +kernel
theorem dX5_hour_66 : decode cX5_hour 66 = .ok (.iaload, 1) := by decide +kernel
theorem dX5_hour_67 : decode cX5_hour 67 = .ok (.istore 5, 2) := by decide +kernel
theorem dX5_hour_69 : decode cX5_hour 69 = .ok (.aload_n 0, 1) := by decide +kernel
theorem dX5_hour_70 : decode cX5_hour 70 = .ok (.aload_n 0, 1) := by decide +kernel
theorem dX5_hour_71 : decode cX5_hour 71 = .ok (.getfield 25, 3) := by decide +kernel
theorem dX5_hour_74 : decode cX5_hour 74 = .ok (.iload 4, 2) := by decide +kernel
theorem dX5_hour_76 : decode cX5_hour 76 = .ok (.iload_n 2, 1) := by decide +kernel
theorem dX5_hour_77 : decode cX5_hour 77 = .ok (.aload_n 0, 1) := by decide +kernel
theorem dX5_hour_78 : decode cX5_hour 78 = .ok (.getfield 25, 3) := by decide +kernel
theorem dX5_hour_81 : decode cX5_hour 81 = .ok (.iconst 2, 1) := by decide +kernel
theorem dX5_hour_82 : decode cX5_hour 82 = .ok (.iaload, 1) := by decide +kernel
theorem dX5_hour_83 : decode cX5_hour 83 = .ok (.invokevirtual 145, 3) := by decide +kernel
theorem dX5_hour_86 : decode cX5_hour 86 = .ok (.iload_n 1, 1) := by decide +kernel
theorem dX5_hour_87 : decode cX5_hour 87 = .ok (.iload 5, 2) := by decide +kernel
theorem dX5_hour_89 : decode cX5_hour 89 = .ok (.ifCond .ne 20, 3) := by decide +kernel
theorem dX5_hour_92 : decode cX5_hour 92 = .ok (.aload_n 0, 1) := by decide +kernel
theorem dX5_hour_93 : decode cX5_hour 93 = .ok (.getfield 25, 3) := by decide +kernel
theorem dX5_hour_96 : decode cX5_hour 96 = .ok (.iload 4, 2) := by decide +kernel
theorem dX5_hour_98 : decode cX5_hour 98 = .ok (.iconst 5, 1) := by decide +kernel
theorem dX5_hour_99 : decode cX5_hour 99 = .ok (.iadd, 1) := by decide +kernel
theorem dX5_hour_100 : decode cX5_hour 100 = .ok (.iaload, 1) := by decide +kernel
theorem dX5_hour_101 : decode cX5_hour 101 = .ok (.iconst 1, 1) := by decide +kernel
theorem dX5_hour_102 : decode cX5_hour 102 = .ok (.if_icmp .ne 7, 3) := by decide +kernel
theorem dX5_hour_105 : decode cX5_hour 105 = .ok (.iconst 1, 1) := by decide +kernel
theorem dX5_hour_106 : decode cX5_hour 106 = .ok (.goto 4, 3) := by decide +kernel
theorem dX5_hour_109 : decode cX5_hour 109 = .ok (.iconst 0, 1) := by decide +kernel
theorem dX5_hour_110 : decode cX5_hour 110 = .ok (.iadd, 1) := by decide +kernel
theorem dX5_hour_111 : decode cX5_hour 111 = .ok (.istore_n 1, 1) := by decide +kernel
theorem dX5_hour_112 : decode cX5_hour 112 = .ok (.iinc 3 1, 3) := by decide +kernel
theorem dX5_hour_115 : decode cX5_hour 115 = .ok (.goto (-76), 3) := by decide +kernel
theorem dX5_hour_118 : decode cX5_hour 118 = .ok (.aload_n 0, 1) := by decide +kernel
theorem dX5_hour_119 : decode cX5_hour 119 = .ok (.getfield 25, 3) := by decide +kernel
theorem dX5_hour_122 : decode cX5_hour 122 = .ok (.iconst 0, 1) := by decide +kernel
theorem dX5_hour_123 : decode cX5_hour 123 = .ok (.dup2, 1) := by decide +kernel
theorem dX5_hour_124 : decode cX5_hour 124 = .ok (.iaload, 1) := by decide +kernel
theorem dX5_hour_125 : decode cX5_hour 125 = .ok (.iconst 1, 1) := by decide +kernel
theorem dX5_hour_126 : decode cX5_hour 126 = .ok (.iadd, 1) := by decide +kernel
theorem dX5_hour_127 : decode cX5_hour 127 = .ok (.iastore, 1) := by decide +kernel
theorem dX5_hour_128 : decode cX5_hour 128 = .ok (.iload_n 1, 1) := by decide +kernel
theorem dX5_hour_129 : decode cX5_hour 129 = .ok (.ireturn, 1) := by decide +kernel
set_option maxRecDepth 20000 in
theorem ggX5_net_X5_isIsle : GoodIn wsX5_net wsX5_isIsle := goodIn_r _ [7, 8, 9, 10, 6, 11, 18, 19, 20, 21, 22, 23, 24, 25, 26, 27, 28, 29, 30, 31, 32, 33, 34, 35, 36, 37, 38, 39] (by decide +kernel) (by decide +kernel)
set_option maxRecDepth 20000 in
theorem gX5_net_X5_isIsle : GoodIn wsX5_net (wsV RX5 116 RX5 yX5_isIsle wsX5_isIsle) := goodIn_app (goodIn_of _ (by decide +kernel)) ggX5_net_X5_isIsle
set_option maxRecDepth 20000 in
theorem ggX5_net_X5_in : GoodIn wsX5_net wsX5_in := goodIn_r _ [11] (by decide +kernel) (by decide +kernel)
set_option maxRecDepth 20000 in
theorem gX5_net_X5_in : GoodIn wsX5_net (va_wsS RX5 51 yX5_in wsX5_in) := goodIn_app (goodIn_of _ (by decide +kernel)) ggX5_net_X5_in
set_option maxRecDepth 20000 in
theorem ggX5_net_X5_notes : GoodIn wsX5_net wsX5_notes := goodIn_r _ [15, 16, 17, 2, 18, 19, 20, 21, 22, 23, 24, 25, 26, 27, 28, 29, 30, 31, 32, 33, 34, 35, 36, 37, 38, 39] (by decide +kernel) (by decide +kernel)
set_option maxRecDepth 20000 in
theorem gX5_net_X5_notes : GoodIn wsX5_net (wsV RX5 135 RX5 yX5_notes wsX5_notes) := goodIn_app (goodIn_of _ (by decide +kernel)) ggX5_net_X5_notes
theorem dX5_net_0 : decode cX5_net 0 = .ok (.aload_n 0, 1) := by decide +kernel
theorem dX5_net_1 : decode cX5_net 1 = .ok (.iconst 0, 1) := by decide +kernel
theorem dX5_net_2 : decode cX5_net 2 = .ok (.putfield 47, 3) := by decide +kernel
theorem dX5_net_5 : decode cX5_net 5 = .ok (.aload_n 0, 1) := by decide +kernel
theorem dX5_net_6 : decode cX5_net 6 = .ok (.iload_n 1, 1) := by decide +kernel
theorem dX5_net_7 : decode cX5_net 7 = .ok (.invokevirtual 116, 3) := by decide +kernel
theorem dX5_net_10 : decode cX5_net 10 = .ok (.ifCond .eq 12, 3) := by decide +kernel
theorem dX5_net_13 : decode cX5_net 13 = .ok (.iload_n 2, 1) := by decide +kernel
theorem dX5_net_14 : decode cX5_net 14 = .ok (.iconst 0, 1) := by decide +kernel
theorem dX5_net_15 : decode cX5_net 15 = .ok (.iconst 1, 1) := by decide +kernel
theorem dX5_net_16 : decode cX5_net 16 = .ok (.invokestatic 51, 3) := by decide +kernel
theorem dX5_net_19 : decode cX5_net 19 = .ok (.ifCond .ne 5, 3) := by decide +kernel
theorem dX5_net_22 : decode cX5_net 22 = .ok (.iconst (-1), 1) := by decide +kernel
theorem dX5_net_23 : decode cX5_net 23 = .ok (.ireturn, 1) := by decide +kernel
theorem dX5_net_24 : decode cX5_net 24 = .ok (.aload_n 0, 1) := by decide +kernel
theorem dX5_net_25 : decode cX5_net 25 = .ok (.invokevirtual 135, 3) := by decide +kernel
theorem dX5_net_28 : decode cX5_net 28 = .ok (.aload_n 0, 1) := by decide +kernel
theorem dX5_net_29 : decode cX5_net 29 = .ok (.getfield 25, 3) := by decide +kernel
theorem dX5_net_32 : decode cX5_net 32 = .ok (.iconst 2, 1) := by decide +kernel
theorem dX5_net_33 : decode cX5_net 33 = .ok (.iaload, 1) := by decide +kernel
theorem dX5_net_34 : decode cX5_net 34 = .ok (.iload_n 1, 1) := by decide +kernel
theorem dX5_net_35 : decode cX5_net 35 = .ok (.ishr, 1) := by decide +kernel
theorem dX5_net_36 : decode cX5_net 36 = .ok (.iconst 1, 1) := by decide +kernel
theorem dX5_net_37 : decode cX5_net 37 = .ok (.iand, 1) := by decide +kernel
theorem dX5_net_38 : decode cX5_net 38 = .ok (.istore_n 3, 1) := by decide +kernel
theorem dX5_net_39 : decode cX5_net 39 = .ok (.aload_n 0, 1) := by decide +kernel
theorem dX5_net_40 : decode cX5_net 40 = .ok (.getfield 25, 3) := by decide +kernel
theorem dX5_net_43 : decode cX5_net 43 = .ok (.iconst 2, 1) := by decide +kernel
theorem dX5_net_44 : decode cX5_net 44 = .ok (.aload_n 0, 1) := by decide +kernel
theorem dX5_net_45 : decode cX5_net 45 = .ok (.getfield 25, 3) := by decide +kernel
theorem dX5_net_48 : decode cX5_net 48 = .ok (.iconst 2, 1) := by decide +kernel
theorem dX5_net_49 : decode cX5_net 49 = .ok (.iaload, 1) := by decide +kernel
theorem dX5_net_50 : decode cX5_net 50 = .ok (.iconst 1, 1) := by decide +kernel
theorem dX5_net_51 : decode cX5_net 51 = .ok (.iload_n 1, 1) := by decide +kernel
theorem dX5_net_52 : decode cX5_net 52 = .ok (.ishl, 1) := by decide +kernel
theorem dX5_net_53 : decode cX5_net 53 = .ok (.iconst (-1), 1) := by decide +kernel
theorem dX5_net_54 : decode cX5_net 54 = .ok (.ixor, 1) := by decide +kernel
theorem dX5_net_55 : decode cX5_net 55 = .ok (.iand, 1) := by decide +kernel
theorem dX5_net_56 : decode cX5_net 56 = .ok (.iload_n 2, 1) := by decide +kernel
theorem dX5_net_57 : decode cX5_net 57 = .ok (.iload_n 1, 1) := by decide +kernel
theorem dX5_net_58 : decode cX5_net 58 = .ok (.ishl, 1) := by decide +kernel
theorem dX5_net_59 : decode cX5_net 59 = .ok (.ior, 1) := by decide +kernel
theorem dX5_net_60 : decode cX5_net 60 = .ok (.iastore, 1) := by decide +kernel
theorem dX5_net_61 : decode cX5_net 61 = .ok (.iload_n 3, 1) := by decide +kernel
theorem dX5_net_62 : decode cX5_net 62 = .ok (.ireturn, 1) := by decide +kernel
set_option maxRecDepth 20000 in
theorem ggX5_turn_X5_in : GoodIn wsX5_turn wsX5_in := goodIn_r _ [7] (by decide +kernel) (by decide +kernel)
set_option maxRecDepth 20000 in
theorem gX5_turn_X5_in : GoodIn wsX5_turn (va_wsS RX5 51 yX5_in wsX5_in) := goodIn_app (goodIn_of _ (by decide +kernel)) ggX5_turn_X5_in
set_option maxRecDepth 20000 in
theorem ggX5_turn_X5_notes : GoodIn wsX5_turn wsX5_notes := goodIn_r _ [11, 12, 13, 3, 14, 15, 16, 17, 18, 19, 20, 21, 22, 23, 24, 25, 26, 27, 28, 29, 30, 31, 32, 33, 34, 35] (by decide +kernel) (by decide +kernel)
set_option maxRecDepth 20000 in
theorem gX5_turn_X5_notes : GoodIn wsX5_turn (wsV RX5 135 RX5 yX5_notes wsX5_notes) := goodIn_app (goodIn_of _ (by decide +kernel)) ggX5_turn_X5_notes
theorem dX5_turn_0 : decode cX5_turn 0 = .ok (.aload_n 0, 1) := by decide +kernel
theorem dX5_turn_1 : decode cX5_turn 1 = .ok (.iconst 0, 1) := by decide +kernel
theorem dX5_turn_2 : decode cX5_turn 2 = .ok (.putfield 47, 3) := by decide +kernel
theorem dX5_turn_5 : decode cX5_turn 5 = .ok (.iload_n 1, 1) := by decide +kernel
theorem dX5_turn_6 : decode cX5_turn 6 = .ok (.iconst 0, 1) := by decide +kernel
theorem dX5_turn_7 : decode cX5_turn 7 = .ok (.aload_n 0, 1) := by decide +kernel
theorem dX5_turn_8 : decode cX5_turn 8 = .ok (.getfield 13, 3) := by decide +kernel
theorem dX5_turn_11 : decode cX5_turn 11 = .ok (.iconst 4, 1) := by decide +kernel
theorem dX5_turn_12 : decode cX5_turn 12 = .ok (.iaload, 1) := by decide +kernel
theorem dX5_turn_13 : decode cX5_turn 13 = .ok (.iconst 1, 1) := by decide +kernel
theorem dX5_turn_14 : decode cX5_turn 14 = .ok (.isub, 1) := by decide +kernel
theorem dX5_turn_15 : decode cX5_turn 15 = .ok (.invokestatic 51, 3) := by decide +kernel
theorem dX5_turn_18 : decode cX5_turn 18 = .ok (.ifCond .eq 12, 3) := by decide +kernel
theorem dX5_turn_21 : decode cX5_turn 21 = .ok (.iload_n 2, 1) := by decide +kernel
theorem dX5_turn_22 : decode cX5_turn 22 = .ok (.iconst 0, 1) := by decide +kernel
theorem dX5_turn_23 : decode cX5_turn 23 = .ok (.iconst 4, 1) := by decide +kernel
theorem dX5_turn_24 : decode cX5_turn 24 = .ok (.invokestatic 51, 3) := by decide +kernel
theorem dX5_turn_27 : decode cX5_turn 27 = .ok (.ifCond .ne 5, 3) := by decide +kernel
theorem dX5_turn_30 : decode cX5_turn 30 = .ok (.iconst (-1), 1) := by decide +kernel
theorem dX5_turn_31 : decode cX5_turn 31 = .ok (.ireturn, 1) := by decide +kernel
theorem dX5_turn_32 : decode cX5_turn 32 = .ok (.aload_n 0, 1) := by decide +kernel
theorem dX5_turn_33 : decode cX5_turn 33 = .ok (.invokevirtual 135, 3) := by decide +kernel
theorem dX5_turn_36 : decode cX5_turn 36 = .ok (.aload_n 0, 1) := by decide +kernel
theorem dX5_turn_37 : decode cX5_turn 37 = .ok (.getfield 25, 3) := by decide +kernel
theorem dX5_turn_40 : decode cX5_turn 40 = .ok (.iconst 3, 1) := by decide +kernel
theorem dX5_turn_41 : decode cX5_turn 41 = .ok (.iload_n 1, 1) := by decide +kernel
theorem dX5_turn_42 : decode cX5_turn 42 = .ok (.iadd, 1) := by decide +kernel
theorem dX5_turn_43 : decode cX5_turn 43 = .ok (.iaload, 1) := by decide +kernel
theorem dX5_turn_44 : decode cX5_turn 44 = .ok (.istore_n 3, 1) := by decide +kernel
theorem dX5_turn_45 : decode cX5_turn 45 = .ok (.aload_n 0, 1) := by decide +kernel
theorem dX5_turn_46 : decode cX5_turn 46 = .ok (.getfield 25, 3) := by decide +kernel
theorem dX5_turn_49 : decode cX5_turn 49 = .ok (.iconst 3, 1) := by decide +kernel
theorem dX5_turn_50 : decode cX5_turn 50 = .ok (.iload_n 1, 1) := by decide +kernel
theorem dX5_turn_51 : decode cX5_turn 51 = .ok (.iadd, 1) := by decide +kernel
theorem dX5_turn_52 : decode cX5_turn 52 = .ok (.iload_n 2, 1) := by decide +kernel
theorem dX5_turn_53 : decode cX5_turn 53 = .ok (.iastore, 1) := by decide +kernel
theorem dX5_turn_54 : decode cX5_turn 54 = .ok (.iload_n 3, 1) := by decide +kernel
theorem dX5_turn_55 : decode cX5_turn 55 = .ok (.ireturn, 1) := by decide +kernel
theorem dX5_undo_0 : decode cX5_undo 0 = .ok (.aload_n 0, 1) := by decide +kernel
theorem dX5_undo_1 : decode cX5_undo 1 = .ok (.iconst 0, 1) := by decide +kernel
theorem dX5_undo_2 : decode cX5_undo 2 = .ok (.putfield 47, 3) := by decide +kernel
theorem dX5_undo_5 : decode cX5_undo 5 = .ok (.aload_n 0, 1) := by decide +kernel
theorem dX5_undo_6 : decode cX5_undo 6 = .ok (.getfield 113, 3) := by decide +kernel
theorem dX5_undo_9 : decode cX5_undo 9 = .ok (.ifCond .ne 6, 3) := by decide +kernel
theorem dX5_undo_12 : decode cX5_undo 12 = .ok (.bipush (-2), 2) := by decide +kernel
theorem dX5_undo_14 : decode cX5_undo 14 = .ok (.ireturn, 1) := by decide +kernel
theorem dX5_undo_15 : decode cX5_undo 15 = .ok (.aload_n 0, 1) := by decide +kernel
theorem dX5_undo_16 : decode cX5_undo 16 = .ok (.dup, 1) := by decide +kernel
theorem dX5_undo_17 : decode cX5_undo 17 = .ok (.getfield 113, 3) := by decide +kernel
theorem dX5_undo_20 : decode cX5_undo 20 = .ok (.iconst 1, 1) := by decide +kernel
theorem dX5_undo_21 : decode cX5_undo 21 = .ok (.isub, 1) := by decide +kernel
theorem dX5_undo_22 : decode cX5_undo 22 = .ok (.putfield 113, 3) := by decide +kernel
theorem dX5_undo_25 : decode cX5_undo 25 = .ok (.iconst 0, 1) := by decide +kernel
theorem dX5_undo_26 : decode cX5_undo 26 = .ok (.istore_n 1, 1) := by decide +kernel
theorem dX5_undo_27 : decode cX5_undo 27 = .ok (.iload_n 1, 1) := by decide +kernel
theorem dX5_undo_28 : decode cX5_undo 28 = .ok (.bipush 45, 2) := by decide +kernel
theorem dX5_undo_30 : decode cX5_undo 30 = .ok (.if_icmp .ge 29, 3) := by decide +kernel
theorem dX5_undo_33 : decode cX5_undo 33 = .ok (.aload_n 0, 1) := by decide +kernel
theorem dX5_undo_34 : decode cX5_undo 34 = .ok (.getfield 25, 3) := by decide +kernel
theorem dX5_undo_37 : decode cX5_undo 37 = .ok (.iload_n 1, 1) := by decide +kernel
theorem dX5_undo_38 : decode cX5_undo 38 = .ok (.aload_n 0, 1) := by decide +kernel
theorem dX5_undo_39 : decode cX5_undo 39 = .ok (.getfield 35, 3) := by decide +kernel
theorem dX5_undo_42 : decode cX5_undo 42 = .ok (.bipush 45, 2) := by decide +kernel
theorem dX5_undo_44 : decode cX5_undo 44 = .ok (.aload_n 0, 1) := by decide +kernel
theorem dX5_undo_45 : decode cX5_undo 45 = .ok (.getfield 113, 3) := by decide +kernel
theorem dX5_undo_48 : decode cX5_undo 48 = .ok (.imul, 1) := by decide +kernel
theorem dX5_undo_49 : decode cX5_undo 49 = .ok (.iload_n 1, 1) := by decide +kernel
theorem dX5_undo_50 : decode cX5_undo 50 = .ok (.iadd, 1) := by decide +kernel
theorem dX5_undo_51 : decode cX5_undo 51 = .ok (.iaload, 1) := by decide +kernel
theorem dX5_undo_52 : decode cX5_undo 52 = .ok (.iastore, 1) := by decide +kernel
theorem dX5_undo_53 : decode cX5_undo 53 = .ok (.iinc 1 1, 3) := by decide +kernel
theorem dX5_undo_56 : decode cX5_undo 56 = .ok (.goto (-29), 3) := by decide +kernel
theorem dX5_undo_59 : decode cX5_undo 59 = .ok (.aload_n 0, 1) := by decide +kernel
theorem dX5_undo_60 : decode cX5_undo 60 = .ok (.getfield 113, 3) := by decide +kernel
theorem dX5_undo_63 : decode cX5_undo 63 = .ok (.ireturn, 1) := by decide +kernel
theorem dX5_takesLetter_0 : decode cX5_takesLetter 0 = .ok (.iconst 0, 1) := by decide +kernel
theorem dX5_takesLetter_1 : decode cX5_takesLetter 1 = .ok (.istore_n 3, 1) := by decide +kernel
theorem dX5_takesLetter_2 : decode cX5_takesLetter 2 = .ok (.iload_n 3, 1) := by decide +kernel
theorem dX5_takesLetter_3 : decode cX5_takesLetter 3 = .ok (.bipush 6, 2) := by decide +kernel
theorem dX5_takesLetter_5 : decode cX5_takesLetter 5 = .ok (.if_icmp .ge 26, 3) := by decide +kernel
theorem dX5_takesLetter_8 : decode cX5_takesLetter 8 = .ok (.aload_n 1, 1) := by decide +kernel
theorem dX5_takesLetter_9 : decode cX5_takesLetter 9 = .ok (.iload_n 3, 1) := by decide +kernel
theorem dX5_takesLetter_10 : decode cX5_takesLetter 10 = .ok (.aload_n 0, 1) := by decide +kernel
theorem dX5_takesLetter_11 : decode cX5_takesLetter 11 = .ok (.getfield 25, 3) := by decide +kernel
theorem dX5_takesLetter_14 : decode cX5_takesLetter 14 = .ok (.bipush 15, 2) := by decide +kernel
theorem dX5_takesLetter_16 : decode cX5_takesLetter 16 = .ok (.bipush 6, 2) := by decide +kernel
theorem dX5_takesLetter_18 : decode cX5_takesLetter 18 = .ok (.iload_n 2, 1) := by decide +kernel
theorem dX5_takesLetter_19 : decode cX5_takesLetter 19 = .ok (.imul, 1) := by decide +kernel
theorem dX5_takesLetter_20 : decode cX5_takesLetter 20 = .ok (.iadd, 1) := by decide +kernel
theorem dX5_takesLetter_21 : decode cX5_takesLetter 21 = .ok (.iload_n 3, 1) := by decide +kernel
theorem dX5_takesLetter_22 : decode cX5_takesLetter 22 = .ok (.iadd, 1) := by decide +kernel
theorem dX5_takesLetter_23 : decode cX5_takesLetter 23 = .ok (.iaload, 1) := by decide +kernel
theorem dX5_takesLetter_24 : decode cX5_takesLetter 24 = .ok (.iastore, 1) := by decide +kernel
theorem dX5_takesLetter_25 : decode cX5_takesLetter 25 = .ok (.iinc 3 1, 3) := by decide +kernel
theorem dX5_takesLetter_28 : decode cX5_takesLetter 28 = .ok (.goto (-26), 3) := by decide +kernel
theorem dX5_takesLetter_31 : decode cX5_takesLetter 31 = .ok (.return_, 1) := by decide +kernel
set_option maxRecDepth 20000 in
theorem ggX5_goes_X5_takesLetter : GoodIn wsX5_goes wsX5_takesLetter := goodIn_r _ [7, 2, 31, 32, 33, 34, 35, 36, 37, 38, 39, 40, 41, 42, 43, 44, 45, 46, 47, 48, 49, 50, 51, 52] (by decide +kernel) (by decide +kernel)
set_option maxRecDepth 20000 in
theorem gX5_goes_X5_takesLetter : GoodIn wsX5_goes (wsV RX5 149 RX5 yX5_takesLetter wsX5_takesLetter) := goodIn_app (goodIn_of _ (by decide +kernel)) ggX5_goes_X5_takesLetter
set_option maxRecDepth 20000 in
theorem ggX5_goes_X5_windOf : GoodIn wsX5_goes wsX5_windOf := goodIn_r _ [11, 12, 2, 31, 32, 33, 34, 35, 36, 37, 38, 39, 40, 41, 42, 43, 44, 45, 46, 47, 48, 49, 50, 51, 52] (by decide +kernel) (by decide +kernel)
set_option maxRecDepth 20000 in
theorem gX5_goes_X5_windOf : GoodIn wsX5_goes (wsV RX5 125 RX5 yX5_windOf wsX5_windOf) := goodIn_app (goodIn_of _ (by decide +kernel)) ggX5_goes_X5_windOf
set_option maxRecDepth 20000 in
theorem ggX5_goes_X5_blows : GoodIn wsX5_goes wsX5_blows := goodIn_r _ [16, 12, 17, 18, 19, 6, 20, 21, 22, 23, 24, 25, 26, 27, 28, 29, 30, 31, 32, 33, 34, 35, 36, 37, 38, 39, 40, 41, 42, 43, 44, 45, 46, 47, 48, 49, 50, 51, 52] (by decide +kernel) (by decide +kernel)
set_option maxRecDepth 20000 in
theorem gX5_goes_X5_blows : GoodIn wsX5_goes (wsV RX5 145 RX5 yX5_blows wsX5_blows) := goodIn_app (goodIn_of _ (by decide +kernel)) ggX5_goes_X5_blows
theorem dX5_goes_0 : decode cX5_goes 0 = .ok (.aload_n 0, 1) := by decide +kernel
theorem dX5_goes_1 : decode cX5_goes 1 = .ok (.aload_n 0, 1) := by decide +kernel
theorem dX5_goes_2 : decode cX5_goes 2 = .ok (.getfield 38, 3) := by decide +kernel
theorem dX5_goes_5 : decode cX5_goes 5 = .ok (.iload_n 1, 1) := by decide +kernel
theorem dX5_goes_6 : decode cX5_goes 6 = .ok (.invokevirtual 149, 3) := by decide +kernel
theorem dX5_goes_9 : decode cX5_goes 9 = .ok (.iconst 0, 1) := by decide +kernel
theorem dX5_goes_10 : decode cX5_goes 10 = .ok (.istore_n 3, 1) := by decide +kernel
theorem dX5_goes_11 : decode cX5_goes 11 = .ok (.iload_n 3, 1) := by decide +kernel
theorem dX5_goes_12 : decode cX5_goes 12 = .ok (.iload_n 2, 1) := by decide +kernel
theorem dX5_goes_13 : decode cX5_goes 13 = .ok (.if_icmp .ge 36, 3) := by decide +kernel
theorem dX5_goes_16 : decode cX5_goes 16 = .ok (.aload_n 0, 1) := by decide +kernel
theorem dX5_goes_17 : decode cX5_goes 17 = .ok (.aload_n 0, 1) := by decide +kernel
theorem dX5_goes_18 : decode cX5_goes 18 = .ok (.getfield 38, 3) := by decide +kernel
theorem dX5_goes_21 : decode cX5_goes 21 = .ok (.iconst 0, 1) := by decide +kernel
theorem dX5_goes_22 : decode cX5_goes 22 = .ok (.aload_n 0, 1) := by decide +kernel
theorem dX5_goes_23 : decode cX5_goes 23 = .ok (.aload_n 0, 1) := by decide +kernel
theorem dX5_goes_24 : decode cX5_goes 24 = .ok (.getfield 25, 3) := by decide +kernel
theorem dX5_goes_27 : decode cX5_goes 27 = .ok (.iconst 0, 1) := by decide +kernel
theorem dX5_goes_28 : decode cX5_goes 28 = .ok (.iaload, 1) := by decide +kernel
theorem dX5_goes_29 : decode cX5_goes 29 = .ok (.iload_n 3, 1) := by decide +kernel
theorem dX5_goes_30 : decode cX5_goes 30 = .ok (.iadd, 1) := by decide +kernel
theorem dX5_goes_31 : decode cX5_goes 31 = .ok (.invokevirtual 125, 3) := by decide +kernel
theorem dX5_goes_34 : decode cX5_goes 34 = .ok (.aload_n 0, 1) := by decide +kernel
theorem dX5_goes_35 : decode cX5_goes 35 = .ok (.getfield 25, 3) := by decide +kernel
theorem dX5_goes_38 : decode cX5_goes 38 = .ok (.iconst 2, 1) := by decide +kernel
theorem dX5_goes_39 : decode cX5_goes 39 = .ok (.iaload, 1) := by decide +kernel
theorem dX5_goes_40 : decode cX5_goes 40 = .ok (.invokevirtual 145, 3) := by decide +kernel
theorem dX5_goes_43 : decode cX5_goes 43 = .ok (.iinc 3 1, 3) := by decide +kernel
theorem dX5_goes_46 : decode cX5_goes 46 = .ok (.goto (-35), 3) := by decide +kernel
theorem dX5_goes_49 : decode cX5_goes 49 = .ok (.return_, 1) := by decide +kernel
set_option maxRecDepth 20000 in
theorem ggX5_where_X5_isLetter : GoodIn wsX5_where wsX5_isLetter := goodIn_r _ [7, 8, 9, 10, 6, 11, 43, 44, 45, 46, 47, 48, 49, 50, 51, 52, 53, 54, 55, 56, 57, 58, 59, 60, 61, 62, 63, 64] (by decide +kernel) (by decide +kernel)
set_option maxRecDepth 20000 in
theorem gX5_where_X5_isLetter : GoodIn wsX5_where (wsV RX5 128 RX5 yX5_isLetter wsX5_isLetter) := goodIn_app (goodIn_of _ (by decide +kernel)) ggX5_where_X5_isLetter
set_option maxRecDepth 20000 in
theorem ggX5_where_X5_in : GoodIn wsX5_where wsX5_in := goodIn_r _ [11] (by decide +kernel) (by decide +kernel)
set_option maxRecDepth 20000 in
theorem gX5_where_X5_in : GoodIn wsX5_where (va_wsS RX5 51 yX5_in wsX5_in) := goodIn_app (goodIn_of _ (by decide +kernel)) ggX5_where_X5_in
set_option maxRecDepth 20000 in
theorem ggX5_where_X5_goes : GoodIn wsX5_where wsX5_goes := goodIn_r _ [15, 2, 8, 16, 17, 18, 6, 19, 20, 21, 22, 23, 24, 25, 26, 27, 28, 29, 30, 31, 32, 33, 34, 35, 36, 37, 38, 39, 40, 41, 42, 43, 44, 45, 46, 47, 48, 49, 50, 51, 52, 53, 54, 55, 56, 57, 58, 59, 60, 61, 62, 63, 64] (by decide +kernel) (by decide +kernel)
set_option maxRecDepth 20000 in
theorem gX5_where_X5_goes : GoodIn wsX5_where (wsV RX5 153 RX5 yX5_goes wsX5_goes) := goodIn_app (goodIn_of _ (by decide +kernel)) ggX5_where_X5_goes
theorem dX5_where_0 : decode cX5_where 0 = .ok (.aload_n 0, 1) := by decide +kernel
theorem dX5_where_1 : decode cX5_where 1 = .ok (.iconst 0, 1) := by decide +kernel
theorem dX5_where_2 : decode cX5_where 2 = .ok (.putfield 47, 3) := by decide +kernel
theorem dX5_where_5 : decode cX5_where 5 = .ok (.aload_n 0, 1) := by decide +kernel
theorem dX5_where_6 : decode cX5_where 6 = .ok (.iload_n 1, 1) := by decide +kernel
theorem dX5_where_7 : decode cX5_where 7 = .ok (.invokevirtual 128, 3) := by decide +kernel
theorem dX5_where_10 : decode cX5_where 10 = .ok (.ifCond .eq 13, 3) := by decide +kernel
theorem dX5_where_13 : decode cX5_where 13 = .ok (.iload_n 2, 1) := by decide +kernel
theorem dX5_where_14 : decode cX5_where 14 = .ok (.iconst 0, 1) := by decide +kernel
theorem dX5_where_15 : decode cX5_where 15 = .ok (.bipush 60, 2) := by decide +kernel
theorem dX5_where_17 : decode cX5_where 17 = .ok (.invokestatic 51, 3) := by decide +kernel
theorem dX5_where_20 : decode cX5_where 20 = .ok (.ifCond .ne 5, 3) := by decide +kernel
theorem dX5_where_23 : decode cX5_where 23 = .ok (.iconst (-1), 1) := by decide +kernel
theorem dX5_where_24 : decode cX5_where 24 = .ok (.ireturn, 1) := by decide +kernel
theorem dX5_where_25 : decode cX5_where 25 = .ok (.aload_n 0, 1) := by decide +kernel
theorem dX5_where_26 : decode cX5_where 26 = .ok (.iload_n 1, 1) := by decide +kernel
theorem dX5_where_27 : decode cX5_where 27 = .ok (.iload_n 2, 1) := by decide +kernel
theorem dX5_where_28 : decode cX5_where 28 = .ok (.invokevirtual 153, 3) := by decide +kernel
theorem dX5_where_31 : decode cX5_where 31 = .ok (.aload_n 0, 1) := by decide +kernel
theorem dX5_where_32 : decode cX5_where 32 = .ok (.getfield 38, 3) := by decide +kernel
theorem dX5_where_35 : decode cX5_where 35 = .ok (.iconst 3, 1) := by decide +kernel
theorem dX5_where_36 : decode cX5_where 36 = .ok (.iaload, 1) := by decide +kernel
theorem dX5_where_37 : decode cX5_where 37 = .ok (.ireturn, 1) := by decide +kernel
set_option maxRecDepth 20000 in
theorem ggX5_comesIn_X5_windOf : GoodIn wsX5_comesIn wsX5_windOf := goodIn_r _ [7, 8, 2, 27, 28, 29, 30, 31, 32, 33, 34, 35, 36, 37, 38, 39, 40, 41, 42, 43, 44, 45, 46, 47, 48] (by decide +kernel) (by decide +kernel)
set_option maxRecDepth 20000 in
theorem gX5_comesIn_X5_windOf : GoodIn wsX5_comesIn (wsV RX5 125 RX5 yX5_windOf wsX5_windOf) := goodIn_app (goodIn_of _ (by decide +kernel)) ggX5_comesIn_X5_windOf
set_option maxRecDepth 20000 in
theorem ggX5_comesIn_X5_blows : GoodIn wsX5_comesIn wsX5_blows := goodIn_r _ [12, 8, 13, 14, 15, 6, 16, 17, 18, 19, 20, 21, 22, 23, 24, 25, 26, 27, 28, 29, 30, 31, 32, 33, 34, 35, 36, 37, 38, 39, 40, 41, 42, 43, 44, 45, 46, 47, 48] (by decide +kernel) (by decide +kernel)
set_option maxRecDepth 20000 in
theorem gX5_comesIn_X5_blows : GoodIn wsX5_comesIn (wsV RX5 145 RX5 yX5_blows wsX5_blows) := goodIn_app (goodIn_of _ (by decide +kernel)) ggX5_comesIn_X5_blows
theorem dX5_comesIn_0 : decode cX5_comesIn 0 = .ok (.iconst 0, 1) := by decide +kernel
theorem dX5_comesIn_1 : decode cX5_comesIn 1 = .ok (.istore_n 3, 1) := by decide +kernel
theorem dX5_comesIn_2 : decode cX5_comesIn 2 = .ok (.iload_n 3, 1) := by decide +kernel
theorem dX5_comesIn_3 : decode cX5_comesIn 3 = .ok (.sipush 400, 3) := by decide +kernel
theorem dX5_comesIn_6 : decode cX5_comesIn 6 = .ok (.if_icmp .gt 45, 3) := by decide +kernel
theorem dX5_comesIn_9 : decode cX5_comesIn 9 = .ok (.aload_n 0, 1) := by decide +kernel
theorem dX5_comesIn_10 : decode cX5_comesIn 10 = .ok (.getfield 38, 3) := by decide +kernel
theorem dX5_comesIn_13 : decode cX5_comesIn 13 = .ok (.iconst 5, 1) := by decide +kernel
theorem dX5_comesIn_14 : decode cX5_comesIn 14 = .ok (.iaload, 1) := by decide +kernel
theorem dX5_comesIn_15 : decode cX5_comesIn 15 = .ok (.iconst 1, 1) := by decide +kernel
theorem dX5_comesIn_16 : decode cX5_comesIn 16 = .ok (.if_icmp .ne 5, 3) := by decide +kernel
theorem dX5_comesIn_19 : decode cX5_comesIn 19 = .ok (.iload_n 3, 1) := by decide +kernel
theorem dX5_comesIn_20 : decode cX5_comesIn 20 = .ok (.ireturn, 1) := by decide +kernel
theorem dX5_comesIn_21 : decode cX5_comesIn 21 = .ok (.aload_n 0, 1) := by decide +kernel
theorem dX5_comesIn_22 : decode cX5_comesIn 22 = .ok (.aload_n 0, 1) := by decide +kernel
theorem dX5_comesIn_23 : decode cX5_comesIn 23 = .ok (.getfield 38, 3) := by decide +kernel
theorem dX5_comesIn_26 : decode cX5_comesIn 26 = .ok (.iconst 0, 1) := by decide +kernel
theorem dX5_comesIn_27 : decode cX5_comesIn 27 = .ok (.aload_n 0, 1) := by decide +kernel
theorem dX5_comesIn_28 : decode cX5_comesIn 28 = .ok (.aload_n 0, 1) := by decide +kernel
theorem dX5_comesIn_29 : decode cX5_comesIn 29 = .ok (.getfield 25, 3) := by decide +kernel
theorem dX5_comesIn_32 : decode cX5_comesIn 32 = .ok (.iconst 0, 1) := by decide +kernel
theorem dX5_comesIn_33 : decode cX5_comesIn 33 = .ok (.iaload, 1) := by decide +kernel
theorem dX5_comesIn_34 : decode cX5_comesIn 34 = .ok (.iload_n 1, 1) := by decide +kernel
theorem dX5_comesIn_35 : decode cX5_comesIn 35 = .ok (.iadd, 1) := by decide +kernel
theorem dX5_comesIn_36 : decode cX5_comesIn 36 = .ok (.iload_n 3, 1) := by decide +kernel
theorem dX5_comesIn_37 : decode cX5_comesIn 37 = .ok (.iadd, 1) := by decide +kernel
theorem dX5_comesIn_38 : decode cX5_comesIn 38 = .ok (.invokevirtual 125, 3) := by decide +kernel
theorem dX5_comesIn_41 : decode cX5_comesIn 41 = .ok (.iload_n 2, 1) := by decide +kernel
theorem dX5_comesIn_42 : decode cX5_comesIn 42 = .ok (.invokevirtual 145, 3) := by decide +kernel
theorem dX5_comesIn_45 : decode cX5_comesIn 45 = .ok (.iinc 3 1, 3) := by decide +kernel
theorem dX5_comesIn_48 : decode cX5_comesIn 48 = .ok (.goto (-46), 3) := by decide +kernel
theorem dX5_comesIn_51 : decode cX5_comesIn 51 = .ok (.bipush (-9), 2) := by decide +kernel
theorem dX5_comesIn_53 : decode cX5_comesIn 53 = .ok (.ireturn, 1) := by decide +kernel
set_option maxRecDepth 20000 in
theorem ggX5_comes_X5_isLetter : GoodIn wsX5_comes wsX5_isLetter := goodIn_r _ [8, 3, 9, 10, 7, 11, 43, 44, 45, 46, 47, 48, 49, 50, 51, 52, 53, 54, 55, 56, 57, 58, 59, 60, 61, 62, 63, 64] (by decide +kernel) (by decide +kernel)
set_option maxRecDepth 20000 in
theorem gX5_comes_X5_isLetter : GoodIn wsX5_comes (wsV RX5 128 RX5 yX5_isLetter wsX5_isLetter) := goodIn_app (goodIn_of _ (by decide +kernel)) ggX5_comes_X5_isLetter
set_option maxRecDepth 20000 in
theorem ggX5_comes_X5_takesLetter : GoodIn wsX5_comes wsX5_takesLetter := goodIn_r _ [15, 3, 43, 44, 45, 46, 47, 48, 49, 50, 51, 52, 53, 54, 55, 56, 57, 58, 59, 60, 61, 62, 63, 64] (by decide +kernel) (by decide +kernel)
set_option maxRecDepth 20000 in
theorem gX5_comes_X5_takesLetter : GoodIn wsX5_comes (wsV RX5 149 RX5 yX5_takesLetter wsX5_takesLetter) := goodIn_app (goodIn_of _ (by decide +kernel)) ggX5_comes_X5_takesLetter
set_option maxRecDepth 20000 in
theorem ggX5_comes_X5_comesIn : GoodIn wsX5_comes wsX5_comesIn := goodIn_r _ [19, 2, 3, 20, 21, 22, 7, 23, 24, 25, 26, 27, 28, 29, 30, 31, 32, 33, 34, 35, 36, 37, 38, 39, 40, 41, 42, 43, 44, 45, 46, 47, 48, 49, 50, 51, 52, 53, 54, 55, 56, 57, 58, 59, 60, 61, 62, 63, 64] (by decide +kernel) (by decide +kernel)
set_option maxRecDepth 20000 in
theorem gX5_comes_X5_comesIn : GoodIn wsX5_comes (wsV RX5 157 RX5 yX5_comesIn wsX5_comesIn) := goodIn_app (goodIn_of _ (by decide +kernel)) ggX5_comes_X5_comesIn
theorem dX5_comes_0 : decode cX5_comes 0 = .ok (.aload_n 0, 1) := by decide +kernel
theorem dX5_comes_1 : decode cX5_comes 1 = .ok (.iconst 0, 1) := by decide +kernel
theorem dX5_comes_2 : decode cX5_comes 2 = .ok (.putfield 47, 3) := by decide +kernel
theorem dX5_comes_5 : decode cX5_comes 5 = .ok (.aload_n 0, 1) := by decide +kernel
theorem dX5_comes_6 : decode cX5_comes 6 = .ok (.iload_n 1, 1) := by decide +kernel
theorem dX5_comes_7 : decode cX5_comes 7 = .ok (.invokevirtual 128, 3) := by decide +kernel
theorem dX5_comes_10 : decode cX5_comes 10 = .ok (.ifCond .ne 5, 3) := by decide +kernel
theorem dX5_comes_13 : decode cX5_comes 13 = .ok (.iconst (-1), 1) := by decide +kernel
theorem dX5_comes_14 : decode cX5_comes 14 = .ok (.ireturn, 1) := by decide +kernel
theorem dX5_comes_15 : decode cX5_comes 15 = .ok (.aload_n 0, 1) := by decide +kernel
theorem dX5_comes_16 : decode cX5_comes 16 = .ok (.aload_n 0, 1) := by decide +kernel
theorem dX5_comes_17 : decode cX5_comes 17 = .ok (.getfield 38, 3) := by decide +kernel
theorem dX5_comes_20 : decode cX5_comes 20 = .ok (.iload_n 1, 1) := by decide +kernel
theorem dX5_comes_21 : decode cX5_comes 21 = .ok (.invokevirtual 149, 3) := by decide +kernel
theorem dX5_comes_24 : decode cX5_comes 24 = .ok (.aload_n 0, 1) := by decide +kernel
theorem dX5_comes_25 : decode cX5_comes 25 = .ok (.iconst 0, 1) := by decide +kernel
theorem dX5_comes_26 : decode cX5_comes 26 = .ok (.aload_n 0, 1) := by decide +kernel
theorem dX5_comes_27 : decode cX5_comes 27 = .ok (.getfield 25, 3) := by decide +kernel
theorem dX5_comes_30 : decode cX5_comes 30 = .ok (.iconst 2, 1) := by decide +kernel
theorem dX5_comes_31 : decode cX5_comes 31 = .ok (.iaload, 1) := by decide +kernel
theorem dX5_comes_32 : decode cX5_comes 32 = .ok (.invokevirtual 157, 3) := by decide +kernel
theorem dX5_comes_35 : decode cX5_comes 35 = .ok (.ireturn, 1) := by decide +kernel
set_option maxRecDepth 20000 in
theorem ggX5_blots_X5_isLetter : GoodIn wsX5_blots wsX5_isLetter := goodIn_r _ [7, 8, 9, 10, 6, 11, 43, 44, 45, 46, 47, 48, 49, 50, 51, 52, 53, 54, 55, 56, 57, 58, 59, 60, 61, 62, 63, 64] (by decide +kernel) (by decide +kernel)
set_option maxRecDepth 20000 in
theorem gX5_blots_X5_isLetter : GoodIn wsX5_blots (wsV RX5 128 RX5 yX5_isLetter wsX5_isLetter) := goodIn_app (goodIn_of _ (by decide +kernel)) ggX5_blots_X5_isLetter
set_option maxRecDepth 20000 in
theorem ggX5_blots_X5_in : GoodIn wsX5_blots wsX5_in := goodIn_r _ [11] (by decide +kernel) (by decide +kernel)
set_option maxRecDepth 20000 in
theorem gX5_blots_X5_in : GoodIn wsX5_blots (va_wsS RX5 51 yX5_in wsX5_in) := goodIn_app (goodIn_of _ (by decide +kernel)) ggX5_blots_X5_in
set_option maxRecDepth 20000 in
theorem ggX5_blots_X5_goes : GoodIn wsX5_blots wsX5_goes := goodIn_r _ [15, 2, 8, 16, 17, 18, 6, 19, 20, 21, 22, 23, 24, 25, 26, 27, 28, 29, 30, 31, 32, 33, 34, 35, 36, 37, 38, 39, 40, 41, 42, 43, 44, 45, 46, 47, 48, 49, 50, 51, 52, 53, 54, 55, 56, 57, 58, 59, 60, 61, 62, 63, 64] (by decide +kernel) (by decide +kernel)
set_option maxRecDepth 20000 in
theorem gX5_blots_X5_goes : GoodIn wsX5_blots (wsV RX5 153 RX5 yX5_goes wsX5_goes) := goodIn_app (goodIn_of _ (by decide +kernel)) ggX5_blots_X5_goes
theorem dX5_blots_0 : decode cX5_blots 0 = .ok (.aload_n 0, 1) := by decide +kernel
theorem dX5_blots_1 : decode cX5_blots 1 = .ok (.iconst 0, 1) := by decide +kernel
theorem dX5_blots_2 : decode cX5_blots 2 = .ok (.putfield 47, 3) := by decide +kernel
theorem dX5_blots_5 : decode cX5_blots 5 = .ok (.aload_n 0, 1) := by decide +kernel
theorem dX5_blots_6 : decode cX5_blots 6 = .ok (.iload_n 1, 1) := by decide +kernel
theorem dX5_blots_7 : decode cX5_blots 7 = .ok (.invokevirtual 128, 3) := by decide +kernel
theorem dX5_blots_10 : decode cX5_blots 10 = .ok (.ifCond .eq 13, 3) := by decide +kernel
theorem dX5_blots_13 : decode cX5_blots 13 = .ok (.iload_n 2, 1) := by decide +kernel
theorem dX5_blots_14 : decode cX5_blots 14 = .ok (.iconst 0, 1) := by decide +kernel
theorem dX5_blots_15 : decode cX5_blots 15 = .ok (.bipush 60, 2) := by decide +kernel
theorem dX5_blots_17 : decode cX5_blots 17 = .ok (.invokestatic 51, 3) := by decide +kernel
theorem dX5_blots_20 : decode cX5_blots 20 = .ok (.ifCond .ne 5, 3) := by decide +kernel
theorem dX5_blots_23 : decode cX5_blots 23 = .ok (.iconst (-1), 1) := by decide +kernel
theorem dX5_blots_24 : decode cX5_blots 24 = .ok (.ireturn, 1) := by decide +kernel
theorem dX5_blots_25 : decode cX5_blots 25 = .ok (.aload_n 0, 1) := by decide +kernel
theorem dX5_blots_26 : decode cX5_blots 26 = .ok (.iload_n 1, 1) := by decide +kernel
theorem dX5_blots_27 : decode cX5_blots 27 = .ok (.iload_n 2, 1) := by decide +kernel
theorem dX5_blots_28 : decode cX5_blots 28 = .ok (.invokevirtual 153, 3) := by decide +kernel
theorem dX5_blots_31 : decode cX5_blots 31 = .ok (.aload_n 0, 1) := by decide +kernel
theorem dX5_blots_32 : decode cX5_blots 32 = .ok (.getfield 38, 3) := by decide +kernel
theorem dX5_blots_35 : decode cX5_blots 35 = .ok (.iconst 4, 1) := by decide +kernel
theorem dX5_blots_36 : decode cX5_blots 36 = .ok (.iaload, 1) := by decide +kernel
theorem dX5_blots_37 : decode cX5_blots 37 = .ok (.ireturn, 1) := by decide +kernel
set_option maxRecDepth 20000 in
theorem ggX5_loop_X5_isLetter : GoodIn wsX5_loop wsX5_isLetter := goodIn_r _ [10, 5, 11, 12, 9, 13, 40, 41, 42, 43, 44, 45, 46, 47, 48, 49, 50, 51, 52, 53, 54, 55, 56, 57, 58, 59, 60, 61] (by decide +kernel) (by decide +kernel)
set_option maxRecDepth 20000 in
theorem gX5_loop_X5_isLetter : GoodIn wsX5_loop (wsV RX5 128 RX5 yX5_isLetter wsX5_isLetter) := goodIn_app (goodIn_of _ (by decide +kernel)) ggX5_loop_X5_isLetter
set_option maxRecDepth 20000 in
theorem ggX5_loop_X5_takesLetter : GoodIn wsX5_loop wsX5_takesLetter := goodIn_r _ [17, 5, 40, 41, 42, 43, 44, 45, 46, 47, 48, 49, 50, 51, 52, 53, 54, 55, 56, 57, 58, 59, 60, 61] (by decide +kernel) (by decide +kernel)
set_option maxRecDepth 20000 in
theorem gX5_loop_X5_takesLetter : GoodIn wsX5_loop (wsV RX5 149 RX5 yX5_takesLetter wsX5_takesLetter) := goodIn_app (goodIn_of _ (by decide +kernel)) ggX5_loop_X5_takesLetter
set_option maxRecDepth 20000 in
theorem ggX5_loop_X5_windOf : GoodIn wsX5_loop wsX5_windOf := goodIn_r _ [21, 2, 5, 40, 41, 42, 43, 44, 45, 46, 47, 48, 49, 50, 51, 52, 53, 54, 55, 56, 57, 58, 59, 60, 61] (by decide +kernel) (by decide +kernel)
set_option maxRecDepth 20000 in
theorem gX5_loop_X5_windOf : GoodIn wsX5_loop (wsV RX5 125 RX5 yX5_windOf wsX5_windOf) := goodIn_app (goodIn_of _ (by decide +kernel)) ggX5_loop_X5_windOf
set_option maxRecDepth 20000 in
theorem ggX5_loop_X5_blows : GoodIn wsX5_loop wsX5_blows := goodIn_r _ [25, 2, 26, 27, 28, 9, 29, 30, 31, 32, 33, 34, 35, 36, 37, 38, 39, 40, 41, 42, 43, 44, 45, 46, 47, 48, 49, 50, 51, 52, 53, 54, 55, 56, 57, 58, 59, 60, 61] (by decide +kernel) (by decide +kernel)
set_option maxRecDepth 20000 in
theorem gX5_loop_X5_blows : GoodIn wsX5_loop (wsV RX5 145 RX5 yX5_blows wsX5_blows) := goodIn_app (goodIn_of _ (by decide +kernel)) ggX5_loop_X5_blows
theorem dX5_loop_0 : decode cX5_loop 0 = .ok (.aload_n 0, 1) := by decide +kernel
theorem dX5_loop_1 : decode cX5_loop 1 = .ok (.iconst 0, 1) := by decide +kernel
theorem dX5_loop_2 : decode cX5_loop 2 = .ok (.putfield 47, 3) := by decide +kernel
theorem dX5_loop_5 : decode cX5_loop 5 = .ok (.aload_n 0, 1) := by decide +kernel
theorem dX5_loop_6 : decode cX5_loop 6 = .ok (.iload_n 1, 1) := by decide +kernel
theorem dX5_loop_7 : decode cX5_loop 7 = .ok (.invokevirtual 128, 3) := by decide +kernel
theorem dX5_loop_10 : decode cX5_loop 10 = .ok (.ifCond .ne 5, 3) := by decide +kernel
theorem dX5_loop_13 : decode cX5_loop 13 = .ok (.iconst (-1), 1) := by decide +kernel
theorem dX5_loop_14 : decode cX5_loop 14 = .ok (.ireturn, 1) := by decide +kernel
theorem dX5_loop_15 : decode cX5_loop 15 = .ok (.aload_n 0, 1) := by decide +kernel
theorem dX5_loop_16 : decode cX5_loop 16 = .ok (.getfield 13, 3) := by decide +kernel
theorem dX5_loop_19 : decode cX5_loop 19 = .ok (.iconst 4, 1) := by decide +kernel
theorem dX5_loop_20 : decode cX5_loop 20 = .ok (.iaload, 1) := by decide +kernel
theorem dX5_loop_21 : decode cX5_loop 21 = .ok (.ifCond .ne 7, 3) := by decide +kernel
theorem dX5_loop_24 : decode cX5_loop 24 = .ok (.iconst 1, 1) := by decide +kernel
theorem dX5_loop_25 : decode cX5_loop 25 = .ok (.goto 9, 3) := by decide +kernel
theorem dX5_loop_28 : decode cX5_loop 28 = .ok (.aload_n 0, 1) := by decide +kernel
theorem dX5_loop_29 : decode cX5_loop 29 = .ok (.getfield 13, 3) := by decide +kernel
theorem dX5_loop_32 : decode cX5_loop 32 = .ok (.iconst 4, 1) := by decide +kernel
theorem dX5_loop_33 : decode cX5_loop 33 = .ok (.iaload, 1) := by decide +kernel
theorem dX5_loop_34 : decode cX5_loop 34 = .ok (.istore_n 2, 1) := by decide +kernel
theorem dX5_loop_35 : decode cX5_loop 35 = .ok (.iconst 0, 1) := by decide +kernel
theorem dX5_loop_36 : decode cX5_loop 36 = .ok (.istore_n 3, 1) := by decide +kernel
theorem dX5_loop_37 : decode cX5_loop 37 = .ok (.iload_n 3, 1) := by decide +kernel
theorem dX5_loop_38 : decode cX5_loop 38 = .ok (.bipush 30, 2) := by decide +kernel
theorem dX5_loop_40 : decode cX5_loop 40 = .ok (.if_icmp .ge 17, 3) := by decide +kernel
theorem dX5_loop_43 : decode cX5_loop 43 = .ok (.aload_n 0, 1) := by decide +kernel
theorem dX5_loop_44 : decode cX5_loop 44 = .ok (.getfield 44, 3) := by decide +kernel
theorem dX5_loop_47 : decode cX5_loop 47 = .ok (.iload_n 3, 1) := by decide +kernel
theorem dX5_loop_48 : decode cX5_loop 48 = .ok (.bipush (-9), 2) := by decide +kernel
theorem dX5_loop_50 : decode cX5_loop 50 = .ok (.iastore, 1) := by decide +kernel
theorem dX5_loop_51 : decode cX5_loop 51 = .ok (.iinc 3 1, 3) := by decide +kernel
theorem dX5_loop_54 : decode cX5_loop 54 = .ok (.goto (-17), 3) := by decide +kernel
theorem dX5_loop_57 : decode cX5_loop 57 = .ok (.aload_n 0, 1) := by decide +kernel
theorem dX5_loop_58 : decode cX5_loop 58 = .ok (.aload_n 0, 1) := by decide +kernel
theorem dX5_loop_59 : decode cX5_loop 59 = .ok (.getfield 38, 3) := by decide +kernel
theorem dX5_loop_62 : decode cX5_loop 62 = .ok (.iload_n 1, 1) := by decide +kernel
theorem dX5_loop_63 : decode cX5_loop 63 = .ok (.invokevirtual 149, 3) := by decide +kernel
theorem dX5_loop_66 : decode cX5_loop 66 = .ok (.iconst 0, 1) := by decide +kernel
theorem dX5_loop_67 : decode cX5_loop 67 = .ok (.istore_n 3, 1) := by decide +kernel
theorem dX5_loop_68 : decode cX5_loop 68 = .ok (.aload_n 0, 1) := by decide +kernel
theorem dX5_loop_69 : decode cX5_loop 69 = .ok (.getfield 38, 3) := by decide +kernel
theorem dX5_loop_72 : decode cX5_loop 72 = .ok (.iconst 5, 1) := by decide +kernel
theorem dX5_loop_73 : decode cX5_loop 73 = .ok (.iaload, 1) := by decide +kernel
theorem dX5_loop_74 : decode cX5_loop 74 = .ok (.ifCond .ne 80, 3) := by decide +kernel
theorem dX5_loop_77 : decode cX5_loop 77 = .ok (.aload_n 0, 1) := by decide +kernel
theorem dX5_loop_78 : decode cX5_loop 78 = .ok (.getfield 44, 3) := by decide +kernel
theorem dX5_loop_81 : decode cX5_loop 81 = .ok (.aload_n 0, 1) := by decide +kernel
theorem dX5_loop_82 : decode cX5_loop 82 = .ok (.getfield 38, 3) := by decide +kernel
theorem dX5_loop_85 : decode cX5_loop 85 = .ok (.iconst 3, 1) := by decide +kernel
theorem dX5_loop_86 : decode cX5_loop 86 = .ok (.iaload, 1) := by decide +kernel
theorem dX5_loop_87 : decode cX5_loop 87 = .ok (.iaload, 1) := by decide +kernel
theorem dX5_loop_88 : decode cX5_loop 88 = .ok (.bipush (-9), 2) := by decide +kernel
theorem dX5_loop_90 : decode cX5_loop 90 = .ok (.if_icmp .ne 64, 3) := by decide +kernel
theorem dX5_loop_93 : decode cX5_loop 93 = .ok (.aload_n 0, 1) := by decide +kernel
theorem dX5_loop_94 : decode cX5_loop 94 = .ok (.getfield 44, 3) := by decide +kernel
theorem dX5_loop_97 : decode cX5_loop 97 = .ok (.aload_n 0, 1) := by decide +kernel
theorem dX5_loop_98 : decode cX5_loop 98 = .ok (.getfield 38, 3) := by decide +kernel
theorem dX5_loop_101 : decode cX5_loop 101 = .ok (.iconst 3, 1) := by decide +kernel
theorem dX5_loop_102 : decode cX5_loop 102 = .ok (.iaload, 1) := by decide +kernel
theorem dX5_loop_103 : decode cX5_loop 103 = .ok (.iload_n 3, 1) := by decide +kernel
theorem dX5_loop_104 : decode cX5_loop 104 = .ok (.iastore, 1) := by decide +kernel
theorem dX5_loop_105 : decode cX5_loop 105 = .ok (.iconst 0, 1) := by decide +kernel
theorem dX5_loop_106 : decode cX5_loop 106 = .ok (.istore 4, 2) := by decide +kernel
theorem dX5_loop_108 : decode cX5_loop 108 = .ok (.iload 4, 2) := by decide +kernel
theorem dX5_loop_110 : decode cX5_loop 110 = .ok (.iload_n 2, 1) := by decide +kernel
theorem dX5_loop_111 : decode cX5_loop 111 = .ok (.if_icmp .ge 37, 3) := by decide +kernel
theorem dX5_loop_114 : decode cX5_loop 114 = .ok (.aload_n 0, 1) := by decide +kernel
theorem dX5_loop_115 : decode cX5_loop 115 = .ok (.aload_n 0, 1) := by decide +kernel
theorem dX5_loop_116 : decode cX5_loop 116 = .ok (.getfield 38, 3) := by decide +kernel
theorem dX5_loop_119 : decode cX5_loop 119 = .ok (.iconst 0, 1) := by decide +kernel
theorem dX5_loop_120 : decode cX5_loop 120 = .ok (.aload_n 0, 1) := by decide +kernel
theorem dX5_loop_121 : decode cX5_loop 121 = .ok (.aload_n 0, 1) := by decide +kernel
theorem dX5_loop_122 : decode cX5_loop 122 = .ok (.getfield 25, 3) := by decide +kernel
theorem dX5_loop_125 : decode cX5_loop 125 = .ok (.iconst 0, 1) := by decide +kernel
theorem dX5_loop_126 : decode cX5_loop 126 = .ok (.iaload, 1) := by decide +kernel
theorem dX5_loop_127 : decode cX5_loop 127 = .ok (.iload 4, 2) := by decide +kernel
theorem dX5_loop_129 : decode cX5_loop 129 = .ok (.iadd, 1) := by decide +kernel
theorem dX5_loop_130 : decode cX5_loop 130 = .ok (.invokevirtual 125, 3) := by decide +kernel
theorem dX5_loop_133 : decode cX5_loop 133 = .ok (.aload_n 0, 1) := by decide +kernel
theorem dX5_loop_134 : decode cX5_loop 134 = .ok (.getfield 25, 3) := by decide +kernel
theorem dX5_loop_137 : decode cX5_loop 137 = .ok (.iconst 2, 1) := by decide +kernel
theorem dX5_loop_138 : decode cX5_loop 138 = .ok (.iaload, 1) := by decide +kernel
theorem dX5_loop_139 : decode cX5_loop 139 = .ok (.invokevirtual 145, 3) := by decide +kernel
theorem dX5_loop_142 : decode cX5_loop 142 = .ok (.iinc 4 1, 3) := by decide +kernel
theorem dX5_loop_145 : decode cX5_loop 145 = .ok (.goto (-37), 3) := by decide +kernel
theorem dX5_loop_148 : decode cX5_loop 148 = .ok (.iinc 3 1, 3) := by decide +kernel
theorem dX5_loop_151 : decode cX5_loop 151 = .ok (.goto (-83), 3) := by decide +kernel
theorem dX5_loop_154 : decode cX5_loop 154 = .ok (.aload_n 0, 1) := by decide +kernel
theorem dX5_loop_155 : decode cX5_loop 155 = .ok (.getfield 38, 3) := by decide +kernel
theorem dX5_loop_158 : decode cX5_loop 158 = .ok (.iconst 5, 1) := by decide +kernel
theorem dX5_loop_159 : decode cX5_loop 159 = .ok (.iaload, 1) := by decide +kernel
theorem dX5_loop_160 : decode cX5_loop 160 = .ok (.ifCond .ne 21, 3) := by decide +kernel
theorem dX5_loop_163 : decode cX5_loop 163 = .ok (.iload_n 2, 1) := by decide +kernel
theorem dX5_loop_164 : decode cX5_loop 164 = .ok (.iload_n 3, 1) := by decide +kernel
theorem dX5_loop_165 : decode cX5_loop 165 = .ok (.aload_n 0, 1) := by decide +kernel
theorem dX5_loop_166 : decode cX5_loop 166 = .ok (.getfield 44, 3) := by decide +kernel
theorem dX5_loop_169 : decode cX5_loop 169 = .ok (.aload_n 0, 1) := by decide +kernel
theorem dX5_loop_170 : decode cX5_loop 170 = .ok (.getfield 38, 3) := by decide +kernel
theorem dX5_loop_173 : decode cX5_loop 173 = .ok (.iconst 3, 1) := by decide +kernel
theorem dX5_loop_174 : decode cX5_loop 174 = .ok (.iaload, 1) := by decide +kernel
theorem dX5_loop_175 : decode cX5_loop 175 = .ok (.iaload, 1) := by decide +kernel
theorem dX5_loop_176 : decode cX5_loop 176 = .ok (.isub, 1) := by decide +kernel
theorem dX5_loop_177 : decode cX5_loop 177 = .ok (.imul, 1) := by decide +kernel
theorem dX5_loop_178 : decode cX5_loop 178 = .ok (.goto 5, 3) := by decide +kernel
theorem dX5_loop_181 : decode cX5_loop 181 = .ok (.bipush (-9), 2) := by decide +kernel
theorem dX5_loop_183 : decode cX5_loop 183 = .ok (.ireturn, 1) := by decide +kernel
set_option maxRecDepth 20000 in
theorem ggX5_tangled_X5_isLetter : GoodIn wsX5_tangled wsX5_isLetter := goodIn_r _ [9, 4, 10, 11, 8, 12, 40, 41, 42, 43, 44, 45, 46, 47, 48, 49, 50, 51, 52, 53, 54, 55, 56, 57, 58, 59, 60, 61] (by decide +kernel) (by decide +kernel)
set_option maxRecDepth 20000 in
theorem gX5_tangled_X5_isLetter : GoodIn wsX5_tangled (wsV RX5 128 RX5 yX5_isLetter wsX5_isLetter) := goodIn_app (goodIn_of _ (by decide +kernel)) ggX5_tangled_X5_isLetter
set_option maxRecDepth 20000 in
theorem ggX5_tangled_X5_takesLetter : GoodIn wsX5_tangled wsX5_takesLetter := goodIn_r _ [16, 4, 40, 41, 42, 43, 44, 45, 46, 47, 48, 49, 50, 51, 52, 53, 54, 55, 56, 57, 58, 59, 60, 61] (by decide +kernel) (by decide +kernel)
set_option maxRecDepth 20000 in
theorem gX5_tangled_X5_takesLetter : GoodIn wsX5_tangled (wsV RX5 149 RX5 yX5_takesLetter wsX5_takesLetter) := goodIn_app (goodIn_of _ (by decide +kernel)) ggX5_tangled_X5_takesLetter
set_option maxRecDepth 20000 in
theorem ggX5_tangled_X5_windOf : GoodIn wsX5_tangled wsX5_windOf := goodIn_r _ [20, 21, 4, 40, 41, 42, 43, 44, 45, 46, 47, 48, 49, 50, 51, 52, 53, 54, 55, 56, 57, 58, 59, 60, 61] (by decide +kernel) (by decide +kernel)
set_option maxRecDepth 20000 in
theorem gX5_tangled_X5_windOf : GoodIn wsX5_tangled (wsV RX5 125 RX5 yX5_windOf wsX5_windOf) := goodIn_app (goodIn_of _ (by decide +kernel)) ggX5_tangled_X5_windOf
set_option maxRecDepth 20000 in
theorem ggX5_tangled_X5_blows : GoodIn wsX5_tangled wsX5_blows := goodIn_r _ [25, 21, 26, 27, 28, 8, 29, 30, 31, 32, 33, 34, 35, 36, 37, 38, 39, 40, 41, 42, 43, 44, 45, 46, 47, 48, 49, 50, 51, 52, 53, 54, 55, 56, 57, 58, 59, 60, 61] (by decide +kernel) (by decide +kernel)
set_option maxRecDepth 20000 in
theorem gX5_tangled_X5_blows : GoodIn wsX5_tangled (wsV RX5 145 RX5 yX5_blows wsX5_blows) := goodIn_app (goodIn_of _ (by decide +kernel)) ggX5_tangled_X5_blows
theorem dX5_tangled_0 : decode cX5_tangled 0 = .ok (.aload_n 0, 1) := by decide +kernel
theorem dX5_tangled_1 : decode cX5_tangled 1 = .ok (.iconst 0, 1) := by decide +kernel
theorem dX5_tangled_2 : decode cX5_tangled 2 = .ok (.putfield 47, 3) := by decide +kernel
theorem dX5_tangled_5 : decode cX5_tangled 5 = .ok (.aload_n 0, 1) := by decide +kernel
theorem dX5_tangled_6 : decode cX5_tangled 6 = .ok (.iload_n 1, 1) := by decide +kernel
theorem dX5_tangled_7 : decode cX5_tangled 7 = .ok (.invokevirtual 128, 3) := by decide +kernel
theorem dX5_tangled_10 : decode cX5_tangled 10 = .ok (.ifCond .eq 16, 3) := by decide +kernel
theorem dX5_tangled_13 : decode cX5_tangled 13 = .ok (.aload_n 0, 1) := by decide +kernel
theorem dX5_tangled_14 : decode cX5_tangled 14 = .ok (.iload_n 2, 1) := by decide +kernel
theorem dX5_tangled_15 : decode cX5_tangled 15 = .ok (.invokevirtual 128, 3) := by decide +kernel
theorem dX5_tangled_18 : decode cX5_tangled 18 = .ok (.ifCond .eq 8, 3) := by decide +kernel
theorem dX5_tangled_21 : decode cX5_tangled 21 = .ok (.iload_n 1, 1) := by decide +kernel
theorem dX5_tangled_22 : decode cX5_tangled 22 = .ok (.iload_n 2, 1) := by decide +kernel
theorem dX5_tangled_23 : decode cX5_tangled 23 = .ok (.if_icmp .ne 5, 3) := by decide +kernel
theorem dX5_tangled_26 : decode cX5_tangled 26 = .ok (.iconst (-1), 1) := by decide +kernel
theorem dX5_tangled_27 : decode cX5_tangled 27 = .ok (.ireturn, 1) := by decide +kernel
theorem dX5_tangled_28 : decode cX5_tangled 28 = .ok (.aload_n 0, 1) := by decide +kernel
theorem dX5_tangled_29 : decode cX5_tangled 29 = .ok (.aload_n 0, 1) := by decide +kernel
theorem dX5_tangled_30 : decode cX5_tangled 30 = .ok (.getfield 38, 3) := by decide +kernel
theorem dX5_tangled_33 : decode cX5_tangled 33 = .ok (.iload_n 1, 1) := by decide +kernel
theorem dX5_tangled_34 : decode cX5_tangled 34 = .ok (.invokevirtual 149, 3) := by decide +kernel
theorem dX5_tangled_37 : decode cX5_tangled 37 = .ok (.aload_n 0, 1) := by decide +kernel
theorem dX5_tangled_38 : decode cX5_tangled 38 = .ok (.aload_n 0, 1) := by decide +kernel
theorem dX5_tangled_39 : decode cX5_tangled 39 = .ok (.getfield 41, 3) := by decide +kernel
theorem dX5_tangled_42 : decode cX5_tangled 42 = .ok (.iload_n 2, 1) := by decide +kernel
theorem dX5_tangled_43 : decode cX5_tangled 43 = .ok (.invokevirtual 149, 3) := by decide +kernel
theorem dX5_tangled_46 : decode cX5_tangled 46 = .ok (.iconst 0, 1) := by decide +kernel
theorem dX5_tangled_47 : decode cX5_tangled 47 = .ok (.istore_n 3, 1) := by decide +kernel
theorem dX5_tangled_48 : decode cX5_tangled 48 = .ok (.iload_n 3, 1) := by decide +kernel
theorem dX5_tangled_49 : decode cX5_tangled 49 = .ok (.sipush 400, 3) := by decide +kernel
theorem dX5_tangled_52 : decode cX5_tangled 52 = .ok (.if_icmp .gt 98, 3) := by decide +kernel
theorem dX5_tangled_55 : decode cX5_tangled 55 = .ok (.aload_n 0, 1) := by decide +kernel
theorem dX5_tangled_56 : decode cX5_tangled 56 = .ok (.getfield 38, 3) := by decide +kernel
theorem dX5_tangled_59 : decode cX5_tangled 59 = .ok (.iconst 5, 1) := by decide +kernel
theorem dX5_tangled_60 : decode cX5_tangled 60 = .ok (.iaload, 1) := by decide +kernel
theorem dX5_tangled_61 : decode cX5_tangled 61 = .ok (.ifCond .ne 29, 3) := by decide +kernel
theorem dX5_tangled_64 : decode cX5_tangled 64 = .ok (.aload_n 0, 1) := by decide +kernel
theorem dX5_tangled_65 : decode cX5_tangled 65 = .ok (.getfield 41, 3) := by decide +kernel
theorem dX5_tangled_68 : decode cX5_tangled 68 = .ok (.iconst 5, 1) := by decide +kernel
theorem dX5_tangled_69 : decode cX5_tangled 69 = .ok (.iaload, 1) := by decide +kernel
theorem dX5_tangled_70 : decode cX5_tangled 70 = .ok (.ifCond .ne 20, 3) := by decide +kernel
theorem dX5_tangled_73 : decode cX5_tangled 73 = .ok (.aload_n 0, 1) := by decide +kernel
theorem dX5_tangled_74 : decode cX5_tangled 74 = .ok (.getfield 38, 3) := by decide +kernel
theorem dX5_tangled_77 : decode cX5_tangled 77 = .ok (.iconst 3, 1) := by decide +kernel
theorem dX5_tangled_78 : decode cX5_tangled 78 = .ok (.iaload, 1) := by decide +kernel
theorem dX5_tangled_79 : decode cX5_tangled 79 = .ok (.aload_n 0, 1) := by decide +kernel
theorem dX5_tangled_80 : decode cX5_tangled 80 = .ok (.getfield 41, 3) := by decide +kernel
theorem dX5_tangled_83 : decode cX5_tangled 83 = .ok (.iconst 3, 1) := by decide +kernel
theorem dX5_tangled_84 : decode cX5_tangled 84 = .ok (.iaload, 1) := by decide +kernel
theorem dX5_tangled_85 : decode cX5_tangled 85 = .ok (.if_icmp .ne 5, 3) := by decide +kernel
theorem dX5_tangled_88 : decode cX5_tangled 88 = .ok (.iload_n 3, 1) := by decide +kernel
theorem dX5_tangled_89 : decode cX5_tangled 89 = .ok (.ireturn, 1) := by decide +kernel
theorem dX5_tangled_90 : decode cX5_tangled 90 = .ok (.aload_n 0, 1) := by decide +kernel
theorem dX5_tangled_91 : decode cX5_tangled 91 = .ok (.aload_n 0, 1) := by decide +kernel
theorem dX5_tangled_92 : decode cX5_tangled 92 = .ok (.getfield 38, 3) := by decide +kernel
theorem dX5_tangled_95 : decode cX5_tangled 95 = .ok (.iconst 0, 1) := by decide +kernel
theorem dX5_tangled_96 : decode cX5_tangled 96 = .ok (.aload_n 0, 1) := by decide +kernel
theorem dX5_tangled_97 : decode cX5_tangled 97 = .ok (.aload_n 0, 1) := by decide +kernel
theorem dX5_tangled_98 : decode cX5_tangled 98 = .ok (.getfield 25, 3) := by decide +kernel
theorem dX5_tangled_101 : decode cX5_tangled 101 = .ok (.iconst 0, 1) := by decide +kernel
theorem dX5_tangled_102 : decode cX5_tangled 102 = .ok (.iaload, 1) := by decide +kernel
theorem dX5_tangled_103 : decode cX5_tangled 103 = .ok (.iload_n 3, 1) := by decide +kernel
theorem dX5_tangled_104 : decode cX5_tangled 104 = .ok (.iadd, 1) := by decide +kernel
theorem dX5_tangled_105 : decode cX5_tangled 105 = .ok (.invokevirtual 125, 3) := by decide +kernel
theorem dX5_tangled_108 : decode cX5_tangled 108 = .ok (.aload_n 0, 1) := by decide +kernel
theorem dX5_tangled_109 : decode cX5_tangled 109 = .ok (.getfield 25, 3) := by decide +kernel
theorem dX5_tangled_112 : decode cX5_tangled 112 = .ok (.iconst 2, 1) := by decide +kernel
theorem dX5_tangled_113 : decode cX5_tangled 113 = .ok (.iaload, 1) := by decide +kernel
theorem dX5_tangled_114 : decode cX5_tangled 114 = .ok (.invokevirtual 145, 3) := by decide +kernel
theorem dX5_tangled_117 : decode cX5_tangled 117 = .ok (.aload_n 0, 1) := by decide +kernel
theorem dX5_tangled_118 : decode cX5_tangled 118 = .ok (.aload_n 0, 1) := by decide +kernel
theorem dX5_tangled_119 : decode cX5_tangled 119 = .ok (.getfield 41, 3) := by decide +kernel
theorem dX5_tangled_122 : decode cX5_tangled 122 = .ok (.iconst 0, 1) := by decide +kernel
theorem dX5_tangled_123 : decode cX5_tangled 123 = .ok (.aload_n 0, 1) := by decide +kernel
theorem dX5_tangled_124 : decode cX5_tangled 124 = .ok (.aload_n 0, 1) := by decide +kernel
theorem dX5_tangled_125 : decode cX5_tangled 125 = .ok (.getfield 25, 3) := by decide +kernel
theorem dX5_tangled_128 : decode cX5_tangled 128 = .ok (.iconst 0, 1) := by decide +kernel
theorem dX5_tangled_129 : decode cX5_tangled 129 = .ok (.iaload, 1) := by decide +kernel
theorem dX5_tangled_130 : decode cX5_tangled 130 = .ok (.iload_n 3, 1) := by decide +kernel
theorem dX5_tangled_131 : decode cX5_tangled 131 = .ok (.iadd, 1) := by decide +kernel
theorem dX5_tangled_132 : decode cX5_tangled 132 = .ok (.invokevirtual 125, 3) := by decide +kernel
theorem dX5_tangled_135 : decode cX5_tangled 135 = .ok (.aload_n 0, 1) := by decide +kernel
theorem dX5_tangled_136 : decode cX5_tangled 136 = .ok (.getfield 25, 3) := by decide +kernel
theorem dX5_tangled_139 : decode cX5_tangled 139 = .ok (.iconst 2, 1) := by decide +kernel
theorem dX5_tangled_140 : decode cX5_tangled 140 = .ok (.iaload, 1) := by decide +kernel
theorem dX5_tangled_141 : decode cX5_tangled 141 = .ok (.invokevirtual 145, 3) := by decide +kernel
theorem dX5_tangled_144 : decode cX5_tangled 144 = .ok (.iinc 3 1, 3) := by decide +kernel
theorem dX5_tangled_147 : decode cX5_tangled 147 = .ok (.goto (-99), 3) := by decide +kernel
theorem dX5_tangled_150 : decode cX5_tangled 150 = .ok (.bipush (-9), 2) := by decide +kernel
theorem dX5_tangled_152 : decode cX5_tangled 152 = .ok (.ireturn, 1) := by decide +kernel
set_option maxRecDepth 20000 in
theorem ggX5_comesBy_X5_puts : GoodIn wsX5_comesBy wsX5_puts := goodIn_r _ [6, 7, 35, 36, 37, 38, 39, 40, 41, 42, 43, 44, 45, 46, 47, 48, 49, 50, 51, 52, 53, 54, 55, 56] (by decide +kernel) (by decide +kernel)
set_option maxRecDepth 20000 in
theorem gX5_comesBy_X5_puts : GoodIn wsX5_comesBy (wsV RX5 138 RX5 yX5_puts wsX5_puts) := goodIn_app (goodIn_of _ (by decide +kernel)) ggX5_comesBy_X5_puts
set_option maxRecDepth 20000 in
theorem ggX5_comesBy_X5_comesIn : GoodIn wsX5_comesBy wsX5_comesIn := goodIn_r _ [11, 1, 12, 13, 14, 15, 5, 16, 17, 18, 19, 20, 21, 22, 23, 24, 25, 26, 27, 28, 29, 30, 31, 32, 33, 34, 7, 35, 36, 37, 38, 39, 40, 41, 42, 43, 44, 45, 46, 47, 48, 49, 50, 51, 52, 53, 54, 55, 56] (by decide +kernel) (by decide +kernel)
set_option maxRecDepth 20000 in
theorem gX5_comesBy_X5_comesIn : GoodIn wsX5_comesBy (wsV RX5 157 RX5 yX5_comesIn wsX5_comesIn) := goodIn_app (goodIn_of _ (by decide +kernel)) ggX5_comesBy_X5_comesIn
theorem dX5_comesBy_0 : decode cX5_comesBy 0 = .ok (.aload_n 0, 1) := by decide +kernel
theorem dX5_comesBy_1 : decode cX5_comesBy 1 = .ok (.aload_n 0, 1) := by decide +kernel
theorem dX5_comesBy_2 : decode cX5_comesBy 2 = .ok (.getfield 38, 3) := by decide +kernel
theorem dX5_comesBy_5 : decode cX5_comesBy 5 = .ok (.iconst 0, 1) := by decide +kernel
theorem dX5_comesBy_6 : decode cX5_comesBy 6 = .ok (.iload_n 1, 1) := by decide +kernel
theorem dX5_comesBy_7 : decode cX5_comesBy 7 = .ok (.iload_n 2, 1) := by decide +kernel
theorem dX5_comesBy_8 : decode cX5_comesBy 8 = .ok (.iload_n 3, 1) := by decide +kernel
theorem dX5_comesBy_9 : decode cX5_comesBy 9 = .ok (.invokevirtual 138, 3) := by decide +kernel
theorem dX5_comesBy_12 : decode cX5_comesBy 12 = .ok (.aload_n 0, 1) := by decide +kernel
theorem dX5_comesBy_13 : decode cX5_comesBy 13 = .ok (.iload 4, 2) := by decide +kernel
theorem dX5_comesBy_15 : decode cX5_comesBy 15 = .ok (.iload 5, 2) := by decide +kernel
theorem dX5_comesBy_17 : decode cX5_comesBy 17 = .ok (.invokevirtual 157, 3) := by decide +kernel
theorem dX5_comesBy_20 : decode cX5_comesBy 20 = .ok (.ireturn, 1) := by decide +kernel
set_option maxRecDepth 20000 in
theorem ggX5_bestK_X5_comesBy : GoodIn wsX5_bestK wsX5_comesBy := goodIn_r _ [5, 6, 7, 8, 9, 4, 10, 11, 12, 13, 14, 15, 16, 17, 18, 19, 20, 21, 22, 23, 24, 25, 26, 27, 28, 29, 30, 31, 32, 33, 34, 35, 36, 37, 38, 39, 40, 41, 42, 43, 44, 45, 46, 47, 48, 49, 50, 51, 52, 53, 54, 55, 56, 57, 58, 59, 60] (by decide +kernel) (by decide +kernel)
set_option maxRecDepth 20000 in
theorem gX5_bestK_X5_comesBy : GoodIn wsX5_bestK (wsV RX5 160 RX5 yX5_comesBy wsX5_comesBy) := goodIn_app (goodIn_of _ (by decide +kernel)) ggX5_bestK_X5_comesBy
theorem dX5_bestK_0 : decode cX5_bestK 0 = .ok (.bipush (-9), 2) := by decide +kernel
theorem dX5_bestK_2 : decode cX5_bestK 2 = .ok (.istore 5, 2) := by decide +kernel
theorem dX5_bestK_4 : decode cX5_bestK 4 = .ok (.iconst 0, 1) := by decide +kernel
theorem dX5_bestK_5 : decode cX5_bestK 5 = .ok (.istore 6, 2) := by decide +kernel
theorem dX5_bestK_7 : decode cX5_bestK 7 = .ok (.iconst 0, 1) := by decide +kernel
theorem dX5_bestK_8 : decode cX5_bestK 8 = .ok (.istore 7, 2) := by decide +kernel
theorem dX5_bestK_10 : decode cX5_bestK 10 = .ok (.iload 7, 2) := by decide +kernel
theorem dX5_bestK_12 : decode cX5_bestK 12 = .ok (.bipush 12, 2) := by decide +kernel
theorem dX5_bestK_14 : decode cX5_bestK 14 = .ok (.if_icmp .ge 57, 3) := by decide +kernel
theorem dX5_bestK_17 : decode cX5_bestK 17 = .ok (.aload_n 0, 1) := by decide +kernel
theorem dX5_bestK_18 : decode cX5_bestK 18 = .ok (.iload_n 1, 1) := by decide +kernel
theorem dX5_bestK_19 : decode cX5_bestK 19 = .ok (.iload_n 2, 1) := by decide +kernel
theorem dX5_bestK_20 : decode cX5_bestK 20 = .ok (.iload_n 3, 1) := by decide +kernel
theorem dX5_bestK_21 : decode cX5_bestK 21 = .ok (.iload 7, 2) := by decide +kernel
theorem dX5_bestK_23 : decode cX5_bestK 23 = .ok (.iload 4, 2) := by decide +kernel
theorem dX5_bestK_25 : decode cX5_bestK 25 = .ok (.invokevirtual 160, 3) := by decide +kernel
theorem dX5_bestK_28 : decode cX5_bestK 28 = .ok (.istore 8, 2) := by decide +kernel
theorem dX5_bestK_30 : decode cX5_bestK 30 = .ok (.iload 8, 2) := by decide +kernel
theorem dX5_bestK_32 : decode cX5_bestK 32 = .ok (.bipush (-9), 2) := by decide +kernel
theorem dX5_bestK_34 : decode cX5_bestK 34 = .ok (.if_icmp .eq 31, 3) := by decide +kernel
theorem dX5_bestK_37 : decode cX5_bestK 37 = .ok (.iload 5, 2) := by decide +kernel
theorem dX5_bestK_39 : decode cX5_bestK 39 = .ok (.bipush (-9), 2) := by decide +kernel
theorem dX5_bestK_41 : decode cX5_bestK 41 = .ok (.if_icmp .eq 13, 3) := by decide +kernel
theorem dX5_bestK_44 : decode cX5_bestK 44 = .ok (.iload 7, 2) := by decide +kernel
theorem dX5_bestK_46 : decode cX5_bestK 46 = .ok (.iload 8, 2) := by decide +kernel
theorem dX5_bestK_48 : decode cX5_bestK 48 = .ok (.iadd, 1) := by decide +kernel
theorem dX5_bestK_49 : decode cX5_bestK 49 = .ok (.iload 6, 2) := by decide +kernel
theorem dX5_bestK_51 : decode cX5_bestK 51 = .ok (.if_icmp .ge 14, 3) := by decide +kernel
theorem dX5_bestK_54 : decode cX5_bestK 54 = .ok (.iload 7, 2) := by decide +kernel
theorem dX5_bestK_56 : decode cX5_bestK 56 = .ok (.istore 5, 2) := by decide +kernel
theorem dX5_bestK_58 : decode cX5_bestK 58 = .ok (.iload 7, 2) := by decide +kernel
theorem dX5_bestK_60 : decode cX5_bestK 60 = .ok (.iload 8, 2) := by decide +kernel
theorem dX5_bestK_62 : decode cX5_bestK 62 = .ok (.iadd, 1) := by decide +kernel
theorem dX5_bestK_63 : decode cX5_bestK 63 = .ok (.istore 6, 2) := by decide +kernel
theorem dX5_bestK_65 : decode cX5_bestK 65 = .ok (.iinc 7 1, 3) := by decide +kernel
theorem dX5_bestK_68 : decode cX5_bestK 68 = .ok (.goto (-58), 3) := by decide +kernel
theorem dX5_bestK_71 : decode cX5_bestK 71 = .ok (.iload 5, 2) := by decide +kernel
theorem dX5_bestK_73 : decode cX5_bestK 73 = .ok (.ireturn, 1) := by decide +kernel
set_option maxRecDepth 20000 in
theorem ggX5_soonest_X5_areTwo : GoodIn wsX5_soonest wsX5_areTwo := goodIn_r _ [7, 8, 9, 10, 6, 11, 12, 13, 14, 15, 55, 56, 57, 58, 59, 60, 61, 62, 63, 64, 65, 66, 67, 68, 69, 70, 71, 72, 73, 74, 75, 76] (by decide +kernel) (by decide +kernel)
set_option maxRecDepth 20000 in
theorem gX5_soonest_X5_areTwo : GoodIn wsX5_soonest (wsV RX5 131 RX5 yX5_areTwo wsX5_areTwo) := goodIn_app (goodIn_of _ (by decide +kernel)) ggX5_soonest_X5_areTwo
set_option maxRecDepth 20000 in
theorem ggX5_soonest_X5_in : GoodIn wsX5_soonest wsX5_in := goodIn_r _ [15] (by decide +kernel) (by decide +kernel)
set_option maxRecDepth 20000 in
theorem gX5_soonest_X5_in : GoodIn wsX5_soonest (va_wsS RX5 51 yX5_in wsX5_in) := goodIn_app (goodIn_of _ (by decide +kernel)) ggX5_soonest_X5_in
set_option maxRecDepth 20000 in
theorem ggX5_soonest_X5_bestK : GoodIn wsX5_soonest wsX5_bestK := goodIn_r _ [19, 20, 21, 22, 6, 23, 24, 25, 26, 27, 28, 29, 30, 31, 32, 33, 2, 34, 35, 36, 37, 12, 38, 39, 40, 41, 42, 43, 44, 45, 46, 47, 48, 49, 50, 51, 52, 53, 54, 55, 56, 57, 58, 59, 60, 61, 62, 63, 64, 65, 66, 67, 68, 69, 70, 71, 72, 73, 74, 75, 76] (by decide +kernel) (by decide +kernel)
set_option maxRecDepth 20000 in
theorem gX5_soonest_X5_bestK : GoodIn wsX5_soonest (wsV RX5 164 RX5 yX5_bestK wsX5_bestK) := goodIn_app (goodIn_of _ (by decide +kernel)) ggX5_soonest_X5_bestK
set_option maxRecDepth 20000 in
theorem ggX5_soonest_X5_comesBy : GoodIn wsX5_soonest wsX5_comesBy := goodIn_r _ [23, 24, 25, 26, 27, 6, 28, 29, 30, 31, 32, 33, 2, 34, 35, 36, 37, 12, 38, 39, 40, 41, 42, 43, 44, 45, 46, 47, 48, 49, 50, 51, 52, 53, 54, 55, 56, 57, 58, 59, 60, 61, 62, 63, 64, 65, 66, 67, 68, 69, 70, 71, 72, 73, 74, 75, 76] (by decide +kernel) (by decide +kernel)
set_option maxRecDepth 20000 in
theorem gX5_soonest_X5_comesBy : GoodIn wsX5_soonest (wsV RX5 160 RX5 yX5_comesBy wsX5_comesBy) := goodIn_app (goodIn_of _ (by decide +kernel)) ggX5_soonest_X5_comesBy
theorem dX5_soonest_0 : decode cX5_soonest 0 = .ok (.aload_n 0, 1) := by decide +kernel
theorem dX5_soonest_1 : decode cX5_soonest 1 = .ok (.iconst 0, 1) := by decide +kernel
theorem dX5_soonest_2 : decode cX5_soonest 2 = .ok (.putfield 47, 3) := by decide +kernel
theorem dX5_soonest_5 : decode cX5_soonest 5 = .ok (.aload_n 0, 1) := by decide +kernel
theorem dX5_soonest_6 : decode cX5_soonest 6 = .ok (.iload_n 1, 1) := by decide +kernel
theorem dX5_soonest_7 : decode cX5_soonest 7 = .ok (.iload_n 2, 1) := by decide +kernel
theorem dX5_soonest_8 : decode cX5_soonest 8 = .ok (.invokevirtual 131, 3) := by decide +kernel
theorem dX5_soonest_11 : decode cX5_soonest 11 = .ok (.ifCond .eq 22, 3) := by decide +kernel
theorem dX5_soonest_14 : decode cX5_soonest 14 = .ok (.iload_n 3, 1) := by decide +kernel
theorem dX5_soonest_15 : decode cX5_soonest 15 = .ok (.iconst 1, 1) := by decide +kernel
theorem dX5_soonest_16 : decode cX5_soonest 16 = .ok (.iconst 5, 1) := by decide +kernel
theorem dX5_soonest_17 : decode cX5_soonest 17 = .ok (.invokestatic 51, 3) := by decide +kernel
theorem dX5_soonest_20 : decode cX5_soonest 20 = .ok (.ifCond .eq 13, 3) := by decide +kernel
theorem dX5_soonest_23 : decode cX5_soonest 23 = .ok (.iload 4, 2) := by decide +kernel
theorem dX5_soonest_25 : decode cX5_soonest 25 = .ok (.iconst 0, 1) := by decide +kernel
theorem dX5_soonest_26 : decode cX5_soonest 26 = .ok (.iconst 1, 1) := by decide +kernel
theorem dX5_soonest_27 : decode cX5_soonest 27 = .ok (.invokestatic 51, 3) := by decide +kernel
theorem dX5_soonest_30 : decode cX5_soonest 30 = .ok (.ifCond .ne 5, 3) := by decide +kernel
theorem dX5_soonest_33 : decode cX5_soonest 33 = .ok (.iconst (-1), 1) := by decide +kernel
theorem dX5_soonest_34 : decode cX5_soonest 34 = .ok (.ireturn, 1) := by decide +kernel
theorem dX5_soonest_35 : decode cX5_soonest 35 = .ok (.aload_n 0, 1) := by decide +kernel
theorem dX5_soonest_36 : decode cX5_soonest 36 = .ok (.iload_n 1, 1) := by decide +kernel
theorem dX5_soonest_37 : decode cX5_soonest 37 = .ok (.iload_n 2, 1) := by decide +kernel
theorem dX5_soonest_38 : decode cX5_soonest 38 = .ok (.iload_n 3, 1) := by decide +kernel
theorem dX5_soonest_39 : decode cX5_soonest 39 = .ok (.aload_n 0, 1) := by decide +kernel
theorem dX5_soonest_40 : decode cX5_soonest 40 = .ok (.getfield 25, 3) := by decide +kernel
theorem dX5_soonest_43 : decode cX5_soonest 43 = .ok (.iconst 2, 1) := by decide +kernel
theorem dX5_soonest_44 : decode cX5_soonest 44 = .ok (.iaload, 1) := by decide +kernel
theorem dX5_soonest_45 : decode cX5_soonest 45 = .ok (.invokevirtual 164, 3) := by decide +kernel
theorem dX5_soonest_48 : decode cX5_soonest 48 = .ok (.istore 5, 2) := by decide +kernel
theorem dX5_soonest_50 : decode cX5_soonest 50 = .ok (.iload 5, 2) := by decide +kernel
theorem dX5_soonest_52 : decode cX5_soonest 52 = .ok (.bipush (-9), 2) := by decide +kernel
theorem dX5_soonest_54 : decode cX5_soonest 54 = .ok (.if_icmp .eq 8, 3) := by decide +kernel
theorem dX5_soonest_57 : decode cX5_soonest 57 = .ok (.iload 4, 2) := by decide +kernel
theorem dX5_soonest_59 : decode cX5_soonest 59 = .ok (.ifCond .ne 8, 3) := by decide +kernel
theorem dX5_soonest_62 : decode cX5_soonest 62 = .ok (.iload 5, 2) := by decide +kernel
theorem dX5_soonest_64 : decode cX5_soonest 64 = .ok (.goto 21, 3) := by decide +kernel
theorem dX5_soonest_67 : decode cX5_soonest 67 = .ok (.iload 5, 2) := by decide +kernel
theorem dX5_soonest_69 : decode cX5_soonest 69 = .ok (.aload_n 0, 1) := by decide +kernel
theorem dX5_soonest_70 : decode cX5_soonest 70 = .ok (.iload_n 1, 1) := by decide +kernel
theorem dX5_soonest_71 : decode cX5_soonest 71 = .ok (.iload_n 2, 1) := by decide +kernel
theorem dX5_soonest_72 : decode cX5_soonest 72 = .ok (.iload_n 3, 1) := by decide +kernel
theorem dX5_soonest_73 : decode cX5_soonest 73 = .ok (.iload 5, 2) := by decide +kernel
theorem dX5_soonest_75 : decode cX5_soonest 75 = .ok (.aload_n 0, 1) := by decide +kernel
theorem dX5_soonest_76 : decode cX5_soonest 76 = .ok (.getfield 25, 3) := by decide +kernel
theorem dX5_soonest_79 : decode cX5_soonest 79 = .ok (.iconst 2, 1) := by decide +kernel
theorem dX5_soonest_80 : decode cX5_soonest 80 = .ok (.iaload, 1) := by decide +kernel
theorem dX5_soonest_81 : decode cX5_soonest 81 = .ok (.invokevirtual 160, 3) := by decide +kernel
theorem dX5_soonest_84 : decode cX5_soonest 84 = .ok (.iadd, 1) := by decide +kernel
theorem dX5_soonest_85 : decode cX5_soonest 85 = .ok (.ireturn, 1) := by decide +kernel
set_option maxRecDepth 20000 in
theorem ggX5_lightest_X5_areTwo : GoodIn wsX5_lightest wsX5_areTwo := goodIn_r _ [7, 8, 9, 10, 6, 11, 12, 13, 14, 15, 51, 52, 53, 54, 55, 56, 57, 58, 59, 60, 61, 62, 63, 64, 65, 66, 67, 68, 69, 70, 71, 72] (by decide +kernel) (by decide +kernel)
set_option maxRecDepth 20000 in
theorem gX5_lightest_X5_areTwo : GoodIn wsX5_lightest (wsV RX5 131 RX5 yX5_areTwo wsX5_areTwo) := goodIn_app (goodIn_of _ (by decide +kernel)) ggX5_lightest_X5_areTwo
set_option maxRecDepth 20000 in
theorem ggX5_lightest_X5_in : GoodIn wsX5_lightest wsX5_in := goodIn_r _ [15] (by decide +kernel) (by decide +kernel)
set_option maxRecDepth 20000 in
theorem gX5_lightest_X5_in : GoodIn wsX5_lightest (va_wsS RX5 51 yX5_in wsX5_in) := goodIn_app (goodIn_of _ (by decide +kernel)) ggX5_lightest_X5_in
set_option maxRecDepth 20000 in
theorem ggX5_lightest_X5_comesBy : GoodIn wsX5_lightest wsX5_comesBy := goodIn_r _ [19, 20, 21, 22, 23, 6, 24, 25, 26, 27, 28, 29, 2, 30, 31, 32, 33, 12, 34, 35, 36, 37, 38, 39, 40, 41, 42, 43, 44, 45, 46, 47, 48, 49, 50, 51, 52, 53, 54, 55, 56, 57, 58, 59, 60, 61, 62, 63, 64, 65, 66, 67, 68, 69, 70, 71, 72] (by decide +kernel) (by decide +kernel)
set_option maxRecDepth 20000 in
theorem gX5_lightest_X5_comesBy : GoodIn wsX5_lightest (wsV RX5 160 RX5 yX5_comesBy wsX5_comesBy) := goodIn_app (goodIn_of _ (by decide +kernel)) ggX5_lightest_X5_comesBy
theorem dX5_lightest_0 : decode cX5_lightest 0 = .ok (.aload_n 0, 1) := by decide +kernel
theorem dX5_lightest_1 : decode cX5_lightest 1 = .ok (.iconst 0, 1) := by decide +kernel
theorem dX5_lightest_2 : decode cX5_lightest 2 = .ok (.putfield 47, 3) := by decide +kernel
theorem dX5_lightest_5 : decode cX5_lightest 5 = .ok (.aload_n 0, 1) := by decide +kernel
theorem dX5_lightest_6 : decode cX5_lightest 6 = .ok (.iload_n 1, 1) := by decide +kernel
theorem dX5_lightest_7 : decode cX5_lightest 7 = .ok (.iload_n 2, 1) := by decide +kernel
theorem dX5_lightest_8 : decode cX5_lightest 8 = .ok (.invokevirtual 131, 3) := by decide +kernel
theorem dX5_lightest_11 : decode cX5_lightest 11 = .ok (.ifCond .eq 13, 3) := by decide +kernel
theorem dX5_lightest_14 : decode cX5_lightest 14 = .ok (.iload_n 3, 1) := by decide +kernel
theorem dX5_lightest_15 : decode cX5_lightest 15 = .ok (.iconst 1, 1) := by decide +kernel
theorem dX5_lightest_16 : decode cX5_lightest 16 = .ok (.bipush 60, 2) := by decide +kernel
theorem dX5_lightest_18 : decode cX5_lightest 18 = .ok (.invokestatic 51, 3) := by decide +kernel
theorem dX5_lightest_21 : decode cX5_lightest 21 = .ok (.ifCond .ne 5, 3) := by decide +kernel
theorem dX5_lightest_24 : decode cX5_lightest 24 = .ok (.iconst (-1), 1) := by decide +kernel
theorem dX5_lightest_25 : decode cX5_lightest 25 = .ok (.ireturn, 1) := by decide +kernel
theorem dX5_lightest_26 : decode cX5_lightest 26 = .ok (.iconst 1, 1) := by decide +kernel
theorem dX5_lightest_27 : decode cX5_lightest 27 = .ok (.istore 4, 2) := by decide +kernel
theorem dX5_lightest_29 : decode cX5_lightest 29 = .ok (.iload 4, 2) := by decide +kernel
theorem dX5_lightest_31 : decode cX5_lightest 31 = .ok (.bipush 6, 2) := by decide +kernel
theorem dX5_lightest_33 : decode cX5_lightest 33 = .ok (.if_icmp .ge 42, 3) := by decide +kernel
theorem dX5_lightest_36 : decode cX5_lightest 36 = .ok (.aload_n 0, 1) := by decide +kernel
theorem dX5_lightest_37 : decode cX5_lightest 37 = .ok (.iload_n 1, 1) := by decide +kernel
theorem dX5_lightest_38 : decode cX5_lightest 38 = .ok (.iload_n 2, 1) := by decide +kernel
theorem dX5_lightest_39 : decode cX5_lightest 39 = .ok (.iload 4, 2) := by decide +kernel
theorem dX5_lightest_41 : decode cX5_lightest 41 = .ok (.iconst 0, 1) := by decide +kernel
theorem dX5_lightest_42 : decode cX5_lightest 42 = .ok (.aload_n 0, 1) := by decide +kernel
theorem dX5_lightest_43 : decode cX5_lightest 43 = .ok (.getfield 25, 3) := by decide +kernel
theorem dX5_lightest_46 : decode cX5_lightest 46 = .ok (.iconst 2, 1) := by decide +kernel
theorem dX5_lightest_47 : decode cX5_lightest 47 = .ok (.iaload, 1) := by decide +kernel
theorem dX5_lightest_48 : decode cX5_lightest 48 = .ok (.invokevirtual 160, 3) := by decide +kernel
theorem dX5_lightest_51 : decode cX5_lightest 51 = .ok (.istore 5, 2) := by decide +kernel
theorem dX5_lightest_53 : decode cX5_lightest 53 = .ok (.iload 5, 2) := by decide +kernel
theorem dX5_lightest_55 : decode cX5_lightest 55 = .ok (.bipush (-9), 2) := by decide +kernel
theorem dX5_lightest_57 : decode cX5_lightest 57 = .ok (.if_icmp .eq 12, 3) := by decide +kernel
theorem dX5_lightest_60 : decode cX5_lightest 60 = .ok (.iload 5, 2) := by decide +kernel
theorem dX5_lightest_62 : decode cX5_lightest 62 = .ok (.iload_n 3, 1) := by decide +kernel
theorem dX5_lightest_63 : decode cX5_lightest 63 = .ok (.if_icmp .gt 6, 3) := by decide +kernel
theorem dX5_lightest_66 : decode cX5_lightest 66 = .ok (.iload 4, 2) := by decide +kernel
theorem dX5_lightest_68 : decode cX5_lightest 68 = .ok (.ireturn, 1) := by decide +kernel
theorem dX5_lightest_69 : decode cX5_lightest 69 = .ok (.iinc 4 1, 3) := by decide +kernel
theorem dX5_lightest_72 : decode cX5_lightest 72 = .ok (.goto (-43), 3) := by decide +kernel
theorem dX5_lightest_75 : decode cX5_lightest 75 = .ok (.bipush (-9), 2) := by decide +kernel
theorem dX5_lightest_77 : decode cX5_lightest 77 = .ok (.ireturn, 1) := by decide +kernel
set_option maxRecDepth 20000 in
theorem ggX5_words_X5_isIsle : GoodIn wsX5_words wsX5_isIsle := goodIn_r _ [8, 2, 9, 10, 7, 11, 51, 52, 53, 54, 55, 56, 57, 58, 59, 60, 61, 62, 63, 64, 65, 66, 67, 68, 69, 70, 71, 72] (by decide +kernel) (by decide +kernel)
set_option maxRecDepth 20000 in
theorem gX5_words_X5_isIsle : GoodIn wsX5_words (wsV RX5 116 RX5 yX5_isIsle wsX5_isIsle) := goodIn_app (goodIn_of _ (by decide +kernel)) ggX5_words_X5_isIsle
set_option maxRecDepth 20000 in
theorem ggX5_words_X5_bestK : GoodIn wsX5_words wsX5_bestK := goodIn_r _ [15, 16, 17, 18, 7, 19, 20, 21, 22, 23, 24, 25, 26, 27, 28, 29, 3, 30, 31, 32, 33, 2, 34, 35, 36, 37, 38, 39, 40, 41, 42, 43, 44, 45, 46, 47, 48, 49, 50, 51, 52, 53, 54, 55, 56, 57, 58, 59, 60, 61, 62, 63, 64, 65, 66, 67, 68, 69, 70, 71, 72] (by decide +kernel) (by decide +kernel)
set_option maxRecDepth 20000 in
theorem gX5_words_X5_bestK : GoodIn wsX5_words (wsV RX5 164 RX5 yX5_bestK wsX5_bestK) := goodIn_app (goodIn_of _ (by decide +kernel)) ggX5_words_X5_bestK
theorem dX5_words_0 : decode cX5_words 0 = .ok (.aload_n 0, 1) := by decide +kernel
theorem dX5_words_1 : decode cX5_words 1 = .ok (.iconst 0, 1) := by decide +kernel
theorem dX5_words_2 : decode cX5_words 2 = .ok (.putfield 47, 3) := by decide +kernel
theorem dX5_words_5 : decode cX5_words 5 = .ok (.aload_n 0, 1) := by decide +kernel
theorem dX5_words_6 : decode cX5_words 6 = .ok (.iload_n 1, 1) := by decide +kernel
theorem dX5_words_7 : decode cX5_words 7 = .ok (.invokevirtual 116, 3) := by decide +kernel
theorem dX5_words_10 : decode cX5_words 10 = .ok (.ifCond .ne 5, 3) := by decide +kernel
theorem dX5_words_13 : decode cX5_words 13 = .ok (.iconst (-1), 1) := by decide +kernel
theorem dX5_words_14 : decode cX5_words 14 = .ok (.ireturn, 1) := by decide +kernel
theorem dX5_words_15 : decode cX5_words 15 = .ok (.iconst 0, 1) := by decide +kernel
theorem dX5_words_16 : decode cX5_words 16 = .ok (.istore_n 2, 1) := by decide +kernel
theorem dX5_words_17 : decode cX5_words 17 = .ok (.iconst 0, 1) := by decide +kernel
theorem dX5_words_18 : decode cX5_words 18 = .ok (.istore_n 3, 1) := by decide +kernel
theorem dX5_words_19 : decode cX5_words 19 = .ok (.iload_n 3, 1) := by decide +kernel
theorem dX5_words_20 : decode cX5_words 20 = .ok (.aload_n 0, 1) := by decide +kernel
theorem dX5_words_21 : decode cX5_words 21 = .ok (.getfield 13, 3) := by decide +kernel
theorem dX5_words_24 : decode cX5_words 24 = .ok (.iconst 2, 1) := by decide +kernel
theorem dX5_words_25 : decode cX5_words 25 = .ok (.iaload, 1) := by decide +kernel
theorem dX5_words_26 : decode cX5_words 26 = .ok (.if_icmp .ge 59, 3) := by decide +kernel
theorem dX5_words_29 : decode cX5_words 29 = .ok (.iconst 1, 1) := by decide +kernel
theorem dX5_words_30 : decode cX5_words 30 = .ok (.istore 4, 2) := by decide +kernel
theorem dX5_words_32 : decode cX5_words 32 = .ok (.iload 4, 2) := by decide +kernel
theorem dX5_words_34 : decode cX5_words 34 = .ok (.bipush 6, 2) := by decide +kernel
theorem dX5_words_36 : decode cX5_words 36 = .ok (.if_icmp .ge 43, 3) := by decide +kernel
theorem dX5_words_39 : decode cX5_words 39 = .ok (.iload_n 3, 1) := by decide +kernel
theorem dX5_words_40 : decode cX5_words 40 = .ok (.iload_n 1, 1) := by decide +kernel
theorem dX5_words_41 : decode cX5_words 41 = .ok (.if_icmp .eq 38, 3) := by decide +kernel
theorem dX5_words_44 : decode cX5_words 44 = .ok (.iload_n 2, 1) := by decide +kernel
theorem dX5_words_45 : decode cX5_words 45 = .ok (.aload_n 0, 1) := by decide +kernel
theorem dX5_words_46 : decode cX5_words 46 = .ok (.iload_n 3, 1) := by decide +kernel
theorem dX5_words_47 : decode cX5_words 47 = .ok (.iload_n 1, 1) := by decide +kernel
theorem dX5_words_48 : decode cX5_words 48 = .ok (.iload 4, 2) := by decide +kernel
theorem dX5_words_50 : decode cX5_words 50 = .ok (.aload_n 0, 1) := by decide +kernel
theorem dX5_words_51 : decode cX5_words 51 = .ok (.getfield 25, 3) := by decide +kernel
theorem dX5_words_54 : decode cX5_words 54 = .ok (.iconst 2, 1) := by decide +kernel
theorem dX5_words_55 : decode cX5_words 55 = .ok (.iaload, 1) := by decide +kernel
theorem dX5_words_56 : decode cX5_words 56 = .ok (.invokevirtual 164, 3) := by decide +kernel
theorem dX5_words_59 : decode cX5_words 59 = .ok (.bipush (-9), 2) := by decide +kernel
theorem dX5_words_61 : decode cX5_words 61 = .ok (.if_icmp .eq 9, 3) := by decide +kernel
theorem dX5_words_64 : decode cX5_words 64 = .ok (.iconst 1, 1) := by decide +kernel
theorem dX5_words_65 : decode cX5_words 65 = .ok (.iload_n 3, 1) := by decide +kernel
theorem dX5_words_66 : decode cX5_words 66 = .ok (.ishl, 1) := by decide +kernel
theorem dX5_words_67 : decode cX5_words 67 = .ok (.goto 4, 3) := by decide +kernel
theorem dX5_words_70 : decode cX5_words 70 = .ok (.iconst 0, 1) := by decide +kernel
theorem dX5_words_71 : decode cX5_words 71 = .ok (.ior, 1) := by decide +kernel
theorem dX5_words_72 : decode cX5_words 72 = .ok (.istore_n 2, 1) := by decide +kernel
theorem dX5_words_73 : decode cX5_words 73 = .ok (.iinc 4 1, 3) := by decide +kernel
theorem dX5_words_76 : decode cX5_words 76 = .ok (.goto (-44), 3) := by decide +kernel
theorem dX5_words_79 : decode cX5_words 79 = .ok (.iinc 3 1, 3) := by decide +kernel
theorem dX5_words_82 : decode cX5_words 82 = .ok (.goto (-63), 3) := by decide +kernel
theorem dX5_words_85 : decode cX5_words 85 = .ok (.iload_n 2, 1) := by decide +kernel
theorem dX5_words_86 : decode cX5_words 86 = .ok (.ireturn, 1) := by decide +kernel
set_option maxRecDepth 20000 in
theorem ggX5_nets_X5_areTwo : GoodIn wsX5_nets wsX5_areTwo := goodIn_r _ [8, 9, 10, 11, 7, 12, 2, 13, 14, 15, 58, 59, 60, 61, 62, 63, 64, 65, 66, 67, 68, 69, 70, 71, 72, 73, 74, 75, 76, 77, 78, 79] (by decide +kernel) (by decide +kernel)
set_option maxRecDepth 20000 in
theorem gX5_nets_X5_areTwo : GoodIn wsX5_nets (wsV RX5 131 RX5 yX5_areTwo wsX5_areTwo) := goodIn_app (goodIn_of _ (by decide +kernel)) ggX5_nets_X5_areTwo
set_option maxRecDepth 20000 in
theorem ggX5_nets_X5_in : GoodIn wsX5_nets wsX5_in := goodIn_r _ [15] (by decide +kernel) (by decide +kernel)
set_option maxRecDepth 20000 in
theorem gX5_nets_X5_in : GoodIn wsX5_nets (va_wsS RX5 51 yX5_in wsX5_in) := goodIn_app (goodIn_of _ (by decide +kernel)) ggX5_nets_X5_in
set_option maxRecDepth 20000 in
theorem ggX5_nets_X5_ones : GoodIn wsX5_nets wsX5_ones := goodIn_r _ [18] (by decide +kernel) (by decide +kernel)
set_option maxRecDepth 20000 in
theorem gX5_nets_X5_ones : GoodIn wsX5_nets (va_wsS RX5 168 yX5_ones wsX5_ones) := goodIn_app (goodIn_of _ (by decide +kernel)) ggX5_nets_X5_ones
set_option maxRecDepth 20000 in
theorem ggX5_nets_X5_bestK : GoodIn wsX5_nets wsX5_bestK := goodIn_r _ [22, 23, 24, 25, 7, 26, 27, 28, 29, 30, 31, 32, 33, 34, 35, 36, 3, 37, 38, 39, 40, 2, 41, 42, 43, 44, 45, 46, 47, 48, 49, 50, 51, 52, 53, 54, 55, 56, 57, 58, 59, 60, 61, 62, 63, 64, 65, 66, 67, 68, 69, 70, 71, 72, 73, 74, 75, 76, 77, 78, 79] (by decide +kernel) (by decide +kernel)
set_option maxRecDepth 20000 in
theorem gX5_nets_X5_bestK : GoodIn wsX5_nets (wsV RX5 164 RX5 yX5_bestK wsX5_bestK) := goodIn_app (goodIn_of _ (by decide +kernel)) ggX5_nets_X5_bestK
theorem dX5_nets_0 : decode cX5_nets 0 = .ok (.aload_n 0, 1) := by decide +kernel
theorem dX5_nets_1 : decode cX5_nets 1 = .ok (.iconst 0, 1) := by decide +kernel
theorem dX5_nets_2 : decode cX5_nets 2 = .ok (.putfield 47, 3) := by decide +kernel
theorem dX5_nets_5 : decode cX5_nets 5 = .ok (.aload_n 0, 1) := by decide +kernel
theorem dX5_nets_6 : decode cX5_nets 6 = .ok (.iload_n 1, 1) := by decide +kernel
theorem dX5_nets_7 : decode cX5_nets 7 = .ok (.iload_n 2, 1) := by decide +kernel
theorem dX5_nets_8 : decode cX5_nets 8 = .ok (.invokevirtual 131, 3) := by decide +kernel
theorem dX5_nets_11 : decode cX5_nets 11 = .ok (.ifCond .eq 12, 3) := by decide +kernel
theorem dX5_nets_14 : decode cX5_nets 14 = .ok (.iload_n 3, 1) := by decide +kernel
theorem dX5_nets_15 : decode cX5_nets 15 = .ok (.iconst 1, 1) := by decide +kernel
theorem dX5_nets_16 : decode cX5_nets 16 = .ok (.iconst 5, 1) := by decide +kernel
theorem dX5_nets_17 : decode cX5_nets 17 = .ok (.invokestatic 51, 3) := by decide +kernel
theorem dX5_nets_20 : decode cX5_nets 20 = .ok (.ifCond .ne 5, 3) := by decide +kernel
theorem dX5_nets_23 : decode cX5_nets 23 = .ok (.iconst (-1), 1) := by decide +kernel
theorem dX5_nets_24 : decode cX5_nets 24 = .ok (.ireturn, 1) := by decide +kernel
theorem dX5_nets_25 : decode cX5_nets 25 = .ok (.bipush (-9), 2) := by decide +kernel
theorem dX5_nets_27 : decode cX5_nets 27 = .ok (.istore 4, 2) := by decide +kernel
theorem dX5_nets_29 : decode cX5_nets 29 = .ok (.iconst 0, 1) := by decide +kernel
theorem dX5_nets_30 : decode cX5_nets 30 = .ok (.istore 5, 2) := by decide +kernel
theorem dX5_nets_32 : decode cX5_nets 32 = .ok (.iload 5, 2) := by decide +kernel
theorem dX5_nets_34 : decode cX5_nets 34 = .ok (.iconst 1, 1) := by decide +kernel
theorem dX5_nets_35 : decode cX5_nets 35 = .ok (.aload_n 0, 1) := by decide +kernel
theorem dX5_nets_36 : decode cX5_nets 36 = .ok (.getfield 13, 3) := by decide +kernel
theorem dX5_nets_39 : decode cX5_nets 39 = .ok (.iconst 2, 1) := by decide +kernel
theorem dX5_nets_40 : decode cX5_nets 40 = .ok (.iaload, 1) := by decide +kernel
theorem dX5_nets_41 : decode cX5_nets 41 = .ok (.ishl, 1) := by decide +kernel
theorem dX5_nets_42 : decode cX5_nets 42 = .ok (.if_icmp .ge 89, 3) := by decide +kernel
theorem dX5_nets_45 : decode cX5_nets 45 = .ok (.iload 5, 2) := by decide +kernel
theorem dX5_nets_47 : decode cX5_nets 47 = .ok (.iload_n 1, 1) := by decide +kernel
theorem dX5_nets_48 : decode cX5_nets 48 = .ok (.ishr, 1) := by decide +kernel
theorem dX5_nets_49 : decode cX5_nets 49 = .ok (.iconst 1, 1) := by decide +kernel
theorem dX5_nets_50 : decode cX5_nets 50 = .ok (.iand, 1) := by decide +kernel
theorem dX5_nets_51 : decode cX5_nets 51 = .ok (.ifCond .ne 36, 3) := by decide +kernel
theorem dX5_nets_54 : decode cX5_nets 54 = .ok (.iload 5, 2) := by decide +kernel
theorem dX5_nets_56 : decode cX5_nets 56 = .ok (.iload_n 2, 1) := by decide +kernel
theorem dX5_nets_57 : decode cX5_nets 57 = .ok (.ishr, 1) := by decide +kernel
theorem dX5_nets_58 : decode cX5_nets 58 = .ok (.iconst 1, 1) := by decide +kernel
theorem dX5_nets_59 : decode cX5_nets 59 = .ok (.iand, 1) := by decide +kernel
theorem dX5_nets_60 : decode cX5_nets 60 = .ok (.ifCond .ne 27, 3) := by decide +kernel
theorem dX5_nets_63 : decode cX5_nets 63 = .ok (.iload 4, 2) := by decide +kernel
theorem dX5_nets_65 : decode cX5_nets 65 = .ok (.bipush (-9), 2) := by decide +kernel
theorem dX5_nets_67 : decode cX5_nets 67 = .ok (.if_icmp .eq 16, 3) := by decide +kernel
theorem dX5_nets_70 : decode cX5_nets 70 = .ok (.iload 5, 2) := by decide +kernel
theorem dX5_nets_72 : decode cX5_nets 72 = .ok (.invokestatic 168, 3) := by decide +kernel
theorem dX5_nets_75 : decode cX5_nets 75 = .ok (.iload 4, 2) := by decide +kernel
theorem dX5_nets_77 : decode cX5_nets 77 = .ok (.invokestatic 168, 3) := by decide +kernel
theorem dX5_nets_80 : decode cX5_nets 80 = .ok (.if_icmp .ge 7, 3) := by decide +kernel
theorem dX5_nets_83 : decode cX5_nets 83 = .ok (.iconst 1, 1) := by decide +kernel
theorem dX5_nets_84 : decode cX5_nets 84 = .ok (.goto 4, 3) := by decide +kernel
theorem dX5_nets_87 : decode cX5_nets 87 = .ok (.iconst 0, 1) := by decide +kernel
theorem dX5_nets_88 : decode cX5_nets 88 = .ok (.istore 6, 2) := by decide +kernel
theorem dX5_nets_90 : decode cX5_nets 90 = .ok (.iload 6, 2) := by decide +kernel
theorem dX5_nets_92 : decode cX5_nets 92 = .ok (.ifCond .eq 29, 3) := by decide +kernel
theorem dX5_nets_95 : decode cX5_nets 95 = .ok (.aload_n 0, 1) := by decide +kernel
theorem dX5_nets_96 : decode cX5_nets 96 = .ok (.iload_n 1, 1) := by decide +kernel
theorem dX5_nets_97 : decode cX5_nets 97 = .ok (.iload_n 2, 1) := by decide +kernel
theorem dX5_nets_98 : decode cX5_nets 98 = .ok (.iload_n 3, 1) := by decide +kernel
theorem dX5_nets_99 : decode cX5_nets 99 = .ok (.aload_n 0, 1) := by decide +kernel
theorem dX5_nets_100 : decode cX5_nets 100 = .ok (.getfield 25, 3) := by decide +kernel
theorem dX5_nets_103 : decode cX5_nets 103 = .ok (.iconst 2, 1) := by decide +kernel
theorem dX5_nets_104 : decode cX5_nets 104 = .ok (.iaload, 1) := by decide +kernel
theorem dX5_nets_105 : decode cX5_nets 105 = .ok (.iload 5, 2) := by decide +kernel
theorem dX5_nets_107 : decode cX5_nets 107 = .ok (.ior, 1) := by decide +kernel
theorem dX5_nets_108 : decode cX5_nets 108 = .ok (.invokevirtual 164, 3) := by decide +kernel
theorem dX5_nets_111 : decode cX5_nets 111 = .ok (.bipush (-9), 2) := by decide +kernel
theorem dX5_nets_113 : decode cX5_nets 113 = .ok (.if_icmp .ne 8, 3) := by decide +kernel
theorem dX5_nets_116 : decode cX5_nets 116 = .ok (.iload 5, 2) := by decide +kernel
theorem dX5_nets_118 : decode cX5_nets 118 = .ok (.goto 5, 3) := by decide +kernel
theorem dX5_nets_121 : decode cX5_nets 121 = .ok (.iload 4, 2) := by decide +kernel
theorem dX5_nets_123 : decode cX5_nets 123 = .ok (.istore 4, 2) := by decide +kernel
theorem dX5_nets_125 : decode cX5_nets 125 = .ok (.iinc 5 1, 3) := by decide +kernel
theorem dX5_nets_128 : decode cX5_nets 128 = .ok (.goto (-96), 3) := by decide +kernel
theorem dX5_nets_131 : decode cX5_nets 131 = .ok (.iload 4, 2) := by decide +kernel
theorem dX5_nets_133 : decode cX5_nets 133 = .ok (.ireturn, 1) := by decide +kernel
set_option maxRecDepth 20000 in
theorem ggX5_who_X5_isIsle : GoodIn wsX5_who wsX5_isIsle := goodIn_r _ [9, 2, 10, 11, 8, 12, 47, 48, 49, 50, 51, 52, 53, 54, 55, 56, 57, 58, 59, 60, 61, 62, 63, 64, 65, 66, 67, 68] (by decide +kernel) (by decide +kernel)
set_option maxRecDepth 20000 in
theorem gX5_who_X5_isIsle : GoodIn wsX5_who (wsV RX5 116 RX5 yX5_isIsle wsX5_isIsle) := goodIn_app (goodIn_of _ (by decide +kernel)) ggX5_who_X5_isIsle
set_option maxRecDepth 20000 in
theorem ggX5_who_X5_in : GoodIn wsX5_who wsX5_in := goodIn_r _ [12] (by decide +kernel) (by decide +kernel)
set_option maxRecDepth 20000 in
theorem gX5_who_X5_in : GoodIn wsX5_who (va_wsS RX5 51 yX5_in wsX5_in) := goodIn_app (goodIn_of _ (by decide +kernel)) ggX5_who_X5_in
set_option maxRecDepth 20000 in
theorem ggX5_who_X5_comesBy : GoodIn wsX5_who wsX5_comesBy := goodIn_r _ [16, 4, 17, 18, 19, 8, 20, 21, 22, 23, 24, 25, 3, 26, 27, 28, 29, 2, 30, 31, 32, 33, 34, 35, 36, 37, 38, 39, 40, 41, 42, 43, 44, 45, 46, 47, 48, 49, 50, 51, 52, 53, 54, 55, 56, 57, 58, 59, 60, 61, 62, 63, 64, 65, 66, 67, 68] (by decide +kernel) (by decide +kernel)
set_option maxRecDepth 20000 in
theorem gX5_who_X5_comesBy : GoodIn wsX5_who (wsV RX5 160 RX5 yX5_comesBy wsX5_comesBy) := goodIn_app (goodIn_of _ (by decide +kernel)) ggX5_who_X5_comesBy
theorem dX5_who_0 : decode cX5_who 0 = .ok (.aload_n 0, 1) := by decide +kernel
theorem dX5_who_1 : decode cX5_who 1 = .ok (.iconst 0, 1) := by decide +kernel
theorem dX5_who_2 : decode cX5_who 2 = .ok (.putfield 47, 3) := by decide +kernel
theorem dX5_who_5 : decode cX5_who 5 = .ok (.aload_n 0, 1) := by decide +kernel
theorem dX5_who_6 : decode cX5_who 6 = .ok (.iload_n 1, 1) := by decide +kernel
theorem dX5_who_7 : decode cX5_who 7 = .ok (.invokevirtual 116, 3) := by decide +kernel
theorem dX5_who_10 : decode cX5_who 10 = .ok (.ifCond .eq 30, 3) := by decide +kernel
theorem dX5_who_13 : decode cX5_who 13 = .ok (.iload_n 2, 1) := by decide +kernel
theorem dX5_who_14 : decode cX5_who 14 = .ok (.iconst 1, 1) := by decide +kernel
theorem dX5_who_15 : decode cX5_who 15 = .ok (.iconst 5, 1) := by decide +kernel
theorem dX5_who_16 : decode cX5_who 16 = .ok (.invokestatic 51, 3) := by decide +kernel
theorem dX5_who_19 : decode cX5_who 19 = .ok (.ifCond .eq 21, 3) := by decide +kernel
theorem dX5_who_22 : decode cX5_who 22 = .ok (.iload_n 3, 1) := by decide +kernel
theorem dX5_who_23 : decode cX5_who 23 = .ok (.iconst 0, 1) := by decide +kernel
theorem dX5_who_24 : decode cX5_who 24 = .ok (.iconst 1, 1) := by decide +kernel
theorem dX5_who_25 : decode cX5_who 25 = .ok (.aload_n 0, 1) := by decide +kernel
theorem dX5_who_26 : decode cX5_who 26 = .ok (.getfield 13, 3) := by decide +kernel
theorem dX5_who_29 : decode cX5_who 29 = .ok (.iconst 2, 1) := by decide +kernel
theorem dX5_who_30 : decode cX5_who 30 = .ok (.iaload, 1) := by decide +kernel
theorem dX5_who_31 : decode cX5_who 31 = .ok (.ishl, 1) := by decide +kernel
theorem dX5_who_32 : decode cX5_who 32 = .ok (.iconst 1, 1) := by decide +kernel
theorem dX5_who_33 : decode cX5_who 33 = .ok (.isub, 1) := by decide +kernel
theorem dX5_who_34 : decode cX5_who 34 = .ok (.invokestatic 51, 3) := by decide +kernel
theorem dX5_who_37 : decode cX5_who 37 = .ok (.ifCond .ne 5, 3) := by decide +kernel
theorem dX5_who_40 : decode cX5_who 40 = .ok (.iconst (-1), 1) := by decide +kernel
theorem dX5_who_41 : decode cX5_who 41 = .ok (.ireturn, 1) := by decide +kernel
theorem dX5_who_42 : decode cX5_who 42 = .ok (.iconst 0, 1) := by decide +kernel
theorem dX5_who_43 : decode cX5_who 43 = .ok (.istore 4, 2) := by decide +kernel
theorem dX5_who_45 : decode cX5_who 45 = .ok (.iconst 0, 1) := by decide +kernel
theorem dX5_who_46 : decode cX5_who 46 = .ok (.istore 5, 2) := by decide +kernel
theorem dX5_who_48 : decode cX5_who 48 = .ok (.iload 5, 2) := by decide +kernel
theorem dX5_who_50 : decode cX5_who 50 = .ok (.aload_n 0, 1) := by decide +kernel
theorem dX5_who_51 : decode cX5_who 51 = .ok (.getfield 13, 3) := by decide +kernel
theorem dX5_who_54 : decode cX5_who 54 = .ok (.iconst 2, 1) := by decide +kernel
theorem dX5_who_55 : decode cX5_who 55 = .ok (.iaload, 1) := by decide +kernel
theorem dX5_who_56 : decode cX5_who 56 = .ok (.if_icmp .ge 87, 3) := by decide +kernel
theorem dX5_who_59 : decode cX5_who 59 = .ok (.iconst 0, 1) := by decide +kernel
theorem dX5_who_60 : decode cX5_who 60 = .ok (.istore 6, 2) := by decide +kernel
theorem dX5_who_62 : decode cX5_who 62 = .ok (.iload 6, 2) := by decide +kernel
theorem dX5_who_64 : decode cX5_who 64 = .ok (.bipush 12, 2) := by decide +kernel
theorem dX5_who_66 : decode cX5_who 66 = .ok (.if_icmp .ge 71, 3) := by decide +kernel
theorem dX5_who_69 : decode cX5_who 69 = .ok (.iload 5, 2) := by decide +kernel
theorem dX5_who_71 : decode cX5_who 71 = .ok (.iload_n 1, 1) := by decide +kernel
theorem dX5_who_72 : decode cX5_who 72 = .ok (.if_icmp .eq 65, 3) := by decide +kernel
theorem dX5_who_75 : decode cX5_who 75 = .ok (.aload_n 0, 1) := by decide +kernel
theorem dX5_who_76 : decode cX5_who 76 = .ok (.iload 5, 2) := by decide +kernel
theorem dX5_who_78 : decode cX5_who 78 = .ok (.iload_n 1, 1) := by decide +kernel
theorem dX5_who_79 : decode cX5_who 79 = .ok (.iload_n 2, 1) := by decide +kernel
theorem dX5_who_80 : decode cX5_who 80 = .ok (.iload 6, 2) := by decide +kernel
theorem dX5_who_82 : decode cX5_who 82 = .ok (.aload_n 0, 1) := by decide +kernel
theorem dX5_who_83 : decode cX5_who 83 = .ok (.getfield 25, 3) := by decide +kernel
theorem dX5_who_86 : decode cX5_who 86 = .ok (.iconst 2, 1) := by decide +kernel
theorem dX5_who_87 : decode cX5_who 87 = .ok (.iaload, 1) := by decide +kernel
theorem dX5_who_88 : decode cX5_who 88 = .ok (.invokevirtual 160, 3) := by decide +kernel
theorem dX5_who_91 : decode cX5_who 91 = .ok (.bipush (-9), 2) := by decide +kernel
theorem dX5_who_93 : decode cX5_who 93 = .ok (.if_icmp .eq 17, 3) := by decide +kernel
theorem dX5_who_96 : decode cX5_who 96 = .ok (.aload_n 0, 1) := by decide +kernel
theorem dX5_who_97 : decode cX5_who 97 = .ok (.getfield 38, 3) := by decide +kernel
theorem dX5_who_100 : decode cX5_who 100 = .ok (.iconst 4, 1) := by decide +kernel
theorem dX5_who_101 : decode cX5_who 101 = .ok (.iaload, 1) := by decide +kernel
theorem dX5_who_102 : decode cX5_who 102 = .ok (.iload_n 3, 1) := by decide +kernel
theorem dX5_who_103 : decode cX5_who 103 = .ok (.if_icmp .ne 7, 3) := by decide +kernel
theorem dX5_who_106 : decode cX5_who 106 = .ok (.iconst 1, 1) := by decide +kernel
theorem dX5_who_107 : decode cX5_who 107 = .ok (.goto 4, 3) := by decide +kernel
theorem dX5_who_110 : decode cX5_who 110 = .ok (.iconst 0, 1) := by decide +kernel
theorem dX5_who_111 : decode cX5_who 111 = .ok (.istore 7, 2) := by decide +kernel
theorem dX5_who_113 : decode cX5_who 113 = .ok (.iload 4, 2) := by decide +kernel
theorem dX5_who_115 : decode cX5_who 115 = .ok (.iload 7, 2) := by decide +kernel
theorem dX5_who_117 : decode cX5_who 117 = .ok (.ifCond .eq 10, 3) := by decide +kernel
theorem dX5_who_120 : decode cX5_who 120 = .ok (.iconst 1, 1) := by decide +kernel
theorem dX5_who_121 : decode cX5_who 121 = .ok (.iload 5, 2) := by decide +kernel
theorem dX5_who_123 : decode cX5_who 123 = .ok (.ishl, 1) := by decide +kernel
theorem dX5_who_124 : decode cX5_who 124 = .ok (.goto 4, 3) := by decide +kernel
theorem dX5_who_127 : decode cX5_who 127 = .ok (.iconst 0, 1) := by decide +kernel
theorem dX5_who_128 : decode cX5_who 128 = .ok (.ior, 1) := by decide +kernel
theorem dX5_who_129 : decode cX5_who 129 = .ok (.istore 4, 2) := by decide +kernel
theorem dX5_who_131 : decode cX5_who 131 = .ok (.iinc 6 1, 3) := by decide +kernel
theorem dX5_who_134 : decode cX5_who 134 = .ok (.goto (-72), 3) := by decide +kernel
theorem dX5_who_137 : decode cX5_who 137 = .ok (.iinc 5 1, 3) := by decide +kernel
theorem dX5_who_140 : decode cX5_who 140 = .ok (.goto (-92), 3) := by decide +kernel
theorem dX5_who_143 : decode cX5_who 143 = .ok (.iload 4, 2) := by decide +kernel
theorem dX5_who_145 : decode cX5_who 145 = .ok (.ireturn, 1) := by decide +kernel
set_option maxRecDepth 20000 in
theorem ggX5_knee_X5_in : GoodIn wsX5_knee wsX5_in := goodIn_r _ [6] (by decide +kernel) (by decide +kernel)
set_option maxRecDepth 20000 in
theorem gX5_knee_X5_in : GoodIn wsX5_knee (va_wsS RX5 51 yX5_in wsX5_in) := goodIn_app (goodIn_of _ (by decide +kernel)) ggX5_knee_X5_in
set_option maxRecDepth 20000 in
theorem ggX5_knee_X5_windOf : GoodIn wsX5_knee wsX5_windOf := goodIn_r _ [10, 11, 2, 12, 13, 14, 15, 16, 17, 18, 19, 20, 21, 22, 23, 24, 25, 26, 27, 28, 29, 30, 31, 32, 33] (by decide +kernel) (by decide +kernel)
set_option maxRecDepth 20000 in
theorem gX5_knee_X5_windOf : GoodIn wsX5_knee (wsV RX5 125 RX5 yX5_windOf wsX5_windOf) := goodIn_app (goodIn_of _ (by decide +kernel)) ggX5_knee_X5_windOf
theorem dX5_knee_0 : decode cX5_knee 0 = .ok (.aload_n 0, 1) := by decide +kernel
theorem dX5_knee_1 : decode cX5_knee 1 = .ok (.iconst 0, 1) := by decide +kernel
theorem dX5_knee_2 : decode cX5_knee 2 = .ok (.putfield 47, 3) := by decide +kernel
theorem dX5_knee_5 : decode cX5_knee 5 = .ok (.iload_n 1, 1) := by decide +kernel
theorem dX5_knee_6 : decode cX5_knee 6 = .ok (.iconst 1, 1) := by decide +kernel
theorem dX5_knee_7 : decode cX5_knee 7 = .ok (.bipush 12, 2) := by decide +kernel
theorem dX5_knee_9 : decode cX5_knee 9 = .ok (.invokestatic 51, 3) := by decide +kernel
theorem dX5_knee_12 : decode cX5_knee 12 = .ok (.ifCond .eq 13, 3) := by decide +kernel
theorem dX5_knee_15 : decode cX5_knee 15 = .ok (.iload_n 2, 1) := by decide +kernel
theorem dX5_knee_16 : decode cX5_knee 16 = .ok (.iconst 1, 1) := by decide +kernel
theorem dX5_knee_17 : decode cX5_knee 17 = .ok (.bipush 12, 2) := by decide +kernel
theorem dX5_knee_19 : decode cX5_knee 19 = .ok (.invokestatic 51, 3) := by decide +kernel
theorem dX5_knee_22 : decode cX5_knee 22 = .ok (.ifCond .ne 5, 3) := by decide +kernel
theorem dX5_knee_25 : decode cX5_knee 25 = .ok (.iconst (-1), 1) := by decide +kernel
theorem dX5_knee_26 : decode cX5_knee 26 = .ok (.ireturn, 1) := by decide +kernel
theorem dX5_knee_27 : decode cX5_knee 27 = .ok (.iconst 0, 1) := by decide +kernel
theorem dX5_knee_28 : decode cX5_knee 28 = .ok (.istore_n 3, 1) := by decide +kernel
theorem dX5_knee_29 : decode cX5_knee 29 = .ok (.iconst 0, 1) := by decide +kernel
theorem dX5_knee_30 : decode cX5_knee 30 = .ok (.istore 4, 2) := by decide +kernel
theorem dX5_knee_32 : decode cX5_knee 32 = .ok (.iload 4, 2) := by decide +kernel
theorem dX5_knee_34 : decode cX5_knee 34 = .ok (.iload_n 2, 1) := by decide +kernel
theorem dX5_knee_35 : decode cX5_knee 35 = .ok (.if_icmp .ge 48, 3) := by decide +kernel
theorem dX5_knee_38 : decode cX5_knee 38 = .ok (.iload_n 3, 1) := by decide +kernel
theorem dX5_knee_39 : decode cX5_knee 39 = .ok (.aload_n 0, 1) := by decide +kernel
theorem dX5_knee_40 : decode cX5_knee 40 = .ok (.aload_n 0, 1) := by decide +kernel
theorem dX5_knee_41 : decode cX5_knee 41 = .ok (.getfield 25, 3) := by decide +kernel
theorem dX5_knee_44 : decode cX5_knee 44 = .ok (.iconst 0, 1) := by decide +kernel
theorem dX5_knee_45 : decode cX5_knee 45 = .ok (.iaload, 1) := by decide +kernel
theorem dX5_knee_46 : decode cX5_knee 46 = .ok (.iload 4, 2) := by decide +kernel
theorem dX5_knee_48 : decode cX5_knee 48 = .ok (.iadd, 1) := by decide +kernel
theorem dX5_knee_49 : decode cX5_knee 49 = .ok (.invokevirtual 125, 3) := by decide +kernel
theorem dX5_knee_52 : decode cX5_knee 52 = .ok (.aload_n 0, 1) := by decide +kernel
theorem dX5_knee_53 : decode cX5_knee 53 = .ok (.aload_n 0, 1) := by decide +kernel
theorem dX5_knee_54 : decode cX5_knee 54 = .ok (.getfield 25, 3) := by decide +kernel
theorem dX5_knee_57 : decode cX5_knee 57 = .ok (.iconst 0, 1) := by decide +kernel
theorem dX5_knee_58 : decode cX5_knee 58 = .ok (.iaload, 1) := by decide +kernel
theorem dX5_knee_59 : decode cX5_knee 59 = .ok (.iload 4, 2) := by decide +kernel
theorem dX5_knee_61 : decode cX5_knee 61 = .ok (.iadd, 1) := by decide +kernel
theorem dX5_knee_62 : decode cX5_knee 62 = .ok (.iload_n 1, 1) := by decide +kernel
theorem dX5_knee_63 : decode cX5_knee 63 = .ok (.isub, 1) := by decide +kernel
theorem dX5_knee_64 : decode cX5_knee 64 = .ok (.invokevirtual 125, 3) := by decide +kernel
theorem dX5_knee_67 : decode cX5_knee 67 = .ok (.if_icmp .ne 7, 3) := by decide +kernel
theorem dX5_knee_70 : decode cX5_knee 70 = .ok (.iconst 1, 1) := by decide +kernel
theorem dX5_knee_71 : decode cX5_knee 71 = .ok (.goto 4, 3) := by decide +kernel
theorem dX5_knee_74 : decode cX5_knee 74 = .ok (.iconst 0, 1) := by decide +kernel
theorem dX5_knee_75 : decode cX5_knee 75 = .ok (.iadd, 1) := by decide +kernel
theorem dX5_knee_76 : decode cX5_knee 76 = .ok (.istore_n 3, 1) := by decide +kernel
theorem dX5_knee_77 : decode cX5_knee 77 = .ok (.iinc 4 1, 3) := by decide +kernel
theorem dX5_knee_80 : decode cX5_knee 80 = .ok (.goto (-48), 3) := by decide +kernel
theorem dX5_knee_83 : decode cX5_knee 83 = .ok (.iload_n 3, 1) := by decide +kernel
theorem dX5_knee_84 : decode cX5_knee 84 = .ok (.ireturn, 1) := by decide +kernel
set_option maxRecDepth 20000 in
theorem ggX5_drift_X5_in : GoodIn wsX5_drift wsX5_in := goodIn_r _ [8] (by decide +kernel) (by decide +kernel)
set_option maxRecDepth 20000 in
theorem gX5_drift_X5_in : GoodIn wsX5_drift (va_wsS RX5 51 yX5_in wsX5_in) := goodIn_app (goodIn_of _ (by decide +kernel)) ggX5_drift_X5_in
theorem dX5_drift_0 : decode cX5_drift 0 = .ok (.aload_n 0, 1) := by decide +kernel
theorem dX5_drift_1 : decode cX5_drift 1 = .ok (.iconst 0, 1) := by decide +kernel
theorem dX5_drift_2 : decode cX5_drift 2 = .ok (.putfield 47, 3) := by decide +kernel
theorem dX5_drift_5 : decode cX5_drift 5 = .ok (.iload_n 1, 1) := by decide +kernel
theorem dX5_drift_6 : decode cX5_drift 6 = .ok (.iconst 1, 1) := by decide +kernel
theorem dX5_drift_7 : decode cX5_drift 7 = .ok (.iconst 5, 1) := by decide +kernel
theorem dX5_drift_8 : decode cX5_drift 8 = .ok (.invokestatic 51, 3) := by decide +kernel
theorem dX5_drift_11 : decode cX5_drift 11 = .ok (.ifCond .eq 12, 3) := by decide +kernel
theorem dX5_drift_14 : decode cX5_drift 14 = .ok (.iload_n 2, 1) := by decide +kernel
theorem dX5_drift_15 : decode cX5_drift 15 = .ok (.iconst 0, 1) := by decide +kernel
theorem dX5_drift_16 : decode cX5_drift 16 = .ok (.iconst 1, 1) := by decide +kernel
theorem dX5_drift_17 : decode cX5_drift 17 = .ok (.invokestatic 51, 3) := by decide +kernel
theorem dX5_drift_20 : decode cX5_drift 20 = .ok (.ifCond .ne 6, 3) := by decide +kernel
theorem dX5_drift_23 : decode cX5_drift 23 = .ok (.ldc 171, 2) := by decide +kernel
theorem dX5_drift_25 : decode cX5_drift 25 = .ok (.ireturn, 1) := by decide +kernel
theorem dX5_drift_26 : decode cX5_drift 26 = .ok (.aload_n 0, 1) := by decide +kernel
theorem dX5_drift_27 : decode cX5_drift 27 = .ok (.getfield 13, 3) := by decide +kernel
theorem dX5_drift_30 : decode cX5_drift 30 = .ok (.iconst 5, 1) := by decide +kernel
theorem dX5_drift_31 : decode cX5_drift 31 = .ok (.iaload, 1) := by decide +kernel
theorem dX5_drift_32 : decode cX5_drift 32 = .ok (.iload_n 1, 1) := by decide +kernel
theorem dX5_drift_33 : decode cX5_drift 33 = .ok (.if_icmp .le 14, 3) := by decide +kernel
theorem dX5_drift_36 : decode cX5_drift 36 = .ok (.aload_n 0, 1) := by decide +kernel
theorem dX5_drift_37 : decode cX5_drift 37 = .ok (.getfield 13, 3) := by decide +kernel
theorem dX5_drift_40 : decode cX5_drift 40 = .ok (.iconst 5, 1) := by decide +kernel
theorem dX5_drift_41 : decode cX5_drift 41 = .ok (.iaload, 1) := by decide +kernel
theorem dX5_drift_42 : decode cX5_drift 42 = .ok (.iload_n 1, 1) := by decide +kernel
theorem dX5_drift_43 : decode cX5_drift 43 = .ok (.isub, 1) := by decide +kernel
theorem dX5_drift_44 : decode cX5_drift 44 = .ok (.goto 4, 3) := by decide +kernel
theorem dX5_drift_47 : decode cX5_drift 47 = .ok (.iconst 0, 1) := by decide +kernel
theorem dX5_drift_48 : decode cX5_drift 48 = .ok (.istore_n 3, 1) := by decide +kernel
theorem dX5_drift_49 : decode cX5_drift 49 = .ok (.iconst 0, 1) := by decide +kernel
theorem dX5_drift_50 : decode cX5_drift 50 = .ok (.istore 4, 2) := by decide +kernel
theorem dX5_drift_52 : decode cX5_drift 52 = .ok (.iconst 0, 1) := by decide +kernel
theorem dX5_drift_53 : decode cX5_drift 53 = .ok (.istore 5, 2) := by decide +kernel
theorem dX5_drift_55 : decode cX5_drift 55 = .ok (.iload 5, 2) := by decide +kernel
theorem dX5_drift_57 : decode cX5_drift 57 = .ok (.aload_n 0, 1) := by decide +kernel
theorem dX5_drift_58 : decode cX5_drift 58 = .ok (.getfield 13, 3) := by decide +kernel
theorem dX5_drift_61 : decode cX5_drift 61 = .ok (.iconst 4, 1) := by decide +kernel
theorem dX5_drift_62 : decode cX5_drift 62 = .ok (.iaload, 1) := by decide +kernel
theorem dX5_drift_63 : decode cX5_drift 63 = .ok (.if_icmp .ge 63, 3) := by decide +kernel
theorem dX5_drift_66 : decode cX5_drift 66 = .ok (.aload_n 0, 1) := by decide +kernel
theorem dX5_drift_67 : decode cX5_drift 67 = .ok (.getfield 25, 3) := by decide +kernel
theorem dX5_drift_70 : decode cX5_drift 70 = .ok (.iconst 3, 1) := by decide +kernel
theorem dX5_drift_71 : decode cX5_drift 71 = .ok (.iload 5, 2) := by decide +kernel
theorem dX5_drift_73 : decode cX5_drift 73 = .ok (.iadd, 1) := by decide +kernel
theorem dX5_drift_74 : decode cX5_drift 74 = .ok (.iaload, 1) := by decide +kernel
theorem dX5_drift_75 : decode cX5_drift 75 = .ok (.istore 6, 2) := by decide +kernel
theorem dX5_drift_77 : decode cX5_drift 77 = .ok (.iload 4, 2) := by decide +kernel
theorem dX5_drift_79 : decode cX5_drift 79 = .ok (.iload 6, 2) := by decide +kernel
theorem dX5_drift_81 : decode cX5_drift 81 = .ok (.iload_n 2, 1) := by decide +kernel
theorem dX5_drift_82 : decode cX5_drift 82 = .ok (.ifCond .ne 7, 3) := by decide +kernel
theorem dX5_drift_85 : decode cX5_drift 85 = .ok (.iconst 1, 1) := by decide +kernel
theorem dX5_drift_86 : decode cX5_drift 86 = .ok (.goto 4, 3) := by decide +kernel
theorem dX5_drift_89 : decode cX5_drift 89 = .ok (.iconst 2, 1) := by decide +kernel
theorem dX5_drift_90 : decode cX5_drift 90 = .ok (.if_icmp .ne 7, 3) := by decide +kernel
theorem dX5_drift_93 : decode cX5_drift 93 = .ok (.iload_n 3, 1) := by decide +kernel
theorem dX5_drift_94 : decode cX5_drift 94 = .ok (.goto 23, 3) := by decide +kernel
theorem dX5_drift_97 : decode cX5_drift 97 = .ok (.iload 6, 2) := by decide +kernel
theorem dX5_drift_99 : decode cX5_drift 99 = .ok (.iload_n 2, 1) := by decide +kernel
theorem dX5_drift_100 : decode cX5_drift 100 = .ok (.ifCond .ne 7, 3) := by decide +kernel
theorem dX5_drift_103 : decode cX5_drift 103 = .ok (.iconst 3, 1) := by decide +kernel
theorem dX5_drift_104 : decode cX5_drift 104 = .ok (.goto 4, 3) := by decide +kernel
theorem dX5_drift_107 : decode cX5_drift 107 = .ok (.iconst 0, 1) := by decide +kernel
theorem dX5_drift_108 : decode cX5_drift 108 = .ok (.if_icmp .ne 8, 3) := by decide +kernel
theorem dX5_drift_111 : decode cX5_drift 111 = .ok (.iload_n 3, 1) := by decide +kernel
theorem dX5_drift_112 : decode cX5_drift 112 = .ok (.ineg, 1) := by decide +kernel
theorem dX5_drift_113 : decode cX5_drift 113 = .ok (.goto 4, 3) := by decide +kernel
theorem dX5_drift_116 : decode cX5_drift 116 = .ok (.iconst 0, 1) := by decide +kernel
theorem dX5_drift_117 : decode cX5_drift 117 = .ok (.iadd, 1) := by decide +kernel
theorem dX5_drift_118 : decode cX5_drift 118 = .ok (.istore 4, 2) := by decide +kernel
theorem dX5_drift_120 : decode cX5_drift 120 = .ok (.iinc 5 1, 3) := by decide +kernel
theorem dX5_drift_123 : decode cX5_drift 123 = .ok (.goto (-68), 3) := by decide +kernel
theorem dX5_drift_126 : decode cX5_drift 126 = .ok (.iload 4, 2) := by decide +kernel
theorem dX5_drift_128 : decode cX5_drift 128 = .ok (.ireturn, 1) := by decide +kernel
theorem dX5_power_0 : decode cX5_power 0 = .ok (.iconst 1, 1) := by decide +kernel
theorem dX5_power_1 : decode cX5_power 1 = .ok (.istore_n 2, 1) := by decide +kernel
theorem dX5_power_2 : decode cX5_power 2 = .ok (.iconst 0, 1) := by decide +kernel
theorem dX5_power_3 : decode cX5_power 3 = .ok (.istore_n 3, 1) := by decide +kernel
theorem dX5_power_4 : decode cX5_power 4 = .ok (.iload_n 3, 1) := by decide +kernel
theorem dX5_power_5 : decode cX5_power 5 = .ok (.iload_n 1, 1) := by decide +kernel
theorem dX5_power_6 : decode cX5_power 6 = .ok (.if_icmp .ge 13, 3) := by decide +kernel
theorem dX5_power_9 : decode cX5_power 9 = .ok (.iload_n 2, 1) := by decide +kernel
theorem dX5_power_10 : decode cX5_power 10 = .ok (.iload_n 0, 1) := by decide +kernel
theorem dX5_power_11 : decode cX5_power 11 = .ok (.imul, 1) := by decide +kernel
theorem dX5_power_12 : decode cX5_power 12 = .ok (.istore_n 2, 1) := by decide +kernel
theorem dX5_power_13 : decode cX5_power 13 = .ok (.iinc 3 1, 3) := by decide +kernel
theorem dX5_power_16 : decode cX5_power 16 = .ok (.goto (-12), 3) := by decide +kernel
theorem dX5_power_19 : decode cX5_power 19 = .ok (.iload_n 2, 1) := by decide +kernel
theorem dX5_power_20 : decode cX5_power 20 = .ok (.ireturn, 1) := by decide +kernel
theorem dX5_gcd_0 : decode cX5_gcd 0 = .ok (.iload_n 0, 1) := by decide +kernel
theorem dX5_gcd_1 : decode cX5_gcd 1 = .ok (.istore_n 2, 1) := by decide +kernel
theorem dX5_gcd_2 : decode cX5_gcd 2 = .ok (.iload_n 1, 1) := by decide +kernel
theorem dX5_gcd_3 : decode cX5_gcd 3 = .ok (.istore_n 3, 1) := by decide +kernel
theorem dX5_gcd_4 : decode cX5_gcd 4 = .ok (.iload_n 3, 1) := by decide +kernel
theorem dX5_gcd_5 : decode cX5_gcd 5 = .ok (.ifCond .eq 16, 3) := by decide +kernel
theorem dX5_gcd_8 : decode cX5_gcd 8 = .ok (.iload_n 2, 1) := by decide +kernel
theorem dX5_gcd_9 : decode cX5_gcd 9 = .ok (.iload_n 3, 1) := by decide +kernel
theorem dX5_gcd_10 : decode cX5_gcd 10 = .ok (.irem, 1) := by decide +kernel
theorem dX5_gcd_11 : decode cX5_gcd 11 = .ok (.istore 4, 2) := by decide +kernel
theorem dX5_gcd_13 : decode cX5_gcd 13 = .ok (.iload_n 3, 1) := by decide +kernel
theorem dX5_gcd_14 : decode cX5_gcd 14 = .ok (.istore_n 2, 1) := by decide +kernel
theorem dX5_gcd_15 : decode cX5_gcd 15 = .ok (.iload 4, 2) := by decide +kernel
theorem dX5_gcd_17 : decode cX5_gcd 17 = .ok (.istore_n 3, 1) := by decide +kernel
theorem dX5_gcd_18 : decode cX5_gcd 18 = .ok (.goto (-14), 3) := by decide +kernel
theorem dX5_gcd_21 : decode cX5_gcd 21 = .ok (.iload_n 2, 1) := by decide +kernel
theorem dX5_gcd_22 : decode cX5_gcd 22 = .ok (.ireturn, 1) := by decide +kernel
set_option maxRecDepth 20000 in
theorem ggX5_odds_X5_isLetter : GoodIn wsX5_odds wsX5_isLetter := goodIn_r _ [8, 3, 9, 10, 7, 11, 45, 46, 47, 48, 49, 50, 51, 52, 53, 54, 55, 56, 57, 58, 59, 60, 61, 62, 63, 64, 65, 66] (by decide +kernel) (by decide +kernel)
set_option maxRecDepth 20000 in
theorem gX5_odds_X5_isLetter : GoodIn wsX5_odds (wsV RX5 128 RX5 yX5_isLetter wsX5_isLetter) := goodIn_app (goodIn_of _ (by decide +kernel)) ggX5_odds_X5_isLetter
set_option maxRecDepth 20000 in
theorem ggX5_odds_X5_in : GoodIn wsX5_odds wsX5_in := goodIn_r _ [11] (by decide +kernel) (by decide +kernel)
set_option maxRecDepth 20000 in
theorem gX5_odds_X5_in : GoodIn wsX5_odds (va_wsS RX5 51 yX5_in wsX5_in) := goodIn_app (goodIn_of _ (by decide +kernel)) ggX5_odds_X5_in
set_option maxRecDepth 20000 in
theorem ggX5_odds_X5_takesLetter : GoodIn wsX5_odds wsX5_takesLetter := goodIn_r _ [15, 3, 45, 46, 47, 48, 49, 50, 51, 52, 53, 54, 55, 56, 57, 58, 59, 60, 61, 62, 63, 64, 65, 66] (by decide +kernel) (by decide +kernel)
set_option maxRecDepth 20000 in
theorem gX5_odds_X5_takesLetter : GoodIn wsX5_odds (wsV RX5 149 RX5 yX5_takesLetter wsX5_takesLetter) := goodIn_app (goodIn_of _ (by decide +kernel)) ggX5_odds_X5_takesLetter
set_option maxRecDepth 20000 in
theorem ggX5_odds_X5_windOf : GoodIn wsX5_odds wsX5_windOf := goodIn_r _ [19, 20, 3, 45, 46, 47, 48, 49, 50, 51, 52, 53, 54, 55, 56, 57, 58, 59, 60, 61, 62, 63, 64, 65, 66] (by decide +kernel) (by decide +kernel)
set_option maxRecDepth 20000 in
theorem gX5_odds_X5_windOf : GoodIn wsX5_odds (wsV RX5 125 RX5 yX5_windOf wsX5_windOf) := goodIn_app (goodIn_of _ (by decide +kernel)) ggX5_odds_X5_windOf
set_option maxRecDepth 20000 in
theorem ggX5_odds_X5_blows : GoodIn wsX5_odds wsX5_blows := goodIn_r _ [24, 20, 25, 26, 27, 7, 28, 29, 30, 31, 32, 33, 34, 35, 36, 37, 38, 45, 46, 47, 48, 49, 50, 51, 52, 53, 54, 55, 56, 57, 58, 59, 60, 61, 62, 63, 64, 65, 66] (by decide +kernel) (by decide +kernel)
set_option maxRecDepth 20000 in
theorem gX5_odds_X5_blows : GoodIn wsX5_odds (wsV RX5 145 RX5 yX5_blows wsX5_blows) := goodIn_app (goodIn_of _ (by decide +kernel)) ggX5_odds_X5_blows
set_option maxRecDepth 20000 in
theorem ggX5_odds_X5_power : GoodIn wsX5_odds wsX5_power := goodIn_r _ [41] (by decide +kernel) (by decide +kernel)
set_option maxRecDepth 20000 in
theorem gX5_odds_X5_power : GoodIn wsX5_odds (va_wsS RX5 172 yX5_power wsX5_power) := goodIn_app (goodIn_of _ (by decide +kernel)) ggX5_odds_X5_power
set_option maxRecDepth 20000 in
theorem ggX5_odds_X5_gcd : GoodIn wsX5_odds wsX5_gcd := goodIn_r _ [44] (by decide +kernel) (by decide +kernel)
set_option maxRecDepth 20000 in
theorem gX5_odds_X5_gcd : GoodIn wsX5_odds (va_wsS RX5 175 yX5_gcd wsX5_gcd) := goodIn_app (goodIn_of _ (by decide +kernel)) ggX5_odds_X5_gcd
theorem dX5_odds_0 : decode cX5_odds 0 = .ok (.aload_n 0, 1) := by decide +kernel
theorem dX5_odds_1 : decode cX5_odds 1 = .ok (.iconst 0, 1) := by decide +kernel
theorem dX5_odds_2 : decode cX5_odds 2 = .ok (.putfield 47, 3) := by decide +kernel
theorem dX5_odds_5 : decode cX5_odds 5 = .ok (.aload_n 0, 1) := by decide +kernel
theorem dX5_odds_6 : decode cX5_odds 6 = .ok (.iload_n 1, 1) := by decide +kernel
theorem dX5_odds_7 : decode cX5_odds 7 = .ok (.invokevirtual 128, 3) := by decide +kernel
theorem dX5_odds_10 : decode cX5_odds 10 = .ok (.ifCond .eq 33, 3) := by decide +kernel
theorem dX5_odds_13 : decode cX5_odds 13 = .ok (.iload_n 2, 1) := by decide +kernel
theorem dX5_odds_14 : decode cX5_odds 14 = .ok (.iconst 0, 1) := by decide +kernel
theorem dX5_odds_15 : decode cX5_odds 15 = .ok (.bipush 10, 2) := by decide +kernel
theorem dX5_odds_17 : decode cX5_odds 17 = .ok (.invokestatic 51, 3) := by decide +kernel
theorem dX5_odds_20 : decode cX5_odds 20 = .ok (.ifCond .eq 23, 3) := by decide +kernel
theorem dX5_odds_23 : decode cX5_odds 23 = .ok (.iload_n 3, 1) := by decide +kernel
theorem dX5_odds_24 : decode cX5_odds 24 = .ok (.iconst 0, 1) := by decide +kernel
theorem dX5_odds_25 : decode cX5_odds 25 = .ok (.bipush 6, 2) := by decide +kernel
theorem dX5_odds_27 : decode cX5_odds 27 = .ok (.invokestatic 51, 3) := by decide +kernel
theorem dX5_odds_30 : decode cX5_odds 30 = .ok (.ifCond .eq 13, 3) := by decide +kernel
theorem dX5_odds_33 : decode cX5_odds 33 = .ok (.iload 4, 2) := by decide +kernel
theorem dX5_odds_35 : decode cX5_odds 35 = .ok (.iconst 0, 1) := by decide +kernel
theorem dX5_odds_36 : decode cX5_odds 36 = .ok (.iconst 1, 1) := by decide +kernel
theorem dX5_odds_37 : decode cX5_odds 37 = .ok (.invokestatic 51, 3) := by decide +kernel
theorem dX5_odds_40 : decode cX5_odds 40 = .ok (.ifCond .ne 5, 3) := by decide +kernel
theorem dX5_odds_43 : decode cX5_odds 43 = .ok (.iconst (-1), 1) := by decide +kernel
theorem dX5_odds_44 : decode cX5_odds 44 = .ok (.ireturn, 1) := by decide +kernel
theorem dX5_odds_45 : decode cX5_odds 45 = .ok (.iconst 0, 1) := by decide +kernel
theorem dX5_odds_46 : decode cX5_odds 46 = .ok (.istore 5, 2) := by decide +kernel
theorem dX5_odds_48 : decode cX5_odds 48 = .ok (.iconst 0, 1) := by decide +kernel
theorem dX5_odds_49 : decode cX5_odds 49 = .ok (.istore 6, 2) := by decide +kernel
theorem dX5_odds_51 : decode cX5_odds 51 = .ok (.iload 6, 2) := by decide +kernel
theorem dX5_odds_53 : decode cX5_odds 53 = .ok (.iconst 1, 1) := by decide +kernel
theorem dX5_odds_54 : decode cX5_odds 54 = .ok (.iload_n 3, 1) := by decide +kernel
theorem dX5_odds_55 : decode cX5_odds 55 = .ok (.ishl, 1) := by decide +kernel
theorem dX5_odds_56 : decode cX5_odds 56 = .ok (.if_icmp .ge 130, 3) := by decide +kernel
theorem dX5_odds_59 : decode cX5_odds 59 = .ok (.iconst 1, 1) := by decide +kernel
theorem dX5_odds_60 : decode cX5_odds 60 = .ok (.istore 7, 2) := by decide +kernel
theorem dX5_odds_62 : decode cX5_odds 62 = .ok (.aload_n 0, 1) := by decide +kernel
theorem dX5_odds_63 : decode cX5_odds 63 = .ok (.aload_n 0, 1) := by decide +kernel
theorem dX5_odds_64 : decode cX5_odds 64 = .ok (.getfield 38, 3) := by decide +kernel
theorem dX5_odds_67 : decode cX5_odds 67 = .ok (.iload_n 1, 1) := by decide +kernel
theorem dX5_odds_68 : decode cX5_odds 68 = .ok (.invokevirtual 149, 3) := by decide +kernel
theorem dX5_odds_71 : decode cX5_odds 71 = .ok (.iconst 0, 1) := by decide +kernel
theorem dX5_odds_72 : decode cX5_odds 72 = .ok (.istore 8, 2) := by decide +kernel
theorem dX5_odds_74 : decode cX5_odds 74 = .ok (.iload 8, 2) := by decide +kernel
theorem dX5_odds_76 : decode cX5_odds 76 = .ok (.iload_n 3, 1) := by decide +kernel
theorem dX5_odds_77 : decode cX5_odds 77 = .ok (.if_icmp .ge 82, 3) := by decide +kernel
theorem dX5_odds_80 : decode cX5_odds 80 = .ok (.iload 6, 2) := by decide +kernel
theorem dX5_odds_82 : decode cX5_odds 82 = .ok (.iload 8, 2) := by decide +kernel
theorem dX5_odds_84 : decode cX5_odds 84 = .ok (.ishr, 1) := by decide +kernel
theorem dX5_odds_85 : decode cX5_odds 85 = .ok (.iconst 1, 1) := by decide +kernel
theorem dX5_odds_86 : decode cX5_odds 86 = .ok (.iand, 1) := by decide +kernel
theorem dX5_odds_87 : decode cX5_odds 87 = .ok (.iconst 1, 1) := by decide +kernel
theorem dX5_odds_88 : decode cX5_odds 88 = .ok (.if_icmp .ne 7, 3) := by decide +kernel
theorem dX5_odds_91 : decode cX5_odds 91 = .ok (.iconst 1, 1) := by decide +kernel
theorem dX5_odds_92 : decode cX5_odds 92 = .ok (.goto 4, 3) := by decide +kernel
theorem dX5_odds_95 : decode cX5_odds 95 = .ok (.iconst 0, 1) := by decide +kernel
theorem dX5_odds_96 : decode cX5_odds 96 = .ok (.istore 9, 2) := by decide +kernel
theorem dX5_odds_98 : decode cX5_odds 98 = .ok (.iload 7, 2) := by decide +kernel
theorem dX5_odds_100 : decode cX5_odds 100 = .ok (.iload 9, 2) := by decide +kernel
theorem dX5_odds_102 : decode cX5_odds 102 = .ok (.ifCond .eq 7, 3) := by decide +kernel
theorem dX5_odds_105 : decode cX5_odds 105 = .ok (.iload_n 2, 1) := by decide +kernel
theorem dX5_odds_106 : decode cX5_odds 106 = .ok (.goto 7, 3) := by decide +kernel
theorem dX5_odds_109 : decode cX5_odds 109 = .ok (.bipush 10, 2) := by decide +kernel
theorem dX5_odds_111 : decode cX5_odds 111 = .ok (.iload_n 2, 1) := by decide +kernel
theorem dX5_odds_112 : decode cX5_odds 112 = .ok (.isub, 1) := by decide +kernel
theorem dX5_odds_113 : decode cX5_odds 113 = .ok (.imul, 1) := by decide +kernel
theorem dX5_odds_114 : decode cX5_odds 114 = .ok (.istore 7, 2) := by decide +kernel
theorem dX5_odds_116 : decode cX5_odds 116 = .ok (.aload_n 0, 1) := by decide +kernel
theorem dX5_odds_117 : decode cX5_odds 117 = .ok (.aload_n 0, 1) := by decide +kernel
theorem dX5_odds_118 : decode cX5_odds 118 = .ok (.getfield 38, 3) := by decide +kernel
theorem dX5_odds_121 : decode cX5_odds 121 = .ok (.iconst 0, 1) := by decide +kernel
theorem dX5_odds_122 : decode cX5_odds 122 = .ok (.iload 9, 2) := by decide +kernel
theorem dX5_odds_124 : decode cX5_odds 124 = .ok (.ifCond .eq 7, 3) := by decide +kernel
theorem dX5_odds_127 : decode cX5_odds 127 = .ok (.iconst 4, 1) := by decide +kernel
theorem dX5_odds_128 : decode cX5_odds 128 = .ok (.goto 16, 3) := by decide +kernel
theorem dX5_odds_131 : decode cX5_odds 131 = .ok (.aload_n 0, 1) := by decide +kernel
theorem dX5_odds_132 : decode cX5_odds 132 = .ok (.aload_n 0, 1) := by decide +kernel
theorem dX5_odds_133 : decode cX5_odds 133 = .ok (.getfield 25, 3) := by decide +kernel
theorem dX5_odds_136 : decode cX5_odds 136 = .ok (.iconst 0, 1) := by decide +kernel
theorem dX5_odds_137 : decode cX5_odds 137 = .ok (.iaload, 1) := by decide +kernel
theorem dX5_odds_138 : decode cX5_odds 138 = .ok (.iload 8, 2) := by decide +kernel
theorem dX5_odds_140 : decode cX5_odds 140 = .ok (.iadd, 1) := by decide +kernel
theorem dX5_odds_141 : decode cX5_odds 141 = .ok (.invokevirtual 125, 3) := by decide +kernel
theorem dX5_odds_144 : decode cX5_odds 144 = .ok (.aload_n 0, 1) := by decide +kernel
theorem dX5_odds_145 : decode cX5_odds 145 = .ok (.getfield 25, 3) := by decide +kernel
theorem dX5_odds_148 : decode cX5_odds 148 = .ok (.iconst 2, 1) := by decide +kernel
theorem dX5_odds_149 : decode cX5_odds 149 = .ok (.iaload, 1) := by decide +kernel
theorem dX5_odds_150 : decode cX5_odds 150 = .ok (.invokevirtual 145, 3) := by decide +kernel
theorem dX5_odds_153 : decode cX5_odds 153 = .ok (.iinc 8 1, 3) := by decide +kernel
theorem dX5_odds_156 : decode cX5_odds 156 = .ok (.goto (-82), 3) := by decide +kernel
theorem dX5_odds_159 : decode cX5_odds 159 = .ok (.iload 5, 2) := by decide +kernel
theorem dX5_odds_161 : decode cX5_odds 161 = .ok (.aload_n 0, 1) := by decide +kernel
theorem dX5_odds_162 : decode cX5_odds 162 = .ok (.getfield 38, 3) := by decide +kernel
theorem dX5_odds_165 : decode cX5_odds 165 = .ok (.iconst 5, 1) := by decide +kernel
theorem dX5_odds_166 : decode cX5_odds 166 = .ok (.iaload, 1) := by decide +kernel
theorem dX5_odds_167 : decode cX5_odds 167 = .ok (.iconst 1, 1) := by decide +kernel
theorem dX5_odds_168 : decode cX5_odds 168 = .ok (.if_icmp .ne 8, 3) := by decide +kernel
theorem dX5_odds_171 : decode cX5_odds 171 = .ok (.iload 7, 2) := by decide +kernel
theorem dX5_odds_173 : decode cX5_odds 173 = .ok (.goto 4, 3) := by decide +kernel
theorem dX5_odds_176 : decode cX5_odds 176 = .ok (.iconst 0, 1) := by decide +kernel
theorem dX5_odds_177 : decode cX5_odds 177 = .ok (.iadd, 1) := by decide +kernel
theorem dX5_odds_178 : decode cX5_odds 178 = .ok (.istore 5, 2) := by decide +kernel
theorem dX5_odds_180 : decode cX5_odds 180 = .ok (.iinc 6 1, 3) := by decide +kernel
theorem dX5_odds_183 : decode cX5_odds 183 = .ok (.goto (-132), 3) := by decide +kernel
theorem dX5_odds_186 : decode cX5_odds 186 = .ok (.bipush 10, 2) := by decide +kernel
theorem dX5_odds_188 : decode cX5_odds 188 = .ok (.iload_n 3, 1) := by decide +kernel
theorem dX5_odds_189 : decode cX5_odds 189 = .ok (.invokestatic 172, 3) := by decide +kernel
theorem dX5_odds_192 : decode cX5_odds 192 = .ok (.istore 6, 2) := by decide +kernel
theorem dX5_odds_194 : decode cX5_odds 194 = .ok (.iload 5, 2) := by decide +kernel
theorem dX5_odds_196 : decode cX5_odds 196 = .ok (.iload 6, 2) := by decide +kernel
theorem dX5_odds_198 : decode cX5_odds 198 = .ok (.invokestatic 175, 3) := by decide +kernel
theorem dX5_odds_201 : decode cX5_odds 201 = .ok (.istore 7, 2) := by decide +kernel
theorem dX5_odds_203 : decode cX5_odds 203 = .ok (.iload 4, 2) := by decide +kernel
theorem dX5_odds_205 : decode cX5_odds 205 = .ok (.ifCond .ne 11, 3) := by decide +kernel
theorem dX5_odds_208 : decode cX5_odds 208 = .ok (.iload 5, 2) := by decide +kernel
theorem dX5_odds_210 : decode cX5_odds 210 = .ok (.iload 7, 2) := by decide +kernel
theorem dX5_odds_212 : decode cX5_odds 212 = .ok (.idiv, 1) := by decide +kernel
theorem dX5_odds_213 : decode cX5_odds 213 = .ok (.goto 8, 3) := by decide +kernel
theorem dX5_odds_216 : decode cX5_odds 216 = .ok (.iload 6, 2) := by decide +kernel
theorem dX5_odds_218 : decode cX5_odds 218 = .ok (.iload 7, 2) := by decide +kernel
theorem dX5_odds_220 : decode cX5_odds 220 = .ok (.idiv, 1) := by decide +kernel
theorem dX5_odds_221 : decode cX5_odds 221 = .ok (.ireturn, 1) := by decide +kernel
set_option maxRecDepth 20000 in
theorem ggX5_rate_X5_in : GoodIn wsX5_rate wsX5_in := goodIn_r _ [13] (by decide +kernel) (by decide +kernel)
set_option maxRecDepth 20000 in
theorem gX5_rate_X5_in : GoodIn wsX5_rate (va_wsS RX5 51 yX5_in wsX5_in) := goodIn_app (goodIn_of _ (by decide +kernel)) ggX5_rate_X5_in
set_option maxRecDepth 20000 in
theorem ggX5_rate_X5_isLetter : GoodIn wsX5_rate wsX5_isLetter := goodIn_r _ [17, 3, 10, 11, 12, 13, 21, 22, 23, 24, 25, 26, 27, 28, 29, 30, 31, 32, 33, 34, 35, 36, 37, 38, 39, 40, 41, 42] (by decide +kernel) (by decide +kernel)
set_option maxRecDepth 20000 in
theorem gX5_rate_X5_isLetter : GoodIn wsX5_rate (wsV RX5 128 RX5 yX5_isLetter wsX5_isLetter) := goodIn_app (goodIn_of _ (by decide +kernel)) ggX5_rate_X5_isLetter
set_option maxRecDepth 20000 in
theorem ggX5_rate_X5_ones : GoodIn wsX5_rate wsX5_ones := goodIn_r _ [20] (by decide +kernel) (by decide +kernel)
set_option maxRecDepth 20000 in
theorem gX5_rate_X5_ones : GoodIn wsX5_rate (va_wsS RX5 168 yX5_ones wsX5_ones) := goodIn_app (goodIn_of _ (by decide +kernel)) ggX5_rate_X5_ones
theorem dX5_rate_0 : decode cX5_rate 0 = .ok (.aload_n 0, 1) := by decide +kernel
theorem dX5_rate_1 : decode cX5_rate 1 = .ok (.iconst 0, 1) := by decide +kernel
theorem dX5_rate_2 : decode cX5_rate 2 = .ok (.putfield 47, 3) := by decide +kernel
theorem dX5_rate_5 : decode cX5_rate 5 = .ok (.iload_n 1, 1) := by decide +kernel
theorem dX5_rate_6 : decode cX5_rate 6 = .ok (.iconst 0, 1) := by decide +kernel
theorem dX5_rate_7 : decode cX5_rate 7 = .ok (.iconst 5, 1) := by decide +kernel
theorem dX5_rate_8 : decode cX5_rate 8 = .ok (.invokestatic 51, 3) := by decide +kernel
theorem dX5_rate_11 : decode cX5_rate 11 = .ok (.ifCond .eq 11, 3) := by decide +kernel
theorem dX5_rate_14 : decode cX5_rate 14 = .ok (.aload_n 0, 1) := by decide +kernel
theorem dX5_rate_15 : decode cX5_rate 15 = .ok (.iload_n 2, 1) := by decide +kernel
theorem dX5_rate_16 : decode cX5_rate 16 = .ok (.invokevirtual 128, 3) := by decide +kernel
theorem dX5_rate_19 : decode cX5_rate 19 = .ok (.ifCond .ne 6, 3) := by decide +kernel
theorem dX5_rate_22 : decode cX5_rate 22 = .ok (.ldc 171, 2) := by decide +kernel
theorem dX5_rate_24 : decode cX5_rate 24 = .ok (.ireturn, 1) := by decide +kernel
theorem dX5_rate_25 : decode cX5_rate 25 = .ok (.bipush 15, 2) := by decide +kernel
theorem dX5_rate_27 : decode cX5_rate 27 = .ok (.bipush 6, 2) := by decide +kernel
theorem dX5_rate_29 : decode cX5_rate 29 = .ok (.iload_n 2, 1) := by decide +kernel
theorem dX5_rate_30 : decode cX5_rate 30 = .ok (.imul, 1) := by decide +kernel
theorem dX5_rate_31 : decode cX5_rate 31 = .ok (.iadd, 1) := by decide +kernel
theorem dX5_rate_32 : decode cX5_rate 32 = .ok (.istore_n 3, 1) := by decide +kernel
theorem dX5_rate_33 : decode cX5_rate 33 = .ok (.aload_n 0, 1) := by decide +kernel
theorem dX5_rate_34 : decode cX5_rate 34 = .ok (.getfield 25, 3) := by decide +kernel
theorem dX5_rate_37 : decode cX5_rate 37 = .ok (.iload_n 3, 1) := by decide +kernel
theorem dX5_rate_38 : decode cX5_rate 38 = .ok (.iaload, 1) := by decide +kernel
theorem dX5_rate_39 : decode cX5_rate 39 = .ok (.istore 4, 2) := by decide +kernel
theorem dX5_rate_41 : decode cX5_rate 41 = .ok (.iload 4, 2) := by decide +kernel
theorem dX5_rate_43 : decode cX5_rate 43 = .ok (.aload_n 0, 1) := by decide +kernel
theorem dX5_rate_44 : decode cX5_rate 44 = .ok (.getfield 25, 3) := by decide +kernel
theorem dX5_rate_47 : decode cX5_rate 47 = .ok (.iload_n 3, 1) := by decide +kernel
theorem dX5_rate_48 : decode cX5_rate 48 = .ok (.iconst 4, 1) := by decide +kernel
theorem dX5_rate_49 : decode cX5_rate 49 = .ok (.iadd, 1) := by decide +kernel
theorem dX5_rate_50 : decode cX5_rate 50 = .ok (.iaload, 1) := by decide +kernel
theorem dX5_rate_51 : decode cX5_rate 51 = .ok (.invokestatic 168, 3) := by decide +kernel
theorem dX5_rate_54 : decode cX5_rate 54 = .ok (.iadd, 1) := by decide +kernel
theorem dX5_rate_55 : decode cX5_rate 55 = .ok (.istore 5, 2) := by decide +kernel
theorem dX5_rate_57 : decode cX5_rate 57 = .ok (.iload 4, 2) := by decide +kernel
theorem dX5_rate_59 : decode cX5_rate 59 = .ok (.aload_n 0, 1) := by decide +kernel
theorem dX5_rate_60 : decode cX5_rate 60 = .ok (.getfield 25, 3) := by decide +kernel
theorem dX5_rate_63 : decode cX5_rate 63 = .ok (.iload_n 3, 1) := by decide +kernel
theorem dX5_rate_64 : decode cX5_rate 64 = .ok (.iconst 3, 1) := by decide +kernel
theorem dX5_rate_65 : decode cX5_rate 65 = .ok (.iadd, 1) := by decide +kernel
theorem dX5_rate_66 : decode cX5_rate 66 = .ok (.iaload, 1) := by decide +kernel
theorem dX5_rate_67 : decode cX5_rate 67 = .ok (.isub, 1) := by decide +kernel
theorem dX5_rate_68 : decode cX5_rate 68 = .ok (.istore 6, 2) := by decide +kernel
theorem dX5_rate_70 : decode cX5_rate 70 = .ok (.aload_n 0, 1) := by decide +kernel
theorem dX5_rate_71 : decode cX5_rate 71 = .ok (.dup, 1) := by decide +kernel
theorem dX5_rate_72 : decode cX5_rate 72 = .ok (.getfield 178, 3) := by decide +kernel
theorem dX5_rate_75 : decode cX5_rate 75 = .ok (.iload_n 1, 1) := by decide +kernel
theorem dX5_rate_76 : decode cX5_rate 76 = .ok (.ifCond .ne 7, 3) := by decide +kernel
theorem dX5_rate_79 : decode cX5_rate 79 = .ok (.lconst 1, 1) := by decide +kernel
theorem dX5_rate_80 : decode cX5_rate 80 = .ok (.goto 50, 3) := by decide +kernel
theorem dX5_rate_83 : decode cX5_rate 83 = .ok (.iload_n 1, 1) := by decide +kernel
theorem dX5_rate_84 : decode cX5_rate 84 = .ok (.iconst 1, 1) := by decide +kernel
theorem dX5_rate_85 : decode cX5_rate 85 = .ok (.if_icmp .ne 9, 3) := by decide +kernel
theorem dX5_rate_88 : decode cX5_rate 88 = .ok (.ldc2_w 182, 3) := by decide +kernel
theorem dX5_rate_91 : decode cX5_rate 91 = .ok (.goto 39, 3) := by decide +kernel
theorem dX5_rate_94 : decode cX5_rate 94 = .ok (.iload_n 1, 1) := by decide +kernel
theorem dX5_rate_95 : decode cX5_rate 95 = .ok (.iconst 2, 1) := by decide +kernel
theorem dX5_rate_96 : decode cX5_rate 96 = .ok (.if_icmp .ne 9, 3) := by decide +kernel
theorem dX5_rate_99 : decode cX5_rate 99 = .ok (.ldc2_w 184, 3) := by decide +kernel
theorem dX5_rate_102 : decode cX5_rate 102 = .ok (.goto 28, 3) := by decide +kernel
theorem dX5_rate_105 : decode cX5_rate 105 = .ok (.iload_n 1, 1) := by decide +kernel
theorem dX5_rate_106 : decode cX5_rate 106 = .ok (.iconst 3, 1) := by decide +kernel
theorem dX5_rate_107 : decode cX5_rate 107 = .ok (.if_icmp .ne 9, 3) := by decide +kernel
theorem dX5_rate_110 : decode cX5_rate 110 = .ok (.ldc2_w 186, 3) := by decide +kernel
theorem dX5_rate_113 : decode cX5_rate 113 = .ok (.goto 17, 3) := by decide +kernel
theorem dX5_rate_116 : decode cX5_rate 116 = .ok (.iload_n 1, 1) := by decide +kernel
theorem dX5_rate_117 : decode cX5_rate 117 = .ok (.iconst 4, 1) := by decide +kernel
theorem dX5_rate_118 : decode cX5_rate 118 = .ok (.if_icmp .ne 9, 3) := by decide +kernel
theorem dX5_rate_121 : decode cX5_rate 121 = .ok (.ldc2_w 188, 3) := by decide +kernel
theorem dX5_rate_124 : decode cX5_rate 124 = .ok (.goto 6, 3) := by decide +kernel
theorem dX5_rate_127 : decode cX5_rate 127 = .ok (.ldc2_w 190, 3) := by decide +kernel
theorem dX5_rate_130 : decode cX5_rate 130 = .ok (.ladd, 1) := by decide +kernel
theorem dX5_rate_131 : decode cX5_rate 131 = .ok (.putfield 178, 3) := by decide +kernel
theorem dX5_rate_134 : decode cX5_rate 134 = .ok (.iload_n 1, 1) := by decide +kernel
theorem dX5_rate_135 : decode cX5_rate 135 = .ok (.ifCond .ne 8, 3) := by decide +kernel
theorem dX5_rate_138 : decode cX5_rate 138 = .ok (.iload 4, 2) := by decide +kernel
theorem dX5_rate_140 : decode cX5_rate 140 = .ok (.goto 56, 3) := by decide +kernel
theorem dX5_rate_143 : decode cX5_rate 143 = .ok (.iload_n 1, 1) := by decide +kernel
theorem dX5_rate_144 : decode cX5_rate 144 = .ok (.iconst 1, 1) := by decide +kernel
theorem dX5_rate_145 : decode cX5_rate 145 = .ok (.if_icmp .ne 8, 3) := by decide +kernel
theorem dX5_rate_148 : decode cX5_rate 148 = .ok (.iload 5, 2) := by decide +kernel
theorem dX5_rate_150 : decode cX5_rate 150 = .ok (.goto 46, 3) := by decide +kernel
theorem dX5_rate_153 : decode cX5_rate 153 = .ok (.iload_n 1, 1) := by decide +kernel
theorem dX5_rate_154 : decode cX5_rate 154 = .ok (.iconst 2, 1) := by decide +kernel
theorem dX5_rate_155 : decode cX5_rate 155 = .ok (.if_icmp .ne 8, 3) := by decide +kernel
theorem dX5_rate_158 : decode cX5_rate 158 = .ok (.iload 6, 2) := by decide +kernel
theorem dX5_rate_160 : decode cX5_rate 160 = .ok (.goto 36, 3) := by decide +kernel
theorem dX5_rate_163 : decode cX5_rate 163 = .ok (.iload_n 1, 1) := by decide +kernel
theorem dX5_rate_164 : decode cX5_rate 164 = .ok (.iconst 3, 1) := by decide +kernel
theorem dX5_rate_165 : decode cX5_rate 165 = .ok (.if_icmp .ne 10, 3) := by decide +kernel
theorem dX5_rate_168 : decode cX5_rate 168 = .ok (.iconst 2, 1) := by decide +kernel
theorem dX5_rate_169 : decode cX5_rate 169 = .ok (.iload 5, 2) := by decide +kernel
theorem dX5_rate_171 : decode cX5_rate 171 = .ok (.imul, 1) := by decide +kernel
theorem dX5_rate_172 : decode cX5_rate 172 = .ok (.goto 24, 3) := by decide +kernel
theorem dX5_rate_175 : decode cX5_rate 175 = .ok (.iload_n 1, 1) := by decide +kernel
theorem dX5_rate_176 : decode cX5_rate 176 = .ok (.iconst 4, 1) := by decide +kernel
theorem dX5_rate_177 : decode cX5_rate 177 = .ok (.if_icmp .ne 10, 3) := by decide +kernel
theorem dX5_rate_180 : decode cX5_rate 180 = .ok (.iload 6, 2) := by decide +kernel
theorem dX5_rate_182 : decode cX5_rate 182 = .ok (.iload_n 2, 1) := by decide +kernel
theorem dX5_rate_183 : decode cX5_rate 183 = .ok (.iadd, 1) := by decide +kernel
theorem dX5_rate_184 : decode cX5_rate 184 = .ok (.goto 12, 3) := by decide +kernel
theorem dX5_rate_187 : decode cX5_rate 187 = .ok (.iload 4, 2) := by decide +kernel
theorem dX5_rate_189 : decode cX5_rate 189 = .ok (.aload_n 0, 1) := by decide +kernel
theorem dX5_rate_190 : decode cX5_rate 190 = .ok (.getfield 25, 3) := by decide +kernel
theorem dX5_rate_193 : decode cX5_rate 193 = .ok (.iconst 0, 1) := by decide +kernel
theorem dX5_rate_194 : decode cX5_rate 194 = .ok (.iaload, 1) := by decide +kernel
theorem dX5_rate_195 : decode cX5_rate 195 = .ok (.iadd, 1) := by decide +kernel
theorem dX5_rate_196 : decode cX5_rate 196 = .ok (.ireturn, 1) := by decide +kernel
set_option maxRecDepth 20000 in
theorem ggX5_keep_X5_in : GoodIn wsX5_keep wsX5_in := goodIn_r _ [8] (by decide +kernel) (by decide +kernel)
set_option maxRecDepth 20000 in
theorem gX5_keep_X5_in : GoodIn wsX5_keep (va_wsS RX5 51 yX5_in wsX5_in) := goodIn_app (goodIn_of _ (by decide +kernel)) ggX5_keep_X5_in
theorem dX5_keep_0 : decode cX5_keep 0 = .ok (.aload_n 0, 1) := by decide +kernel
theorem dX5_keep_1 : decode cX5_keep 1 = .ok (.iconst 0, 1) := by decide +kernel
theorem dX5_keep_2 : decode cX5_keep 2 = .ok (.putfield 47, 3) := by decide +kernel
theorem dX5_keep_5 : decode cX5_keep 5 = .ok (.iload_n 1, 1) := by decide +kernel
theorem dX5_keep_6 : decode cX5_keep 6 = .ok (.iconst 0, 1) := by decide +kernel
theorem dX5_keep_7 : decode cX5_keep 7 = .ok (.iconst 1, 1) := by decide +kernel
theorem dX5_keep_8 : decode cX5_keep 8 = .ok (.invokestatic 51, 3) := by decide +kernel
theorem dX5_keep_11 : decode cX5_keep 11 = .ok (.ifCond .ne 5, 3) := by decide +kernel
theorem dX5_keep_14 : decode cX5_keep 14 = .ok (.iconst (-1), 1) := by decide +kernel
theorem dX5_keep_15 : decode cX5_keep 15 = .ok (.ireturn, 1) := by decide +kernel
theorem dX5_keep_16 : decode cX5_keep 16 = .ok (.iconst 0, 1) := by decide +kernel
theorem dX5_keep_17 : decode cX5_keep 17 = .ok (.istore_n 2, 1) := by decide +kernel
theorem dX5_keep_18 : decode cX5_keep 18 = .ok (.iload_n 2, 1) := by decide +kernel
theorem dX5_keep_19 : decode cX5_keep 19 = .ok (.bipush 45, 2) := by decide +kernel
theorem dX5_keep_21 : decode cX5_keep 21 = .ok (.if_icmp .ge 26, 3) := by decide +kernel
theorem dX5_keep_24 : decode cX5_keep 24 = .ok (.aload_n 0, 1) := by decide +kernel
theorem dX5_keep_25 : decode cX5_keep 25 = .ok (.getfield 28, 3) := by decide +kernel
theorem dX5_keep_28 : decode cX5_keep 28 = .ok (.bipush 45, 2) := by decide +kernel
theorem dX5_keep_30 : decode cX5_keep 30 = .ok (.iload_n 1, 1) := by decide +kernel
theorem dX5_keep_31 : decode cX5_keep 31 = .ok (.imul, 1) := by decide +kernel
theorem dX5_keep_32 : decode cX5_keep 32 = .ok (.iload_n 2, 1) := by decide +kernel
theorem dX5_keep_33 : decode cX5_keep 33 = .ok (.iadd, 1) := by decide +kernel
theorem dX5_keep_34 : decode cX5_keep 34 = .ok (.aload_n 0, 1) := by decide +kernel
theorem dX5_keep_35 : decode cX5_keep 35 = .ok (.getfield 25, 3) := by decide +kernel
theorem dX5_keep_38 : decode cX5_keep 38 = .ok (.iload_n 2, 1) := by decide +kernel
theorem dX5_keep_39 : decode cX5_keep 39 = .ok (.iaload, 1) := by decide +kernel
theorem dX5_keep_40 : decode cX5_keep 40 = .ok (.iastore, 1) := by decide +kernel
theorem dX5_keep_41 : decode cX5_keep 41 = .ok (.iinc 2 1, 3) := by decide +kernel
theorem dX5_keep_44 : decode cX5_keep 44 = .ok (.goto (-26), 3) := by decide +kernel
theorem dX5_keep_47 : decode cX5_keep 47 = .ok (.aload_n 0, 1) := by decide +kernel
theorem dX5_keep_48 : decode cX5_keep 48 = .ok (.getfield 31, 3) := by decide +kernel
theorem dX5_keep_51 : decode cX5_keep 51 = .ok (.iload_n 1, 1) := by decide +kernel
theorem dX5_keep_52 : decode cX5_keep 52 = .ok (.iconst 1, 1) := by decide +kernel
theorem dX5_keep_53 : decode cX5_keep 53 = .ok (.bastore, 1) := by decide +kernel
theorem dX5_keep_54 : decode cX5_keep 54 = .ok (.aload_n 0, 1) := by decide +kernel
theorem dX5_keep_55 : decode cX5_keep 55 = .ok (.getfield 25, 3) := by decide +kernel
theorem dX5_keep_58 : decode cX5_keep 58 = .ok (.iconst 0, 1) := by decide +kernel
theorem dX5_keep_59 : decode cX5_keep 59 = .ok (.iaload, 1) := by decide +kernel
theorem dX5_keep_60 : decode cX5_keep 60 = .ok (.ireturn, 1) := by decide +kernel
set_option maxRecDepth 20000 in
theorem ggX5_back_X5_in : GoodIn wsX5_back wsX5_in := goodIn_r _ [9] (by decide +kernel) (by decide +kernel)
set_option maxRecDepth 20000 in
theorem gX5_back_X5_in : GoodIn wsX5_back (va_wsS RX5 51 yX5_in wsX5_in) := goodIn_app (goodIn_of _ (by decide +kernel)) ggX5_back_X5_in
theorem dX5_back_0 : decode cX5_back 0 = .ok (.aload_n 0, 1) := by decide +kernel
theorem dX5_back_1 : decode cX5_back 1 = .ok (.iconst 0, 1) := by decide +kernel
theorem dX5_back_2 : decode cX5_back 2 = .ok (.putfield 47, 3) := by decide +kernel
theorem dX5_back_5 : decode cX5_back 5 = .ok (.iload_n 1, 1) := by decide +kernel
theorem dX5_back_6 : decode cX5_back 6 = .ok (.iconst 0, 1) := by decide +kernel
theorem dX5_back_7 : decode cX5_back 7 = .ok (.iconst 1, 1) := by decide +kernel
theorem dX5_back_8 : decode cX5_back 8 = .ok (.invokestatic 51, 3) := by decide +kernel
theorem dX5_back_11 : decode cX5_back 11 = .ok (.ifCond .ne 5, 3) := by decide +kernel
theorem dX5_back_14 : decode cX5_back 14 = .ok (.iconst (-1), 1) := by decide +kernel
theorem dX5_back_15 : decode cX5_back 15 = .ok (.ireturn, 1) := by decide +kernel
theorem dX5_back_16 : decode cX5_back 16 = .ok (.aload_n 0, 1) := by decide +kernel
theorem dX5_back_17 : decode cX5_back 17 = .ok (.getfield 31, 3) := by decide +kernel
theorem dX5_back_20 : decode cX5_back 20 = .ok (.iload_n 1, 1) := by decide +kernel
theorem dX5_back_21 : decode cX5_back 21 = .ok (.baload, 1) := by decide +kernel
theorem dX5_back_22 : decode cX5_back 22 = .ok (.ifCond .ne 6, 3) := by decide +kernel
theorem dX5_back_25 : decode cX5_back 25 = .ok (.bipush (-2), 2) := by decide +kernel
theorem dX5_back_27 : decode cX5_back 27 = .ok (.ireturn, 1) := by decide +kernel
theorem dX5_back_28 : decode cX5_back 28 = .ok (.iconst 0, 1) := by decide +kernel
theorem dX5_back_29 : decode cX5_back 29 = .ok (.istore_n 2, 1) := by decide +kernel
theorem dX5_back_30 : decode cX5_back 30 = .ok (.iload_n 2, 1) := by decide +kernel
theorem dX5_back_31 : decode cX5_back 31 = .ok (.bipush 45, 2) := by decide +kernel
theorem dX5_back_33 : decode cX5_back 33 = .ok (.if_icmp .ge 26, 3) := by decide +kernel
theorem dX5_back_36 : decode cX5_back 36 = .ok (.aload_n 0, 1) := by decide +kernel
theorem dX5_back_37 : decode cX5_back 37 = .ok (.getfield 25, 3) := by decide +kernel
theorem dX5_back_40 : decode cX5_back 40 = .ok (.iload_n 2, 1) := by decide +kernel
theorem dX5_back_41 : decode cX5_back 41 = .ok (.aload_n 0, 1) := by decide +kernel
theorem dX5_back_42 : decode cX5_back 42 = .ok (.getfield 28, 3) := by decide +kernel
theorem dX5_back_45 : decode cX5_back 45 = .ok (.bipush 45, 2) := by decide +kernel
theorem dX5_back_47 : decode cX5_back 47 = .ok (.iload_n 1, 1) := by decide +kernel
theorem dX5_back_48 : decode cX5_back 48 = .ok (.imul, 1) := by decide +kernel
theorem dX5_back_49 : decode cX5_back 49 = .ok (.iload_n 2, 1) := by decide +kernel
theorem dX5_back_50 : decode cX5_back 50 = .ok (.iadd, 1) := by decide +kernel
theorem dX5_back_51 : decode cX5_back 51 = .ok (.iaload, 1) := by decide +kernel
theorem dX5_back_52 : decode cX5_back 52 = .ok (.iastore, 1) := by decide +kernel
theorem dX5_back_53 : decode cX5_back 53 = .ok (.iinc 2 1, 3) := by decide +kernel
theorem dX5_back_56 : decode cX5_back 56 = .ok (.goto (-26), 3) := by decide +kernel
theorem dX5_back_59 : decode cX5_back 59 = .ok (.aload_n 0, 1) := by decide +kernel
theorem dX5_back_60 : decode cX5_back 60 = .ok (.iconst 0, 1) := by decide +kernel
theorem dX5_back_61 : decode cX5_back 61 = .ok (.putfield 113, 3) := by decide +kernel
theorem dX5_back_64 : decode cX5_back 64 = .ok (.aload_n 0, 1) := by decide +kernel
theorem dX5_back_65 : decode cX5_back 65 = .ok (.getfield 25, 3) := by decide +kernel
theorem dX5_back_68 : decode cX5_back 68 = .ok (.iconst 0, 1) := by decide +kernel
theorem dX5_back_69 : decode cX5_back 69 = .ok (.iaload, 1) := by decide +kernel
theorem dX5_back_70 : decode cX5_back 70 = .ok (.ireturn, 1) := by decide +kernel
set_option maxRecDepth 20000 in
theorem ggX5_count_X5_in : GoodIn wsX5_count wsX5_in := goodIn_r _ [7] (by decide +kernel) (by decide +kernel)
set_option maxRecDepth 20000 in
theorem gX5_count_X5_in : GoodIn wsX5_count (va_wsS RX5 51 yX5_in wsX5_in) := goodIn_app (goodIn_of _ (by decide +kernel)) ggX5_count_X5_in
theorem dX5_count_0 : decode cX5_count 0 = .ok (.aload_n 0, 1) := by decide +kernel
theorem dX5_count_1 : decode cX5_count 1 = .ok (.iconst 0, 1) := by decide +kernel
theorem dX5_count_2 : decode cX5_count 2 = .ok (.putfield 47, 3) := by decide +kernel
theorem dX5_count_5 : decode cX5_count 5 = .ok (.iload_n 1, 1) := by decide +kernel
theorem dX5_count_6 : decode cX5_count 6 = .ok (.iconst 0, 1) := by decide +kernel
theorem dX5_count_7 : decode cX5_count 7 = .ok (.iconst 5, 1) := by decide +kernel
theorem dX5_count_8 : decode cX5_count 8 = .ok (.invokestatic 51, 3) := by decide +kernel
theorem dX5_count_11 : decode cX5_count 11 = .ok (.ifCond .eq 12, 3) := by decide +kernel
theorem dX5_count_14 : decode cX5_count 14 = .ok (.aload_n 0, 1) := by decide +kernel
theorem dX5_count_15 : decode cX5_count 15 = .ok (.getfield 13, 3) := by decide +kernel
theorem dX5_count_18 : decode cX5_count 18 = .ok (.iload_n 1, 1) := by decide +kernel
theorem dX5_count_19 : decode cX5_count 19 = .ok (.iaload, 1) := by decide +kernel
theorem dX5_count_20 : decode cX5_count 20 = .ok (.goto 17, 3) := by decide +kernel
theorem dX5_count_23 : decode cX5_count 23 = .ok (.iload_n 1, 1) := by decide +kernel
theorem dX5_count_24 : decode cX5_count 24 = .ok (.bipush 6, 2) := by decide +kernel
theorem dX5_count_26 : decode cX5_count 26 = .ok (.if_icmp .ne 10, 3) := by decide +kernel
theorem dX5_count_29 : decode cX5_count 29 = .ok (.aload_n 0, 1) := by decide +kernel
theorem dX5_count_30 : decode cX5_count 30 = .ok (.getfield 55, 3) := by decide +kernel
theorem dX5_count_33 : decode cX5_count 33 = .ok (.goto 4, 3) := by decide +kernel
theorem dX5_count_36 : decode cX5_count 36 = .ok (.iconst (-1), 1) := by decide +kernel
theorem dX5_count_37 : decode cX5_count 37 = .ok (.ireturn, 1) := by decide +kernel
theorem dX5_trace_0 : decode cX5_trace 0 = .ok (.aload_n 0, 1) := by decide +kernel
theorem dX5_trace_1 : decode cX5_trace 1 = .ok (.iconst 0, 1) := by decide +kernel
theorem dX5_trace_2 : decode cX5_trace 2 = .ok (.putfield 47, 3) := by decide +kernel
theorem dX5_trace_5 : decode cX5_trace 5 = .ok (.aload_n 0, 1) := by decide +kernel
theorem dX5_trace_6 : decode cX5_trace 6 = .ok (.getfield 178, 3) := by decide +kernel
theorem dX5_trace_9 : decode cX5_trace 9 = .ok (.lreturn, 1) := by decide +kernel
theorem dJ6_bitCount_0f7a4_0 : decode cJ6_bitCount_0f7a4 0 = .ok (.iload_n 0, 1) := by decide +kernel
theorem dJ6_bitCount_0f7a4_1 : decode cJ6_bitCount_0f7a4 1 = .ok (.iload_n 0, 1) := by decide +kernel
theorem dJ6_bitCount_0f7a4_2 : decode cJ6_bitCount_0f7a4 2 = .ok (.iconst 1, 1) := by decide +kernel
theorem dJ6_bitCount_0f7a4_3 : decode cJ6_bitCount_0f7a4 3 = .ok (.iushr, 1) := by decide +kernel
theorem dJ6_bitCount_0f7a4_4 : decode cJ6_bitCount_0f7a4 4 = .ok (.ldc_w 265, 3) := by decide +kernel
theorem dJ6_bitCount_0f7a4_7 : decode cJ6_bitCount_0f7a4 7 = .ok (.iand, 1) := by decide +kernel
theorem dJ6_bitCount_0f7a4_8 : decode cJ6_bitCount_0f7a4 8 = .ok (.isub, 1) := by decide +kernel
theorem dJ6_bitCount_0f7a4_9 : decode cJ6_bitCount_0f7a4 9 = .ok (.istore_n 0, 1) := by decide +kernel
theorem dJ6_bitCount_0f7a4_10 : decode cJ6_bitCount_0f7a4 10 = .ok (.iload_n 0, 1) := by decide +kernel
theorem dJ6_bitCount_0f7a4_11 : decode cJ6_bitCount_0f7a4 11 = .ok (.ldc_w 266, 3) := by decide +kernel
theorem dJ6_bitCount_0f7a4_14 : decode cJ6_bitCount_0f7a4 14 = .ok (.iand, 1) := by decide +kernel
theorem dJ6_bitCount_0f7a4_15 : decode cJ6_bitCount_0f7a4 15 = .ok (.iload_n 0, 1) := by decide +kernel
theorem dJ6_bitCount_0f7a4_16 : decode cJ6_bitCount_0f7a4 16 = .ok (.iconst 2, 1) := by decide +kernel
theorem dJ6_bitCount_0f7a4_17 : decode cJ6_bitCount_0f7a4 17 = .ok (.iushr, 1) := by decide +kernel
theorem dJ6_bitCount_0f7a4_18 : decode cJ6_bitCount_0f7a4 18 = .ok (.ldc_w 266, 3) := by decide +kernel
theorem dJ6_bitCount_0f7a4_21 : decode cJ6_bitCount_0f7a4 21 = .ok (.iand, 1) := by decide +kernel
theorem dJ6_bitCount_0f7a4_22 : decode cJ6_bitCount_0f7a4 22 = .ok (.iadd, 1) := by decide +kernel
theorem dJ6_bitCount_0f7a4_23 : decode cJ6_bitCount_0f7a4 23 = .ok (.istore_n 0, 1) := by decide +kernel
theorem dJ6_bitCount_0f7a4_24 : decode cJ6_bitCount_0f7a4 24 = .ok (.iload_n 0, 1) := by decide +kernel
theorem dJ6_bitCount_0f7a4_25 : decode cJ6_bitCount_0f7a4 25 = .ok (.iload_n 0, 1) := by decide +kernel
theorem dJ6_bitCount_0f7a4_26 : decode cJ6_bitCount_0f7a4 26 = .ok (.iconst 4, 1) := by decide +kernel
theorem dJ6_bitCount_0f7a4_27 : decode cJ6_bitCount_0f7a4 27 = .ok (.iushr, 1) := by decide +kernel
theorem dJ6_bitCount_0f7a4_28 : decode cJ6_bitCount_0f7a4 28 = .ok (.iadd, 1) := by decide +kernel
theorem dJ6_bitCount_0f7a4_29 : decode cJ6_bitCount_0f7a4 29 = .ok (.ldc_w 267, 3) := by decide +kernel
theorem dJ6_bitCount_0f7a4_32 : decode cJ6_bitCount_0f7a4 32 = .ok (.iand, 1) := by decide +kernel
theorem dJ6_bitCount_0f7a4_33 : decode cJ6_bitCount_0f7a4 33 = .ok (.istore_n 0, 1) := by decide +kernel
theorem dJ6_bitCount_0f7a4_34 : decode cJ6_bitCount_0f7a4 34 = .ok (.iload_n 0, 1) := by decide +kernel
theorem dJ6_bitCount_0f7a4_35 : decode cJ6_bitCount_0f7a4 35 = .ok (.iload_n 0, 1) := by decide +kernel
theorem dJ6_bitCount_0f7a4_36 : decode cJ6_bitCount_0f7a4 36 = .ok (.bipush 8, 2) := by decide +kernel
theorem dJ6_bitCount_0f7a4_38 : decode cJ6_bitCount_0f7a4 38 = .ok (.iushr, 1) := by decide +kernel
theorem dJ6_bitCount_0f7a4_39 : decode cJ6_bitCount_0f7a4 39 = .ok (.iadd, 1) := by decide +kernel
theorem dJ6_bitCount_0f7a4_40 : decode cJ6_bitCount_0f7a4 40 = .ok (.istore_n 0, 1) := by decide +kernel
theorem dJ6_bitCount_0f7a4_41 : decode cJ6_bitCount_0f7a4 41 = .ok (.iload_n 0, 1) := by decide +kernel
theorem dJ6_bitCount_0f7a4_42 : decode cJ6_bitCount_0f7a4 42 = .ok (.iload_n 0, 1) := by decide +kernel
theorem dJ6_bitCount_0f7a4_43 : decode cJ6_bitCount_0f7a4 43 = .ok (.bipush 16, 2) := by decide +kernel
theorem dJ6_bitCount_0f7a4_45 : decode cJ6_bitCount_0f7a4 45 = .ok (.iushr, 1) := by decide +kernel
theorem dJ6_bitCount_0f7a4_46 : decode cJ6_bitCount_0f7a4 46 = .ok (.iadd, 1) := by decide +kernel
theorem dJ6_bitCount_0f7a4_47 : decode cJ6_bitCount_0f7a4 47 = .ok (.istore_n 0, 1) := by decide +kernel
theorem dJ6_bitCount_0f7a4_48 : decode cJ6_bitCount_0f7a4 48 = .ok (.iload_n 0, 1) := by decide +kernel
theorem dJ6_bitCount_0f7a4_49 : decode cJ6_bitCount_0f7a4 49 = .ok (.bipush 63, 2) := by decide +kernel
theorem dJ6_bitCount_0f7a4_51 : decode cJ6_bitCount_0f7a4 51 = .ok (.iand, 1) := by decide +kernel
theorem dJ6_bitCount_0f7a4_52 : decode cJ6_bitCount_0f7a4 52 = .ok (.ireturn, 1) := by decide +kernel
theorem dJ9_floorMod_7cf53_0 : decode cJ9_floorMod_7cf53 0 = .ok (.iload_n 0, 1) := by decide +kernel
theorem dJ9_floorMod_7cf53_1 : decode cJ9_floorMod_7cf53 1 = .ok (.iload_n 1, 1) := by decide +kernel
theorem dJ9_floorMod_7cf53_2 : decode cJ9_floorMod_7cf53 2 = .ok (.irem, 1) := by decide +kernel
theorem dJ9_floorMod_7cf53_3 : decode cJ9_floorMod_7cf53 3 = .ok (.istore_n 2, 1) := by decide +kernel
theorem dJ9_floorMod_7cf53_4 : decode cJ9_floorMod_7cf53 4 = .ok (.iload_n 0, 1) := by decide +kernel
theorem dJ9_floorMod_7cf53_5 : decode cJ9_floorMod_7cf53 5 = .ok (.iload_n 1, 1) := by decide +kernel
theorem dJ9_floorMod_7cf53_6 : decode cJ9_floorMod_7cf53 6 = .ok (.ixor, 1) := by decide +kernel
theorem dJ9_floorMod_7cf53_7 : decode cJ9_floorMod_7cf53 7 = .ok (.ifCond .ge 11, 3) := by decide +kernel
theorem dJ9_floorMod_7cf53_10 : decode cJ9_floorMod_7cf53 10 = .ok (.iload_n 2, 1) := by decide +kernel
theorem dJ9_floorMod_7cf53_11 : decode cJ9_floorMod_7cf53 11 = .ok (.ifCond .eq 7, 3) := by decide +kernel
theorem dJ9_floorMod_7cf53_14 : decode cJ9_floorMod_7cf53 14 = .ok (.iload_n 2, 1) := by decide +kernel
theorem dJ9_floorMod_7cf53_15 : decode cJ9_floorMod_7cf53 15 = .ok (.iload_n 1, 1) := by decide +kernel
theorem dJ9_floorMod_7cf53_16 : decode cJ9_floorMod_7cf53 16 = .ok (.iadd, 1) := by decide +kernel
theorem dJ9_floorMod_7cf53_17 : decode cJ9_floorMod_7cf53 17 = .ok (.ireturn, 1) := by decide +kernel
theorem dJ9_floorMod_7cf53_18 : decode cJ9_floorMod_7cf53 18 = .ok (.iload_n 2, 1) := by decide +kernel
theorem dJ9_floorMod_7cf53_19 : decode cJ9_floorMod_7cf53 19 = .ok (.ireturn, 1) := by decide +kernel
theorem dJ9_max_7cf53_0 : decode cJ9_max_7cf53 0 = .ok (.iload_n 0, 1) := by decide +kernel
theorem dJ9_max_7cf53_1 : decode cJ9_max_7cf53 1 = .ok (.iload_n 1, 1) := by decide +kernel
theorem dJ9_max_7cf53_2 : decode cJ9_max_7cf53 2 = .ok (.if_icmp .lt 7, 3) := by decide +kernel
theorem dJ9_max_7cf53_5 : decode cJ9_max_7cf53 5 = .ok (.iload_n 0, 1) := by decide +kernel
theorem dJ9_max_7cf53_6 : decode cJ9_max_7cf53 6 = .ok (.goto 4, 3) := by decide +kernel
theorem dJ9_max_7cf53_9 : decode cJ9_max_7cf53 9 = .ok (.iload_n 1, 1) := by decide +kernel
theorem dJ9_max_7cf53_10 : decode cJ9_max_7cf53 10 = .ok (.ireturn, 1) := by decide +kernel
theorem dJ9_min_7cf53_0 : decode cJ9_min_7cf53 0 = .ok (.iload_n 0, 1) := by decide +kernel
theorem dJ9_min_7cf53_1 : decode cJ9_min_7cf53 1 = .ok (.iload_n 1, 1) := by decide +kernel
theorem dJ9_min_7cf53_2 : decode cJ9_min_7cf53 2 = .ok (.if_icmp .gt 7, 3) := by decide +kernel
theorem dJ9_min_7cf53_5 : decode cJ9_min_7cf53 5 = .ok (.iload_n 0, 1) := by decide +kernel
theorem dJ9_min_7cf53_6 : decode cJ9_min_7cf53 6 = .ok (.goto 4, 3) := by decide +kernel
theorem dJ9_min_7cf53_9 : decode cJ9_min_7cf53 9 = .ok (.iload_n 1, 1) := by decide +kernel
theorem dJ9_min_7cf53_10 : decode cJ9_min_7cf53 10 = .ok (.ireturn, 1) := by decide +kernel
set_option maxRecDepth 20000 in
theorem ggL_law_X4_init : GoodIn wsL_law wsX4_init := goodIn_r _ [8, 9, 10, 11, 12, 13, 14, 15, 16, 17, 18, 19, 20, 21, 22, 23, 24, 25, 26, 27, 28, 29, 30, 31, 32, 33, 34, 35, 36, 37, 38, 39, 40, 41, 42, 43, 44, 45, 46, 47, 48, 49, 50, 51, 52, 53, 54, 55, 56, 57, 58, 59, 60, 61, 62, 63, 64, 65, 66, 67, 68, 69, 70, 71, 72, 73, 74, 75, 76, 77, 78, 79, 80, 81, 82, 83, 84, 85, 86, 87, 88, 89, 90, 780, 781, 782, 783, 784, 785, 786, 787, 746, 747, 748, 749, 750, 751, 752, 753, 754, 755, 756, 757, 788, 789, 790, 791, 792, 793, 794, 795, 796, 797, 798, 799, 800, 801, 802, 803, 804, 805, 806, 807, 808, 809, 810] (by decide +kernel) (by decide +kernel)
set_option maxRecDepth 20000 in
theorem gL_law_X4_init : GoodIn wsL_law (wsX4_init) := ggL_law_X4_init
set_option maxRecDepth 20000 in
theorem ggL_law_X5_init : GoodIn wsL_law wsX5_init := goodIn_r _ [93, 94, 10, 11, 37, 95, 96, 97, 98, 99, 100, 101, 27, 102, 103, 104, 105, 106, 758, 759, 760, 761, 762, 763, 764, 765, 766, 767, 768, 769, 770, 771, 772, 773, 774, 775, 776, 777, 778, 779] (by decide +kernel) (by decide +kernel)
set_option maxRecDepth 20000 in
theorem gL_law_X5_init : GoodIn wsL_law (wsX5_init) := ggL_law_X5_init
set_option maxRecDepth 20000 in
theorem ggL_law_X4_type : GoodIn wsL_law wsX4_type := goodIn_r _ [110, 15, 111, 112, 113, 2, 114, 115, 116, 117, 14, 118, 119, 38, 746, 747, 748, 749, 750, 751, 752, 753, 754, 755, 756, 757, 780, 781, 782, 783, 784, 785, 786, 787] (by decide +kernel) (by decide +kernel)
set_option maxRecDepth 20000 in
theorem gL_law_X4_type : GoodIn wsL_law (wsV RL 13 RX4 yX4_type wsX4_type) := goodIn_app (goodIn_of _ (by decide +kernel)) ggL_law_X4_type
set_option maxRecDepth 20000 in
theorem ggL_law_X5_type : GoodIn wsL_law wsX5_type := goodIn_r _ [123, 124, 125, 95, 126, 127, 5, 128, 758, 759, 760, 761, 762, 763, 764, 765, 766, 767, 768, 769, 770, 771, 772, 773, 774, 775, 776, 777, 778, 779] (by decide +kernel) (by decide +kernel)
set_option maxRecDepth 20000 in
theorem gL_law_X5_type : GoodIn wsL_law (wsV RL 17 RX5 yX5_type wsX5_type) := goodIn_app (goodIn_of _ (by decide +kernel)) ggL_law_X5_type
set_option maxRecDepth 20000 in
theorem ggL_law_X4_clear : GoodIn wsL_law wsX4_clear := goodIn_r _ [132, 15, 111, 746, 747, 748, 749, 750, 751, 752, 753, 754, 755, 756, 757, 780, 781, 782, 783, 784, 785, 786, 787] (by decide +kernel) (by decide +kernel)
set_option maxRecDepth 20000 in
theorem gL_law_X4_clear : GoodIn wsL_law (wsV RL 18 RX4 yX4_clear wsX4_clear) := goodIn_app (goodIn_of _ (by decide +kernel)) ggL_law_X4_clear
set_option maxRecDepth 20000 in
theorem ggL_law_X5_clear : GoodIn wsL_law wsX5_clear := goodIn_r _ [136, 124, 125, 758, 759, 760, 761, 762, 763, 764, 765, 766, 767, 768, 769, 770, 771, 772, 773, 774, 775, 776, 777, 778, 779] (by decide +kernel) (by decide +kernel)
set_option maxRecDepth 20000 in
theorem gL_law_X5_clear : GoodIn wsL_law (wsV RL 22 RX5 yX5_clear wsX5_clear) := goodIn_app (goodIn_of _ (by decide +kernel)) ggL_law_X5_clear
set_option maxRecDepth 20000 in
theorem ggL_law_X4_sea : GoodIn wsL_law wsX4_sea := goodIn_r _ [140, 15, 20, 19, 111, 24, 141, 28, 142, 143, 144, 14, 145, 146, 147, 148, 149, 150, 151, 48, 49, 18, 50, 51, 52, 53, 54, 55, 56, 44, 152, 153, 154, 155, 119, 38, 156, 157, 66, 67, 68, 158, 159, 160, 161, 162, 163, 164, 165, 166, 167, 168, 169, 170, 171, 172, 173, 174, 175, 176, 177, 178, 179, 113, 2, 114, 180, 181, 182, 183, 184, 185, 186, 187, 188, 62, 63, 64, 65, 189, 78, 79, 80, 190, 191, 192, 193, 43, 194, 195, 196, 197, 198, 199, 200, 201, 202, 203, 204, 205, 206, 207, 208, 209, 210, 45, 211, 212, 213, 214, 215, 216, 58, 59, 60, 61, 69, 70, 71, 72, 46, 73, 74, 75, 76, 77, 217, 218, 219, 23, 220, 221, 222, 223, 224, 225, 85, 226, 746, 747, 748, 749, 750, 751, 752, 753, 754, 755, 756, 757, 780, 781, 782, 783, 784, 785, 786, 787, 788, 789, 790, 791, 792, 793, 794, 795, 796, 797, 798, 799, 800, 801, 802, 803] (by decide +kernel) (by decide +kernel)
set_option maxRecDepth 20000 in
theorem gL_law_X4_sea : GoodIn wsL_law (wsV RL 23 RX4 yX4_sea wsX4_sea) := goodIn_app (goodIn_of _ (by decide +kernel)) ggL_law_X4_sea
set_option maxRecDepth 20000 in
theorem ggL_law_X5_sea : GoodIn wsL_law wsX5_sea := goodIn_r _ [230, 124, 231, 232, 96, 233, 234, 235, 236, 237, 5, 238, 239, 240, 241, 242, 243, 244, 125, 95, 126, 127, 128, 245, 246, 247, 248, 249, 250, 251, 252, 253, 254, 255, 256, 257, 258, 259, 260, 97, 98, 261, 262, 263, 264, 265, 266, 267, 268, 269, 270, 271, 272, 99, 273, 274, 275, 276, 100, 277, 102, 758, 759, 760, 761, 762, 763, 764, 765, 766, 767, 768, 769, 770, 771, 772, 773, 774, 775, 776, 777, 778, 779] (by decide +kernel) (by decide +kernel)
set_option maxRecDepth 20000 in
theorem gL_law_X5_sea : GoodIn wsL_law (wsV RL 26 RX5 yX5_sea wsX5_sea) := goodIn_app (goodIn_of _ (by decide +kernel)) ggL_law_X5_sea
set_option maxRecDepth 20000 in
theorem ggL_law_X4_isle : GoodIn wsL_law wsX4_isle := goodIn_r _ [281, 19, 282, 24, 283, 284, 285, 286, 2, 287, 288, 112, 113, 114, 289, 290, 291, 746, 747, 748, 749, 750, 751, 752, 753, 754, 755, 756, 757, 788, 789, 790, 791, 792, 793, 794, 795, 796, 797, 798, 799, 800, 801, 802, 803] (by decide +kernel) (by decide +kernel)
set_option maxRecDepth 20000 in
theorem gL_law_X4_isle : GoodIn wsL_law (wsV RL 27 RX4 yX4_isle wsX4_isle) := goodIn_app (goodIn_of _ (by decide +kernel)) ggL_law_X4_isle
set_option maxRecDepth 20000 in
theorem ggL_law_X5_isle : GoodIn wsL_law wsX5_isle := goodIn_r _ [295, 124, 97, 100, 296, 297, 298, 5, 299, 96, 126, 127, 128, 758, 759, 760, 761, 762, 763, 764, 765, 766, 767, 768, 769, 770, 771, 772, 773, 774, 775, 776, 777, 778, 779] (by decide +kernel) (by decide +kernel)
set_option maxRecDepth 20000 in
theorem gL_law_X5_isle : GoodIn wsL_law (wsV RL 31 RX5 yX5_isle wsX5_isle) := goodIn_app (goodIn_of _ (by decide +kernel)) ggL_law_X5_isle
set_option maxRecDepth 20000 in
theorem ggL_law_X4_cell : GoodIn wsL_law wsX4_cell := goodIn_r _ [303, 19, 304, 305, 62, 63, 18, 64, 51, 52, 65, 66, 67, 68, 112, 113, 2, 114, 746, 747, 748, 749, 750, 751, 752, 753, 754, 755, 756, 757, 788, 789, 790, 791, 792, 793, 794, 795, 796, 797] (by decide +kernel) (by decide +kernel)
set_option maxRecDepth 20000 in
theorem gL_law_X4_cell : GoodIn wsL_law (wsV RL 32 RX4 yX4_cell wsX4_cell) := goodIn_app (goodIn_of _ (by decide +kernel)) ggL_law_X4_cell
set_option maxRecDepth 20000 in
theorem ggL_law_X5_cell : GoodIn wsL_law wsX5_cell := goodIn_r _ [309, 124, 96, 126, 127, 5, 128, 310, 311, 312, 313, 98, 314, 315, 316, 317, 97, 758, 759, 760, 761, 762, 763, 764, 765, 766, 767, 768, 769, 770, 771, 772, 773, 774, 775, 776, 777, 778, 779] (by decide +kernel) (by decide +kernel)
set_option maxRecDepth 20000 in
theorem gL_law_X5_cell : GoodIn wsL_law (wsV RL 35 RX5 yX5_cell wsX5_cell) := goodIn_app (goodIn_of _ (by decide +kernel)) ggL_law_X5_cell
set_option maxRecDepth 20000 in
theorem ggL_law_X4_wind : GoodIn wsL_law wsX4_wind := goodIn_r _ [321, 24, 322, 112, 113, 2, 114, 323, 324, 325, 23, 326, 225, 85, 327, 328, 329, 330, 746, 747, 748, 749, 750, 751, 752, 753, 754, 755, 756, 757, 798, 799, 800, 801, 802, 803] (by decide +kernel) (by decide +kernel)
set_option maxRecDepth 20000 in
theorem gL_law_X4_wind : GoodIn wsL_law (wsV RL 36 RX4 yX4_wind wsX4_wind) := goodIn_app (goodIn_of _ (by decide +kernel)) ggL_law_X4_wind
set_option maxRecDepth 20000 in
theorem ggL_law_X5_wind : GoodIn wsL_law wsX5_wind := goodIn_r _ [334, 124, 100, 126, 127, 5, 128, 335, 336, 337, 338, 96, 758, 759, 760, 761, 762, 763, 764, 765, 766, 767, 768, 769, 770, 771, 772, 773, 774, 775, 776, 777, 778, 779] (by decide +kernel) (by decide +kernel)
set_option maxRecDepth 20000 in
theorem gL_law_X5_wind : GoodIn wsL_law (wsV RL 39 RX5 yX5_wind wsX5_wind) := goodIn_app (goodIn_of _ (by decide +kernel)) ggL_law_X5_wind
set_option maxRecDepth 20000 in
theorem ggL_law_X4_letter : GoodIn wsL_law wsX4_letter := goodIn_r _ [342, 24, 343, 344, 345, 346, 347, 348, 349, 350, 351, 352, 2, 353, 354, 112, 113, 114, 746, 747, 748, 749, 750, 751, 752, 753, 754, 755, 756, 757, 798, 799, 800, 801, 802, 803, 804, 805, 806, 807, 808, 809, 810] (by decide +kernel) (by decide +kernel)
set_option maxRecDepth 20000 in
theorem gL_law_X4_letter : GoodIn wsL_law (wsV RL 40 RX4 yX4_letter wsX4_letter) := goodIn_app (goodIn_of _ (by decide +kernel)) ggL_law_X4_letter
set_option maxRecDepth 20000 in
theorem ggL_law_X5_letter : GoodIn wsL_law wsX5_letter := goodIn_r _ [358, 124, 100, 359, 360, 361, 5, 362, 126, 127, 128, 758, 759, 760, 761, 762, 763, 764, 765, 766, 767, 768, 769, 770, 771, 772, 773, 774, 775, 776, 777, 778, 779] (by decide +kernel) (by decide +kernel)
set_option maxRecDepth 20000 in
theorem gL_law_X5_letter : GoodIn wsL_law (wsV RL 43 RX5 yX5_letter wsX5_letter) := goodIn_app (goodIn_of _ (by decide +kernel)) ggL_law_X5_letter
set_option maxRecDepth 20000 in
theorem ggL_law_X4_now : GoodIn wsL_law wsX4_now := goodIn_r _ [366, 24, 322, 354, 283, 141, 367, 368, 369, 23, 370, 222, 87, 371, 746, 747, 748, 749, 750, 751, 752, 753, 754, 755, 756, 757, 798, 799, 800, 801, 802, 803, 804, 805, 806, 807, 808, 809, 810] (by decide +kernel) (by decide +kernel)
set_option maxRecDepth 20000 in
theorem gL_law_X4_now : GoodIn wsL_law (wsV RL 44 RX4 yX4_now wsX4_now) := goodIn_app (goodIn_of _ (by decide +kernel)) ggL_law_X4_now
set_option maxRecDepth 20000 in
theorem ggL_law_X5_now : GoodIn wsL_law wsX5_now := goodIn_r _ [375, 124, 100, 277, 126, 127, 5, 128, 758, 759, 760, 761, 762, 763, 764, 765, 766, 767, 768, 769, 770, 771, 772, 773, 774, 775, 776, 777, 778, 779] (by decide +kernel) (by decide +kernel)
set_option maxRecDepth 20000 in
theorem gL_law_X5_now : GoodIn wsL_law (wsV RL 47 RX5 yX5_now wsX5_now) := goodIn_app (goodIn_of _ (by decide +kernel)) ggL_law_X5_now
set_option maxRecDepth 20000 in
theorem ggL_law_X4_lets : GoodIn wsL_law wsX4_lets := goodIn_r _ [379, 24, 354, 343, 19, 380, 381, 382, 2, 383, 284, 285, 286, 287, 288, 112, 113, 114, 384, 385, 386, 387, 388, 389, 390, 25, 391, 141, 392, 66, 67, 68, 393, 394, 395, 23, 396, 221, 222, 223, 225, 85, 87, 397, 398, 399, 31, 400, 401, 402, 403, 404, 405, 406, 407, 408, 409, 410, 411, 412, 413, 414, 415, 18, 416, 43, 746, 747, 748, 749, 750, 751, 752, 753, 754, 755, 756, 757, 798, 799, 800, 801, 802, 803, 788, 789, 790, 791, 792, 793, 794, 795, 796, 797, 804, 805, 806, 807, 808, 809, 810] (by decide +kernel) (by decide +kernel)
set_option maxRecDepth 20000 in
theorem gL_law_X4_lets : GoodIn wsL_law (wsV RL 48 RX4 yX4_lets wsX4_lets) := goodIn_app (goodIn_of _ (by decide +kernel)) ggL_law_X4_lets
set_option maxRecDepth 20000 in
theorem ggL_law_X5_lets : GoodIn wsL_law wsX5_lets := goodIn_r _ [420, 124, 100, 421, 422, 423, 5, 424, 296, 297, 298, 299, 96, 126, 127, 128, 425, 426, 427, 428, 277, 103, 429, 430, 431, 432, 97, 758, 759, 760, 761, 762, 763, 764, 765, 766, 767, 768, 769, 770, 771, 772, 773, 774, 775, 776, 777, 778, 779] (by decide +kernel) (by decide +kernel)
set_option maxRecDepth 20000 in
theorem gL_law_X5_lets : GoodIn wsL_law (wsV RL 52 RX5 yX5_lets wsX5_lets) := goodIn_app (goodIn_of _ (by decide +kernel)) ggL_law_X5_lets
set_option maxRecDepth 20000 in
theorem ggL_law_X4_hour : GoodIn wsL_law wsX4_hour := goodIn_r _ [436, 24, 322, 354, 343, 349, 19, 283, 387, 388, 389, 2, 390, 25, 391, 141, 392, 66, 67, 68, 393, 394, 395, 23, 396, 221, 222, 223, 225, 85, 87, 397, 398, 399, 31, 400, 401, 402, 403, 404, 405, 406, 407, 323, 324, 325, 326, 327, 328, 329, 330, 437, 438, 439, 440, 441, 442, 443, 18, 444, 46, 445, 78, 79, 80, 44, 290, 291, 746, 747, 748, 749, 750, 751, 752, 753, 754, 755, 756, 757, 798, 799, 800, 801, 802, 803, 804, 805, 806, 807, 808, 809, 810, 788, 789, 790, 791, 792, 793, 794, 795, 796, 797] (by decide +kernel) (by decide +kernel)
set_option maxRecDepth 20000 in
theorem gL_law_X4_hour : GoodIn wsL_law (wsV RL 53 RX4 yX4_hour wsX4_hour) := goodIn_app (goodIn_of _ (by decide +kernel)) ggL_law_X4_hour
set_option maxRecDepth 20000 in
theorem ggL_law_X5_hour : GoodIn wsL_law wsX5_hour := goodIn_r _ [449, 124, 100, 425, 426, 427, 5, 428, 277, 103, 335, 336, 337, 338, 96, 450, 451, 452, 453, 454, 455, 456, 457, 310, 311, 312, 313, 98, 314, 315, 316, 317, 97, 758, 759, 760, 761, 762, 763, 764, 765, 766, 767, 768, 769, 770, 771, 772, 773, 774, 775, 776, 777, 778, 779] (by decide +kernel) (by decide +kernel)
set_option maxRecDepth 20000 in
theorem gL_law_X5_hour : GoodIn wsL_law (wsV RL 56 RX5 yX5_hour wsX5_hour) := goodIn_app (goodIn_of _ (by decide +kernel)) ggL_law_X5_hour
set_option maxRecDepth 20000 in
theorem ggL_law_X4_net : GoodIn wsL_law wsX4_net := goodIn_r _ [461, 24, 283, 284, 285, 286, 2, 287, 19, 288, 112, 113, 114, 387, 388, 389, 390, 25, 391, 141, 392, 66, 67, 68, 393, 394, 395, 23, 396, 221, 222, 223, 225, 85, 87, 397, 398, 399, 31, 400, 401, 402, 403, 404, 405, 406, 407, 289, 290, 291, 746, 747, 748, 749, 750, 751, 752, 753, 754, 755, 756, 757, 798, 799, 800, 801, 802, 803, 788, 789, 790, 791, 792, 793, 794, 795, 796, 797, 804, 805, 806, 807, 808, 809, 810] (by decide +kernel) (by decide +kernel)
set_option maxRecDepth 20000 in
theorem gL_law_X4_net : GoodIn wsL_law (wsV RL 57 RX4 yX4_net wsX4_net) := goodIn_app (goodIn_of _ (by decide +kernel)) ggL_law_X4_net
set_option maxRecDepth 20000 in
theorem ggL_law_X5_net : GoodIn wsL_law wsX5_net := goodIn_r _ [465, 124, 100, 296, 297, 298, 5, 299, 96, 126, 127, 128, 425, 426, 427, 428, 277, 103, 758, 759, 760, 761, 762, 763, 764, 765, 766, 767, 768, 769, 770, 771, 772, 773, 774, 775, 776, 777, 778, 779] (by decide +kernel) (by decide +kernel)
set_option maxRecDepth 20000 in
theorem gL_law_X5_net : GoodIn wsL_law (wsV RL 60 RX5 yX5_net wsX5_net) := goodIn_app (goodIn_of _ (by decide +kernel)) ggL_law_X5_net
set_option maxRecDepth 20000 in
theorem ggL_law_X4_turn : GoodIn wsL_law wsX4_turn := goodIn_r _ [469, 24, 470, 471, 112, 113, 2, 114, 387, 388, 389, 390, 25, 391, 141, 392, 66, 67, 68, 393, 394, 395, 23, 396, 221, 222, 223, 225, 85, 87, 397, 398, 399, 31, 400, 401, 402, 403, 404, 405, 406, 407, 746, 747, 748, 749, 750, 751, 752, 753, 754, 755, 756, 757, 798, 799, 800, 801, 802, 803, 804, 805, 806, 807, 808, 809, 810] (by decide +kernel) (by decide +kernel)
set_option maxRecDepth 20000 in
theorem gL_law_X4_turn : GoodIn wsL_law (wsV RL 61 RX4 yX4_turn wsX4_turn) := goodIn_app (goodIn_of _ (by decide +kernel)) ggL_law_X4_turn
set_option maxRecDepth 20000 in
theorem ggL_law_X5_turn : GoodIn wsL_law wsX5_turn := goodIn_r _ [475, 124, 96, 100, 126, 127, 5, 128, 425, 426, 427, 428, 277, 103, 758, 759, 760, 761, 762, 763, 764, 765, 766, 767, 768, 769, 770, 771, 772, 773, 774, 775, 776, 777, 778, 779] (by decide +kernel) (by decide +kernel)
set_option maxRecDepth 20000 in
theorem gL_law_X5_turn : GoodIn wsL_law (wsV RL 64 RX5 yX5_turn wsX5_turn) := goodIn_app (goodIn_of _ (by decide +kernel)) ggL_law_X5_turn
set_option maxRecDepth 20000 in
theorem ggL_law_X4_undo : GoodIn wsL_law wsX4_undo := goodIn_r _ [479, 141, 391, 24, 25, 393, 394, 395, 23, 396, 221, 222, 223, 225, 85, 87, 397, 398, 399, 31, 400, 401, 402, 403, 404, 405, 406, 407, 746, 747, 748, 749, 750, 751, 752, 753, 754, 755, 756, 757, 798, 799, 800, 801, 802, 803, 804, 805, 806, 807, 808, 809, 810] (by decide +kernel) (by decide +kernel)
set_option maxRecDepth 20000 in
theorem gL_law_X4_undo : GoodIn wsL_law (wsV RL 65 RX4 yX4_undo wsX4_undo) := goodIn_app (goodIn_of _ (by decide +kernel)) ggL_law_X4_undo
set_option maxRecDepth 20000 in
theorem ggL_law_X5_undo : GoodIn wsL_law wsX5_undo := goodIn_r _ [483, 124, 277, 100, 103, 758, 759, 760, 761, 762, 763, 764, 765, 766, 767, 768, 769, 770, 771, 772, 773, 774, 775, 776, 777, 778, 779] (by decide +kernel) (by decide +kernel)
set_option maxRecDepth 20000 in
theorem gL_law_X5_undo : GoodIn wsL_law (wsV RL 68 RX5 yX5_undo wsX5_undo) := goodIn_app (goodIn_of _ (by decide +kernel)) ggL_law_X5_undo
set_option maxRecDepth 20000 in
theorem ggL_law_X4_where : GoodIn wsL_law wsX4_where := goodIn_r _ [487, 347, 350, 351, 352, 2, 353, 24, 354, 112, 113, 114, 488, 489, 490, 491, 32, 343, 322, 492, 398, 399, 31, 400, 401, 402, 403, 404, 405, 406, 407, 493, 494, 495, 496, 19, 283, 323, 324, 325, 23, 326, 225, 85, 327, 328, 329, 330, 437, 438, 439, 440, 441, 442, 443, 18, 444, 46, 445, 78, 79, 80, 44, 290, 291, 804, 805, 806, 807, 808, 809, 810, 746, 747, 748, 749, 750, 751, 752, 753, 754, 755, 756, 757, 798, 799, 800, 801, 802, 803, 788, 789, 790, 791, 792, 793, 794, 795, 796, 797] (by decide +kernel) (by decide +kernel)
set_option maxRecDepth 20000 in
theorem gL_law_X4_where : GoodIn wsL_law (wsV RL 69 RX4 yX4_where wsX4_where) := goodIn_app (goodIn_of _ (by decide +kernel)) ggL_law_X4_where
set_option maxRecDepth 20000 in
theorem ggL_law_X5_where : GoodIn wsL_law wsX5_where := goodIn_r _ [500, 124, 104, 359, 360, 361, 5, 362, 100, 126, 127, 128, 501, 502, 503, 504, 505, 506, 507, 508, 335, 336, 337, 338, 96, 450, 451, 452, 453, 454, 455, 456, 457, 310, 311, 312, 313, 98, 314, 315, 316, 317, 97, 758, 759, 760, 761, 762, 763, 764, 765, 766, 767, 768, 769, 770, 771, 772, 773, 774, 775, 776, 777, 778, 779] (by decide +kernel) (by decide +kernel)
set_option maxRecDepth 20000 in
theorem gL_law_X5_where : GoodIn wsL_law (wsV RL 72 RX5 yX5_where wsX5_where) := goodIn_app (goodIn_of _ (by decide +kernel)) ggL_law_X5_where
set_option maxRecDepth 20000 in
theorem ggL_law_X4_comes : GoodIn wsL_law wsX4_comes := goodIn_r _ [512, 32, 24, 343, 322, 283, 350, 351, 352, 2, 353, 354, 112, 113, 114, 492, 398, 399, 31, 400, 401, 402, 403, 404, 405, 406, 407, 513, 514, 515, 516, 349, 19, 470, 517, 518, 67, 519, 392, 66, 68, 305, 62, 63, 18, 64, 51, 52, 65, 323, 324, 325, 23, 326, 225, 85, 327, 328, 329, 330, 437, 438, 439, 440, 441, 442, 443, 444, 46, 445, 78, 79, 80, 44, 290, 291, 746, 747, 748, 749, 750, 751, 752, 753, 754, 755, 756, 757, 798, 799, 800, 801, 802, 803, 804, 805, 806, 807, 808, 809, 810, 788, 789, 790, 791, 792, 793, 794, 795, 796, 797] (by decide +kernel) (by decide +kernel)
set_option maxRecDepth 20000 in
theorem gL_law_X4_comes : GoodIn wsL_law (wsV RL 73 RX4 yX4_comes wsX4_comes) := goodIn_app (goodIn_of _ (by decide +kernel)) ggL_law_X4_comes
set_option maxRecDepth 20000 in
theorem ggL_law_X5_comes : GoodIn wsL_law wsX5_comes := goodIn_r _ [523, 124, 104, 100, 359, 360, 361, 5, 362, 126, 127, 128, 505, 506, 507, 508, 524, 525, 526, 527, 335, 336, 337, 338, 96, 450, 451, 452, 453, 454, 455, 456, 457, 310, 311, 312, 313, 98, 314, 315, 316, 317, 97, 758, 759, 760, 761, 762, 763, 764, 765, 766, 767, 768, 769, 770, 771, 772, 773, 774, 775, 776, 777, 778, 779] (by decide +kernel) (by decide +kernel)
set_option maxRecDepth 20000 in
theorem gL_law_X5_comes : GoodIn wsL_law (wsV RL 76 RX5 yX5_comes wsX5_comes) := goodIn_app (goodIn_of _ (by decide +kernel)) ggL_law_X5_comes
set_option maxRecDepth 20000 in
theorem ggL_law_X4_blots : GoodIn wsL_law wsX4_blots := goodIn_r _ [531, 348, 350, 351, 352, 2, 353, 24, 354, 112, 113, 114, 488, 489, 490, 491, 32, 343, 322, 492, 398, 399, 31, 400, 401, 402, 403, 404, 405, 406, 407, 493, 494, 495, 496, 19, 283, 323, 324, 325, 23, 326, 225, 85, 327, 328, 329, 330, 437, 438, 439, 440, 441, 442, 443, 18, 444, 46, 445, 78, 79, 80, 44, 290, 291, 804, 805, 806, 807, 808, 809, 810, 746, 747, 748, 749, 750, 751, 752, 753, 754, 755, 756, 757, 798, 799, 800, 801, 802, 803, 788, 789, 790, 791, 792, 793, 794, 795, 796, 797] (by decide +kernel) (by decide +kernel)
set_option maxRecDepth 20000 in
theorem gL_law_X4_blots : GoodIn wsL_law (wsV RL 77 RX4 yX4_blots wsX4_blots) := goodIn_app (goodIn_of _ (by decide +kernel)) ggL_law_X4_blots
set_option maxRecDepth 20000 in
theorem ggL_law_X5_blots : GoodIn wsL_law wsX5_blots := goodIn_r _ [535, 124, 104, 359, 360, 361, 5, 362, 100, 126, 127, 128, 501, 502, 503, 504, 505, 506, 507, 508, 335, 336, 337, 338, 96, 450, 451, 452, 453, 454, 455, 456, 457, 310, 311, 312, 313, 98, 314, 315, 316, 317, 97, 758, 759, 760, 761, 762, 763, 764, 765, 766, 767, 768, 769, 770, 771, 772, 773, 774, 775, 776, 777, 778, 779] (by decide +kernel) (by decide +kernel)
set_option maxRecDepth 20000 in
theorem gL_law_X5_blots : GoodIn wsL_law (wsV RL 80 RX5 yX5_blots wsX5_blots) := goodIn_app (goodIn_of _ (by decide +kernel)) ggL_law_X5_blots
set_option maxRecDepth 20000 in
theorem ggL_law_X4_loop : GoodIn wsL_law wsX4_loop := goodIn_r _ [539, 24, 470, 517, 518, 67, 519, 19, 349, 32, 347, 322, 350, 351, 352, 2, 353, 354, 112, 113, 114, 305, 62, 63, 18, 64, 51, 52, 65, 66, 68, 488, 489, 490, 491, 343, 492, 398, 399, 31, 400, 401, 402, 403, 404, 405, 406, 407, 493, 494, 495, 496, 283, 323, 324, 325, 23, 326, 225, 85, 327, 328, 329, 330, 437, 438, 439, 440, 441, 442, 443, 444, 46, 445, 78, 79, 80, 44, 290, 291, 746, 747, 748, 749, 750, 751, 752, 753, 754, 755, 756, 757, 798, 799, 800, 801, 802, 803, 804, 805, 806, 807, 808, 809, 810, 788, 789, 790, 791, 792, 793, 794, 795, 796, 797] (by decide +kernel) (by decide +kernel)
set_option maxRecDepth 20000 in
theorem gL_law_X4_loop : GoodIn wsL_law (wsV RL 81 RX4 yX4_loop wsX4_loop) := goodIn_app (goodIn_of _ (by decide +kernel)) ggL_law_X4_loop
set_option maxRecDepth 20000 in
theorem ggL_law_X5_loop : GoodIn wsL_law wsX5_loop := goodIn_r _ [543, 124, 96, 106, 104, 100, 359, 360, 361, 5, 362, 126, 127, 128, 505, 506, 507, 508, 335, 336, 337, 338, 450, 451, 452, 453, 454, 455, 456, 457, 310, 311, 312, 313, 98, 314, 315, 316, 317, 97, 758, 759, 760, 761, 762, 763, 764, 765, 766, 767, 768, 769, 770, 771, 772, 773, 774, 775, 776, 777, 778, 779] (by decide +kernel) (by decide +kernel)
set_option maxRecDepth 20000 in
theorem gL_law_X5_loop : GoodIn wsL_law (wsV RL 84 RX5 yX5_loop wsX5_loop) := goodIn_app (goodIn_of _ (by decide +kernel)) ggL_law_X5_loop
set_option maxRecDepth 20000 in
theorem ggL_law_X4_tangled : GoodIn wsL_law wsX4_tangled := goodIn_r _ [547, 32, 24, 343, 33, 349, 347, 322, 350, 351, 352, 2, 353, 354, 112, 113, 114, 492, 398, 399, 31, 400, 401, 402, 403, 404, 405, 406, 407, 493, 494, 495, 496, 19, 283, 323, 324, 325, 23, 326, 225, 85, 327, 328, 329, 330, 437, 438, 439, 440, 441, 442, 443, 18, 444, 46, 445, 78, 79, 80, 44, 290, 291, 746, 747, 748, 749, 750, 751, 752, 753, 754, 755, 756, 757, 798, 799, 800, 801, 802, 803, 804, 805, 806, 807, 808, 809, 810, 788, 789, 790, 791, 792, 793, 794, 795, 796, 797] (by decide +kernel) (by decide +kernel)
set_option maxRecDepth 20000 in
theorem gL_law_X4_tangled : GoodIn wsL_law (wsV RL 85 RX4 yX4_tangled wsX4_tangled) := goodIn_app (goodIn_of _ (by decide +kernel)) ggL_law_X4_tangled
set_option maxRecDepth 20000 in
theorem ggL_law_X5_tangled : GoodIn wsL_law wsX5_tangled := goodIn_r _ [551, 124, 104, 105, 100, 359, 360, 361, 5, 362, 126, 127, 128, 505, 506, 507, 508, 335, 336, 337, 338, 96, 450, 451, 452, 453, 454, 455, 456, 457, 310, 311, 312, 313, 98, 314, 315, 316, 317, 97, 758, 759, 760, 761, 762, 763, 764, 765, 766, 767, 768, 769, 770, 771, 772, 773, 774, 775, 776, 777, 778, 779] (by decide +kernel) (by decide +kernel)
set_option maxRecDepth 20000 in
theorem gL_law_X5_tangled : GoodIn wsL_law (wsV RL 88 RX5 yX5_tangled wsX5_tangled) := goodIn_app (goodIn_of _ (by decide +kernel)) ggL_law_X5_tangled
set_option maxRecDepth 20000 in
theorem ggL_law_X4_soonest : GoodIn wsL_law wsX4_soonest := goodIn_r _ [555, 24, 283, 380, 381, 382, 2, 383, 284, 285, 286, 287, 19, 288, 112, 113, 114, 384, 385, 386, 556, 557, 558, 559, 32, 560, 322, 408, 409, 410, 31, 411, 401, 402, 403, 404, 405, 406, 412, 407, 413, 414, 415, 18, 416, 43, 513, 514, 515, 516, 349, 470, 517, 518, 67, 519, 392, 66, 68, 305, 62, 63, 64, 51, 52, 65, 323, 324, 325, 23, 326, 225, 85, 327, 328, 329, 330, 437, 438, 439, 440, 441, 442, 443, 444, 46, 445, 78, 79, 80, 44, 290, 291, 746, 747, 748, 749, 750, 751, 752, 753, 754, 755, 756, 757, 798, 799, 800, 801, 802, 803, 788, 789, 790, 791, 792, 793, 794, 795, 796, 797, 804, 805, 806, 807, 808, 809, 810] (by decide +kernel) (by decide +kernel)
set_option maxRecDepth 20000 in
theorem gL_law_X4_soonest : GoodIn wsL_law (wsV RL 89 RX4 yX4_soonest wsX4_soonest) := goodIn_app (goodIn_of _ (by decide +kernel)) ggL_law_X4_soonest
set_option maxRecDepth 20000 in
theorem ggL_law_X5_soonest : GoodIn wsL_law wsX5_soonest := goodIn_r _ [564, 124, 100, 421, 422, 423, 5, 424, 296, 297, 298, 299, 96, 126, 127, 128, 565, 566, 567, 568, 569, 570, 571, 572, 104, 429, 430, 431, 432, 97, 524, 525, 526, 527, 335, 336, 337, 338, 450, 451, 452, 453, 454, 455, 456, 457, 310, 311, 312, 313, 98, 314, 315, 316, 317, 758, 759, 760, 761, 762, 763, 764, 765, 766, 767, 768, 769, 770, 771, 772, 773, 774, 775, 776, 777, 778, 779] (by decide +kernel) (by decide +kernel)
set_option maxRecDepth 20000 in
theorem gL_law_X5_soonest : GoodIn wsL_law (wsV RL 93 RX5 yX5_soonest wsX5_soonest) := goodIn_app (goodIn_of _ (by decide +kernel)) ggL_law_X5_soonest
set_option maxRecDepth 20000 in
theorem ggL_law_X4_lightest : GoodIn wsL_law wsX4_lightest := goodIn_r _ [576, 24, 283, 380, 381, 382, 2, 383, 284, 285, 286, 287, 19, 288, 112, 113, 114, 556, 557, 558, 559, 32, 560, 322, 408, 409, 410, 31, 411, 401, 402, 403, 404, 405, 406, 412, 407, 413, 414, 415, 18, 416, 43, 513, 514, 515, 516, 349, 470, 517, 518, 67, 519, 392, 66, 68, 305, 62, 63, 64, 51, 52, 65, 323, 324, 325, 23, 326, 225, 85, 327, 328, 329, 330, 437, 438, 439, 440, 441, 442, 443, 444, 46, 445, 78, 79, 80, 44, 290, 291, 746, 747, 748, 749, 750, 751, 752, 753, 754, 755, 756, 757, 798, 799, 800, 801, 802, 803, 788, 789, 790, 791, 792, 793, 794, 795, 796, 797, 804, 805, 806, 807, 808, 809, 810] (by decide +kernel) (by decide +kernel)
set_option maxRecDepth 20000 in
theorem gL_law_X4_lightest : GoodIn wsL_law (wsV RL 94 RX4 yX4_lightest wsX4_lightest) := goodIn_app (goodIn_of _ (by decide +kernel)) ggL_law_X4_lightest
set_option maxRecDepth 20000 in
theorem ggL_law_X5_lightest : GoodIn wsL_law wsX5_lightest := goodIn_r _ [580, 124, 100, 421, 422, 423, 5, 424, 296, 297, 298, 299, 96, 126, 127, 128, 569, 570, 571, 572, 104, 429, 430, 431, 432, 97, 524, 525, 526, 527, 335, 336, 337, 338, 450, 451, 452, 453, 454, 455, 456, 457, 310, 311, 312, 313, 98, 314, 315, 316, 317, 758, 759, 760, 761, 762, 763, 764, 765, 766, 767, 768, 769, 770, 771, 772, 773, 774, 775, 776, 777, 778, 779] (by decide +kernel) (by decide +kernel)
set_option maxRecDepth 20000 in
theorem gL_law_X5_lightest : GoodIn wsL_law (wsV RL 97 RX5 yX5_lightest wsX5_lightest) := goodIn_app (goodIn_of _ (by decide +kernel)) ggL_law_X5_lightest
set_option maxRecDepth 20000 in
theorem ggL_law_X4_words : GoodIn wsL_law wsX4_words := goodIn_r _ [584, 19, 288, 284, 285, 286, 2, 287, 112, 113, 114, 585, 586, 587, 588, 589, 590, 591, 592, 24, 283, 556, 557, 558, 559, 32, 560, 322, 408, 409, 410, 31, 411, 401, 402, 403, 404, 405, 406, 412, 407, 413, 414, 415, 18, 416, 43, 513, 514, 515, 516, 349, 470, 517, 518, 67, 519, 392, 66, 68, 305, 62, 63, 64, 51, 52, 65, 323, 324, 325, 23, 326, 225, 85, 327, 328, 329, 330, 437, 438, 439, 440, 441, 442, 443, 444, 46, 445, 78, 79, 80, 44, 290, 291, 746, 747, 748, 749, 750, 751, 752, 753, 754, 755, 756, 757, 788, 789, 790, 791, 792, 793, 794, 795, 796, 797, 798, 799, 800, 801, 802, 803, 804, 805, 806, 807, 808, 809, 810] (by decide +kernel) (by decide +kernel)
set_option maxRecDepth 20000 in
theorem gL_law_X4_words : GoodIn wsL_law (wsV RL 98 RX4 yX4_words wsX4_words) := goodIn_app (goodIn_of _ (by decide +kernel)) ggL_law_X4_words
set_option maxRecDepth 20000 in
theorem ggL_law_X5_words : GoodIn wsL_law wsX5_words := goodIn_r _ [596, 124, 96, 100, 296, 297, 298, 5, 299, 126, 127, 128, 565, 566, 567, 568, 569, 570, 571, 572, 104, 429, 430, 431, 432, 97, 524, 525, 526, 527, 335, 336, 337, 338, 450, 451, 452, 453, 454, 455, 456, 457, 310, 311, 312, 313, 98, 314, 315, 316, 317, 758, 759, 760, 761, 762, 763, 764, 765, 766, 767, 768, 769, 770, 771, 772, 773, 774, 775, 776, 777, 778, 779] (by decide +kernel) (by decide +kernel)
set_option maxRecDepth 20000 in
theorem gL_law_X5_words : GoodIn wsL_law (wsV RL 101 RX5 yX5_words wsX5_words) := goodIn_app (goodIn_of _ (by decide +kernel)) ggL_law_X5_words
set_option maxRecDepth 20000 in
theorem ggL_law_X4_nets : GoodIn wsL_law wsX4_nets := goodIn_r _ [600, 19, 288, 380, 381, 382, 2, 383, 284, 285, 286, 287, 112, 113, 114, 384, 385, 386, 601, 602, 603, 604, 605, 606, 607, 589, 590, 591, 592, 24, 283, 556, 557, 558, 559, 32, 560, 322, 408, 409, 410, 31, 411, 401, 402, 403, 404, 405, 406, 412, 407, 413, 414, 415, 18, 416, 43, 513, 514, 515, 516, 349, 470, 517, 518, 67, 519, 392, 66, 68, 305, 62, 63, 64, 51, 52, 65, 323, 324, 325, 23, 326, 225, 85, 327, 328, 329, 330, 437, 438, 439, 440, 441, 442, 443, 444, 46, 445, 78, 79, 80, 44, 290, 291, 746, 747, 748, 749, 750, 751, 752, 753, 754, 755, 756, 757, 788, 789, 790, 791, 792, 793, 794, 795, 796, 797, 798, 799, 800, 801, 802, 803, 804, 805, 806, 807, 808, 809, 810] (by decide +kernel) (by decide +kernel)
set_option maxRecDepth 20000 in
theorem gL_law_X4_nets : GoodIn wsL_law (wsV RL 102 RX4 yX4_nets wsX4_nets) := goodIn_app (goodIn_of _ (by decide +kernel)) ggL_law_X4_nets
set_option maxRecDepth 20000 in
theorem ggL_law_X5_nets : GoodIn wsL_law wsX5_nets := goodIn_r _ [611, 124, 96, 100, 421, 422, 423, 5, 424, 296, 297, 298, 299, 126, 127, 128, 612, 613, 614, 565, 566, 567, 568, 569, 570, 571, 572, 104, 429, 430, 431, 432, 97, 524, 525, 526, 527, 335, 336, 337, 338, 450, 451, 452, 453, 454, 455, 456, 457, 310, 311, 312, 313, 98, 314, 315, 316, 317, 758, 759, 760, 761, 762, 763, 764, 765, 766, 767, 768, 769, 770, 771, 772, 773, 774, 775, 776, 777, 778, 779] (by decide +kernel) (by decide +kernel)
set_option maxRecDepth 20000 in
theorem gL_law_X5_nets : GoodIn wsL_law (wsV RL 105 RX5 yX5_nets wsX5_nets) := goodIn_app (goodIn_of _ (by decide +kernel)) ggL_law_X5_nets
set_option maxRecDepth 20000 in
theorem ggL_law_X4_who : GoodIn wsL_law wsX4_who := goodIn_r _ [618, 19, 288, 284, 285, 286, 2, 287, 112, 113, 114, 384, 385, 386, 619, 620, 621, 622, 24, 283, 32, 348, 556, 557, 558, 559, 560, 322, 408, 409, 410, 31, 411, 401, 402, 403, 404, 405, 406, 412, 407, 413, 414, 415, 18, 416, 43, 513, 514, 515, 516, 349, 470, 517, 518, 67, 519, 392, 66, 68, 305, 62, 63, 64, 51, 52, 65, 323, 324, 325, 23, 326, 225, 85, 327, 328, 329, 330, 437, 438, 439, 440, 441, 442, 443, 444, 46, 445, 78, 79, 80, 44, 290, 291, 746, 747, 748, 749, 750, 751, 752, 753, 754, 755, 756, 757, 788, 789, 790, 791, 792, 793, 794, 795, 796, 797, 798, 799, 800, 801, 802, 803, 804, 805, 806, 807, 808, 809, 810] (by decide +kernel) (by decide +kernel)
set_option maxRecDepth 20000 in
theorem gL_law_X4_who : GoodIn wsL_law (wsV RL 106 RX4 yX4_who wsX4_who) := goodIn_app (goodIn_of _ (by decide +kernel)) ggL_law_X4_who
set_option maxRecDepth 20000 in
theorem ggL_law_X5_who : GoodIn wsL_law wsX5_who := goodIn_r _ [626, 124, 96, 100, 104, 296, 297, 298, 5, 299, 126, 127, 128, 569, 570, 571, 572, 429, 430, 431, 432, 97, 524, 525, 526, 527, 335, 336, 337, 338, 450, 451, 452, 453, 454, 455, 456, 457, 310, 311, 312, 313, 98, 314, 315, 316, 317, 758, 759, 760, 761, 762, 763, 764, 765, 766, 767, 768, 769, 770, 771, 772, 773, 774, 775, 776, 777, 778, 779] (by decide +kernel) (by decide +kernel)
set_option maxRecDepth 20000 in
theorem gL_law_X5_who : GoodIn wsL_law (wsV RL 109 RX5 yX5_who wsX5_who) := goodIn_app (goodIn_of _ (by decide +kernel)) ggL_law_X5_who
set_option maxRecDepth 20000 in
theorem ggL_law_X4_knee : GoodIn wsL_law wsX4_knee := goodIn_r _ [630, 24, 322, 112, 113, 2, 114, 323, 324, 325, 23, 326, 225, 85, 327, 328, 329, 330, 746, 747, 748, 749, 750, 751, 752, 753, 754, 755, 756, 757, 798, 799, 800, 801, 802, 803] (by decide +kernel) (by decide +kernel)
set_option maxRecDepth 20000 in
theorem gL_law_X4_knee : GoodIn wsL_law (wsV RL 110 RX4 yX4_knee wsX4_knee) := goodIn_app (goodIn_of _ (by decide +kernel)) ggL_law_X4_knee
set_option maxRecDepth 20000 in
theorem ggL_law_X5_knee : GoodIn wsL_law wsX5_knee := goodIn_r _ [634, 124, 100, 126, 127, 5, 128, 335, 336, 337, 338, 96, 758, 759, 760, 761, 762, 763, 764, 765, 766, 767, 768, 769, 770, 771, 772, 773, 774, 775, 776, 777, 778, 779] (by decide +kernel) (by decide +kernel)
set_option maxRecDepth 20000 in
theorem gL_law_X5_knee : GoodIn wsL_law (wsV RL 113 RX5 yX5_knee wsX5_knee) := goodIn_app (goodIn_of _ (by decide +kernel)) ggL_law_X5_knee
set_option maxRecDepth 20000 in
theorem ggL_law_X4_drift : GoodIn wsL_law wsX4_drift := goodIn_r _ [638, 639, 24, 470, 471, 19, 640, 517, 518, 67, 519, 384, 385, 2, 386, 112, 113, 114, 746, 747, 748, 749, 750, 751, 752, 753, 754, 755, 756, 757, 798, 799, 800, 801, 802, 803, 788, 789, 790, 791, 792, 793, 794, 795, 796, 797] (by decide +kernel) (by decide +kernel)
set_option maxRecDepth 20000 in
theorem gL_law_X4_drift : GoodIn wsL_law (wsV RL 114 RX4 yX4_drift wsX4_drift) := goodIn_app (goodIn_of _ (by decide +kernel)) ggL_law_X4_drift
set_option maxRecDepth 20000 in
theorem ggL_law_X5_drift : GoodIn wsL_law wsX5_drift := goodIn_r _ [644, 124, 645, 96, 100, 126, 127, 5, 128, 758, 759, 760, 761, 762, 763, 764, 765, 766, 767, 768, 769, 770, 771, 772, 773, 774, 775, 776, 777, 778, 779] (by decide +kernel) (by decide +kernel)
set_option maxRecDepth 20000 in
theorem gL_law_X5_drift : GoodIn wsL_law (wsV RL 117 RX5 yX5_drift wsX5_drift) := goodIn_app (goodIn_of _ (by decide +kernel)) ggL_law_X5_drift
set_option maxRecDepth 20000 in
theorem ggL_law_X4_odds : GoodIn wsL_law wsX4_odds := goodIn_r _ [649, 350, 351, 352, 2, 353, 24, 354, 112, 113, 114, 650, 651, 652, 653, 32, 343, 19, 322, 283, 349, 492, 398, 399, 31, 400, 401, 402, 403, 404, 405, 406, 407, 289, 290, 291, 323, 324, 325, 23, 326, 225, 85, 327, 328, 329, 330, 437, 438, 439, 440, 441, 442, 443, 18, 444, 46, 445, 78, 79, 80, 44, 654, 655, 656, 746, 747, 748, 749, 750, 751, 752, 753, 754, 755, 756, 757, 798, 799, 800, 801, 802, 803, 804, 805, 806, 807, 808, 809, 810, 788, 789, 790, 791, 792, 793, 794, 795, 796, 797] (by decide +kernel) (by decide +kernel)
set_option maxRecDepth 20000 in
theorem gL_law_X4_odds : GoodIn wsL_law (wsV RL 118 RX4 yX4_odds wsX4_odds) := goodIn_app (goodIn_of _ (by decide +kernel)) ggL_law_X4_odds
set_option maxRecDepth 20000 in
theorem ggL_law_X5_odds : GoodIn wsL_law wsX5_odds := goodIn_r _ [660, 124, 104, 100, 359, 360, 361, 5, 362, 126, 127, 128, 505, 506, 507, 508, 335, 336, 337, 338, 96, 450, 451, 452, 453, 454, 455, 456, 457, 310, 311, 312, 313, 98, 314, 315, 316, 317, 97, 661, 662, 663, 664, 665, 666, 758, 759, 760, 761, 762, 763, 764, 765, 766, 767, 768, 769, 770, 771, 772, 773, 774, 775, 776, 777, 778, 779] (by decide +kernel) (by decide +kernel)
set_option maxRecDepth 20000 in
theorem gL_law_X5_odds : GoodIn wsL_law (wsV RL 121 RX5 yX5_odds wsX5_odds) := goodIn_app (goodIn_of _ (by decide +kernel)) ggL_law_X5_odds
set_option maxRecDepth 20000 in
theorem ggL_law_X4_rate : GoodIn wsL_law wsX4_rate := goodIn_r _ [670, 639, 350, 351, 352, 2, 353, 24, 354, 112, 113, 114, 671, 672, 673, 674, 675, 343, 344, 676, 677, 678, 679, 680, 348, 601, 602, 603, 604, 605, 606, 607, 681, 682, 683, 684, 685, 347, 686, 687, 688, 689, 690, 691, 692, 693, 694, 695, 696, 697, 698, 699, 700, 322, 746, 747, 748, 749, 750, 751, 752, 753, 754, 755, 756, 757, 798, 799, 800, 801, 802, 803, 804, 805, 806, 807, 808, 809, 810] (by decide +kernel) (by decide +kernel)
set_option maxRecDepth 20000 in
theorem gL_law_X4_rate : GoodIn wsL_law (wsV RL 122 RX4 yX4_rate wsX4_rate) := goodIn_app (goodIn_of _ (by decide +kernel)) ggL_law_X4_rate
set_option maxRecDepth 20000 in
theorem ggL_law_X5_rate : GoodIn wsL_law wsX5_rate := goodIn_r _ [704, 124, 645, 100, 705, 706, 707, 708, 709, 710, 126, 127, 5, 128, 359, 360, 361, 362, 612, 613, 614, 758, 759, 760, 761, 762, 763, 764, 765, 766, 767, 768, 769, 770, 771, 772, 773, 774, 775, 776, 777, 778, 779] (by decide +kernel) (by decide +kernel)
set_option maxRecDepth 20000 in
theorem gL_law_X5_rate : GoodIn wsL_law (wsV RL 125 RX5 yX5_rate wsX5_rate) := goodIn_app (goodIn_of _ (by decide +kernel)) ggL_law_X5_rate
set_option maxRecDepth 20000 in
theorem ggL_law_X4_keep : GoodIn wsL_law wsX4_keep := goodIn_r _ [714, 26, 24, 28, 322, 112, 113, 2, 114, 393, 394, 395, 23, 396, 221, 222, 223, 225, 85, 87, 397, 398, 399, 31, 400, 401, 402, 403, 404, 405, 406, 407, 746, 747, 748, 749, 750, 751, 752, 753, 754, 755, 756, 757, 798, 799, 800, 801, 802, 803, 804, 805, 806, 807, 808, 809, 810] (by decide +kernel) (by decide +kernel)
set_option maxRecDepth 20000 in
theorem gL_law_X4_keep : GoodIn wsL_law (wsV RL 126 RX4 yX4_keep wsX4_keep) := goodIn_app (goodIn_of _ (by decide +kernel)) ggL_law_X4_keep
set_option maxRecDepth 20000 in
theorem ggL_law_X5_keep : GoodIn wsL_law wsX5_keep := goodIn_r _ [718, 124, 101, 100, 102, 126, 127, 5, 128, 758, 759, 760, 761, 762, 763, 764, 765, 766, 767, 768, 769, 770, 771, 772, 773, 774, 775, 776, 777, 778, 779] (by decide +kernel) (by decide +kernel)
set_option maxRecDepth 20000 in
theorem gL_law_X5_keep : GoodIn wsL_law (wsV RL 129 RX5 yX5_keep wsX5_keep) := goodIn_app (goodIn_of _ (by decide +kernel)) ggL_law_X5_keep
set_option maxRecDepth 20000 in
theorem ggL_law_X4_back : GoodIn wsL_law wsX4_back := goodIn_r _ [722, 28, 24, 26, 141, 322, 112, 113, 2, 114, 393, 394, 395, 23, 396, 221, 222, 223, 225, 85, 87, 397, 398, 399, 31, 400, 401, 402, 403, 404, 405, 406, 407, 746, 747, 748, 749, 750, 751, 752, 753, 754, 755, 756, 757, 798, 799, 800, 801, 802, 803, 804, 805, 806, 807, 808, 809, 810] (by decide +kernel) (by decide +kernel)
set_option maxRecDepth 20000 in
theorem gL_law_X4_back : GoodIn wsL_law (wsV RL 130 RX4 yX4_back wsX4_back) := goodIn_app (goodIn_of _ (by decide +kernel)) ggL_law_X4_back
set_option maxRecDepth 20000 in
theorem ggL_law_X5_back : GoodIn wsL_law wsX5_back := goodIn_r _ [726, 124, 102, 100, 101, 277, 126, 127, 5, 128, 758, 759, 760, 761, 762, 763, 764, 765, 766, 767, 768, 769, 770, 771, 772, 773, 774, 775, 776, 777, 778, 779] (by decide +kernel) (by decide +kernel)
set_option maxRecDepth 20000 in
theorem gL_law_X5_back : GoodIn wsL_law (wsV RL 133 RX5 yX5_back wsX5_back) := goodIn_app (goodIn_of _ (by decide +kernel)) ggL_law_X5_back
set_option maxRecDepth 20000 in
theorem ggL_law_X4_count : GoodIn wsL_law wsX4_count := goodIn_r _ [730, 19, 731, 732, 288, 733, 24, 470, 640, 15, 111, 746, 747, 748, 749, 750, 751, 752, 753, 754, 755, 756, 757, 788, 789, 790, 791, 792, 793, 794, 795, 796, 797, 798, 799, 800, 801, 802, 803, 780, 781, 782, 783, 784, 785, 786, 787] (by decide +kernel) (by decide +kernel)
set_option maxRecDepth 20000 in
theorem gL_law_X4_count : GoodIn wsL_law (wsV RL 134 RX4 yX4_count wsX4_count) := goodIn_app (goodIn_of _ (by decide +kernel)) ggL_law_X4_count
set_option maxRecDepth 20000 in
theorem ggL_law_X5_count : GoodIn wsL_law wsX5_count := goodIn_r _ [737, 124, 96, 125, 126, 127, 5, 128, 758, 759, 760, 761, 762, 763, 764, 765, 766, 767, 768, 769, 770, 771, 772, 773, 774, 775, 776, 777, 778, 779] (by decide +kernel) (by decide +kernel)
set_option maxRecDepth 20000 in
theorem gL_law_X5_count : GoodIn wsL_law (wsV RL 137 RX5 yX5_count wsX5_count) := goodIn_app (goodIn_of _ (by decide +kernel)) ggL_law_X5_count
set_option maxRecDepth 20000 in
theorem ggL_law_X4_trace : GoodIn wsL_law wsX4_trace := goodIn_r _ [741, 675, 746, 747, 748, 749, 750, 751, 752, 753, 754, 755, 756, 757] (by decide +kernel) (by decide +kernel)
set_option maxRecDepth 20000 in
theorem gL_law_X4_trace : GoodIn wsL_law (wsV RL 138 RX4 yX4_trace wsX4_trace) := goodIn_app (goodIn_of _ (by decide +kernel)) ggL_law_X4_trace
set_option maxRecDepth 20000 in
theorem ggL_law_X5_trace : GoodIn wsL_law wsX5_trace := goodIn_r _ [745, 124, 705, 758, 759, 760, 761, 762, 763, 764, 765, 766, 767, 768, 769, 770, 771, 772, 773, 774, 775, 776, 777, 778, 779] (by decide +kernel) (by decide +kernel)
set_option maxRecDepth 20000 in
theorem gL_law_X5_trace : GoodIn wsL_law (wsV RL 142 RX5 yX5_trace wsX5_trace) := goodIn_app (goodIn_of _ (by decide +kernel)) ggL_law_X5_trace
theorem dL_law_0 : decode cL_law 0 = .ok (.new 7, 3) := by decide +kernel
theorem dL_law_3 : decode cL_law 3 = .ok (.dup, 1) := by decide +kernel
theorem dL_law_4 : decode cL_law 4 = .ok (.invokespecial 9, 3) := by decide +kernel
theorem dL_law_7 : decode cL_law 7 = .ok (.astore_n 1, 1) := by decide +kernel
theorem dL_law_8 : decode cL_law 8 = .ok (.new 10, 3) := by decide +kernel
theorem dL_law_11 : decode cL_law 11 = .ok (.dup, 1) := by decide +kernel
theorem dL_law_12 : decode cL_law 12 = .ok (.invokespecial 12, 3) := by decide +kernel
theorem dL_law_15 : decode cL_law 15 = .ok (.astore_n 2, 1) := by decide +kernel
theorem dL_law_16 : decode cL_law 16 = .ok (.iconst 0, 1) := by decide +kernel
theorem dL_law_17 : decode cL_law 17 = .ok (.istore_n 3, 1) := by decide +kernel
theorem dL_law_18 : decode cL_law 18 = .ok (.iload_n 3, 1) := by decide +kernel
theorem dL_law_19 : decode cL_law 19 = .ok (.aload_n 0, 1) := by decide +kernel
theorem dL_law_20 : decode cL_law 20 = .ok (.arraylength, 1) := by decide +kernel
theorem dL_law_21 : decode cL_law 21 = .ok (.iconst 5, 1) := by decide +kernel
theorem dL_law_22 : decode cL_law 22 = .ok (.isub, 1) := by decide +kernel
theorem dL_law_23 : decode cL_law 23 = .ok (.if_icmp .gt 1059, 3) := by decide +kernel
theorem dL_law_26 : decode cL_law 26 = .ok (.aload_n 0, 1) := by decide +kernel
theorem dL_law_27 : decode cL_law 27 = .ok (.iload_n 3, 1) := by decide +kernel
theorem dL_law_28 : decode cL_law 28 = .ok (.iaload, 1) := by decide +kernel
theorem dL_law_29 : decode cL_law 29 = .ok (.bipush 31, 2) := by decide +kernel
theorem dL_law_31 : decode cL_law 31 = .ok (.iand, 1) := by decide +kernel
theorem dL_law_32 : decode cL_law 32 = .ok (.tableswitch 1044 0 30 #[140, 163, 176, 189, 222, 245, 268, 301, 324, 367, 380, 413, 446, 459, 492, 515, 548, 571, 604, 657, 700, 723, 766, 809, 842, 875, 928, 961, 984, 1007, 1030], 140) := by decide +kernel
theorem dL_law_172 : decode cL_law 172 = .ok (.aload_n 1, 1) := by decide +kernel
theorem dL_law_173 : decode cL_law 173 = .ok (.aload_n 0, 1) := by decide +kernel
theorem dL_law_174 : decode cL_law 174 = .ok (.iload_n 3, 1) := by decide +kernel
theorem dL_law_175 : decode cL_law 175 = .ok (.iconst 1, 1) := by decide +kernel
theorem dL_law_176 : decode cL_law 176 = .ok (.iadd, 1) := by decide +kernel
theorem dL_law_177 : decode cL_law 177 = .ok (.iaload, 1) := by decide +kernel
theorem dL_law_178 : decode cL_law 178 = .ok (.invokevirtual 13, 3) := by decide +kernel
theorem dL_law_181 : decode cL_law 181 = .ok (.aload_n 2, 1) := by decide +kernel
theorem dL_law_182 : decode cL_law 182 = .ok (.aload_n 0, 1) := by decide +kernel
theorem dL_law_183 : decode cL_law 183 = .ok (.iload_n 3, 1) := by decide +kernel
theorem dL_law_184 : decode cL_law 184 = .ok (.iconst 1, 1) := by decide +kernel
theorem dL_law_185 : decode cL_law 185 = .ok (.iadd, 1) := by decide +kernel
theorem dL_law_186 : decode cL_law 186 = .ok (.iaload, 1) := by decide +kernel
theorem dL_law_187 : decode cL_law 187 = .ok (.invokevirtual 17, 3) := by decide +kernel
theorem dL_law_190 : decode cL_law 190 = .ok (.if_icmp .eq 886, 3) := by decide +kernel
theorem dL_law_193 : decode cL_law 193 = .ok (.iconst 0, 1) := by decide +kernel
theorem dL_law_194 : decode cL_law 194 = .ok (.ireturn, 1) := by decide +kernel
theorem dL_law_195 : decode cL_law 195 = .ok (.aload_n 1, 1) := by decide +kernel
theorem dL_law_196 : decode cL_law 196 = .ok (.invokevirtual 18, 3) := by decide +kernel
theorem dL_law_199 : decode cL_law 199 = .ok (.aload_n 2, 1) := by decide +kernel
theorem dL_law_200 : decode cL_law 200 = .ok (.invokevirtual 22, 3) := by decide +kernel
theorem dL_law_203 : decode cL_law 203 = .ok (.if_icmp .eq 873, 3) := by decide +kernel
theorem dL_law_206 : decode cL_law 206 = .ok (.iconst 0, 1) := by decide +kernel
theorem dL_law_207 : decode cL_law 207 = .ok (.ireturn, 1) := by decide +kernel
theorem dL_law_208 : decode cL_law 208 = .ok (.aload_n 1, 1) := by decide +kernel
theorem dL_law_209 : decode cL_law 209 = .ok (.invokevirtual 23, 3) := by decide +kernel
theorem dL_law_212 : decode cL_law 212 = .ok (.aload_n 2, 1) := by decide +kernel
theorem dL_law_213 : decode cL_law 213 = .ok (.invokevirtual 26, 3) := by decide +kernel
theorem dL_law_216 : decode cL_law 216 = .ok (.if_icmp .eq 860, 3) := by decide +kernel
theorem dL_law_219 : decode cL_law 219 = .ok (.iconst 0, 1) := by decide +kernel
theorem dL_law_220 : decode cL_law 220 = .ok (.ireturn, 1) := by decide +kernel
theorem dL_law_221 : decode cL_law 221 = .ok (.aload_n 1, 1) := by decide +kernel
theorem dL_law_222 : decode cL_law 222 = .ok (.aload_n 0, 1) := by decide +kernel
theorem dL_law_223 : decode cL_law 223 = .ok (.iload_n 3, 1) := by decide +kernel
theorem dL_law_224 : decode cL_law 224 = .ok (.iconst 1, 1) := by decide +kernel
theorem dL_law_225 : decode cL_law 225 = .ok (.iadd, 1) := by decide +kernel
theorem dL_law_226 : decode cL_law 226 = .ok (.iaload, 1) := by decide +kernel
theorem dL_law_227 : decode cL_law 227 = .ok (.aload_n 0, 1) := by decide +kernel
theorem dL_law_228 : decode cL_law 228 = .ok (.iload_n 3, 1) := by decide +kernel
theorem dL_law_229 : decode cL_law 229 = .ok (.iconst 2, 1) := by decide +kernel
theorem dL_law_230 : decode cL_law 230 = .ok (.iadd, 1) := by decide +kernel
theorem dL_law_231 : decode cL_law 231 = .ok (.iaload, 1) := by decide +kernel
theorem dL_law_232 : decode cL_law 232 = .ok (.invokevirtual 27, 3) := by decide +kernel
theorem dL_law_235 : decode cL_law 235 = .ok (.aload_n 2, 1) := by decide +kernel
theorem dL_law_236 : decode cL_law 236 = .ok (.aload_n 0, 1) := by decide +kernel
theorem dL_law_237 : decode cL_law 237 = .ok (.iload_n 3, 1) := by decide +kernel
theorem dL_law_238 : decode cL_law 238 = .ok (.iconst 1, 1) := by decide +kernel
theorem dL_law_239 : decode cL_law 239 = .ok (.iadd, 1) := by decide +kernel
theorem dL_law_240 : decode cL_law 240 = .ok (.iaload, 1) := by decide +kernel
theorem dL_law_241 : decode cL_law 241 = .ok (.aload_n 0, 1) := by decide +kernel
theorem dL_law_242 : decode cL_law 242 = .ok (.iload_n 3, 1) := by decide +kernel
theorem dL_law_243 : decode cL_law 243 = .ok (.iconst 2, 1) := by decide +kernel
theorem dL_law_244 : decode cL_law 244 = .ok (.iadd, 1) := by decide +kernel
theorem dL_law_245 : decode cL_law 245 = .ok (.iaload, 1) := by decide +kernel
theorem dL_law_246 : decode cL_law 246 = .ok (.invokevirtual 31, 3) := by decide +kernel
theorem dL_law_249 : decode cL_law 249 = .ok (.if_icmp .eq 827, 3) := by decide +kernel
theorem dL_law_252 : decode cL_law 252 = .ok (.iconst 0, 1) := by decide +kernel
theorem dL_law_253 : decode cL_law 253 = .ok (.ireturn, 1) := by decide +kernel
theorem dL_law_254 : decode cL_law 254 = .ok (.aload_n 1, 1) := by decide +kernel
theorem dL_law_255 : decode cL_law 255 = .ok (.aload_n 0, 1) := by decide +kernel
theorem dL_law_256 : decode cL_law 256 = .ok (.iload_n 3, 1) := by decide +kernel
theorem dL_law_257 : decode cL_law 257 = .ok (.iconst 1, 1) := by decide +kernel
theorem dL_law_258 : decode cL_law 258 = .ok (.iadd, 1) := by decide +kernel
theorem dL_law_259 : decode cL_law 259 = .ok (.iaload, 1) := by decide +kernel
theorem dL_law_260 : decode cL_law 260 = .ok (.invokevirtual 32, 3) := by decide +kernel
theorem dL_law_263 : decode cL_law 263 = .ok (.aload_n 2, 1) := by decide +kernel
theorem dL_law_264 : decode cL_law 264 = .ok (.aload_n 0, 1) := by decide +kernel
theorem dL_law_265 : decode cL_law 265 = .ok (.iload_n 3, 1) := by decide +kernel
theorem dL_law_266 : decode cL_law 266 = .ok (.iconst 1, 1) := by decide +kernel
theorem dL_law_267 : decode cL_law 267 = .ok (.iadd, 1) := by decide +kernel
theorem dL_law_268 : decode cL_law 268 = .ok (.iaload, 1) := by decide +kernel
theorem dL_law_269 : decode cL_law 269 = .ok (.invokevirtual 35, 3) := by decide +kernel
theorem dL_law_272 : decode cL_law 272 = .ok (.if_icmp .eq 804, 3) := by decide +kernel
theorem dL_law_275 : decode cL_law 275 = .ok (.iconst 0, 1) := by decide +kernel
theorem dL_law_276 : decode cL_law 276 = .ok (.ireturn, 1) := by decide +kernel
theorem dL_law_277 : decode cL_law 277 = .ok (.aload_n 1, 1) := by decide +kernel
theorem dL_law_278 : decode cL_law 278 = .ok (.aload_n 0, 1) := by decide +kernel
theorem dL_law_279 : decode cL_law 279 = .ok (.iload_n 3, 1) := by decide +kernel
theorem dL_law_280 : decode cL_law 280 = .ok (.iconst 1, 1) := by decide +kernel
theorem dL_law_281 : decode cL_law 281 = .ok (.iadd, 1) := by decide +kernel
theorem dL_law_282 : decode cL_law 282 = .ok (.iaload, 1) := by decide +kernel
theorem dL_law_283 : decode cL_law 283 = .ok (.invokevirtual 36, 3) := by decide +kernel
theorem dL_law_286 : decode cL_law 286 = .ok (.aload_n 2, 1) := by decide +kernel
theorem dL_law_287 : decode cL_law 287 = .ok (.aload_n 0, 1) := by decide +kernel
theorem dL_law_288 : decode cL_law 288 = .ok (.iload_n 3, 1) := by decide +kernel
theorem dL_law_289 : decode cL_law 289 = .ok (.iconst 1, 1) := by decide +kernel
theorem dL_law_290 : decode cL_law 290 = .ok (.iadd, 1) := by decide +kernel
theorem dL_law_291 : decode cL_law 291 = .ok (.iaload, 1) := by decide +kernel
theorem dL_law_292 : decode cL_law 292 = .ok (.invokevirtual 39, 3) := by decide +kernel
theorem dL_law_295 : decode cL_law 295 = .ok (.if_icmp .eq 781, 3) := by decide +kernel
theorem dL_law_298 : decode cL_law 298 = .ok (.iconst 0, 1) := by decide +kernel
theorem dL_law_299 : decode cL_law 299 = .ok (.ireturn, 1) := by decide +kernel
theorem dL_law_300 : decode cL_law 300 = .ok (.aload_n 1, 1) := by decide +kernel
theorem dL_law_301 : decode cL_law 301 = .ok (.aload_n 0, 1) := by decide +kernel
theorem dL_law_302 : decode cL_law 302 = .ok (.iload_n 3, 1) := by decide +kernel
theorem dL_law_303 : decode cL_law 303 = .ok (.iconst 1, 1) := by decide +kernel
theorem dL_law_304 : decode cL_law 304 = .ok (.iadd, 1) := by decide +kernel
theorem dL_law_305 : decode cL_law 305 = .ok (.iaload, 1) := by decide +kernel
theorem dL_law_306 : decode cL_law 306 = .ok (.aload_n 0, 1) := by decide +kernel
theorem dL_law_307 : decode cL_law 307 = .ok (.iload_n 3, 1) := by decide +kernel
theorem dL_law_308 : decode cL_law 308 = .ok (.iconst 2, 1) := by decide +kernel
theorem dL_law_309 : decode cL_law 309 = .ok (.iadd, 1) := by decide +kernel
theorem dL_law_310 : decode cL_law 310 = .ok (.iaload, 1) := by decide +kernel
theorem dL_law_311 : decode cL_law 311 = .ok (.invokevirtual 40, 3) := by decide +kernel
theorem dL_law_314 : decode cL_law 314 = .ok (.aload_n 2, 1) := by decide +kernel
theorem dL_law_315 : decode cL_law 315 = .ok (.aload_n 0, 1) := by decide +kernel
theorem dL_law_316 : decode cL_law 316 = .ok (.iload_n 3, 1) := by decide +kernel
theorem dL_law_317 : decode cL_law 317 = .ok (.iconst 1, 1) := by decide +kernel
theorem dL_law_318 : decode cL_law 318 = .ok (.iadd, 1) := by decide +kernel
theorem dL_law_319 : decode cL_law 319 = .ok (.iaload, 1) := by decide +kernel
theorem dL_law_320 : decode cL_law 320 = .ok (.aload_n 0, 1) := by decide +kernel
theorem dL_law_321 : decode cL_law 321 = .ok (.iload_n 3, 1) := by decide +kernel
theorem dL_law_322 : decode cL_law 322 = .ok (.iconst 2, 1) := by decide +kernel
theorem dL_law_323 : decode cL_law 323 = .ok (.iadd, 1) := by decide +kernel
theorem dL_law_324 : decode cL_law 324 = .ok (.iaload, 1) := by decide +kernel
theorem dL_law_325 : decode cL_law 325 = .ok (.invokevirtual 43, 3) := by decide +kernel
theorem dL_law_328 : decode cL_law 328 = .ok (.if_icmp .eq 748, 3) := by decide +kernel
theorem dL_law_331 : decode cL_law 331 = .ok (.iconst 0, 1) := by decide +kernel
theorem dL_law_332 : decode cL_law 332 = .ok (.ireturn, 1) := by decide +kernel
theorem dL_law_333 : decode cL_law 333 = .ok (.aload_n 1, 1) := by decide +kernel
theorem dL_law_334 : decode cL_law 334 = .ok (.aload_n 0, 1) := by decide +kernel
theorem dL_law_335 : decode cL_law 335 = .ok (.iload_n 3, 1) := by decide +kernel
theorem dL_law_336 : decode cL_law 336 = .ok (.iconst 1, 1) := by decide +kernel
theorem dL_law_337 : decode cL_law 337 = .ok (.iadd, 1) := by decide +kernel
theorem dL_law_338 : decode cL_law 338 = .ok (.iaload, 1) := by decide +kernel
theorem dL_law_339 : decode cL_law 339 = .ok (.invokevirtual 44, 3) := by decide +kernel
theorem dL_law_342 : decode cL_law 342 = .ok (.aload_n 2, 1) := by decide +kernel
theorem dL_law_343 : decode cL_law 343 = .ok (.aload_n 0, 1) := by decide +kernel
theorem dL_law_344 : decode cL_law 344 = .ok (.iload_n 3, 1) := by decide +kernel
theorem dL_law_345 : decode cL_law 345 = .ok (.iconst 1, 1) := by decide +kernel
theorem dL_law_346 : decode cL_law 346 = .ok (.iadd, 1) := by decide +kernel
theorem dL_law_347 : decode cL_law 347 = .ok (.iaload, 1) := by decide +kernel
theorem dL_law_348 : decode cL_law 348 = .ok (.invokevirtual 47, 3) := by decide +kernel
theorem dL_law_351 : decode cL_law 351 = .ok (.if_icmp .eq 725, 3) := by decide +kernel
theorem dL_law_354 : decode cL_law 354 = .ok (.iconst 0, 1) := by decide +kernel
theorem dL_law_355 : decode cL_law 355 = .ok (.ireturn, 1) := by decide +kernel
theorem dL_law_356 : decode cL_law 356 = .ok (.aload_n 1, 1) := by decide +kernel
theorem dL_law_357 : decode cL_law 357 = .ok (.aload_n 0, 1) := by decide +kernel
theorem dL_law_358 : decode cL_law 358 = .ok (.iload_n 3, 1) := by decide +kernel
theorem dL_law_359 : decode cL_law 359 = .ok (.iconst 1, 1) := by decide +kernel
theorem dL_law_360 : decode cL_law 360 = .ok (.iadd, 1) := by decide +kernel
theorem dL_law_361 : decode cL_law 361 = .ok (.iaload, 1) := by decide +kernel
theorem dL_law_362 : decode cL_law 362 = .ok (.aload_n 0, 1) := by decide +kernel
theorem dL_law_363 : decode cL_law 363 = .ok (.iload_n 3, 1) := by decide +kernel
theorem dL_law_364 : decode cL_law 364 = .ok (.iconst 2, 1) := by decide +kernel
theorem dL_law_365 : decode cL_law 365 = .ok (.iadd, 1) := by decide +kernel
theorem dL_law_366 : decode cL_law 366 = .ok (.iaload, 1) := by decide +kernel
theorem dL_law_367 : decode cL_law 367 = .ok (.aload_n 0, 1) := by decide +kernel
theorem dL_law_368 : decode cL_law 368 = .ok (.iload_n 3, 1) := by decide +kernel
theorem dL_law_369 : decode cL_law 369 = .ok (.iconst 3, 1) := by decide +kernel
theorem dL_law_370 : decode cL_law 370 = .ok (.iadd, 1) := by decide +kernel
theorem dL_law_371 : decode cL_law 371 = .ok (.iaload, 1) := by decide +kernel
theorem dL_law_372 : decode cL_law 372 = .ok (.invokevirtual 48, 3) := by decide +kernel
theorem dL_law_375 : decode cL_law 375 = .ok (.aload_n 2, 1) := by decide +kernel
theorem dL_law_376 : decode cL_law 376 = .ok (.aload_n 0, 1) := by decide +kernel
theorem dL_law_377 : decode cL_law 377 = .ok (.iload_n 3, 1) := by decide +kernel
theorem dL_law_378 : decode cL_law 378 = .ok (.iconst 1, 1) := by decide +kernel
theorem dL_law_379 : decode cL_law 379 = .ok (.iadd, 1) := by decide +kernel
theorem dL_law_380 : decode cL_law 380 = .ok (.iaload, 1) := by decide +kernel
theorem dL_law_381 : decode cL_law 381 = .ok (.aload_n 0, 1) := by decide +kernel
theorem dL_law_382 : decode cL_law 382 = .ok (.iload_n 3, 1) := by decide +kernel
theorem dL_law_383 : decode cL_law 383 = .ok (.iconst 2, 1) := by decide +kernel
theorem dL_law_384 : decode cL_law 384 = .ok (.iadd, 1) := by decide +kernel
theorem dL_law_385 : decode cL_law 385 = .ok (.iaload, 1) := by decide +kernel
theorem dL_law_386 : decode cL_law 386 = .ok (.aload_n 0, 1) := by decide +kernel
theorem dL_law_387 : decode cL_law 387 = .ok (.iload_n 3, 1) := by decide +kernel
theorem dL_law_388 : decode cL_law 388 = .ok (.iconst 3, 1) := by decide +kernel
theorem dL_law_389 : decode cL_law 389 = .ok (.iadd, 1) := by decide +kernel
theorem dL_law_390 : decode cL_law 390 = .ok (.iaload, 1) := by decide +kernel
theorem dL_law_391 : decode cL_law 391 = .ok (.invokevirtual 52, 3) := by decide +kernel
theorem dL_law_394 : decode cL_law 394 = .ok (.if_icmp .eq 682, 3) := by decide +kernel
theorem dL_law_397 : decode cL_law 397 = .ok (.iconst 0, 1) := by decide +kernel
theorem dL_law_398 : decode cL_law 398 = .ok (.ireturn, 1) := by decide +kernel
theorem dL_law_399 : decode cL_law 399 = .ok (.aload_n 1, 1) := by decide +kernel
theorem dL_law_400 : decode cL_law 400 = .ok (.invokevirtual 53, 3) := by decide +kernel
theorem dL_law_403 : decode cL_law 403 = .ok (.aload_n 2, 1) := by decide +kernel
theorem dL_law_404 : decode cL_law 404 = .ok (.invokevirtual 56, 3) := by decide +kernel
theorem dL_law_407 : decode cL_law 407 = .ok (.if_icmp .eq 669, 3) := by decide +kernel
theorem dL_law_410 : decode cL_law 410 = .ok (.iconst 0, 1) := by decide +kernel
theorem dL_law_411 : decode cL_law 411 = .ok (.ireturn, 1) := by decide +kernel
theorem dL_law_412 : decode cL_law 412 = .ok (.aload_n 1, 1) := by decide +kernel
theorem dL_law_413 : decode cL_law 413 = .ok (.aload_n 0, 1) := by decide +kernel
theorem dL_law_414 : decode cL_law 414 = .ok (.iload_n 3, 1) := by decide +kernel
theorem dL_law_415 : decode cL_law 415 = .ok (.iconst 1, 1) := by decide +kernel
theorem dL_law_416 : decode cL_law 416 = .ok (.iadd, 1) := by decide +kernel
theorem dL_law_417 : decode cL_law 417 = .ok (.iaload, 1) := by decide +kernel
theorem dL_law_418 : decode cL_law 418 = .ok (.aload_n 0, 1) := by decide +kernel
theorem dL_law_419 : decode cL_law 419 = .ok (.iload_n 3, 1) := by decide +kernel
theorem dL_law_420 : decode cL_law 420 = .ok (.iconst 2, 1) := by decide +kernel
theorem dL_law_421 : decode cL_law 421 = .ok (.iadd, 1) := by decide +kernel
theorem dL_law_422 : decode cL_law 422 = .ok (.iaload, 1) := by decide +kernel
theorem dL_law_423 : decode cL_law 423 = .ok (.invokevirtual 57, 3) := by decide +kernel
theorem dL_law_426 : decode cL_law 426 = .ok (.aload_n 2, 1) := by decide +kernel
theorem dL_law_427 : decode cL_law 427 = .ok (.aload_n 0, 1) := by decide +kernel
theorem dL_law_428 : decode cL_law 428 = .ok (.iload_n 3, 1) := by decide +kernel
theorem dL_law_429 : decode cL_law 429 = .ok (.iconst 1, 1) := by decide +kernel
theorem dL_law_430 : decode cL_law 430 = .ok (.iadd, 1) := by decide +kernel
theorem dL_law_431 : decode cL_law 431 = .ok (.iaload, 1) := by decide +kernel
theorem dL_law_432 : decode cL_law 432 = .ok (.aload_n 0, 1) := by decide +kernel
theorem dL_law_433 : decode cL_law 433 = .ok (.iload_n 3, 1) := by decide +kernel
theorem dL_law_434 : decode cL_law 434 = .ok (.iconst 2, 1) := by decide +kernel
theorem dL_law_435 : decode cL_law 435 = .ok (.iadd, 1) := by decide +kernel
theorem dL_law_436 : decode cL_law 436 = .ok (.iaload, 1) := by decide +kernel
theorem dL_law_437 : decode cL_law 437 = .ok (.invokevirtual 60, 3) := by decide +kernel
theorem dL_law_440 : decode cL_law 440 = .ok (.if_icmp .eq 636, 3) := by decide +kernel
theorem dL_law_443 : decode cL_law 443 = .ok (.iconst 0, 1) := by decide +kernel
theorem dL_law_444 : decode cL_law 444 = .ok (.ireturn, 1) := by decide +kernel
theorem dL_law_445 : decode cL_law 445 = .ok (.aload_n 1, 1) := by decide +kernel
theorem dL_law_446 : decode cL_law 446 = .ok (.aload_n 0, 1) := by decide +kernel
theorem dL_law_447 : decode cL_law 447 = .ok (.iload_n 3, 1) := by decide +kernel
theorem dL_law_448 : decode cL_law 448 = .ok (.iconst 1, 1) := by decide +kernel
theorem dL_law_449 : decode cL_law 449 = .ok (.iadd, 1) := by decide +kernel
theorem dL_law_450 : decode cL_law 450 = .ok (.iaload, 1) := by decide +kernel
theorem dL_law_451 : decode cL_law 451 = .ok (.aload_n 0, 1) := by decide +kernel
theorem dL_law_452 : decode cL_law 452 = .ok (.iload_n 3, 1) := by decide +kernel
theorem dL_law_453 : decode cL_law 453 = .ok (.iconst 2, 1) := by decide +kernel
theorem dL_law_454 : decode cL_law 454 = .ok (.iadd, 1) := by decide +kernel
theorem dL_law_455 : decode cL_law 455 = .ok (.iaload, 1) := by decide +kernel
theorem dL_law_456 : decode cL_law 456 = .ok (.invokevirtual 61, 3) := by decide +kernel
theorem dL_law_459 : decode cL_law 459 = .ok (.aload_n 2, 1) := by decide +kernel
theorem dL_law_460 : decode cL_law 460 = .ok (.aload_n 0, 1) := by decide +kernel
theorem dL_law_461 : decode cL_law 461 = .ok (.iload_n 3, 1) := by decide +kernel
theorem dL_law_462 : decode cL_law 462 = .ok (.iconst 1, 1) := by decide +kernel
theorem dL_law_463 : decode cL_law 463 = .ok (.iadd, 1) := by decide +kernel
theorem dL_law_464 : decode cL_law 464 = .ok (.iaload, 1) := by decide +kernel
theorem dL_law_465 : decode cL_law 465 = .ok (.aload_n 0, 1) := by decide +kernel
theorem dL_law_466 : decode cL_law 466 = .ok (.iload_n 3, 1) := by decide +kernel
theorem dL_law_467 : decode cL_law 467 = .ok (.iconst 2, 1) := by decide +kernel
theorem dL_law_468 : decode cL_law 468 = .ok (.iadd, 1) := by decide +kernel
theorem dL_law_469 : decode cL_law 469 = .ok (.iaload, 1) := by decide +kernel
theorem dL_law_470 : decode cL_law 470 = .ok (.invokevirtual 64, 3) := by decide +kernel
theorem dL_law_473 : decode cL_law 473 = .ok (.if_icmp .eq 603, 3) := by decide +kernel
theorem dL_law_476 : decode cL_law 476 = .ok (.iconst 0, 1) := by decide +kernel
theorem dL_law_477 : decode cL_law 477 = .ok (.ireturn, 1) := by decide +kernel
theorem dL_law_478 : decode cL_law 478 = .ok (.aload_n 1, 1) := by decide +kernel
theorem dL_law_479 : decode cL_law 479 = .ok (.invokevirtual 65, 3) := by decide +kernel
theorem dL_law_482 : decode cL_law 482 = .ok (.aload_n 2, 1) := by decide +kernel
theorem dL_law_483 : decode cL_law 483 = .ok (.invokevirtual 68, 3) := by decide +kernel
theorem dL_law_486 : decode cL_law 486 = .ok (.if_icmp .eq 590, 3) := by decide +kernel
theorem dL_law_489 : decode cL_law 489 = .ok (.iconst 0, 1) := by decide +kernel
theorem dL_law_490 : decode cL_law 490 = .ok (.ireturn, 1) := by decide +kernel
theorem dL_law_491 : decode cL_law 491 = .ok (.aload_n 1, 1) := by decide +kernel
theorem dL_law_492 : decode cL_law 492 = .ok (.aload_n 0, 1) := by decide +kernel
theorem dL_law_493 : decode cL_law 493 = .ok (.iload_n 3, 1) := by decide +kernel
theorem dL_law_494 : decode cL_law 494 = .ok (.iconst 1, 1) := by decide +kernel
theorem dL_law_495 : decode cL_law 495 = .ok (.iadd, 1) := by decide +kernel
theorem dL_law_496 : decode cL_law 496 = .ok (.iaload, 1) := by decide +kernel
theorem dL_law_497 : decode cL_law 497 = .ok (.aload_n 0, 1) := by decide +kernel
theorem dL_law_498 : decode cL_law 498 = .ok (.iload_n 3, 1) := by decide +kernel
theorem dL_law_499 : decode cL_law 499 = .ok (.iconst 2, 1) := by decide +kernel
theorem dL_law_500 : decode cL_law 500 = .ok (.iadd, 1) := by decide +kernel
theorem dL_law_501 : decode cL_law 501 = .ok (.iaload, 1) := by decide +kernel
theorem dL_law_502 : decode cL_law 502 = .ok (.invokevirtual 69, 3) := by decide +kernel
theorem dL_law_505 : decode cL_law 505 = .ok (.aload_n 2, 1) := by decide +kernel
theorem dL_law_506 : decode cL_law 506 = .ok (.aload_n 0, 1) := by decide +kernel
theorem dL_law_507 : decode cL_law 507 = .ok (.iload_n 3, 1) := by decide +kernel
theorem dL_law_508 : decode cL_law 508 = .ok (.iconst 1, 1) := by decide +kernel
theorem dL_law_509 : decode cL_law 509 = .ok (.iadd, 1) := by decide +kernel
theorem dL_law_510 : decode cL_law 510 = .ok (.iaload, 1) := by decide +kernel
theorem dL_law_511 : decode cL_law 511 = .ok (.aload_n 0, 1) := by decide +kernel
theorem dL_law_512 : decode cL_law 512 = .ok (.iload_n 3, 1) := by decide +kernel
theorem dL_law_513 : decode cL_law 513 = .ok (.iconst 2, 1) := by decide +kernel
theorem dL_law_514 : decode cL_law 514 = .ok (.iadd, 1) := by decide +kernel
theorem dL_law_515 : decode cL_law 515 = .ok (.iaload, 1) := by decide +kernel
theorem dL_law_516 : decode cL_law 516 = .ok (.invokevirtual 72, 3) := by decide +kernel
theorem dL_law_519 : decode cL_law 519 = .ok (.if_icmp .eq 557, 3) := by decide +kernel
theorem dL_law_522 : decode cL_law 522 = .ok (.iconst 0, 1) := by decide +kernel
theorem dL_law_523 : decode cL_law 523 = .ok (.ireturn, 1) := by decide +kernel
theorem dL_law_524 : decode cL_law 524 = .ok (.aload_n 1, 1) := by decide +kernel
theorem dL_law_525 : decode cL_law 525 = .ok (.aload_n 0, 1) := by decide +kernel
theorem dL_law_526 : decode cL_law 526 = .ok (.iload_n 3, 1) := by decide +kernel
theorem dL_law_527 : decode cL_law 527 = .ok (.iconst 1, 1) := by decide +kernel
theorem dL_law_528 : decode cL_law 528 = .ok (.iadd, 1) := by decide +kernel
theorem dL_law_529 : decode cL_law 529 = .ok (.iaload, 1) := by decide +kernel
theorem dL_law_530 : decode cL_law 530 = .ok (.invokevirtual 73, 3) := by decide +kernel
theorem dL_law_533 : decode cL_law 533 = .ok (.aload_n 2, 1) := by decide +kernel
theorem dL_law_534 : decode cL_law 534 = .ok (.aload_n 0, 1) := by decide +kernel
theorem dL_law_535 : decode cL_law 535 = .ok (.iload_n 3, 1) := by decide +kernel
theorem dL_law_536 : decode cL_law 536 = .ok (.iconst 1, 1) := by decide +kernel
theorem dL_law_537 : decode cL_law 537 = .ok (.iadd, 1) := by decide +kernel
theorem dL_law_538 : decode cL_law 538 = .ok (.iaload, 1) := by decide +kernel
theorem dL_law_539 : decode cL_law 539 = .ok (.invokevirtual 76, 3) := by decide +kernel
theorem dL_law_542 : decode cL_law 542 = .ok (.if_icmp .eq 534, 3) := by decide +kernel
theorem dL_law_545 : decode cL_law 545 = .ok (.iconst 0, 1) := by decide +kernel
theorem dL_law_546 : decode cL_law 546 = .ok (.ireturn, 1) := by decide +kernel
theorem dL_law_547 : decode cL_law 547 = .ok (.aload_n 1, 1) := by decide +kernel
theorem dL_law_548 : decode cL_law 548 = .ok (.aload_n 0, 1) := by decide +kernel
theorem dL_law_549 : decode cL_law 549 = .ok (.iload_n 3, 1) := by decide +kernel
theorem dL_law_550 : decode cL_law 550 = .ok (.iconst 1, 1) := by decide +kernel
theorem dL_law_551 : decode cL_law 551 = .ok (.iadd, 1) := by decide +kernel
theorem dL_law_552 : decode cL_law 552 = .ok (.iaload, 1) := by decide +kernel
theorem dL_law_553 : decode cL_law 553 = .ok (.aload_n 0, 1) := by decide +kernel
theorem dL_law_554 : decode cL_law 554 = .ok (.iload_n 3, 1) := by decide +kernel
theorem dL_law_555 : decode cL_law 555 = .ok (.iconst 2, 1) := by decide +kernel
theorem dL_law_556 : decode cL_law 556 = .ok (.iadd, 1) := by decide +kernel
theorem dL_law_557 : decode cL_law 557 = .ok (.iaload, 1) := by decide +kernel
theorem dL_law_558 : decode cL_law 558 = .ok (.invokevirtual 77, 3) := by decide +kernel
theorem dL_law_561 : decode cL_law 561 = .ok (.aload_n 2, 1) := by decide +kernel
theorem dL_law_562 : decode cL_law 562 = .ok (.aload_n 0, 1) := by decide +kernel
theorem dL_law_563 : decode cL_law 563 = .ok (.iload_n 3, 1) := by decide +kernel
theorem dL_law_564 : decode cL_law 564 = .ok (.iconst 1, 1) := by decide +kernel
theorem dL_law_565 : decode cL_law 565 = .ok (.iadd, 1) := by decide +kernel
theorem dL_law_566 : decode cL_law 566 = .ok (.iaload, 1) := by decide +kernel
theorem dL_law_567 : decode cL_law 567 = .ok (.aload_n 0, 1) := by decide +kernel
theorem dL_law_568 : decode cL_law 568 = .ok (.iload_n 3, 1) := by decide +kernel
theorem dL_law_569 : decode cL_law 569 = .ok (.iconst 2, 1) := by decide +kernel
theorem dL_law_570 : decode cL_law 570 = .ok (.iadd, 1) := by decide +kernel
theorem dL_law_571 : decode cL_law 571 = .ok (.iaload, 1) := by decide +kernel
theorem dL_law_572 : decode cL_law 572 = .ok (.invokevirtual 80, 3) := by decide +kernel
theorem dL_law_575 : decode cL_law 575 = .ok (.if_icmp .eq 501, 3) := by decide +kernel
theorem dL_law_578 : decode cL_law 578 = .ok (.iconst 0, 1) := by decide +kernel
theorem dL_law_579 : decode cL_law 579 = .ok (.ireturn, 1) := by decide +kernel
theorem dL_law_580 : decode cL_law 580 = .ok (.aload_n 1, 1) := by decide +kernel
theorem dL_law_581 : decode cL_law 581 = .ok (.aload_n 0, 1) := by decide +kernel
theorem dL_law_582 : decode cL_law 582 = .ok (.iload_n 3, 1) := by decide +kernel
theorem dL_law_583 : decode cL_law 583 = .ok (.iconst 1, 1) := by decide +kernel
theorem dL_law_584 : decode cL_law 584 = .ok (.iadd, 1) := by decide +kernel
theorem dL_law_585 : decode cL_law 585 = .ok (.iaload, 1) := by decide +kernel
theorem dL_law_586 : decode cL_law 586 = .ok (.invokevirtual 81, 3) := by decide +kernel
theorem dL_law_589 : decode cL_law 589 = .ok (.aload_n 2, 1) := by decide +kernel
theorem dL_law_590 : decode cL_law 590 = .ok (.aload_n 0, 1) := by decide +kernel
theorem dL_law_591 : decode cL_law 591 = .ok (.iload_n 3, 1) := by decide +kernel
theorem dL_law_592 : decode cL_law 592 = .ok (.iconst 1, 1) := by decide +kernel
theorem dL_law_593 : decode cL_law 593 = .ok (.iadd, 1) := by decide +kernel
theorem dL_law_594 : decode cL_law 594 = .ok (.iaload, 1) := by decide +kernel
theorem dL_law_595 : decode cL_law 595 = .ok (.invokevirtual 84, 3) := by decide +kernel
theorem dL_law_598 : decode cL_law 598 = .ok (.if_icmp .eq 478, 3) := by decide +kernel
theorem dL_law_601 : decode cL_law 601 = .ok (.iconst 0, 1) := by decide +kernel
theorem dL_law_602 : decode cL_law 602 = .ok (.ireturn, 1) := by decide +kernel
theorem dL_law_603 : decode cL_law 603 = .ok (.aload_n 1, 1) := by decide +kernel
theorem dL_law_604 : decode cL_law 604 = .ok (.aload_n 0, 1) := by decide +kernel
theorem dL_law_605 : decode cL_law 605 = .ok (.iload_n 3, 1) := by decide +kernel
theorem dL_law_606 : decode cL_law 606 = .ok (.iconst 1, 1) := by decide +kernel
theorem dL_law_607 : decode cL_law 607 = .ok (.iadd, 1) := by decide +kernel
theorem dL_law_608 : decode cL_law 608 = .ok (.iaload, 1) := by decide +kernel
theorem dL_law_609 : decode cL_law 609 = .ok (.aload_n 0, 1) := by decide +kernel
theorem dL_law_610 : decode cL_law 610 = .ok (.iload_n 3, 1) := by decide +kernel
theorem dL_law_611 : decode cL_law 611 = .ok (.iconst 2, 1) := by decide +kernel
theorem dL_law_612 : decode cL_law 612 = .ok (.iadd, 1) := by decide +kernel
theorem dL_law_613 : decode cL_law 613 = .ok (.iaload, 1) := by decide +kernel
theorem dL_law_614 : decode cL_law 614 = .ok (.invokevirtual 85, 3) := by decide +kernel
theorem dL_law_617 : decode cL_law 617 = .ok (.aload_n 2, 1) := by decide +kernel
theorem dL_law_618 : decode cL_law 618 = .ok (.aload_n 0, 1) := by decide +kernel
theorem dL_law_619 : decode cL_law 619 = .ok (.iload_n 3, 1) := by decide +kernel
theorem dL_law_620 : decode cL_law 620 = .ok (.iconst 1, 1) := by decide +kernel
theorem dL_law_621 : decode cL_law 621 = .ok (.iadd, 1) := by decide +kernel
theorem dL_law_622 : decode cL_law 622 = .ok (.iaload, 1) := by decide +kernel
theorem dL_law_623 : decode cL_law 623 = .ok (.aload_n 0, 1) := by decide +kernel
theorem dL_law_624 : decode cL_law 624 = .ok (.iload_n 3, 1) := by decide +kernel
theorem dL_law_625 : decode cL_law 625 = .ok (.iconst 2, 1) := by decide +kernel
theorem dL_law_626 : decode cL_law 626 = .ok (.iadd, 1) := by decide +kernel
theorem dL_law_627 : decode cL_law 627 = .ok (.iaload, 1) := by decide +kernel
theorem dL_law_628 : decode cL_law 628 = .ok (.invokevirtual 88, 3) := by decide +kernel
theorem dL_law_631 : decode cL_law 631 = .ok (.if_icmp .eq 445, 3) := by decide +kernel
theorem dL_law_634 : decode cL_law 634 = .ok (.iconst 0, 1) := by decide +kernel
theorem dL_law_635 : decode cL_law 635 = .ok (.ireturn, 1) := by decide +kernel
theorem dL_law_636 : decode cL_law 636 = .ok (.aload_n 1, 1) := by decide +kernel
theorem dL_law_637 : decode cL_law 637 = .ok (.aload_n 0, 1) := by decide +kernel
theorem dL_law_638 : decode cL_law 638 = .ok (.iload_n 3, 1) := by decide +kernel
theorem dL_law_639 : decode cL_law 639 = .ok (.iconst 1, 1) := by decide +kernel
theorem dL_law_640 : decode cL_law 640 = .ok (.iadd, 1) := by decide +kernel
theorem dL_law_641 : decode cL_law 641 = .ok (.iaload, 1) := by decide +kernel
theorem dL_law_642 : decode cL_law 642 = .ok (.aload_n 0, 1) := by decide +kernel
theorem dL_law_643 : decode cL_law 643 = .ok (.iload_n 3, 1) := by decide +kernel
theorem dL_law_644 : decode cL_law 644 = .ok (.iconst 2, 1) := by decide +kernel
theorem dL_law_645 : decode cL_law 645 = .ok (.iadd, 1) := by decide +kernel
theorem dL_law_646 : decode cL_law 646 = .ok (.iaload, 1) := by decide +kernel
theorem dL_law_647 : decode cL_law 647 = .ok (.aload_n 0, 1) := by decide +kernel
theorem dL_law_648 : decode cL_law 648 = .ok (.iload_n 3, 1) := by decide +kernel
theorem dL_law_649 : decode cL_law 649 = .ok (.iconst 3, 1) := by decide +kernel
theorem dL_law_650 : decode cL_law 650 = .ok (.iadd, 1) := by decide +kernel
theorem dL_law_651 : decode cL_law 651 = .ok (.iaload, 1) := by decide +kernel
theorem dL_law_652 : decode cL_law 652 = .ok (.aload_n 0, 1) := by decide +kernel
theorem dL_law_653 : decode cL_law 653 = .ok (.iload_n 3, 1) := by decide +kernel
theorem dL_law_654 : decode cL_law 654 = .ok (.iconst 4, 1) := by decide +kernel
theorem dL_law_655 : decode cL_law 655 = .ok (.iadd, 1) := by decide +kernel
theorem dL_law_656 : decode cL_law 656 = .ok (.iaload, 1) := by decide +kernel
theorem dL_law_657 : decode cL_law 657 = .ok (.invokevirtual 89, 3) := by decide +kernel
theorem dL_law_660 : decode cL_law 660 = .ok (.aload_n 2, 1) := by decide +kernel
theorem dL_law_661 : decode cL_law 661 = .ok (.aload_n 0, 1) := by decide +kernel
theorem dL_law_662 : decode cL_law 662 = .ok (.iload_n 3, 1) := by decide +kernel
theorem dL_law_663 : decode cL_law 663 = .ok (.iconst 1, 1) := by decide +kernel
theorem dL_law_664 : decode cL_law 664 = .ok (.iadd, 1) := by decide +kernel
theorem dL_law_665 : decode cL_law 665 = .ok (.iaload, 1) := by decide +kernel
theorem dL_law_666 : decode cL_law 666 = .ok (.aload_n 0, 1) := by decide +kernel
theorem dL_law_667 : decode cL_law 667 = .ok (.iload_n 3, 1) := by decide +kernel
theorem dL_law_668 : decode cL_law 668 = .ok (.iconst 2, 1) := by decide +kernel
theorem dL_law_669 : decode cL_law 669 = .ok (.iadd, 1) := by decide +kernel
theorem dL_law_670 : decode cL_law 670 = .ok (.iaload, 1) := by decide +kernel
theorem dL_law_671 : decode cL_law 671 = .ok (.aload_n 0, 1) := by decide +kernel
theorem dL_law_672 : decode cL_law 672 = .ok (.iload_n 3, 1) := by decide +kernel
theorem dL_law_673 : decode cL_law 673 = .ok (.iconst 3, 1) := by decide +kernel
theorem dL_law_674 : decode cL_law 674 = .ok (.iadd, 1) := by decide +kernel
theorem dL_law_675 : decode cL_law 675 = .ok (.iaload, 1) := by decide +kernel
theorem dL_law_676 : decode cL_law 676 = .ok (.aload_n 0, 1) := by decide +kernel
theorem dL_law_677 : decode cL_law 677 = .ok (.iload_n 3, 1) := by decide +kernel
theorem dL_law_678 : decode cL_law 678 = .ok (.iconst 4, 1) := by decide +kernel
theorem dL_law_679 : decode cL_law 679 = .ok (.iadd, 1) := by decide +kernel
theorem dL_law_680 : decode cL_law 680 = .ok (.iaload, 1) := by decide +kernel
theorem dL_law_681 : decode cL_law 681 = .ok (.invokevirtual 93, 3) := by decide +kernel
theorem dL_law_684 : decode cL_law 684 = .ok (.if_icmp .eq 392, 3) := by decide +kernel
theorem dL_law_687 : decode cL_law 687 = .ok (.iconst 0, 1) := by decide +kernel
theorem dL_law_688 : decode cL_law 688 = .ok (.ireturn, 1) := by decide +kernel
theorem dL_law_689 : decode cL_law 689 = .ok (.aload_n 1, 1) := by decide +kernel
theorem dL_law_690 : decode cL_law 690 = .ok (.aload_n 0, 1) := by decide +kernel
theorem dL_law_691 : decode cL_law 691 = .ok (.iload_n 3, 1) := by decide +kernel
theorem dL_law_692 : decode cL_law 692 = .ok (.iconst 1, 1) := by decide +kernel
theorem dL_law_693 : decode cL_law 693 = .ok (.iadd, 1) := by decide +kernel
theorem dL_law_694 : decode cL_law 694 = .ok (.iaload, 1) := by decide +kernel
theorem dL_law_695 : decode cL_law 695 = .ok (.aload_n 0, 1) := by decide +kernel
theorem dL_law_696 : decode cL_law 696 = .ok (.iload_n 3, 1) := by decide +kernel
theorem dL_law_697 : decode cL_law 697 = .ok (.iconst 2, 1) := by decide +kernel
theorem dL_law_698 : decode cL_law 698 = .ok (.iadd, 1) := by decide +kernel
theorem dL_law_699 : decode cL_law 699 = .ok (.iaload, 1) := by decide +kernel
theorem dL_law_700 : decode cL_law 700 = .ok (.aload_n 0, 1) := by decide +kernel
theorem dL_law_701 : decode cL_law 701 = .ok (.iload_n 3, 1) := by decide +kernel
theorem dL_law_702 : decode cL_law 702 = .ok (.iconst 3, 1) := by decide +kernel
theorem dL_law_703 : decode cL_law 703 = .ok (.iadd, 1) := by decide +kernel
theorem dL_law_704 : decode cL_law 704 = .ok (.iaload, 1) := by decide +kernel
theorem dL_law_705 : decode cL_law 705 = .ok (.invokevirtual 94, 3) := by decide +kernel
theorem dL_law_708 : decode cL_law 708 = .ok (.aload_n 2, 1) := by decide +kernel
theorem dL_law_709 : decode cL_law 709 = .ok (.aload_n 0, 1) := by decide +kernel
theorem dL_law_710 : decode cL_law 710 = .ok (.iload_n 3, 1) := by decide +kernel
theorem dL_law_711 : decode cL_law 711 = .ok (.iconst 1, 1) := by decide +kernel
theorem dL_law_712 : decode cL_law 712 = .ok (.iadd, 1) := by decide +kernel
theorem dL_law_713 : decode cL_law 713 = .ok (.iaload, 1) := by decide +kernel
theorem dL_law_714 : decode cL_law 714 = .ok (.aload_n 0, 1) := by decide +kernel
theorem dL_law_715 : decode cL_law 715 = .ok (.iload_n 3, 1) := by decide +kernel
theorem dL_law_716 : decode cL_law 716 = .ok (.iconst 2, 1) := by decide +kernel
theorem dL_law_717 : decode cL_law 717 = .ok (.iadd, 1) := by decide +kernel
theorem dL_law_718 : decode cL_law 718 = .ok (.iaload, 1) := by decide +kernel
theorem dL_law_719 : decode cL_law 719 = .ok (.aload_n 0, 1) := by decide +kernel
theorem dL_law_720 : decode cL_law 720 = .ok (.iload_n 3, 1) := by decide +kernel
theorem dL_law_721 : decode cL_law 721 = .ok (.iconst 3, 1) := by decide +kernel
theorem dL_law_722 : decode cL_law 722 = .ok (.iadd, 1) := by decide +kernel
theorem dL_law_723 : decode cL_law 723 = .ok (.iaload, 1) := by decide +kernel
theorem dL_law_724 : decode cL_law 724 = .ok (.invokevirtual 97, 3) := by decide +kernel
theorem dL_law_727 : decode cL_law 727 = .ok (.if_icmp .eq 349, 3) := by decide +kernel
theorem dL_law_730 : decode cL_law 730 = .ok (.iconst 0, 1) := by decide +kernel
theorem dL_law_731 : decode cL_law 731 = .ok (.ireturn, 1) := by decide +kernel
theorem dL_law_732 : decode cL_law 732 = .ok (.aload_n 1, 1) := by decide +kernel
theorem dL_law_733 : decode cL_law 733 = .ok (.aload_n 0, 1) := by decide +kernel
theorem dL_law_734 : decode cL_law 734 = .ok (.iload_n 3, 1) := by decide +kernel
theorem dL_law_735 : decode cL_law 735 = .ok (.iconst 1, 1) := by decide +kernel
theorem dL_law_736 : decode cL_law 736 = .ok (.iadd, 1) := by decide +kernel
theorem dL_law_737 : decode cL_law 737 = .ok (.iaload, 1) := by decide +kernel
theorem dL_law_738 : decode cL_law 738 = .ok (.invokevirtual 98, 3) := by decide +kernel
theorem dL_law_741 : decode cL_law 741 = .ok (.aload_n 2, 1) := by decide +kernel
theorem dL_law_742 : decode cL_law 742 = .ok (.aload_n 0, 1) := by decide +kernel
theorem dL_law_743 : decode cL_law 743 = .ok (.iload_n 3, 1) := by decide +kernel
theorem dL_law_744 : decode cL_law 744 = .ok (.iconst 1, 1) := by decide +kernel
theorem dL_law_745 : decode cL_law 745 = .ok (.iadd, 1) := by decide +kernel
theorem dL_law_746 : decode cL_law 746 = .ok (.iaload, 1) := by decide +kernel
theorem dL_law_747 : decode cL_law 747 = .ok (.invokevirtual 101, 3) := by decide +kernel
theorem dL_law_750 : decode cL_law 750 = .ok (.if_icmp .eq 326, 3) := by decide +kernel
theorem dL_law_753 : decode cL_law 753 = .ok (.iconst 0, 1) := by decide +kernel
theorem dL_law_754 : decode cL_law 754 = .ok (.ireturn, 1) := by decide +kernel
theorem dL_law_755 : decode cL_law 755 = .ok (.aload_n 1, 1) := by decide +kernel
theorem dL_law_756 : decode cL_law 756 = .ok (.aload_n 0, 1) := by decide +kernel
theorem dL_law_757 : decode cL_law 757 = .ok (.iload_n 3, 1) := by decide +kernel
theorem dL_law_758 : decode cL_law 758 = .ok (.iconst 1, 1) := by decide +kernel
theorem dL_law_759 : decode cL_law 759 = .ok (.iadd, 1) := by decide +kernel
theorem dL_law_760 : decode cL_law 760 = .ok (.iaload, 1) := by decide +kernel
theorem dL_law_761 : decode cL_law 761 = .ok (.aload_n 0, 1) := by decide +kernel
theorem dL_law_762 : decode cL_law 762 = .ok (.iload_n 3, 1) := by decide +kernel
theorem dL_law_763 : decode cL_law 763 = .ok (.iconst 2, 1) := by decide +kernel
theorem dL_law_764 : decode cL_law 764 = .ok (.iadd, 1) := by decide +kernel
theorem dL_law_765 : decode cL_law 765 = .ok (.iaload, 1) := by decide +kernel
theorem dL_law_766 : decode cL_law 766 = .ok (.aload_n 0, 1) := by decide +kernel
theorem dL_law_767 : decode cL_law 767 = .ok (.iload_n 3, 1) := by decide +kernel
theorem dL_law_768 : decode cL_law 768 = .ok (.iconst 3, 1) := by decide +kernel
theorem dL_law_769 : decode cL_law 769 = .ok (.iadd, 1) := by decide +kernel
theorem dL_law_770 : decode cL_law 770 = .ok (.iaload, 1) := by decide +kernel
theorem dL_law_771 : decode cL_law 771 = .ok (.invokevirtual 102, 3) := by decide +kernel
theorem dL_law_774 : decode cL_law 774 = .ok (.aload_n 2, 1) := by decide +kernel
theorem dL_law_775 : decode cL_law 775 = .ok (.aload_n 0, 1) := by decide +kernel
theorem dL_law_776 : decode cL_law 776 = .ok (.iload_n 3, 1) := by decide +kernel
theorem dL_law_777 : decode cL_law 777 = .ok (.iconst 1, 1) := by decide +kernel
theorem dL_law_778 : decode cL_law 778 = .ok (.iadd, 1) := by decide +kernel
theorem dL_law_779 : decode cL_law 779 = .ok (.iaload, 1) := by decide +kernel
theorem dL_law_780 : decode cL_law 780 = .ok (.aload_n 0, 1) := by decide +kernel
theorem dL_law_781 : decode cL_law 781 = .ok (.iload_n 3, 1) := by decide +kernel
theorem dL_law_782 : decode cL_law 782 = .ok (.iconst 2, 1) := by decide +kernel
theorem dL_law_783 : decode cL_law 783 = .ok (.iadd, 1) := by decide +kernel
theorem dL_law_784 : decode cL_law 784 = .ok (.iaload, 1) := by decide +kernel
theorem dL_law_785 : decode cL_law 785 = .ok (.aload_n 0, 1) := by decide +kernel
theorem dL_law_786 : decode cL_law 786 = .ok (.iload_n 3, 1) := by decide +kernel
theorem dL_law_787 : decode cL_law 787 = .ok (.iconst 3, 1) := by decide +kernel
theorem dL_law_788 : decode cL_law 788 = .ok (.iadd, 1) := by decide +kernel
theorem dL_law_789 : decode cL_law 789 = .ok (.iaload, 1) := by decide +kernel
theorem dL_law_790 : decode cL_law 790 = .ok (.invokevirtual 105, 3) := by decide +kernel
theorem dL_law_793 : decode cL_law 793 = .ok (.if_icmp .eq 283, 3) := by decide +kernel
theorem dL_law_796 : decode cL_law 796 = .ok (.iconst 0, 1) := by decide +kernel
theorem dL_law_797 : decode cL_law 797 = .ok (.ireturn, 1) := by decide +kernel
theorem dL_law_798 : decode cL_law 798 = .ok (.aload_n 1, 1) := by decide +kernel
theorem dL_law_799 : decode cL_law 799 = .ok (.aload_n 0, 1) := by decide +kernel
theorem dL_law_800 : decode cL_law 800 = .ok (.iload_n 3, 1) := by decide +kernel
theorem dL_law_801 : decode cL_law 801 = .ok (.iconst 1, 1) := by decide +kernel
theorem dL_law_802 : decode cL_law 802 = .ok (.iadd, 1) := by decide +kernel
theorem dL_law_803 : decode cL_law 803 = .ok (.iaload, 1) := by decide +kernel
theorem dL_law_804 : decode cL_law 804 = .ok (.aload_n 0, 1) := by decide +kernel
theorem dL_law_805 : decode cL_law 805 = .ok (.iload_n 3, 1) := by decide +kernel
theorem dL_law_806 : decode cL_law 806 = .ok (.iconst 2, 1) := by decide +kernel
theorem dL_law_807 : decode cL_law 807 = .ok (.iadd, 1) := by decide +kernel
theorem dL_law_808 : decode cL_law 808 = .ok (.iaload, 1) := by decide +kernel
theorem dL_law_809 : decode cL_law 809 = .ok (.aload_n 0, 1) := by decide +kernel
theorem dL_law_810 : decode cL_law 810 = .ok (.iload_n 3, 1) := by decide +kernel
theorem dL_law_811 : decode cL_law 811 = .ok (.iconst 3, 1) := by decide +kernel
theorem dL_law_812 : decode cL_law 812 = .ok (.iadd, 1) := by decide +kernel
theorem dL_law_813 : decode cL_law 813 = .ok (.iaload, 1) := by decide +kernel
theorem dL_law_814 : decode cL_law 814 = .ok (.invokevirtual 106, 3) := by decide +kernel
theorem dL_law_817 : decode cL_law 817 = .ok (.aload_n 2, 1) := by decide +kernel
theorem dL_law_818 : decode cL_law 818 = .ok (.aload_n 0, 1) := by decide +kernel
theorem dL_law_819 : decode cL_law 819 = .ok (.iload_n 3, 1) := by decide +kernel
theorem dL_law_820 : decode cL_law 820 = .ok (.iconst 1, 1) := by decide +kernel
theorem dL_law_821 : decode cL_law 821 = .ok (.iadd, 1) := by decide +kernel
theorem dL_law_822 : decode cL_law 822 = .ok (.iaload, 1) := by decide +kernel
theorem dL_law_823 : decode cL_law 823 = .ok (.aload_n 0, 1) := by decide +kernel
theorem dL_law_824 : decode cL_law 824 = .ok (.iload_n 3, 1) := by decide +kernel
theorem dL_law_825 : decode cL_law 825 = .ok (.iconst 2, 1) := by decide +kernel
theorem dL_law_826 : decode cL_law 826 = .ok (.iadd, 1) := by decide +kernel
theorem dL_law_827 : decode cL_law 827 = .ok (.iaload, 1) := by decide +kernel
theorem dL_law_828 : decode cL_law 828 = .ok (.aload_n 0, 1) := by decide +kernel
theorem dL_law_829 : decode cL_law 829 = .ok (.iload_n 3, 1) := by decide +kernel
theorem dL_law_830 : decode cL_law 830 = .ok (.iconst 3, 1) := by decide +kernel
theorem dL_law_831 : decode cL_law 831 = .ok (.iadd, 1) := by decide +kernel
theorem dL_law_832 : decode cL_law 832 = .ok (.iaload, 1) := by decide +kernel
theorem dL_law_833 : decode cL_law 833 = .ok (.invokevirtual 109, 3) := by decide +kernel
theorem dL_law_836 : decode cL_law 836 = .ok (.if_icmp .eq 240, 3) := by decide +kernel
theorem dL_law_839 : decode cL_law 839 = .ok (.iconst 0, 1) := by decide +kernel
theorem dL_law_840 : decode cL_law 840 = .ok (.ireturn, 1) := by decide +kernel
theorem dL_law_841 : decode cL_law 841 = .ok (.aload_n 1, 1) := by decide +kernel
theorem dL_law_842 : decode cL_law 842 = .ok (.aload_n 0, 1) := by decide +kernel
theorem dL_law_843 : decode cL_law 843 = .ok (.iload_n 3, 1) := by decide +kernel
theorem dL_law_844 : decode cL_law 844 = .ok (.iconst 1, 1) := by decide +kernel
theorem dL_law_845 : decode cL_law 845 = .ok (.iadd, 1) := by decide +kernel
theorem dL_law_846 : decode cL_law 846 = .ok (.iaload, 1) := by decide +kernel
theorem dL_law_847 : decode cL_law 847 = .ok (.aload_n 0, 1) := by decide +kernel
theorem dL_law_848 : decode cL_law 848 = .ok (.iload_n 3, 1) := by decide +kernel
theorem dL_law_849 : decode cL_law 849 = .ok (.iconst 2, 1) := by decide +kernel
theorem dL_law_850 : decode cL_law 850 = .ok (.iadd, 1) := by decide +kernel
theorem dL_law_851 : decode cL_law 851 = .ok (.iaload, 1) := by decide +kernel
theorem dL_law_852 : decode cL_law 852 = .ok (.invokevirtual 110, 3) := by decide +kernel
theorem dL_law_855 : decode cL_law 855 = .ok (.aload_n 2, 1) := by decide +kernel
theorem dL_law_856 : decode cL_law 856 = .ok (.aload_n 0, 1) := by decide +kernel
theorem dL_law_857 : decode cL_law 857 = .ok (.iload_n 3, 1) := by decide +kernel
theorem dL_law_858 : decode cL_law 858 = .ok (.iconst 1, 1) := by decide +kernel
theorem dL_law_859 : decode cL_law 859 = .ok (.iadd, 1) := by decide +kernel
theorem dL_law_860 : decode cL_law 860 = .ok (.iaload, 1) := by decide +kernel
theorem dL_law_861 : decode cL_law 861 = .ok (.aload_n 0, 1) := by decide +kernel
theorem dL_law_862 : decode cL_law 862 = .ok (.iload_n 3, 1) := by decide +kernel
theorem dL_law_863 : decode cL_law 863 = .ok (.iconst 2, 1) := by decide +kernel
theorem dL_law_864 : decode cL_law 864 = .ok (.iadd, 1) := by decide +kernel
theorem dL_law_865 : decode cL_law 865 = .ok (.iaload, 1) := by decide +kernel
theorem dL_law_866 : decode cL_law 866 = .ok (.invokevirtual 113, 3) := by decide +kernel
theorem dL_law_869 : decode cL_law 869 = .ok (.if_icmp .eq 207, 3) := by decide +kernel
theorem dL_law_872 : decode cL_law 872 = .ok (.iconst 0, 1) := by decide +kernel
theorem dL_law_873 : decode cL_law 873 = .ok (.ireturn, 1) := by decide +kernel
theorem dL_law_874 : decode cL_law 874 = .ok (.aload_n 1, 1) := by decide +kernel
theorem dL_law_875 : decode cL_law 875 = .ok (.aload_n 0, 1) := by decide +kernel
theorem dL_law_876 : decode cL_law 876 = .ok (.iload_n 3, 1) := by decide +kernel
theorem dL_law_877 : decode cL_law 877 = .ok (.iconst 1, 1) := by decide +kernel
theorem dL_law_878 : decode cL_law 878 = .ok (.iadd, 1) := by decide +kernel
theorem dL_law_879 : decode cL_law 879 = .ok (.iaload, 1) := by decide +kernel
theorem dL_law_880 : decode cL_law 880 = .ok (.aload_n 0, 1) := by decide +kernel
theorem dL_law_881 : decode cL_law 881 = .ok (.iload_n 3, 1) := by decide +kernel
theorem dL_law_882 : decode cL_law 882 = .ok (.iconst 2, 1) := by decide +kernel
theorem dL_law_883 : decode cL_law 883 = .ok (.iadd, 1) := by decide +kernel
theorem dL_law_884 : decode cL_law 884 = .ok (.iaload, 1) := by decide +kernel
theorem dL_law_885 : decode cL_law 885 = .ok (.invokevirtual 114, 3) := by decide +kernel
theorem dL_law_888 : decode cL_law 888 = .ok (.aload_n 2, 1) := by decide +kernel
theorem dL_law_889 : decode cL_law 889 = .ok (.aload_n 0, 1) := by decide +kernel
theorem dL_law_890 : decode cL_law 890 = .ok (.iload_n 3, 1) := by decide +kernel
theorem dL_law_891 : decode cL_law 891 = .ok (.iconst 1, 1) := by decide +kernel
theorem dL_law_892 : decode cL_law 892 = .ok (.iadd, 1) := by decide +kernel
theorem dL_law_893 : decode cL_law 893 = .ok (.iaload, 1) := by decide +kernel
theorem dL_law_894 : decode cL_law 894 = .ok (.aload_n 0, 1) := by decide +kernel
theorem dL_law_895 : decode cL_law 895 = .ok (.iload_n 3, 1) := by decide +kernel
theorem dL_law_896 : decode cL_law 896 = .ok (.iconst 2, 1) := by decide +kernel
theorem dL_law_897 : decode cL_law 897 = .ok (.iadd, 1) := by decide +kernel
theorem dL_law_898 : decode cL_law 898 = .ok (.iaload, 1) := by decide +kernel
theorem dL_law_899 : decode cL_law 899 = .ok (.invokevirtual 117, 3) := by decide +kernel
theorem dL_law_902 : decode cL_law 902 = .ok (.if_icmp .eq 174, 3) := by decide +kernel
theorem dL_law_905 : decode cL_law 905 = .ok (.iconst 0, 1) := by decide +kernel
theorem dL_law_906 : decode cL_law 906 = .ok (.ireturn, 1) := by decide +kernel
theorem dL_law_907 : decode cL_law 907 = .ok (.aload_n 1, 1) := by decide +kernel
theorem dL_law_908 : decode cL_law 908 = .ok (.aload_n 0, 1) := by decide +kernel
theorem dL_law_909 : decode cL_law 909 = .ok (.iload_n 3, 1) := by decide +kernel
theorem dL_law_910 : decode cL_law 910 = .ok (.iconst 1, 1) := by decide +kernel
theorem dL_law_911 : decode cL_law 911 = .ok (.iadd, 1) := by decide +kernel
theorem dL_law_912 : decode cL_law 912 = .ok (.iaload, 1) := by decide +kernel
theorem dL_law_913 : decode cL_law 913 = .ok (.aload_n 0, 1) := by decide +kernel
theorem dL_law_914 : decode cL_law 914 = .ok (.iload_n 3, 1) := by decide +kernel
theorem dL_law_915 : decode cL_law 915 = .ok (.iconst 2, 1) := by decide +kernel
theorem dL_law_916 : decode cL_law 916 = .ok (.iadd, 1) := by decide +kernel
theorem dL_law_917 : decode cL_law 917 = .ok (.iaload, 1) := by decide +kernel
theorem dL_law_918 : decode cL_law 918 = .ok (.aload_n 0, 1) := by decide +kernel
theorem dL_law_919 : decode cL_law 919 = .ok (.iload_n 3, 1) := by decide +kernel
theorem dL_law_920 : decode cL_law 920 = .ok (.iconst 3, 1) := by decide +kernel
theorem dL_law_921 : decode cL_law 921 = .ok (.iadd, 1) := by decide +kernel
theorem dL_law_922 : decode cL_law 922 = .ok (.iaload, 1) := by decide +kernel
theorem dL_law_923 : decode cL_law 923 = .ok (.aload_n 0, 1) := by decide +kernel
theorem dL_law_924 : decode cL_law 924 = .ok (.iload_n 3, 1) := by decide +kernel
theorem dL_law_925 : decode cL_law 925 = .ok (.iconst 4, 1) := by decide +kernel
theorem dL_law_926 : decode cL_law 926 = .ok (.iadd, 1) := by decide +kernel
theorem dL_law_927 : decode cL_law 927 = .ok (.iaload, 1) := by decide +kernel
theorem dL_law_928 : decode cL_law 928 = .ok (.invokevirtual 118, 3) := by decide +kernel
theorem dL_law_931 : decode cL_law 931 = .ok (.aload_n 2, 1) := by decide +kernel
theorem dL_law_932 : decode cL_law 932 = .ok (.aload_n 0, 1) := by decide +kernel
theorem dL_law_933 : decode cL_law 933 = .ok (.iload_n 3, 1) := by decide +kernel
theorem dL_law_934 : decode cL_law 934 = .ok (.iconst 1, 1) := by decide +kernel
theorem dL_law_935 : decode cL_law 935 = .ok (.iadd, 1) := by decide +kernel
theorem dL_law_936 : decode cL_law 936 = .ok (.iaload, 1) := by decide +kernel
theorem dL_law_937 : decode cL_law 937 = .ok (.aload_n 0, 1) := by decide +kernel
theorem dL_law_938 : decode cL_law 938 = .ok (.iload_n 3, 1) := by decide +kernel
theorem dL_law_939 : decode cL_law 939 = .ok (.iconst 2, 1) := by decide +kernel
theorem dL_law_940 : decode cL_law 940 = .ok (.iadd, 1) := by decide +kernel
theorem dL_law_941 : decode cL_law 941 = .ok (.iaload, 1) := by decide +kernel
theorem dL_law_942 : decode cL_law 942 = .ok (.aload_n 0, 1) := by decide +kernel
theorem dL_law_943 : decode cL_law 943 = .ok (.iload_n 3, 1) := by decide +kernel
theorem dL_law_944 : decode cL_law 944 = .ok (.iconst 3, 1) := by decide +kernel
theorem dL_law_945 : decode cL_law 945 = .ok (.iadd, 1) := by decide +kernel
theorem dL_law_946 : decode cL_law 946 = .ok (.iaload, 1) := by decide +kernel
theorem dL_law_947 : decode cL_law 947 = .ok (.aload_n 0, 1) := by decide +kernel
theorem dL_law_948 : decode cL_law 948 = .ok (.iload_n 3, 1) := by decide +kernel
theorem dL_law_949 : decode cL_law 949 = .ok (.iconst 4, 1) := by decide +kernel
theorem dL_law_950 : decode cL_law 950 = .ok (.iadd, 1) := by decide +kernel
theorem dL_law_951 : decode cL_law 951 = .ok (.iaload, 1) := by decide +kernel
theorem dL_law_952 : decode cL_law 952 = .ok (.invokevirtual 121, 3) := by decide +kernel
theorem dL_law_955 : decode cL_law 955 = .ok (.if_icmp .eq 121, 3) := by decide +kernel
theorem dL_law_958 : decode cL_law 958 = .ok (.iconst 0, 1) := by decide +kernel
theorem dL_law_959 : decode cL_law 959 = .ok (.ireturn, 1) := by decide +kernel
theorem dL_law_960 : decode cL_law 960 = .ok (.aload_n 1, 1) := by decide +kernel
theorem dL_law_961 : decode cL_law 961 = .ok (.aload_n 0, 1) := by decide +kernel
theorem dL_law_962 : decode cL_law 962 = .ok (.iload_n 3, 1) := by decide +kernel
theorem dL_law_963 : decode cL_law 963 = .ok (.iconst 1, 1) := by decide +kernel
theorem dL_law_964 : decode cL_law 964 = .ok (.iadd, 1) := by decide +kernel
theorem dL_law_965 : decode cL_law 965 = .ok (.iaload, 1) := by decide +kernel
theorem dL_law_966 : decode cL_law 966 = .ok (.aload_n 0, 1) := by decide +kernel
theorem dL_law_967 : decode cL_law 967 = .ok (.iload_n 3, 1) := by decide +kernel
theorem dL_law_968 : decode cL_law 968 = .ok (.iconst 2, 1) := by decide +kernel
theorem dL_law_969 : decode cL_law 969 = .ok (.iadd, 1) := by decide +kernel
theorem dL_law_970 : decode cL_law 970 = .ok (.iaload, 1) := by decide +kernel
theorem dL_law_971 : decode cL_law 971 = .ok (.invokevirtual 122, 3) := by decide +kernel
theorem dL_law_974 : decode cL_law 974 = .ok (.aload_n 2, 1) := by decide +kernel
theorem dL_law_975 : decode cL_law 975 = .ok (.aload_n 0, 1) := by decide +kernel
theorem dL_law_976 : decode cL_law 976 = .ok (.iload_n 3, 1) := by decide +kernel
theorem dL_law_977 : decode cL_law 977 = .ok (.iconst 1, 1) := by decide +kernel
theorem dL_law_978 : decode cL_law 978 = .ok (.iadd, 1) := by decide +kernel
theorem dL_law_979 : decode cL_law 979 = .ok (.iaload, 1) := by decide +kernel
theorem dL_law_980 : decode cL_law 980 = .ok (.aload_n 0, 1) := by decide +kernel
theorem dL_law_981 : decode cL_law 981 = .ok (.iload_n 3, 1) := by decide +kernel
theorem dL_law_982 : decode cL_law 982 = .ok (.iconst 2, 1) := by decide +kernel
theorem dL_law_983 : decode cL_law 983 = .ok (.iadd, 1) := by decide +kernel
theorem dL_law_984 : decode cL_law 984 = .ok (.iaload, 1) := by decide +kernel
theorem dL_law_985 : decode cL_law 985 = .ok (.invokevirtual 125, 3) := by decide +kernel
theorem dL_law_988 : decode cL_law 988 = .ok (.if_icmp .eq 88, 3) := by decide +kernel
theorem dL_law_991 : decode cL_law 991 = .ok (.iconst 0, 1) := by decide +kernel
theorem dL_law_992 : decode cL_law 992 = .ok (.ireturn, 1) := by decide +kernel
theorem dL_law_993 : decode cL_law 993 = .ok (.aload_n 1, 1) := by decide +kernel
theorem dL_law_994 : decode cL_law 994 = .ok (.aload_n 0, 1) := by decide +kernel
theorem dL_law_995 : decode cL_law 995 = .ok (.iload_n 3, 1) := by decide +kernel
theorem dL_law_996 : decode cL_law 996 = .ok (.iconst 1, 1) := by decide +kernel
theorem dL_law_997 : decode cL_law 997 = .ok (.iadd, 1) := by decide +kernel
theorem dL_law_998 : decode cL_law 998 = .ok (.iaload, 1) := by decide +kernel
theorem dL_law_999 : decode cL_law 999 = .ok (.invokevirtual 126, 3) := by decide +kernel
theorem dL_law_1002 : decode cL_law 1002 = .ok (.aload_n 2, 1) := by decide +kernel
theorem dL_law_1003 : decode cL_law 1003 = .ok (.aload_n 0, 1) := by decide +kernel
theorem dL_law_1004 : decode cL_law 1004 = .ok (.iload_n 3, 1) := by decide +kernel
theorem dL_law_1005 : decode cL_law 1005 = .ok (.iconst 1, 1) := by decide +kernel
theorem dL_law_1006 : decode cL_law 1006 = .ok (.iadd, 1) := by decide +kernel
theorem dL_law_1007 : decode cL_law 1007 = .ok (.iaload, 1) := by decide +kernel
theorem dL_law_1008 : decode cL_law 1008 = .ok (.invokevirtual 129, 3) := by decide +kernel
theorem dL_law_1011 : decode cL_law 1011 = .ok (.if_icmp .eq 65, 3) := by decide +kernel
theorem dL_law_1014 : decode cL_law 1014 = .ok (.iconst 0, 1) := by decide +kernel
theorem dL_law_1015 : decode cL_law 1015 = .ok (.ireturn, 1) := by decide +kernel
theorem dL_law_1016 : decode cL_law 1016 = .ok (.aload_n 1, 1) := by decide +kernel
theorem dL_law_1017 : decode cL_law 1017 = .ok (.aload_n 0, 1) := by decide +kernel
theorem dL_law_1018 : decode cL_law 1018 = .ok (.iload_n 3, 1) := by decide +kernel
theorem dL_law_1019 : decode cL_law 1019 = .ok (.iconst 1, 1) := by decide +kernel
theorem dL_law_1020 : decode cL_law 1020 = .ok (.iadd, 1) := by decide +kernel
theorem dL_law_1021 : decode cL_law 1021 = .ok (.iaload, 1) := by decide +kernel
theorem dL_law_1022 : decode cL_law 1022 = .ok (.invokevirtual 130, 3) := by decide +kernel
theorem dL_law_1025 : decode cL_law 1025 = .ok (.aload_n 2, 1) := by decide +kernel
theorem dL_law_1026 : decode cL_law 1026 = .ok (.aload_n 0, 1) := by decide +kernel
theorem dL_law_1027 : decode cL_law 1027 = .ok (.iload_n 3, 1) := by decide +kernel
theorem dL_law_1028 : decode cL_law 1028 = .ok (.iconst 1, 1) := by decide +kernel
theorem dL_law_1029 : decode cL_law 1029 = .ok (.iadd, 1) := by decide +kernel
theorem dL_law_1030 : decode cL_law 1030 = .ok (.iaload, 1) := by decide +kernel
theorem dL_law_1031 : decode cL_law 1031 = .ok (.invokevirtual 133, 3) := by decide +kernel
theorem dL_law_1034 : decode cL_law 1034 = .ok (.if_icmp .eq 42, 3) := by decide +kernel
theorem dL_law_1037 : decode cL_law 1037 = .ok (.iconst 0, 1) := by decide +kernel
theorem dL_law_1038 : decode cL_law 1038 = .ok (.ireturn, 1) := by decide +kernel
theorem dL_law_1039 : decode cL_law 1039 = .ok (.aload_n 1, 1) := by decide +kernel
theorem dL_law_1040 : decode cL_law 1040 = .ok (.aload_n 0, 1) := by decide +kernel
theorem dL_law_1041 : decode cL_law 1041 = .ok (.iload_n 3, 1) := by decide +kernel
theorem dL_law_1042 : decode cL_law 1042 = .ok (.iconst 1, 1) := by decide +kernel
theorem dL_law_1043 : decode cL_law 1043 = .ok (.iadd, 1) := by decide +kernel
theorem dL_law_1044 : decode cL_law 1044 = .ok (.iaload, 1) := by decide +kernel
theorem dL_law_1045 : decode cL_law 1045 = .ok (.invokevirtual 134, 3) := by decide +kernel
theorem dL_law_1048 : decode cL_law 1048 = .ok (.aload_n 2, 1) := by decide +kernel
theorem dL_law_1049 : decode cL_law 1049 = .ok (.aload_n 0, 1) := by decide +kernel
theorem dL_law_1050 : decode cL_law 1050 = .ok (.iload_n 3, 1) := by decide +kernel
theorem dL_law_1051 : decode cL_law 1051 = .ok (.iconst 1, 1) := by decide +kernel
theorem dL_law_1052 : decode cL_law 1052 = .ok (.iadd, 1) := by decide +kernel
theorem dL_law_1053 : decode cL_law 1053 = .ok (.iaload, 1) := by decide +kernel
theorem dL_law_1054 : decode cL_law 1054 = .ok (.invokevirtual 137, 3) := by decide +kernel
theorem dL_law_1057 : decode cL_law 1057 = .ok (.if_icmp .eq 19, 3) := by decide +kernel
theorem dL_law_1060 : decode cL_law 1060 = .ok (.iconst 0, 1) := by decide +kernel
theorem dL_law_1061 : decode cL_law 1061 = .ok (.ireturn, 1) := by decide +kernel
theorem dL_law_1062 : decode cL_law 1062 = .ok (.aload_n 1, 1) := by decide +kernel
theorem dL_law_1063 : decode cL_law 1063 = .ok (.invokevirtual 138, 3) := by decide +kernel
theorem dL_law_1066 : decode cL_law 1066 = .ok (.aload_n 2, 1) := by decide +kernel
theorem dL_law_1067 : decode cL_law 1067 = .ok (.invokevirtual 142, 3) := by decide +kernel
theorem dL_law_1070 : decode cL_law 1070 = .ok (.lcmp, 1) := by decide +kernel
theorem dL_law_1071 : decode cL_law 1071 = .ok (.ifCond .eq 5, 3) := by decide +kernel
theorem dL_law_1074 : decode cL_law 1074 = .ok (.iconst 0, 1) := by decide +kernel
theorem dL_law_1075 : decode cL_law 1075 = .ok (.ireturn, 1) := by decide +kernel
theorem dL_law_1076 : decode cL_law 1076 = .ok (.iinc 3 5, 3) := by decide +kernel
theorem dL_law_1079 : decode cL_law 1079 = .ok (.goto (-1061), 3) := by decide +kernel
theorem dL_law_1082 : decode cL_law 1082 = .ok (.iconst 1, 1) := by decide +kernel
theorem dL_law_1083 : decode cL_law 1083 = .ok (.ireturn, 1) := by decide +kernel
abbrev vwCl : List vw_C := [(RX0, TX0, 10), (RX1, TX1, 7), (RX2, TX2, 6), (RX3, TX3, 8), (RX4, TX4, 12), (RX5, TX5, 22)]
