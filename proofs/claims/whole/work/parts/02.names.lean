/-! ===== BEGIN words of one list among another's, by their places ===== -/
theorem goodIn_r {big : List Cond} (ws : List Cond) (ps : List Nat) (hp : ws = ps.filterMap (fun i => big[i]?)) (h : ws.all goodWord = true) : GoodIn big ws := by
  intro w hw
  have h1 := List.all_eq_true.mp h w hw
  rw [hp] at hw
  obtain ⟨i, -, hi⟩ := List.mem_filterMap.mp hw
  have hm : w ∈ big := by first | exact List.mem_of_getElem? hi | exact List.getElem?_mem hi
  exact ⟨hm, good_of_word h1⟩
theorem goodIn_app {big a b : List Cond} (ha : GoodIn big a) (hb : GoodIn big b) : GoodIn big (a ++ b) := fun w h => (List.mem_append.mp h).elim (ha w) (hb w)
theorem goodIn_ca {big a b : List Cond} {c : Cond} (ha : GoodIn big (c :: a)) (hb : GoodIn big b) : GoodIn big (c :: (a ++ b)) := fun w h => (List.mem_cons.mp h).elim (fun e => ha w (List.mem_cons.mpr (Or.inl e))) (fun h => (List.mem_append.mp h).elim (fun h => ha w (List.mem_cons.mpr (Or.inr h))) (hb w))
theorem goodIn_sub {big ws : List Cond} (hm : ∀ w ∈ ws, w ∈ big) (h : ws.all goodWord = true) : GoodIn big ws := fun w hw => ⟨hm w hw, good_of_word (List.all_eq_true.mp h w hw)⟩
/-! ===== END ===== -/

/-! ===== BEGIN printed: names, fields, word lists, decode rows ===== -/
def RX0 : String := "SignedOutside$Dead"
def TX0 : u_T := fun k => match k with
  | _ => ("", "", "", false)
def tyX0 : Nat → FieldType := fun k => match k with
  | _ => .int
abbrev wsX00 : List Cond := u_ws RX0 TX0 0
theorem nmX0 : ∀ a, a < 0 → ∀ b, b < 0 → a ≠ b → (TX0 a).2.1 ≠ (TX0 b).2.1 := by decide +kernel
theorem tyX0_ok : ∀ k, k < 0 → parseFieldDescriptor (TX0 k).2.2.1 = some (tyX0 k) := by decide +kernel
abbrev cX0_init : ByteArray := prog_2_method_1_code
def yX0_init : MethodName := ⟨RX0, "<init>", "()V"⟩
abbrev cX0_signs : ByteArray := prog_2_method_2_code
def yX0_signs : MethodName := ⟨RX0, "signs", "(I)I"⟩
abbrev cX0_reach : ByteArray := prog_2_method_3_code
def yX0_reach : MethodName := ⟨RX0, "reach", "()I"⟩
def RX1 : String := "SignedOutside$House"
def TX1 : u_T := fun k => match k with
  | 0 => ("SignedOutside$House", "kinds", "[LSignedOutside$Plain;", true)
  | 1 => ("SignedOutside$House", "members", "I", false)
  | 2 => ("SignedOutside$House", "kindOf", "[I", true)
  | 3 => ("SignedOutside$House", "placeOf", "[I", true)
  | 4 => ("SignedOutside$House", "signed", "[I", true)
  | 5 => ("SignedOutside$House", "letters", "I", false)
  | 6 => ("SignedOutside$House", "origin", "[I", true)
  | 7 => ("SignedOutside$House", "goal", "[I", true)
  | 8 => ("SignedOutside$House", "weight", "[I", true)
  | 9 => ("SignedOutside$House", "mark", "[I", true)
  | 10 => ("SignedOutside$House", "today", "I", false)
  | 11 => ("SignedOutside$House", "saved", "I", false)
  | 12 => ("SignedOutside$House", "spent", "I", false)
  | 13 => ("SignedOutside$House", "covers", "LSignedOutside$Slips;", true)
  | 14 => ("SignedOutside$House", "notes", "LSignedOutside$Slips;", true)
  | _ => ("SignedOutside$House", "past", "LSignedOutside$Past;", true)
def tyX1 : Nat → FieldType := fun k => match k with
  | 0 => .array (.object "SignedOutside$Plain")
  | 1 => .int
  | 2 => .array .int
  | 3 => .array .int
  | 4 => .array .int
  | 5 => .int
  | 6 => .array .int
  | 7 => .array .int
  | 8 => .array .int
  | 9 => .array .int
  | 10 => .int
  | 11 => .int
  | 12 => .int
  | 13 => .object "SignedOutside$Slips"
  | 14 => .object "SignedOutside$Slips"
  | _ => .object "SignedOutside$Past"
abbrev wsX10 : List Cond := u_ws RX1 TX1 16
theorem nmX1 : ∀ a, a < 16 → ∀ b, b < 16 → a ≠ b → (TX1 a).2.1 ≠ (TX1 b).2.1 := by decide +kernel
theorem tyX1_ok : ∀ k, k < 16 → parseFieldDescriptor (TX1 k).2.2.1 = some (tyX1 k) := by decide +kernel
abbrev cX1_init : ByteArray := prog_3_method_1_code
def yX1_init : MethodName := ⟨RX1, "<init>", "([LSignedOutside$Plain;)V"⟩
abbrev cX1_makeEmpty : ByteArray := prog_3_method_2_code
def yX1_makeEmpty : MethodName := ⟨RX1, "makeEmpty", "()V"⟩
abbrev cX1_takeOver : ByteArray := prog_3_method_3_code
def yX1_takeOver : MethodName := ⟨RX1, "takeOver", "(LSignedOutside$House;)V"⟩
abbrev cX1_addMember : ByteArray := prog_3_method_4_code
def yX1_addMember : MethodName := ⟨RX1, "addMember", "(II)I"⟩
abbrev cX1_addLetter : ByteArray := prog_3_method_5_code
def yX1_addLetter : MethodName := ⟨RX1, "addLetter", "(III)I"⟩
abbrev cX1_kindAt : ByteArray := prog_3_method_6_code
def yX1_kindAt : MethodName := ⟨RX1, "kindAt", "(I)LSignedOutside$Plain;"⟩
abbrev cX1_lies : ByteArray := prog_3_method_7_code
def yX1_lies : MethodName := ⟨RX1, "lies", "(I)Z"⟩
abbrev cX1_postage : ByteArray := prog_3_method_8_code
def yX1_postage : MethodName := ⟨RX1, "postage", "(I)I"⟩
abbrev cX1_coversLeft : ByteArray := prog_3_method_9_code
def yX1_coversLeft : MethodName := ⟨RX1, "coversLeft", "(I)I"⟩
abbrev cX1_suits : ByteArray := prog_3_method_10_code
def yX1_suits : MethodName := ⟨RX1, "suits", "(III)Z"⟩
abbrev cX1_mayFrank : ByteArray := prog_3_method_11_code
def yX1_mayFrank : MethodName := ⟨RX1, "mayFrank", "(II)Z"⟩
abbrev cX1_whoMayFrank : ByteArray := prog_3_method_12_code
def yX1_whoMayFrank : MethodName := ⟨RX1, "whoMayFrank", "(I)I"⟩
abbrev cX1_sign : ByteArray := prog_3_method_13_code
def yX1_sign : MethodName := ⟨RX1, "sign", "(II)V"⟩
abbrev cX1_settle : ByteArray := prog_3_method_14_code
def yX1_settle : MethodName := ⟨RX1, "settle", "(I)V"⟩
abbrev cX1_passDay : ByteArray := prog_3_method_15_code
def yX1_passDay : MethodName := ⟨RX1, "passDay", "()V"⟩
abbrev cX1_howManyLie : ByteArray := prog_3_method_16_code
def yX1_howManyLie : MethodName := ⟨RX1, "howManyLie", "()I"⟩
abbrev cX1_postageDue : ByteArray := prog_3_method_17_code
def yX1_postageDue : MethodName := ⟨RX1, "postageDue", "()I"⟩
abbrev cX1_postageFranked : ByteArray := prog_3_method_18_code
def yX1_postageFranked : MethodName := ⟨RX1, "postageFranked", "()I"⟩
abbrev cX1_postageOfEvery : ByteArray := prog_3_method_19_code
def yX1_postageOfEvery : MethodName := ⟨RX1, "postageOfEvery", "()I"⟩
abbrev cX1_weightOfEvery : ByteArray := prog_3_method_20_code
def yX1_weightOfEvery : MethodName := ⟨RX1, "weightOfEvery", "()I"⟩
def RX2 : String := "SignedOutside$Lord"
def TX2 : u_T := fun k => match k with
  | _ => ("", "", "", false)
def tyX2 : Nat → FieldType := fun k => match k with
  | _ => .int
abbrev wsX20 : List Cond := u_ws RX2 TX2 0
theorem nmX2 : ∀ a, a < 0 → ∀ b, b < 0 → a ≠ b → (TX2 a).2.1 ≠ (TX2 b).2.1 := by decide +kernel
theorem tyX2_ok : ∀ k, k < 0 → parseFieldDescriptor (TX2 k).2.2.1 = some (tyX2 k) := by decide +kernel
abbrev cX2_init : ByteArray := prog_4_method_1_code
def yX2_init : MethodName := ⟨RX2, "<init>", "()V"⟩
abbrev cX2_bears : ByteArray := prog_4_method_2_code
def yX2_bears : MethodName := ⟨RX2, "bears", "()I"⟩
def RX3 : String := "SignedOutside$Names"
def TX3 : u_T := fun k => match k with
  | 0 => ("SignedOutside$Names", "letters", "I", false)
  | 1 => ("SignedOutside$Names", "who", "[I", true)
  | 2 => ("SignedOutside$Names", "price", "[I", true)
  | 3 => ("SignedOutside$Names", "lying", "[Z", true)
  | 4 => ("SignedOutside$Names", "coversOf", "[I", true)
  | 5 => ("SignedOutside$Names", "trial", "[I", true)
  | 6 => ("SignedOutside$Names", "best", "[I", true)
  | 7 => ("SignedOutside$Names", "dearest", "[I", true)
  | _ => ("SignedOutside$Names", "most", "I", false)
def tyX3 : Nat → FieldType := fun k => match k with
  | 0 => .int
  | 1 => .array .int
  | 2 => .array .int
  | 3 => .array .boolean
  | 4 => .array .int
  | 5 => .array .int
  | 6 => .array .int
  | 7 => .array .int
  | _ => .int
abbrev wsX30 : List Cond := u_ws RX3 TX3 9
theorem nmX3 : ∀ a, a < 9 → ∀ b, b < 9 → a ≠ b → (TX3 a).2.1 ≠ (TX3 b).2.1 := by decide +kernel
theorem tyX3_ok : ∀ k, k < 9 → parseFieldDescriptor (TX3 k).2.2.1 = some (tyX3 k) := by decide +kernel
abbrev cX3_init : ByteArray := prog_5_method_1_code
def yX3_init : MethodName := ⟨RX3, "<init>", "()V"⟩
abbrev cX3_solve : ByteArray := prog_5_method_2_code
def yX3_solve : MethodName := ⟨RX3, "solve", "(LSignedOutside$House;I)I"⟩
abbrev cX3_place : ByteArray := prog_5_method_3_code
def yX3_place : MethodName := ⟨RX3, "place", "(III)V"⟩
abbrev cX3_bestPlace : ByteArray := prog_5_method_4_code
def yX3_bestPlace : MethodName := ⟨RX3, "bestPlace", "(LSignedOutside$House;I)I"⟩
abbrev cX3_worthAt : ByteArray := prog_5_method_5_code
def yX3_worthAt : MethodName := ⟨RX3, "worthAt", "(LSignedOutside$House;III)I"⟩
abbrev cX3_sortByPostage : ByteArray := prog_5_method_6_code
def yX3_sortByPostage : MethodName := ⟨RX3, "sortByPostage", "(LSignedOutside$House;)V"⟩
abbrev cX3_pairsThatRest : ByteArray := prog_5_method_7_code
def yX3_pairsThatRest : MethodName := ⟨RX3, "pairsThatRest", "(ZZI)I"⟩
abbrev cX3_gain : ByteArray := prog_5_method_8_code
def yX3_gain : MethodName := ⟨RX3, "gain", "(ZZI)I"⟩
def RX4 : String := "SignedOutside$Past"
def TX4 : u_T := fun k => match k with
  | 0 => ("SignedOutside$Past", "rows", "[I", true)
  | 1 => ("SignedOutside$Past", "first", "I", false)
  | _ => ("SignedOutside$Past", "size", "I", false)
def tyX4 : Nat → FieldType := fun k => match k with
  | 0 => .array .int
  | 1 => .int
  | _ => .int
abbrev wsX40 : List Cond := u_ws RX4 TX4 3
theorem nmX4 : ∀ a, a < 3 → ∀ b, b < 3 → a ≠ b → (TX4 a).2.1 ≠ (TX4 b).2.1 := by decide +kernel
theorem tyX4_ok : ∀ k, k < 3 → parseFieldDescriptor (TX4 k).2.2.1 = some (tyX4 k) := by decide +kernel
abbrev cX4_init : ByteArray := prog_6_method_1_code
def yX4_init : MethodName := ⟨RX4, "<init>", "()V"⟩
abbrev cX4_makeEmpty : ByteArray := prog_6_method_2_code
def yX4_makeEmpty : MethodName := ⟨RX4, "makeEmpty", "()V"⟩
abbrev cX4_takeOver : ByteArray := prog_6_method_3_code
def yX4_takeOver : MethodName := ⟨RX4, "takeOver", "(LSignedOutside$Past;)V"⟩
abbrev cX4_keep : ByteArray := prog_6_method_4_code
def yX4_keep : MethodName := ⟨RX4, "keep", "(LSignedOutside$House;)V"⟩
abbrev cX4_giveBack : ByteArray := prog_6_method_5_code
def yX4_giveBack : MethodName := ⟨RX4, "giveBack", "(LSignedOutside$House;)Z"⟩
def RX5 : String := "SignedOutside$Plain"
def TX5 : u_T := fun k => match k with
  | _ => ("", "", "", false)
def tyX5 : Nat → FieldType := fun k => match k with
  | _ => .int
abbrev wsX50 : List Cond := u_ws RX5 TX5 0
theorem nmX5 : ∀ a, a < 0 → ∀ b, b < 0 → a ≠ b → (TX5 a).2.1 ≠ (TX5 b).2.1 := by decide +kernel
theorem tyX5_ok : ∀ k, k < 0 → parseFieldDescriptor (TX5 k).2.2.1 = some (tyX5 k) := by decide +kernel
abbrev cX5_init : ByteArray := prog_7_method_1_code
def yX5_init : MethodName := ⟨RX5, "<init>", "()V"⟩
abbrev cX5_signs : ByteArray := prog_7_method_2_code
def yX5_signs : MethodName := ⟨RX5, "signs", "(I)I"⟩
abbrev cX5_reach : ByteArray := prog_7_method_3_code
def yX5_reach : MethodName := ⟨RX5, "reach", "()I"⟩
abbrev cX5_bears : ByteArray := prog_7_method_4_code
def yX5_bears : MethodName := ⟨RX5, "bears", "()I"⟩
def RX6 : String := "SignedOutside$Reader"
def TX6 : u_T := fun k => match k with
  | 0 => ("SignedOutside$Reader", "text", "[B", true)
  | 1 => ("SignedOutside$Reader", "length", "I", false)
  | 2 => ("SignedOutside$Reader", "sort", "I", false)
  | 3 => ("SignedOutside$Reader", "start", "I", false)
  | 4 => ("SignedOutside$Reader", "end", "I", false)
  | _ => ("SignedOutside$Reader", "number", "I", false)
def tyX6 : Nat → FieldType := fun k => match k with
  | 0 => .array .byte
  | 1 => .int
  | 2 => .int
  | 3 => .int
  | 4 => .int
  | _ => .int
abbrev wsX60 : List Cond := u_ws RX6 TX6 6
theorem nmX6 : ∀ a, a < 6 → ∀ b, b < 6 → a ≠ b → (TX6 a).2.1 ≠ (TX6 b).2.1 := by decide +kernel
theorem tyX6_ok : ∀ k, k < 6 → parseFieldDescriptor (TX6 k).2.2.1 = some (tyX6 k) := by decide +kernel
abbrev cX6_init : ByteArray := prog_8_method_1_code
def yX6_init : MethodName := ⟨RX6, "<init>", "()V"⟩
abbrev cX6_append : ByteArray := prog_8_method_2_code
def yX6_append : MethodName := ⟨RX6, "append", "(I)Z"⟩
abbrev cX6_readInto : ByteArray := prog_8_method_3_code
def yX6_readInto : MethodName := ⟨RX6, "readInto", "(LSignedOutside$House;)I"⟩
abbrev cX6_readMember : ByteArray := prog_8_method_4_code
def yX6_readMember : MethodName := ⟨RX6, "readMember", "(LSignedOutside$House;)Z"⟩
abbrev cX6_readLetter : ByteArray := prog_8_method_5_code
def yX6_readLetter : MethodName := ⟨RX6, "readLetter", "(LSignedOutside$House;)Z"⟩
abbrev cX6_readFrank : ByteArray := prog_8_method_6_code
def yX6_readFrank : MethodName := ⟨RX6, "readFrank", "(LSignedOutside$House;)Z"⟩
abbrev cX6_takesNumber : ByteArray := prog_8_method_7_code
def yX6_takesNumber : MethodName := ⟨RX6, "takesNumber", "(II)Z"⟩
abbrev cX6_stops : ByteArray := prog_8_method_8_code
def yX6_stops : MethodName := ⟨RX6, "stops", "()Z"⟩
abbrev cX6_nextToken : ByteArray := prog_8_method_9_code
def yX6_nextToken : MethodName := ⟨RX6, "nextToken", "()V"⟩
abbrev cX6_readWord : ByteArray := prog_8_method_10_code
def yX6_readWord : MethodName := ⟨RX6, "readWord", "()V"⟩
abbrev cX6_readNumber : ByteArray := prog_8_method_11_code
def yX6_readNumber : MethodName := ⟨RX6, "readNumber", "()V"⟩
abbrev cX6_isLower : ByteArray := prog_8_method_12_code
def yX6_isLower : MethodName := ⟨RX6, "isLower", "(I)Z"⟩
abbrev cX6_isFigure : ByteArray := prog_8_method_13_code
def yX6_isFigure : MethodName := ⟨RX6, "isFigure", "(I)Z"⟩
abbrev cX6_isWord : ByteArray := prog_8_method_14_code
def yX6_isWord : MethodName := ⟨RX6, "isWord", "(Ljava/lang/String;)Z"⟩
def RX7 : String := "SignedOutside$Sick"
def TX7 : u_T := fun k => match k with
  | _ => ("", "", "", false)
def tyX7 : Nat → FieldType := fun k => match k with
  | _ => .int
abbrev wsX70 : List Cond := u_ws RX7 TX7 0
theorem nmX7 : ∀ a, a < 0 → ∀ b, b < 0 → a ≠ b → (TX7 a).2.1 ≠ (TX7 b).2.1 := by decide +kernel
theorem tyX7_ok : ∀ k, k < 0 → parseFieldDescriptor (TX7 k).2.2.1 = some (tyX7 k) := by decide +kernel
abbrev cX7_init : ByteArray := prog_9_method_1_code
def yX7_init : MethodName := ⟨RX7, "<init>", "()V"⟩
abbrev cX7_signs : ByteArray := prog_9_method_2_code
def yX7_signs : MethodName := ⟨RX7, "signs", "(I)I"⟩
def RX8 : String := "SignedOutside$Slips"
def TX8 : u_T := fun k => match k with
  | 0 => ("SignedOutside$Slips", "size", "I", false)
  | 1 => ("SignedOutside$Slips", "memberOf", "[I", true)
  | 2 => ("SignedOutside$Slips", "dayOf", "[I", true)
  | _ => ("SignedOutside$Slips", "valueOf", "[I", true)
def tyX8 : Nat → FieldType := fun k => match k with
  | 0 => .int
  | 1 => .array .int
  | 2 => .array .int
  | _ => .array .int
abbrev wsX80 : List Cond := u_ws RX8 TX8 4
theorem nmX8 : ∀ a, a < 4 → ∀ b, b < 4 → a ≠ b → (TX8 a).2.1 ≠ (TX8 b).2.1 := by decide +kernel
theorem tyX8_ok : ∀ k, k < 4 → parseFieldDescriptor (TX8 k).2.2.1 = some (tyX8 k) := by decide +kernel
abbrev cX8_init : ByteArray := prog_10_method_1_code
def yX8_init : MethodName := ⟨RX8, "<init>", "()V"⟩
abbrev cX8_add : ByteArray := prog_10_method_2_code
def yX8_add : MethodName := ⟨RX8, "add", "(III)Z"⟩
abbrev cX8_takeOver : ByteArray := prog_10_method_3_code
def yX8_takeOver : MethodName := ⟨RX8, "takeOver", "(LSignedOutside$Slips;)V"⟩
abbrev cX8_ownedBy : ByteArray := prog_10_method_4_code
def yX8_ownedBy : MethodName := ⟨RX8, "ownedBy", "(I)I"⟩
abbrev cX8_onDay : ByteArray := prog_10_method_5_code
def yX8_onDay : MethodName := ⟨RX8, "onDay", "(II)I"⟩
abbrev cX8_lowest : ByteArray := prog_10_method_6_code
def yX8_lowest : MethodName := ⟨RX8, "lowest", "(II)I"⟩
abbrev cX8_highest : ByteArray := prog_10_method_7_code
def yX8_highest : MethodName := ⟨RX8, "highest", "(II)I"⟩
abbrev cX8_placesFor : ByteArray := prog_10_method_8_code
def yX8_placesFor : MethodName := ⟨RX8, "placesFor", "(II)I"⟩
abbrev cX8_nextPlace : ByteArray := prog_10_method_9_code
def yX8_nextPlace : MethodName := ⟨RX8, "nextPlace", "(II)I"⟩
abbrev cX8_fewestFalse : ByteArray := prog_10_method_10_code
def yX8_fewestFalse : MethodName := ⟨RX8, "fewestFalse", "(ILSignedOutside$Plain;)I"⟩
abbrev cX8_canBeTrue : ByteArray := prog_10_method_11_code
def yX8_canBeTrue : MethodName := ⟨RX8, "canBeTrue", "(ILSignedOutside$Plain;)Z"⟩
abbrev cX8_kindsNoted : ByteArray := prog_10_method_12_code
def yX8_kindsNoted : MethodName := ⟨RX8, "kindsNoted", "(I[LSignedOutside$Plain;)I"⟩
abbrev cX8_agrees : ByteArray := prog_10_method_13_code
def yX8_agrees : MethodName := ⟨RX8, "agrees", "(ILSignedOutside$Plain;)Z"⟩
def RX9 : String := "SignedOutside$Steward"
def TX9 : u_T := fun k => match k with
  | _ => ("", "", "", false)
def tyX9 : Nat → FieldType := fun k => match k with
  | _ => .int
abbrev wsX90 : List Cond := u_ws RX9 TX9 0
theorem nmX9 : ∀ a, a < 0 → ∀ b, b < 0 → a ≠ b → (TX9 a).2.1 ≠ (TX9 b).2.1 := by decide +kernel
theorem tyX9_ok : ∀ k, k < 0 → parseFieldDescriptor (TX9 k).2.2.1 = some (tyX9 k) := by decide +kernel
abbrev cX9_init : ByteArray := prog_11_method_1_code
def yX9_init : MethodName := ⟨RX9, "<init>", "()V"⟩
abbrev cX9_signs : ByteArray := prog_11_method_2_code
def yX9_signs : MethodName := ⟨RX9, "signs", "(I)I"⟩
abbrev cX9_reach : ByteArray := prog_11_method_3_code
def yX9_reach : MethodName := ⟨RX9, "reach", "()I"⟩
def RX10 : String := "SignedOutside$Travels"
def TX10 : u_T := fun k => match k with
  | _ => ("", "", "", false)
def tyX10 : Nat → FieldType := fun k => match k with
  | _ => .int
abbrev wsX100 : List Cond := u_ws RX10 TX10 0
theorem nmX10 : ∀ a, a < 0 → ∀ b, b < 0 → a ≠ b → (TX10 a).2.1 ≠ (TX10 b).2.1 := by decide +kernel
theorem tyX10_ok : ∀ k, k < 0 → parseFieldDescriptor (TX10 k).2.2.1 = some (tyX10 k) := by decide +kernel
abbrev cX10_init : ByteArray := prog_12_method_1_code
def yX10_init : MethodName := ⟨RX10, "<init>", "()V"⟩
abbrev cX10_reach : ByteArray := prog_12_method_2_code
def yX10_reach : MethodName := ⟨RX10, "reach", "()I"⟩
def RX11 : String := "SignedOutside"
def TX11 : u_T := fun k => match k with
  | 0 => ("SignedOutside", "house", "LSignedOutside$House;", true)
  | 1 => ("SignedOutside", "draft", "LSignedOutside$House;", true)
  | 2 => ("SignedOutside", "images", "[LSignedOutside$House;", true)
  | 3 => ("SignedOutside", "kept", "[Z", true)
  | 4 => ("SignedOutside", "names", "LSignedOutside$Names;", true)
  | 5 => ("SignedOutside", "reader", "LSignedOutside$Reader;", true)
  | 6 => ("SignedOutside", "above", "J", false)
  | 7 => ("SignedOutside", "below", "J", false)
  | 8 => ("SignedOutside", "badCalls", "I", false)
  | 9 => ("SignedOutside", "noCalls", "I", false)
  | _ => ("SignedOutside", "fullCalls", "I", false)
def tyX11 : Nat → FieldType := fun k => match k with
  | 0 => .object "SignedOutside$House"
  | 1 => .object "SignedOutside$House"
  | 2 => .array (.object "SignedOutside$House")
  | 3 => .array .boolean
  | 4 => .object "SignedOutside$Names"
  | 5 => .object "SignedOutside$Reader"
  | 6 => .long
  | 7 => .long
  | 8 => .int
  | 9 => .int
  | _ => .int
abbrev wsX110 : List Cond := u_ws RX11 TX11 11
theorem nmX11 : ∀ a, a < 11 → ∀ b, b < 11 → a ≠ b → (TX11 a).2.1 ≠ (TX11 b).2.1 := by decide +kernel
theorem tyX11_ok : ∀ k, k < 11 → parseFieldDescriptor (TX11 k).2.2.1 = some (tyX11 k) := by decide +kernel
abbrev cX11_init : ByteArray := prog_1_method_1_code
def yX11_init : MethodName := ⟨RX11, "<init>", "()V"⟩
abbrev cX11_house : ByteArray := prog_1_method_2_code
def yX11_house : MethodName := ⟨RX11, "house", "()I"⟩
abbrev cX11_member : ByteArray := prog_1_method_3_code
def yX11_member : MethodName := ⟨RX11, "member", "(II)I"⟩
abbrev cX11_letter : ByteArray := prog_1_method_4_code
def yX11_letter : MethodName := ⟨RX11, "letter", "(III)I"⟩
abbrev cX11_type : ByteArray := prog_1_method_5_code
def yX11_type : MethodName := ⟨RX11, "type", "(I)I"⟩
abbrev cX11_clear : ByteArray := prog_1_method_6_code
def yX11_clear : MethodName := ⟨RX11, "clear", "()I"⟩
abbrev cX11_read : ByteArray := prog_1_method_7_code
def yX11_read : MethodName := ⟨RX11, "read", "()I"⟩
abbrev cX11_frank : ByteArray := prog_1_method_8_code
def yX11_frank : MethodName := ⟨RX11, "frank", "(II)I"⟩
abbrev cX11_pay : ByteArray := prog_1_method_9_code
def yX11_pay : MethodName := ⟨RX11, "pay", "(I)I"⟩
abbrev cX11_moves : ByteArray := prog_1_method_10_code
def yX11_moves : MethodName := ⟨RX11, "moves", "(II)I"⟩
abbrev cX11_day : ByteArray := prog_1_method_11_code
def yX11_day : MethodName := ⟨RX11, "day", "()I"⟩
abbrev cX11_undo : ByteArray := prog_1_method_12_code
def yX11_undo : MethodName := ⟨RX11, "undo", "()I"⟩
abbrev cX11_of : ByteArray := prog_1_method_13_code
def yX11_of : MethodName := ⟨RX11, "of", "(II)I"⟩
abbrev cX11_about : ByteArray := prog_1_method_14_code
def yX11_about : MethodName := ⟨RX11, "about", "(II)I"⟩
abbrev cX11_now : ByteArray := prog_1_method_15_code
def yX11_now : MethodName := ⟨RX11, "now", "(I)I"⟩
abbrev cX11_may : ByteArray := prog_1_method_16_code
def yX11_may : MethodName := ⟨RX11, "may", "(I)I"⟩
abbrev cX11_all : ByteArray := prog_1_method_17_code
def yX11_all : MethodName := ⟨RX11, "all", "(I)I"⟩
abbrev cX11_fewest : ByteArray := prog_1_method_18_code
def yX11_fewest : MethodName := ⟨RX11, "fewest", "()I"⟩
abbrev cX11_stand : ByteArray := prog_1_method_19_code
def yX11_stand : MethodName := ⟨RX11, "stand", "(II)I"⟩
abbrev cX11_penny : ByteArray := prog_1_method_20_code
def yX11_penny : MethodName := ⟨RX11, "penny", "()I"⟩
abbrev cX11_cover : ByteArray := prog_1_method_21_code
def yX11_cover : MethodName := ⟨RX11, "cover", "(III)I"⟩
abbrev cX11_note : ByteArray := prog_1_method_22_code
def yX11_note : MethodName := ⟨RX11, "note", "(III)I"⟩
abbrev cX11_forget : ByteArray := prog_1_method_23_code
def yX11_forget : MethodName := ⟨RX11, "forget", "(I)I"⟩
abbrev cX11_where : ByteArray := prog_1_method_24_code
def yX11_where : MethodName := ⟨RX11, "where", "(III)I"⟩
abbrev cX11_look : ByteArray := prog_1_method_25_code
def yX11_look : MethodName := ⟨RX11, "look", "(II)I"⟩
abbrev cX11_forged : ByteArray := prog_1_method_26_code
def yX11_forged : MethodName := ⟨RX11, "forged", "(I)I"⟩
abbrev cX11_is : ByteArray := prog_1_method_27_code
def yX11_is : MethodName := ⟨RX11, "is", "(I)I"⟩
abbrev cX11_sell : ByteArray := prog_1_method_28_code
def yX11_sell : MethodName := ⟨RX11, "sell", "(III)I"⟩
abbrev cX11_found : ByteArray := prog_1_method_29_code
def yX11_found : MethodName := ⟨RX11, "found", "(I)I"⟩
abbrev cX11_sessions : ByteArray := prog_1_method_30_code
def yX11_sessions : MethodName := ⟨RX11, "sessions", "(II)I"⟩
abbrev cX11_part : ByteArray := prog_1_method_31_code
def yX11_part : MethodName := ⟨RX11, "part", "(I)J"⟩
abbrev cX11_image : ByteArray := prog_1_method_32_code
def yX11_image : MethodName := ⟨RX11, "image", "(I)I"⟩
abbrev cX11_from : ByteArray := prog_1_method_33_code
def yX11_from : MethodName := ⟨RX11, "from", "(I)I"⟩
abbrev cX11_status : ByteArray := prog_1_method_34_code
def yX11_status : MethodName := ⟨RX11, "status", "(I)I"⟩
abbrev cX11_count : ByteArray := prog_1_method_35_code
def yX11_count : MethodName := ⟨RX11, "count", "(I)I"⟩
abbrev cX11_digest : ByteArray := prog_1_method_36_code
def yX11_digest : MethodName := ⟨RX11, "digest", "()J"⟩
abbrev cX11_howMany : ByteArray := prog_1_method_37_code
def yX11_howMany : MethodName := ⟨RX11, "howMany", "(I)I"⟩
abbrev cX11_mix : ByteArray := prog_1_method_38_code
def yX11_mix : MethodName := ⟨RX11, "mix", "(JJ)J"⟩
abbrev cX11_mixSlips : ByteArray := prog_1_method_39_code
def yX11_mixSlips : MethodName := ⟨RX11, "mixSlips", "(JLSignedOutside$Slips;)J"⟩
abbrev cX11_nextX : ByteArray := prog_1_method_40_code
def yX11_nextX : MethodName := ⟨RX11, "nextX", "(J)J"⟩
abbrev cX11_within : ByteArray := prog_1_method_41_code
def yX11_within : MethodName := ⟨RX11, "within", "(III)Z"⟩
abbrev cX11_isPlace : ByteArray := prog_1_method_42_code
def yX11_isPlace : MethodName := ⟨RX11, "isPlace", "(I)Z"⟩
abbrev cX11_isSlipDay : ByteArray := prog_1_method_43_code
def yX11_isSlipDay : MethodName := ⟨RX11, "isSlipDay", "(I)Z"⟩
abbrev cX11_isMember : ByteArray := prog_1_method_44_code
def yX11_isMember : MethodName := ⟨RX11, "isMember", "(I)Z"⟩
abbrev cX11_isLetter : ByteArray := prog_1_method_45_code
def yX11_isLetter : MethodName := ⟨RX11, "isLetter", "(I)Z"⟩
abbrev cX11_everyMember : ByteArray := prog_1_method_46_code
def yX11_everyMember : MethodName := ⟨RX11, "everyMember", "()I"⟩
abbrev cX11_refuseBad : ByteArray := prog_1_method_47_code
def yX11_refuseBad : MethodName := ⟨RX11, "refuseBad", "()I"⟩
abbrev cX11_refuseOtherBad : ByteArray := prog_1_method_48_code
def yX11_refuseOtherBad : MethodName := ⟨RX11, "refuseOtherBad", "()I"⟩
abbrev cX11_refuseNo : ByteArray := prog_1_method_49_code
def yX11_refuseNo : MethodName := ⟨RX11, "refuseNo", "()I"⟩
abbrev cX11_refuseFull : ByteArray := prog_1_method_50_code
def yX11_refuseFull : MethodName := ⟨RX11, "refuseFull", "()I"⟩
abbrev cX11_setFraction : ByteArray := prog_1_method_51_code
def yX11_setFraction : MethodName := ⟨RX11, "setFraction", "(JJ)V"⟩
abbrev cX11_commonDivisor : ByteArray := prog_1_method_52_code
def yX11_commonDivisor : MethodName := ⟨RX11, "commonDivisor", "(JJ)J"⟩
def RX12 : String := "SignedOutsideModel"
def TX12 : u_T := fun k => match k with
  | 0 => ("SignedOutsideModel", "told", "[I", true)
  | 1 => ("SignedOutsideModel", "kept", "[I", true)
  | 2 => ("SignedOutsideModel", "isKept", "[Z", true)
  | 3 => ("SignedOutsideModel", "refused", "[I", true)
  | 4 => ("SignedOutsideModel", "above", "J", false)
  | 5 => ("SignedOutsideModel", "below", "J", false)
  | 6 => ("SignedOutsideModel", "franks", "[I", true)
  | 7 => ("SignedOutsideModel", "bestFranks", "[I", true)
  | 8 => ("SignedOutsideModel", "coversLeft", "[I", true)
  | 9 => ("SignedOutsideModel", "most", "[I", true)
  | 10 => ("SignedOutsideModel", "his", "[I", true)
  | 11 => ("SignedOutsideModel", "theirs", "[I", true)
  | 12 => ("SignedOutsideModel", "hand", "[I", true)
  | 13 => ("SignedOutsideModel", "bytes", "[I", true)
  | 14 => ("SignedOutsideModel", "bytesLong", "I", false)
  | 15 => ("SignedOutsideModel", "tokenAt", "I", false)
  | 16 => ("SignedOutsideModel", "tokenLong", "I", false)
  | 17 => ("SignedOutsideModel", "token", "I", false)
  | 18 => ("SignedOutsideModel", "value", "I", false)
  | 19 => ("SignedOutsideModel", "anew", "[I", true)
  | _ => ("SignedOutsideModel", "values", "[I", true)
def tyX12 : Nat → FieldType := fun k => match k with
  | 0 => .array .int
  | 1 => .array .int
  | 2 => .array .boolean
  | 3 => .array .int
  | 4 => .long
  | 5 => .long
  | 6 => .array .int
  | 7 => .array .int
  | 8 => .array .int
  | 9 => .array .int
  | 10 => .array .int
  | 11 => .array .int
  | 12 => .array .int
  | 13 => .array .int
  | 14 => .int
  | 15 => .int
  | 16 => .int
  | 17 => .int
  | 18 => .int
  | 19 => .array .int
  | _ => .array .int
abbrev wsX120 : List Cond := u_ws RX12 TX12 21
theorem nmX12 : ∀ a, a < 21 → ∀ b, b < 21 → a ≠ b → (TX12 a).2.1 ≠ (TX12 b).2.1 := by decide +kernel
theorem tyX12_ok : ∀ k, k < 21 → parseFieldDescriptor (TX12 k).2.2.1 = some (tyX12 k) := by decide +kernel
abbrev cX12_init : ByteArray := prog_14_method_1_code
def yX12_init : MethodName := ⟨RX12, "<init>", "()V"⟩
abbrev cX12_in : ByteArray := prog_14_method_3_code
def yX12_in : MethodName := ⟨RX12, "in", "(JJJ)Z"⟩
abbrev cX12_bad : ByteArray := prog_14_method_4_code
def yX12_bad : MethodName := ⟨RX12, "bad", "(I)I"⟩
abbrev cX12_no : ByteArray := prog_14_method_5_code
def yX12_no : MethodName := ⟨RX12, "no", "()I"⟩
abbrev cX12_full : ByteArray := prog_14_method_6_code
def yX12_full : MethodName := ⟨RX12, "full", "()I"⟩
abbrev cX12_bits : ByteArray := prog_14_method_7_code
def yX12_bits : MethodName := ⟨RX12, "bits", "(I)I"⟩
abbrev cX12_has : ByteArray := prog_14_method_8_code
def yX12_has : MethodName := ⟨RX12, "has", "(II)Z"⟩
abbrev cX12_begin : ByteArray := prog_14_method_9_code
def yX12_begin : MethodName := ⟨RX12, "begin", "([I)V"⟩
abbrev cX12_members : ByteArray := prog_14_method_10_code
def yX12_members : MethodName := ⟨RX12, "members", "()I"⟩
abbrev cX12_letters : ByteArray := prog_14_method_11_code
def yX12_letters : MethodName := ⟨RX12, "letters", "()I"⟩
abbrev cX12_isMember : ByteArray := prog_14_method_12_code
def yX12_isMember : MethodName := ⟨RX12, "isMember", "(I)Z"⟩
abbrev cX12_isLetter : ByteArray := prog_14_method_13_code
def yX12_isLetter : MethodName := ⟨RX12, "isLetter", "(I)Z"⟩
abbrev cX12_isPlace : ByteArray := prog_14_method_14_code
def yX12_isPlace : MethodName := ⟨RX12, "isPlace", "(I)Z"⟩
abbrev cX12_get : ByteArray := prog_14_method_15_code
def yX12_get : MethodName := ⟨RX12, "get", "(II)I"⟩
abbrev cX12_house : ByteArray := prog_14_method_16_code
def yX12_house : MethodName := ⟨RX12, "house", "()I"⟩
abbrev cX12_layMember : ByteArray := prog_14_method_17_code
def yX12_layMember : MethodName := ⟨RX12, "layMember", "([III)V"⟩
abbrev cX12_member : ByteArray := prog_14_method_18_code
def yX12_member : MethodName := ⟨RX12, "member", "(II)I"⟩
abbrev cX12_layLetter : ByteArray := prog_14_method_19_code
def yX12_layLetter : MethodName := ⟨RX12, "layLetter", "([IIII)V"⟩
abbrev cX12_letter : ByteArray := prog_14_method_20_code
def yX12_letter : MethodName := ⟨RX12, "letter", "(III)I"⟩
abbrev cX12_coversAs : ByteArray := prog_14_method_21_code
def yX12_coversAs : MethodName := ⟨RX12, "coversAs", "(II)I"⟩
abbrev cX12_reachAs : ByteArray := prog_14_method_22_code
def yX12_reachAs : MethodName := ⟨RX12, "reachAs", "(I)I"⟩
abbrev cX12_bearsAs : ByteArray := prog_14_method_23_code
def yX12_bearsAs : MethodName := ⟨RX12, "bearsAs", "(I)I"⟩
abbrev cX12_miles : ByteArray := prog_14_method_24_code
def yX12_miles : MethodName := ⟨RX12, "miles", "(II)I"⟩
abbrev cX12_postageOf : ByteArray := prog_14_method_25_code
def yX12_postageOf : MethodName := ⟨RX12, "postageOf", "([II)I"⟩
abbrev cX12_postage : ByteArray := prog_14_method_26_code
def yX12_postage : MethodName := ⟨RX12, "postage", "(I)I"⟩
abbrev cX12_mayFrank : ByteArray := prog_14_method_27_code
def yX12_mayFrank : MethodName := ⟨RX12, "mayFrank", "([III)Z"⟩
abbrev cX12_goFrank : ByteArray := prog_14_method_28_code
def yX12_goFrank : MethodName := ⟨RX12, "goFrank", "([III)I"⟩
abbrev cX12_lies : ByteArray := prog_14_method_29_code
def yX12_lies : MethodName := ⟨RX12, "lies", "(I)Z"⟩
abbrev cX12_keep : ByteArray := prog_14_method_30_code
def yX12_keep : MethodName := ⟨RX12, "keep", "()V"⟩
abbrev cX12_frank : ByteArray := prog_14_method_31_code
def yX12_frank : MethodName := ⟨RX12, "frank", "(II)I"⟩
abbrev cX12_pay : ByteArray := prog_14_method_32_code
def yX12_pay : MethodName := ⟨RX12, "pay", "(I)I"⟩
abbrev cX12_moves : ByteArray := prog_14_method_33_code
def yX12_moves : MethodName := ⟨RX12, "moves", "(II)I"⟩
abbrev cX12_goDay : ByteArray := prog_14_method_34_code
def yX12_goDay : MethodName := ⟨RX12, "goDay", "([I)V"⟩
abbrev cX12_day : ByteArray := prog_14_method_35_code
def yX12_day : MethodName := ⟨RX12, "day", "()I"⟩
abbrev cX12_undo : ByteArray := prog_14_method_36_code
def yX12_undo : MethodName := ⟨RX12, "undo", "()I"⟩
abbrev cX12_of : ByteArray := prog_14_method_37_code
def yX12_of : MethodName := ⟨RX12, "of", "(II)I"⟩
abbrev cX12_about : ByteArray := prog_14_method_38_code
def yX12_about : MethodName := ⟨RX12, "about", "(II)I"⟩
abbrev cX12_due : ByteArray := prog_14_method_39_code
def yX12_due : MethodName := ⟨RX12, "due", "()I"⟩
abbrev cX12_now : ByteArray := prog_14_method_40_code
def yX12_now : MethodName := ⟨RX12, "now", "(I)I"⟩
abbrev cX12_may : ByteArray := prog_14_method_41_code
def yX12_may : MethodName := ⟨RX12, "may", "(I)I"⟩
abbrev cX12_layCovers : ByteArray := prog_14_method_42_code
def yX12_layCovers : MethodName := ⟨RX12, "layCovers", "()V"⟩
abbrev cX12_savedBy : ByteArray := prog_14_method_43_code
def yX12_savedBy : MethodName := ⟨RX12, "savedBy", "(I)I"⟩
abbrev cX12_codes : ByteArray := prog_14_method_44_code
def yX12_codes : MethodName := ⟨RX12, "codes", "()I"⟩
abbrev cX12_all : ByteArray := prog_14_method_45_code
def yX12_all : MethodName := ⟨RX12, "all", "(I)I"⟩
abbrev cX12_fewest : ByteArray := prog_14_method_46_code
def yX12_fewest : MethodName := ⟨RX12, "fewest", "()I"⟩
abbrev cX12_worthAt : ByteArray := prog_14_method_47_code
def yX12_worthAt : MethodName := ⟨RX12, "worthAt", "(II)I"⟩
abbrev cX12_stand : ByteArray := prog_14_method_48_code
def yX12_stand : MethodName := ⟨RX12, "stand", "(II)I"⟩
abbrev cX12_fraction : ByteArray := prog_14_method_49_code
def yX12_fraction : MethodName := ⟨RX12, "fraction", "(JJ)V"⟩
abbrev cX12_penny : ByteArray := prog_14_method_50_code
def yX12_penny : MethodName := ⟨RX12, "penny", "()I"⟩
abbrev cX12_cover : ByteArray := prog_14_method_51_code
def yX12_cover : MethodName := ⟨RX12, "cover", "(III)I"⟩
abbrev cX12_note : ByteArray := prog_14_method_52_code
def yX12_note : MethodName := ⟨RX12, "note", "(III)I"⟩
abbrev cX12_forget : ByteArray := prog_14_method_53_code
def yX12_forget : MethodName := ⟨RX12, "forget", "(I)I"⟩
abbrev cX12_isCoverOf : ByteArray := prog_14_method_54_code
def yX12_isCoverOf : MethodName := ⟨RX12, "isCoverOf", "(III)Z"⟩
abbrev cX12_canBeAt : ByteArray := prog_14_method_55_code
def yX12_canBeAt : MethodName := ⟨RX12, "canBeAt", "(IIII)Z"⟩
abbrev cX12_where : ByteArray := prog_14_method_56_code
def yX12_where : MethodName := ⟨RX12, "where", "(III)I"⟩
abbrev cX12_look : ByteArray := prog_14_method_57_code
def yX12_look : MethodName := ⟨RX12, "look", "(II)I"⟩
abbrev cX12_areTrue : ByteArray := prog_14_method_58_code
def yX12_areTrue : MethodName := ⟨RX12, "areTrue", "(III)Z"⟩
abbrev cX12_forged : ByteArray := prog_14_method_59_code
def yX12_forged : MethodName := ⟨RX12, "forged", "(I)I"⟩
abbrev cX12_is : ByteArray := prog_14_method_60_code
def yX12_is : MethodName := ⟨RX12, "is", "(I)I"⟩
abbrev cX12_sell : ByteArray := prog_14_method_61_code
def yX12_sell : MethodName := ⟨RX12, "sell", "(III)I"⟩
abbrev cX12_found : ByteArray := prog_14_method_62_code
def yX12_found : MethodName := ⟨RX12, "found", "(I)I"⟩
abbrev cX12_sessions : ByteArray := prog_14_method_63_code
def yX12_sessions : MethodName := ⟨RX12, "sessions", "(II)I"⟩
abbrev cX12_type : ByteArray := prog_14_method_64_code
def yX12_type : MethodName := ⟨RX12, "type", "(I)I"⟩
abbrev cX12_clear : ByteArray := prog_14_method_65_code
def yX12_clear : MethodName := ⟨RX12, "clear", "()I"⟩
abbrev cX12_isSmall : ByteArray := prog_14_method_66_code
def yX12_isSmall : MethodName := ⟨RX12, "isSmall", "(I)Z"⟩
abbrev cX12_isFigure : ByteArray := prog_14_method_67_code
def yX12_isFigure : MethodName := ⟨RX12, "isFigure", "(I)Z"⟩
abbrev cX12_lookAt : ByteArray := prog_14_method_68_code
def yX12_lookAt : MethodName := ⟨RX12, "lookAt", "(I)V"⟩
abbrev cX12_goBehind : ByteArray := prog_14_method_69_code
def yX12_goBehind : MethodName := ⟨RX12, "goBehind", "()V"⟩
abbrev cX12_spells : ByteArray := prog_14_method_70_code
def yX12_spells : MethodName := ⟨RX12, "spells", "(IIIIIII)Z"⟩
abbrev cX12_takes : ByteArray := prog_14_method_71_code
def yX12_takes : MethodName := ⟨RX12, "takes", "(III)Z"⟩
abbrev cX12_takesMember : ByteArray := prog_14_method_72_code
def yX12_takesMember : MethodName := ⟨RX12, "takesMember", "()Z"⟩
abbrev cX12_takesLetter : ByteArray := prog_14_method_73_code
def yX12_takesLetter : MethodName := ⟨RX12, "takesLetter", "()Z"⟩
abbrev cX12_takesFrank : ByteArray := prog_14_method_74_code
def yX12_takesFrank : MethodName := ⟨RX12, "takesFrank", "()Z"⟩
abbrev cX12_takesItem : ByteArray := prog_14_method_75_code
def yX12_takesItem : MethodName := ⟨RX12, "takesItem", "()Z"⟩
abbrev cX12_read : ByteArray := prog_14_method_76_code
def yX12_read : MethodName := ⟨RX12, "read", "()I"⟩
abbrev cX12_part : ByteArray := prog_14_method_77_code
def yX12_part : MethodName := ⟨RX12, "part", "(I)J"⟩
abbrev cX12_image : ByteArray := prog_14_method_78_code
def yX12_image : MethodName := ⟨RX12, "image", "(I)I"⟩
abbrev cX12_from : ByteArray := prog_14_method_79_code
def yX12_from : MethodName := ⟨RX12, "from", "(I)I"⟩
abbrev cX12_status : ByteArray := prog_14_method_80_code
def yX12_status : MethodName := ⟨RX12, "status", "(I)I"⟩
abbrev cX12_manyLie : ByteArray := prog_14_method_81_code
def yX12_manyLie : MethodName := ⟨RX12, "manyLie", "()I"⟩
abbrev cX12_counted : ByteArray := prog_14_method_82_code
def yX12_counted : MethodName := ⟨RX12, "counted", "(I)I"⟩
abbrev cX12_count : ByteArray := prog_14_method_83_code
def yX12_count : MethodName := ⟨RX12, "count", "(I)I"⟩
abbrev cX12_sums : ByteArray := prog_14_method_84_code
def yX12_sums : MethodName := ⟨RX12, "sums", "(JII)J"⟩
abbrev cX12_digest : ByteArray := prog_14_method_85_code
def yX12_digest : MethodName := ⟨RX12, "digest", "()J"⟩
def RJx145de : String := "java/io/Serializable"
def TJx145de : u_T := fun k => match k with
  | _ => ("", "", "", false)
def tyJx145de : Nat → FieldType := fun k => match k with
  | _ => .int
abbrev wsJx145de0 : List Cond := u_ws RJx145de TJx145de 0
theorem nmJx145de : ∀ a, a < 0 → ∀ b, b < 0 → a ≠ b → (TJx145de a).2.1 ≠ (TJx145de b).2.1 := by decide +kernel
theorem tyJx145de_ok : ∀ k, k < 0 → parseFieldDescriptor (TJx145de k).2.2.1 = some (tyJx145de k) := by decide +kernel
def RJx9f9b0 : String := "java/lang/CharSequence"
def TJx9f9b0 : u_T := fun k => match k with
  | _ => ("", "", "", false)
def tyJx9f9b0 : Nat → FieldType := fun k => match k with
  | _ => .int
abbrev wsJx9f9b00 : List Cond := u_ws RJx9f9b0 TJx9f9b0 0
theorem nmJx9f9b0 : ∀ a, a < 0 → ∀ b, b < 0 → a ≠ b → (TJx9f9b0 a).2.1 ≠ (TJx9f9b0 b).2.1 := by decide +kernel
theorem tyJx9f9b0_ok : ∀ k, k < 0 → parseFieldDescriptor (TJx9f9b0 k).2.2.1 = some (tyJx9f9b0 k) := by decide +kernel
def RJxb160c : String := "java/lang/Comparable"
def TJxb160c : u_T := fun k => match k with
  | _ => ("", "", "", false)
def tyJxb160c : Nat → FieldType := fun k => match k with
  | _ => .int
abbrev wsJxb160c0 : List Cond := u_ws RJxb160c TJxb160c 0
theorem nmJxb160c : ∀ a, a < 0 → ∀ b, b < 0 → a ≠ b → (TJxb160c a).2.1 ≠ (TJxb160c b).2.1 := by decide +kernel
theorem tyJxb160c_ok : ∀ k, k < 0 → parseFieldDescriptor (TJxb160c k).2.2.1 = some (tyJxb160c k) := by decide +kernel
def RJ6 : String := "java/lang/Integer"
def TJ6 : u_T := fun k => match k with
  | _ => ("", "", "", false)
def tyJ6 : Nat → FieldType := fun k => match k with
  | _ => .int
abbrev wsJ60 : List Cond := u_ws RJ6 TJ6 0
theorem nmJ6 : ∀ a, a < 0 → ∀ b, b < 0 → a ≠ b → (TJ6 a).2.1 ≠ (TJ6 b).2.1 := by decide +kernel
theorem tyJ6_ok : ∀ k, k < 0 → parseFieldDescriptor (TJ6 k).2.2.1 = some (tyJ6 k) := by decide +kernel
abbrev cJ6_bitCount_0f7a4 : ByteArray := prog_15_method_49_code
def yJ6_bitCount_0f7a4 : MethodName := ⟨RJ6, "bitCount", "(I)I"⟩
def RJ9 : String := "java/lang/Math"
def TJ9 : u_T := fun k => match k with
  | _ => ("", "", "", false)
def tyJ9 : Nat → FieldType := fun k => match k with
  | _ => .int
abbrev wsJ90 : List Cond := u_ws RJ9 TJ9 0
theorem nmJ9 : ∀ a, a < 0 → ∀ b, b < 0 → a ≠ b → (TJ9 a).2.1 ≠ (TJ9 b).2.1 := by decide +kernel
theorem tyJ9_ok : ∀ k, k < 0 → parseFieldDescriptor (TJ9 k).2.2.1 = some (tyJ9 k) := by decide +kernel
abbrev cJ9_abs_0f7a4 : ByteArray := prog_16_method_59_code
def yJ9_abs_0f7a4 : MethodName := ⟨RJ9, "abs", "(I)I"⟩
abbrev cJ9_max_7cf53 : ByteArray := prog_16_method_65_code
def yJ9_max_7cf53 : MethodName := ⟨RJ9, "max", "(II)I"⟩
abbrev cJ9_min_7cf53 : ByteArray := prog_16_method_69_code
def yJ9_min_7cf53 : MethodName := ⟨RJ9, "min", "(II)I"⟩
def RJ0 : String := "java/lang/String"
def TJ0 : u_T := fun k => match k with
  | _ => ("", "", "", false)
def tyJ0 : Nat → FieldType := fun k => match k with
  | _ => .int
abbrev wsJ00 : List Cond := u_ws RJ0 TJ0 0
theorem nmJ0 : ∀ a, a < 0 → ∀ b, b < 0 → a ≠ b → (TJ0 a).2.1 ≠ (TJ0 b).2.1 := by decide +kernel
theorem tyJ0_ok : ∀ k, k < 0 → parseFieldDescriptor (TJ0 k).2.2.1 = some (tyJ0 k) := by decide +kernel
abbrev cJ0_length_8abf5 : ByteArray := prog_17_method_54_code
def yJ0_length_8abf5 : MethodName := ⟨RJ0, "length", "()I"⟩
abbrev cJ0_charAt_5068e : ByteArray := prog_17_method_56_code
def yJ0_charAt_5068e : MethodName := ⟨RJ0, "charAt", "(I)C"⟩
abbrev cJ0_coder_7d493 : ByteArray := prog_17_method_152_code
def yJ0_coder_7d493 : MethodName := ⟨RJ0, "coder", "()B"⟩
abbrev cJ0_isLatin1_aae02 : ByteArray := prog_17_method_154_code
def yJ0_isLatin1_aae02 : MethodName := ⟨RJ0, "isLatin1", "()Z"⟩
abbrev cJ0_checkIndex_df160 : ByteArray := prog_17_method_155_code
def yJ0_checkIndex_df160 : MethodName := ⟨RJ0, "checkIndex", "(II)V"⟩
def RJ1 : String := "java/lang/StringLatin1"
def TJ1 : u_T := fun k => match k with
  | _ => ("", "", "", false)
def tyJ1 : Nat → FieldType := fun k => match k with
  | _ => .int
abbrev wsJ10 : List Cond := u_ws RJ1 TJ1 0
theorem nmJ1 : ∀ a, a < 0 → ∀ b, b < 0 → a ≠ b → (TJ1 a).2.1 ≠ (TJ1 b).2.1 := by decide +kernel
theorem tyJ1_ok : ∀ k, k < 0 → parseFieldDescriptor (TJ1 k).2.2.1 = some (tyJ1 k) := by decide +kernel
abbrev cJ1_charAt_3b067 : ByteArray := prog_18_method_2_code
def yJ1_charAt_3b067 : MethodName := ⟨RJ1, "charAt", "([BI)C"⟩
def RJ2 : String := "java/lang/StringUTF16"
def TJ2 : u_T := fun k => match k with
  | _ => ("", "", "", false)
def tyJ2 : Nat → FieldType := fun k => match k with
  | _ => .int
abbrev wsJ20 : List Cond := u_ws RJ2 TJ2 0
theorem nmJ2 : ∀ a, a < 0 → ∀ b, b < 0 → a ≠ b → (TJ2 a).2.1 ≠ (TJ2 b).2.1 := by decide +kernel
theorem tyJ2_ok : ∀ k, k < 0 → parseFieldDescriptor (TJ2 k).2.2.1 = some (tyJ2 k) := by decide +kernel
abbrev cJ2_getChar_3b067 : ByteArray := prog_19_method_5_code
def yJ2_getChar_3b067 : MethodName := ⟨RJ2, "getChar", "([BI)C"⟩
abbrev cJ2_length_9d52b : ByteArray := prog_19_method_6_code
def yJ2_length_9d52b : MethodName := ⟨RJ2, "length", "([B)I"⟩
abbrev cJ2_charAt_3b067 : ByteArray := prog_19_method_83_code
def yJ2_charAt_3b067 : MethodName := ⟨RJ2, "charAt", "([BI)C"⟩
abbrev cJ2_checkIndex_2214a : ByteArray := prog_19_method_91_code
def yJ2_checkIndex_2214a : MethodName := ⟨RJ2, "checkIndex", "(I[B)V"⟩
def RJ10 : String := "java/lang/System"
def TJ10 : u_T := fun k => match k with
  | _ => ("", "", "", false)
def tyJ10 : Nat → FieldType := fun k => match k with
  | _ => .int
abbrev wsJ100 : List Cond := u_ws RJ10 TJ10 0
theorem nmJ10 : ∀ a, a < 0 → ∀ b, b < 0 → a ≠ b → (TJ10 a).2.1 ≠ (TJ10 b).2.1 := by decide +kernel
theorem tyJ10_ok : ∀ k, k < 0 → parseFieldDescriptor (TJ10 k).2.2.1 = some (tyJ10 k) := by decide +kernel
def RJxfd54e : String := "java/lang/constant/Constable"
def TJxfd54e : u_T := fun k => match k with
  | _ => ("", "", "", false)
def tyJxfd54e : Nat → FieldType := fun k => match k with
  | _ => .int
abbrev wsJxfd54e0 : List Cond := u_ws RJxfd54e TJxfd54e 0
theorem nmJxfd54e : ∀ a, a < 0 → ∀ b, b < 0 → a ≠ b → (TJxfd54e a).2.1 ≠ (TJxfd54e b).2.1 := by decide +kernel
theorem tyJxfd54e_ok : ∀ k, k < 0 → parseFieldDescriptor (TJxfd54e k).2.2.1 = some (tyJxfd54e k) := by decide +kernel
def RJx3cf43 : String := "java/lang/constant/ConstantDesc"
def TJx3cf43 : u_T := fun k => match k with
  | _ => ("", "", "", false)
def tyJx3cf43 : Nat → FieldType := fun k => match k with
  | _ => .int
abbrev wsJx3cf430 : List Cond := u_ws RJx3cf43 TJx3cf43 0
theorem nmJx3cf43 : ∀ a, a < 0 → ∀ b, b < 0 → a ≠ b → (TJx3cf43 a).2.1 ≠ (TJx3cf43 b).2.1 := by decide +kernel
theorem tyJx3cf43_ok : ∀ k, k < 0 → parseFieldDescriptor (TJx3cf43 k).2.2.1 = some (tyJx3cf43 k) := by decide +kernel
def RJ7 : String := "java/util/Arrays"
def TJ7 : u_T := fun k => match k with
  | _ => ("", "", "", false)
def tyJ7 : Nat → FieldType := fun k => match k with
  | _ => .int
abbrev wsJ70 : List Cond := u_ws RJ7 TJ7 0
theorem nmJ7 : ∀ a, a < 0 → ∀ b, b < 0 → a ≠ b → (TJ7 a).2.1 ≠ (TJ7 b).2.1 := by decide +kernel
theorem tyJ7_ok : ∀ k, k < 0 → parseFieldDescriptor (TJ7 k).2.2.1 = some (tyJ7 k) := by decide +kernel
abbrev cJ7_fill_53178 : ByteArray := prog_21_method_103_code
def yJ7_fill_53178 : MethodName := ⟨RJ7, "fill", "([II)V"⟩
def RJ3 : String := "jdk/internal/util/Preconditions"
def TJ3 : u_T := fun k => match k with
  | _ => ("", "", "", false)
def tyJ3 : Nat → FieldType := fun k => match k with
  | _ => .int
abbrev wsJ30 : List Cond := u_ws RJ3 TJ3 0
theorem nmJ3 : ∀ a, a < 0 → ∀ b, b < 0 → a ≠ b → (TJ3 a).2.1 ≠ (TJ3 b).2.1 := by decide +kernel
theorem tyJ3_ok : ∀ k, k < 0 → parseFieldDescriptor (TJ3 k).2.2.1 = some (tyJ3 k) := by decide +kernel
abbrev cJ3_checkIndex_8e157 : ByteArray := prog_22_method_11_code
def yJ3_checkIndex_8e157 : MethodName := ⟨RJ3, "checkIndex", "(IILjava/util/function/BiFunction;)I"⟩
def RL : String := "SignedOutsideLaw"
abbrev cL_law : ByteArray := code
def yL_law : MethodName := ⟨RL, "law", "([I)Z"⟩
