/-! ===== BEGIN words of one list among another's, by their places ===== -/
theorem goodIn_r {big : List Cond} (ws : List Cond) (ps : List Nat) (hp : ws = ps.filterMap (fun i => big[i]?)) (h : ws.all goodWord = true) : GoodIn big ws := by
  intro w hw
  have h1 := List.all_eq_true.mp h w hw
  rw [hp] at hw
  obtain ⟨i, -, hi⟩ := List.mem_filterMap.mp hw
  have hm : w ∈ big := by first | exact List.mem_of_getElem? hi | exact List.getElem?_mem hi
  exact ⟨hm, good_of_word h1⟩
theorem goodIn_app {big a b : List Cond} (ha : GoodIn big a) (hb : GoodIn big b) : GoodIn big (a ++ b) := fun w h => (List.mem_append.mp h).elim (ha w) (hb w)
theorem goodIn_ca {big a b : List Cond} {c : Cond} (ha : GoodIn big (c :: a)) (hb : GoodIn big b) : GoodIn big (c :: (a ++ b)) := fun w h => (List.mem_cons.mp h).elim (fun e => ha w (List.mem_cons.mpr (Or.inl e))) (fun h => (List.mem_append.mp h).elim (fun h => ha w (List.mem_cons.mpr (Or.inr h))) (hb w))
theorem goodIn_sub {big ws : List Cond} (hm : ∀ w ∈ ws, w ∈ big) (h : ws.all goodWord = true) : GoodIn big ws := fun w hw => ⟨hm w hw, good_of_word (List.all_eq_true.mp h w hw)⟩
/-! ===== END ===== -/

/-! ===== BEGIN printed: names, fields, word lists, decode rows ===== -/
def RX0 : String := "ManorRolls$Custom"
def TX0 : u_T := fun k => match k with
  | 0 => ("ManorRolls$Custom", "order", "I", true)
  | 1 => ("ManorRolls$Custom", "widow", "I", true)
  | 2 => ("ManorRolls$Custom", "works", "I", true)
  | 3 => ("ManorRolls$Custom", "essoins", "I", true)
  | 4 => ("ManorRolls$Custom", "heriot", "I", true)
  | 5 => ("ManorRolls$Custom", "entry", "I", true)
  | _ => ("ManorRolls$Custom", "merchet", "I", true)
def tyX0 : Nat → FieldType := fun k => match k with
  | 0 => .int
  | 1 => .int
  | 2 => .int
  | 3 => .int
  | 4 => .int
  | 5 => .int
  | _ => .int
abbrev wsX00 : List Cond := u_ws RX0 TX0 7
theorem nmX0 : ∀ a, a < 7 → ∀ b, b < 7 → a ≠ b → (TX0 a).2.1 ≠ (TX0 b).2.1 := by decide +kernel
theorem tyX0_ok : ∀ k, k < 7 → parseFieldDescriptor (TX0 k).2.2.1 = some (tyX0 k) := by decide +kernel
abbrev cX0_init : ByteArray := prog_2_method_1_code
def yX0_init : MethodName := ⟨RX0, "<init>", "(II)V"⟩
abbrev cX0_canBe : ByteArray := prog_2_method_2_code
def yX0_canBe : MethodName := ⟨RX0, "canBe", "(II)Z"⟩
def RX1 : String := "ManorRolls$Heirs"
def TX1 : u_T := fun k => match k with
  | 0 => ("ManorRolls$Heirs", "list", "[I", true)
  | 1 => ("ManorRolls$Heirs", "listed", "I", false)
  | 2 => ("ManorRolls$Heirs", "takers", "[I", true)
  | 3 => ("ManorRolls$Heirs", "people", "LManorRolls$People;", true)
  | 4 => ("ManorRolls$Heirs", "order", "I", false)
  | 5 => ("ManorRolls$Heirs", "living", "J", false)
  | _ => ("ManorRolls$Heirs", "lasting", "J", false)
def tyX1 : Nat → FieldType := fun k => match k with
  | 0 => .array .int
  | 1 => .int
  | 2 => .array .int
  | 3 => .object "ManorRolls$People"
  | 4 => .int
  | 5 => .long
  | _ => .long
abbrev wsX10 : List Cond := u_ws RX1 TX1 7
theorem nmX1 : ∀ a, a < 7 → ∀ b, b < 7 → a ≠ b → (TX1 a).2.1 ≠ (TX1 b).2.1 := by decide +kernel
theorem tyX1_ok : ∀ k, k < 7 → parseFieldDescriptor (TX1 k).2.2.1 = some (tyX1 k) := by decide +kernel
abbrev cX1_init : ByteArray := prog_3_method_1_code
def yX1_init : MethodName := ⟨RX1, "<init>", "(LManorRolls$People;)V"⟩
abbrev cX1_list : ByteArray := prog_3_method_2_code
def yX1_list : MethodName := ⟨RX1, "list", "(II)V"⟩
abbrev cX1_share : ByteArray := prog_3_method_3_code
def yX1_share : MethodName := ⟨RX1, "share", "(III)V"⟩
abbrev cX1_takerOf : ByteArray := prog_3_method_4_code
def yX1_takerOf : MethodName := ⟨RX1, "takerOf", "(I)I"⟩
abbrev cX1_look : ByteArray := prog_3_method_5_code
def yX1_look : MethodName := ⟨RX1, "look", "(II)V"⟩
abbrev cX1_firstLine : ByteArray := prog_3_method_6_code
def yX1_firstLine : MethodName := ⟨RX1, "firstLine", "(I)J"⟩
abbrev cX1_lineBelow : ByteArray := prog_3_method_7_code
def yX1_lineBelow : MethodName := ⟨RX1, "lineBelow", "(IJ)J"⟩
abbrev cX1_youngestOf : ByteArray := prog_3_method_8_code
def yX1_youngestOf : MethodName := ⟨RX1, "youngestOf", "(J)J"⟩
abbrev cX1_isIn : ByteArray := prog_3_method_9_code
def yX1_isIn : MethodName := ⟨RX1, "isIn", "(JI)Z"⟩
abbrev cX1_listLine : ByteArray := prog_3_method_10_code
def yX1_listLine : MethodName := ⟨RX1, "listLine", "(JI)V"⟩
abbrev cX1_shareLine : ByteArray := prog_3_method_11_code
def yX1_shareLine : MethodName := ⟨RX1, "shareLine", "(JIII)V"⟩
abbrev cX1_give : ByteArray := prog_3_method_12_code
def yX1_give : MethodName := ⟨RX1, "give", "(III)V"⟩
def RX2 : String := "ManorRolls$Land"
def TX2 : u_T := fun k => match k with
  | 0 => ("ManorRolls$Land", "newest", "[LManorRolls$Right;", true)
  | 1 => ("ManorRolls$Land", "rights", "I", false)
  | 2 => ("ManorRolls$Land", "picked", "[I", true)
  | _ => ("ManorRolls$Land", "pickedCount", "I", false)
def tyX2 : Nat → FieldType := fun k => match k with
  | 0 => .array (.object "ManorRolls$Right")
  | 1 => .int
  | 2 => .array .int
  | _ => .int
abbrev wsX20 : List Cond := u_ws RX2 TX2 4
theorem nmX2 : ∀ a, a < 4 → ∀ b, b < 4 → a ≠ b → (TX2 a).2.1 ≠ (TX2 b).2.1 := by decide +kernel
theorem tyX2_ok : ∀ k, k < 4 → parseFieldDescriptor (TX2 k).2.2.1 = some (tyX2 k) := by decide +kernel
abbrev cX2_init : ByteArray := prog_4_method_1_code
def yX2_init : MethodName := ⟨RX2, "<init>", "()V"⟩
abbrev cX2_pick : ByteArray := prog_4_method_2_code
def yX2_pick : MethodName := ⟨RX2, "pick", "(IIZ)V"⟩
abbrev cX2_bringPicked : ByteArray := prog_4_method_3_code
def yX2_bringPicked : MethodName := ⟨RX2, "bringPicked", "(IIIII)V"⟩
abbrev cX2_giverOf : ByteArray := prog_4_method_4_code
def yX2_giverOf : MethodName := ⟨RX2, "giverOf", "(I)I"⟩
abbrev cX2_onDay : ByteArray := prog_4_method_5_code
def yX2_onDay : MethodName := ⟨RX2, "onDay", "(II)LManorRolls$Right;"⟩
abbrev cX2_stepsAhead : ByteArray := prog_4_method_6_code
def yX2_stepsAhead : MethodName := ⟨RX2, "stepsAhead", "(LManorRolls$Right;I)LManorRolls$Right;"⟩
abbrev cX2_heldBy : ByteArray := prog_4_method_7_code
def yX2_heldBy : MethodName := ⟨RX2, "heldBy", "(I)I"⟩
abbrev cX2_partsOf : ByteArray := prog_4_method_8_code
def yX2_partsOf : MethodName := ⟨RX2, "partsOf", "(I)I"⟩
abbrev cX2_find : ByteArray := prog_4_method_9_code
def yX2_find : MethodName := ⟨RX2, "find", "(I)LManorRolls$Right;"⟩
def RX3 : String := "ManorRolls$People"
def TX3 : u_T := fun k => match k with
  | 0 => ("ManorRolls$People", "all", "[LManorRolls$Person;", true)
  | _ => ("ManorRolls$People", "came", "I", false)
def tyX3 : Nat → FieldType := fun k => match k with
  | 0 => .array (.object "ManorRolls$Person")
  | _ => .int
abbrev wsX30 : List Cond := u_ws RX3 TX3 2
theorem nmX3 : ∀ a, a < 2 → ∀ b, b < 2 → a ≠ b → (TX3 a).2.1 ≠ (TX3 b).2.1 := by decide +kernel
theorem tyX3_ok : ∀ k, k < 2 → parseFieldDescriptor (TX3 k).2.2.1 = some (tyX3 k) := by decide +kernel
abbrev cX3_init : ByteArray := prog_5_method_1_code
def yX3_init : MethodName := ⟨RX3, "<init>", "()V"⟩
abbrev cX3_find : ByteArray := prog_5_method_2_code
def yX3_find : MethodName := ⟨RX3, "find", "(I)LManorRolls$Person;"⟩
abbrev cX3_findAlive : ByteArray := prog_5_method_3_code
def yX3_findAlive : MethodName := ⟨RX3, "findAlive", "(I)LManorRolls$Person;"⟩
abbrev cX3_mayBeParent : ByteArray := prog_5_method_4_code
def yX3_mayBeParent : MethodName := ⟨RX3, "mayBeParent", "(II)Z"⟩
abbrev cX3_add : ByteArray := prog_5_method_5_code
def yX3_add : MethodName := ⟨RX3, "add", "(LManorRolls$Person;)I"⟩
abbrev cX3_addChildTo : ByteArray := prog_5_method_6_code
def yX3_addChildTo : MethodName := ⟨RX3, "addChildTo", "(III)V"⟩
abbrev cX3_owe : ByteArray := prog_5_method_7_code
def yX3_owe : MethodName := ⟨RX3, "owe", "(II)V"⟩
abbrev cX3_allOwed : ByteArray := prog_5_method_8_code
def yX3_allOwed : MethodName := ⟨RX3, "allOwed", "()I"⟩
def RX4 : String := "ManorRolls$Person"
def TX4 : u_T := fun k => match k with
  | 0 => ("ManorRolls$Person", "sex", "I", true)
  | 1 => ("ManorRolls$Person", "father", "I", true)
  | 2 => ("ManorRolls$Person", "mother", "I", true)
  | 3 => ("ManorRolls$Person", "born", "I", true)
  | 4 => ("ManorRolls$Person", "alive", "Z", false)
  | 5 => ("ManorRolls$Person", "marriedTo", "I", false)
  | 6 => ("ManorRolls$Person", "owed", "I", false)
  | 7 => ("ManorRolls$Person", "worksDue", "I", false)
  | 8 => ("ManorRolls$Person", "worksDone", "I", false)
  | 9 => ("ManorRolls$Person", "worksSold", "I", false)
  | 10 => ("ManorRolls$Person", "worksExcused", "I", false)
  | 11 => ("ManorRolls$Person", "weeksSick", "I", false)
  | 12 => ("ManorRolls$Person", "sons", "J", false)
  | _ => ("ManorRolls$Person", "daughters", "J", false)
def tyX4 : Nat → FieldType := fun k => match k with
  | 0 => .int
  | 1 => .int
  | 2 => .int
  | 3 => .int
  | 4 => .boolean
  | 5 => .int
  | 6 => .int
  | 7 => .int
  | 8 => .int
  | 9 => .int
  | 10 => .int
  | 11 => .int
  | 12 => .long
  | _ => .long
abbrev wsX40 : List Cond := u_ws RX4 TX4 14
theorem nmX4 : ∀ a, a < 14 → ∀ b, b < 14 → a ≠ b → (TX4 a).2.1 ≠ (TX4 b).2.1 := by decide +kernel
theorem tyX4_ok : ∀ k, k < 14 → parseFieldDescriptor (TX4 k).2.2.1 = some (tyX4 k) := by decide +kernel
abbrev cX4_init : ByteArray := prog_6_method_1_code
def yX4_init : MethodName := ⟨RX4, "<init>", "(IIII)V"⟩
abbrev cX4_addChild : ByteArray := prog_6_method_2_code
def yX4_addChild : MethodName := ⟨RX4, "addChild", "(II)V"⟩
abbrev cX4_spendWeeks : ByteArray := prog_6_method_3_code
def yX4_spendWeeks : MethodName := ⟨RX4, "spendWeeks", "(II)V"⟩
def RX5 : String := "ManorRolls$Right"
def TX5 : u_T := fun k => match k with
  | 0 => ("ManorRolls$Right", "holder", "I", true)
  | 1 => ("ManorRolls$Right", "how", "I", true)
  | 2 => ("ManorRolls$Right", "day", "I", true)
  | _ => ("ManorRolls$Right", "ahead", "LManorRolls$Right;", true)
def tyX5 : Nat → FieldType := fun k => match k with
  | 0 => .int
  | 1 => .int
  | 2 => .int
  | _ => .object "ManorRolls$Right"
abbrev wsX50 : List Cond := u_ws RX5 TX5 4
theorem nmX5 : ∀ a, a < 4 → ∀ b, b < 4 → a ≠ b → (TX5 a).2.1 ≠ (TX5 b).2.1 := by decide +kernel
theorem tyX5_ok : ∀ k, k < 4 → parseFieldDescriptor (TX5 k).2.2.1 = some (tyX5 k) := by decide +kernel
abbrev cX5_init : ByteArray := prog_7_method_1_code
def yX5_init : MethodName := ⟨RX5, "<init>", "(IIILManorRolls$Right;)V"⟩
def RX6 : String := "ManorRolls$Suit"
def TX6 : u_T := fun k => match k with
  | 0 => ("ManorRolls$Suit", "one", "I", true)
  | 1 => ("ManorRolls$Suit", "against", "I", true)
  | 2 => ("ManorRolls$Suit", "pledge", "I", true)
  | 3 => ("ManorRolls$Suit", "state", "I", false)
  | 4 => ("ManorRolls$Suit", "next", "I", false)
  | 5 => ("ManorRolls$Suit", "essoins", "I", false)
  | _ => ("ManorRolls$Suit", "defaults", "I", false)
def tyX6 : Nat → FieldType := fun k => match k with
  | 0 => .int
  | 1 => .int
  | 2 => .int
  | 3 => .int
  | 4 => .int
  | 5 => .int
  | _ => .int
abbrev wsX60 : List Cond := u_ws RX6 TX6 7
theorem nmX6 : ∀ a, a < 7 → ∀ b, b < 7 → a ≠ b → (TX6 a).2.1 ≠ (TX6 b).2.1 := by decide +kernel
theorem tyX6_ok : ∀ k, k < 7 → parseFieldDescriptor (TX6 k).2.2.1 = some (tyX6 k) := by decide +kernel
abbrev cX6_init : ByteArray := prog_8_method_1_code
def yX6_init : MethodName := ⟨RX6, "<init>", "(III)V"⟩
def RX7 : String := "ManorRolls"
def TX7 : u_T := fun k => match k with
  | 0 => ("ManorRolls", "now", "I", false)
  | 1 => ("ManorRolls", "inForce", "LManorRolls$Custom;", false)
  | 2 => ("ManorRolls", "customsFound", "I", false)
  | 3 => ("ManorRolls", "people", "LManorRolls$People;", true)
  | 4 => ("ManorRolls", "land", "LManorRolls$Land;", true)
  | 5 => ("ManorRolls", "heirs", "LManorRolls$Heirs;", true)
  | 6 => ("ManorRolls", "suits", "[LManorRolls$Suit;", true)
  | 7 => ("ManorRolls", "suitsBrought", "I", false)
  | _ => ("ManorRolls", "coinsPaid", "I", false)
def tyX7 : Nat → FieldType := fun k => match k with
  | 0 => .int
  | 1 => .object "ManorRolls$Custom"
  | 2 => .int
  | 3 => .object "ManorRolls$People"
  | 4 => .object "ManorRolls$Land"
  | 5 => .object "ManorRolls$Heirs"
  | 6 => .array (.object "ManorRolls$Suit")
  | 7 => .int
  | _ => .int
abbrev wsX70 : List Cond := u_ws RX7 TX7 9
theorem nmX7 : ∀ a, a < 9 → ∀ b, b < 9 → a ≠ b → (TX7 a).2.1 ≠ (TX7 b).2.1 := by decide +kernel
theorem tyX7_ok : ∀ k, k < 9 → parseFieldDescriptor (TX7 k).2.2.1 = some (tyX7 k) := by decide +kernel
abbrev cX7_init : ByteArray := prog_1_method_1_code
def yX7_init : MethodName := ⟨RX7, "<init>", "()V"⟩
abbrev cX7_custom : ByteArray := prog_1_method_2_code
def yX7_custom : MethodName := ⟨RX7, "custom", "(II)I"⟩
abbrev cX7_person : ByteArray := prog_1_method_3_code
def yX7_person : MethodName := ⟨RX7, "person", "(III)I"⟩
abbrev cX7_marry : ByteArray := prog_1_method_4_code
def yX7_marry : MethodName := ⟨RX7, "marry", "(II)Z"⟩
abbrev cX7_die : ByteArray := prog_1_method_5_code
def yX7_die : MethodName := ⟨RX7, "die", "(I)I"⟩
abbrev cX7_grant : ByteArray := prog_1_method_6_code
def yX7_grant : MethodName := ⟨RX7, "grant", "(III)Z"⟩
abbrev cX7_rod : ByteArray := prog_1_method_7_code
def yX7_rod : MethodName := ⟨RX7, "rod", "(IIII)Z"⟩
abbrev cX7_weeks : ByteArray := prog_1_method_8_code
def yX7_weeks : MethodName := ⟨RX7, "weeks", "(I)I"⟩
abbrev cX7_sick : ByteArray := prog_1_method_9_code
def yX7_sick : MethodName := ⟨RX7, "sick", "(II)Z"⟩
abbrev cX7_works : ByteArray := prog_1_method_10_code
def yX7_works : MethodName := ⟨RX7, "works", "(IIZ)I"⟩
abbrev cX7_pay : ByteArray := prog_1_method_11_code
def yX7_pay : MethodName := ⟨RX7, "pay", "(II)I"⟩
abbrev cX7_suit : ByteArray := prog_1_method_12_code
def yX7_suit : MethodName := ⟨RX7, "suit", "(III)I"⟩
abbrev cX7_appear : ByteArray := prog_1_method_13_code
def yX7_appear : MethodName := ⟨RX7, "appear", "(II)Z"⟩
abbrev cX7_court : ByteArray := prog_1_method_14_code
def yX7_court : MethodName := ⟨RX7, "court", "()I"⟩
abbrev cX7_holder : ByteArray := prog_1_method_15_code
def yX7_holder : MethodName := ⟨RX7, "holder", "(III)I"⟩
abbrev cX7_right : ByteArray := prog_1_method_16_code
def yX7_right : MethodName := ⟨RX7, "right", "(IIIII)I"⟩
abbrev cX7_heir : ByteArray := prog_1_method_17_code
def yX7_heir : MethodName := ⟨RX7, "heir", "(II)I"⟩
abbrev cX7_told : ByteArray := prog_1_method_18_code
def yX7_told : MethodName := ⟨RX7, "told", "(II)I"⟩
abbrev cX7_suited : ByteArray := prog_1_method_19_code
def yX7_suited : MethodName := ⟨RX7, "suited", "(II)I"⟩
abbrev cX7_count : ByteArray := prog_1_method_20_code
def yX7_count : MethodName := ⟨RX7, "count", "(I)I"⟩
abbrev cX7_isHolding : ByteArray := prog_1_method_21_code
def yX7_isHolding : MethodName := ⟨RX7, "isHolding", "(I)Z"⟩
abbrev cX7_findSuit : ByteArray := prog_1_method_22_code
def yX7_findSuit : MethodName := ⟨RX7, "findSuit", "(I)LManorRolls$Suit;"⟩
abbrev cX7_oweMerchet : ByteArray := prog_1_method_23_code
def yX7_oweMerchet : MethodName := ⟨RX7, "oweMerchet", "(LManorRolls$Person;)V"⟩
abbrev cX7_passOwnStrips : ByteArray := prog_1_method_24_code
def yX7_passOwnStrips : MethodName := ⟨RX7, "passOwnStrips", "(ILManorRolls$Person;)I"⟩
abbrev cX7_passWidowsParts : ByteArray := prog_1_method_25_code
def yX7_passWidowsParts : MethodName := ⟨RX7, "passWidowsParts", "(I)I"⟩
abbrev cX7_passPicked : ByteArray := prog_1_method_26_code
def yX7_passPicked : MethodName := ⟨RX7, "passPicked", "(II)V"⟩
abbrev cX7_hear : ByteArray := prog_1_method_27_code
def yX7_hear : MethodName := ⟨RX7, "hear", "(LManorRolls$Suit;)V"⟩
abbrev cX7_defaultIn : ByteArray := prog_1_method_28_code
def yX7_defaultIn : MethodName := ⟨RX7, "defaultIn", "(LManorRolls$Suit;LManorRolls$Person;)V"⟩
def RX8 : String := "ManorRollsModel"
def TX8 : u_T := fun k => match k with
  | 0 => ("ManorRollsModel", "order", "I", false)
  | 1 => ("ManorRollsModel", "widow", "I", false)
  | 2 => ("ManorRollsModel", "heriot", "I", false)
  | 3 => ("ManorRollsModel", "entry", "I", false)
  | 4 => ("ManorRollsModel", "merchet", "I", false)
  | 5 => ("ManorRollsModel", "works", "I", false)
  | 6 => ("ManorRollsModel", "essoins", "I", false)
  | 7 => ("ManorRollsModel", "customs", "I", false)
  | 8 => ("ManorRollsModel", "now", "I", false)
  | 9 => ("ManorRollsModel", "sex", "[I", true)
  | 10 => ("ManorRollsModel", "father", "[I", true)
  | 11 => ("ManorRollsModel", "mother", "[I", true)
  | 12 => ("ManorRollsModel", "spouse", "[I", true)
  | 13 => ("ManorRollsModel", "born", "[I", true)
  | 14 => ("ManorRollsModel", "owed", "[I", true)
  | 15 => ("ManorRollsModel", "due", "[I", true)
  | 16 => ("ManorRollsModel", "done", "[I", true)
  | 17 => ("ManorRollsModel", "sold", "[I", true)
  | 18 => ("ManorRollsModel", "excused", "[I", true)
  | 19 => ("ManorRollsModel", "sick", "[I", true)
  | 20 => ("ManorRollsModel", "isAlive", "[Z", true)
  | 21 => ("ManorRollsModel", "isLine", "[Z", true)
  | 22 => ("ManorRollsModel", "many", "I", false)
  | 23 => ("ManorRollsModel", "paid", "I", false)
  | 24 => ("ManorRollsModel", "rStrip", "[I", false)
  | 25 => ("ManorRollsModel", "rWho", "[I", false)
  | 26 => ("ManorRollsModel", "rHow", "[I", false)
  | 27 => ("ManorRollsModel", "rDay", "[I", false)
  | 28 => ("ManorRollsModel", "rights", "I", false)
  | 29 => ("ManorRollsModel", "holds", "[I", true)
  | 30 => ("ManorRollsModel", "widowOf", "[I", true)
  | 31 => ("ManorRollsModel", "one", "[I", true)
  | 32 => ("ManorRollsModel", "against", "[I", true)
  | 33 => ("ManorRollsModel", "pledge", "[I", true)
  | 34 => ("ManorRollsModel", "will", "[I", true)
  | 35 => ("ManorRollsModel", "state", "[I", true)
  | 36 => ("ManorRollsModel", "essoined", "[I", true)
  | 37 => ("ManorRollsModel", "defaults", "[I", true)
  | 38 => ("ManorRollsModel", "suits", "I", false)
  | 39 => ("ManorRollsModel", "row", "[I", true)
  | 40 => ("ManorRollsModel", "used", "I", false)
  | 41 => ("ManorRollsModel", "seen", "I", false)
  | 42 => ("ManorRollsModel", "wanted", "I", false)
  | _ => ("ManorRollsModel", "heap", "[I", true)
def tyX8 : Nat → FieldType := fun k => match k with
  | 0 => .int
  | 1 => .int
  | 2 => .int
  | 3 => .int
  | 4 => .int
  | 5 => .int
  | 6 => .int
  | 7 => .int
  | 8 => .int
  | 9 => .array .int
  | 10 => .array .int
  | 11 => .array .int
  | 12 => .array .int
  | 13 => .array .int
  | 14 => .array .int
  | 15 => .array .int
  | 16 => .array .int
  | 17 => .array .int
  | 18 => .array .int
  | 19 => .array .int
  | 20 => .array .boolean
  | 21 => .array .boolean
  | 22 => .int
  | 23 => .int
  | 24 => .array .int
  | 25 => .array .int
  | 26 => .array .int
  | 27 => .array .int
  | 28 => .int
  | 29 => .array .int
  | 30 => .array .int
  | 31 => .array .int
  | 32 => .array .int
  | 33 => .array .int
  | 34 => .array .int
  | 35 => .array .int
  | 36 => .array .int
  | 37 => .array .int
  | 38 => .int
  | 39 => .array .int
  | 40 => .int
  | 41 => .int
  | 42 => .int
  | _ => .array .int
abbrev wsX80 : List Cond := u_ws RX8 TX8 44
theorem nmX8 : ∀ a, a < 44 → ∀ b, b < 44 → a ≠ b → (TX8 a).2.1 ≠ (TX8 b).2.1 := by decide +kernel
theorem tyX8_ok : ∀ k, k < 44 → parseFieldDescriptor (TX8 k).2.2.1 = some (tyX8 k) := by decide +kernel
abbrev cX8_init : ByteArray := prog_10_method_1_code
def yX8_init : MethodName := ⟨RX8, "<init>", "()V"⟩
abbrev cX8_in : ByteArray := prog_10_method_2_code
def yX8_in : MethodName := ⟨RX8, "in", "(III)Z"⟩
abbrev cX8_isPerson : ByteArray := prog_10_method_3_code
def yX8_isPerson : MethodName := ⟨RX8, "isPerson", "(I)Z"⟩
abbrev cX8_lives : ByteArray := prog_10_method_4_code
def yX8_lives : MethodName := ⟨RX8, "lives", "(I)Z"⟩
abbrev cX8_longer : ByteArray := prog_10_method_5_code
def yX8_longer : MethodName := ⟨RX8, "longer", "([I)[I"⟩
abbrev cX8_comes : ByteArray := prog_10_method_6_code
def yX8_comes : MethodName := ⟨RX8, "comes", "(III)V"⟩
abbrev cX8_rightOf : ByteArray := prog_10_method_7_code
def yX8_rightOf : MethodName := ⟨RX8, "rightOf", "(III)I"⟩
abbrev cX8_isStrip : ByteArray := prog_10_method_8_code
def yX8_isStrip : MethodName := ⟨RX8, "isStrip", "(III)Z"⟩
abbrev cX8_holder : ByteArray := prog_10_method_9_code
def yX8_holder : MethodName := ⟨RX8, "holder", "(III)I"⟩
abbrev cX8_right : ByteArray := prog_10_method_10_code
def yX8_right : MethodName := ⟨RX8, "right", "(IIIII)I"⟩
abbrev cX8_custom : ByteArray := prog_10_method_11_code
def yX8_custom : MethodName := ⟨RX8, "custom", "(II)I"⟩
abbrev cX8_person : ByteArray := prog_10_method_12_code
def yX8_person : MethodName := ⟨RX8, "person", "(III)I"⟩
abbrev cX8_lines : ByteArray := prog_10_method_13_code
def yX8_lines : MethodName := ⟨RX8, "lines", "()V"⟩
abbrev cX8_isChild : ByteArray := prog_10_method_14_code
def yX8_isChild : MethodName := ⟨RX8, "isChild", "(II)Z"⟩
abbrev cX8_group : ByteArray := prog_10_method_15_code
def yX8_group : MethodName := ⟨RX8, "group", "(II)I"⟩
abbrev cX8_first : ByteArray := prog_10_method_16_code
def yX8_first : MethodName := ⟨RX8, "first", "(I)I"⟩
abbrev cX8_listed : ByteArray := prog_10_method_17_code
def yX8_listed : MethodName := ⟨RX8, "listed", "(II)I"⟩
abbrev cX8_heir : ByteArray := prog_10_method_18_code
def yX8_heir : MethodName := ⟨RX8, "heir", "(II)I"⟩
abbrev cX8_shares : ByteArray := prog_10_method_19_code
def yX8_shares : MethodName := ⟨RX8, "shares", "(IIII)V"⟩
abbrev cX8_passes : ByteArray := prog_10_method_20_code
def yX8_passes : MethodName := ⟨RX8, "passes", "(III)V"⟩
abbrev cX8_widowPasses : ByteArray := prog_10_method_21_code
def yX8_widowPasses : MethodName := ⟨RX8, "widowPasses", "(II)I"⟩
abbrev cX8_own : ByteArray := prog_10_method_22_code
def yX8_own : MethodName := ⟨RX8, "own", "(II)I"⟩
abbrev cX8_marry : ByteArray := prog_10_method_23_code
def yX8_marry : MethodName := ⟨RX8, "marry", "(II)Z"⟩
abbrev cX8_die : ByteArray := prog_10_method_24_code
def yX8_die : MethodName := ⟨RX8, "die", "(I)I"⟩
abbrev cX8_moves : ByteArray := prog_10_method_25_code
def yX8_moves : MethodName := ⟨RX8, "moves", "(IIIII)Z"⟩
abbrev cX8_grant : ByteArray := prog_10_method_26_code
def yX8_grant : MethodName := ⟨RX8, "grant", "(III)Z"⟩
abbrev cX8_rod : ByteArray := prog_10_method_27_code
def yX8_rod : MethodName := ⟨RX8, "rod", "(IIII)Z"⟩
abbrev cX8_held : ByteArray := prog_10_method_28_code
def yX8_held : MethodName := ⟨RX8, "held", "(IZ)I"⟩
abbrev cX8_weeks : ByteArray := prog_10_method_29_code
def yX8_weeks : MethodName := ⟨RX8, "weeks", "(I)I"⟩
abbrev cX8_sick : ByteArray := prog_10_method_30_code
def yX8_sick : MethodName := ⟨RX8, "sick", "(II)Z"⟩
abbrev cX8_works : ByteArray := prog_10_method_31_code
def yX8_works : MethodName := ⟨RX8, "works", "(IIZ)I"⟩
abbrev cX8_pay : ByteArray := prog_10_method_32_code
def yX8_pay : MethodName := ⟨RX8, "pay", "(II)I"⟩
abbrev cX8_suit : ByteArray := prog_10_method_33_code
def yX8_suit : MethodName := ⟨RX8, "suit", "(III)I"⟩
abbrev cX8_appear : ByteArray := prog_10_method_34_code
def yX8_appear : MethodName := ⟨RX8, "appear", "(II)Z"⟩
abbrev cX8_falls : ByteArray := prog_10_method_35_code
def yX8_falls : MethodName := ⟨RX8, "falls", "(I)V"⟩
abbrev cX8_court : ByteArray := prog_10_method_36_code
def yX8_court : MethodName := ⟨RX8, "court", "()I"⟩
abbrev cX8_suited : ByteArray := prog_10_method_37_code
def yX8_suited : MethodName := ⟨RX8, "suited", "(II)I"⟩
abbrev cX8_told : ByteArray := prog_10_method_38_code
def yX8_told : MethodName := ⟨RX8, "told", "(II)I"⟩
abbrev cX8_count : ByteArray := prog_10_method_39_code
def yX8_count : MethodName := ⟨RX8, "count", "(I)I"⟩
def RJ13 : String := "java/lang/Long"
def TJ13 : u_T := fun k => match k with
  | _ => ("", "", "", false)
def tyJ13 : Nat → FieldType := fun k => match k with
  | _ => .int
abbrev wsJ130 : List Cond := u_ws RJ13 TJ13 0
theorem nmJ13 : ∀ a, a < 0 → ∀ b, b < 0 → a ≠ b → (TJ13 a).2.1 ≠ (TJ13 b).2.1 := by decide +kernel
theorem tyJ13_ok : ∀ k, k < 0 → parseFieldDescriptor (TJ13 k).2.2.1 = some (tyJ13 k) := by decide +kernel
abbrev cJ13_bitCount_95d88 : ByteArray := prog_11_method_50_code
def yJ13_bitCount_95d88 : MethodName := ⟨RJ13, "bitCount", "(J)I"⟩
def RJ9 : String := "java/lang/Math"
def TJ9 : u_T := fun k => match k with
  | _ => ("", "", "", false)
def tyJ9 : Nat → FieldType := fun k => match k with
  | _ => .int
abbrev wsJ90 : List Cond := u_ws RJ9 TJ9 0
theorem nmJ9 : ∀ a, a < 0 → ∀ b, b < 0 → a ≠ b → (TJ9 a).2.1 ≠ (TJ9 b).2.1 := by decide +kernel
theorem tyJ9_ok : ∀ k, k < 0 → parseFieldDescriptor (TJ9 k).2.2.1 = some (tyJ9 k) := by decide +kernel
abbrev cJ9_max_7cf53 : ByteArray := prog_12_method_65_code
def yJ9_max_7cf53 : MethodName := ⟨RJ9, "max", "(II)I"⟩
abbrev cJ9_min_7cf53 : ByteArray := prog_12_method_69_code
def yJ9_min_7cf53 : MethodName := ⟨RJ9, "min", "(II)I"⟩
def RL : String := "ManorRollsLaw"
abbrev cL_law : ByteArray := code
def yL_law : MethodName := ⟨RL, "law", "([I)Z"⟩
def wsL_law_r1 : List Cond := [Cond.classLink RL 7 RX7, Cond.instantiable RX7 9, Cond.initialized RX7, Cond.classLink RL 10 RX8, Cond.instantiable RX8 44, Cond.initialized RX8, Cond.methodLink RL 9 yX7_init, Cond.instanceMethod yX7_init, Cond.code yX7_init cX7_init 1 none, Cond.methodLink RX7 3 objectInit, Cond.instanceMethod objectInit, Cond.code objectInit ⟨#[0xb1]⟩ 1 none, Cond.fieldLink RX7 9 "ManorRolls" "now" "I", Cond.classLink RX7 13 RX0, Cond.instantiable RX0 7, Cond.initialized RX0, Cond.fieldLink RX7 18 "ManorRolls" "inForce" "LManorRolls$Custom;", Cond.fieldLink RX7 22 "ManorRolls" "customsFound" "I", Cond.classLink RX7 25 RX3, Cond.instantiable RX3 2, Cond.initialized RX3, Cond.fieldLink RX7 28 "ManorRolls" "people" "LManorRolls$People;", Cond.classLink RX7 32 RX2, Cond.instantiable RX2 4]
def wsL_law_r2 : List Cond := [Cond.initialized RX2, Cond.fieldLink RX7 35 "ManorRolls" "land" "LManorRolls$Land;", Cond.classLink RX7 39 RX1, Cond.instantiable RX1 7, Cond.initialized RX1, Cond.fieldLink RX7 44 "ManorRolls" "heirs" "LManorRolls$Heirs;", Cond.classLink RX7 48 RX6, Cond.fieldLink RX7 50 "ManorRolls" "suits" "[LManorRolls$Suit;", Cond.fieldLink RX7 54 "ManorRolls" "suitsBrought" "I", Cond.fieldLink RX7 57 "ManorRolls" "coinsPaid" "I", Cond.methodLink RX7 15 yX0_init, Cond.instanceMethod yX0_init, Cond.code yX0_init cX0_init 3 none, Cond.methodLink RX0 3 objectInit, Cond.constant RX0 9 (100000), Cond.fieldLink RX0 10 "ManorRolls$Custom" "order" "I", Cond.fieldLink RX0 16 "ManorRolls$Custom" "widow" "I", Cond.fieldLink RX0 19 "ManorRolls$Custom" "works" "I", Cond.fieldLink RX0 22 "ManorRolls$Custom" "essoins" "I", Cond.fieldLink RX0 25 "ManorRolls$Custom" "heriot" "I", Cond.fieldLink RX0 28 "ManorRolls$Custom" "entry" "I", Cond.fieldLink RX0 31 "ManorRolls$Custom" "merchet" "I", Cond.instanceMethod yX3_init, Cond.code yX3_init cX3_init 1 none]
def wsL_law_r3 : List Cond := [Cond.methodLink RX3 3 objectInit, Cond.classLink RX3 9 RX4, Cond.fieldLink RX3 11 "ManorRolls$People" "all" "[LManorRolls$Person;", Cond.methodLink RX7 34 yX2_init, Cond.instanceMethod yX2_init, Cond.code yX2_init cX2_init 3 none, Cond.methodLink RX2 3 objectInit, Cond.classLink RX2 9 RX5, Cond.fieldLink RX2 11 "ManorRolls$Land" "newest" "[LManorRolls$Right;", Cond.fieldLink RX2 17 "ManorRolls$Land" "rights" "I", Cond.arrayClass .int, Cond.fieldLink RX2 21 "ManorRolls$Land" "picked" "[I", Cond.instantiable RX5 4, Cond.initialized RX5, Cond.methodLink RX2 25 yX5_init, Cond.instanceMethod yX5_init, Cond.code yX5_init cX5_init 5 none, Cond.methodLink RX5 1 objectInit, Cond.fieldLink RX5 7 "ManorRolls$Right" "holder" "I", Cond.fieldLink RX5 13 "ManorRolls$Right" "how" "I", Cond.fieldLink RX5 16 "ManorRolls$Right" "day" "I", Cond.fieldLink RX5 19 "ManorRolls$Right" "ahead" "LManorRolls$Right;", Cond.methodLink RX7 41 yX1_init, Cond.instanceMethod yX1_init]
def wsL_law_r4 : List Cond := [Cond.code yX1_init cX1_init 2 none, Cond.methodLink RX1 3 objectInit, Cond.fieldLink RX1 9 "ManorRolls$Heirs" "list" "[I", Cond.fieldLink RX1 15 "ManorRolls$Heirs" "takers" "[I", Cond.fieldLink RX1 18 "ManorRolls$Heirs" "people" "LManorRolls$People;", Cond.methodLink RL 12 yX8_init, Cond.instanceMethod yX8_init, Cond.code yX8_init cX8_init 2 none, Cond.methodLink RX8 3 objectInit, Cond.fieldLink RX8 9 "ManorRollsModel" "sex" "[I", Cond.fieldLink RX8 13 "ManorRollsModel" "father" "[I", Cond.fieldLink RX8 16 "ManorRollsModel" "mother" "[I", Cond.fieldLink RX8 19 "ManorRollsModel" "spouse" "[I", Cond.fieldLink RX8 22 "ManorRollsModel" "born" "[I", Cond.fieldLink RX8 25 "ManorRollsModel" "owed" "[I", Cond.fieldLink RX8 28 "ManorRollsModel" "due" "[I", Cond.fieldLink RX8 31 "ManorRollsModel" "done" "[I", Cond.fieldLink RX8 34 "ManorRollsModel" "sold" "[I", Cond.fieldLink RX8 37 "ManorRollsModel" "excused" "[I", Cond.fieldLink RX8 40 "ManorRollsModel" "sick" "[I", Cond.arrayClass .boolean, Cond.fieldLink RX8 43 "ManorRollsModel" "isAlive" "[Z", Cond.fieldLink RX8 47 "ManorRollsModel" "isLine" "[Z", Cond.fieldLink RX8 50 "ManorRollsModel" "rStrip" "[I"]
def wsL_law_r5 : List Cond := [Cond.fieldLink RX8 53 "ManorRollsModel" "rWho" "[I", Cond.fieldLink RX8 56 "ManorRollsModel" "rHow" "[I", Cond.fieldLink RX8 59 "ManorRollsModel" "rDay" "[I", Cond.fieldLink RX8 62 "ManorRollsModel" "holds" "[I", Cond.fieldLink RX8 65 "ManorRollsModel" "widowOf" "[I", Cond.fieldLink RX8 68 "ManorRollsModel" "one" "[I", Cond.fieldLink RX8 71 "ManorRollsModel" "against" "[I", Cond.fieldLink RX8 74 "ManorRollsModel" "pledge" "[I", Cond.fieldLink RX8 77 "ManorRollsModel" "will" "[I", Cond.fieldLink RX8 80 "ManorRollsModel" "state" "[I", Cond.fieldLink RX8 83 "ManorRollsModel" "essoined" "[I", Cond.fieldLink RX8 86 "ManorRollsModel" "defaults" "[I", Cond.fieldLink RX8 89 "ManorRollsModel" "row" "[I", Cond.fieldLink RX8 92 "ManorRollsModel" "heap" "[I", Cond.methodLink RX8 95 yX8_comes, Cond.instanceMethod yX8_comes, Cond.selects RX8 yX8_comes yX8_comes, Cond.code yX8_comes cX8_comes 4 none, Cond.fieldLink RX8 111 "ManorRollsModel" "rights" "I", Cond.fieldLink RX8 118 "ManorRollsModel" "now" "I", Cond.methodLink RX8 114 yX8_longer, Cond.static yX8_longer, Cond.code yX8_longer cX8_longer 3 (some (.array .int)), Cond.methodLink RL 13 yX7_custom]
def wsL_law_r6 : List Cond := [Cond.instanceMethod yX7_custom, Cond.selects RX7 yX7_custom yX7_custom, Cond.code yX7_custom cX7_custom 3 (some .int), Cond.methodLink RX7 60 yX0_canBe, Cond.static yX0_canBe, Cond.code yX0_canBe cX0_canBe 3 (some .boolean), Cond.constant RX0 34 (999999), Cond.classLink RX0 11 RX0, Cond.methodLink RX0 35 yX0_init, Cond.methodLink RL 17 yX8_custom, Cond.instanceMethod yX8_custom, Cond.selects RX8 yX8_custom yX8_custom, Cond.code yX8_custom cX8_custom 7 (some .int), Cond.constant RX8 128 (100000), Cond.constant RX8 129 (999999), Cond.fieldLink RX8 130 "ManorRollsModel" "order" "I", Cond.fieldLink RX8 133 "ManorRollsModel" "widow" "I", Cond.fieldLink RX8 136 "ManorRollsModel" "works" "I", Cond.fieldLink RX8 139 "ManorRollsModel" "essoins" "I", Cond.fieldLink RX8 142 "ManorRollsModel" "heriot" "I", Cond.fieldLink RX8 145 "ManorRollsModel" "entry" "I", Cond.fieldLink RX8 148 "ManorRollsModel" "merchet" "I", Cond.fieldLink RX8 151 "ManorRollsModel" "customs" "I", Cond.methodLink RX8 103 yX8_in]
def wsL_law_r7 : List Cond := [Cond.static yX8_in, Cond.code yX8_in cX8_in 3 (some .boolean), Cond.methodLink RL 18 yX7_person, Cond.instanceMethod yX7_person, Cond.selects RX7 yX7_person yX7_person, Cond.code yX7_person cX7_person 4 (some .int), Cond.fieldLink RX7 64 "ManorRolls$People" "came" "I", Cond.classLink RX7 70 RX4, Cond.instantiable RX4 14, Cond.initialized RX4, Cond.methodLink RX7 67 yX3_mayBeParent, Cond.instanceMethod yX3_mayBeParent, Cond.selects RX3 yX3_mayBeParent yX3_mayBeParent, Cond.code yX3_mayBeParent cX3_mayBeParent 4 (some .boolean), Cond.fieldLink RX3 29 "ManorRolls$Person" "sex" "I", Cond.methodLink RX3 21 yX3_find, Cond.instanceMethod yX3_find, Cond.selects RX3 yX3_find yX3_find, Cond.code yX3_find cX3_find 2 (some (.object "ManorRolls$Person")), Cond.fieldLink RX3 17 "ManorRolls$People" "came" "I", Cond.methodLink RX7 72 yX4_init, Cond.instanceMethod yX4_init, Cond.code yX4_init cX4_init 5 none, Cond.methodLink RX4 3 objectInit]
def wsL_law_r8 : List Cond := [Cond.fieldLink RX4 9 "ManorRolls$Person" "sex" "I", Cond.fieldLink RX4 15 "ManorRolls$Person" "father" "I", Cond.fieldLink RX4 18 "ManorRolls$Person" "mother" "I", Cond.fieldLink RX4 21 "ManorRolls$Person" "born" "I", Cond.fieldLink RX4 24 "ManorRolls$Person" "alive" "Z", Cond.fieldLink RX4 28 "ManorRolls$Person" "marriedTo" "I", Cond.methodLink RX7 75 yX3_add, Cond.instanceMethod yX3_add, Cond.selects RX3 yX3_add yX3_add, Cond.code yX3_add cX3_add 3 (some .int), Cond.fieldLink RX3 32 "ManorRolls$Person" "father" "I", Cond.fieldLink RX3 39 "ManorRolls$Person" "mother" "I", Cond.methodLink RX3 35 yX3_addChildTo, Cond.instanceMethod yX3_addChildTo, Cond.selects RX3 yX3_addChildTo yX3_addChildTo, Cond.code yX3_addChildTo cX3_addChildTo 5 none, Cond.methodLink RX3 42 yX4_addChild, Cond.instanceMethod yX4_addChild, Cond.selects RX4 yX4_addChild yX4_addChild, Cond.code yX4_addChild cX4_addChild 3 none, Cond.fieldLink RX4 31 "ManorRolls$Person" "sons" "J", Cond.fieldLink RX4 35 "ManorRolls$Person" "daughters" "J", Cond.methodLink RL 22 yX8_person, Cond.instanceMethod yX8_person]
def wsL_law_r9 : List Cond := [Cond.selects RX8 yX8_person yX8_person, Cond.code yX8_person cX8_person 4 (some .int), Cond.fieldLink RX8 99 "ManorRollsModel" "many" "I", Cond.methodLink RX8 107 yX8_isPerson, Cond.instanceMethod yX8_isPerson, Cond.selects RX8 yX8_isPerson yX8_isPerson, Cond.code yX8_isPerson cX8_isPerson 2 (some .boolean), Cond.methodLink RL 23 yX7_marry, Cond.instanceMethod yX7_marry, Cond.selects RX7 yX7_marry yX7_marry, Cond.code yX7_marry cX7_marry 5 (some .boolean), Cond.fieldLink RX7 83 "ManorRolls$Person" "sex" "I", Cond.fieldLink RX7 86 "ManorRolls$Person" "marriedTo" "I", Cond.methodLink RX7 79 yX3_findAlive, Cond.instanceMethod yX3_findAlive, Cond.selects RX3 yX3_findAlive yX3_findAlive, Cond.code yX3_findAlive cX3_findAlive 3 (some (.object "ManorRolls$Person")), Cond.fieldLink RX3 25 "ManorRolls$Person" "alive" "Z", Cond.methodLink RX7 89 yX7_passWidowsParts, Cond.instanceMethod yX7_passWidowsParts, Cond.selects RX7 yX7_passWidowsParts yX7_passWidowsParts, Cond.code yX7_passWidowsParts cX7_passWidowsParts 4 (some .int), Cond.fieldLink RX7 116 "ManorRolls$Land" "pickedCount" "I", Cond.fieldLink RX7 243 "ManorRolls$Land" "picked" "[I"]
def wsL_law_r10 : List Cond := [Cond.methodLink RX7 112 yX2_pick, Cond.instanceMethod yX2_pick, Cond.selects RX2 yX2_pick yX2_pick, Cond.code yX2_pick cX2_pick 7 none, Cond.fieldLink RX2 28 "ManorRolls$Land" "pickedCount" "I", Cond.fieldLink RX2 35 "ManorRolls$Right" "holder" "I", Cond.fieldLink RX2 38 "ManorRolls$Right" "how" "I", Cond.methodLink RX2 31 yX2_find, Cond.instanceMethod yX2_find, Cond.selects RX2 yX2_find yX2_find, Cond.code yX2_find cX2_find 2 (some (.object "ManorRolls$Right")), Cond.methodLink RX7 246 yX2_giverOf, Cond.instanceMethod yX2_giverOf, Cond.selects RX2 yX2_giverOf yX2_giverOf, Cond.code yX2_giverOf cX2_giverOf 3 (some .int), Cond.fieldLink RX2 48 "ManorRolls$Right" "ahead" "LManorRolls$Right;", Cond.methodLink RX7 237 yX7_passPicked, Cond.instanceMethod yX7_passPicked, Cond.selects RX7 yX7_passPicked yX7_passPicked, Cond.code yX7_passPicked cX7_passPicked 5 none, Cond.fieldLink RX7 191 "ManorRolls$Custom" "order" "I", Cond.methodLink RX7 249 yX1_share, Cond.instanceMethod yX1_share, Cond.selects RX1 yX1_share yX1_share]
def wsL_law_r11 : List Cond := [Cond.code yX1_share cX1_share 5 none, Cond.methodLink RX1 38 Lib.Math.min.name, Cond.static Lib.Math.min.name, Cond.initialized "java/lang/Math", Cond.code Lib.Math.min.name Lib.Math.min.code 2 (some .int), Cond.methodLink RX1 22 yX1_look, Cond.instanceMethod yX1_look, Cond.selects RX1 yX1_look yX1_look, Cond.code yX1_look cX1_look 6 none, Cond.fieldLink RX1 48 "ManorRolls$Heirs" "order" "I", Cond.fieldLink RX1 51 "ManorRolls$Heirs" "living" "J", Cond.fieldLink RX1 55 "ManorRolls$Heirs" "lasting" "J", Cond.fieldLink RX1 58 "ManorRolls$People" "came" "I", Cond.fieldLink RX1 67 "ManorRolls$Person" "alive" "Z", Cond.fieldLink RX1 73 "ManorRolls$Person" "sons" "J", Cond.fieldLink RX1 76 "ManorRolls$Person" "daughters" "J", Cond.methodLink RX1 63 yX3_find, Cond.methodLink RX1 30 yX1_firstLine, Cond.instanceMethod yX1_firstLine, Cond.selects RX1 yX1_firstLine yX1_firstLine, Cond.code yX1_firstLine cX1_firstLine 5 (some .long), Cond.fieldLink RX1 83 "ManorRolls$Person" "father" "I", Cond.methodLink RX1 79 yX1_lineBelow, Cond.instanceMethod yX1_lineBelow]
def wsL_law_r12 : List Cond := [Cond.selects RX1 yX1_lineBelow yX1_lineBelow, Cond.code yX1_lineBelow cX1_lineBelow 7 (some .long), Cond.constantLong RX1 86 (-1), Cond.methodLink RX1 88 yX1_youngestOf, Cond.static yX1_youngestOf, Cond.code yX1_youngestOf cX1_youngestOf 4 (some .long), Cond.constantLong RX1 92 (576460752303423488), Cond.methodLink RX1 44 yX1_shareLine, Cond.instanceMethod yX1_shareLine, Cond.selects RX1 yX1_shareLine yX1_shareLine, Cond.code yX1_shareLine cX1_shareLine 13 none, Cond.methodLink RX1 98 yJ13_bitCount_95d88, Cond.static yJ13_bitCount_95d88, Cond.initialized RJ13, Cond.code yJ13_bitCount_95d88 cJ13_bitCount_95d88 2 (some .int), Cond.constantLong RJ13 314 (6148914691236517205), Cond.constantLong RJ13 316 (3689348814741910323), Cond.constantLong RJ13 318 (1085102592571150095), Cond.methodLink RX1 94 yX1_isIn, Cond.static yX1_isIn, Cond.code yX1_isIn cX1_isIn 3 (some .boolean), Cond.methodLink RX1 104 yX1_give, Cond.instanceMethod yX1_give, Cond.selects RX1 yX1_give yX1_give]
def wsL_law_r13 : List Cond := [Cond.code yX1_give cX1_give 5 none, Cond.methodLink RX1 108 Lib.Math.max.name, Cond.static Lib.Math.max.name, Cond.code Lib.Math.max.name Lib.Math.max.code 2 (some .int), Cond.methodLink RX7 252 yX1_takerOf, Cond.instanceMethod yX1_takerOf, Cond.selects RX1 yX1_takerOf yX1_takerOf, Cond.code yX1_takerOf cX1_takerOf 2 (some .int), Cond.methodLink RX7 119 yX2_bringPicked, Cond.instanceMethod yX2_bringPicked, Cond.selects RX2 yX2_bringPicked yX2_bringPicked, Cond.code yX2_bringPicked cX2_bringPicked 9 none, Cond.methodLink RX2 41 Lib.Math.max.name, Cond.constant RX2 47 (61560), Cond.methodLink RX7 93 yX7_oweMerchet, Cond.instanceMethod yX7_oweMerchet, Cond.selects RX7 yX7_oweMerchet yX7_oweMerchet, Cond.code yX7_oweMerchet cX7_oweMerchet 4 none, Cond.fieldLink RX7 203 "ManorRolls$Person" "father" "I", Cond.fieldLink RX7 123 "ManorRolls$Person" "owed" "I", Cond.fieldLink RX7 231 "ManorRolls$Custom" "merchet" "I", Cond.methodLink RL 27 yX8_marry, Cond.instanceMethod yX8_marry, Cond.selects RX8 yX8_marry yX8_marry]
def wsL_law_r14 : List Cond := [Cond.code yX8_marry cX8_marry 6 (some .boolean), Cond.methodLink RX8 188 yX8_lives, Cond.instanceMethod yX8_lives, Cond.selects RX8 yX8_lives yX8_lives, Cond.code yX8_lives cX8_lives 2 (some .boolean), Cond.methodLink RX8 191 yX8_widowPasses, Cond.instanceMethod yX8_widowPasses, Cond.selects RX8 yX8_widowPasses yX8_widowPasses, Cond.code yX8_widowPasses cX8_widowPasses 7 (some .int), Cond.methodLink RX8 185 yX8_passes, Cond.instanceMethod yX8_passes, Cond.selects RX8 yX8_passes yX8_passes, Cond.code yX8_passes cX8_passes 6 none, Cond.fieldLink RX8 158 "ManorRollsModel" "used" "I", Cond.methodLink RX8 174 yX8_lines, Cond.instanceMethod yX8_lines, Cond.selects RX8 yX8_lines yX8_lines, Cond.code yX8_lines cX8_lines 3 none, Cond.methodLink RX8 154 yX8_isChild, Cond.instanceMethod yX8_isChild, Cond.selects RX8 yX8_isChild yX8_isChild, Cond.code yX8_isChild cX8_isChild 3 (some .boolean), Cond.methodLink RX8 177 yX8_first, Cond.instanceMethod yX8_first]
def wsL_law_r15 : List Cond := [Cond.selects RX8 yX8_first yX8_first, Cond.code yX8_first cX8_first 3 (some .int), Cond.methodLink RX8 161 yX8_group, Cond.instanceMethod yX8_group, Cond.selects RX8 yX8_group yX8_group, Cond.code yX8_group cX8_group 8 (some .int), Cond.methodLink RX8 181 yX8_shares, Cond.instanceMethod yX8_shares, Cond.selects RX8 yX8_shares yX8_shares, Cond.code yX8_shares cX8_shares 11 none, Cond.methodLink RL 28 yX7_die, Cond.instanceMethod yX7_die, Cond.selects RX7 yX7_die yX7_die, Cond.code yX7_die cX7_die 5 (some .int), Cond.fieldLink RX7 97 "ManorRolls$Person" "alive" "Z", Cond.methodLink RX7 101 yX7_passOwnStrips, Cond.instanceMethod yX7_passOwnStrips, Cond.selects RX7 yX7_passOwnStrips yX7_passOwnStrips, Cond.code yX7_passOwnStrips cX7_passOwnStrips 7 (some .int), Cond.fieldLink RX7 234 "ManorRolls$Custom" "widow" "I", Cond.fieldLink RX7 240 "ManorRolls$Custom" "heriot" "I", Cond.methodLink RX7 105 yX3_find, Cond.methodLink RL 32 yX8_die, Cond.instanceMethod yX8_die]
def wsL_law_r16 : List Cond := [Cond.selects RX8 yX8_die yX8_die, Cond.code yX8_die cX8_die 8 (some .int), Cond.methodLink RX8 194 yX8_own, Cond.instanceMethod yX8_own, Cond.selects RX8 yX8_own yX8_own, Cond.code yX8_own cX8_own 5 (some .int), Cond.methodLink RL 33 yX7_grant, Cond.instanceMethod yX7_grant, Cond.selects RX7 yX7_grant yX7_grant, Cond.code yX7_grant cX7_grant 4 (some .boolean), Cond.methodLink RX7 108 yX7_isHolding, Cond.static yX7_isHolding, Cond.code yX7_isHolding cX7_isHolding 1 (some .boolean), Cond.methodLink RL 37 yX8_grant, Cond.instanceMethod yX8_grant, Cond.selects RX8 yX8_grant yX8_grant, Cond.code yX8_grant cX8_grant 4 (some .boolean), Cond.methodLink RX8 197 yX8_moves, Cond.instanceMethod yX8_moves, Cond.selects RX8 yX8_moves yX8_moves, Cond.code yX8_moves cX8_moves 8 (some .boolean), Cond.methodLink RL 38 yX7_rod, Cond.instanceMethod yX7_rod, Cond.selects RX7 yX7_rod yX7_rod]
def wsL_law_r17 : List Cond := [Cond.code yX7_rod cX7_rod 6 (some .boolean), Cond.fieldLink RX7 126 "ManorRolls$Custom" "entry" "I", Cond.methodLink RL 42 yX8_rod, Cond.instanceMethod yX8_rod, Cond.selects RX8 yX8_rod yX8_rod, Cond.code yX8_rod cX8_rod 5 (some .boolean), Cond.methodLink RL 43 yX7_weeks, Cond.instanceMethod yX7_weeks, Cond.selects RX7 yX7_weeks yX7_weeks, Cond.code yX7_weeks cX7_weeks 4 (some .int), Cond.constant RX7 129 (40000), Cond.fieldLink RX7 133 "ManorRolls$Custom" "works" "I", Cond.methodLink RX7 130 yX2_heldBy, Cond.instanceMethod yX2_heldBy, Cond.selects RX2 yX2_heldBy yX2_heldBy, Cond.code yX2_heldBy cX2_heldBy 5 (some .int), Cond.methodLink RX7 136 yX4_spendWeeks, Cond.instanceMethod yX4_spendWeeks, Cond.selects RX4 yX4_spendWeeks yX4_spendWeeks, Cond.code yX4_spendWeeks cX4_spendWeeks 4 none, Cond.fieldLink RX4 38 "ManorRolls$Person" "weeksSick" "I", Cond.methodLink RX4 41 Lib.Math.min.name, Cond.fieldLink RX4 47 "ManorRolls$Person" "worksExcused" "I", Cond.fieldLink RX4 50 "ManorRolls$Person" "worksDue" "I"]
def wsL_law_r18 : List Cond := [Cond.methodLink RL 46 yX8_weeks, Cond.instanceMethod yX8_weeks, Cond.selects RX8 yX8_weeks yX8_weeks, Cond.code yX8_weeks cX8_weeks 5 (some .int), Cond.constant RX8 201 (40000), Cond.methodLink RX8 202 yX8_held, Cond.instanceMethod yX8_held, Cond.selects RX8 yX8_held yX8_held, Cond.code yX8_held cX8_held 5 (some .int), Cond.methodLink RL 47 yX7_sick, Cond.instanceMethod yX7_sick, Cond.selects RX7 yX7_sick yX7_sick, Cond.code yX7_sick cX7_sick 4 (some .boolean), Cond.fieldLink RX7 139 "ManorRolls$Person" "weeksSick" "I", Cond.methodLink RL 50 yX8_sick, Cond.instanceMethod yX8_sick, Cond.selects RX8 yX8_sick yX8_sick, Cond.code yX8_sick cX8_sick 3 (some .boolean), Cond.methodLink RL 51 yX7_works, Cond.instanceMethod yX7_works, Cond.selects RX7 yX7_works yX7_works, Cond.code yX7_works cX7_works 5 (some .int), Cond.fieldLink RX7 142 "ManorRolls$Person" "worksDue" "I", Cond.fieldLink RX7 145 "ManorRolls$Person" "worksSold" "I"]
def wsL_law_r19 : List Cond := [Cond.fieldLink RX7 148 "ManorRolls$Person" "worksDone" "I", Cond.methodLink RL 55 yX8_works, Cond.instanceMethod yX8_works, Cond.selects RX8 yX8_works yX8_works, Cond.code yX8_works cX8_works 4 (some .int), Cond.methodLink RL 56 yX7_pay, Cond.instanceMethod yX7_pay, Cond.selects RX7 yX7_pay yX7_pay, Cond.code yX7_pay cX7_pay 4 (some .int), Cond.methodLink RL 59 yX8_pay, Cond.instanceMethod yX8_pay, Cond.selects RX8 yX8_pay yX8_pay, Cond.code yX8_pay cX8_pay 3 (some .int), Cond.fieldLink RX8 206 "ManorRollsModel" "paid" "I", Cond.methodLink RL 60 yX7_suit, Cond.instanceMethod yX7_suit, Cond.selects RX7 yX7_suit yX7_suit, Cond.code yX7_suit cX7_suit 5 (some .int), Cond.instantiable RX6 7, Cond.initialized RX6, Cond.methodLink RX7 151 yX6_init, Cond.instanceMethod yX6_init, Cond.code yX6_init cX6_init 4 none, Cond.methodLink RX6 3 objectInit]
def wsL_law_r20 : List Cond := [Cond.fieldLink RX6 9 "ManorRolls$Suit" "one" "I", Cond.fieldLink RX6 15 "ManorRolls$Suit" "against" "I", Cond.fieldLink RX6 18 "ManorRolls$Suit" "pledge" "I", Cond.fieldLink RX6 21 "ManorRolls$Suit" "state" "I", Cond.fieldLink RX6 24 "ManorRolls$Suit" "next" "I", Cond.methodLink RL 63 yX8_suit, Cond.instanceMethod yX8_suit, Cond.selects RX8 yX8_suit yX8_suit, Cond.code yX8_suit cX8_suit 4 (some .int), Cond.fieldLink RX8 209 "ManorRollsModel" "suits" "I", Cond.methodLink RL 64 yX7_appear, Cond.instanceMethod yX7_appear, Cond.selects RX7 yX7_appear yX7_appear, Cond.code yX7_appear cX7_appear 4 (some .boolean), Cond.fieldLink RX7 158 "ManorRolls$Suit" "state" "I", Cond.fieldLink RX7 161 "ManorRolls$Suit" "next" "I", Cond.methodLink RX7 154 yX7_findSuit, Cond.instanceMethod yX7_findSuit, Cond.selects RX7 yX7_findSuit yX7_findSuit, Cond.code yX7_findSuit cX7_findSuit 2 (some (.object "ManorRolls$Suit")), Cond.methodLink RL 67 yX8_appear, Cond.instanceMethod yX8_appear, Cond.selects RX8 yX8_appear yX8_appear, Cond.code yX8_appear cX8_appear 3 (some .boolean)]
def wsL_law_r21 : List Cond := [Cond.methodLink RL 68 yX7_court, Cond.instanceMethod yX7_court, Cond.selects RX7 yX7_court yX7_court, Cond.code yX7_court cX7_court 4 (some .int), Cond.methodLink RX7 164 yX7_hear, Cond.instanceMethod yX7_hear, Cond.selects RX7 yX7_hear yX7_hear, Cond.code yX7_hear cX7_hear 3 none, Cond.fieldLink RX7 255 "ManorRolls$Suit" "against" "I", Cond.fieldLink RX7 258 "ManorRolls$Suit" "one" "I", Cond.fieldLink RX7 218 "ManorRolls$Suit" "essoins" "I", Cond.fieldLink RX7 264 "ManorRolls$Custom" "essoins" "I", Cond.methodLink RX7 261 yX3_owe, Cond.instanceMethod yX3_owe, Cond.selects RX3 yX3_owe yX3_owe, Cond.code yX3_owe cX3_owe 4 none, Cond.fieldLink RX3 46 "ManorRolls$Person" "owed" "I", Cond.methodLink RX7 265 yX7_defaultIn, Cond.instanceMethod yX7_defaultIn, Cond.selects RX7 yX7_defaultIn yX7_defaultIn, Cond.code yX7_defaultIn cX7_defaultIn 5 none, Cond.fieldLink RX7 269 "ManorRolls$Suit" "pledge" "I", Cond.fieldLink RX7 221 "ManorRolls$Suit" "defaults" "I", Cond.methodLink RL 72 yX8_court]
def wsL_law_r22 : List Cond := [Cond.instanceMethod yX8_court, Cond.selects RX8 yX8_court yX8_court, Cond.code yX8_court cX8_court 4 (some .int), Cond.methodLink RX8 212 yX8_falls, Cond.instanceMethod yX8_falls, Cond.selects RX8 yX8_falls yX8_falls, Cond.code yX8_falls cX8_falls 3 none, Cond.methodLink RL 73 yX7_holder, Cond.instanceMethod yX7_holder, Cond.selects RX7 yX7_holder yX7_holder, Cond.code yX7_holder cX7_holder 4 (some .int), Cond.methodLink RX7 168 yX7_right, Cond.instanceMethod yX7_right, Cond.selects RX7 yX7_right yX7_right, Cond.code yX7_right cX7_right 7 (some .int), Cond.fieldLink RX7 180 "ManorRolls$Right" "holder" "I", Cond.fieldLink RX7 185 "ManorRolls$Right" "how" "I", Cond.fieldLink RX7 188 "ManorRolls$Right" "day" "I", Cond.methodLink RX7 172 yX2_onDay, Cond.instanceMethod yX2_onDay, Cond.selects RX2 yX2_onDay yX2_onDay, Cond.code yX2_onDay cX2_onDay 4 (some (.object "ManorRolls$Right")), Cond.fieldLink RX2 52 "ManorRolls$Right" "day" "I", Cond.methodLink RX7 176 yX2_stepsAhead]
def wsL_law_r23 : List Cond := [Cond.static yX2_stepsAhead, Cond.code yX2_stepsAhead cX2_stepsAhead 4 (some (.object "ManorRolls$Right")), Cond.methodLink RL 76 yX8_holder, Cond.instanceMethod yX8_holder, Cond.selects RX8 yX8_holder yX8_holder, Cond.code yX8_holder cX8_holder 4 (some .int), Cond.methodLink RX8 121 yX8_isStrip, Cond.instanceMethod yX8_isStrip, Cond.selects RX8 yX8_isStrip yX8_isStrip, Cond.code yX8_isStrip cX8_isStrip 4 (some .boolean), Cond.methodLink RX8 124 yX8_rightOf, Cond.instanceMethod yX8_rightOf, Cond.selects RX8 yX8_rightOf yX8_rightOf, Cond.code yX8_rightOf cX8_rightOf 6 (some .int), Cond.methodLink RL 77 yX7_right, Cond.methodLink RL 81 yX8_right, Cond.instanceMethod yX8_right, Cond.selects RX8 yX8_right yX8_right, Cond.code yX8_right cX8_right 7 (some .int), Cond.methodLink RL 82 yX7_heir, Cond.instanceMethod yX7_heir, Cond.selects RX7 yX7_heir yX7_heir, Cond.code yX7_heir cX7_heir 3 (some .int), Cond.fieldLink RX7 197 "ManorRolls$Heirs" "listed" "I"]
def wsL_law_r24 : List Cond := [Cond.fieldLink RX7 200 "ManorRolls$Heirs" "list" "[I", Cond.methodLink RX7 194 yX1_list, Cond.instanceMethod yX1_list, Cond.selects RX1 yX1_list yX1_list, Cond.code yX1_list cX1_list 3 none, Cond.fieldLink RX1 26 "ManorRolls$Heirs" "listed" "I", Cond.methodLink RX1 34 yX1_listLine, Cond.instanceMethod yX1_listLine, Cond.selects RX1 yX1_listLine yX1_listLine, Cond.code yX1_listLine cX1_listLine 5 none, Cond.methodLink RL 85 yX8_heir, Cond.instanceMethod yX8_heir, Cond.selects RX8 yX8_heir yX8_heir, Cond.code yX8_heir cX8_heir 6 (some .int), Cond.fieldLink RX8 165 "ManorRollsModel" "seen" "I", Cond.fieldLink RX8 168 "ManorRollsModel" "wanted" "I", Cond.methodLink RX8 171 yX8_listed, Cond.instanceMethod yX8_listed, Cond.selects RX8 yX8_listed yX8_listed, Cond.code yX8_listed cX8_listed 8 (some .int), Cond.methodLink RL 86 yX7_told, Cond.instanceMethod yX7_told, Cond.selects RX7 yX7_told yX7_told, Cond.code yX7_told cX7_told 4 (some .int)]
def wsL_law_r25 : List Cond := [Cond.fieldLink RX7 206 "ManorRolls$Person" "mother" "I", Cond.fieldLink RX7 209 "ManorRolls$Person" "born" "I", Cond.fieldLink RX7 215 "ManorRolls$Person" "worksExcused" "I", Cond.methodLink RX7 212 yX2_partsOf, Cond.instanceMethod yX2_partsOf, Cond.selects RX2 yX2_partsOf yX2_partsOf, Cond.code yX2_partsOf cX2_partsOf 5 (some .int), Cond.methodLink RL 89 yX8_told, Cond.instanceMethod yX8_told, Cond.selects RX8 yX8_told yX8_told, Cond.code yX8_told cX8_told 3 (some .int), Cond.methodLink RL 90 yX7_suited, Cond.instanceMethod yX7_suited, Cond.selects RX7 yX7_suited yX7_suited, Cond.code yX7_suited cX7_suited 4 (some .int), Cond.methodLink RL 93 yX8_suited, Cond.instanceMethod yX8_suited, Cond.selects RX8 yX8_suited yX8_suited, Cond.code yX8_suited cX8_suited 3 (some .int), Cond.methodLink RL 94 yX7_count, Cond.instanceMethod yX7_count, Cond.selects RX7 yX7_count yX7_count, Cond.code yX7_count cX7_count 2 (some .int), Cond.fieldLink RX7 228 "ManorRolls$Land" "rights" "I"]
def wsL_law_r26 : List Cond := [Cond.methodLink RX7 224 yX3_allOwed, Cond.instanceMethod yX3_allOwed, Cond.selects RX3 yX3_allOwed yX3_allOwed, Cond.code yX3_allOwed cX3_allOwed 4 (some .int), Cond.methodLink RL 97 yX8_count, Cond.instanceMethod yX8_count, Cond.selects RX8 yX8_count yX8_count, Cond.code yX8_count cX8_count 4 (some .int)]
def wsL_law : List Cond := (wsL_law_r1 ++ (wsL_law_r2 ++ (wsL_law_r3 ++ (wsL_law_r4 ++ (wsL_law_r5 ++ (wsL_law_r6 ++ (wsL_law_r7 ++ (wsL_law_r8 ++ (wsL_law_r9 ++ (wsL_law_r10 ++ (wsL_law_r11 ++ (wsL_law_r12 ++ (wsL_law_r13 ++ (wsL_law_r14 ++ (wsL_law_r15 ++ (wsL_law_r16 ++ (wsL_law_r17 ++ (wsL_law_r18 ++ (wsL_law_r19 ++ (wsL_law_r20 ++ (wsL_law_r21 ++ (wsL_law_r22 ++ (wsL_law_r23 ++ (wsL_law_r24 ++ (wsL_law_r25 ++ wsL_law_r26))))))))))))))))))))))))) ++ wsX70 ++ wsX80 ++ wsX00 ++ wsX30 ++ wsX20 ++ wsX10 ++ wsX50 ++ wsX40 ++ wsX60 ++ ([] : List Cond)
set_option maxRecDepth 20000 in
theorem wsL_law_gw : wsL_law.all goodWord = true := by decide +kernel
theorem inlX0 : ∀ w ∈ wsX00, w ∈ wsL_law := fun _ h => List.mem_append_left _ (List.mem_append_left _ (List.mem_append_left _ (List.mem_append_left _ (List.mem_append_left _ (List.mem_append_left _ (List.mem_append_left _ (List.mem_append_right _ h)))))))
theorem inlX1 : ∀ w ∈ wsX10, w ∈ wsL_law := fun _ h => List.mem_append_left _ (List.mem_append_left _ (List.mem_append_left _ (List.mem_append_left _ (List.mem_append_right _ h))))
theorem inlX2 : ∀ w ∈ wsX20, w ∈ wsL_law := fun _ h => List.mem_append_left _ (List.mem_append_left _ (List.mem_append_left _ (List.mem_append_left _ (List.mem_append_left _ (List.mem_append_right _ h)))))
theorem inlX3 : ∀ w ∈ wsX30, w ∈ wsL_law := fun _ h => List.mem_append_left _ (List.mem_append_left _ (List.mem_append_left _ (List.mem_append_left _ (List.mem_append_left _ (List.mem_append_left _ (List.mem_append_right _ h))))))
theorem inlX4 : ∀ w ∈ wsX40, w ∈ wsL_law := fun _ h => List.mem_append_left _ (List.mem_append_left _ (List.mem_append_right _ h))
theorem inlX5 : ∀ w ∈ wsX50, w ∈ wsL_law := fun _ h => List.mem_append_left _ (List.mem_append_left _ (List.mem_append_left _ (List.mem_append_right _ h)))
theorem inlX6 : ∀ w ∈ wsX60, w ∈ wsL_law := fun _ h => List.mem_append_left _ (List.mem_append_right _ h)
theorem inlX7 : ∀ w ∈ wsX70, w ∈ wsL_law := fun _ h => List.mem_append_left _ (List.mem_append_left _ (List.mem_append_left _ (List.mem_append_left _ (List.mem_append_left _ (List.mem_append_left _ (List.mem_append_left _ (List.mem_append_left _ (List.mem_append_left _ (List.mem_append_right _ h)))))))))
theorem inlX8 : ∀ w ∈ wsX80, w ∈ wsL_law := fun _ h => List.mem_append_left _ (List.mem_append_left _ (List.mem_append_left _ (List.mem_append_left _ (List.mem_append_left _ (List.mem_append_left _ (List.mem_append_left _ (List.mem_append_left _ (List.mem_append_right _ h))))))))
abbrev vwCl : List vw_C := [(RX0, TX0, 7), (RX1, TX1, 7), (RX2, TX2, 4), (RX3, TX3, 2), (RX4, TX4, 14), (RX5, TX5, 4), (RX6, TX6, 7), (RX7, TX7, 9), (RX8, TX8, 44)]
