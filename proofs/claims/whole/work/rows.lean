section
-- ===== PART A: goes FIRST, ahead of the names: the tables' words, and 'selects' of the private methods out of them =====
/-- a private method of a class that the tables say can be made, by its rows of tables_1 -/
def lw_okq (q : MethodName × Nat) : Prop := (q.1.cls ≠ "java/lang/invoke/MethodHandle" ∧ q.1.cls ≠ "java/lang/invoke/VarHandle") ∧ Cond.instantiable q.1.cls q.2 ∈ tables_1 ∧ Cond.privateMethod q.1 ∈ tables_1 ∧ Cond.instanceMethod q.1 ∈ tables_1
theorem lw_p0 : lw_okq (⟨"ManorRolls$People", "addChildTo", "(III)V"⟩, 2) := ⟨⟨by decide +kernel, by decide +kernel⟩, List.mem_of_getElem? (i := 57) (by decide +kernel), List.mem_of_getElem? (i := 278) (by decide +kernel), List.mem_of_getElem? (i := 279) (by decide +kernel)⟩
theorem lw_p1 : lw_okq (⟨"ManorRolls", "passWidowsParts", "(I)I"⟩, 9) := ⟨⟨by decide +kernel, by decide +kernel⟩, List.mem_of_getElem? (i := 13) (by decide +kernel), List.mem_of_getElem? (i := 294) (by decide +kernel), List.mem_of_getElem? (i := 295) (by decide +kernel)⟩
theorem lw_p2 : lw_okq (⟨"ManorRolls$Land", "find", "(I)LManorRolls$Right;"⟩, 4) := ⟨⟨by decide +kernel, by decide +kernel⟩, List.mem_of_getElem? (i := 74) (by decide +kernel), List.mem_of_getElem? (i := 302) (by decide +kernel), List.mem_of_getElem? (i := 303) (by decide +kernel)⟩
theorem lw_p3 : lw_okq (⟨"ManorRolls", "passPicked", "(II)V"⟩, 9) := ⟨⟨by decide +kernel, by decide +kernel⟩, List.mem_of_getElem? (i := 13) (by decide +kernel), List.mem_of_getElem? (i := 310) (by decide +kernel), List.mem_of_getElem? (i := 311) (by decide +kernel)⟩
theorem lw_p4 : lw_okq (⟨"ManorRolls$Heirs", "look", "(II)V"⟩, 7) := ⟨⟨by decide +kernel, by decide +kernel⟩, List.mem_of_getElem? (i := 124) (by decide +kernel), List.mem_of_getElem? (i := 318) (by decide +kernel), List.mem_of_getElem? (i := 319) (by decide +kernel)⟩
theorem lw_p5 : lw_okq (⟨"ManorRolls$Heirs", "firstLine", "(I)J"⟩, 7) := ⟨⟨by decide +kernel, by decide +kernel⟩, List.mem_of_getElem? (i := 124) (by decide +kernel), List.mem_of_getElem? (i := 323) (by decide +kernel), List.mem_of_getElem? (i := 324) (by decide +kernel)⟩
theorem lw_p6 : lw_okq (⟨"ManorRolls$Heirs", "lineBelow", "(IJ)J"⟩, 7) := ⟨⟨by decide +kernel, by decide +kernel⟩, List.mem_of_getElem? (i := 124) (by decide +kernel), List.mem_of_getElem? (i := 327) (by decide +kernel), List.mem_of_getElem? (i := 328) (by decide +kernel)⟩
theorem lw_p7 : lw_okq (⟨"ManorRolls$Heirs", "shareLine", "(JIII)V"⟩, 7) := ⟨⟨by decide +kernel, by decide +kernel⟩, List.mem_of_getElem? (i := 124) (by decide +kernel), List.mem_of_getElem? (i := 339) (by decide +kernel), List.mem_of_getElem? (i := 340) (by decide +kernel)⟩
theorem lw_p8 : lw_okq (⟨"ManorRolls$Heirs", "give", "(III)V"⟩, 7) := ⟨⟨by decide +kernel, by decide +kernel⟩, List.mem_of_getElem? (i := 124) (by decide +kernel), List.mem_of_getElem? (i := 352) (by decide +kernel), List.mem_of_getElem? (i := 353) (by decide +kernel)⟩
theorem lw_p9 : lw_okq (⟨"ManorRolls", "oweMerchet", "(LManorRolls$Person;)V"⟩, 9) := ⟨⟨by decide +kernel, by decide +kernel⟩, List.mem_of_getElem? (i := 13) (by decide +kernel), List.mem_of_getElem? (i := 364) (by decide +kernel), List.mem_of_getElem? (i := 365) (by decide +kernel)⟩
theorem lw_p10 : lw_okq (⟨"ManorRolls", "passOwnStrips", "(ILManorRolls$Person;)I"⟩, 9) := ⟨⟨by decide +kernel, by decide +kernel⟩, List.mem_of_getElem? (i := 13) (by decide +kernel), List.mem_of_getElem? (i := 372) (by decide +kernel), List.mem_of_getElem? (i := 373) (by decide +kernel)⟩
theorem lw_p11 : lw_okq (⟨"ManorRolls", "findSuit", "(I)LManorRolls$Suit;"⟩, 9) := ⟨⟨by decide +kernel, by decide +kernel⟩, List.mem_of_getElem? (i := 13) (by decide +kernel), List.mem_of_getElem? (i := 454) (by decide +kernel), List.mem_of_getElem? (i := 455) (by decide +kernel)⟩
theorem lw_p12 : lw_okq (⟨"ManorRolls", "hear", "(LManorRolls$Suit;)V"⟩, 9) := ⟨⟨by decide +kernel, by decide +kernel⟩, List.mem_of_getElem? (i := 13) (by decide +kernel), List.mem_of_getElem? (i := 462) (by decide +kernel), List.mem_of_getElem? (i := 463) (by decide +kernel)⟩
theorem lw_p13 : lw_okq (⟨"ManorRolls", "defaultIn", "(LManorRolls$Suit;LManorRolls$Person;)V"⟩, 9) := ⟨⟨by decide +kernel, by decide +kernel⟩, List.mem_of_getElem? (i := 13) (by decide +kernel), List.mem_of_getElem? (i := 470) (by decide +kernel), List.mem_of_getElem? (i := 471) (by decide +kernel)⟩
theorem lw_p14 : lw_okq (⟨"ManorRolls$Heirs", "listLine", "(JI)V"⟩, 7) := ⟨⟨by decide +kernel, by decide +kernel⟩, List.mem_of_getElem? (i := 124) (by decide +kernel), List.mem_of_getElem? (i := 498) (by decide +kernel), List.mem_of_getElem? (i := 499) (by decide +kernel)⟩
theorem lw_p15 : lw_okq (⟨"ManorRollsModel", "comes", "(III)V"⟩, 44) := ⟨⟨by decide +kernel, by decide +kernel⟩, List.mem_of_getElem? (i := 522) (by decide +kernel), List.mem_of_getElem? (i := 528) (by decide +kernel), List.mem_of_getElem? (i := 529) (by decide +kernel)⟩
def lw_privs_1 : List (MethodName × Nat) := [(⟨"ManorRolls$People", "addChildTo", "(III)V"⟩, 2), (⟨"ManorRolls", "passWidowsParts", "(I)I"⟩, 9), (⟨"ManorRolls$Land", "find", "(I)LManorRolls$Right;"⟩, 4), (⟨"ManorRolls", "passPicked", "(II)V"⟩, 9), (⟨"ManorRolls$Heirs", "look", "(II)V"⟩, 7), (⟨"ManorRolls$Heirs", "firstLine", "(I)J"⟩, 7), (⟨"ManorRolls$Heirs", "lineBelow", "(IJ)J"⟩, 7), (⟨"ManorRolls$Heirs", "shareLine", "(JIII)V"⟩, 7), (⟨"ManorRolls$Heirs", "give", "(III)V"⟩, 7), (⟨"ManorRolls", "oweMerchet", "(LManorRolls$Person;)V"⟩, 9), (⟨"ManorRolls", "passOwnStrips", "(ILManorRolls$Person;)I"⟩, 9), (⟨"ManorRolls", "findSuit", "(I)LManorRolls$Suit;"⟩, 9), (⟨"ManorRolls", "hear", "(LManorRolls$Suit;)V"⟩, 9), (⟨"ManorRolls", "defaultIn", "(LManorRolls$Suit;LManorRolls$Person;)V"⟩, 9), (⟨"ManorRolls$Heirs", "listLine", "(JI)V"⟩, 7), (⟨"ManorRollsModel", "comes", "(III)V"⟩, 44)]
theorem lw_r1 : ∀ q ∈ lw_privs_1, lw_okq q := List.forall_mem_cons.mpr ⟨lw_p0, List.forall_mem_cons.mpr ⟨lw_p1, List.forall_mem_cons.mpr ⟨lw_p2, List.forall_mem_cons.mpr ⟨lw_p3, List.forall_mem_cons.mpr ⟨lw_p4, List.forall_mem_cons.mpr ⟨lw_p5, List.forall_mem_cons.mpr ⟨lw_p6, List.forall_mem_cons.mpr ⟨lw_p7, List.forall_mem_cons.mpr ⟨lw_p8, List.forall_mem_cons.mpr ⟨lw_p9, List.forall_mem_cons.mpr ⟨lw_p10, List.forall_mem_cons.mpr ⟨lw_p11, List.forall_mem_cons.mpr ⟨lw_p12, List.forall_mem_cons.mpr ⟨lw_p13, List.forall_mem_cons.mpr ⟨lw_p14, List.forall_mem_cons.mpr ⟨lw_p15, fun _ h => absurd h List.not_mem_nil⟩⟩⟩⟩⟩⟩⟩⟩⟩⟩⟩⟩⟩⟩⟩⟩
theorem lw_p16 : lw_okq (⟨"ManorRollsModel", "isStrip", "(III)Z"⟩, 44) := ⟨⟨by decide +kernel, by decide +kernel⟩, List.mem_of_getElem? (i := 522) (by decide +kernel), List.mem_of_getElem? (i := 673) (by decide +kernel), List.mem_of_getElem? (i := 674) (by decide +kernel)⟩
theorem lw_p17 : lw_okq (⟨"ManorRollsModel", "rightOf", "(III)I"⟩, 44) := ⟨⟨by decide +kernel, by decide +kernel⟩, List.mem_of_getElem? (i := 522) (by decide +kernel), List.mem_of_getElem? (i := 680) (by decide +kernel), List.mem_of_getElem? (i := 681) (by decide +kernel)⟩
theorem lw_p18 : lw_okq (⟨"ManorRollsModel", "isPerson", "(I)Z"⟩, 44) := ⟨⟨by decide +kernel, by decide +kernel⟩, List.mem_of_getElem? (i := 522) (by decide +kernel), List.mem_of_getElem? (i := 698) (by decide +kernel), List.mem_of_getElem? (i := 699) (by decide +kernel)⟩
theorem lw_p19 : lw_okq (⟨"ManorRollsModel", "lines", "()V"⟩, 44) := ⟨⟨by decide +kernel, by decide +kernel⟩, List.mem_of_getElem? (i := 522) (by decide +kernel), List.mem_of_getElem? (i := 706) (by decide +kernel), List.mem_of_getElem? (i := 707) (by decide +kernel)⟩
theorem lw_p20 : lw_okq (⟨"ManorRollsModel", "isChild", "(II)Z"⟩, 44) := ⟨⟨by decide +kernel, by decide +kernel⟩, List.mem_of_getElem? (i := 522) (by decide +kernel), List.mem_of_getElem? (i := 710) (by decide +kernel), List.mem_of_getElem? (i := 711) (by decide +kernel)⟩
theorem lw_p21 : lw_okq (⟨"ManorRollsModel", "first", "(I)I"⟩, 44) := ⟨⟨by decide +kernel, by decide +kernel⟩, List.mem_of_getElem? (i := 522) (by decide +kernel), List.mem_of_getElem? (i := 714) (by decide +kernel), List.mem_of_getElem? (i := 715) (by decide +kernel)⟩
theorem lw_p22 : lw_okq (⟨"ManorRollsModel", "group", "(II)I"⟩, 44) := ⟨⟨by decide +kernel, by decide +kernel⟩, List.mem_of_getElem? (i := 522) (by decide +kernel), List.mem_of_getElem? (i := 718) (by decide +kernel), List.mem_of_getElem? (i := 719) (by decide +kernel)⟩
theorem lw_p23 : lw_okq (⟨"ManorRollsModel", "listed", "(II)I"⟩, 44) := ⟨⟨by decide +kernel, by decide +kernel⟩, List.mem_of_getElem? (i := 522) (by decide +kernel), List.mem_of_getElem? (i := 722) (by decide +kernel), List.mem_of_getElem? (i := 723) (by decide +kernel)⟩
theorem lw_p24 : lw_okq (⟨"ManorRollsModel", "lives", "(I)Z"⟩, 44) := ⟨⟨by decide +kernel, by decide +kernel⟩, List.mem_of_getElem? (i := 522) (by decide +kernel), List.mem_of_getElem? (i := 730) (by decide +kernel), List.mem_of_getElem? (i := 731) (by decide +kernel)⟩
theorem lw_p25 : lw_okq (⟨"ManorRollsModel", "widowPasses", "(II)I"⟩, 44) := ⟨⟨by decide +kernel, by decide +kernel⟩, List.mem_of_getElem? (i := 522) (by decide +kernel), List.mem_of_getElem? (i := 734) (by decide +kernel), List.mem_of_getElem? (i := 735) (by decide +kernel)⟩
theorem lw_p26 : lw_okq (⟨"ManorRollsModel", "passes", "(III)V"⟩, 44) := ⟨⟨by decide +kernel, by decide +kernel⟩, List.mem_of_getElem? (i := 522) (by decide +kernel), List.mem_of_getElem? (i := 738) (by decide +kernel), List.mem_of_getElem? (i := 739) (by decide +kernel)⟩
theorem lw_p27 : lw_okq (⟨"ManorRollsModel", "shares", "(IIII)V"⟩, 44) := ⟨⟨by decide +kernel, by decide +kernel⟩, List.mem_of_getElem? (i := 522) (by decide +kernel), List.mem_of_getElem? (i := 742) (by decide +kernel), List.mem_of_getElem? (i := 743) (by decide +kernel)⟩
theorem lw_p28 : lw_okq (⟨"ManorRollsModel", "own", "(II)I"⟩, 44) := ⟨⟨by decide +kernel, by decide +kernel⟩, List.mem_of_getElem? (i := 522) (by decide +kernel), List.mem_of_getElem? (i := 750) (by decide +kernel), List.mem_of_getElem? (i := 751) (by decide +kernel)⟩
theorem lw_p29 : lw_okq (⟨"ManorRollsModel", "moves", "(IIIII)Z"⟩, 44) := ⟨⟨by decide +kernel, by decide +kernel⟩, List.mem_of_getElem? (i := 522) (by decide +kernel), List.mem_of_getElem? (i := 758) (by decide +kernel), List.mem_of_getElem? (i := 759) (by decide +kernel)⟩
theorem lw_p30 : lw_okq (⟨"ManorRollsModel", "held", "(IZ)I"⟩, 44) := ⟨⟨by decide +kernel, by decide +kernel⟩, List.mem_of_getElem? (i := 522) (by decide +kernel), List.mem_of_getElem? (i := 771) (by decide +kernel), List.mem_of_getElem? (i := 772) (by decide +kernel)⟩
theorem lw_p31 : lw_okq (⟨"ManorRollsModel", "falls", "(I)V"⟩, 44) := ⟨⟨by decide +kernel, by decide +kernel⟩, List.mem_of_getElem? (i := 522) (by decide +kernel), List.mem_of_getElem? (i := 799) (by decide +kernel), List.mem_of_getElem? (i := 800) (by decide +kernel)⟩
def lw_privs_2 : List (MethodName × Nat) := [(⟨"ManorRollsModel", "isStrip", "(III)Z"⟩, 44), (⟨"ManorRollsModel", "rightOf", "(III)I"⟩, 44), (⟨"ManorRollsModel", "isPerson", "(I)Z"⟩, 44), (⟨"ManorRollsModel", "lines", "()V"⟩, 44), (⟨"ManorRollsModel", "isChild", "(II)Z"⟩, 44), (⟨"ManorRollsModel", "first", "(I)I"⟩, 44), (⟨"ManorRollsModel", "group", "(II)I"⟩, 44), (⟨"ManorRollsModel", "listed", "(II)I"⟩, 44), (⟨"ManorRollsModel", "lives", "(I)Z"⟩, 44), (⟨"ManorRollsModel", "widowPasses", "(II)I"⟩, 44), (⟨"ManorRollsModel", "passes", "(III)V"⟩, 44), (⟨"ManorRollsModel", "shares", "(IIII)V"⟩, 44), (⟨"ManorRollsModel", "own", "(II)I"⟩, 44), (⟨"ManorRollsModel", "moves", "(IIIII)Z"⟩, 44), (⟨"ManorRollsModel", "held", "(IZ)I"⟩, 44), (⟨"ManorRollsModel", "falls", "(I)V"⟩, 44)]
theorem lw_r2 : ∀ q ∈ lw_privs_2, lw_okq q := List.forall_mem_cons.mpr ⟨lw_p16, List.forall_mem_cons.mpr ⟨lw_p17, List.forall_mem_cons.mpr ⟨lw_p18, List.forall_mem_cons.mpr ⟨lw_p19, List.forall_mem_cons.mpr ⟨lw_p20, List.forall_mem_cons.mpr ⟨lw_p21, List.forall_mem_cons.mpr ⟨lw_p22, List.forall_mem_cons.mpr ⟨lw_p23, List.forall_mem_cons.mpr ⟨lw_p24, List.forall_mem_cons.mpr ⟨lw_p25, List.forall_mem_cons.mpr ⟨lw_p26, List.forall_mem_cons.mpr ⟨lw_p27, List.forall_mem_cons.mpr ⟨lw_p28, List.forall_mem_cons.mpr ⟨lw_p29, List.forall_mem_cons.mpr ⟨lw_p30, List.forall_mem_cons.mpr ⟨lw_p31, fun _ h => absurd h List.not_mem_nil⟩⟩⟩⟩⟩⟩⟩⟩⟩⟩⟩⟩⟩⟩⟩⟩
def lw_privs : List (MethodName × Nat) := lw_privs_1 ++ (lw_privs_2)
def lw_tbl : List Cond := k2_sels lw_privs ++ tables_1
theorem lw_privs_ok : ∀ q ∈ lw_privs, lw_okq q := by
  show ∀ q ∈ lw_privs_1 ++ (lw_privs_2), lw_okq q
  exact List.forall_mem_append.mpr ⟨lw_r1, lw_r2⟩
end
section
/-! ===== BEGIN words of one list among another's, by their places ===== -/
theorem goodIn_r {big : List Cond} (ws : List Cond) (ps : List Nat) (hp : ws = ps.filterMap (fun i => big[i]?)) (h : ws.all goodWord = true) : GoodIn big ws := by
  intro w hw
  have h1 := List.all_eq_true.mp h w hw
  rw [hp] at hw
  obtain ⟨i, -, hi⟩ := List.mem_filterMap.mp hw
  have hm : w ∈ big := by first | exact List.mem_of_getElem? hi | exact List.getElem?_mem hi
  exact ⟨hm, good_of_word h1⟩
theorem goodIn_app {big a b : List Cond} (ha : GoodIn big a) (hb : GoodIn big b) : GoodIn big (a ++ b) := fun w h => (List.mem_append.mp h).elim (ha w) (hb w)
theorem goodIn_ca {big a b : List Cond} {c : Cond} (ha : GoodIn big (c :: a)) (hb : GoodIn big b) : GoodIn big (c :: (a ++ b)) := fun w h => (List.mem_cons.mp h).elim (fun e => ha w (List.mem_cons.mpr (Or.inl e))) (fun h => (List.mem_append.mp h).elim (fun h => ha w (List.mem_cons.mpr (Or.inr h))) (hb w))
theorem goodIn_sub {big ws : List Cond} (hm : ∀ w ∈ ws, w ∈ big) (h : ws.all goodWord = true) : GoodIn big ws := fun w hw => ⟨hm w hw, good_of_word (List.all_eq_true.mp h w hw)⟩
/-! ===== END ===== -/

/-! ===== BEGIN printed: names, fields, word lists, decode rows ===== -/
def RX0 : String := "ManorRolls$Custom"
def TX0 : u_T := fun k => match k with
  | 0 => ("ManorRolls$Custom", "order", "I", true)
  | 1 => ("ManorRolls$Custom", "widow", "I", true)
  | 2 => ("ManorRolls$Custom", "works", "I", true)
  | 3 => ("ManorRolls$Custom", "essoins", "I", true)
  | 4 => ("ManorRolls$Custom", "heriot", "I", true)
  | 5 => ("ManorRolls$Custom", "entry", "I", true)
  | _ => ("ManorRolls$Custom", "merchet", "I", true)
def tyX0 : Nat → FieldType := fun k => match k with
  | 0 => .int
  | 1 => .int
  | 2 => .int
  | 3 => .int
  | 4 => .int
  | 5 => .int
  | _ => .int
abbrev wsX00 : List Cond := u_ws RX0 TX0 7
theorem nmX0 : ∀ a, a < 7 → ∀ b, b < 7 → a ≠ b → (TX0 a).2.1 ≠ (TX0 b).2.1 := by decide +kernel
theorem tyX0_ok : ∀ k, k < 7 → parseFieldDescriptor (TX0 k).2.2.1 = some (tyX0 k) := by decide +kernel
abbrev cX0_init : ByteArray := prog_2_method_1_code
def yX0_init : MethodName := ⟨RX0, "<init>", "(II)V"⟩
abbrev cX0_canBe : ByteArray := prog_2_method_2_code
def yX0_canBe : MethodName := ⟨RX0, "canBe", "(II)Z"⟩
def RX1 : String := "ManorRolls$Heirs"
def TX1 : u_T := fun k => match k with
  | 0 => ("ManorRolls$Heirs", "list", "[I", true)
  | 1 => ("ManorRolls$Heirs", "listed", "I", false)
  | 2 => ("ManorRolls$Heirs", "takers", "[I", true)
  | 3 => ("ManorRolls$Heirs", "people", "LManorRolls$People;", true)
  | 4 => ("ManorRolls$Heirs", "order", "I", false)
  | 5 => ("ManorRolls$Heirs", "living", "J", false)
  | _ => ("ManorRolls$Heirs", "lasting", "J", false)
def tyX1 : Nat → FieldType := fun k => match k with
  | 0 => .array .int
  | 1 => .int
  | 2 => .array .int
  | 3 => .object "ManorRolls$People"
  | 4 => .int
  | 5 => .long
  | _ => .long
abbrev wsX10 : List Cond := u_ws RX1 TX1 7
theorem nmX1 : ∀ a, a < 7 → ∀ b, b < 7 → a ≠ b → (TX1 a).2.1 ≠ (TX1 b).2.1 := by decide +kernel
theorem tyX1_ok : ∀ k, k < 7 → parseFieldDescriptor (TX1 k).2.2.1 = some (tyX1 k) := by decide +kernel
abbrev cX1_init : ByteArray := prog_3_method_1_code
def yX1_init : MethodName := ⟨RX1, "<init>", "(LManorRolls$People;)V"⟩
abbrev cX1_list : ByteArray := prog_3_method_2_code
def yX1_list : MethodName := ⟨RX1, "list", "(II)V"⟩
abbrev cX1_share : ByteArray := prog_3_method_3_code
def yX1_share : MethodName := ⟨RX1, "share", "(III)V"⟩
abbrev cX1_look : ByteArray := prog_3_method_4_code
def yX1_look : MethodName := ⟨RX1, "look", "(II)V"⟩
abbrev cX1_firstLine : ByteArray := prog_3_method_5_code
def yX1_firstLine : MethodName := ⟨RX1, "firstLine", "(I)J"⟩
abbrev cX1_lineBelow : ByteArray := prog_3_method_6_code
def yX1_lineBelow : MethodName := ⟨RX1, "lineBelow", "(IJ)J"⟩
abbrev cX1_youngestOf : ByteArray := prog_3_method_7_code
def yX1_youngestOf : MethodName := ⟨RX1, "youngestOf", "(J)J"⟩
abbrev cX1_isIn : ByteArray := prog_3_method_8_code
def yX1_isIn : MethodName := ⟨RX1, "isIn", "(JI)Z"⟩
abbrev cX1_listLine : ByteArray := prog_3_method_9_code
def yX1_listLine : MethodName := ⟨RX1, "listLine", "(JI)V"⟩
abbrev cX1_shareLine : ByteArray := prog_3_method_10_code
def yX1_shareLine : MethodName := ⟨RX1, "shareLine", "(JIII)V"⟩
abbrev cX1_give : ByteArray := prog_3_method_11_code
def yX1_give : MethodName := ⟨RX1, "give", "(III)V"⟩
def RX2 : String := "ManorRolls$Land"
def TX2 : u_T := fun k => match k with
  | 0 => ("ManorRolls$Land", "newest", "[LManorRolls$Right;", true)
  | 1 => ("ManorRolls$Land", "rights", "I", false)
  | 2 => ("ManorRolls$Land", "picked", "[I", true)
  | _ => ("ManorRolls$Land", "pickedCount", "I", false)
def tyX2 : Nat → FieldType := fun k => match k with
  | 0 => .array (.object "ManorRolls$Right")
  | 1 => .int
  | 2 => .array .int
  | _ => .int
abbrev wsX20 : List Cond := u_ws RX2 TX2 4
theorem nmX2 : ∀ a, a < 4 → ∀ b, b < 4 → a ≠ b → (TX2 a).2.1 ≠ (TX2 b).2.1 := by decide +kernel
theorem tyX2_ok : ∀ k, k < 4 → parseFieldDescriptor (TX2 k).2.2.1 = some (tyX2 k) := by decide +kernel
abbrev cX2_init : ByteArray := prog_4_method_1_code
def yX2_init : MethodName := ⟨RX2, "<init>", "()V"⟩
abbrev cX2_pick : ByteArray := prog_4_method_2_code
def yX2_pick : MethodName := ⟨RX2, "pick", "(IIZ)V"⟩
abbrev cX2_bringPicked : ByteArray := prog_4_method_3_code
def yX2_bringPicked : MethodName := ⟨RX2, "bringPicked", "(IIIII)V"⟩
abbrev cX2_giverOf : ByteArray := prog_4_method_4_code
def yX2_giverOf : MethodName := ⟨RX2, "giverOf", "(I)I"⟩
abbrev cX2_onDay : ByteArray := prog_4_method_5_code
def yX2_onDay : MethodName := ⟨RX2, "onDay", "(II)LManorRolls$Right;"⟩
abbrev cX2_stepsAhead : ByteArray := prog_4_method_6_code
def yX2_stepsAhead : MethodName := ⟨RX2, "stepsAhead", "(LManorRolls$Right;I)LManorRolls$Right;"⟩
abbrev cX2_heldBy : ByteArray := prog_4_method_7_code
def yX2_heldBy : MethodName := ⟨RX2, "heldBy", "(I)I"⟩
abbrev cX2_partsOf : ByteArray := prog_4_method_8_code
def yX2_partsOf : MethodName := ⟨RX2, "partsOf", "(I)I"⟩
abbrev cX2_find : ByteArray := prog_4_method_9_code
def yX2_find : MethodName := ⟨RX2, "find", "(I)LManorRolls$Right;"⟩
def RX3 : String := "ManorRolls$People"
def TX3 : u_T := fun k => match k with
  | 0 => ("ManorRolls$People", "all", "[LManorRolls$Person;", true)
  | _ => ("ManorRolls$People", "came", "I", false)
def tyX3 : Nat → FieldType := fun k => match k with
  | 0 => .array (.object "ManorRolls$Person")
  | _ => .int
abbrev wsX30 : List Cond := u_ws RX3 TX3 2
theorem nmX3 : ∀ a, a < 2 → ∀ b, b < 2 → a ≠ b → (TX3 a).2.1 ≠ (TX3 b).2.1 := by decide +kernel
theorem tyX3_ok : ∀ k, k < 2 → parseFieldDescriptor (TX3 k).2.2.1 = some (tyX3 k) := by decide +kernel
abbrev cX3_init : ByteArray := prog_5_method_1_code
def yX3_init : MethodName := ⟨RX3, "<init>", "()V"⟩
abbrev cX3_find : ByteArray := prog_5_method_2_code
def yX3_find : MethodName := ⟨RX3, "find", "(I)LManorRolls$Person;"⟩
abbrev cX3_findAlive : ByteArray := prog_5_method_3_code
def yX3_findAlive : MethodName := ⟨RX3, "findAlive", "(I)LManorRolls$Person;"⟩
abbrev cX3_mayBeParent : ByteArray := prog_5_method_4_code
def yX3_mayBeParent : MethodName := ⟨RX3, "mayBeParent", "(II)Z"⟩
abbrev cX3_add : ByteArray := prog_5_method_5_code
def yX3_add : MethodName := ⟨RX3, "add", "(LManorRolls$Person;)I"⟩
abbrev cX3_addChildTo : ByteArray := prog_5_method_6_code
def yX3_addChildTo : MethodName := ⟨RX3, "addChildTo", "(III)V"⟩
abbrev cX3_owe : ByteArray := prog_5_method_7_code
def yX3_owe : MethodName := ⟨RX3, "owe", "(II)V"⟩
abbrev cX3_allOwed : ByteArray := prog_5_method_8_code
def yX3_allOwed : MethodName := ⟨RX3, "allOwed", "()I"⟩
def RX4 : String := "ManorRolls$Person"
def TX4 : u_T := fun k => match k with
  | 0 => ("ManorRolls$Person", "sex", "I", true)
  | 1 => ("ManorRolls$Person", "father", "I", true)
  | 2 => ("ManorRolls$Person", "mother", "I", true)
  | 3 => ("ManorRolls$Person", "born", "I", true)
  | 4 => ("ManorRolls$Person", "alive", "Z", false)
  | 5 => ("ManorRolls$Person", "marriedTo", "I", false)
  | 6 => ("ManorRolls$Person", "owed", "I", false)
  | 7 => ("ManorRolls$Person", "worksDue", "I", false)
  | 8 => ("ManorRolls$Person", "worksDone", "I", false)
  | 9 => ("ManorRolls$Person", "worksSold", "I", false)
  | 10 => ("ManorRolls$Person", "worksExcused", "I", false)
  | 11 => ("ManorRolls$Person", "weeksSick", "I", false)
  | 12 => ("ManorRolls$Person", "sons", "J", false)
  | _ => ("ManorRolls$Person", "daughters", "J", false)
def tyX4 : Nat → FieldType := fun k => match k with
  | 0 => .int
  | 1 => .int
  | 2 => .int
  | 3 => .int
  | 4 => .boolean
  | 5 => .int
  | 6 => .int
  | 7 => .int
  | 8 => .int
  | 9 => .int
  | 10 => .int
  | 11 => .int
  | 12 => .long
  | _ => .long
abbrev wsX40 : List Cond := u_ws RX4 TX4 14
theorem nmX4 : ∀ a, a < 14 → ∀ b, b < 14 → a ≠ b → (TX4 a).2.1 ≠ (TX4 b).2.1 := by decide +kernel
theorem tyX4_ok : ∀ k, k < 14 → parseFieldDescriptor (TX4 k).2.2.1 = some (tyX4 k) := by decide +kernel
abbrev cX4_init : ByteArray := prog_6_method_1_code
def yX4_init : MethodName := ⟨RX4, "<init>", "(IIII)V"⟩
abbrev cX4_addChild : ByteArray := prog_6_method_2_code
def yX4_addChild : MethodName := ⟨RX4, "addChild", "(II)V"⟩
abbrev cX4_spendWeeks : ByteArray := prog_6_method_3_code
def yX4_spendWeeks : MethodName := ⟨RX4, "spendWeeks", "(II)V"⟩
def RX5 : String := "ManorRolls$Right"
def TX5 : u_T := fun k => match k with
  | 0 => ("ManorRolls$Right", "holder", "I", true)
  | 1 => ("ManorRolls$Right", "how", "I", true)
  | 2 => ("ManorRolls$Right", "day", "I", true)
  | _ => ("ManorRolls$Right", "ahead", "LManorRolls$Right;", true)
def tyX5 : Nat → FieldType := fun k => match k with
  | 0 => .int
  | 1 => .int
  | 2 => .int
  | _ => .object "ManorRolls$Right"
abbrev wsX50 : List Cond := u_ws RX5 TX5 4
theorem nmX5 : ∀ a, a < 4 → ∀ b, b < 4 → a ≠ b → (TX5 a).2.1 ≠ (TX5 b).2.1 := by decide +kernel
theorem tyX5_ok : ∀ k, k < 4 → parseFieldDescriptor (TX5 k).2.2.1 = some (tyX5 k) := by decide +kernel
abbrev cX5_init : ByteArray := prog_7_method_1_code
def yX5_init : MethodName := ⟨RX5, "<init>", "(IIILManorRolls$Right;)V"⟩
def RX6 : String := "ManorRolls$Suit"
def TX6 : u_T := fun k => match k with
  | 0 => ("ManorRolls$Suit", "one", "I", true)
  | 1 => ("ManorRolls$Suit", "against", "I", true)
  | 2 => ("ManorRolls$Suit", "pledge", "I", true)
  | 3 => ("ManorRolls$Suit", "state", "I", false)
  | 4 => ("ManorRolls$Suit", "next", "I", false)
  | 5 => ("ManorRolls$Suit", "essoins", "I", false)
  | _ => ("ManorRolls$Suit", "defaults", "I", false)
def tyX6 : Nat → FieldType := fun k => match k with
  | 0 => .int
  | 1 => .int
  | 2 => .int
  | 3 => .int
  | 4 => .int
  | 5 => .int
  | _ => .int
abbrev wsX60 : List Cond := u_ws RX6 TX6 7
theorem nmX6 : ∀ a, a < 7 → ∀ b, b < 7 → a ≠ b → (TX6 a).2.1 ≠ (TX6 b).2.1 := by decide +kernel
theorem tyX6_ok : ∀ k, k < 7 → parseFieldDescriptor (TX6 k).2.2.1 = some (tyX6 k) := by decide +kernel
abbrev cX6_init : ByteArray := prog_8_method_1_code
def yX6_init : MethodName := ⟨RX6, "<init>", "(III)V"⟩
def RX7 : String := "ManorRolls"
def TX7 : u_T := fun k => match k with
  | 0 => ("ManorRolls", "now", "I", false)
  | 1 => ("ManorRolls", "inForce", "LManorRolls$Custom;", false)
  | 2 => ("ManorRolls", "customsFound", "I", false)
  | 3 => ("ManorRolls", "people", "LManorRolls$People;", true)
  | 4 => ("ManorRolls", "land", "LManorRolls$Land;", true)
  | 5 => ("ManorRolls", "heirs", "LManorRolls$Heirs;", true)
  | 6 => ("ManorRolls", "suits", "[LManorRolls$Suit;", true)
  | 7 => ("ManorRolls", "suitsBrought", "I", false)
  | _ => ("ManorRolls", "coinsPaid", "I", false)
def tyX7 : Nat → FieldType := fun k => match k with
  | 0 => .int
  | 1 => .object "ManorRolls$Custom"
  | 2 => .int
  | 3 => .object "ManorRolls$People"
  | 4 => .object "ManorRolls$Land"
  | 5 => .object "ManorRolls$Heirs"
  | 6 => .array (.object "ManorRolls$Suit")
  | 7 => .int
  | _ => .int
abbrev wsX70 : List Cond := u_ws RX7 TX7 9
theorem nmX7 : ∀ a, a < 9 → ∀ b, b < 9 → a ≠ b → (TX7 a).2.1 ≠ (TX7 b).2.1 := by decide +kernel
theorem tyX7_ok : ∀ k, k < 9 → parseFieldDescriptor (TX7 k).2.2.1 = some (tyX7 k) := by decide +kernel
abbrev cX7_init : ByteArray := prog_1_method_1_code
def yX7_init : MethodName := ⟨RX7, "<init>", "()V"⟩
abbrev cX7_custom : ByteArray := prog_1_method_2_code
def yX7_custom : MethodName := ⟨RX7, "custom", "(II)I"⟩
abbrev cX7_person : ByteArray := prog_1_method_3_code
def yX7_person : MethodName := ⟨RX7, "person", "(III)I"⟩
abbrev cX7_marry : ByteArray := prog_1_method_4_code
def yX7_marry : MethodName := ⟨RX7, "marry", "(II)Z"⟩
abbrev cX7_die : ByteArray := prog_1_method_5_code
def yX7_die : MethodName := ⟨RX7, "die", "(I)I"⟩
abbrev cX7_grant : ByteArray := prog_1_method_6_code
def yX7_grant : MethodName := ⟨RX7, "grant", "(III)Z"⟩
abbrev cX7_rod : ByteArray := prog_1_method_7_code
def yX7_rod : MethodName := ⟨RX7, "rod", "(IIII)Z"⟩
abbrev cX7_weeks : ByteArray := prog_1_method_8_code
def yX7_weeks : MethodName := ⟨RX7, "weeks", "(I)I"⟩
abbrev cX7_sick : ByteArray := prog_1_method_9_code
def yX7_sick : MethodName := ⟨RX7, "sick", "(II)Z"⟩
abbrev cX7_works : ByteArray := prog_1_method_10_code
def yX7_works : MethodName := ⟨RX7, "works", "(IIZ)I"⟩
abbrev cX7_pay : ByteArray := prog_1_method_11_code
def yX7_pay : MethodName := ⟨RX7, "pay", "(II)I"⟩
abbrev cX7_suit : ByteArray := prog_1_method_12_code
def yX7_suit : MethodName := ⟨RX7, "suit", "(III)I"⟩
abbrev cX7_appear : ByteArray := prog_1_method_13_code
def yX7_appear : MethodName := ⟨RX7, "appear", "(II)Z"⟩
abbrev cX7_court : ByteArray := prog_1_method_14_code
def yX7_court : MethodName := ⟨RX7, "court", "()I"⟩
abbrev cX7_holder : ByteArray := prog_1_method_15_code
def yX7_holder : MethodName := ⟨RX7, "holder", "(III)I"⟩
abbrev cX7_right : ByteArray := prog_1_method_16_code
def yX7_right : MethodName := ⟨RX7, "right", "(IIIII)I"⟩
abbrev cX7_heir : ByteArray := prog_1_method_17_code
def yX7_heir : MethodName := ⟨RX7, "heir", "(II)I"⟩
abbrev cX7_told : ByteArray := prog_1_method_18_code
def yX7_told : MethodName := ⟨RX7, "told", "(II)I"⟩
abbrev cX7_suited : ByteArray := prog_1_method_19_code
def yX7_suited : MethodName := ⟨RX7, "suited", "(II)I"⟩
abbrev cX7_count : ByteArray := prog_1_method_20_code
def yX7_count : MethodName := ⟨RX7, "count", "(I)I"⟩
abbrev cX7_isHolding : ByteArray := prog_1_method_21_code
def yX7_isHolding : MethodName := ⟨RX7, "isHolding", "(I)Z"⟩
abbrev cX7_findSuit : ByteArray := prog_1_method_22_code
def yX7_findSuit : MethodName := ⟨RX7, "findSuit", "(I)LManorRolls$Suit;"⟩
abbrev cX7_oweMerchet : ByteArray := prog_1_method_23_code
def yX7_oweMerchet : MethodName := ⟨RX7, "oweMerchet", "(LManorRolls$Person;)V"⟩
abbrev cX7_passOwnStrips : ByteArray := prog_1_method_24_code
def yX7_passOwnStrips : MethodName := ⟨RX7, "passOwnStrips", "(ILManorRolls$Person;)I"⟩
abbrev cX7_passWidowsParts : ByteArray := prog_1_method_25_code
def yX7_passWidowsParts : MethodName := ⟨RX7, "passWidowsParts", "(I)I"⟩
abbrev cX7_passPicked : ByteArray := prog_1_method_26_code
def yX7_passPicked : MethodName := ⟨RX7, "passPicked", "(II)V"⟩
abbrev cX7_hear : ByteArray := prog_1_method_27_code
def yX7_hear : MethodName := ⟨RX7, "hear", "(LManorRolls$Suit;)V"⟩
abbrev cX7_defaultIn : ByteArray := prog_1_method_28_code
def yX7_defaultIn : MethodName := ⟨RX7, "defaultIn", "(LManorRolls$Suit;LManorRolls$Person;)V"⟩
def RX8 : String := "ManorRollsModel"
def TX8 : u_T := fun k => match k with
  | 0 => ("ManorRollsModel", "order", "I", false)
  | 1 => ("ManorRollsModel", "widow", "I", false)
  | 2 => ("ManorRollsModel", "heriot", "I", false)
  | 3 => ("ManorRollsModel", "entry", "I", false)
  | 4 => ("ManorRollsModel", "merchet", "I", false)
  | 5 => ("ManorRollsModel", "works", "I", false)
  | 6 => ("ManorRollsModel", "essoins", "I", false)
  | 7 => ("ManorRollsModel", "customs", "I", false)
  | 8 => ("ManorRollsModel", "now", "I", false)
  | 9 => ("ManorRollsModel", "sex", "[I", true)
  | 10 => ("ManorRollsModel", "father", "[I", true)
  | 11 => ("ManorRollsModel", "mother", "[I", true)
  | 12 => ("ManorRollsModel", "spouse", "[I", true)
  | 13 => ("ManorRollsModel", "born", "[I", true)
  | 14 => ("ManorRollsModel", "owed", "[I", true)
  | 15 => ("ManorRollsModel", "due", "[I", true)
  | 16 => ("ManorRollsModel", "done", "[I", true)
  | 17 => ("ManorRollsModel", "sold", "[I", true)
  | 18 => ("ManorRollsModel", "excused", "[I", true)
  | 19 => ("ManorRollsModel", "sick", "[I", true)
  | 20 => ("ManorRollsModel", "isAlive", "[Z", true)
  | 21 => ("ManorRollsModel", "isLine", "[Z", true)
  | 22 => ("ManorRollsModel", "many", "I", false)
  | 23 => ("ManorRollsModel", "paid", "I", false)
  | 24 => ("ManorRollsModel", "rStrip", "[I", false)
  | 25 => ("ManorRollsModel", "rWho", "[I", false)
  | 26 => ("ManorRollsModel", "rHow", "[I", false)
  | 27 => ("ManorRollsModel", "rDay", "[I", false)
  | 28 => ("ManorRollsModel", "rights", "I", false)
  | 29 => ("ManorRollsModel", "holds", "[I", true)
  | 30 => ("ManorRollsModel", "widowOf", "[I", true)
  | 31 => ("ManorRollsModel", "one", "[I", true)
  | 32 => ("ManorRollsModel", "against", "[I", true)
  | 33 => ("ManorRollsModel", "pledge", "[I", true)
  | 34 => ("ManorRollsModel", "will", "[I", true)
  | 35 => ("ManorRollsModel", "state", "[I", true)
  | 36 => ("ManorRollsModel", "essoined", "[I", true)
  | 37 => ("ManorRollsModel", "defaults", "[I", true)
  | 38 => ("ManorRollsModel", "suits", "I", false)
  | 39 => ("ManorRollsModel", "row", "[I", true)
  | 40 => ("ManorRollsModel", "used", "I", false)
  | 41 => ("ManorRollsModel", "seen", "I", false)
  | 42 => ("ManorRollsModel", "wanted", "I", false)
  | _ => ("ManorRollsModel", "heap", "[I", true)
def tyX8 : Nat → FieldType := fun k => match k with
  | 0 => .int
  | 1 => .int
  | 2 => .int
  | 3 => .int
  | 4 => .int
  | 5 => .int
  | 6 => .int
  | 7 => .int
  | 8 => .int
  | 9 => .array .int
  | 10 => .array .int
  | 11 => .array .int
  | 12 => .array .int
  | 13 => .array .int
  | 14 => .array .int
  | 15 => .array .int
  | 16 => .array .int
  | 17 => .array .int
  | 18 => .array .int
  | 19 => .array .int
  | 20 => .array .boolean
  | 21 => .array .boolean
  | 22 => .int
  | 23 => .int
  | 24 => .array .int
  | 25 => .array .int
  | 26 => .array .int
  | 27 => .array .int
  | 28 => .int
  | 29 => .array .int
  | 30 => .array .int
  | 31 => .array .int
  | 32 => .array .int
  | 33 => .array .int
  | 34 => .array .int
  | 35 => .array .int
  | 36 => .array .int
  | 37 => .array .int
  | 38 => .int
  | 39 => .array .int
  | 40 => .int
  | 41 => .int
  | 42 => .int
  | _ => .array .int
abbrev wsX80 : List Cond := u_ws RX8 TX8 44
theorem nmX8 : ∀ a, a < 44 → ∀ b, b < 44 → a ≠ b → (TX8 a).2.1 ≠ (TX8 b).2.1 := by decide +kernel
theorem tyX8_ok : ∀ k, k < 44 → parseFieldDescriptor (TX8 k).2.2.1 = some (tyX8 k) := by decide +kernel
abbrev cX8_init : ByteArray := prog_10_method_1_code
def yX8_init : MethodName := ⟨RX8, "<init>", "()V"⟩
abbrev cX8_in : ByteArray := prog_10_method_2_code
def yX8_in : MethodName := ⟨RX8, "in", "(III)Z"⟩
abbrev cX8_isPerson : ByteArray := prog_10_method_3_code
def yX8_isPerson : MethodName := ⟨RX8, "isPerson", "(I)Z"⟩
abbrev cX8_lives : ByteArray := prog_10_method_4_code
def yX8_lives : MethodName := ⟨RX8, "lives", "(I)Z"⟩
abbrev cX8_longer : ByteArray := prog_10_method_5_code
def yX8_longer : MethodName := ⟨RX8, "longer", "([I)[I"⟩
abbrev cX8_comes : ByteArray := prog_10_method_6_code
def yX8_comes : MethodName := ⟨RX8, "comes", "(III)V"⟩
abbrev cX8_rightOf : ByteArray := prog_10_method_7_code
def yX8_rightOf : MethodName := ⟨RX8, "rightOf", "(III)I"⟩
abbrev cX8_isStrip : ByteArray := prog_10_method_8_code
def yX8_isStrip : MethodName := ⟨RX8, "isStrip", "(III)Z"⟩
abbrev cX8_holder : ByteArray := prog_10_method_9_code
def yX8_holder : MethodName := ⟨RX8, "holder", "(III)I"⟩
abbrev cX8_right : ByteArray := prog_10_method_10_code
def yX8_right : MethodName := ⟨RX8, "right", "(IIIII)I"⟩
abbrev cX8_custom : ByteArray := prog_10_method_11_code
def yX8_custom : MethodName := ⟨RX8, "custom", "(II)I"⟩
abbrev cX8_person : ByteArray := prog_10_method_12_code
def yX8_person : MethodName := ⟨RX8, "person", "(III)I"⟩
abbrev cX8_lines : ByteArray := prog_10_method_13_code
def yX8_lines : MethodName := ⟨RX8, "lines", "()V"⟩
abbrev cX8_isChild : ByteArray := prog_10_method_14_code
def yX8_isChild : MethodName := ⟨RX8, "isChild", "(II)Z"⟩
abbrev cX8_group : ByteArray := prog_10_method_15_code
def yX8_group : MethodName := ⟨RX8, "group", "(II)I"⟩
abbrev cX8_first : ByteArray := prog_10_method_16_code
def yX8_first : MethodName := ⟨RX8, "first", "(I)I"⟩
abbrev cX8_listed : ByteArray := prog_10_method_17_code
def yX8_listed : MethodName := ⟨RX8, "listed", "(II)I"⟩
abbrev cX8_heir : ByteArray := prog_10_method_18_code
def yX8_heir : MethodName := ⟨RX8, "heir", "(II)I"⟩
abbrev cX8_shares : ByteArray := prog_10_method_19_code
def yX8_shares : MethodName := ⟨RX8, "shares", "(IIII)V"⟩
abbrev cX8_passes : ByteArray := prog_10_method_20_code
def yX8_passes : MethodName := ⟨RX8, "passes", "(III)V"⟩
abbrev cX8_widowPasses : ByteArray := prog_10_method_21_code
def yX8_widowPasses : MethodName := ⟨RX8, "widowPasses", "(II)I"⟩
abbrev cX8_own : ByteArray := prog_10_method_22_code
def yX8_own : MethodName := ⟨RX8, "own", "(II)I"⟩
abbrev cX8_marry : ByteArray := prog_10_method_23_code
def yX8_marry : MethodName := ⟨RX8, "marry", "(II)Z"⟩
abbrev cX8_die : ByteArray := prog_10_method_24_code
def yX8_die : MethodName := ⟨RX8, "die", "(I)I"⟩
abbrev cX8_moves : ByteArray := prog_10_method_25_code
def yX8_moves : MethodName := ⟨RX8, "moves", "(IIIII)Z"⟩
abbrev cX8_grant : ByteArray := prog_10_method_26_code
def yX8_grant : MethodName := ⟨RX8, "grant", "(III)Z"⟩
abbrev cX8_rod : ByteArray := prog_10_method_27_code
def yX8_rod : MethodName := ⟨RX8, "rod", "(IIII)Z"⟩
abbrev cX8_held : ByteArray := prog_10_method_28_code
def yX8_held : MethodName := ⟨RX8, "held", "(IZ)I"⟩
abbrev cX8_weeks : ByteArray := prog_10_method_29_code
def yX8_weeks : MethodName := ⟨RX8, "weeks", "(I)I"⟩
abbrev cX8_sick : ByteArray := prog_10_method_30_code
def yX8_sick : MethodName := ⟨RX8, "sick", "(II)Z"⟩
abbrev cX8_works : ByteArray := prog_10_method_31_code
def yX8_works : MethodName := ⟨RX8, "works", "(IIZ)I"⟩
abbrev cX8_pay : ByteArray := prog_10_method_32_code
def yX8_pay : MethodName := ⟨RX8, "pay", "(II)I"⟩
abbrev cX8_suit : ByteArray := prog_10_method_33_code
def yX8_suit : MethodName := ⟨RX8, "suit", "(III)I"⟩
abbrev cX8_appear : ByteArray := prog_10_method_34_code
def yX8_appear : MethodName := ⟨RX8, "appear", "(II)Z"⟩
abbrev cX8_falls : ByteArray := prog_10_method_35_code
def yX8_falls : MethodName := ⟨RX8, "falls", "(I)V"⟩
abbrev cX8_court : ByteArray := prog_10_method_36_code
def yX8_court : MethodName := ⟨RX8, "court", "()I"⟩
abbrev cX8_suited : ByteArray := prog_10_method_37_code
def yX8_suited : MethodName := ⟨RX8, "suited", "(II)I"⟩
abbrev cX8_told : ByteArray := prog_10_method_38_code
def yX8_told : MethodName := ⟨RX8, "told", "(II)I"⟩
abbrev cX8_count : ByteArray := prog_10_method_39_code
def yX8_count : MethodName := ⟨RX8, "count", "(I)I"⟩
def RJ13 : String := "java/lang/Long"
def TJ13 : u_T := fun k => match k with
  | _ => ("", "", "", false)
def tyJ13 : Nat → FieldType := fun k => match k with
  | _ => .int
abbrev wsJ130 : List Cond := u_ws RJ13 TJ13 0
theorem nmJ13 : ∀ a, a < 0 → ∀ b, b < 0 → a ≠ b → (TJ13 a).2.1 ≠ (TJ13 b).2.1 := by decide +kernel
theorem tyJ13_ok : ∀ k, k < 0 → parseFieldDescriptor (TJ13 k).2.2.1 = some (tyJ13 k) := by decide +kernel
abbrev cJ13_bitCount_95d88 : ByteArray := prog_11_method_50_code
def yJ13_bitCount_95d88 : MethodName := ⟨RJ13, "bitCount", "(J)I"⟩
def RJ9 : String := "java/lang/Math"
def TJ9 : u_T := fun k => match k with
  | _ => ("", "", "", false)
def tyJ9 : Nat → FieldType := fun k => match k with
  | _ => .int
abbrev wsJ90 : List Cond := u_ws RJ9 TJ9 0
theorem nmJ9 : ∀ a, a < 0 → ∀ b, b < 0 → a ≠ b → (TJ9 a).2.1 ≠ (TJ9 b).2.1 := by decide +kernel
theorem tyJ9_ok : ∀ k, k < 0 → parseFieldDescriptor (TJ9 k).2.2.1 = some (tyJ9 k) := by decide +kernel
abbrev cJ9_max_7cf53 : ByteArray := prog_12_method_65_code
def yJ9_max_7cf53 : MethodName := ⟨RJ9, "max", "(II)I"⟩
abbrev cJ9_min_7cf53 : ByteArray := prog_12_method_69_code
def yJ9_min_7cf53 : MethodName := ⟨RJ9, "min", "(II)I"⟩
def RL : String := "ManorRollsLaw"
abbrev cL_law : ByteArray := code
def yL_law : MethodName := ⟨RL, "law", "([I)Z"⟩
def wsL_law_r1 : List Cond := [Cond.classLink RL 7 RX7, Cond.instantiable RX7 9, Cond.initialized RX7, Cond.classLink RL 10 RX8, Cond.instantiable RX8 44, Cond.initialized RX8, Cond.methodLink RL 9 yX7_init, Cond.instanceMethod yX7_init, Cond.code yX7_init cX7_init 1 none, Cond.methodLink RX7 3 objectInit, Cond.instanceMethod objectInit, Cond.code objectInit ⟨#[0xb1]⟩ 1 none, Cond.fieldLink RX7 9 "ManorRolls" "now" "I", Cond.classLink RX7 13 RX0, Cond.instantiable RX0 7, Cond.initialized RX0, Cond.fieldLink RX7 18 "ManorRolls" "inForce" "LManorRolls$Custom;", Cond.fieldLink RX7 22 "ManorRolls" "customsFound" "I", Cond.classLink RX7 25 RX3, Cond.instantiable RX3 2, Cond.initialized RX3, Cond.fieldLink RX7 28 "ManorRolls" "people" "LManorRolls$People;", Cond.classLink RX7 32 RX2, Cond.instantiable RX2 4]
def wsL_law_r2 : List Cond := [Cond.initialized RX2, Cond.fieldLink RX7 35 "ManorRolls" "land" "LManorRolls$Land;", Cond.classLink RX7 39 RX1, Cond.instantiable RX1 7, Cond.initialized RX1, Cond.fieldLink RX7 44 "ManorRolls" "heirs" "LManorRolls$Heirs;", Cond.classLink RX7 48 RX6, Cond.fieldLink RX7 50 "ManorRolls" "suits" "[LManorRolls$Suit;", Cond.fieldLink RX7 54 "ManorRolls" "suitsBrought" "I", Cond.fieldLink RX7 57 "ManorRolls" "coinsPaid" "I", Cond.methodLink RX7 15 yX0_init, Cond.instanceMethod yX0_init, Cond.code yX0_init cX0_init 3 none, Cond.methodLink RX0 3 objectInit, Cond.constant RX0 9 (100000), Cond.fieldLink RX0 10 "ManorRolls$Custom" "order" "I", Cond.fieldLink RX0 16 "ManorRolls$Custom" "widow" "I", Cond.fieldLink RX0 19 "ManorRolls$Custom" "works" "I", Cond.fieldLink RX0 22 "ManorRolls$Custom" "essoins" "I", Cond.fieldLink RX0 25 "ManorRolls$Custom" "heriot" "I", Cond.fieldLink RX0 28 "ManorRolls$Custom" "entry" "I", Cond.fieldLink RX0 31 "ManorRolls$Custom" "merchet" "I", Cond.instanceMethod yX3_init, Cond.code yX3_init cX3_init 1 none]
def wsL_law_r3 : List Cond := [Cond.methodLink RX3 3 objectInit, Cond.classLink RX3 9 RX4, Cond.fieldLink RX3 11 "ManorRolls$People" "all" "[LManorRolls$Person;", Cond.methodLink RX7 34 yX2_init, Cond.instanceMethod yX2_init, Cond.code yX2_init cX2_init 3 none, Cond.methodLink RX2 3 objectInit, Cond.classLink RX2 9 RX5, Cond.fieldLink RX2 11 "ManorRolls$Land" "newest" "[LManorRolls$Right;", Cond.fieldLink RX2 17 "ManorRolls$Land" "rights" "I", Cond.arrayClass .int, Cond.fieldLink RX2 21 "ManorRolls$Land" "picked" "[I", Cond.instantiable RX5 4, Cond.initialized RX5, Cond.methodLink RX2 25 yX5_init, Cond.instanceMethod yX5_init, Cond.code yX5_init cX5_init 5 none, Cond.methodLink RX5 1 objectInit, Cond.fieldLink RX5 7 "ManorRolls$Right" "holder" "I", Cond.fieldLink RX5 13 "ManorRolls$Right" "how" "I", Cond.fieldLink RX5 16 "ManorRolls$Right" "day" "I", Cond.fieldLink RX5 19 "ManorRolls$Right" "ahead" "LManorRolls$Right;", Cond.methodLink RX7 41 yX1_init, Cond.instanceMethod yX1_init]
def wsL_law_r4 : List Cond := [Cond.code yX1_init cX1_init 2 none, Cond.methodLink RX1 3 objectInit, Cond.fieldLink RX1 9 "ManorRolls$Heirs" "list" "[I", Cond.fieldLink RX1 15 "ManorRolls$Heirs" "takers" "[I", Cond.fieldLink RX1 18 "ManorRolls$Heirs" "people" "LManorRolls$People;", Cond.methodLink RL 12 yX8_init, Cond.instanceMethod yX8_init, Cond.code yX8_init cX8_init 2 none, Cond.methodLink RX8 3 objectInit, Cond.fieldLink RX8 9 "ManorRollsModel" "sex" "[I", Cond.fieldLink RX8 13 "ManorRollsModel" "father" "[I", Cond.fieldLink RX8 16 "ManorRollsModel" "mother" "[I", Cond.fieldLink RX8 19 "ManorRollsModel" "spouse" "[I", Cond.fieldLink RX8 22 "ManorRollsModel" "born" "[I", Cond.fieldLink RX8 25 "ManorRollsModel" "owed" "[I", Cond.fieldLink RX8 28 "ManorRollsModel" "due" "[I", Cond.fieldLink RX8 31 "ManorRollsModel" "done" "[I", Cond.fieldLink RX8 34 "ManorRollsModel" "sold" "[I", Cond.fieldLink RX8 37 "ManorRollsModel" "excused" "[I", Cond.fieldLink RX8 40 "ManorRollsModel" "sick" "[I", Cond.arrayClass .boolean, Cond.fieldLink RX8 43 "ManorRollsModel" "isAlive" "[Z", Cond.fieldLink RX8 47 "ManorRollsModel" "isLine" "[Z", Cond.fieldLink RX8 50 "ManorRollsModel" "rStrip" "[I"]
def wsL_law_r5 : List Cond := [Cond.fieldLink RX8 53 "ManorRollsModel" "rWho" "[I", Cond.fieldLink RX8 56 "ManorRollsModel" "rHow" "[I", Cond.fieldLink RX8 59 "ManorRollsModel" "rDay" "[I", Cond.fieldLink RX8 62 "ManorRollsModel" "holds" "[I", Cond.fieldLink RX8 65 "ManorRollsModel" "widowOf" "[I", Cond.fieldLink RX8 68 "ManorRollsModel" "one" "[I", Cond.fieldLink RX8 71 "ManorRollsModel" "against" "[I", Cond.fieldLink RX8 74 "ManorRollsModel" "pledge" "[I", Cond.fieldLink RX8 77 "ManorRollsModel" "will" "[I", Cond.fieldLink RX8 80 "ManorRollsModel" "state" "[I", Cond.fieldLink RX8 83 "ManorRollsModel" "essoined" "[I", Cond.fieldLink RX8 86 "ManorRollsModel" "defaults" "[I", Cond.fieldLink RX8 89 "ManorRollsModel" "row" "[I", Cond.fieldLink RX8 92 "ManorRollsModel" "heap" "[I", Cond.methodLink RX8 95 yX8_comes, Cond.instanceMethod yX8_comes, Cond.selects RX8 yX8_comes yX8_comes, Cond.code yX8_comes cX8_comes 4 none, Cond.fieldLink RX8 111 "ManorRollsModel" "rights" "I", Cond.fieldLink RX8 118 "ManorRollsModel" "now" "I", Cond.methodLink RX8 114 yX8_longer, Cond.static yX8_longer, Cond.code yX8_longer cX8_longer 3 (some (.array .int)), Cond.methodLink RL 13 yX7_custom]
def wsL_law_r6 : List Cond := [Cond.instanceMethod yX7_custom, Cond.selects RX7 yX7_custom yX7_custom, Cond.code yX7_custom cX7_custom 3 (some .int), Cond.methodLink RX7 60 yX0_canBe, Cond.static yX0_canBe, Cond.code yX0_canBe cX0_canBe 3 (some .boolean), Cond.constant RX0 34 (999999), Cond.classLink RX0 11 RX0, Cond.methodLink RX0 35 yX0_init, Cond.methodLink RL 17 yX8_custom, Cond.instanceMethod yX8_custom, Cond.selects RX8 yX8_custom yX8_custom, Cond.code yX8_custom cX8_custom 7 (some .int), Cond.constant RX8 128 (100000), Cond.constant RX8 129 (999999), Cond.fieldLink RX8 130 "ManorRollsModel" "order" "I", Cond.fieldLink RX8 133 "ManorRollsModel" "widow" "I", Cond.fieldLink RX8 136 "ManorRollsModel" "works" "I", Cond.fieldLink RX8 139 "ManorRollsModel" "essoins" "I", Cond.fieldLink RX8 142 "ManorRollsModel" "heriot" "I", Cond.fieldLink RX8 145 "ManorRollsModel" "entry" "I", Cond.fieldLink RX8 148 "ManorRollsModel" "merchet" "I", Cond.fieldLink RX8 151 "ManorRollsModel" "customs" "I", Cond.methodLink RX8 103 yX8_in]
def wsL_law_r7 : List Cond := [Cond.static yX8_in, Cond.code yX8_in cX8_in 3 (some .boolean), Cond.methodLink RL 18 yX7_person, Cond.instanceMethod yX7_person, Cond.selects RX7 yX7_person yX7_person, Cond.code yX7_person cX7_person 4 (some .int), Cond.fieldLink RX7 64 "ManorRolls$People" "came" "I", Cond.classLink RX7 70 RX4, Cond.instantiable RX4 14, Cond.initialized RX4, Cond.methodLink RX7 67 yX3_mayBeParent, Cond.instanceMethod yX3_mayBeParent, Cond.selects RX3 yX3_mayBeParent yX3_mayBeParent, Cond.code yX3_mayBeParent cX3_mayBeParent 4 (some .boolean), Cond.fieldLink RX3 29 "ManorRolls$Person" "sex" "I", Cond.methodLink RX3 21 yX3_find, Cond.instanceMethod yX3_find, Cond.selects RX3 yX3_find yX3_find, Cond.code yX3_find cX3_find 2 (some (.object "ManorRolls$Person")), Cond.fieldLink RX3 17 "ManorRolls$People" "came" "I", Cond.methodLink RX7 72 yX4_init, Cond.instanceMethod yX4_init, Cond.code yX4_init cX4_init 5 none, Cond.methodLink RX4 3 objectInit]
def wsL_law_r8 : List Cond := [Cond.fieldLink RX4 9 "ManorRolls$Person" "sex" "I", Cond.fieldLink RX4 15 "ManorRolls$Person" "father" "I", Cond.fieldLink RX4 18 "ManorRolls$Person" "mother" "I", Cond.fieldLink RX4 21 "ManorRolls$Person" "born" "I", Cond.fieldLink RX4 24 "ManorRolls$Person" "alive" "Z", Cond.fieldLink RX4 28 "ManorRolls$Person" "marriedTo" "I", Cond.methodLink RX7 75 yX3_add, Cond.instanceMethod yX3_add, Cond.selects RX3 yX3_add yX3_add, Cond.code yX3_add cX3_add 3 (some .int), Cond.fieldLink RX3 32 "ManorRolls$Person" "father" "I", Cond.fieldLink RX3 39 "ManorRolls$Person" "mother" "I", Cond.methodLink RX3 35 yX3_addChildTo, Cond.instanceMethod yX3_addChildTo, Cond.selects RX3 yX3_addChildTo yX3_addChildTo, Cond.code yX3_addChildTo cX3_addChildTo 5 none, Cond.methodLink RX3 42 yX4_addChild, Cond.instanceMethod yX4_addChild, Cond.selects RX4 yX4_addChild yX4_addChild, Cond.code yX4_addChild cX4_addChild 3 none, Cond.fieldLink RX4 31 "ManorRolls$Person" "sons" "J", Cond.fieldLink RX4 35 "ManorRolls$Person" "daughters" "J", Cond.methodLink RL 22 yX8_person, Cond.instanceMethod yX8_person]
def wsL_law_r9 : List Cond := [Cond.selects RX8 yX8_person yX8_person, Cond.code yX8_person cX8_person 4 (some .int), Cond.fieldLink RX8 99 "ManorRollsModel" "many" "I", Cond.methodLink RX8 107 yX8_isPerson, Cond.instanceMethod yX8_isPerson, Cond.selects RX8 yX8_isPerson yX8_isPerson, Cond.code yX8_isPerson cX8_isPerson 2 (some .boolean), Cond.methodLink RL 23 yX7_marry, Cond.instanceMethod yX7_marry, Cond.selects RX7 yX7_marry yX7_marry, Cond.code yX7_marry cX7_marry 5 (some .boolean), Cond.fieldLink RX7 83 "ManorRolls$Person" "sex" "I", Cond.fieldLink RX7 86 "ManorRolls$Person" "marriedTo" "I", Cond.methodLink RX7 79 yX3_findAlive, Cond.instanceMethod yX3_findAlive, Cond.selects RX3 yX3_findAlive yX3_findAlive, Cond.code yX3_findAlive cX3_findAlive 3 (some (.object "ManorRolls$Person")), Cond.fieldLink RX3 25 "ManorRolls$Person" "alive" "Z", Cond.methodLink RX7 89 yX7_passWidowsParts, Cond.instanceMethod yX7_passWidowsParts, Cond.selects RX7 yX7_passWidowsParts yX7_passWidowsParts, Cond.code yX7_passWidowsParts cX7_passWidowsParts 4 (some .int), Cond.fieldLink RX7 116 "ManorRolls$Land" "pickedCount" "I", Cond.fieldLink RX7 243 "ManorRolls$Land" "picked" "[I"]
def wsL_law_r10 : List Cond := [Cond.methodLink RX7 112 yX2_pick, Cond.instanceMethod yX2_pick, Cond.selects RX2 yX2_pick yX2_pick, Cond.code yX2_pick cX2_pick 7 none, Cond.fieldLink RX2 28 "ManorRolls$Land" "pickedCount" "I", Cond.fieldLink RX2 35 "ManorRolls$Right" "holder" "I", Cond.fieldLink RX2 38 "ManorRolls$Right" "how" "I", Cond.methodLink RX2 31 yX2_find, Cond.instanceMethod yX2_find, Cond.selects RX2 yX2_find yX2_find, Cond.code yX2_find cX2_find 2 (some (.object "ManorRolls$Right")), Cond.methodLink RX7 246 yX2_giverOf, Cond.instanceMethod yX2_giverOf, Cond.selects RX2 yX2_giverOf yX2_giverOf, Cond.code yX2_giverOf cX2_giverOf 3 (some .int), Cond.fieldLink RX2 48 "ManorRolls$Right" "ahead" "LManorRolls$Right;", Cond.methodLink RX7 237 yX7_passPicked, Cond.instanceMethod yX7_passPicked, Cond.selects RX7 yX7_passPicked yX7_passPicked, Cond.code yX7_passPicked cX7_passPicked 5 none, Cond.fieldLink RX7 191 "ManorRolls$Custom" "order" "I", Cond.fieldLink RX7 252 "ManorRolls$Heirs" "takers" "[I", Cond.methodLink RX7 249 yX1_share, Cond.instanceMethod yX1_share]
def wsL_law_r11 : List Cond := [Cond.selects RX1 yX1_share yX1_share, Cond.code yX1_share cX1_share 5 none, Cond.methodLink RX1 38 Lib.Math.min.name, Cond.static Lib.Math.min.name, Cond.initialized "java/lang/Math", Cond.code Lib.Math.min.name Lib.Math.min.code 2 (some .int), Cond.methodLink RX1 22 yX1_look, Cond.instanceMethod yX1_look, Cond.selects RX1 yX1_look yX1_look, Cond.code yX1_look cX1_look 6 none, Cond.fieldLink RX1 48 "ManorRolls$Heirs" "order" "I", Cond.fieldLink RX1 51 "ManorRolls$Heirs" "living" "J", Cond.fieldLink RX1 55 "ManorRolls$Heirs" "lasting" "J", Cond.fieldLink RX1 58 "ManorRolls$People" "came" "I", Cond.fieldLink RX1 67 "ManorRolls$Person" "alive" "Z", Cond.fieldLink RX1 73 "ManorRolls$Person" "sons" "J", Cond.fieldLink RX1 76 "ManorRolls$Person" "daughters" "J", Cond.methodLink RX1 63 yX3_find, Cond.methodLink RX1 30 yX1_firstLine, Cond.instanceMethod yX1_firstLine, Cond.selects RX1 yX1_firstLine yX1_firstLine, Cond.code yX1_firstLine cX1_firstLine 5 (some .long), Cond.fieldLink RX1 83 "ManorRolls$Person" "father" "I", Cond.methodLink RX1 79 yX1_lineBelow]
def wsL_law_r12 : List Cond := [Cond.instanceMethod yX1_lineBelow, Cond.selects RX1 yX1_lineBelow yX1_lineBelow, Cond.code yX1_lineBelow cX1_lineBelow 7 (some .long), Cond.constantLong RX1 86 (-1), Cond.methodLink RX1 88 yX1_youngestOf, Cond.static yX1_youngestOf, Cond.code yX1_youngestOf cX1_youngestOf 4 (some .long), Cond.constantLong RX1 92 (576460752303423488), Cond.methodLink RX1 44 yX1_shareLine, Cond.instanceMethod yX1_shareLine, Cond.selects RX1 yX1_shareLine yX1_shareLine, Cond.code yX1_shareLine cX1_shareLine 13 none, Cond.methodLink RX1 98 yJ13_bitCount_95d88, Cond.static yJ13_bitCount_95d88, Cond.initialized RJ13, Cond.code yJ13_bitCount_95d88 cJ13_bitCount_95d88 2 (some .int), Cond.constantLong RJ13 314 (6148914691236517205), Cond.constantLong RJ13 316 (3689348814741910323), Cond.constantLong RJ13 318 (1085102592571150095), Cond.methodLink RX1 94 yX1_isIn, Cond.static yX1_isIn, Cond.code yX1_isIn cX1_isIn 3 (some .boolean), Cond.methodLink RX1 104 yX1_give, Cond.instanceMethod yX1_give]
def wsL_law_r13 : List Cond := [Cond.selects RX1 yX1_give yX1_give, Cond.code yX1_give cX1_give 5 none, Cond.methodLink RX7 119 yX2_bringPicked, Cond.instanceMethod yX2_bringPicked, Cond.selects RX2 yX2_bringPicked yX2_bringPicked, Cond.code yX2_bringPicked cX2_bringPicked 9 none, Cond.methodLink RX2 41 Lib.Math.max.name, Cond.static Lib.Math.max.name, Cond.code Lib.Math.max.name Lib.Math.max.code 2 (some .int), Cond.constant RX2 47 (61560), Cond.methodLink RX7 93 yX7_oweMerchet, Cond.instanceMethod yX7_oweMerchet, Cond.selects RX7 yX7_oweMerchet yX7_oweMerchet, Cond.code yX7_oweMerchet cX7_oweMerchet 4 none, Cond.fieldLink RX7 203 "ManorRolls$Person" "father" "I", Cond.fieldLink RX7 123 "ManorRolls$Person" "owed" "I", Cond.fieldLink RX7 231 "ManorRolls$Custom" "merchet" "I", Cond.methodLink RL 27 yX8_marry, Cond.instanceMethod yX8_marry, Cond.selects RX8 yX8_marry yX8_marry, Cond.code yX8_marry cX8_marry 6 (some .boolean), Cond.methodLink RX8 188 yX8_lives, Cond.instanceMethod yX8_lives, Cond.selects RX8 yX8_lives yX8_lives]
def wsL_law_r14 : List Cond := [Cond.code yX8_lives cX8_lives 2 (some .boolean), Cond.methodLink RX8 191 yX8_widowPasses, Cond.instanceMethod yX8_widowPasses, Cond.selects RX8 yX8_widowPasses yX8_widowPasses, Cond.code yX8_widowPasses cX8_widowPasses 7 (some .int), Cond.methodLink RX8 185 yX8_passes, Cond.instanceMethod yX8_passes, Cond.selects RX8 yX8_passes yX8_passes, Cond.code yX8_passes cX8_passes 6 none, Cond.fieldLink RX8 158 "ManorRollsModel" "used" "I", Cond.methodLink RX8 174 yX8_lines, Cond.instanceMethod yX8_lines, Cond.selects RX8 yX8_lines yX8_lines, Cond.code yX8_lines cX8_lines 3 none, Cond.methodLink RX8 154 yX8_isChild, Cond.instanceMethod yX8_isChild, Cond.selects RX8 yX8_isChild yX8_isChild, Cond.code yX8_isChild cX8_isChild 3 (some .boolean), Cond.methodLink RX8 177 yX8_first, Cond.instanceMethod yX8_first, Cond.selects RX8 yX8_first yX8_first, Cond.code yX8_first cX8_first 3 (some .int), Cond.methodLink RX8 161 yX8_group, Cond.instanceMethod yX8_group]
def wsL_law_r15 : List Cond := [Cond.selects RX8 yX8_group yX8_group, Cond.code yX8_group cX8_group 8 (some .int), Cond.methodLink RX8 181 yX8_shares, Cond.instanceMethod yX8_shares, Cond.selects RX8 yX8_shares yX8_shares, Cond.code yX8_shares cX8_shares 11 none, Cond.methodLink RL 28 yX7_die, Cond.instanceMethod yX7_die, Cond.selects RX7 yX7_die yX7_die, Cond.code yX7_die cX7_die 5 (some .int), Cond.fieldLink RX7 97 "ManorRolls$Person" "alive" "Z", Cond.methodLink RX7 101 yX7_passOwnStrips, Cond.instanceMethod yX7_passOwnStrips, Cond.selects RX7 yX7_passOwnStrips yX7_passOwnStrips, Cond.code yX7_passOwnStrips cX7_passOwnStrips 7 (some .int), Cond.fieldLink RX7 234 "ManorRolls$Custom" "widow" "I", Cond.fieldLink RX7 240 "ManorRolls$Custom" "heriot" "I", Cond.methodLink RX7 105 yX3_find, Cond.methodLink RL 32 yX8_die, Cond.instanceMethod yX8_die, Cond.selects RX8 yX8_die yX8_die, Cond.code yX8_die cX8_die 8 (some .int), Cond.methodLink RX8 194 yX8_own, Cond.instanceMethod yX8_own]
def wsL_law_r16 : List Cond := [Cond.selects RX8 yX8_own yX8_own, Cond.code yX8_own cX8_own 5 (some .int), Cond.methodLink RL 33 yX7_grant, Cond.instanceMethod yX7_grant, Cond.selects RX7 yX7_grant yX7_grant, Cond.code yX7_grant cX7_grant 4 (some .boolean), Cond.methodLink RX7 108 yX7_isHolding, Cond.static yX7_isHolding, Cond.code yX7_isHolding cX7_isHolding 1 (some .boolean), Cond.methodLink RL 37 yX8_grant, Cond.instanceMethod yX8_grant, Cond.selects RX8 yX8_grant yX8_grant, Cond.code yX8_grant cX8_grant 4 (some .boolean), Cond.methodLink RX8 197 yX8_moves, Cond.instanceMethod yX8_moves, Cond.selects RX8 yX8_moves yX8_moves, Cond.code yX8_moves cX8_moves 8 (some .boolean), Cond.methodLink RL 38 yX7_rod, Cond.instanceMethod yX7_rod, Cond.selects RX7 yX7_rod yX7_rod, Cond.code yX7_rod cX7_rod 6 (some .boolean), Cond.fieldLink RX7 126 "ManorRolls$Custom" "entry" "I", Cond.methodLink RL 42 yX8_rod, Cond.instanceMethod yX8_rod]
def wsL_law_r17 : List Cond := [Cond.selects RX8 yX8_rod yX8_rod, Cond.code yX8_rod cX8_rod 5 (some .boolean), Cond.methodLink RL 43 yX7_weeks, Cond.instanceMethod yX7_weeks, Cond.selects RX7 yX7_weeks yX7_weeks, Cond.code yX7_weeks cX7_weeks 4 (some .int), Cond.constant RX7 129 (40000), Cond.fieldLink RX7 133 "ManorRolls$Custom" "works" "I", Cond.methodLink RX7 130 yX2_heldBy, Cond.instanceMethod yX2_heldBy, Cond.selects RX2 yX2_heldBy yX2_heldBy, Cond.code yX2_heldBy cX2_heldBy 5 (some .int), Cond.methodLink RX7 136 yX4_spendWeeks, Cond.instanceMethod yX4_spendWeeks, Cond.selects RX4 yX4_spendWeeks yX4_spendWeeks, Cond.code yX4_spendWeeks cX4_spendWeeks 4 none, Cond.fieldLink RX4 38 "ManorRolls$Person" "weeksSick" "I", Cond.methodLink RX4 41 Lib.Math.min.name, Cond.fieldLink RX4 47 "ManorRolls$Person" "worksExcused" "I", Cond.fieldLink RX4 50 "ManorRolls$Person" "worksDue" "I", Cond.methodLink RL 46 yX8_weeks, Cond.instanceMethod yX8_weeks, Cond.selects RX8 yX8_weeks yX8_weeks, Cond.code yX8_weeks cX8_weeks 5 (some .int)]
def wsL_law_r18 : List Cond := [Cond.constant RX8 201 (40000), Cond.methodLink RX8 202 yX8_held, Cond.instanceMethod yX8_held, Cond.selects RX8 yX8_held yX8_held, Cond.code yX8_held cX8_held 5 (some .int), Cond.methodLink RL 47 yX7_sick, Cond.instanceMethod yX7_sick, Cond.selects RX7 yX7_sick yX7_sick, Cond.code yX7_sick cX7_sick 4 (some .boolean), Cond.fieldLink RX7 139 "ManorRolls$Person" "weeksSick" "I", Cond.methodLink RL 50 yX8_sick, Cond.instanceMethod yX8_sick, Cond.selects RX8 yX8_sick yX8_sick, Cond.code yX8_sick cX8_sick 3 (some .boolean), Cond.methodLink RL 51 yX7_works, Cond.instanceMethod yX7_works, Cond.selects RX7 yX7_works yX7_works, Cond.code yX7_works cX7_works 5 (some .int), Cond.fieldLink RX7 142 "ManorRolls$Person" "worksDue" "I", Cond.fieldLink RX7 145 "ManorRolls$Person" "worksSold" "I", Cond.fieldLink RX7 148 "ManorRolls$Person" "worksDone" "I", Cond.methodLink RL 55 yX8_works, Cond.instanceMethod yX8_works, Cond.selects RX8 yX8_works yX8_works]
def wsL_law_r19 : List Cond := [Cond.code yX8_works cX8_works 4 (some .int), Cond.methodLink RL 56 yX7_pay, Cond.instanceMethod yX7_pay, Cond.selects RX7 yX7_pay yX7_pay, Cond.code yX7_pay cX7_pay 4 (some .int), Cond.methodLink RL 59 yX8_pay, Cond.instanceMethod yX8_pay, Cond.selects RX8 yX8_pay yX8_pay, Cond.code yX8_pay cX8_pay 3 (some .int), Cond.fieldLink RX8 206 "ManorRollsModel" "paid" "I", Cond.methodLink RL 60 yX7_suit, Cond.instanceMethod yX7_suit, Cond.selects RX7 yX7_suit yX7_suit, Cond.code yX7_suit cX7_suit 5 (some .int), Cond.instantiable RX6 7, Cond.initialized RX6, Cond.methodLink RX7 151 yX6_init, Cond.instanceMethod yX6_init, Cond.code yX6_init cX6_init 4 none, Cond.methodLink RX6 3 objectInit, Cond.fieldLink RX6 9 "ManorRolls$Suit" "one" "I", Cond.fieldLink RX6 15 "ManorRolls$Suit" "against" "I", Cond.fieldLink RX6 18 "ManorRolls$Suit" "pledge" "I", Cond.fieldLink RX6 21 "ManorRolls$Suit" "state" "I"]
def wsL_law_r20 : List Cond := [Cond.fieldLink RX6 24 "ManorRolls$Suit" "next" "I", Cond.methodLink RL 63 yX8_suit, Cond.instanceMethod yX8_suit, Cond.selects RX8 yX8_suit yX8_suit, Cond.code yX8_suit cX8_suit 4 (some .int), Cond.fieldLink RX8 209 "ManorRollsModel" "suits" "I", Cond.methodLink RL 64 yX7_appear, Cond.instanceMethod yX7_appear, Cond.selects RX7 yX7_appear yX7_appear, Cond.code yX7_appear cX7_appear 4 (some .boolean), Cond.fieldLink RX7 158 "ManorRolls$Suit" "state" "I", Cond.fieldLink RX7 161 "ManorRolls$Suit" "next" "I", Cond.methodLink RX7 154 yX7_findSuit, Cond.instanceMethod yX7_findSuit, Cond.selects RX7 yX7_findSuit yX7_findSuit, Cond.code yX7_findSuit cX7_findSuit 2 (some (.object "ManorRolls$Suit")), Cond.methodLink RL 67 yX8_appear, Cond.instanceMethod yX8_appear, Cond.selects RX8 yX8_appear yX8_appear, Cond.code yX8_appear cX8_appear 3 (some .boolean), Cond.methodLink RL 68 yX7_court, Cond.instanceMethod yX7_court, Cond.selects RX7 yX7_court yX7_court, Cond.code yX7_court cX7_court 4 (some .int)]
def wsL_law_r21 : List Cond := [Cond.methodLink RX7 164 yX7_hear, Cond.instanceMethod yX7_hear, Cond.selects RX7 yX7_hear yX7_hear, Cond.code yX7_hear cX7_hear 3 none, Cond.fieldLink RX7 255 "ManorRolls$Suit" "against" "I", Cond.fieldLink RX7 258 "ManorRolls$Suit" "one" "I", Cond.fieldLink RX7 218 "ManorRolls$Suit" "essoins" "I", Cond.fieldLink RX7 264 "ManorRolls$Custom" "essoins" "I", Cond.methodLink RX7 261 yX3_owe, Cond.instanceMethod yX3_owe, Cond.selects RX3 yX3_owe yX3_owe, Cond.code yX3_owe cX3_owe 4 none, Cond.fieldLink RX3 46 "ManorRolls$Person" "owed" "I", Cond.methodLink RX7 265 yX7_defaultIn, Cond.instanceMethod yX7_defaultIn, Cond.selects RX7 yX7_defaultIn yX7_defaultIn, Cond.code yX7_defaultIn cX7_defaultIn 5 none, Cond.fieldLink RX7 269 "ManorRolls$Suit" "pledge" "I", Cond.fieldLink RX7 221 "ManorRolls$Suit" "defaults" "I", Cond.methodLink RL 72 yX8_court, Cond.instanceMethod yX8_court, Cond.selects RX8 yX8_court yX8_court, Cond.code yX8_court cX8_court 4 (some .int), Cond.methodLink RX8 212 yX8_falls]
def wsL_law_r22 : List Cond := [Cond.instanceMethod yX8_falls, Cond.selects RX8 yX8_falls yX8_falls, Cond.code yX8_falls cX8_falls 3 none, Cond.methodLink RL 73 yX7_holder, Cond.instanceMethod yX7_holder, Cond.selects RX7 yX7_holder yX7_holder, Cond.code yX7_holder cX7_holder 4 (some .int), Cond.methodLink RX7 168 yX7_right, Cond.instanceMethod yX7_right, Cond.selects RX7 yX7_right yX7_right, Cond.code yX7_right cX7_right 7 (some .int), Cond.fieldLink RX7 180 "ManorRolls$Right" "holder" "I", Cond.fieldLink RX7 185 "ManorRolls$Right" "how" "I", Cond.fieldLink RX7 188 "ManorRolls$Right" "day" "I", Cond.methodLink RX7 172 yX2_onDay, Cond.instanceMethod yX2_onDay, Cond.selects RX2 yX2_onDay yX2_onDay, Cond.code yX2_onDay cX2_onDay 4 (some (.object "ManorRolls$Right")), Cond.fieldLink RX2 52 "ManorRolls$Right" "day" "I", Cond.methodLink RX7 176 yX2_stepsAhead, Cond.static yX2_stepsAhead, Cond.code yX2_stepsAhead cX2_stepsAhead 4 (some (.object "ManorRolls$Right")), Cond.methodLink RL 76 yX8_holder, Cond.instanceMethod yX8_holder]
def wsL_law_r23 : List Cond := [Cond.selects RX8 yX8_holder yX8_holder, Cond.code yX8_holder cX8_holder 4 (some .int), Cond.methodLink RX8 121 yX8_isStrip, Cond.instanceMethod yX8_isStrip, Cond.selects RX8 yX8_isStrip yX8_isStrip, Cond.code yX8_isStrip cX8_isStrip 4 (some .boolean), Cond.methodLink RX8 124 yX8_rightOf, Cond.instanceMethod yX8_rightOf, Cond.selects RX8 yX8_rightOf yX8_rightOf, Cond.code yX8_rightOf cX8_rightOf 6 (some .int), Cond.methodLink RL 77 yX7_right, Cond.methodLink RL 81 yX8_right, Cond.instanceMethod yX8_right, Cond.selects RX8 yX8_right yX8_right, Cond.code yX8_right cX8_right 7 (some .int), Cond.methodLink RL 82 yX7_heir, Cond.instanceMethod yX7_heir, Cond.selects RX7 yX7_heir yX7_heir, Cond.code yX7_heir cX7_heir 3 (some .int), Cond.fieldLink RX7 197 "ManorRolls$Heirs" "listed" "I", Cond.fieldLink RX7 200 "ManorRolls$Heirs" "list" "[I", Cond.methodLink RX7 194 yX1_list, Cond.instanceMethod yX1_list, Cond.selects RX1 yX1_list yX1_list]
def wsL_law_r24 : List Cond := [Cond.code yX1_list cX1_list 3 none, Cond.fieldLink RX1 26 "ManorRolls$Heirs" "listed" "I", Cond.methodLink RX1 34 yX1_listLine, Cond.instanceMethod yX1_listLine, Cond.selects RX1 yX1_listLine yX1_listLine, Cond.code yX1_listLine cX1_listLine 5 none, Cond.methodLink RL 85 yX8_heir, Cond.instanceMethod yX8_heir, Cond.selects RX8 yX8_heir yX8_heir, Cond.code yX8_heir cX8_heir 6 (some .int), Cond.fieldLink RX8 165 "ManorRollsModel" "seen" "I", Cond.fieldLink RX8 168 "ManorRollsModel" "wanted" "I", Cond.methodLink RX8 171 yX8_listed, Cond.instanceMethod yX8_listed, Cond.selects RX8 yX8_listed yX8_listed, Cond.code yX8_listed cX8_listed 8 (some .int), Cond.methodLink RL 86 yX7_told, Cond.instanceMethod yX7_told, Cond.selects RX7 yX7_told yX7_told, Cond.code yX7_told cX7_told 4 (some .int), Cond.fieldLink RX7 206 "ManorRolls$Person" "mother" "I", Cond.fieldLink RX7 209 "ManorRolls$Person" "born" "I", Cond.fieldLink RX7 215 "ManorRolls$Person" "worksExcused" "I", Cond.methodLink RX7 212 yX2_partsOf]
def wsL_law_r25 : List Cond := [Cond.instanceMethod yX2_partsOf, Cond.selects RX2 yX2_partsOf yX2_partsOf, Cond.code yX2_partsOf cX2_partsOf 5 (some .int), Cond.methodLink RL 89 yX8_told, Cond.instanceMethod yX8_told, Cond.selects RX8 yX8_told yX8_told, Cond.code yX8_told cX8_told 3 (some .int), Cond.methodLink RL 90 yX7_suited, Cond.instanceMethod yX7_suited, Cond.selects RX7 yX7_suited yX7_suited, Cond.code yX7_suited cX7_suited 4 (some .int), Cond.methodLink RL 93 yX8_suited, Cond.instanceMethod yX8_suited, Cond.selects RX8 yX8_suited yX8_suited, Cond.code yX8_suited cX8_suited 3 (some .int), Cond.methodLink RL 94 yX7_count, Cond.instanceMethod yX7_count, Cond.selects RX7 yX7_count yX7_count, Cond.code yX7_count cX7_count 2 (some .int), Cond.fieldLink RX7 228 "ManorRolls$Land" "rights" "I", Cond.methodLink RX7 224 yX3_allOwed, Cond.instanceMethod yX3_allOwed, Cond.selects RX3 yX3_allOwed yX3_allOwed, Cond.code yX3_allOwed cX3_allOwed 4 (some .int)]
def wsL_law_r26 : List Cond := [Cond.methodLink RL 97 yX8_count, Cond.instanceMethod yX8_count, Cond.selects RX8 yX8_count yX8_count, Cond.code yX8_count cX8_count 4 (some .int)]
def wsL_law : List Cond := (wsL_law_r1 ++ (wsL_law_r2 ++ (wsL_law_r3 ++ (wsL_law_r4 ++ (wsL_law_r5 ++ (wsL_law_r6 ++ (wsL_law_r7 ++ (wsL_law_r8 ++ (wsL_law_r9 ++ (wsL_law_r10 ++ (wsL_law_r11 ++ (wsL_law_r12 ++ (wsL_law_r13 ++ (wsL_law_r14 ++ (wsL_law_r15 ++ (wsL_law_r16 ++ (wsL_law_r17 ++ (wsL_law_r18 ++ (wsL_law_r19 ++ (wsL_law_r20 ++ (wsL_law_r21 ++ (wsL_law_r22 ++ (wsL_law_r23 ++ (wsL_law_r24 ++ (wsL_law_r25 ++ wsL_law_r26))))))))))))))))))))))))) ++ wsX70 ++ wsX80 ++ wsX00 ++ wsX30 ++ wsX20 ++ wsX10 ++ wsX50 ++ wsX40 ++ wsX60 ++ ([] : List Cond)
set_option maxRecDepth 20000 in
theorem wsL_law_gw : wsL_law.all goodWord = true := by decide +kernel
theorem inlX0 : ∀ w ∈ wsX00, w ∈ wsL_law := fun _ h => List.mem_append_left _ (List.mem_append_left _ (List.mem_append_left _ (List.mem_append_left _ (List.mem_append_left _ (List.mem_append_left _ (List.mem_append_left _ (List.mem_append_right _ h)))))))
theorem inlX1 : ∀ w ∈ wsX10, w ∈ wsL_law := fun _ h => List.mem_append_left _ (List.mem_append_left _ (List.mem_append_left _ (List.mem_append_left _ (List.mem_append_right _ h))))
theorem inlX2 : ∀ w ∈ wsX20, w ∈ wsL_law := fun _ h => List.mem_append_left _ (List.mem_append_left _ (List.mem_append_left _ (List.mem_append_left _ (List.mem_append_left _ (List.mem_append_right _ h)))))
theorem inlX3 : ∀ w ∈ wsX30, w ∈ wsL_law := fun _ h => List.mem_append_left _ (List.mem_append_left _ (List.mem_append_left _ (List.mem_append_left _ (List.mem_append_left _ (List.mem_append_left _ (List.mem_append_right _ h))))))
theorem inlX4 : ∀ w ∈ wsX40, w ∈ wsL_law := fun _ h => List.mem_append_left _ (List.mem_append_left _ (List.mem_append_right _ h))
theorem inlX5 : ∀ w ∈ wsX50, w ∈ wsL_law := fun _ h => List.mem_append_left _ (List.mem_append_left _ (List.mem_append_left _ (List.mem_append_right _ h)))
theorem inlX6 : ∀ w ∈ wsX60, w ∈ wsL_law := fun _ h => List.mem_append_left _ (List.mem_append_right _ h)
theorem inlX7 : ∀ w ∈ wsX70, w ∈ wsL_law := fun _ h => List.mem_append_left _ (List.mem_append_left _ (List.mem_append_left _ (List.mem_append_left _ (List.mem_append_left _ (List.mem_append_left _ (List.mem_append_left _ (List.mem_append_left _ (List.mem_append_left _ (List.mem_append_right _ h)))))))))
theorem inlX8 : ∀ w ∈ wsX80, w ∈ wsL_law := fun _ h => List.mem_append_left _ (List.mem_append_left _ (List.mem_append_left _ (List.mem_append_left _ (List.mem_append_left _ (List.mem_append_left _ (List.mem_append_left _ (List.mem_append_left _ (List.mem_append_right _ h))))))))
abbrev vwCl : List vw_C := [(RX0, TX0, 7), (RX1, TX1, 7), (RX2, TX2, 4), (RX3, TX3, 2), (RX4, TX4, 14), (RX5, TX5, 4), (RX6, TX6, 7), (RX7, TX7, 9), (RX8, TX8, 44)]
end
section
/-! ===== BASE: worlds as functions from addresses to cells; the judgement J; contracts Mt ===== -/
abbrev HF : Type := Nat → Option va_E
abbrev LV : Type := List (Option Value)
abbrev En : Type := va_G × (Nat → ClassId)
abbrev HP : Type := HF → Prop
def e_tys (E : En) : List (ClassId × FieldType) := [(E.2 0, .int), (E.2 1, .boolean), (E.2 2, .object "ManorRolls$Person"), (E.2 3, .object "ManorRolls$Right"), (E.2 4, .object "ManorRolls$Suit")]
abbrev e_K (E : En) (U : State) : Prop := va_K E.1 vwCl (e_tys E) U ∧ va_AO "ManorRolls$Person" U ∧ va_AO "ManorRolls$Right" U ∧ va_AO "ManorRolls$Suit" U ∧ va_Nw (.methodLinkNest RX7 27 yX3_init "ManorRolls") U
def hf (ws : va_W) : HF := fun a => (ws.find? (fun q => q.1 == a)).map (fun q => q.2)
def hset (h : HF) (a : Nat) (e : va_E) : HF := fun b => if b = a then some e else h b
theorem hset_same (h : HF) (a : Nat) (e : va_E) : hset h a e a = some e := by simp [hset]
theorem hset_ne (h : HF) {a b : Nat} (e : va_E) (hn : b ≠ a) : hset h a e b = h b := by simp [hset, hn]
theorem hf_mem {ws : va_W} {a : Nat} {e : va_E} (h : hf ws a = some e) : ∃ k : Nat, ws[k]? = some (a, e) := by
  unfold hf at h
  cases hq : ws.find? (fun q => q.1 == a) with
  | none => rw [hq] at h; cases h
  | some q =>
    rw [hq] at h
    have h1 := List.mem_of_find?_eq_some hq
    have h2 := List.find?_some hq
    obtain ⟨k, hk⟩ := List.getElem?_of_mem h1
    have h3 : q.1 = a := by simpa using h2
    have h4 : q.2 = e := by simpa using h
    exact ⟨k, by rw [hk, ← h3, ← h4]⟩
theorem hf_of {A : Nat → Prop} {ws : va_W} {a k : Nat} {e : va_E} (hD : va_D A ws) (hk : ws[k]? = some (a, e)) : hf ws a = some e := by
  cases hq : hf ws a with
  | none =>
    exfalso
    have hm : (a, e) ∈ ws := List.mem_of_getElem? hk
    unfold hf at hq
    rw [Option.map_eq_none_iff, List.find?_eq_none] at hq
    exact hq _ hm (by simp)
  | some e' =>
    obtain ⟨k', hk'⟩ := hf_mem hq
    have := hD.1 k k' _ _ hk hk' rfl
    subst this
    rw [hk] at hk'
    cases hk'
    rfl
theorem hf_ext {ws ws' : va_W} {A A' : Nat → Prop} {b : Nat} (hD : va_D A ws) (hD' : va_D A' ws') (h : ∀ e, (∃ j : Nat, ws[j]? = some (b, e)) ↔ ∃ j : Nat, ws'[j]? = some (b, e)) : hf ws b = hf ws' b := by
  cases hq : hf ws b with
  | some e =>
    obtain ⟨j, hj⟩ := (h e).mp (hf_mem hq)
    exact (hf_of hD' hj).symm
  | none =>
    cases hq' : hf ws' b with
    | none => rfl
    | some e =>
      obtain ⟨j, hj⟩ := (h e).mpr (hf_mem hq')
      rw [hf_of hD hj] at hq
      cases hq
theorem hf_set {A : Nat → Prop} {ws : va_W} {a k : Nat} {e0 e : va_E} (hD : va_D A ws) (hk : ws[k]? = some (a, e0)) : hf (ws.set k (a, e)) = hset (hf ws) a e := by
  have hl := (List.getElem?_eq_some_iff.mp hk).1
  funext b
  by_cases hb : b = a
  · subst hb
    rw [hset_same]
    exact hf_of (hD.set hk) (List.getElem?_set_self hl)
  · rw [hset_ne _ _ hb]
    refine hf_ext (hD.set hk) hD (fun e' => ⟨fun ⟨j, hj⟩ => ?_, fun ⟨j, hj⟩ => ?_⟩)
    · by_cases hjk : j = k
      · subst hjk
        rw [List.getElem?_set_self hl] at hj
        cases hj
        exact absurd rfl hb
      · rw [List.getElem?_set_ne (Ne.symm hjk)] at hj
        exact ⟨j, hj⟩
    · by_cases hjk : j = k
      · subst hjk
        rw [hk] at hj
        cases hj
        exact absurd rfl hb
      · exact ⟨j, by rw [List.getElem?_set_ne (Ne.symm hjk)]; exact hj⟩
theorem hf_push {A : Nat → Prop} {ws : va_W} {a : Nat} {e : va_E} (hD : va_D A ws) (hD' : va_D A (ws ++ [(a, e)])) : hf (ws ++ [(a, e)]) = hset (hf ws) a e := by
  funext b
  by_cases hb : b = a
  · subst hb
    rw [hset_same]
    exact hf_of (k := ws.length) hD' (by simp)
  · rw [hset_ne _ _ hb]
    refine hf_ext hD' hD (fun e' => ⟨fun ⟨j, hj⟩ => ?_, fun ⟨j, hj⟩ => ?_⟩)
    · by_cases hjk : j < ws.length
      · rw [List.getElem?_append_left hjk] at hj
        exact ⟨j, hj⟩
      · rw [List.getElem?_append_right (Nat.le_of_not_lt hjk)] at hj
        have hz : j - ws.length < 1 := (List.getElem?_eq_some_iff.mp hj).1
        rw [show j - ws.length = 0 by omega] at hj
        cases hj
        exact absurd rfl hb
    · have hjk := (List.getElem?_eq_some_iff.mp hj).1
      exact ⟨j, by rw [List.getElem?_append_left hjk]; exact hj⟩
theorem hf_fresh {A : Nat → Prop} {ws : va_W} {a : Nat} {e : va_E} (hD' : va_D A (ws ++ [(a, e)])) : hf ws a = none := by
  cases hq : hf ws a with
  | none => rfl
  | some e' =>
    exfalso
    obtain ⟨k, hk⟩ := hf_mem hq
    have hl := (List.getElem?_eq_some_iff.mp hk).1
    have h1 : (ws ++ [(a, e)])[k]? = some (a, e') := by rw [List.getElem?_append_left hl]; exact hk
    have h2 : (ws ++ [(a, e)])[ws.length]? = some (a, e) := by simp
    have := hD'.1 _ _ _ _ h1 h2 rfl
    omega
/-! locals as a list by places -/
def lvs (ls : Array Slot) (nL : Nat) (lv : LV) : Prop := lv.length = nL ∧ ls.size = nL ∧ lv_wf ls ∧ ∀ (i : Nat) (v : Value), lv[i]? = some (some v) → ls[i]? = some (.val v)
def lva (lv : LV) : List (Nat × Value) := (List.range lv.length).filterMap (fun i => match lv[i]? with
  | some (some v) => some (i, v)
  | _ => none)
theorem lva_mem {lv : LV} {q : Nat × Value} : q ∈ lva lv ↔ lv[q.1]? = some (some q.2) := by
  unfold lva
  rw [List.mem_filterMap]
  constructor
  · rintro ⟨i, -, hi⟩
    cases hv : lv[i]? with
    | none => rw [hv] at hi; cases hi
    | some ov =>
      rw [hv] at hi
      cases ov with
      | none => cases hi
      | some v => cases hi; exact hv
  · intro h
    have hl := (List.getElem?_eq_some_iff.mp h).1
    exact ⟨q.1, List.mem_range.mpr hl, by rw [h]⟩
theorem lvs_has {ls : Array Slot} {nL : Nat} {lv : LV} (h : lvs ls nL lv) : lv_has ls nL (lva lv) := ⟨h.2.1, h.2.2.1, fun q hq => h.2.2.2 _ _ (lva_mem.mp hq)⟩
def ok1 (lv : LV) (i : Nat) : Bool := match i with
  | 0 => true
  | k + 1 => match lv[k]? with
    | some (some v) => v.category == 1
    | _ => true
theorem ok1_spec {lv : LV} {i j : Nat} {v : Value} (h : ok1 lv i = true) (hj : j + 1 = i) (hv : lv[j]? = some (some v)) : v.category = 1 := by
  subst hj
  simpa [ok1, hv] using h
theorem lvs_set1 {ls' : Array Slot} {nL i : Nat} {lv : LV} {v : Value} (h0 : lv.length = nL) (h : lv_has ls' nL ((i, v) :: (lva lv).filter (fun q => !(q.1 == i) && !(q.1 + 1 == i && q.2.category == 2)))) (hk : ok1 lv i = true) : lvs ls' nL (lv.set i (some v)) := by
  refine ⟨by rw [List.length_set]; exact h0, h.1, h.2.1, fun j w hj => ?_⟩
  by_cases hji : j = i
  · subst hji
    have hl := (List.getElem?_eq_some_iff.mp hj).1
    rw [List.length_set] at hl
    rw [List.getElem?_set_self hl] at hj
    cases hj
    exact h.2.2 (j, v) List.mem_cons_self
  · rw [List.getElem?_set_ne (Ne.symm hji)] at hj
    refine h.2.2 (j, w) (List.mem_cons_of_mem _ (List.mem_filter.mpr ⟨lva_mem.mpr hj, ?_⟩))
    by_cases hj1 : j + 1 = i
    · have := ok1_spec hk hj1 hj
      simp [hji, this]
    · simp [hji, hj1]
theorem lvs_set2 {ls' : Array Slot} {nL i : Nat} {lv : LV} {v : Value} (h0 : lv.length = nL) (h : lv_has ls' nL ((i, v) :: (lva lv).filter (fun q => !(q.1 == i) && (!(q.1 == i + 1) && !(q.1 + 1 == i && q.2.category == 2))))) (hk : ok1 lv i = true) : lvs ls' nL ((lv.set i (some v)).set (i + 1) none) := by
  refine ⟨by rw [List.length_set, List.length_set]; exact h0, h.1, h.2.1, fun j w hj => ?_⟩
  have hl := (List.getElem?_eq_some_iff.mp hj).1
  by_cases hji : j = i + 1
  · subst hji
    rw [List.length_set] at hl
    rw [List.getElem?_set_self hl] at hj
    cases hj
  · rw [List.getElem?_set_ne (Ne.symm hji)] at hj
    by_cases hji2 : j = i
    · subst hji2
      rw [List.length_set, List.length_set] at hl
      rw [List.getElem?_set_self hl] at hj
      cases hj
      exact h.2.2 (j, v) List.mem_cons_self
    · rw [List.getElem?_set_ne (Ne.symm hji2)] at hj
      refine h.2.2 (j, w) (List.mem_cons_of_mem _ (List.mem_filter.mpr ⟨lva_mem.mpr hj, ?_⟩))
      by_cases hj1 : j + 1 = i
      · have := ok1_spec hk hj1 hj
        simp [hji, hji2, this]
      · simp [hji, hji2, hj1]
/-- fewer locals known -/
def lvle (a b : LV) : Prop := a.length = b.length ∧ ∀ (i : Nat) (v : Value), a[i]? = some (some v) → b[i]? = some (some v)
theorem lvs_le {ls : Array Slot} {nL : Nat} {a b : LV} (h : lvs ls nL b) (hab : lvle a b) : lvs ls nL a := ⟨hab.1.trans h.1, h.2.1, h.2.2.1, fun i v hv => h.2.2.2 i v (hab.2 i v hv)⟩
def lvleB : LV → LV → Prop
  | [], [] => True
  | none :: a, _ :: b => lvleB a b
  | some v :: a, x :: b => x = some v ∧ lvleB a b
  | _, _ => False
theorem lvle_of : ∀ {a b : LV}, lvleB a b → lvle a b
  | [], [], _ => ⟨rfl, fun i v h => by simp at h⟩
  | none :: a, _ :: b, h => by
    have h2 := lvle_of (a := a) (b := b) h
    refine ⟨by simp [h2.1], fun i v hv => ?_⟩
    cases i with
    | zero => simp at hv
    | succ i => simp only [List.getElem?_cons_succ] at hv ⊢; exact h2.2 i v hv
  | some v :: a, x :: b, h => by
    obtain ⟨hx, h⟩ := h
    have h2 := lvle_of (a := a) (b := b) h
    refine ⟨by simp [h2.1], fun i v hv => ?_⟩
    cases i with
    | zero => simp at hv; simp [hx, hv]
    | succ i => simp only [List.getElem?_cons_succ] at hv ⊢; exact h2.2 i v hv
  | [], _ :: _, h => absurd h id
  | none :: _, [], h => absurd h id
  | some _ :: _, [], h => absurd h id
/-! the judgement -/
def J0 (p : Program) (l : Launch) (e : Env) (R : Room) (s : State) (m : MethodId) (args : Array Value) (below : List Frame) (meth : Method) (c : Code) (E : En) (A : Nat → Prop) (nL : Nat) (Q : State → Prop) (P : HP) (ce sl pc : Nat) (lv : LV) (st : List Value) : Prop :=
  ∀ (H : Heap) (locs : List Loc) (ls : Array Slot) (ws : va_W), va_P E.1 vwCl ws H → va_D A ws → P (hf ws) → va_S A s.heap H locs → lvs ls nL lv → W p l e R s m args below meth c H locs ce sl Q (F0 m pc ls st)
abbrev Jt : Type := HP → Nat → Nat → Nat → LV → List Value → Prop
abbrev Ft : Type := Option Value → HP → Nat → Nat → Prop
def retI : Option Value → Instr
  | none => .return_
  | some (.int _) => .ireturn
  | some (.long _) => .lreturn
  | _ => .areturn
def retOk (ret : Option FieldType) (v : Option Value) : Prop := match v, ret with
  | none, none => True
  | some (.int x), some ty => narrow ty (.int x) = .int x
  | some (.long _), some .long => True
  | some (.ref _), some (.object _) => True
  | some (.ref _), some (.array _) => True
  | some .null, some (.object _) => True
  | _, _ => False
def Ok (l : Launch) (E : En) (cc : ByteArray) (own nm : String) (nL : Nat) (R : Room) (ret : Option FieldType) (Fn : Ft) (J : Jt) : Prop :=
  ∃ (p : Program) (e : Env) (s : State) (m : MethodId) (args : Array Value) (below : List Frame) (meth : Method) (c : Code) (A : Nat → Prop) (Q : State → Prop),
    J = J0 p l e R s m args below meth c E A nL Q ∧ p.tables.exec = Jvm.exec ∧ c.code = cc ∧ c.maxLocals = nL ∧ s.vm.findClass own = some m.cls ∧ (∀ w ∈ wsL_law, w.before args s = true) ∧ e_K E s ∧ (∀ q, s.heap.size ≤ q → A q) ∧ meth.name = nm ∧
    (∀ (v : Option Value) (P : HP) (ce sl pc : Nat) (lv : LV), Fn v P ce sl → retOk ret v → decode cc pc = .ok (retI v, 1) → J0 p l e R s m args below meth c E A nL Q P ce sl pc lv v.toList)

theorem x_iconst {l : Launch} {E : En} {cc : ByteArray} {own nm : String} {nL : Nat} {R : Room} {ret : Option FieldType} {Fn : Ft} {J : Jt} (O : Ok l E cc own nm nL R ret Fn J) {pc : Nat} {n : Int} {v : Int32} {P : HP} {ce sl : Nat} {lv : LV} {st : List Value} (d : decode cc pc = .ok (.iconst n, 1)) (hv : Int32.ofInt n = v) (k : J P ce sl (pc + 1) lv (.int v :: st)) : J P ce sl pc lv st := by
  obtain ⟨p, e, s, m, args, below, meth, c, A, Q, rfl, hx, hb, C⟩ := O
  intro H locs ls ws h1 h2 h3 h4 h5
  exact lv_iconst hx hb d hv (k H locs ls ws h1 h2 h3 h4 h5)
theorem x_bipush {l : Launch} {E : En} {cc : ByteArray} {own nm : String} {nL : Nat} {R : Room} {ret : Option FieldType} {Fn : Ft} {J : Jt} (O : Ok l E cc own nm nL R ret Fn J) {pc : Nat} {n : Int} {v : Int32} {P : HP} {ce sl : Nat} {lv : LV} {st : List Value} (d : decode cc pc = .ok (.bipush n, 2)) (hv : (Int8.ofInt n).toInt32 = v) (k : J P ce sl (pc + 2) lv (.int v :: st)) : J P ce sl pc lv st := by
  obtain ⟨p, e, s, m, args, below, meth, c, A, Q, rfl, hx, hb, C⟩ := O
  intro H locs ls ws h1 h2 h3 h4 h5
  exact lv_bipush hx hb d hv (k H locs ls ws h1 h2 h3 h4 h5)
theorem x_sipush {l : Launch} {E : En} {cc : ByteArray} {own nm : String} {nL : Nat} {R : Room} {ret : Option FieldType} {Fn : Ft} {J : Jt} (O : Ok l E cc own nm nL R ret Fn J) {pc : Nat} {n : Int} {v : Int32} {P : HP} {ce sl : Nat} {lv : LV} {st : List Value} (d : decode cc pc = .ok (.sipush n, 3)) (hv : (Int16.ofInt n).toInt32 = v) (k : J P ce sl (pc + 3) lv (.int v :: st)) : J P ce sl pc lv st := by
  obtain ⟨p, e, s, m, args, below, meth, c, A, Q, rfl, hx, hb, C⟩ := O
  intro H locs ls ws h1 h2 h3 h4 h5
  exact lv_sipush hx hb d hv (k H locs ls ws h1 h2 h3 h4 h5)
theorem x_lconst {l : Launch} {E : En} {cc : ByteArray} {own nm : String} {nL : Nat} {R : Room} {ret : Option FieldType} {Fn : Ft} {J : Jt} (O : Ok l E cc own nm nL R ret Fn J) {pc : Nat} {n : Fin 2} {v : Int64} {P : HP} {ce sl : Nat} {lv : LV} {st : List Value} (d : decode cc pc = .ok (.lconst n, 1)) (hv : Int64.ofNat (n : Nat) = v) (k : J P ce sl (pc + 1) lv (.long v :: st)) : J P ce sl pc lv st := by
  obtain ⟨p, e, s, m, args, below, meth, c, A, Q, rfl, hx, hb, C⟩ := O
  intro H locs ls ws h1 h2 h3 h4 h5
  exact lv_lconst hx hb d hv (k H locs ls ws h1 h2 h3 h4 h5)
theorem x_null {l : Launch} {E : En} {cc : ByteArray} {own nm : String} {nL : Nat} {R : Room} {ret : Option FieldType} {Fn : Ft} {J : Jt} (O : Ok l E cc own nm nL R ret Fn J) {pc : Nat}  {P : HP} {ce sl : Nat} {lv : LV} {st : List Value} (d : decode cc pc = .ok (.aconst_null, 1))  (k : J P ce sl (pc + 1) lv (.null :: st)) : J P ce sl pc lv st := by
  obtain ⟨p, e, s, m, args, below, meth, c, A, Q, rfl, hx, hb, C⟩ := O
  intro H locs ls ws h1 h2 h3 h4 h5
  exact lv_null hx hb d  (k H locs ls ws h1 h2 h3 h4 h5)
theorem x_iadd {l : Launch} {E : En} {cc : ByteArray} {own nm : String} {nL : Nat} {R : Room} {ret : Option FieldType} {Fn : Ft} {J : Jt} (O : Ok l E cc own nm nL R ret Fn J) {pc : Nat} {x y : Int32} {P : HP} {ce sl : Nat} {lv : LV} {st : List Value} (d : decode cc pc = .ok (.iadd, 1))  (k : J P ce sl (pc + 1) lv (.int (x + y) :: st)) : J P ce sl pc lv (.int y :: .int x :: st) := by
  obtain ⟨p, e, s, m, args, below, meth, c, A, Q, rfl, hx, hb, C⟩ := O
  intro H locs ls ws h1 h2 h3 h4 h5
  exact lv_iadd hx hb d  (k H locs ls ws h1 h2 h3 h4 h5)
theorem x_isub {l : Launch} {E : En} {cc : ByteArray} {own nm : String} {nL : Nat} {R : Room} {ret : Option FieldType} {Fn : Ft} {J : Jt} (O : Ok l E cc own nm nL R ret Fn J) {pc : Nat} {x y : Int32} {P : HP} {ce sl : Nat} {lv : LV} {st : List Value} (d : decode cc pc = .ok (.isub, 1))  (k : J P ce sl (pc + 1) lv (.int (x - y) :: st)) : J P ce sl pc lv (.int y :: .int x :: st) := by
  obtain ⟨p, e, s, m, args, below, meth, c, A, Q, rfl, hx, hb, C⟩ := O
  intro H locs ls ws h1 h2 h3 h4 h5
  exact lv_isub hx hb d  (k H locs ls ws h1 h2 h3 h4 h5)
theorem x_imul {l : Launch} {E : En} {cc : ByteArray} {own nm : String} {nL : Nat} {R : Room} {ret : Option FieldType} {Fn : Ft} {J : Jt} (O : Ok l E cc own nm nL R ret Fn J) {pc : Nat} {x y : Int32} {P : HP} {ce sl : Nat} {lv : LV} {st : List Value} (d : decode cc pc = .ok (.imul, 1))  (k : J P ce sl (pc + 1) lv (.int (x * y) :: st)) : J P ce sl pc lv (.int y :: .int x :: st) := by
  obtain ⟨p, e, s, m, args, below, meth, c, A, Q, rfl, hx, hb, C⟩ := O
  intro H locs ls ws h1 h2 h3 h4 h5
  exact lv_imul hx hb d  (k H locs ls ws h1 h2 h3 h4 h5)
theorem x_iand {l : Launch} {E : En} {cc : ByteArray} {own nm : String} {nL : Nat} {R : Room} {ret : Option FieldType} {Fn : Ft} {J : Jt} (O : Ok l E cc own nm nL R ret Fn J) {pc : Nat} {x y : Int32} {P : HP} {ce sl : Nat} {lv : LV} {st : List Value} (d : decode cc pc = .ok (.iand, 1))  (k : J P ce sl (pc + 1) lv (.int (x &&& y) :: st)) : J P ce sl pc lv (.int y :: .int x :: st) := by
  obtain ⟨p, e, s, m, args, below, meth, c, A, Q, rfl, hx, hb, C⟩ := O
  intro H locs ls ws h1 h2 h3 h4 h5
  exact lv_iand hx hb d  (k H locs ls ws h1 h2 h3 h4 h5)
theorem x_ladd {l : Launch} {E : En} {cc : ByteArray} {own nm : String} {nL : Nat} {R : Room} {ret : Option FieldType} {Fn : Ft} {J : Jt} (O : Ok l E cc own nm nL R ret Fn J) {pc : Nat} {x y : Int64} {P : HP} {ce sl : Nat} {lv : LV} {st : List Value} (d : decode cc pc = .ok (.ladd, 1))  (k : J P ce sl (pc + 1) lv (.long (x + y) :: st)) : J P ce sl pc lv (.long y :: .long x :: st) := by
  obtain ⟨p, e, s, m, args, below, meth, c, A, Q, rfl, hx, hb, C⟩ := O
  intro H locs ls ws h1 h2 h3 h4 h5
  exact lv_ladd hx hb d  (k H locs ls ws h1 h2 h3 h4 h5)
theorem x_lsub {l : Launch} {E : En} {cc : ByteArray} {own nm : String} {nL : Nat} {R : Room} {ret : Option FieldType} {Fn : Ft} {J : Jt} (O : Ok l E cc own nm nL R ret Fn J) {pc : Nat} {x y : Int64} {P : HP} {ce sl : Nat} {lv : LV} {st : List Value} (d : decode cc pc = .ok (.lsub, 1))  (k : J P ce sl (pc + 1) lv (.long (x - y) :: st)) : J P ce sl pc lv (.long y :: .long x :: st) := by
  obtain ⟨p, e, s, m, args, below, meth, c, A, Q, rfl, hx, hb, C⟩ := O
  intro H locs ls ws h1 h2 h3 h4 h5
  exact lv_lsub hx hb d  (k H locs ls ws h1 h2 h3 h4 h5)
theorem x_land {l : Launch} {E : En} {cc : ByteArray} {own nm : String} {nL : Nat} {R : Room} {ret : Option FieldType} {Fn : Ft} {J : Jt} (O : Ok l E cc own nm nL R ret Fn J) {pc : Nat} {x y : Int64} {P : HP} {ce sl : Nat} {lv : LV} {st : List Value} (d : decode cc pc = .ok (.land, 1))  (k : J P ce sl (pc + 1) lv (.long (x &&& y) :: st)) : J P ce sl pc lv (.long y :: .long x :: st) := by
  obtain ⟨p, e, s, m, args, below, meth, c, A, Q, rfl, hx, hb, C⟩ := O
  intro H locs ls ws h1 h2 h3 h4 h5
  exact lv_land hx hb d  (k H locs ls ws h1 h2 h3 h4 h5)
theorem x_lor {l : Launch} {E : En} {cc : ByteArray} {own nm : String} {nL : Nat} {R : Room} {ret : Option FieldType} {Fn : Ft} {J : Jt} (O : Ok l E cc own nm nL R ret Fn J) {pc : Nat} {x y : Int64} {P : HP} {ce sl : Nat} {lv : LV} {st : List Value} (d : decode cc pc = .ok (.lor, 1))  (k : J P ce sl (pc + 1) lv (.long (x ||| y) :: st)) : J P ce sl pc lv (.long y :: .long x :: st) := by
  obtain ⟨p, e, s, m, args, below, meth, c, A, Q, rfl, hx, hb, C⟩ := O
  intro H locs ls ws h1 h2 h3 h4 h5
  exact lv_lor hx hb d  (k H locs ls ws h1 h2 h3 h4 h5)
theorem x_lxor {l : Launch} {E : En} {cc : ByteArray} {own nm : String} {nL : Nat} {R : Room} {ret : Option FieldType} {Fn : Ft} {J : Jt} (O : Ok l E cc own nm nL R ret Fn J) {pc : Nat} {x y : Int64} {P : HP} {ce sl : Nat} {lv : LV} {st : List Value} (d : decode cc pc = .ok (.lxor, 1))  (k : J P ce sl (pc + 1) lv (.long (x ^^^ y) :: st)) : J P ce sl pc lv (.long y :: .long x :: st) := by
  obtain ⟨p, e, s, m, args, below, meth, c, A, Q, rfl, hx, hb, C⟩ := O
  intro H locs ls ws h1 h2 h3 h4 h5
  exact lv_lxor hx hb d  (k H locs ls ws h1 h2 h3 h4 h5)
theorem x_idiv {l : Launch} {E : En} {cc : ByteArray} {own nm : String} {nL : Nat} {R : Room} {ret : Option FieldType} {Fn : Ft} {J : Jt} (O : Ok l E cc own nm nL R ret Fn J) {pc : Nat} {x y : Int32} {P : HP} {ce sl : Nat} {lv : LV} {st : List Value} (d : decode cc pc = .ok (.idiv, 1)) (hne : ¬ y = 0) (k : J P ce sl (pc + 1) lv (.int (x / y) :: st)) : J P ce sl pc lv (.int y :: .int x :: st) := by
  obtain ⟨p, e, s, m, args, below, meth, c, A, Q, rfl, hx, hb, C⟩ := O
  intro H locs ls ws h1 h2 h3 h4 h5
  exact lv_idiv hx hb d hne (k H locs ls ws h1 h2 h3 h4 h5)
theorem x_irem {l : Launch} {E : En} {cc : ByteArray} {own nm : String} {nL : Nat} {R : Room} {ret : Option FieldType} {Fn : Ft} {J : Jt} (O : Ok l E cc own nm nL R ret Fn J) {pc : Nat} {x y : Int32} {P : HP} {ce sl : Nat} {lv : LV} {st : List Value} (d : decode cc pc = .ok (.irem, 1)) (hne : ¬ y = 0) (k : J P ce sl (pc + 1) lv (.int (x - x / y * y) :: st)) : J P ce sl pc lv (.int y :: .int x :: st) := by
  obtain ⟨p, e, s, m, args, below, meth, c, A, Q, rfl, hx, hb, C⟩ := O
  intro H locs ls ws h1 h2 h3 h4 h5
  exact lv_irem hx hb d hne (k H locs ls ws h1 h2 h3 h4 h5)
theorem x_lneg {l : Launch} {E : En} {cc : ByteArray} {own nm : String} {nL : Nat} {R : Room} {ret : Option FieldType} {Fn : Ft} {J : Jt} (O : Ok l E cc own nm nL R ret Fn J) {pc : Nat} {x : Int64} {P : HP} {ce sl : Nat} {lv : LV} {st : List Value} (d : decode cc pc = .ok (.lneg, 1))  (k : J P ce sl (pc + 1) lv (.long (-x) :: st)) : J P ce sl pc lv (.long x :: st) := by
  obtain ⟨p, e, s, m, args, below, meth, c, A, Q, rfl, hx, hb, C⟩ := O
  intro H locs ls ws h1 h2 h3 h4 h5
  exact lv_lneg hx hb d  (k H locs ls ws h1 h2 h3 h4 h5)
theorem x_lshl {l : Launch} {E : En} {cc : ByteArray} {own nm : String} {nL : Nat} {R : Room} {ret : Option FieldType} {Fn : Ft} {J : Jt} (O : Ok l E cc own nm nL R ret Fn J) {pc : Nat} {x : Int64} {y : Int32} {P : HP} {ce sl : Nat} {lv : LV} {st : List Value} (d : decode cc pc = .ok (.lshl, 1))  (k : J P ce sl (pc + 1) lv (.long (x <<< (y.toInt64 &&& 63)) :: st)) : J P ce sl pc lv (.int y :: .long x :: st) := by
  obtain ⟨p, e, s, m, args, below, meth, c, A, Q, rfl, hx, hb, C⟩ := O
  intro H locs ls ws h1 h2 h3 h4 h5
  exact lv_lshl hx hb d rfl (k H locs ls ws h1 h2 h3 h4 h5)
theorem x_lshr {l : Launch} {E : En} {cc : ByteArray} {own nm : String} {nL : Nat} {R : Room} {ret : Option FieldType} {Fn : Ft} {J : Jt} (O : Ok l E cc own nm nL R ret Fn J) {pc : Nat} {x : Int64} {y : Int32} {P : HP} {ce sl : Nat} {lv : LV} {st : List Value} (d : decode cc pc = .ok (.lshr, 1))  (k : J P ce sl (pc + 1) lv (.long (x >>> (y.toInt64 &&& 63)) :: st)) : J P ce sl pc lv (.int y :: .long x :: st) := by
  obtain ⟨p, e, s, m, args, below, meth, c, A, Q, rfl, hx, hb, C⟩ := O
  intro H locs ls ws h1 h2 h3 h4 h5
  exact lv_lshr hx hb d rfl (k H locs ls ws h1 h2 h3 h4 h5)
theorem x_lushr {l : Launch} {E : En} {cc : ByteArray} {own nm : String} {nL : Nat} {R : Room} {ret : Option FieldType} {Fn : Ft} {J : Jt} (O : Ok l E cc own nm nL R ret Fn J) {pc : Nat} {x : Int64} {y : Int32} {P : HP} {ce sl : Nat} {lv : LV} {st : List Value} (d : decode cc pc = .ok (.lushr, 1))  (k : J P ce sl (pc + 1) lv (.long ((x.toUInt64 >>> (y.toInt64.toUInt64 &&& Int64.toUInt64 63)).toInt64) :: st)) : J P ce sl pc lv (.int y :: .long x :: st) := by
  obtain ⟨p, e, s, m, args, below, meth, c, A, Q, rfl, hx, hb, C⟩ := O
  intro H locs ls ws h1 h2 h3 h4 h5
  exact lv_lushr hx hb d rfl (k H locs ls ws h1 h2 h3 h4 h5)
theorem x_l2i {l : Launch} {E : En} {cc : ByteArray} {own nm : String} {nL : Nat} {R : Room} {ret : Option FieldType} {Fn : Ft} {J : Jt} (O : Ok l E cc own nm nL R ret Fn J) {pc : Nat} {x : Int64} {P : HP} {ce sl : Nat} {lv : LV} {st : List Value} (d : decode cc pc = .ok (.l2i, 1))  (k : J P ce sl (pc + 1) lv (.int x.toInt32 :: st)) : J P ce sl pc lv (.long x :: st) := by
  obtain ⟨p, e, s, m, args, below, meth, c, A, Q, rfl, hx, hb, C⟩ := O
  intro H locs ls ws h1 h2 h3 h4 h5
  exact lv_l2i hx hb d rfl (k H locs ls ws h1 h2 h3 h4 h5)
theorem x_lcmp {l : Launch} {E : En} {cc : ByteArray} {own nm : String} {nL : Nat} {R : Room} {ret : Option FieldType} {Fn : Ft} {J : Jt} (O : Ok l E cc own nm nL R ret Fn J) {pc : Nat} {x y : Int64} {P : HP} {ce sl : Nat} {lv : LV} {st : List Value} (d : decode cc pc = .ok (.lcmp, 1))  (k : J P ce sl (pc + 1) lv (.int (lg_cmp x y) :: st)) : J P ce sl pc lv (.long y :: .long x :: st) := by
  obtain ⟨p, e, s, m, args, below, meth, c, A, Q, rfl, hx, hb, C⟩ := O
  intro H locs ls ws h1 h2 h3 h4 h5
  exact W.lcmp hx hb d  (k H locs ls ws h1 h2 h3 h4 h5)
theorem x_dup {l : Launch} {E : En} {cc : ByteArray} {own nm : String} {nL : Nat} {R : Room} {ret : Option FieldType} {Fn : Ft} {J : Jt} (O : Ok l E cc own nm nL R ret Fn J) {pc : Nat} {v : Value} {P : HP} {ce sl : Nat} {lv : LV} {st : List Value} (d : decode cc pc = .ok (.dup, 1)) (hv : v.category = 1) (k : J P ce sl (pc + 1) lv (v :: v :: st)) : J P ce sl pc lv (v :: st) := by
  obtain ⟨p, e, s, m, args, below, meth, c, A, Q, rfl, hx, hb, C⟩ := O
  intro H locs ls ws h1 h2 h3 h4 h5
  exact lv_dup hx hb d hv (k H locs ls ws h1 h2 h3 h4 h5)
theorem x_pop {l : Launch} {E : En} {cc : ByteArray} {own nm : String} {nL : Nat} {R : Room} {ret : Option FieldType} {Fn : Ft} {J : Jt} (O : Ok l E cc own nm nL R ret Fn J) {pc : Nat} {v : Value} {P : HP} {ce sl : Nat} {lv : LV} {st : List Value} (d : decode cc pc = .ok (.pop, 1)) (hv : v.category = 1) (k : J P ce sl (pc + 1) lv st) : J P ce sl pc lv (v :: st) := by
  obtain ⟨p, e, s, m, args, below, meth, c, A, Q, rfl, hx, hb, C⟩ := O
  intro H locs ls ws h1 h2 h3 h4 h5
  exact lv_pop hx hb d hv (k H locs ls ws h1 h2 h3 h4 h5)
theorem x_dup2 {l : Launch} {E : En} {cc : ByteArray} {own nm : String} {nL : Nat} {R : Room} {ret : Option FieldType} {Fn : Ft} {J : Jt} (O : Ok l E cc own nm nL R ret Fn J) {pc : Nat} {v u : Value} {P : HP} {ce sl : Nat} {lv : LV} {st : List Value} (d : decode cc pc = .ok (.dup2, 1)) (hv : v.category = 1) (hu : u.category = 1) (k : J P ce sl (pc + 1) lv (v :: u :: v :: u :: st)) : J P ce sl pc lv (v :: u :: st) := by
  obtain ⟨p, e, s, m, args, below, meth, c, A, Q, rfl, hx, hb, C⟩ := O
  intro H locs ls ws h1 h2 h3 h4 h5
  exact lv_dup2_11 hx hb d hv hu (k H locs ls ws h1 h2 h3 h4 h5)
theorem x_dup2l {l : Launch} {E : En} {cc : ByteArray} {own nm : String} {nL : Nat} {R : Room} {ret : Option FieldType} {Fn : Ft} {J : Jt} (O : Ok l E cc own nm nL R ret Fn J) {pc : Nat} {v : Value} {P : HP} {ce sl : Nat} {lv : LV} {st : List Value} (d : decode cc pc = .ok (.dup2, 1)) (hv : v.category = 2) (k : J P ce sl (pc + 1) lv (v :: v :: st)) : J P ce sl pc lv (v :: st) := by
  obtain ⟨p, e, s, m, args, below, meth, c, A, Q, rfl, hx, hb, C⟩ := O
  intro H locs ls ws h1 h2 h3 h4 h5
  exact lv_dup2_2 hx hb d hv (k H locs ls ws h1 h2 h3 h4 h5)
theorem x_iload_n {l : Launch} {E : En} {cc : ByteArray} {own nm : String} {nL : Nat} {R : Room} {ret : Option FieldType} {Fn : Ft} {J : Jt} (O : Ok l E cc own nm nL R ret Fn J) {pc : Nat} {j : Fin 4} {x : Int32} {P : HP} {ce sl : Nat} {lv : LV} {st : List Value} (d : decode cc pc = .ok (.iload_n j, 1)) (hl : lv[(j : Nat)]? = some (some (.int x))) (k : J P ce sl (pc + 1) lv (.int x :: st)) : J P ce sl pc lv st := by
  obtain ⟨p, e, s, m, args, below, meth, c, A, Q, rfl, hx, hb, C⟩ := O
  intro H locs ls ws h1 h2 h3 h4 h5
  exact lv_iload_n hx hb d rfl (h5.2.2.2 _ _ hl) (k H locs ls ws h1 h2 h3 h4 h5)
theorem x_iload {l : Launch} {E : En} {cc : ByteArray} {own nm : String} {nL : Nat} {R : Room} {ret : Option FieldType} {Fn : Ft} {J : Jt} (O : Ok l E cc own nm nL R ret Fn J) {pc : Nat} {j : Nat} {x : Int32} {P : HP} {ce sl : Nat} {lv : LV} {st : List Value} (d : decode cc pc = .ok (.iload j, 2)) (hl : lv[j]? = some (some (.int x))) (k : J P ce sl (pc + 2) lv (.int x :: st)) : J P ce sl pc lv st := by
  obtain ⟨p, e, s, m, args, below, meth, c, A, Q, rfl, hx, hb, C⟩ := O
  intro H locs ls ws h1 h2 h3 h4 h5
  exact lv_iload hx hb d (h5.2.2.2 _ _ hl) (k H locs ls ws h1 h2 h3 h4 h5)
theorem x_lload_n {l : Launch} {E : En} {cc : ByteArray} {own nm : String} {nL : Nat} {R : Room} {ret : Option FieldType} {Fn : Ft} {J : Jt} (O : Ok l E cc own nm nL R ret Fn J) {pc : Nat} {j : Fin 4} {x : Int64} {P : HP} {ce sl : Nat} {lv : LV} {st : List Value} (d : decode cc pc = .ok (.lload_n j, 1)) (hl : lv[(j : Nat)]? = some (some (.long x))) (k : J P ce sl (pc + 1) lv (.long x :: st)) : J P ce sl pc lv st := by
  obtain ⟨p, e, s, m, args, below, meth, c, A, Q, rfl, hx, hb, C⟩ := O
  intro H locs ls ws h1 h2 h3 h4 h5
  exact lv_lload_n hx hb d rfl (h5.2.2.2 _ _ hl) (k H locs ls ws h1 h2 h3 h4 h5)
theorem x_lload {l : Launch} {E : En} {cc : ByteArray} {own nm : String} {nL : Nat} {R : Room} {ret : Option FieldType} {Fn : Ft} {J : Jt} (O : Ok l E cc own nm nL R ret Fn J) {pc : Nat} {j : Nat} {x : Int64} {P : HP} {ce sl : Nat} {lv : LV} {st : List Value} (d : decode cc pc = .ok (.lload j, 2)) (hl : lv[j]? = some (some (.long x))) (k : J P ce sl (pc + 2) lv (.long x :: st)) : J P ce sl pc lv st := by
  obtain ⟨p, e, s, m, args, below, meth, c, A, Q, rfl, hx, hb, C⟩ := O
  intro H locs ls ws h1 h2 h3 h4 h5
  exact lv_lload hx hb d (h5.2.2.2 _ _ hl) (k H locs ls ws h1 h2 h3 h4 h5)
def rfv : Value → Bool
  | .ref _ => true
  | .null => true
  | _ => false
theorem x_aload_n {l : Launch} {E : En} {cc : ByteArray} {own nm : String} {nL : Nat} {R : Room} {ret : Option FieldType} {Fn : Ft} {J : Jt} (O : Ok l E cc own nm nL R ret Fn J) {pc : Nat} {j : Fin 4} {v : Value} {P : HP} {ce sl : Nat} {lv : LV} {st : List Value} (d : decode cc pc = .ok (.aload_n j, 1)) (hl : lv[((j : Nat))]? = some (some v)) (hv : rfv v = true) (k : J P ce sl (pc + 1) lv (v :: st)) : J P ce sl pc lv st := by
  obtain ⟨p, e, s, m, args, below, meth, c, A, Q, rfl, hx, hb, C⟩ := O
  intro H locs ls ws h1 h2 h3 h4 h5
  cases v <;> first | (cases hv; done) | exact lv_aload_n hx hb d rfl (h5.2.2.2 _ _ hl) (k H locs ls ws h1 h2 h3 h4 h5) | exact lv_aload_nN hx hb d rfl (h5.2.2.2 _ _ hl) (k H locs ls ws h1 h2 h3 h4 h5)
theorem x_aload {l : Launch} {E : En} {cc : ByteArray} {own nm : String} {nL : Nat} {R : Room} {ret : Option FieldType} {Fn : Ft} {J : Jt} (O : Ok l E cc own nm nL R ret Fn J) {pc : Nat} {j : Nat} {v : Value} {P : HP} {ce sl : Nat} {lv : LV} {st : List Value} (d : decode cc pc = .ok (.aload j, 2)) (hl : lv[(j)]? = some (some v)) (hv : rfv v = true) (k : J P ce sl (pc + 2) lv (v :: st)) : J P ce sl pc lv st := by
  obtain ⟨p, e, s, m, args, below, meth, c, A, Q, rfl, hx, hb, C⟩ := O
  intro H locs ls ws h1 h2 h3 h4 h5
  cases v <;> first | (cases hv; done) | exact lv_aload hx hb d (h5.2.2.2 _ _ hl) (k H locs ls ws h1 h2 h3 h4 h5) | exact lv_aloadN hx hb d (h5.2.2.2 _ _ hl) (k H locs ls ws h1 h2 h3 h4 h5)
theorem x_istore_n {l : Launch} {E : En} {cc : ByteArray} {own nm : String} {nL : Nat} {R : Room} {ret : Option FieldType} {Fn : Ft} {J : Jt} (O : Ok l E cc own nm nL R ret Fn J) {pc : Nat} {j : Fin 4} {x : Int32} {P : HP} {ce sl : Nat} {lv : LV} {st : List Value} (d : decode cc pc = .ok (.istore_n j, 1)) (hj : (j : Nat) < nL) (ho : ok1 lv (j : Nat) = true) (k : J P ce sl (pc + 1) (lv.set (j : Nat) (some (.int x))) st) : J P ce sl pc lv (.int x :: st) := by
  obtain ⟨p, e, s, m, args, below, meth, c, A, Q, rfl, hx, hb, C⟩ := O
  intro H locs ls ws h1 h2 h3 h4 h5
  exact lv_istore_n hx hb d rfl (lvs_has h5) hj rfl (fun ls' h6 => k H locs ls' ws h1 h2 h3 h4 (lvs_set1 h5.1 h6 ho))
theorem x_istore {l : Launch} {E : En} {cc : ByteArray} {own nm : String} {nL : Nat} {R : Room} {ret : Option FieldType} {Fn : Ft} {J : Jt} (O : Ok l E cc own nm nL R ret Fn J) {pc : Nat} {j : Nat} {x : Int32} {P : HP} {ce sl : Nat} {lv : LV} {st : List Value} (d : decode cc pc = .ok (.istore j, 2)) (hj : j < nL) (ho : ok1 lv j = true) (k : J P ce sl (pc + 2) (lv.set j (some (.int x))) st) : J P ce sl pc lv (.int x :: st) := by
  obtain ⟨p, e, s, m, args, below, meth, c, A, Q, rfl, hx, hb, C⟩ := O
  intro H locs ls ws h1 h2 h3 h4 h5
  exact lv_istore hx hb d (lvs_has h5) hj rfl (fun ls' h6 => k H locs ls' ws h1 h2 h3 h4 (lvs_set1 h5.1 h6 ho))
theorem x_lstore_n {l : Launch} {E : En} {cc : ByteArray} {own nm : String} {nL : Nat} {R : Room} {ret : Option FieldType} {Fn : Ft} {J : Jt} (O : Ok l E cc own nm nL R ret Fn J) {pc : Nat} {j : Fin 4} {x : Int64} {P : HP} {ce sl : Nat} {lv : LV} {st : List Value} (d : decode cc pc = .ok (.lstore_n j, 1)) (hj : (j : Nat) + 1 < nL) (ho : ok1 lv (j : Nat) = true) (k : J P ce sl (pc + 1) ((lv.set (j : Nat) (some (.long x))).set ((j : Nat) + 1) none) st) : J P ce sl pc lv (.long x :: st) := by
  obtain ⟨p, e, s, m, args, below, meth, c, A, Q, rfl, hx, hb, C⟩ := O
  intro H locs ls ws h1 h2 h3 h4 h5
  exact lv_lstore_n hx hb d rfl (lvs_has h5) hj rfl (fun ls' h6 => k H locs ls' ws h1 h2 h3 h4 (lvs_set2 h5.1 h6 ho))
theorem x_lstore {l : Launch} {E : En} {cc : ByteArray} {own nm : String} {nL : Nat} {R : Room} {ret : Option FieldType} {Fn : Ft} {J : Jt} (O : Ok l E cc own nm nL R ret Fn J) {pc : Nat} {j : Nat} {x : Int64} {P : HP} {ce sl : Nat} {lv : LV} {st : List Value} (d : decode cc pc = .ok (.lstore j, 2)) (hj : j + 1 < nL) (ho : ok1 lv j = true) (k : J P ce sl (pc + 2) ((lv.set j (some (.long x))).set (j + 1) none) st) : J P ce sl pc lv (.long x :: st) := by
  obtain ⟨p, e, s, m, args, below, meth, c, A, Q, rfl, hx, hb, C⟩ := O
  intro H locs ls ws h1 h2 h3 h4 h5
  exact lv_lstore hx hb d (lvs_has h5) hj rfl (fun ls' h6 => k H locs ls' ws h1 h2 h3 h4 (lvs_set2 h5.1 h6 ho))
theorem x_astore_n {l : Launch} {E : En} {cc : ByteArray} {own nm : String} {nL : Nat} {R : Room} {ret : Option FieldType} {Fn : Ft} {J : Jt} (O : Ok l E cc own nm nL R ret Fn J) {pc : Nat} {j : Fin 4} {v : Value} {P : HP} {ce sl : Nat} {lv : LV} {st : List Value} (d : decode cc pc = .ok (.astore_n j, 1)) (hj : (j : Nat) < nL) (ho : ok1 lv (j : Nat) = true) (hv : rfv v = true) (k : J P ce sl (pc + 1) (lv.set (j : Nat) (some v)) st) : J P ce sl pc lv (v :: st) := by
  obtain ⟨p, e, s, m, args, below, meth, c, A, Q, rfl, hx, hb, C⟩ := O
  intro H locs ls ws h1 h2 h3 h4 h5
  cases v <;> first | (cases hv; done) | exact lv_astore_n hx hb d rfl (lvs_has h5) hj rfl (fun ls' h6 => k H locs ls' ws h1 h2 h3 h4 (lvs_set1 h5.1 h6 ho)) | exact lv_astore_nN hx hb d rfl (lvs_has h5) hj rfl (fun ls' h6 => k H locs ls' ws h1 h2 h3 h4 (lvs_set1 h5.1 h6 ho))
theorem x_astore {l : Launch} {E : En} {cc : ByteArray} {own nm : String} {nL : Nat} {R : Room} {ret : Option FieldType} {Fn : Ft} {J : Jt} (O : Ok l E cc own nm nL R ret Fn J) {pc : Nat} {j : Nat} {v : Value} {P : HP} {ce sl : Nat} {lv : LV} {st : List Value} (d : decode cc pc = .ok (.astore j, 2)) (hj : j < nL) (ho : ok1 lv j = true) (hv : rfv v = true) (k : J P ce sl (pc + 2) (lv.set j (some v)) st) : J P ce sl pc lv (v :: st) := by
  obtain ⟨p, e, s, m, args, below, meth, c, A, Q, rfl, hx, hb, C⟩ := O
  intro H locs ls ws h1 h2 h3 h4 h5
  cases v <;> first | (cases hv; done) | exact lv_astore hx hb d (lvs_has h5) hj rfl (fun ls' h6 => k H locs ls' ws h1 h2 h3 h4 (lvs_set1 h5.1 h6 ho)) | exact lv_astoreN hx hb d (lvs_has h5) hj rfl (fun ls' h6 => k H locs ls' ws h1 h2 h3 h4 (lvs_set1 h5.1 h6 ho))
theorem x_iinc {l : Launch} {E : En} {cc : ByteArray} {own nm : String} {nL : Nat} {R : Room} {ret : Option FieldType} {Fn : Ft} {J : Jt} (O : Ok l E cc own nm nL R ret Fn J) {pc j : Nat} {n : Int} {x v : Int32} {P : HP} {ce sl : Nat} {lv : LV} {st : List Value} (d : decode cc pc = .ok (.iinc j n, 3)) (hl : lv[j]? = some (some (.int x))) (hv : x + Int32.ofInt n = v) (ho : ok1 lv j = true) (k : J P ce sl (pc + 3) (lv.set j (some (.int v))) st) : J P ce sl pc lv st := by
  obtain ⟨p, e, s, m, args, below, meth, c, A, Q, rfl, hx, hb, C⟩ := O
  intro H locs ls ws h1 h2 h3 h4 h5
  obtain ⟨i, hi⟩ := List.getElem?_of_mem (lva_mem.mpr (show lv[((j, Value.int x) : Nat × Value).1]? = some (some (.int x)) from hl))
  have hj : j < nL := by rw [← h5.1]; exact (List.getElem?_eq_some_iff.mp hl).1
  exact lv_iinc hx hb d (lvs_has h5) hi hv hj rfl (fun ls' h6 => k H locs ls' ws h1 h2 h3 h4 (lvs_set1 h5.1 h6 ho))
theorem x_if_eq {l : Launch} {E : En} {cc : ByteArray} {own nm : String} {nL : Nat} {R : Room} {ret : Option FieldType} {Fn : Ft} {J : Jt} (O : Ok l E cc own nm nL R ret Fn J) {pc : Nat} {x : Int32} {off : Int} (tgt : Nat) {P : HP} {ce sl : Nat} {lv : LV} {st : List Value} (d : decode cc pc = .ok (.ifCond .eq off, 3)) (ht : (pc : Int) + off = (tgt : Int)) (kt : x = 0 → J P ce sl tgt lv st) (kf : ¬ x = 0 → J P ce sl (pc + 3) lv st) : J P ce sl pc lv (.int x :: st) := by
  obtain ⟨p, e, s, m, args, below, meth, c, A, Q, rfl, hx, hb, C⟩ := O
  intro H locs ls ws h1 h2 h3 h4 h5
  exact lv_if_eq hx hb d ht (fun q => kt q H locs ls ws h1 h2 h3 h4 h5) (fun q => kf q H locs ls ws h1 h2 h3 h4 h5)
theorem x_icmp_eq {l : Launch} {E : En} {cc : ByteArray} {own nm : String} {nL : Nat} {R : Room} {ret : Option FieldType} {Fn : Ft} {J : Jt} (O : Ok l E cc own nm nL R ret Fn J) {pc : Nat} {x y : Int32} {off : Int} (tgt : Nat) {P : HP} {ce sl : Nat} {lv : LV} {st : List Value} (d : decode cc pc = .ok (.if_icmp .eq off, 3)) (ht : (pc : Int) + off = (tgt : Int)) (kt : x = y → J P ce sl tgt lv st) (kf : ¬ x = y → J P ce sl (pc + 3) lv st) : J P ce sl pc lv (.int y :: .int x :: st) := by
  obtain ⟨p, e, s, m, args, below, meth, c, A, Q, rfl, hx, hb, C⟩ := O
  intro H locs ls ws h1 h2 h3 h4 h5
  exact lv_icmp_eq hx hb d ht (fun q => kt q H locs ls ws h1 h2 h3 h4 h5) (fun q => kf q H locs ls ws h1 h2 h3 h4 h5)
theorem x_if_ne {l : Launch} {E : En} {cc : ByteArray} {own nm : String} {nL : Nat} {R : Room} {ret : Option FieldType} {Fn : Ft} {J : Jt} (O : Ok l E cc own nm nL R ret Fn J) {pc : Nat} {x : Int32} {off : Int} (tgt : Nat) {P : HP} {ce sl : Nat} {lv : LV} {st : List Value} (d : decode cc pc = .ok (.ifCond .ne off, 3)) (ht : (pc : Int) + off = (tgt : Int)) (kt : ¬ x = 0 → J P ce sl tgt lv st) (kf : x = 0 → J P ce sl (pc + 3) lv st) : J P ce sl pc lv (.int x :: st) := by
  obtain ⟨p, e, s, m, args, below, meth, c, A, Q, rfl, hx, hb, C⟩ := O
  intro H locs ls ws h1 h2 h3 h4 h5
  exact lv_if_ne hx hb d ht (fun q => kt q H locs ls ws h1 h2 h3 h4 h5) (fun q => kf q H locs ls ws h1 h2 h3 h4 h5)
theorem x_icmp_ne {l : Launch} {E : En} {cc : ByteArray} {own nm : String} {nL : Nat} {R : Room} {ret : Option FieldType} {Fn : Ft} {J : Jt} (O : Ok l E cc own nm nL R ret Fn J) {pc : Nat} {x y : Int32} {off : Int} (tgt : Nat) {P : HP} {ce sl : Nat} {lv : LV} {st : List Value} (d : decode cc pc = .ok (.if_icmp .ne off, 3)) (ht : (pc : Int) + off = (tgt : Int)) (kt : ¬ x = y → J P ce sl tgt lv st) (kf : x = y → J P ce sl (pc + 3) lv st) : J P ce sl pc lv (.int y :: .int x :: st) := by
  obtain ⟨p, e, s, m, args, below, meth, c, A, Q, rfl, hx, hb, C⟩ := O
  intro H locs ls ws h1 h2 h3 h4 h5
  exact lv_icmp_ne hx hb d ht (fun q => kt q H locs ls ws h1 h2 h3 h4 h5) (fun q => kf q H locs ls ws h1 h2 h3 h4 h5)
theorem x_if_lt {l : Launch} {E : En} {cc : ByteArray} {own nm : String} {nL : Nat} {R : Room} {ret : Option FieldType} {Fn : Ft} {J : Jt} (O : Ok l E cc own nm nL R ret Fn J) {pc : Nat} {x : Int32} {off : Int} (tgt : Nat) {P : HP} {ce sl : Nat} {lv : LV} {st : List Value} (d : decode cc pc = .ok (.ifCond .lt off, 3)) (ht : (pc : Int) + off = (tgt : Int)) (kt : x < 0 → J P ce sl tgt lv st) (kf : ¬ x < 0 → J P ce sl (pc + 3) lv st) : J P ce sl pc lv (.int x :: st) := by
  obtain ⟨p, e, s, m, args, below, meth, c, A, Q, rfl, hx, hb, C⟩ := O
  intro H locs ls ws h1 h2 h3 h4 h5
  exact lv_if_lt hx hb d ht (fun q => kt q H locs ls ws h1 h2 h3 h4 h5) (fun q => kf q H locs ls ws h1 h2 h3 h4 h5)
theorem x_icmp_lt {l : Launch} {E : En} {cc : ByteArray} {own nm : String} {nL : Nat} {R : Room} {ret : Option FieldType} {Fn : Ft} {J : Jt} (O : Ok l E cc own nm nL R ret Fn J) {pc : Nat} {x y : Int32} {off : Int} (tgt : Nat) {P : HP} {ce sl : Nat} {lv : LV} {st : List Value} (d : decode cc pc = .ok (.if_icmp .lt off, 3)) (ht : (pc : Int) + off = (tgt : Int)) (kt : x < y → J P ce sl tgt lv st) (kf : ¬ x < y → J P ce sl (pc + 3) lv st) : J P ce sl pc lv (.int y :: .int x :: st) := by
  obtain ⟨p, e, s, m, args, below, meth, c, A, Q, rfl, hx, hb, C⟩ := O
  intro H locs ls ws h1 h2 h3 h4 h5
  exact lv_icmp_lt hx hb d ht (fun q => kt q H locs ls ws h1 h2 h3 h4 h5) (fun q => kf q H locs ls ws h1 h2 h3 h4 h5)
theorem x_if_ge {l : Launch} {E : En} {cc : ByteArray} {own nm : String} {nL : Nat} {R : Room} {ret : Option FieldType} {Fn : Ft} {J : Jt} (O : Ok l E cc own nm nL R ret Fn J) {pc : Nat} {x : Int32} {off : Int} (tgt : Nat) {P : HP} {ce sl : Nat} {lv : LV} {st : List Value} (d : decode cc pc = .ok (.ifCond .ge off, 3)) (ht : (pc : Int) + off = (tgt : Int)) (kt : 0 ≤ x → J P ce sl tgt lv st) (kf : ¬ 0 ≤ x → J P ce sl (pc + 3) lv st) : J P ce sl pc lv (.int x :: st) := by
  obtain ⟨p, e, s, m, args, below, meth, c, A, Q, rfl, hx, hb, C⟩ := O
  intro H locs ls ws h1 h2 h3 h4 h5
  exact lv_if_ge hx hb d ht (fun q => kt q H locs ls ws h1 h2 h3 h4 h5) (fun q => kf q H locs ls ws h1 h2 h3 h4 h5)
theorem x_icmp_ge {l : Launch} {E : En} {cc : ByteArray} {own nm : String} {nL : Nat} {R : Room} {ret : Option FieldType} {Fn : Ft} {J : Jt} (O : Ok l E cc own nm nL R ret Fn J) {pc : Nat} {x y : Int32} {off : Int} (tgt : Nat) {P : HP} {ce sl : Nat} {lv : LV} {st : List Value} (d : decode cc pc = .ok (.if_icmp .ge off, 3)) (ht : (pc : Int) + off = (tgt : Int)) (kt : y ≤ x → J P ce sl tgt lv st) (kf : ¬ y ≤ x → J P ce sl (pc + 3) lv st) : J P ce sl pc lv (.int y :: .int x :: st) := by
  obtain ⟨p, e, s, m, args, below, meth, c, A, Q, rfl, hx, hb, C⟩ := O
  intro H locs ls ws h1 h2 h3 h4 h5
  exact lv_icmp_ge hx hb d ht (fun q => kt q H locs ls ws h1 h2 h3 h4 h5) (fun q => kf q H locs ls ws h1 h2 h3 h4 h5)
theorem x_if_gt {l : Launch} {E : En} {cc : ByteArray} {own nm : String} {nL : Nat} {R : Room} {ret : Option FieldType} {Fn : Ft} {J : Jt} (O : Ok l E cc own nm nL R ret Fn J) {pc : Nat} {x : Int32} {off : Int} (tgt : Nat) {P : HP} {ce sl : Nat} {lv : LV} {st : List Value} (d : decode cc pc = .ok (.ifCond .gt off, 3)) (ht : (pc : Int) + off = (tgt : Int)) (kt : 0 < x → J P ce sl tgt lv st) (kf : ¬ 0 < x → J P ce sl (pc + 3) lv st) : J P ce sl pc lv (.int x :: st) := by
  obtain ⟨p, e, s, m, args, below, meth, c, A, Q, rfl, hx, hb, C⟩ := O
  intro H locs ls ws h1 h2 h3 h4 h5
  exact lv_if_gt hx hb d ht (fun q => kt q H locs ls ws h1 h2 h3 h4 h5) (fun q => kf q H locs ls ws h1 h2 h3 h4 h5)
theorem x_icmp_gt {l : Launch} {E : En} {cc : ByteArray} {own nm : String} {nL : Nat} {R : Room} {ret : Option FieldType} {Fn : Ft} {J : Jt} (O : Ok l E cc own nm nL R ret Fn J) {pc : Nat} {x y : Int32} {off : Int} (tgt : Nat) {P : HP} {ce sl : Nat} {lv : LV} {st : List Value} (d : decode cc pc = .ok (.if_icmp .gt off, 3)) (ht : (pc : Int) + off = (tgt : Int)) (kt : y < x → J P ce sl tgt lv st) (kf : ¬ y < x → J P ce sl (pc + 3) lv st) : J P ce sl pc lv (.int y :: .int x :: st) := by
  obtain ⟨p, e, s, m, args, below, meth, c, A, Q, rfl, hx, hb, C⟩ := O
  intro H locs ls ws h1 h2 h3 h4 h5
  exact lv_icmp_gt hx hb d ht (fun q => kt q H locs ls ws h1 h2 h3 h4 h5) (fun q => kf q H locs ls ws h1 h2 h3 h4 h5)
theorem x_if_le {l : Launch} {E : En} {cc : ByteArray} {own nm : String} {nL : Nat} {R : Room} {ret : Option FieldType} {Fn : Ft} {J : Jt} (O : Ok l E cc own nm nL R ret Fn J) {pc : Nat} {x : Int32} {off : Int} (tgt : Nat) {P : HP} {ce sl : Nat} {lv : LV} {st : List Value} (d : decode cc pc = .ok (.ifCond .le off, 3)) (ht : (pc : Int) + off = (tgt : Int)) (kt : x ≤ 0 → J P ce sl tgt lv st) (kf : ¬ x ≤ 0 → J P ce sl (pc + 3) lv st) : J P ce sl pc lv (.int x :: st) := by
  obtain ⟨p, e, s, m, args, below, meth, c, A, Q, rfl, hx, hb, C⟩ := O
  intro H locs ls ws h1 h2 h3 h4 h5
  exact lv_if_le hx hb d ht (fun q => kt q H locs ls ws h1 h2 h3 h4 h5) (fun q => kf q H locs ls ws h1 h2 h3 h4 h5)
theorem x_icmp_le {l : Launch} {E : En} {cc : ByteArray} {own nm : String} {nL : Nat} {R : Room} {ret : Option FieldType} {Fn : Ft} {J : Jt} (O : Ok l E cc own nm nL R ret Fn J) {pc : Nat} {x y : Int32} {off : Int} (tgt : Nat) {P : HP} {ce sl : Nat} {lv : LV} {st : List Value} (d : decode cc pc = .ok (.if_icmp .le off, 3)) (ht : (pc : Int) + off = (tgt : Int)) (kt : x ≤ y → J P ce sl tgt lv st) (kf : ¬ x ≤ y → J P ce sl (pc + 3) lv st) : J P ce sl pc lv (.int y :: .int x :: st) := by
  obtain ⟨p, e, s, m, args, below, meth, c, A, Q, rfl, hx, hb, C⟩ := O
  intro H locs ls ws h1 h2 h3 h4 h5
  exact lv_icmp_le hx hb d ht (fun q => kt q H locs ls ws h1 h2 h3 h4 h5) (fun q => kf q H locs ls ws h1 h2 h3 h4 h5)
theorem x_goto {l : Launch} {E : En} {cc : ByteArray} {own nm : String} {nL : Nat} {R : Room} {ret : Option FieldType} {Fn : Ft} {J : Jt} (O : Ok l E cc own nm nL R ret Fn J) {pc : Nat}  {off : Int} (tgt : Nat) {P : HP} {ce sl : Nat} {lv : LV} {st : List Value} (d : decode cc pc = .ok (.goto off, 3)) (ht : (pc : Int) + off = (tgt : Int)) (k : J P ce sl tgt lv st) : J P ce sl pc lv st := by
  obtain ⟨p, e, s, m, args, below, meth, c, A, Q, rfl, hx, hb, C⟩ := O
  intro H locs ls ws h1 h2 h3 h4 h5
  exact lv_goto hx hb d ht (k H locs ls ws h1 h2 h3 h4 h5)
theorem x_ifnull {l : Launch} {E : En} {cc : ByteArray} {own nm : String} {nL : Nat} {R : Room} {ret : Option FieldType} {Fn : Ft} {J : Jt} (O : Ok l E cc own nm nL R ret Fn J) {pc : Nat} {x : Nat} {off : Int} {P : HP} {ce sl : Nat} {lv : LV} {st : List Value} (d : decode cc pc = .ok (.ifnull off, 3)) (k : J P ce sl (pc + 3) lv st) : J P ce sl pc lv (.ref x :: st) := by
  obtain ⟨p, e, s, m, args, below, meth, c, A, Q, rfl, hx, hb, C⟩ := O
  intro H locs ls ws h1 h2 h3 h4 h5
  exact lv_ifnull hx hb d (k H locs ls ws h1 h2 h3 h4 h5)
theorem x_ifnullN {l : Launch} {E : En} {cc : ByteArray} {own nm : String} {nL : Nat} {R : Room} {ret : Option FieldType} {Fn : Ft} {J : Jt} (O : Ok l E cc own nm nL R ret Fn J) {pc : Nat}  {off : Int} (tgt : Nat) {P : HP} {ce sl : Nat} {lv : LV} {st : List Value} (d : decode cc pc = .ok (.ifnull off, 3)) (ht : (pc : Int) + off = (tgt : Int)) (k : J P ce sl tgt lv st) : J P ce sl pc lv (.null :: st) := by
  obtain ⟨p, e, s, m, args, below, meth, c, A, Q, rfl, hx, hb, C⟩ := O
  intro H locs ls ws h1 h2 h3 h4 h5
  exact lv_ifnullN hx hb d ht (k H locs ls ws h1 h2 h3 h4 h5)
theorem x_ifnonnull {l : Launch} {E : En} {cc : ByteArray} {own nm : String} {nL : Nat} {R : Room} {ret : Option FieldType} {Fn : Ft} {J : Jt} (O : Ok l E cc own nm nL R ret Fn J) {pc : Nat} {x : Nat} {off : Int} (tgt : Nat) {P : HP} {ce sl : Nat} {lv : LV} {st : List Value} (d : decode cc pc = .ok (.ifnonnull off, 3)) (ht : (pc : Int) + off = (tgt : Int)) (k : J P ce sl tgt lv st) : J P ce sl pc lv (.ref x :: st) := by
  obtain ⟨p, e, s, m, args, below, meth, c, A, Q, rfl, hx, hb, C⟩ := O
  intro H locs ls ws h1 h2 h3 h4 h5
  exact lv_ifnonnull hx hb d ht (k H locs ls ws h1 h2 h3 h4 h5)
theorem x_ifnonnullN {l : Launch} {E : En} {cc : ByteArray} {own nm : String} {nL : Nat} {R : Room} {ret : Option FieldType} {Fn : Ft} {J : Jt} (O : Ok l E cc own nm nL R ret Fn J) {pc : Nat}  {off : Int} {P : HP} {ce sl : Nat} {lv : LV} {st : List Value} (d : decode cc pc = .ok (.ifnonnull off, 3)) (k : J P ce sl (pc + 3) lv st) : J P ce sl pc lv (.null :: st) := by
  obtain ⟨p, e, s, m, args, below, meth, c, A, Q, rfl, hx, hb, C⟩ := O
  intro H locs ls ws h1 h2 h3 h4 h5
  exact lv_ifnonnullN hx hb d (k H locs ls ws h1 h2 h3 h4 h5)
theorem x_tout {l : Launch} {E : En} {cc : ByteArray} {own nm : String} {nL : Nat} {R : Room} {ret : Option FieldType} {Fn : Ft} {J : Jt} (O : Ok l E cc own nm nL R ret Fn J) {pc len : Nat} {dflt lo hi : Int} {offs : Array Int} {x : Int32} (tgt : Nat) {P : HP} {ce sl : Nat} {lv : LV} {st : List Value} (d : decode cc pc = .ok (.tableswitch dflt lo hi offs, len)) (h : x.toInt < lo ∨ hi < x.toInt) (ht : (pc : Int) + dflt = (tgt : Int)) (k : J P ce sl tgt lv st) : J P ce sl pc lv (.int x :: st) := by
  obtain ⟨p, e, s, m, args, below, meth, c, A, Q, rfl, hx, hb, C⟩ := O
  intro H locs ls ws h1 h2 h3 h4 h5
  exact lv_tableOut hx hb d h ht (k H locs ls ws h1 h2 h3 h4 h5)
theorem x_tin {l : Launch} {E : En} {cc : ByteArray} {own nm : String} {nL : Nat} {R : Room} {ret : Option FieldType} {Fn : Ft} {J : Jt} (O : Ok l E cc own nm nL R ret Fn J) {pc len : Nat} {dflt lo hi : Int} {offs : Array Int} {x : Int32} {off : Int} (tgt : Nat) {P : HP} {ce sl : Nat} {lv : LV} {st : List Value} (d : decode cc pc = .ok (.tableswitch dflt lo hi offs, len)) (q1 : ¬ x.toInt < lo) (q2 : ¬ hi < x.toInt) (ho : offs[(x.toInt - lo).toNat]? = some off) (ht : (pc : Int) + off = (tgt : Int)) (k : J P ce sl tgt lv st) : J P ce sl pc lv (.int x :: st) := by
  obtain ⟨p, e, s, m, args, below, meth, c, A, Q, rfl, hx, hb, C⟩ := O
  intro H locs ls ws h1 h2 h3 h4 h5
  exact lv_tableIn hx hb d q1 q2 ho ht (k H locs ls ws h1 h2 h3 h4 h5)
theorem x_ldc {l : Launch} {E : En} {cc : ByteArray} {own nm : String} {nL : Nat} {R : Room} {ret : Option FieldType} {Fn : Ft} {J : Jt} (O : Ok l E cc own nm nL R ret Fn J) {pc index : Nat} {v : Int32} {P : HP} {ce sl : Nat} {lv : LV} {st : List Value} (d : decode cc pc = .ok (.ldc index, 2)) (hc : Cond.constant own index v ∈ wsL_law) (k : J P ce sl (pc + 2) lv (.int v :: st)) : J P ce sl pc lv st := by
  obtain ⟨p, e, s, m, args, below, meth, c, A, Q, rfl, hx, hb, hml, hown, hts, C⟩ := O
  intro H locs ls ws h1 h2 h3 h4 h5
  exact lv_ldc hx hb hown (hts _ hc) d (k H locs ls ws h1 h2 h3 h4 h5)
theorem x_ldc2 {l : Launch} {E : En} {cc : ByteArray} {own nm : String} {nL : Nat} {R : Room} {ret : Option FieldType} {Fn : Ft} {J : Jt} (O : Ok l E cc own nm nL R ret Fn J) {pc index : Nat} {v : Int64} {P : HP} {ce sl : Nat} {lv : LV} {st : List Value} (d : decode cc pc = .ok (.ldc2_w index, 3)) (hc : Cond.constantLong own index v ∈ wsL_law) (k : J P ce sl (pc + 3) lv (.long v :: st)) : J P ce sl pc lv st := by
  obtain ⟨p, e, s, m, args, below, meth, c, A, Q, rfl, hx, hb, hml, hown, hts, C⟩ := O
  intro H locs ls ws h1 h2 h3 h4 h5
  exact lv_ldc2 hx hb hown (hts _ hc) d (k H locs ls ws h1 h2 h3 h4 h5)
theorem x_ret {l : Launch} {E : En} {cc : ByteArray} {own nm : String} {nL : Nat} {R : Room} {ret : Option FieldType} {Fn : Ft} {J : Jt} (O : Ok l E cc own nm nL R ret Fn J) {pc : Nat} {v : Option Value} {P : HP} {ce sl : Nat} {lv : LV} {st : List Value} (d : decode cc pc = .ok (retI v, 1)) (hst : st = v.toList) (hr : retOk ret v) (k : Fn v P ce sl) : J P ce sl pc lv st := by
  obtain ⟨p, e, s, m, args, below, meth, c, A, Q, rfl, hx, hb, hml, hown, hts, hK, hA, hnm, hret⟩ := O
  subst hst
  exact hret v P ce sl pc lv k hr d
theorem x_mono {l : Launch} {E : En} {cc : ByteArray} {own nm : String} {nL : Nat} {R : Room} {ret : Option FieldType} {Fn : Ft} {J : Jt} (O : Ok l E cc own nm nL R ret Fn J) {pc : Nat} {P P' : HP} {ce sl ce' sl' : Nat} {lv lv' : LV} {st : List Value} (k : J P' ce' sl' pc lv' st) (hP : ∀ h, P h → P' h) (hl : lvle lv' lv) (hc : ce ≤ ce') (hs : sl ≤ sl') : J P ce sl pc lv st := by
  obtain ⟨p, e, s, m, args, below, meth, c, A, Q, rfl, C⟩ := O
  intro H locs ls ws h1 h2 h3 h4 h5
  exact W.widen hc hs (k H locs ls ws h1 h2 (hP _ h3) h4 (lvs_le h5 hl))
theorem x_imp {l : Launch} {E : En} {cc : ByteArray} {own nm : String} {nL : Nat} {R : Room} {ret : Option FieldType} {Fn : Ft} {J : Jt} (O : Ok l E cc own nm nL R ret Fn J) {pc : Nat} {P P' : HP} {ce sl : Nat} {lv : LV} {st : List Value} (hP : ∀ h, P h → P' h) (k : J P' ce sl pc lv st) : J P ce sl pc lv st := by
  obtain ⟨p, e, s, m, args, below, meth, c, A, Q, rfl, C⟩ := O
  intro H locs ls ws h1 h2 h3 h4 h5
  exact k H locs ls ws h1 h2 (hP _ h3) h4 h5
theorem x_pure {l : Launch} {E : En} {cc : ByteArray} {own nm : String} {nL : Nat} {R : Room} {ret : Option FieldType} {Fn : Ft} {J : Jt} (O : Ok l E cc own nm nL R ret Fn J) {pc : Nat} {φ : Prop} {P : HP} {ce sl : Nat} {lv : LV} {st : List Value} (k : φ → J P ce sl pc lv st) : J (fun h => φ ∧ P h) ce sl pc lv st := by
  obtain ⟨p, e, s, m, args, below, meth, c, A, Q, rfl, C⟩ := O
  intro H locs ls ws h1 h2 h3 h4 h5
  exact k h3.1 H locs ls ws h1 h2 h3.2 h4 h5
theorem x_ex {l : Launch} {E : En} {cc : ByteArray} {own nm : String} {nL : Nat} {R : Room} {ret : Option FieldType} {Fn : Ft} {J : Jt} (O : Ok l E cc own nm nL R ret Fn J) {pc : Nat} {X : Type} {P : X → HP} {ce sl : Nat} {lv : LV} {st : List Value} (k : ∀ x, J (P x) ce sl pc lv st) : J (fun h => ∃ x, P x h) ce sl pc lv st := by
  obtain ⟨p, e, s, m, args, below, meth, c, A, Q, rfl, C⟩ := O
  intro H locs ls ws h1 h2 h3 h4 h5
  obtain ⟨x, h3⟩ := h3
  exact k x H locs ls ws h1 h2 h3 h4 h5
theorem x_fact {l : Launch} {E : En} {cc : ByteArray} {own nm : String} {nL : Nat} {R : Room} {ret : Option FieldType} {Fn : Ft} {J : Jt} (O : Ok l E cc own nm nL R ret Fn J) {pc : Nat} {φ : Prop} {P : HP} {ce sl : Nat} {lv : LV} {st : List Value} (hφ : ∀ h, P h → φ) (k : φ → J P ce sl pc lv st) : J P ce sl pc lv st := by
  obtain ⟨p, e, s, m, args, below, meth, c, A, Q, rfl, C⟩ := O
  intro H locs ls ws h1 h2 h3 h4 h5
  exact k (hφ _ h3) H locs ls ws h1 h2 h3 h4 h5
theorem x_widen {l : Launch} {E : En} {cc : ByteArray} {own nm : String} {nL : Nat} {R : Room} {ret : Option FieldType} {Fn : Ft} {J : Jt} (O : Ok l E cc own nm nL R ret Fn J) {pc : Nat} {P : HP} {ce sl ce' sl' : Nat} {lv : LV} {st : List Value} (hc : ce ≤ ce') (hs : sl ≤ sl') (k : J P ce' sl' pc lv st) : J P ce sl pc lv st := by
  obtain ⟨p, e, s, m, args, below, meth, c, A, Q, rfl, C⟩ := O
  intro H locs ls ws h1 h2 h3 h4 h5
  exact W.widen hc hs (k H locs ls ws h1 h2 h3 h4 h5)
theorem x_lv {l : Launch} {E : En} {cc : ByteArray} {own nm : String} {nL : Nat} {R : Room} {ret : Option FieldType} {Fn : Ft} {J : Jt} (O : Ok l E cc own nm nL R ret Fn J) {pc : Nat} {P : HP} {ce sl : Nat} {lv : LV} (lv' : LV) {st : List Value} (hl : lvleB lv' lv) (k : J P ce sl pc lv' st) : J P ce sl pc lv st := by
  obtain ⟨p, e, s, m, args, below, meth, c, A, Q, rfl, C⟩ := O
  intro H locs ls ws h1 h2 h3 h4 h5
  exact k H locs ls ws h1 h2 h3 h4 (lvs_le h5 (lvle_of hl))
end
section
/-! ===== LINKS: where each word stands in wsL_law ===== -/
def lw_core : List Cond := (wsL_law_r1 ++ (wsL_law_r2 ++ (wsL_law_r3 ++ (wsL_law_r4 ++ (wsL_law_r5 ++ (wsL_law_r6 ++ (wsL_law_r7 ++ (wsL_law_r8 ++ (wsL_law_r9 ++ (wsL_law_r10 ++ (wsL_law_r11 ++ (wsL_law_r12 ++ (wsL_law_r13 ++ (wsL_law_r14 ++ (wsL_law_r15 ++ (wsL_law_r16 ++ (wsL_law_r17 ++ (wsL_law_r18 ++ (wsL_law_r19 ++ (wsL_law_r20 ++ (wsL_law_r21 ++ (wsL_law_r22 ++ (wsL_law_r23 ++ (wsL_law_r24 ++ (wsL_law_r25 ++ wsL_law_r26)))))))))))))))))))))))))
theorem lw_core_in : ∀ w ∈ lw_core, w ∈ wsL_law := fun _ h => List.mem_append_left _ (List.mem_append_left _ (List.mem_append_left _ (List.mem_append_left _ (List.mem_append_left _ (List.mem_append_left _ (List.mem_append_left _ (List.mem_append_left _ (List.mem_append_left _ (List.mem_append_left _ (h))))))))))
theorem lr_1 : ∀ w ∈ wsL_law_r1, w ∈ wsL_law := fun w h => lw_core_in w (List.mem_append_left _ h)
theorem lr_2 : ∀ w ∈ wsL_law_r2, w ∈ wsL_law := fun w h => lw_core_in w (List.mem_append_right _ (List.mem_append_left _ h))
theorem lr_3 : ∀ w ∈ wsL_law_r3, w ∈ wsL_law := fun w h => lw_core_in w (List.mem_append_right _ (List.mem_append_right _ (List.mem_append_left _ h)))
theorem lr_4 : ∀ w ∈ wsL_law_r4, w ∈ wsL_law := fun w h => lw_core_in w (List.mem_append_right _ (List.mem_append_right _ (List.mem_append_right _ (List.mem_append_left _ h))))
theorem lr_5 : ∀ w ∈ wsL_law_r5, w ∈ wsL_law := fun w h => lw_core_in w (List.mem_append_right _ (List.mem_append_right _ (List.mem_append_right _ (List.mem_append_right _ (List.mem_append_left _ h)))))
theorem lr_6 : ∀ w ∈ wsL_law_r6, w ∈ wsL_law := fun w h => lw_core_in w (List.mem_append_right _ (List.mem_append_right _ (List.mem_append_right _ (List.mem_append_right _ (List.mem_append_right _ (List.mem_append_left _ h))))))
theorem lr_7 : ∀ w ∈ wsL_law_r7, w ∈ wsL_law := fun w h => lw_core_in w (List.mem_append_right _ (List.mem_append_right _ (List.mem_append_right _ (List.mem_append_right _ (List.mem_append_right _ (List.mem_append_right _ (List.mem_append_left _ h)))))))
theorem lr_8 : ∀ w ∈ wsL_law_r8, w ∈ wsL_law := fun w h => lw_core_in w (List.mem_append_right _ (List.mem_append_right _ (List.mem_append_right _ (List.mem_append_right _ (List.mem_append_right _ (List.mem_append_right _ (List.mem_append_right _ (List.mem_append_left _ h))))))))
theorem lr_9 : ∀ w ∈ wsL_law_r9, w ∈ wsL_law := fun w h => lw_core_in w (List.mem_append_right _ (List.mem_append_right _ (List.mem_append_right _ (List.mem_append_right _ (List.mem_append_right _ (List.mem_append_right _ (List.mem_append_right _ (List.mem_append_right _ (List.mem_append_left _ h)))))))))
theorem lr_10 : ∀ w ∈ wsL_law_r10, w ∈ wsL_law := fun w h => lw_core_in w (List.mem_append_right _ (List.mem_append_right _ (List.mem_append_right _ (List.mem_append_right _ (List.mem_append_right _ (List.mem_append_right _ (List.mem_append_right _ (List.mem_append_right _ (List.mem_append_right _ (List.mem_append_left _ h))))))))))
theorem lr_11 : ∀ w ∈ wsL_law_r11, w ∈ wsL_law := fun w h => lw_core_in w (List.mem_append_right _ (List.mem_append_right _ (List.mem_append_right _ (List.mem_append_right _ (List.mem_append_right _ (List.mem_append_right _ (List.mem_append_right _ (List.mem_append_right _ (List.mem_append_right _ (List.mem_append_right _ (List.mem_append_left _ h)))))))))))
theorem lr_12 : ∀ w ∈ wsL_law_r12, w ∈ wsL_law := fun w h => lw_core_in w (List.mem_append_right _ (List.mem_append_right _ (List.mem_append_right _ (List.mem_append_right _ (List.mem_append_right _ (List.mem_append_right _ (List.mem_append_right _ (List.mem_append_right _ (List.mem_append_right _ (List.mem_append_right _ (List.mem_append_right _ (List.mem_append_left _ h))))))))))))
theorem lr_13 : ∀ w ∈ wsL_law_r13, w ∈ wsL_law := fun w h => lw_core_in w (List.mem_append_right _ (List.mem_append_right _ (List.mem_append_right _ (List.mem_append_right _ (List.mem_append_right _ (List.mem_append_right _ (List.mem_append_right _ (List.mem_append_right _ (List.mem_append_right _ (List.mem_append_right _ (List.mem_append_right _ (List.mem_append_right _ (List.mem_append_left _ h)))))))))))))
theorem lr_14 : ∀ w ∈ wsL_law_r14, w ∈ wsL_law := fun w h => lw_core_in w (List.mem_append_right _ (List.mem_append_right _ (List.mem_append_right _ (List.mem_append_right _ (List.mem_append_right _ (List.mem_append_right _ (List.mem_append_right _ (List.mem_append_right _ (List.mem_append_right _ (List.mem_append_right _ (List.mem_append_right _ (List.mem_append_right _ (List.mem_append_right _ (List.mem_append_left _ h))))))))))))))
theorem lr_15 : ∀ w ∈ wsL_law_r15, w ∈ wsL_law := fun w h => lw_core_in w (List.mem_append_right _ (List.mem_append_right _ (List.mem_append_right _ (List.mem_append_right _ (List.mem_append_right _ (List.mem_append_right _ (List.mem_append_right _ (List.mem_append_right _ (List.mem_append_right _ (List.mem_append_right _ (List.mem_append_right _ (List.mem_append_right _ (List.mem_append_right _ (List.mem_append_right _ (List.mem_append_left _ h)))))))))))))))
theorem lr_16 : ∀ w ∈ wsL_law_r16, w ∈ wsL_law := fun w h => lw_core_in w (List.mem_append_right _ (List.mem_append_right _ (List.mem_append_right _ (List.mem_append_right _ (List.mem_append_right _ (List.mem_append_right _ (List.mem_append_right _ (List.mem_append_right _ (List.mem_append_right _ (List.mem_append_right _ (List.mem_append_right _ (List.mem_append_right _ (List.mem_append_right _ (List.mem_append_right _ (List.mem_append_right _ (List.mem_append_left _ h))))))))))))))))
theorem lr_17 : ∀ w ∈ wsL_law_r17, w ∈ wsL_law := fun w h => lw_core_in w (List.mem_append_right _ (List.mem_append_right _ (List.mem_append_right _ (List.mem_append_right _ (List.mem_append_right _ (List.mem_append_right _ (List.mem_append_right _ (List.mem_append_right _ (List.mem_append_right _ (List.mem_append_right _ (List.mem_append_right _ (List.mem_append_right _ (List.mem_append_right _ (List.mem_append_right _ (List.mem_append_right _ (List.mem_append_right _ (List.mem_append_left _ h)))))))))))))))))
theorem lr_18 : ∀ w ∈ wsL_law_r18, w ∈ wsL_law := fun w h => lw_core_in w (List.mem_append_right _ (List.mem_append_right _ (List.mem_append_right _ (List.mem_append_right _ (List.mem_append_right _ (List.mem_append_right _ (List.mem_append_right _ (List.mem_append_right _ (List.mem_append_right _ (List.mem_append_right _ (List.mem_append_right _ (List.mem_append_right _ (List.mem_append_right _ (List.mem_append_right _ (List.mem_append_right _ (List.mem_append_right _ (List.mem_append_right _ (List.mem_append_left _ h))))))))))))))))))
theorem lr_19 : ∀ w ∈ wsL_law_r19, w ∈ wsL_law := fun w h => lw_core_in w (List.mem_append_right _ (List.mem_append_right _ (List.mem_append_right _ (List.mem_append_right _ (List.mem_append_right _ (List.mem_append_right _ (List.mem_append_right _ (List.mem_append_right _ (List.mem_append_right _ (List.mem_append_right _ (List.mem_append_right _ (List.mem_append_right _ (List.mem_append_right _ (List.mem_append_right _ (List.mem_append_right _ (List.mem_append_right _ (List.mem_append_right _ (List.mem_append_right _ (List.mem_append_left _ h)))))))))))))))))))
theorem lr_20 : ∀ w ∈ wsL_law_r20, w ∈ wsL_law := fun w h => lw_core_in w (List.mem_append_right _ (List.mem_append_right _ (List.mem_append_right _ (List.mem_append_right _ (List.mem_append_right _ (List.mem_append_right _ (List.mem_append_right _ (List.mem_append_right _ (List.mem_append_right _ (List.mem_append_right _ (List.mem_append_right _ (List.mem_append_right _ (List.mem_append_right _ (List.mem_append_right _ (List.mem_append_right _ (List.mem_append_right _ (List.mem_append_right _ (List.mem_append_right _ (List.mem_append_right _ (List.mem_append_left _ h))))))))))))))))))))
theorem lr_21 : ∀ w ∈ wsL_law_r21, w ∈ wsL_law := fun w h => lw_core_in w (List.mem_append_right _ (List.mem_append_right _ (List.mem_append_right _ (List.mem_append_right _ (List.mem_append_right _ (List.mem_append_right _ (List.mem_append_right _ (List.mem_append_right _ (List.mem_append_right _ (List.mem_append_right _ (List.mem_append_right _ (List.mem_append_right _ (List.mem_append_right _ (List.mem_append_right _ (List.mem_append_right _ (List.mem_append_right _ (List.mem_append_right _ (List.mem_append_right _ (List.mem_append_right _ (List.mem_append_right _ (List.mem_append_left _ h)))))))))))))))))))))
theorem lr_22 : ∀ w ∈ wsL_law_r22, w ∈ wsL_law := fun w h => lw_core_in w (List.mem_append_right _ (List.mem_append_right _ (List.mem_append_right _ (List.mem_append_right _ (List.mem_append_right _ (List.mem_append_right _ (List.mem_append_right _ (List.mem_append_right _ (List.mem_append_right _ (List.mem_append_right _ (List.mem_append_right _ (List.mem_append_right _ (List.mem_append_right _ (List.mem_append_right _ (List.mem_append_right _ (List.mem_append_right _ (List.mem_append_right _ (List.mem_append_right _ (List.mem_append_right _ (List.mem_append_right _ (List.mem_append_right _ (List.mem_append_left _ h))))))))))))))))))))))
theorem lr_23 : ∀ w ∈ wsL_law_r23, w ∈ wsL_law := fun w h => lw_core_in w (List.mem_append_right _ (List.mem_append_right _ (List.mem_append_right _ (List.mem_append_right _ (List.mem_append_right _ (List.mem_append_right _ (List.mem_append_right _ (List.mem_append_right _ (List.mem_append_right _ (List.mem_append_right _ (List.mem_append_right _ (List.mem_append_right _ (List.mem_append_right _ (List.mem_append_right _ (List.mem_append_right _ (List.mem_append_right _ (List.mem_append_right _ (List.mem_append_right _ (List.mem_append_right _ (List.mem_append_right _ (List.mem_append_right _ (List.mem_append_right _ (List.mem_append_left _ h)))))))))))))))))))))))
theorem lr_24 : ∀ w ∈ wsL_law_r24, w ∈ wsL_law := fun w h => lw_core_in w (List.mem_append_right _ (List.mem_append_right _ (List.mem_append_right _ (List.mem_append_right _ (List.mem_append_right _ (List.mem_append_right _ (List.mem_append_right _ (List.mem_append_right _ (List.mem_append_right _ (List.mem_append_right _ (List.mem_append_right _ (List.mem_append_right _ (List.mem_append_right _ (List.mem_append_right _ (List.mem_append_right _ (List.mem_append_right _ (List.mem_append_right _ (List.mem_append_right _ (List.mem_append_right _ (List.mem_append_right _ (List.mem_append_right _ (List.mem_append_right _ (List.mem_append_right _ (List.mem_append_left _ h))))))))))))))))))))))))
theorem lr_25 : ∀ w ∈ wsL_law_r25, w ∈ wsL_law := fun w h => lw_core_in w (List.mem_append_right _ (List.mem_append_right _ (List.mem_append_right _ (List.mem_append_right _ (List.mem_append_right _ (List.mem_append_right _ (List.mem_append_right _ (List.mem_append_right _ (List.mem_append_right _ (List.mem_append_right _ (List.mem_append_right _ (List.mem_append_right _ (List.mem_append_right _ (List.mem_append_right _ (List.mem_append_right _ (List.mem_append_right _ (List.mem_append_right _ (List.mem_append_right _ (List.mem_append_right _ (List.mem_append_right _ (List.mem_append_right _ (List.mem_append_right _ (List.mem_append_right _ (List.mem_append_right _ (List.mem_append_left _ h)))))))))))))))))))))))))
theorem lr_26 : ∀ w ∈ wsL_law_r26, w ∈ wsL_law := fun w h => lw_core_in w (List.mem_append_right _ (List.mem_append_right _ (List.mem_append_right _ (List.mem_append_right _ (List.mem_append_right _ (List.mem_append_right _ (List.mem_append_right _ (List.mem_append_right _ (List.mem_append_right _ (List.mem_append_right _ (List.mem_append_right _ (List.mem_append_right _ (List.mem_append_right _ (List.mem_append_right _ (List.mem_append_right _ (List.mem_append_right _ (List.mem_append_right _ (List.mem_append_right _ (List.mem_append_right _ (List.mem_append_right _ (List.mem_append_right _ (List.mem_append_right _ (List.mem_append_right _ (List.mem_append_right _ (List.mem_append_right _ (h))))))))))))))))))))))))))
def FD (own : String) (index ci k : Nat) : Prop := ∃ (C : String) (T : u_T) (N : Nat), vwCl[ci]? = some (C, T, N) ∧ k < N ∧ Cond.fieldLink own index (T k).1 (T k).2.1 (T k).2.2.1 ∈ wsL_law ∧ ∀ w ∈ u_ws C T N, w ∈ wsL_law
def FP (own : String) (index ci k : Nat) (ty : FieldType) (fin : Bool) : Prop := ∃ (C : String) (T : u_T) (N : Nat) (ty0 : Nat → FieldType), vwCl[ci]? = some (C, T, N) ∧ k < N ∧ Cond.fieldLink own index (T k).1 (T k).2.1 (T k).2.2.1 ∈ wsL_law ∧ (∀ w ∈ u_ws C T N, w ∈ wsL_law) ∧ (∀ k, k < N → parseFieldDescriptor (T k).2.2.1 = some (ty0 k)) ∧ (∀ a, a < N → ∀ b, b < N → a ≠ b → (T a).2.1 ≠ (T b).2.1) ∧ (T k).2.2.2 = fin ∧ parseFieldDescriptor (T k).2.2.1 = some ty ∧ (fin = true → (T k).1 = own)
def CB (own : String) (index : Nat) (y : MethodName) (bytes : ByteArray) (maxL : Nat) (ret : Option FieldType) (n : Nat) : Prop := Cond.methodLink own index y ∈ wsL_law ∧ Cond.initialized y.cls ∈ wsL_law ∧ Cond.code y bytes maxL ret ∈ wsL_law ∧ y.cls ≠ "java/lang/invoke/MethodHandle" ∧ y.cls ≠ "java/lang/invoke/VarHandle" ∧ (parseMethodDescriptor y.desc).map (fun d => d.parameters.length) = some n
theorem fdX7_9 : FD RX7 9 7 0 := ⟨RX7, TX7, 9, rfl, by decide, (lr_1 _ (List.mem_of_getElem? (i := 12) rfl)), inlX7⟩
theorem fpX7_9 : FP RX7 9 7 0 (.int) false := ⟨RX7, TX7, 9, tyX7, rfl, by decide, (lr_1 _ (List.mem_of_getElem? (i := 12) rfl)), inlX7, tyX7_ok, nmX7, rfl, by decide +kernel, fun h => by cases h⟩
theorem fdX7_18 : FD RX7 18 7 1 := ⟨RX7, TX7, 9, rfl, by decide, (lr_1 _ (List.mem_of_getElem? (i := 16) rfl)), inlX7⟩
theorem fpX7_18 : FP RX7 18 7 1 (.object "ManorRolls$Custom") false := ⟨RX7, TX7, 9, tyX7, rfl, by decide, (lr_1 _ (List.mem_of_getElem? (i := 16) rfl)), inlX7, tyX7_ok, nmX7, rfl, by decide +kernel, fun h => by cases h⟩
theorem fdX7_22 : FD RX7 22 7 2 := ⟨RX7, TX7, 9, rfl, by decide, (lr_1 _ (List.mem_of_getElem? (i := 17) rfl)), inlX7⟩
theorem fpX7_22 : FP RX7 22 7 2 (.int) false := ⟨RX7, TX7, 9, tyX7, rfl, by decide, (lr_1 _ (List.mem_of_getElem? (i := 17) rfl)), inlX7, tyX7_ok, nmX7, rfl, by decide +kernel, fun h => by cases h⟩
theorem fdX7_28 : FD RX7 28 7 3 := ⟨RX7, TX7, 9, rfl, by decide, (lr_1 _ (List.mem_of_getElem? (i := 21) rfl)), inlX7⟩
theorem fpX7_28 : FP RX7 28 7 3 (.object "ManorRolls$People") true := ⟨RX7, TX7, 9, tyX7, rfl, by decide, (lr_1 _ (List.mem_of_getElem? (i := 21) rfl)), inlX7, tyX7_ok, nmX7, rfl, by decide +kernel, fun _ => rfl⟩
theorem fdX7_35 : FD RX7 35 7 4 := ⟨RX7, TX7, 9, rfl, by decide, (lr_2 _ (List.mem_of_getElem? (i := 1) rfl)), inlX7⟩
theorem fpX7_35 : FP RX7 35 7 4 (.object "ManorRolls$Land") true := ⟨RX7, TX7, 9, tyX7, rfl, by decide, (lr_2 _ (List.mem_of_getElem? (i := 1) rfl)), inlX7, tyX7_ok, nmX7, rfl, by decide +kernel, fun _ => rfl⟩
theorem fdX7_44 : FD RX7 44 7 5 := ⟨RX7, TX7, 9, rfl, by decide, (lr_2 _ (List.mem_of_getElem? (i := 5) rfl)), inlX7⟩
theorem fpX7_44 : FP RX7 44 7 5 (.object "ManorRolls$Heirs") true := ⟨RX7, TX7, 9, tyX7, rfl, by decide, (lr_2 _ (List.mem_of_getElem? (i := 5) rfl)), inlX7, tyX7_ok, nmX7, rfl, by decide +kernel, fun _ => rfl⟩
theorem fdX7_50 : FD RX7 50 7 6 := ⟨RX7, TX7, 9, rfl, by decide, (lr_2 _ (List.mem_of_getElem? (i := 7) rfl)), inlX7⟩
theorem fpX7_50 : FP RX7 50 7 6 (.array (.object "ManorRolls$Suit")) true := ⟨RX7, TX7, 9, tyX7, rfl, by decide, (lr_2 _ (List.mem_of_getElem? (i := 7) rfl)), inlX7, tyX7_ok, nmX7, rfl, by decide +kernel, fun _ => rfl⟩
theorem fdX7_54 : FD RX7 54 7 7 := ⟨RX7, TX7, 9, rfl, by decide, (lr_2 _ (List.mem_of_getElem? (i := 8) rfl)), inlX7⟩
theorem fpX7_54 : FP RX7 54 7 7 (.int) false := ⟨RX7, TX7, 9, tyX7, rfl, by decide, (lr_2 _ (List.mem_of_getElem? (i := 8) rfl)), inlX7, tyX7_ok, nmX7, rfl, by decide +kernel, fun h => by cases h⟩
theorem fdX7_57 : FD RX7 57 7 8 := ⟨RX7, TX7, 9, rfl, by decide, (lr_2 _ (List.mem_of_getElem? (i := 9) rfl)), inlX7⟩
theorem fpX7_57 : FP RX7 57 7 8 (.int) false := ⟨RX7, TX7, 9, tyX7, rfl, by decide, (lr_2 _ (List.mem_of_getElem? (i := 9) rfl)), inlX7, tyX7_ok, nmX7, rfl, by decide +kernel, fun h => by cases h⟩
theorem fdX0_10 : FD RX0 10 0 0 := ⟨RX0, TX0, 7, rfl, by decide, (lr_2 _ (List.mem_of_getElem? (i := 15) rfl)), inlX0⟩
theorem fpX0_10 : FP RX0 10 0 0 (.int) true := ⟨RX0, TX0, 7, tyX0, rfl, by decide, (lr_2 _ (List.mem_of_getElem? (i := 15) rfl)), inlX0, tyX0_ok, nmX0, rfl, by decide +kernel, fun _ => rfl⟩
theorem fdX0_16 : FD RX0 16 0 1 := ⟨RX0, TX0, 7, rfl, by decide, (lr_2 _ (List.mem_of_getElem? (i := 16) rfl)), inlX0⟩
theorem fpX0_16 : FP RX0 16 0 1 (.int) true := ⟨RX0, TX0, 7, tyX0, rfl, by decide, (lr_2 _ (List.mem_of_getElem? (i := 16) rfl)), inlX0, tyX0_ok, nmX0, rfl, by decide +kernel, fun _ => rfl⟩
theorem fdX0_19 : FD RX0 19 0 2 := ⟨RX0, TX0, 7, rfl, by decide, (lr_2 _ (List.mem_of_getElem? (i := 17) rfl)), inlX0⟩
theorem fpX0_19 : FP RX0 19 0 2 (.int) true := ⟨RX0, TX0, 7, tyX0, rfl, by decide, (lr_2 _ (List.mem_of_getElem? (i := 17) rfl)), inlX0, tyX0_ok, nmX0, rfl, by decide +kernel, fun _ => rfl⟩
theorem fdX0_22 : FD RX0 22 0 3 := ⟨RX0, TX0, 7, rfl, by decide, (lr_2 _ (List.mem_of_getElem? (i := 18) rfl)), inlX0⟩
theorem fpX0_22 : FP RX0 22 0 3 (.int) true := ⟨RX0, TX0, 7, tyX0, rfl, by decide, (lr_2 _ (List.mem_of_getElem? (i := 18) rfl)), inlX0, tyX0_ok, nmX0, rfl, by decide +kernel, fun _ => rfl⟩
theorem fdX0_25 : FD RX0 25 0 4 := ⟨RX0, TX0, 7, rfl, by decide, (lr_2 _ (List.mem_of_getElem? (i := 19) rfl)), inlX0⟩
theorem fpX0_25 : FP RX0 25 0 4 (.int) true := ⟨RX0, TX0, 7, tyX0, rfl, by decide, (lr_2 _ (List.mem_of_getElem? (i := 19) rfl)), inlX0, tyX0_ok, nmX0, rfl, by decide +kernel, fun _ => rfl⟩
theorem fdX0_28 : FD RX0 28 0 5 := ⟨RX0, TX0, 7, rfl, by decide, (lr_2 _ (List.mem_of_getElem? (i := 20) rfl)), inlX0⟩
theorem fpX0_28 : FP RX0 28 0 5 (.int) true := ⟨RX0, TX0, 7, tyX0, rfl, by decide, (lr_2 _ (List.mem_of_getElem? (i := 20) rfl)), inlX0, tyX0_ok, nmX0, rfl, by decide +kernel, fun _ => rfl⟩
theorem fdX0_31 : FD RX0 31 0 6 := ⟨RX0, TX0, 7, rfl, by decide, (lr_2 _ (List.mem_of_getElem? (i := 21) rfl)), inlX0⟩
theorem fpX0_31 : FP RX0 31 0 6 (.int) true := ⟨RX0, TX0, 7, tyX0, rfl, by decide, (lr_2 _ (List.mem_of_getElem? (i := 21) rfl)), inlX0, tyX0_ok, nmX0, rfl, by decide +kernel, fun _ => rfl⟩
theorem fdX3_11 : FD RX3 11 3 0 := ⟨RX3, TX3, 2, rfl, by decide, (lr_3 _ (List.mem_of_getElem? (i := 2) rfl)), inlX3⟩
theorem fpX3_11 : FP RX3 11 3 0 (.array (.object "ManorRolls$Person")) true := ⟨RX3, TX3, 2, tyX3, rfl, by decide, (lr_3 _ (List.mem_of_getElem? (i := 2) rfl)), inlX3, tyX3_ok, nmX3, rfl, by decide +kernel, fun _ => rfl⟩
theorem fdX2_11 : FD RX2 11 2 0 := ⟨RX2, TX2, 4, rfl, by decide, (lr_3 _ (List.mem_of_getElem? (i := 8) rfl)), inlX2⟩
theorem fpX2_11 : FP RX2 11 2 0 (.array (.object "ManorRolls$Right")) true := ⟨RX2, TX2, 4, tyX2, rfl, by decide, (lr_3 _ (List.mem_of_getElem? (i := 8) rfl)), inlX2, tyX2_ok, nmX2, rfl, by decide +kernel, fun _ => rfl⟩
theorem fdX2_17 : FD RX2 17 2 1 := ⟨RX2, TX2, 4, rfl, by decide, (lr_3 _ (List.mem_of_getElem? (i := 9) rfl)), inlX2⟩
theorem fpX2_17 : FP RX2 17 2 1 (.int) false := ⟨RX2, TX2, 4, tyX2, rfl, by decide, (lr_3 _ (List.mem_of_getElem? (i := 9) rfl)), inlX2, tyX2_ok, nmX2, rfl, by decide +kernel, fun h => by cases h⟩
theorem fdX2_21 : FD RX2 21 2 2 := ⟨RX2, TX2, 4, rfl, by decide, (lr_3 _ (List.mem_of_getElem? (i := 11) rfl)), inlX2⟩
theorem fpX2_21 : FP RX2 21 2 2 (.array .int) true := ⟨RX2, TX2, 4, tyX2, rfl, by decide, (lr_3 _ (List.mem_of_getElem? (i := 11) rfl)), inlX2, tyX2_ok, nmX2, rfl, by decide +kernel, fun _ => rfl⟩
theorem fdX5_7 : FD RX5 7 5 0 := ⟨RX5, TX5, 4, rfl, by decide, (lr_3 _ (List.mem_of_getElem? (i := 18) rfl)), inlX5⟩
theorem fpX5_7 : FP RX5 7 5 0 (.int) true := ⟨RX5, TX5, 4, tyX5, rfl, by decide, (lr_3 _ (List.mem_of_getElem? (i := 18) rfl)), inlX5, tyX5_ok, nmX5, rfl, by decide +kernel, fun _ => rfl⟩
theorem fdX5_13 : FD RX5 13 5 1 := ⟨RX5, TX5, 4, rfl, by decide, (lr_3 _ (List.mem_of_getElem? (i := 19) rfl)), inlX5⟩
theorem fpX5_13 : FP RX5 13 5 1 (.int) true := ⟨RX5, TX5, 4, tyX5, rfl, by decide, (lr_3 _ (List.mem_of_getElem? (i := 19) rfl)), inlX5, tyX5_ok, nmX5, rfl, by decide +kernel, fun _ => rfl⟩
theorem fdX5_16 : FD RX5 16 5 2 := ⟨RX5, TX5, 4, rfl, by decide, (lr_3 _ (List.mem_of_getElem? (i := 20) rfl)), inlX5⟩
theorem fpX5_16 : FP RX5 16 5 2 (.int) true := ⟨RX5, TX5, 4, tyX5, rfl, by decide, (lr_3 _ (List.mem_of_getElem? (i := 20) rfl)), inlX5, tyX5_ok, nmX5, rfl, by decide +kernel, fun _ => rfl⟩
theorem fdX5_19 : FD RX5 19 5 3 := ⟨RX5, TX5, 4, rfl, by decide, (lr_3 _ (List.mem_of_getElem? (i := 21) rfl)), inlX5⟩
theorem fpX5_19 : FP RX5 19 5 3 (.object "ManorRolls$Right") true := ⟨RX5, TX5, 4, tyX5, rfl, by decide, (lr_3 _ (List.mem_of_getElem? (i := 21) rfl)), inlX5, tyX5_ok, nmX5, rfl, by decide +kernel, fun _ => rfl⟩
theorem fdX1_9 : FD RX1 9 1 0 := ⟨RX1, TX1, 7, rfl, by decide, (lr_4 _ (List.mem_of_getElem? (i := 2) rfl)), inlX1⟩
theorem fpX1_9 : FP RX1 9 1 0 (.array .int) true := ⟨RX1, TX1, 7, tyX1, rfl, by decide, (lr_4 _ (List.mem_of_getElem? (i := 2) rfl)), inlX1, tyX1_ok, nmX1, rfl, by decide +kernel, fun _ => rfl⟩
theorem fdX1_15 : FD RX1 15 1 2 := ⟨RX1, TX1, 7, rfl, by decide, (lr_4 _ (List.mem_of_getElem? (i := 3) rfl)), inlX1⟩
theorem fpX1_15 : FP RX1 15 1 2 (.array .int) true := ⟨RX1, TX1, 7, tyX1, rfl, by decide, (lr_4 _ (List.mem_of_getElem? (i := 3) rfl)), inlX1, tyX1_ok, nmX1, rfl, by decide +kernel, fun _ => rfl⟩
theorem fdX1_18 : FD RX1 18 1 3 := ⟨RX1, TX1, 7, rfl, by decide, (lr_4 _ (List.mem_of_getElem? (i := 4) rfl)), inlX1⟩
theorem fpX1_18 : FP RX1 18 1 3 (.object "ManorRolls$People") true := ⟨RX1, TX1, 7, tyX1, rfl, by decide, (lr_4 _ (List.mem_of_getElem? (i := 4) rfl)), inlX1, tyX1_ok, nmX1, rfl, by decide +kernel, fun _ => rfl⟩
theorem fdX8_9 : FD RX8 9 8 9 := ⟨RX8, TX8, 44, rfl, by decide, (lr_4 _ (List.mem_of_getElem? (i := 9) rfl)), inlX8⟩
theorem fpX8_9 : FP RX8 9 8 9 (.array .int) true := ⟨RX8, TX8, 44, tyX8, rfl, by decide, (lr_4 _ (List.mem_of_getElem? (i := 9) rfl)), inlX8, tyX8_ok, nmX8, rfl, by decide +kernel, fun _ => rfl⟩
theorem fdX8_13 : FD RX8 13 8 10 := ⟨RX8, TX8, 44, rfl, by decide, (lr_4 _ (List.mem_of_getElem? (i := 10) rfl)), inlX8⟩
theorem fpX8_13 : FP RX8 13 8 10 (.array .int) true := ⟨RX8, TX8, 44, tyX8, rfl, by decide, (lr_4 _ (List.mem_of_getElem? (i := 10) rfl)), inlX8, tyX8_ok, nmX8, rfl, by decide +kernel, fun _ => rfl⟩
theorem fdX8_16 : FD RX8 16 8 11 := ⟨RX8, TX8, 44, rfl, by decide, (lr_4 _ (List.mem_of_getElem? (i := 11) rfl)), inlX8⟩
theorem fpX8_16 : FP RX8 16 8 11 (.array .int) true := ⟨RX8, TX8, 44, tyX8, rfl, by decide, (lr_4 _ (List.mem_of_getElem? (i := 11) rfl)), inlX8, tyX8_ok, nmX8, rfl, by decide +kernel, fun _ => rfl⟩
theorem fdX8_19 : FD RX8 19 8 12 := ⟨RX8, TX8, 44, rfl, by decide, (lr_4 _ (List.mem_of_getElem? (i := 12) rfl)), inlX8⟩
theorem fpX8_19 : FP RX8 19 8 12 (.array .int) true := ⟨RX8, TX8, 44, tyX8, rfl, by decide, (lr_4 _ (List.mem_of_getElem? (i := 12) rfl)), inlX8, tyX8_ok, nmX8, rfl, by decide +kernel, fun _ => rfl⟩
theorem fdX8_22 : FD RX8 22 8 13 := ⟨RX8, TX8, 44, rfl, by decide, (lr_4 _ (List.mem_of_getElem? (i := 13) rfl)), inlX8⟩
theorem fpX8_22 : FP RX8 22 8 13 (.array .int) true := ⟨RX8, TX8, 44, tyX8, rfl, by decide, (lr_4 _ (List.mem_of_getElem? (i := 13) rfl)), inlX8, tyX8_ok, nmX8, rfl, by decide +kernel, fun _ => rfl⟩
theorem fdX8_25 : FD RX8 25 8 14 := ⟨RX8, TX8, 44, rfl, by decide, (lr_4 _ (List.mem_of_getElem? (i := 14) rfl)), inlX8⟩
theorem fpX8_25 : FP RX8 25 8 14 (.array .int) true := ⟨RX8, TX8, 44, tyX8, rfl, by decide, (lr_4 _ (List.mem_of_getElem? (i := 14) rfl)), inlX8, tyX8_ok, nmX8, rfl, by decide +kernel, fun _ => rfl⟩
theorem fdX8_28 : FD RX8 28 8 15 := ⟨RX8, TX8, 44, rfl, by decide, (lr_4 _ (List.mem_of_getElem? (i := 15) rfl)), inlX8⟩
theorem fpX8_28 : FP RX8 28 8 15 (.array .int) true := ⟨RX8, TX8, 44, tyX8, rfl, by decide, (lr_4 _ (List.mem_of_getElem? (i := 15) rfl)), inlX8, tyX8_ok, nmX8, rfl, by decide +kernel, fun _ => rfl⟩
theorem fdX8_31 : FD RX8 31 8 16 := ⟨RX8, TX8, 44, rfl, by decide, (lr_4 _ (List.mem_of_getElem? (i := 16) rfl)), inlX8⟩
theorem fpX8_31 : FP RX8 31 8 16 (.array .int) true := ⟨RX8, TX8, 44, tyX8, rfl, by decide, (lr_4 _ (List.mem_of_getElem? (i := 16) rfl)), inlX8, tyX8_ok, nmX8, rfl, by decide +kernel, fun _ => rfl⟩
theorem fdX8_34 : FD RX8 34 8 17 := ⟨RX8, TX8, 44, rfl, by decide, (lr_4 _ (List.mem_of_getElem? (i := 17) rfl)), inlX8⟩
theorem fpX8_34 : FP RX8 34 8 17 (.array .int) true := ⟨RX8, TX8, 44, tyX8, rfl, by decide, (lr_4 _ (List.mem_of_getElem? (i := 17) rfl)), inlX8, tyX8_ok, nmX8, rfl, by decide +kernel, fun _ => rfl⟩
theorem fdX8_37 : FD RX8 37 8 18 := ⟨RX8, TX8, 44, rfl, by decide, (lr_4 _ (List.mem_of_getElem? (i := 18) rfl)), inlX8⟩
theorem fpX8_37 : FP RX8 37 8 18 (.array .int) true := ⟨RX8, TX8, 44, tyX8, rfl, by decide, (lr_4 _ (List.mem_of_getElem? (i := 18) rfl)), inlX8, tyX8_ok, nmX8, rfl, by decide +kernel, fun _ => rfl⟩
theorem fdX8_40 : FD RX8 40 8 19 := ⟨RX8, TX8, 44, rfl, by decide, (lr_4 _ (List.mem_of_getElem? (i := 19) rfl)), inlX8⟩
theorem fpX8_40 : FP RX8 40 8 19 (.array .int) true := ⟨RX8, TX8, 44, tyX8, rfl, by decide, (lr_4 _ (List.mem_of_getElem? (i := 19) rfl)), inlX8, tyX8_ok, nmX8, rfl, by decide +kernel, fun _ => rfl⟩
theorem fdX8_43 : FD RX8 43 8 20 := ⟨RX8, TX8, 44, rfl, by decide, (lr_4 _ (List.mem_of_getElem? (i := 21) rfl)), inlX8⟩
theorem fpX8_43 : FP RX8 43 8 20 (.array .boolean) true := ⟨RX8, TX8, 44, tyX8, rfl, by decide, (lr_4 _ (List.mem_of_getElem? (i := 21) rfl)), inlX8, tyX8_ok, nmX8, rfl, by decide +kernel, fun _ => rfl⟩
theorem fdX8_47 : FD RX8 47 8 21 := ⟨RX8, TX8, 44, rfl, by decide, (lr_4 _ (List.mem_of_getElem? (i := 22) rfl)), inlX8⟩
theorem fpX8_47 : FP RX8 47 8 21 (.array .boolean) true := ⟨RX8, TX8, 44, tyX8, rfl, by decide, (lr_4 _ (List.mem_of_getElem? (i := 22) rfl)), inlX8, tyX8_ok, nmX8, rfl, by decide +kernel, fun _ => rfl⟩
theorem fdX8_50 : FD RX8 50 8 24 := ⟨RX8, TX8, 44, rfl, by decide, (lr_4 _ (List.mem_of_getElem? (i := 23) rfl)), inlX8⟩
theorem fpX8_50 : FP RX8 50 8 24 (.array .int) false := ⟨RX8, TX8, 44, tyX8, rfl, by decide, (lr_4 _ (List.mem_of_getElem? (i := 23) rfl)), inlX8, tyX8_ok, nmX8, rfl, by decide +kernel, fun h => by cases h⟩
theorem fdX8_53 : FD RX8 53 8 25 := ⟨RX8, TX8, 44, rfl, by decide, (lr_5 _ (List.mem_of_getElem? (i := 0) rfl)), inlX8⟩
theorem fpX8_53 : FP RX8 53 8 25 (.array .int) false := ⟨RX8, TX8, 44, tyX8, rfl, by decide, (lr_5 _ (List.mem_of_getElem? (i := 0) rfl)), inlX8, tyX8_ok, nmX8, rfl, by decide +kernel, fun h => by cases h⟩
theorem fdX8_56 : FD RX8 56 8 26 := ⟨RX8, TX8, 44, rfl, by decide, (lr_5 _ (List.mem_of_getElem? (i := 1) rfl)), inlX8⟩
theorem fpX8_56 : FP RX8 56 8 26 (.array .int) false := ⟨RX8, TX8, 44, tyX8, rfl, by decide, (lr_5 _ (List.mem_of_getElem? (i := 1) rfl)), inlX8, tyX8_ok, nmX8, rfl, by decide +kernel, fun h => by cases h⟩
theorem fdX8_59 : FD RX8 59 8 27 := ⟨RX8, TX8, 44, rfl, by decide, (lr_5 _ (List.mem_of_getElem? (i := 2) rfl)), inlX8⟩
theorem fpX8_59 : FP RX8 59 8 27 (.array .int) false := ⟨RX8, TX8, 44, tyX8, rfl, by decide, (lr_5 _ (List.mem_of_getElem? (i := 2) rfl)), inlX8, tyX8_ok, nmX8, rfl, by decide +kernel, fun h => by cases h⟩
theorem fdX8_62 : FD RX8 62 8 29 := ⟨RX8, TX8, 44, rfl, by decide, (lr_5 _ (List.mem_of_getElem? (i := 3) rfl)), inlX8⟩
theorem fpX8_62 : FP RX8 62 8 29 (.array .int) true := ⟨RX8, TX8, 44, tyX8, rfl, by decide, (lr_5 _ (List.mem_of_getElem? (i := 3) rfl)), inlX8, tyX8_ok, nmX8, rfl, by decide +kernel, fun _ => rfl⟩
theorem fdX8_65 : FD RX8 65 8 30 := ⟨RX8, TX8, 44, rfl, by decide, (lr_5 _ (List.mem_of_getElem? (i := 4) rfl)), inlX8⟩
theorem fpX8_65 : FP RX8 65 8 30 (.array .int) true := ⟨RX8, TX8, 44, tyX8, rfl, by decide, (lr_5 _ (List.mem_of_getElem? (i := 4) rfl)), inlX8, tyX8_ok, nmX8, rfl, by decide +kernel, fun _ => rfl⟩
theorem fdX8_68 : FD RX8 68 8 31 := ⟨RX8, TX8, 44, rfl, by decide, (lr_5 _ (List.mem_of_getElem? (i := 5) rfl)), inlX8⟩
theorem fpX8_68 : FP RX8 68 8 31 (.array .int) true := ⟨RX8, TX8, 44, tyX8, rfl, by decide, (lr_5 _ (List.mem_of_getElem? (i := 5) rfl)), inlX8, tyX8_ok, nmX8, rfl, by decide +kernel, fun _ => rfl⟩
theorem fdX8_71 : FD RX8 71 8 32 := ⟨RX8, TX8, 44, rfl, by decide, (lr_5 _ (List.mem_of_getElem? (i := 6) rfl)), inlX8⟩
theorem fpX8_71 : FP RX8 71 8 32 (.array .int) true := ⟨RX8, TX8, 44, tyX8, rfl, by decide, (lr_5 _ (List.mem_of_getElem? (i := 6) rfl)), inlX8, tyX8_ok, nmX8, rfl, by decide +kernel, fun _ => rfl⟩
theorem fdX8_74 : FD RX8 74 8 33 := ⟨RX8, TX8, 44, rfl, by decide, (lr_5 _ (List.mem_of_getElem? (i := 7) rfl)), inlX8⟩
theorem fpX8_74 : FP RX8 74 8 33 (.array .int) true := ⟨RX8, TX8, 44, tyX8, rfl, by decide, (lr_5 _ (List.mem_of_getElem? (i := 7) rfl)), inlX8, tyX8_ok, nmX8, rfl, by decide +kernel, fun _ => rfl⟩
theorem fdX8_77 : FD RX8 77 8 34 := ⟨RX8, TX8, 44, rfl, by decide, (lr_5 _ (List.mem_of_getElem? (i := 8) rfl)), inlX8⟩
theorem fpX8_77 : FP RX8 77 8 34 (.array .int) true := ⟨RX8, TX8, 44, tyX8, rfl, by decide, (lr_5 _ (List.mem_of_getElem? (i := 8) rfl)), inlX8, tyX8_ok, nmX8, rfl, by decide +kernel, fun _ => rfl⟩
theorem fdX8_80 : FD RX8 80 8 35 := ⟨RX8, TX8, 44, rfl, by decide, (lr_5 _ (List.mem_of_getElem? (i := 9) rfl)), inlX8⟩
theorem fpX8_80 : FP RX8 80 8 35 (.array .int) true := ⟨RX8, TX8, 44, tyX8, rfl, by decide, (lr_5 _ (List.mem_of_getElem? (i := 9) rfl)), inlX8, tyX8_ok, nmX8, rfl, by decide +kernel, fun _ => rfl⟩
theorem fdX8_83 : FD RX8 83 8 36 := ⟨RX8, TX8, 44, rfl, by decide, (lr_5 _ (List.mem_of_getElem? (i := 10) rfl)), inlX8⟩
theorem fpX8_83 : FP RX8 83 8 36 (.array .int) true := ⟨RX8, TX8, 44, tyX8, rfl, by decide, (lr_5 _ (List.mem_of_getElem? (i := 10) rfl)), inlX8, tyX8_ok, nmX8, rfl, by decide +kernel, fun _ => rfl⟩
theorem fdX8_86 : FD RX8 86 8 37 := ⟨RX8, TX8, 44, rfl, by decide, (lr_5 _ (List.mem_of_getElem? (i := 11) rfl)), inlX8⟩
theorem fpX8_86 : FP RX8 86 8 37 (.array .int) true := ⟨RX8, TX8, 44, tyX8, rfl, by decide, (lr_5 _ (List.mem_of_getElem? (i := 11) rfl)), inlX8, tyX8_ok, nmX8, rfl, by decide +kernel, fun _ => rfl⟩
theorem fdX8_89 : FD RX8 89 8 39 := ⟨RX8, TX8, 44, rfl, by decide, (lr_5 _ (List.mem_of_getElem? (i := 12) rfl)), inlX8⟩
theorem fpX8_89 : FP RX8 89 8 39 (.array .int) true := ⟨RX8, TX8, 44, tyX8, rfl, by decide, (lr_5 _ (List.mem_of_getElem? (i := 12) rfl)), inlX8, tyX8_ok, nmX8, rfl, by decide +kernel, fun _ => rfl⟩
theorem fdX8_92 : FD RX8 92 8 43 := ⟨RX8, TX8, 44, rfl, by decide, (lr_5 _ (List.mem_of_getElem? (i := 13) rfl)), inlX8⟩
theorem fpX8_92 : FP RX8 92 8 43 (.array .int) true := ⟨RX8, TX8, 44, tyX8, rfl, by decide, (lr_5 _ (List.mem_of_getElem? (i := 13) rfl)), inlX8, tyX8_ok, nmX8, rfl, by decide +kernel, fun _ => rfl⟩
theorem fdX8_111 : FD RX8 111 8 28 := ⟨RX8, TX8, 44, rfl, by decide, (lr_5 _ (List.mem_of_getElem? (i := 18) rfl)), inlX8⟩
theorem fpX8_111 : FP RX8 111 8 28 (.int) false := ⟨RX8, TX8, 44, tyX8, rfl, by decide, (lr_5 _ (List.mem_of_getElem? (i := 18) rfl)), inlX8, tyX8_ok, nmX8, rfl, by decide +kernel, fun h => by cases h⟩
theorem fdX8_118 : FD RX8 118 8 8 := ⟨RX8, TX8, 44, rfl, by decide, (lr_5 _ (List.mem_of_getElem? (i := 19) rfl)), inlX8⟩
theorem fpX8_118 : FP RX8 118 8 8 (.int) false := ⟨RX8, TX8, 44, tyX8, rfl, by decide, (lr_5 _ (List.mem_of_getElem? (i := 19) rfl)), inlX8, tyX8_ok, nmX8, rfl, by decide +kernel, fun h => by cases h⟩
theorem fdX8_130 : FD RX8 130 8 0 := ⟨RX8, TX8, 44, rfl, by decide, (lr_6 _ (List.mem_of_getElem? (i := 15) rfl)), inlX8⟩
theorem fpX8_130 : FP RX8 130 8 0 (.int) false := ⟨RX8, TX8, 44, tyX8, rfl, by decide, (lr_6 _ (List.mem_of_getElem? (i := 15) rfl)), inlX8, tyX8_ok, nmX8, rfl, by decide +kernel, fun h => by cases h⟩
theorem fdX8_133 : FD RX8 133 8 1 := ⟨RX8, TX8, 44, rfl, by decide, (lr_6 _ (List.mem_of_getElem? (i := 16) rfl)), inlX8⟩
theorem fpX8_133 : FP RX8 133 8 1 (.int) false := ⟨RX8, TX8, 44, tyX8, rfl, by decide, (lr_6 _ (List.mem_of_getElem? (i := 16) rfl)), inlX8, tyX8_ok, nmX8, rfl, by decide +kernel, fun h => by cases h⟩
theorem fdX8_136 : FD RX8 136 8 5 := ⟨RX8, TX8, 44, rfl, by decide, (lr_6 _ (List.mem_of_getElem? (i := 17) rfl)), inlX8⟩
theorem fpX8_136 : FP RX8 136 8 5 (.int) false := ⟨RX8, TX8, 44, tyX8, rfl, by decide, (lr_6 _ (List.mem_of_getElem? (i := 17) rfl)), inlX8, tyX8_ok, nmX8, rfl, by decide +kernel, fun h => by cases h⟩
theorem fdX8_139 : FD RX8 139 8 6 := ⟨RX8, TX8, 44, rfl, by decide, (lr_6 _ (List.mem_of_getElem? (i := 18) rfl)), inlX8⟩
theorem fpX8_139 : FP RX8 139 8 6 (.int) false := ⟨RX8, TX8, 44, tyX8, rfl, by decide, (lr_6 _ (List.mem_of_getElem? (i := 18) rfl)), inlX8, tyX8_ok, nmX8, rfl, by decide +kernel, fun h => by cases h⟩
theorem fdX8_142 : FD RX8 142 8 2 := ⟨RX8, TX8, 44, rfl, by decide, (lr_6 _ (List.mem_of_getElem? (i := 19) rfl)), inlX8⟩
theorem fpX8_142 : FP RX8 142 8 2 (.int) false := ⟨RX8, TX8, 44, tyX8, rfl, by decide, (lr_6 _ (List.mem_of_getElem? (i := 19) rfl)), inlX8, tyX8_ok, nmX8, rfl, by decide +kernel, fun h => by cases h⟩
theorem fdX8_145 : FD RX8 145 8 3 := ⟨RX8, TX8, 44, rfl, by decide, (lr_6 _ (List.mem_of_getElem? (i := 20) rfl)), inlX8⟩
theorem fpX8_145 : FP RX8 145 8 3 (.int) false := ⟨RX8, TX8, 44, tyX8, rfl, by decide, (lr_6 _ (List.mem_of_getElem? (i := 20) rfl)), inlX8, tyX8_ok, nmX8, rfl, by decide +kernel, fun h => by cases h⟩
theorem fdX8_148 : FD RX8 148 8 4 := ⟨RX8, TX8, 44, rfl, by decide, (lr_6 _ (List.mem_of_getElem? (i := 21) rfl)), inlX8⟩
theorem fpX8_148 : FP RX8 148 8 4 (.int) false := ⟨RX8, TX8, 44, tyX8, rfl, by decide, (lr_6 _ (List.mem_of_getElem? (i := 21) rfl)), inlX8, tyX8_ok, nmX8, rfl, by decide +kernel, fun h => by cases h⟩
theorem fdX8_151 : FD RX8 151 8 7 := ⟨RX8, TX8, 44, rfl, by decide, (lr_6 _ (List.mem_of_getElem? (i := 22) rfl)), inlX8⟩
theorem fpX8_151 : FP RX8 151 8 7 (.int) false := ⟨RX8, TX8, 44, tyX8, rfl, by decide, (lr_6 _ (List.mem_of_getElem? (i := 22) rfl)), inlX8, tyX8_ok, nmX8, rfl, by decide +kernel, fun h => by cases h⟩
theorem fdX7_64 : FD RX7 64 3 1 := ⟨RX3, TX3, 2, rfl, by decide, (lr_7 _ (List.mem_of_getElem? (i := 6) rfl)), inlX3⟩
theorem fpX7_64 : FP RX7 64 3 1 (.int) false := ⟨RX3, TX3, 2, tyX3, rfl, by decide, (lr_7 _ (List.mem_of_getElem? (i := 6) rfl)), inlX3, tyX3_ok, nmX3, rfl, by decide +kernel, fun h => by cases h⟩
theorem fdX3_29 : FD RX3 29 4 0 := ⟨RX4, TX4, 14, rfl, by decide, (lr_7 _ (List.mem_of_getElem? (i := 14) rfl)), inlX4⟩
theorem fdX3_17 : FD RX3 17 3 1 := ⟨RX3, TX3, 2, rfl, by decide, (lr_7 _ (List.mem_of_getElem? (i := 19) rfl)), inlX3⟩
theorem fpX3_17 : FP RX3 17 3 1 (.int) false := ⟨RX3, TX3, 2, tyX3, rfl, by decide, (lr_7 _ (List.mem_of_getElem? (i := 19) rfl)), inlX3, tyX3_ok, nmX3, rfl, by decide +kernel, fun h => by cases h⟩
theorem fdX4_9 : FD RX4 9 4 0 := ⟨RX4, TX4, 14, rfl, by decide, (lr_8 _ (List.mem_of_getElem? (i := 0) rfl)), inlX4⟩
theorem fpX4_9 : FP RX4 9 4 0 (.int) true := ⟨RX4, TX4, 14, tyX4, rfl, by decide, (lr_8 _ (List.mem_of_getElem? (i := 0) rfl)), inlX4, tyX4_ok, nmX4, rfl, by decide +kernel, fun _ => rfl⟩
theorem fdX4_15 : FD RX4 15 4 1 := ⟨RX4, TX4, 14, rfl, by decide, (lr_8 _ (List.mem_of_getElem? (i := 1) rfl)), inlX4⟩
theorem fpX4_15 : FP RX4 15 4 1 (.int) true := ⟨RX4, TX4, 14, tyX4, rfl, by decide, (lr_8 _ (List.mem_of_getElem? (i := 1) rfl)), inlX4, tyX4_ok, nmX4, rfl, by decide +kernel, fun _ => rfl⟩
theorem fdX4_18 : FD RX4 18 4 2 := ⟨RX4, TX4, 14, rfl, by decide, (lr_8 _ (List.mem_of_getElem? (i := 2) rfl)), inlX4⟩
theorem fpX4_18 : FP RX4 18 4 2 (.int) true := ⟨RX4, TX4, 14, tyX4, rfl, by decide, (lr_8 _ (List.mem_of_getElem? (i := 2) rfl)), inlX4, tyX4_ok, nmX4, rfl, by decide +kernel, fun _ => rfl⟩
theorem fdX4_21 : FD RX4 21 4 3 := ⟨RX4, TX4, 14, rfl, by decide, (lr_8 _ (List.mem_of_getElem? (i := 3) rfl)), inlX4⟩
theorem fpX4_21 : FP RX4 21 4 3 (.int) true := ⟨RX4, TX4, 14, tyX4, rfl, by decide, (lr_8 _ (List.mem_of_getElem? (i := 3) rfl)), inlX4, tyX4_ok, nmX4, rfl, by decide +kernel, fun _ => rfl⟩
theorem fdX4_24 : FD RX4 24 4 4 := ⟨RX4, TX4, 14, rfl, by decide, (lr_8 _ (List.mem_of_getElem? (i := 4) rfl)), inlX4⟩
theorem fpX4_24 : FP RX4 24 4 4 (.boolean) false := ⟨RX4, TX4, 14, tyX4, rfl, by decide, (lr_8 _ (List.mem_of_getElem? (i := 4) rfl)), inlX4, tyX4_ok, nmX4, rfl, by decide +kernel, fun h => by cases h⟩
theorem fdX4_28 : FD RX4 28 4 5 := ⟨RX4, TX4, 14, rfl, by decide, (lr_8 _ (List.mem_of_getElem? (i := 5) rfl)), inlX4⟩
theorem fpX4_28 : FP RX4 28 4 5 (.int) false := ⟨RX4, TX4, 14, tyX4, rfl, by decide, (lr_8 _ (List.mem_of_getElem? (i := 5) rfl)), inlX4, tyX4_ok, nmX4, rfl, by decide +kernel, fun h => by cases h⟩
theorem fdX3_32 : FD RX3 32 4 1 := ⟨RX4, TX4, 14, rfl, by decide, (lr_8 _ (List.mem_of_getElem? (i := 10) rfl)), inlX4⟩
theorem fdX3_39 : FD RX3 39 4 2 := ⟨RX4, TX4, 14, rfl, by decide, (lr_8 _ (List.mem_of_getElem? (i := 11) rfl)), inlX4⟩
theorem fdX4_31 : FD RX4 31 4 12 := ⟨RX4, TX4, 14, rfl, by decide, (lr_8 _ (List.mem_of_getElem? (i := 20) rfl)), inlX4⟩
theorem fpX4_31 : FP RX4 31 4 12 (.long) false := ⟨RX4, TX4, 14, tyX4, rfl, by decide, (lr_8 _ (List.mem_of_getElem? (i := 20) rfl)), inlX4, tyX4_ok, nmX4, rfl, by decide +kernel, fun h => by cases h⟩
theorem fdX4_35 : FD RX4 35 4 13 := ⟨RX4, TX4, 14, rfl, by decide, (lr_8 _ (List.mem_of_getElem? (i := 21) rfl)), inlX4⟩
theorem fpX4_35 : FP RX4 35 4 13 (.long) false := ⟨RX4, TX4, 14, tyX4, rfl, by decide, (lr_8 _ (List.mem_of_getElem? (i := 21) rfl)), inlX4, tyX4_ok, nmX4, rfl, by decide +kernel, fun h => by cases h⟩
theorem fdX8_99 : FD RX8 99 8 22 := ⟨RX8, TX8, 44, rfl, by decide, (lr_9 _ (List.mem_of_getElem? (i := 2) rfl)), inlX8⟩
theorem fpX8_99 : FP RX8 99 8 22 (.int) false := ⟨RX8, TX8, 44, tyX8, rfl, by decide, (lr_9 _ (List.mem_of_getElem? (i := 2) rfl)), inlX8, tyX8_ok, nmX8, rfl, by decide +kernel, fun h => by cases h⟩
theorem fdX7_83 : FD RX7 83 4 0 := ⟨RX4, TX4, 14, rfl, by decide, (lr_9 _ (List.mem_of_getElem? (i := 11) rfl)), inlX4⟩
theorem fdX7_86 : FD RX7 86 4 5 := ⟨RX4, TX4, 14, rfl, by decide, (lr_9 _ (List.mem_of_getElem? (i := 12) rfl)), inlX4⟩
theorem fpX7_86 : FP RX7 86 4 5 (.int) false := ⟨RX4, TX4, 14, tyX4, rfl, by decide, (lr_9 _ (List.mem_of_getElem? (i := 12) rfl)), inlX4, tyX4_ok, nmX4, rfl, by decide +kernel, fun h => by cases h⟩
theorem fdX3_25 : FD RX3 25 4 4 := ⟨RX4, TX4, 14, rfl, by decide, (lr_9 _ (List.mem_of_getElem? (i := 17) rfl)), inlX4⟩
theorem fpX3_25 : FP RX3 25 4 4 (.boolean) false := ⟨RX4, TX4, 14, tyX4, rfl, by decide, (lr_9 _ (List.mem_of_getElem? (i := 17) rfl)), inlX4, tyX4_ok, nmX4, rfl, by decide +kernel, fun h => by cases h⟩
theorem fdX7_116 : FD RX7 116 2 3 := ⟨RX2, TX2, 4, rfl, by decide, (lr_9 _ (List.mem_of_getElem? (i := 22) rfl)), inlX2⟩
theorem fpX7_116 : FP RX7 116 2 3 (.int) false := ⟨RX2, TX2, 4, tyX2, rfl, by decide, (lr_9 _ (List.mem_of_getElem? (i := 22) rfl)), inlX2, tyX2_ok, nmX2, rfl, by decide +kernel, fun h => by cases h⟩
theorem fdX7_243 : FD RX7 243 2 2 := ⟨RX2, TX2, 4, rfl, by decide, (lr_9 _ (List.mem_of_getElem? (i := 23) rfl)), inlX2⟩
theorem fdX2_28 : FD RX2 28 2 3 := ⟨RX2, TX2, 4, rfl, by decide, (lr_10 _ (List.mem_of_getElem? (i := 4) rfl)), inlX2⟩
theorem fpX2_28 : FP RX2 28 2 3 (.int) false := ⟨RX2, TX2, 4, tyX2, rfl, by decide, (lr_10 _ (List.mem_of_getElem? (i := 4) rfl)), inlX2, tyX2_ok, nmX2, rfl, by decide +kernel, fun h => by cases h⟩
theorem fdX2_35 : FD RX2 35 5 0 := ⟨RX5, TX5, 4, rfl, by decide, (lr_10 _ (List.mem_of_getElem? (i := 5) rfl)), inlX5⟩
theorem fdX2_38 : FD RX2 38 5 1 := ⟨RX5, TX5, 4, rfl, by decide, (lr_10 _ (List.mem_of_getElem? (i := 6) rfl)), inlX5⟩
theorem fdX2_48 : FD RX2 48 5 3 := ⟨RX5, TX5, 4, rfl, by decide, (lr_10 _ (List.mem_of_getElem? (i := 15) rfl)), inlX5⟩
theorem fdX7_191 : FD RX7 191 0 0 := ⟨RX0, TX0, 7, rfl, by decide, (lr_10 _ (List.mem_of_getElem? (i := 20) rfl)), inlX0⟩
theorem fdX7_252 : FD RX7 252 1 2 := ⟨RX1, TX1, 7, rfl, by decide, (lr_10 _ (List.mem_of_getElem? (i := 21) rfl)), inlX1⟩
theorem fdX1_48 : FD RX1 48 1 4 := ⟨RX1, TX1, 7, rfl, by decide, (lr_11 _ (List.mem_of_getElem? (i := 10) rfl)), inlX1⟩
theorem fpX1_48 : FP RX1 48 1 4 (.int) false := ⟨RX1, TX1, 7, tyX1, rfl, by decide, (lr_11 _ (List.mem_of_getElem? (i := 10) rfl)), inlX1, tyX1_ok, nmX1, rfl, by decide +kernel, fun h => by cases h⟩
theorem fdX1_51 : FD RX1 51 1 5 := ⟨RX1, TX1, 7, rfl, by decide, (lr_11 _ (List.mem_of_getElem? (i := 11) rfl)), inlX1⟩
theorem fpX1_51 : FP RX1 51 1 5 (.long) false := ⟨RX1, TX1, 7, tyX1, rfl, by decide, (lr_11 _ (List.mem_of_getElem? (i := 11) rfl)), inlX1, tyX1_ok, nmX1, rfl, by decide +kernel, fun h => by cases h⟩
theorem fdX1_55 : FD RX1 55 1 6 := ⟨RX1, TX1, 7, rfl, by decide, (lr_11 _ (List.mem_of_getElem? (i := 12) rfl)), inlX1⟩
theorem fpX1_55 : FP RX1 55 1 6 (.long) false := ⟨RX1, TX1, 7, tyX1, rfl, by decide, (lr_11 _ (List.mem_of_getElem? (i := 12) rfl)), inlX1, tyX1_ok, nmX1, rfl, by decide +kernel, fun h => by cases h⟩
theorem fdX1_58 : FD RX1 58 3 1 := ⟨RX3, TX3, 2, rfl, by decide, (lr_11 _ (List.mem_of_getElem? (i := 13) rfl)), inlX3⟩
theorem fpX1_58 : FP RX1 58 3 1 (.int) false := ⟨RX3, TX3, 2, tyX3, rfl, by decide, (lr_11 _ (List.mem_of_getElem? (i := 13) rfl)), inlX3, tyX3_ok, nmX3, rfl, by decide +kernel, fun h => by cases h⟩
theorem fdX1_67 : FD RX1 67 4 4 := ⟨RX4, TX4, 14, rfl, by decide, (lr_11 _ (List.mem_of_getElem? (i := 14) rfl)), inlX4⟩
theorem fpX1_67 : FP RX1 67 4 4 (.boolean) false := ⟨RX4, TX4, 14, tyX4, rfl, by decide, (lr_11 _ (List.mem_of_getElem? (i := 14) rfl)), inlX4, tyX4_ok, nmX4, rfl, by decide +kernel, fun h => by cases h⟩
theorem fdX1_73 : FD RX1 73 4 12 := ⟨RX4, TX4, 14, rfl, by decide, (lr_11 _ (List.mem_of_getElem? (i := 15) rfl)), inlX4⟩
theorem fpX1_73 : FP RX1 73 4 12 (.long) false := ⟨RX4, TX4, 14, tyX4, rfl, by decide, (lr_11 _ (List.mem_of_getElem? (i := 15) rfl)), inlX4, tyX4_ok, nmX4, rfl, by decide +kernel, fun h => by cases h⟩
theorem fdX1_76 : FD RX1 76 4 13 := ⟨RX4, TX4, 14, rfl, by decide, (lr_11 _ (List.mem_of_getElem? (i := 16) rfl)), inlX4⟩
theorem fpX1_76 : FP RX1 76 4 13 (.long) false := ⟨RX4, TX4, 14, tyX4, rfl, by decide, (lr_11 _ (List.mem_of_getElem? (i := 16) rfl)), inlX4, tyX4_ok, nmX4, rfl, by decide +kernel, fun h => by cases h⟩
theorem fdX1_83 : FD RX1 83 4 1 := ⟨RX4, TX4, 14, rfl, by decide, (lr_11 _ (List.mem_of_getElem? (i := 22) rfl)), inlX4⟩
theorem fdX7_203 : FD RX7 203 4 1 := ⟨RX4, TX4, 14, rfl, by decide, (lr_13 _ (List.mem_of_getElem? (i := 14) rfl)), inlX4⟩
theorem fdX7_123 : FD RX7 123 4 6 := ⟨RX4, TX4, 14, rfl, by decide, (lr_13 _ (List.mem_of_getElem? (i := 15) rfl)), inlX4⟩
theorem fpX7_123 : FP RX7 123 4 6 (.int) false := ⟨RX4, TX4, 14, tyX4, rfl, by decide, (lr_13 _ (List.mem_of_getElem? (i := 15) rfl)), inlX4, tyX4_ok, nmX4, rfl, by decide +kernel, fun h => by cases h⟩
theorem fdX7_231 : FD RX7 231 0 6 := ⟨RX0, TX0, 7, rfl, by decide, (lr_13 _ (List.mem_of_getElem? (i := 16) rfl)), inlX0⟩
theorem fdX8_158 : FD RX8 158 8 40 := ⟨RX8, TX8, 44, rfl, by decide, (lr_14 _ (List.mem_of_getElem? (i := 9) rfl)), inlX8⟩
theorem fpX8_158 : FP RX8 158 8 40 (.int) false := ⟨RX8, TX8, 44, tyX8, rfl, by decide, (lr_14 _ (List.mem_of_getElem? (i := 9) rfl)), inlX8, tyX8_ok, nmX8, rfl, by decide +kernel, fun h => by cases h⟩
theorem fdX7_97 : FD RX7 97 4 4 := ⟨RX4, TX4, 14, rfl, by decide, (lr_15 _ (List.mem_of_getElem? (i := 10) rfl)), inlX4⟩
theorem fpX7_97 : FP RX7 97 4 4 (.boolean) false := ⟨RX4, TX4, 14, tyX4, rfl, by decide, (lr_15 _ (List.mem_of_getElem? (i := 10) rfl)), inlX4, tyX4_ok, nmX4, rfl, by decide +kernel, fun h => by cases h⟩
theorem fdX7_234 : FD RX7 234 0 1 := ⟨RX0, TX0, 7, rfl, by decide, (lr_15 _ (List.mem_of_getElem? (i := 15) rfl)), inlX0⟩
theorem fdX7_240 : FD RX7 240 0 4 := ⟨RX0, TX0, 7, rfl, by decide, (lr_15 _ (List.mem_of_getElem? (i := 16) rfl)), inlX0⟩
theorem fdX7_126 : FD RX7 126 0 5 := ⟨RX0, TX0, 7, rfl, by decide, (lr_16 _ (List.mem_of_getElem? (i := 21) rfl)), inlX0⟩
theorem fdX7_133 : FD RX7 133 0 2 := ⟨RX0, TX0, 7, rfl, by decide, (lr_17 _ (List.mem_of_getElem? (i := 7) rfl)), inlX0⟩
theorem fdX4_38 : FD RX4 38 4 11 := ⟨RX4, TX4, 14, rfl, by decide, (lr_17 _ (List.mem_of_getElem? (i := 16) rfl)), inlX4⟩
theorem fpX4_38 : FP RX4 38 4 11 (.int) false := ⟨RX4, TX4, 14, tyX4, rfl, by decide, (lr_17 _ (List.mem_of_getElem? (i := 16) rfl)), inlX4, tyX4_ok, nmX4, rfl, by decide +kernel, fun h => by cases h⟩
theorem fdX4_47 : FD RX4 47 4 10 := ⟨RX4, TX4, 14, rfl, by decide, (lr_17 _ (List.mem_of_getElem? (i := 18) rfl)), inlX4⟩
theorem fpX4_47 : FP RX4 47 4 10 (.int) false := ⟨RX4, TX4, 14, tyX4, rfl, by decide, (lr_17 _ (List.mem_of_getElem? (i := 18) rfl)), inlX4, tyX4_ok, nmX4, rfl, by decide +kernel, fun h => by cases h⟩
theorem fdX4_50 : FD RX4 50 4 7 := ⟨RX4, TX4, 14, rfl, by decide, (lr_17 _ (List.mem_of_getElem? (i := 19) rfl)), inlX4⟩
theorem fpX4_50 : FP RX4 50 4 7 (.int) false := ⟨RX4, TX4, 14, tyX4, rfl, by decide, (lr_17 _ (List.mem_of_getElem? (i := 19) rfl)), inlX4, tyX4_ok, nmX4, rfl, by decide +kernel, fun h => by cases h⟩
theorem fdX7_139 : FD RX7 139 4 11 := ⟨RX4, TX4, 14, rfl, by decide, (lr_18 _ (List.mem_of_getElem? (i := 9) rfl)), inlX4⟩
theorem fpX7_139 : FP RX7 139 4 11 (.int) false := ⟨RX4, TX4, 14, tyX4, rfl, by decide, (lr_18 _ (List.mem_of_getElem? (i := 9) rfl)), inlX4, tyX4_ok, nmX4, rfl, by decide +kernel, fun h => by cases h⟩
theorem fdX7_142 : FD RX7 142 4 7 := ⟨RX4, TX4, 14, rfl, by decide, (lr_18 _ (List.mem_of_getElem? (i := 18) rfl)), inlX4⟩
theorem fpX7_142 : FP RX7 142 4 7 (.int) false := ⟨RX4, TX4, 14, tyX4, rfl, by decide, (lr_18 _ (List.mem_of_getElem? (i := 18) rfl)), inlX4, tyX4_ok, nmX4, rfl, by decide +kernel, fun h => by cases h⟩
theorem fdX7_145 : FD RX7 145 4 9 := ⟨RX4, TX4, 14, rfl, by decide, (lr_18 _ (List.mem_of_getElem? (i := 19) rfl)), inlX4⟩
theorem fpX7_145 : FP RX7 145 4 9 (.int) false := ⟨RX4, TX4, 14, tyX4, rfl, by decide, (lr_18 _ (List.mem_of_getElem? (i := 19) rfl)), inlX4, tyX4_ok, nmX4, rfl, by decide +kernel, fun h => by cases h⟩
theorem fdX7_148 : FD RX7 148 4 8 := ⟨RX4, TX4, 14, rfl, by decide, (lr_18 _ (List.mem_of_getElem? (i := 20) rfl)), inlX4⟩
theorem fpX7_148 : FP RX7 148 4 8 (.int) false := ⟨RX4, TX4, 14, tyX4, rfl, by decide, (lr_18 _ (List.mem_of_getElem? (i := 20) rfl)), inlX4, tyX4_ok, nmX4, rfl, by decide +kernel, fun h => by cases h⟩
theorem fdX8_206 : FD RX8 206 8 23 := ⟨RX8, TX8, 44, rfl, by decide, (lr_19 _ (List.mem_of_getElem? (i := 9) rfl)), inlX8⟩
theorem fpX8_206 : FP RX8 206 8 23 (.int) false := ⟨RX8, TX8, 44, tyX8, rfl, by decide, (lr_19 _ (List.mem_of_getElem? (i := 9) rfl)), inlX8, tyX8_ok, nmX8, rfl, by decide +kernel, fun h => by cases h⟩
theorem fdX6_9 : FD RX6 9 6 0 := ⟨RX6, TX6, 7, rfl, by decide, (lr_19 _ (List.mem_of_getElem? (i := 20) rfl)), inlX6⟩
theorem fpX6_9 : FP RX6 9 6 0 (.int) true := ⟨RX6, TX6, 7, tyX6, rfl, by decide, (lr_19 _ (List.mem_of_getElem? (i := 20) rfl)), inlX6, tyX6_ok, nmX6, rfl, by decide +kernel, fun _ => rfl⟩
theorem fdX6_15 : FD RX6 15 6 1 := ⟨RX6, TX6, 7, rfl, by decide, (lr_19 _ (List.mem_of_getElem? (i := 21) rfl)), inlX6⟩
theorem fpX6_15 : FP RX6 15 6 1 (.int) true := ⟨RX6, TX6, 7, tyX6, rfl, by decide, (lr_19 _ (List.mem_of_getElem? (i := 21) rfl)), inlX6, tyX6_ok, nmX6, rfl, by decide +kernel, fun _ => rfl⟩
theorem fdX6_18 : FD RX6 18 6 2 := ⟨RX6, TX6, 7, rfl, by decide, (lr_19 _ (List.mem_of_getElem? (i := 22) rfl)), inlX6⟩
theorem fpX6_18 : FP RX6 18 6 2 (.int) true := ⟨RX6, TX6, 7, tyX6, rfl, by decide, (lr_19 _ (List.mem_of_getElem? (i := 22) rfl)), inlX6, tyX6_ok, nmX6, rfl, by decide +kernel, fun _ => rfl⟩
theorem fdX6_21 : FD RX6 21 6 3 := ⟨RX6, TX6, 7, rfl, by decide, (lr_19 _ (List.mem_of_getElem? (i := 23) rfl)), inlX6⟩
theorem fpX6_21 : FP RX6 21 6 3 (.int) false := ⟨RX6, TX6, 7, tyX6, rfl, by decide, (lr_19 _ (List.mem_of_getElem? (i := 23) rfl)), inlX6, tyX6_ok, nmX6, rfl, by decide +kernel, fun h => by cases h⟩
theorem fdX6_24 : FD RX6 24 6 4 := ⟨RX6, TX6, 7, rfl, by decide, (lr_20 _ (List.mem_of_getElem? (i := 0) rfl)), inlX6⟩
theorem fpX6_24 : FP RX6 24 6 4 (.int) false := ⟨RX6, TX6, 7, tyX6, rfl, by decide, (lr_20 _ (List.mem_of_getElem? (i := 0) rfl)), inlX6, tyX6_ok, nmX6, rfl, by decide +kernel, fun h => by cases h⟩
theorem fdX8_209 : FD RX8 209 8 38 := ⟨RX8, TX8, 44, rfl, by decide, (lr_20 _ (List.mem_of_getElem? (i := 5) rfl)), inlX8⟩
theorem fpX8_209 : FP RX8 209 8 38 (.int) false := ⟨RX8, TX8, 44, tyX8, rfl, by decide, (lr_20 _ (List.mem_of_getElem? (i := 5) rfl)), inlX8, tyX8_ok, nmX8, rfl, by decide +kernel, fun h => by cases h⟩
theorem fdX7_158 : FD RX7 158 6 3 := ⟨RX6, TX6, 7, rfl, by decide, (lr_20 _ (List.mem_of_getElem? (i := 10) rfl)), inlX6⟩
theorem fpX7_158 : FP RX7 158 6 3 (.int) false := ⟨RX6, TX6, 7, tyX6, rfl, by decide, (lr_20 _ (List.mem_of_getElem? (i := 10) rfl)), inlX6, tyX6_ok, nmX6, rfl, by decide +kernel, fun h => by cases h⟩
theorem fdX7_161 : FD RX7 161 6 4 := ⟨RX6, TX6, 7, rfl, by decide, (lr_20 _ (List.mem_of_getElem? (i := 11) rfl)), inlX6⟩
theorem fpX7_161 : FP RX7 161 6 4 (.int) false := ⟨RX6, TX6, 7, tyX6, rfl, by decide, (lr_20 _ (List.mem_of_getElem? (i := 11) rfl)), inlX6, tyX6_ok, nmX6, rfl, by decide +kernel, fun h => by cases h⟩
theorem fdX7_255 : FD RX7 255 6 1 := ⟨RX6, TX6, 7, rfl, by decide, (lr_21 _ (List.mem_of_getElem? (i := 4) rfl)), inlX6⟩
theorem fdX7_258 : FD RX7 258 6 0 := ⟨RX6, TX6, 7, rfl, by decide, (lr_21 _ (List.mem_of_getElem? (i := 5) rfl)), inlX6⟩
theorem fdX7_218 : FD RX7 218 6 5 := ⟨RX6, TX6, 7, rfl, by decide, (lr_21 _ (List.mem_of_getElem? (i := 6) rfl)), inlX6⟩
theorem fpX7_218 : FP RX7 218 6 5 (.int) false := ⟨RX6, TX6, 7, tyX6, rfl, by decide, (lr_21 _ (List.mem_of_getElem? (i := 6) rfl)), inlX6, tyX6_ok, nmX6, rfl, by decide +kernel, fun h => by cases h⟩
theorem fdX7_264 : FD RX7 264 0 3 := ⟨RX0, TX0, 7, rfl, by decide, (lr_21 _ (List.mem_of_getElem? (i := 7) rfl)), inlX0⟩
theorem fdX3_46 : FD RX3 46 4 6 := ⟨RX4, TX4, 14, rfl, by decide, (lr_21 _ (List.mem_of_getElem? (i := 12) rfl)), inlX4⟩
theorem fpX3_46 : FP RX3 46 4 6 (.int) false := ⟨RX4, TX4, 14, tyX4, rfl, by decide, (lr_21 _ (List.mem_of_getElem? (i := 12) rfl)), inlX4, tyX4_ok, nmX4, rfl, by decide +kernel, fun h => by cases h⟩
theorem fdX7_269 : FD RX7 269 6 2 := ⟨RX6, TX6, 7, rfl, by decide, (lr_21 _ (List.mem_of_getElem? (i := 17) rfl)), inlX6⟩
theorem fdX7_221 : FD RX7 221 6 6 := ⟨RX6, TX6, 7, rfl, by decide, (lr_21 _ (List.mem_of_getElem? (i := 18) rfl)), inlX6⟩
theorem fpX7_221 : FP RX7 221 6 6 (.int) false := ⟨RX6, TX6, 7, tyX6, rfl, by decide, (lr_21 _ (List.mem_of_getElem? (i := 18) rfl)), inlX6, tyX6_ok, nmX6, rfl, by decide +kernel, fun h => by cases h⟩
theorem fdX7_180 : FD RX7 180 5 0 := ⟨RX5, TX5, 4, rfl, by decide, (lr_22 _ (List.mem_of_getElem? (i := 11) rfl)), inlX5⟩
theorem fdX7_185 : FD RX7 185 5 1 := ⟨RX5, TX5, 4, rfl, by decide, (lr_22 _ (List.mem_of_getElem? (i := 12) rfl)), inlX5⟩
theorem fdX7_188 : FD RX7 188 5 2 := ⟨RX5, TX5, 4, rfl, by decide, (lr_22 _ (List.mem_of_getElem? (i := 13) rfl)), inlX5⟩
theorem fdX2_52 : FD RX2 52 5 2 := ⟨RX5, TX5, 4, rfl, by decide, (lr_22 _ (List.mem_of_getElem? (i := 18) rfl)), inlX5⟩
theorem fdX7_197 : FD RX7 197 1 1 := ⟨RX1, TX1, 7, rfl, by decide, (lr_23 _ (List.mem_of_getElem? (i := 19) rfl)), inlX1⟩
theorem fpX7_197 : FP RX7 197 1 1 (.int) false := ⟨RX1, TX1, 7, tyX1, rfl, by decide, (lr_23 _ (List.mem_of_getElem? (i := 19) rfl)), inlX1, tyX1_ok, nmX1, rfl, by decide +kernel, fun h => by cases h⟩
theorem fdX7_200 : FD RX7 200 1 0 := ⟨RX1, TX1, 7, rfl, by decide, (lr_23 _ (List.mem_of_getElem? (i := 20) rfl)), inlX1⟩
theorem fdX1_26 : FD RX1 26 1 1 := ⟨RX1, TX1, 7, rfl, by decide, (lr_24 _ (List.mem_of_getElem? (i := 1) rfl)), inlX1⟩
theorem fpX1_26 : FP RX1 26 1 1 (.int) false := ⟨RX1, TX1, 7, tyX1, rfl, by decide, (lr_24 _ (List.mem_of_getElem? (i := 1) rfl)), inlX1, tyX1_ok, nmX1, rfl, by decide +kernel, fun h => by cases h⟩
theorem fdX8_165 : FD RX8 165 8 41 := ⟨RX8, TX8, 44, rfl, by decide, (lr_24 _ (List.mem_of_getElem? (i := 10) rfl)), inlX8⟩
theorem fpX8_165 : FP RX8 165 8 41 (.int) false := ⟨RX8, TX8, 44, tyX8, rfl, by decide, (lr_24 _ (List.mem_of_getElem? (i := 10) rfl)), inlX8, tyX8_ok, nmX8, rfl, by decide +kernel, fun h => by cases h⟩
theorem fdX8_168 : FD RX8 168 8 42 := ⟨RX8, TX8, 44, rfl, by decide, (lr_24 _ (List.mem_of_getElem? (i := 11) rfl)), inlX8⟩
theorem fpX8_168 : FP RX8 168 8 42 (.int) false := ⟨RX8, TX8, 44, tyX8, rfl, by decide, (lr_24 _ (List.mem_of_getElem? (i := 11) rfl)), inlX8, tyX8_ok, nmX8, rfl, by decide +kernel, fun h => by cases h⟩
theorem fdX7_206 : FD RX7 206 4 2 := ⟨RX4, TX4, 14, rfl, by decide, (lr_24 _ (List.mem_of_getElem? (i := 20) rfl)), inlX4⟩
theorem fdX7_209 : FD RX7 209 4 3 := ⟨RX4, TX4, 14, rfl, by decide, (lr_24 _ (List.mem_of_getElem? (i := 21) rfl)), inlX4⟩
theorem fdX7_215 : FD RX7 215 4 10 := ⟨RX4, TX4, 14, rfl, by decide, (lr_24 _ (List.mem_of_getElem? (i := 22) rfl)), inlX4⟩
theorem fpX7_215 : FP RX7 215 4 10 (.int) false := ⟨RX4, TX4, 14, tyX4, rfl, by decide, (lr_24 _ (List.mem_of_getElem? (i := 22) rfl)), inlX4, tyX4_ok, nmX4, rfl, by decide +kernel, fun h => by cases h⟩
theorem fdX7_228 : FD RX7 228 2 1 := ⟨RX2, TX2, 4, rfl, by decide, (lr_25 _ (List.mem_of_getElem? (i := 19) rfl)), inlX2⟩
theorem fpX7_228 : FP RX7 228 2 1 (.int) false := ⟨RX2, TX2, 4, tyX2, rfl, by decide, (lr_25 _ (List.mem_of_getElem? (i := 19) rfl)), inlX2, tyX2_ok, nmX2, rfl, by decide +kernel, fun h => by cases h⟩
theorem clL_7 : Cond.classLink RL 7 RX7 ∈ wsL_law := (lr_1 _ (List.mem_of_getElem? (i := 0) rfl))
theorem in_RX7 : Cond.instantiable RX7 9 ∈ wsL_law := (lr_1 _ (List.mem_of_getElem? (i := 1) rfl))
theorem ini_RX7 : Cond.initialized RX7 ∈ wsL_law := (lr_1 _ (List.mem_of_getElem? (i := 2) rfl))
theorem clL_10 : Cond.classLink RL 10 RX8 ∈ wsL_law := (lr_1 _ (List.mem_of_getElem? (i := 3) rfl))
theorem in_RX8 : Cond.instantiable RX8 44 ∈ wsL_law := (lr_1 _ (List.mem_of_getElem? (i := 4) rfl))
theorem ini_RX8 : Cond.initialized RX8 ∈ wsL_law := (lr_1 _ (List.mem_of_getElem? (i := 5) rfl))
theorem cbL_9 : CB RL 9 yX7_init cX7_init 1 none 0 := ⟨(lr_1 _ (List.mem_of_getElem? (i := 6) rfl)), (lr_1 _ (List.mem_of_getElem? (i := 2) rfl)), (lr_1 _ (List.mem_of_getElem? (i := 8) rfl)), by decide +kernel, by decide +kernel, by decide +kernel⟩
theorem im_yX7_init : Cond.instanceMethod yX7_init ∈ wsL_law := (lr_1 _ (List.mem_of_getElem? (i := 7) rfl))
theorem clX7_13 : Cond.classLink RX7 13 RX0 ∈ wsL_law := (lr_1 _ (List.mem_of_getElem? (i := 13) rfl))
theorem in_RX0 : Cond.instantiable RX0 7 ∈ wsL_law := (lr_1 _ (List.mem_of_getElem? (i := 14) rfl))
theorem ini_RX0 : Cond.initialized RX0 ∈ wsL_law := (lr_1 _ (List.mem_of_getElem? (i := 15) rfl))
theorem clX7_25 : Cond.classLink RX7 25 RX3 ∈ wsL_law := (lr_1 _ (List.mem_of_getElem? (i := 18) rfl))
theorem in_RX3 : Cond.instantiable RX3 2 ∈ wsL_law := (lr_1 _ (List.mem_of_getElem? (i := 19) rfl))
theorem ini_RX3 : Cond.initialized RX3 ∈ wsL_law := (lr_1 _ (List.mem_of_getElem? (i := 20) rfl))
theorem clX7_32 : Cond.classLink RX7 32 RX2 ∈ wsL_law := (lr_1 _ (List.mem_of_getElem? (i := 22) rfl))
theorem in_RX2 : Cond.instantiable RX2 4 ∈ wsL_law := (lr_1 _ (List.mem_of_getElem? (i := 23) rfl))
theorem ini_RX2 : Cond.initialized RX2 ∈ wsL_law := (lr_2 _ (List.mem_of_getElem? (i := 0) rfl))
theorem clX7_39 : Cond.classLink RX7 39 RX1 ∈ wsL_law := (lr_2 _ (List.mem_of_getElem? (i := 2) rfl))
theorem in_RX1 : Cond.instantiable RX1 7 ∈ wsL_law := (lr_2 _ (List.mem_of_getElem? (i := 3) rfl))
theorem ini_RX1 : Cond.initialized RX1 ∈ wsL_law := (lr_2 _ (List.mem_of_getElem? (i := 4) rfl))
theorem clX7_48 : Cond.classLink RX7 48 RX6 ∈ wsL_law := (lr_2 _ (List.mem_of_getElem? (i := 6) rfl))
theorem cbX7_15 : CB RX7 15 yX0_init cX0_init 3 none 2 := ⟨(lr_2 _ (List.mem_of_getElem? (i := 10) rfl)), (lr_1 _ (List.mem_of_getElem? (i := 15) rfl)), (lr_2 _ (List.mem_of_getElem? (i := 12) rfl)), by decide +kernel, by decide +kernel, by decide +kernel⟩
theorem im_yX0_init : Cond.instanceMethod yX0_init ∈ wsL_law := (lr_2 _ (List.mem_of_getElem? (i := 11) rfl))
theorem cnX0_9 : Cond.constant RX0 9 (100000) ∈ wsL_law := (lr_2 _ (List.mem_of_getElem? (i := 14) rfl))
theorem im_yX3_init : Cond.instanceMethod yX3_init ∈ wsL_law := (lr_2 _ (List.mem_of_getElem? (i := 22) rfl))
theorem clX3_9 : Cond.classLink RX3 9 RX4 ∈ wsL_law := (lr_3 _ (List.mem_of_getElem? (i := 1) rfl))
theorem cbX7_34 : CB RX7 34 yX2_init cX2_init 3 none 0 := ⟨(lr_3 _ (List.mem_of_getElem? (i := 3) rfl)), (lr_2 _ (List.mem_of_getElem? (i := 0) rfl)), (lr_3 _ (List.mem_of_getElem? (i := 5) rfl)), by decide +kernel, by decide +kernel, by decide +kernel⟩
theorem im_yX2_init : Cond.instanceMethod yX2_init ∈ wsL_law := (lr_3 _ (List.mem_of_getElem? (i := 4) rfl))
theorem clX2_9 : Cond.classLink RX2 9 RX5 ∈ wsL_law := (lr_3 _ (List.mem_of_getElem? (i := 7) rfl))
theorem ac_int : Cond.arrayClass .int ∈ wsL_law := (lr_3 _ (List.mem_of_getElem? (i := 10) rfl))
theorem in_RX5 : Cond.instantiable RX5 4 ∈ wsL_law := (lr_3 _ (List.mem_of_getElem? (i := 12) rfl))
theorem ini_RX5 : Cond.initialized RX5 ∈ wsL_law := (lr_3 _ (List.mem_of_getElem? (i := 13) rfl))
theorem cbX2_25 : CB RX2 25 yX5_init cX5_init 5 none 4 := ⟨(lr_3 _ (List.mem_of_getElem? (i := 14) rfl)), (lr_3 _ (List.mem_of_getElem? (i := 13) rfl)), (lr_3 _ (List.mem_of_getElem? (i := 16) rfl)), by decide +kernel, by decide +kernel, by decide +kernel⟩
theorem im_yX5_init : Cond.instanceMethod yX5_init ∈ wsL_law := (lr_3 _ (List.mem_of_getElem? (i := 15) rfl))
theorem cbX7_41 : CB RX7 41 yX1_init cX1_init 2 none 1 := ⟨(lr_3 _ (List.mem_of_getElem? (i := 22) rfl)), (lr_2 _ (List.mem_of_getElem? (i := 4) rfl)), (lr_4 _ (List.mem_of_getElem? (i := 0) rfl)), by decide +kernel, by decide +kernel, by decide +kernel⟩
theorem im_yX1_init : Cond.instanceMethod yX1_init ∈ wsL_law := (lr_3 _ (List.mem_of_getElem? (i := 23) rfl))
theorem cbL_12 : CB RL 12 yX8_init cX8_init 2 none 0 := ⟨(lr_4 _ (List.mem_of_getElem? (i := 5) rfl)), (lr_1 _ (List.mem_of_getElem? (i := 5) rfl)), (lr_4 _ (List.mem_of_getElem? (i := 7) rfl)), by decide +kernel, by decide +kernel, by decide +kernel⟩
theorem im_yX8_init : Cond.instanceMethod yX8_init ∈ wsL_law := (lr_4 _ (List.mem_of_getElem? (i := 6) rfl))
theorem ac_boolean : Cond.arrayClass .boolean ∈ wsL_law := (lr_4 _ (List.mem_of_getElem? (i := 20) rfl))
theorem cbX8_95 : CB RX8 95 yX8_comes cX8_comes 4 none 3 := ⟨(lr_5 _ (List.mem_of_getElem? (i := 14) rfl)), (lr_1 _ (List.mem_of_getElem? (i := 5) rfl)), (lr_5 _ (List.mem_of_getElem? (i := 17) rfl)), by decide +kernel, by decide +kernel, by decide +kernel⟩
theorem im_yX8_comes : Cond.instanceMethod yX8_comes ∈ wsL_law := (lr_5 _ (List.mem_of_getElem? (i := 15) rfl))
theorem se_yX8_comes : Cond.selects RX8 yX8_comes yX8_comes ∈ wsL_law := (lr_5 _ (List.mem_of_getElem? (i := 16) rfl))
theorem cbX8_114 : CB RX8 114 yX8_longer cX8_longer 3 (some (.array .int)) 1 := ⟨(lr_5 _ (List.mem_of_getElem? (i := 20) rfl)), (lr_1 _ (List.mem_of_getElem? (i := 5) rfl)), (lr_5 _ (List.mem_of_getElem? (i := 22) rfl)), by decide +kernel, by decide +kernel, by decide +kernel⟩
theorem sm_yX8_longer : Cond.static yX8_longer ∈ wsL_law := (lr_5 _ (List.mem_of_getElem? (i := 21) rfl))
theorem cbL_13 : CB RL 13 yX7_custom cX7_custom 3 (some .int) 2 := ⟨(lr_5 _ (List.mem_of_getElem? (i := 23) rfl)), (lr_1 _ (List.mem_of_getElem? (i := 2) rfl)), (lr_6 _ (List.mem_of_getElem? (i := 2) rfl)), by decide +kernel, by decide +kernel, by decide +kernel⟩
theorem im_yX7_custom : Cond.instanceMethod yX7_custom ∈ wsL_law := (lr_6 _ (List.mem_of_getElem? (i := 0) rfl))
theorem se_yX7_custom : Cond.selects RX7 yX7_custom yX7_custom ∈ wsL_law := (lr_6 _ (List.mem_of_getElem? (i := 1) rfl))
theorem cbX7_60 : CB RX7 60 yX0_canBe cX0_canBe 3 (some .boolean) 2 := ⟨(lr_6 _ (List.mem_of_getElem? (i := 3) rfl)), (lr_1 _ (List.mem_of_getElem? (i := 15) rfl)), (lr_6 _ (List.mem_of_getElem? (i := 5) rfl)), by decide +kernel, by decide +kernel, by decide +kernel⟩
theorem sm_yX0_canBe : Cond.static yX0_canBe ∈ wsL_law := (lr_6 _ (List.mem_of_getElem? (i := 4) rfl))
theorem cnX0_34 : Cond.constant RX0 34 (999999) ∈ wsL_law := (lr_6 _ (List.mem_of_getElem? (i := 6) rfl))
theorem clX0_11 : Cond.classLink RX0 11 RX0 ∈ wsL_law := (lr_6 _ (List.mem_of_getElem? (i := 7) rfl))
theorem cbX0_35 : CB RX0 35 yX0_init cX0_init 3 none 2 := ⟨(lr_6 _ (List.mem_of_getElem? (i := 8) rfl)), (lr_1 _ (List.mem_of_getElem? (i := 15) rfl)), (lr_2 _ (List.mem_of_getElem? (i := 12) rfl)), by decide +kernel, by decide +kernel, by decide +kernel⟩
theorem cbL_17 : CB RL 17 yX8_custom cX8_custom 7 (some .int) 2 := ⟨(lr_6 _ (List.mem_of_getElem? (i := 9) rfl)), (lr_1 _ (List.mem_of_getElem? (i := 5) rfl)), (lr_6 _ (List.mem_of_getElem? (i := 12) rfl)), by decide +kernel, by decide +kernel, by decide +kernel⟩
theorem im_yX8_custom : Cond.instanceMethod yX8_custom ∈ wsL_law := (lr_6 _ (List.mem_of_getElem? (i := 10) rfl))
theorem se_yX8_custom : Cond.selects RX8 yX8_custom yX8_custom ∈ wsL_law := (lr_6 _ (List.mem_of_getElem? (i := 11) rfl))
theorem cnX8_128 : Cond.constant RX8 128 (100000) ∈ wsL_law := (lr_6 _ (List.mem_of_getElem? (i := 13) rfl))
theorem cnX8_129 : Cond.constant RX8 129 (999999) ∈ wsL_law := (lr_6 _ (List.mem_of_getElem? (i := 14) rfl))
theorem cbX8_103 : CB RX8 103 yX8_in cX8_in 3 (some .boolean) 3 := ⟨(lr_6 _ (List.mem_of_getElem? (i := 23) rfl)), (lr_1 _ (List.mem_of_getElem? (i := 5) rfl)), (lr_7 _ (List.mem_of_getElem? (i := 1) rfl)), by decide +kernel, by decide +kernel, by decide +kernel⟩
theorem sm_yX8_in : Cond.static yX8_in ∈ wsL_law := (lr_7 _ (List.mem_of_getElem? (i := 0) rfl))
theorem cbL_18 : CB RL 18 yX7_person cX7_person 4 (some .int) 3 := ⟨(lr_7 _ (List.mem_of_getElem? (i := 2) rfl)), (lr_1 _ (List.mem_of_getElem? (i := 2) rfl)), (lr_7 _ (List.mem_of_getElem? (i := 5) rfl)), by decide +kernel, by decide +kernel, by decide +kernel⟩
theorem im_yX7_person : Cond.instanceMethod yX7_person ∈ wsL_law := (lr_7 _ (List.mem_of_getElem? (i := 3) rfl))
theorem se_yX7_person : Cond.selects RX7 yX7_person yX7_person ∈ wsL_law := (lr_7 _ (List.mem_of_getElem? (i := 4) rfl))
theorem clX7_70 : Cond.classLink RX7 70 RX4 ∈ wsL_law := (lr_7 _ (List.mem_of_getElem? (i := 7) rfl))
theorem in_RX4 : Cond.instantiable RX4 14 ∈ wsL_law := (lr_7 _ (List.mem_of_getElem? (i := 8) rfl))
theorem ini_RX4 : Cond.initialized RX4 ∈ wsL_law := (lr_7 _ (List.mem_of_getElem? (i := 9) rfl))
theorem cbX7_67 : CB RX7 67 yX3_mayBeParent cX3_mayBeParent 4 (some .boolean) 2 := ⟨(lr_7 _ (List.mem_of_getElem? (i := 10) rfl)), (lr_1 _ (List.mem_of_getElem? (i := 20) rfl)), (lr_7 _ (List.mem_of_getElem? (i := 13) rfl)), by decide +kernel, by decide +kernel, by decide +kernel⟩
theorem im_yX3_mayBeParent : Cond.instanceMethod yX3_mayBeParent ∈ wsL_law := (lr_7 _ (List.mem_of_getElem? (i := 11) rfl))
theorem se_yX3_mayBeParent : Cond.selects RX3 yX3_mayBeParent yX3_mayBeParent ∈ wsL_law := (lr_7 _ (List.mem_of_getElem? (i := 12) rfl))
theorem cbX3_21 : CB RX3 21 yX3_find cX3_find 2 (some (.object "ManorRolls$Person")) 1 := ⟨(lr_7 _ (List.mem_of_getElem? (i := 15) rfl)), (lr_1 _ (List.mem_of_getElem? (i := 20) rfl)), (lr_7 _ (List.mem_of_getElem? (i := 18) rfl)), by decide +kernel, by decide +kernel, by decide +kernel⟩
theorem im_yX3_find : Cond.instanceMethod yX3_find ∈ wsL_law := (lr_7 _ (List.mem_of_getElem? (i := 16) rfl))
theorem se_yX3_find : Cond.selects RX3 yX3_find yX3_find ∈ wsL_law := (lr_7 _ (List.mem_of_getElem? (i := 17) rfl))
theorem cbX7_72 : CB RX7 72 yX4_init cX4_init 5 none 4 := ⟨(lr_7 _ (List.mem_of_getElem? (i := 20) rfl)), (lr_7 _ (List.mem_of_getElem? (i := 9) rfl)), (lr_7 _ (List.mem_of_getElem? (i := 22) rfl)), by decide +kernel, by decide +kernel, by decide +kernel⟩
theorem im_yX4_init : Cond.instanceMethod yX4_init ∈ wsL_law := (lr_7 _ (List.mem_of_getElem? (i := 21) rfl))
theorem cbX7_75 : CB RX7 75 yX3_add cX3_add 3 (some .int) 1 := ⟨(lr_8 _ (List.mem_of_getElem? (i := 6) rfl)), (lr_1 _ (List.mem_of_getElem? (i := 20) rfl)), (lr_8 _ (List.mem_of_getElem? (i := 9) rfl)), by decide +kernel, by decide +kernel, by decide +kernel⟩
theorem im_yX3_add : Cond.instanceMethod yX3_add ∈ wsL_law := (lr_8 _ (List.mem_of_getElem? (i := 7) rfl))
theorem se_yX3_add : Cond.selects RX3 yX3_add yX3_add ∈ wsL_law := (lr_8 _ (List.mem_of_getElem? (i := 8) rfl))
theorem cbX3_35 : CB RX3 35 yX3_addChildTo cX3_addChildTo 5 none 3 := ⟨(lr_8 _ (List.mem_of_getElem? (i := 12) rfl)), (lr_1 _ (List.mem_of_getElem? (i := 20) rfl)), (lr_8 _ (List.mem_of_getElem? (i := 15) rfl)), by decide +kernel, by decide +kernel, by decide +kernel⟩
theorem im_yX3_addChildTo : Cond.instanceMethod yX3_addChildTo ∈ wsL_law := (lr_8 _ (List.mem_of_getElem? (i := 13) rfl))
theorem se_yX3_addChildTo : Cond.selects RX3 yX3_addChildTo yX3_addChildTo ∈ wsL_law := (lr_8 _ (List.mem_of_getElem? (i := 14) rfl))
theorem cbX3_42 : CB RX3 42 yX4_addChild cX4_addChild 3 none 2 := ⟨(lr_8 _ (List.mem_of_getElem? (i := 16) rfl)), (lr_7 _ (List.mem_of_getElem? (i := 9) rfl)), (lr_8 _ (List.mem_of_getElem? (i := 19) rfl)), by decide +kernel, by decide +kernel, by decide +kernel⟩
theorem im_yX4_addChild : Cond.instanceMethod yX4_addChild ∈ wsL_law := (lr_8 _ (List.mem_of_getElem? (i := 17) rfl))
theorem se_yX4_addChild : Cond.selects RX4 yX4_addChild yX4_addChild ∈ wsL_law := (lr_8 _ (List.mem_of_getElem? (i := 18) rfl))
theorem cbL_22 : CB RL 22 yX8_person cX8_person 4 (some .int) 3 := ⟨(lr_8 _ (List.mem_of_getElem? (i := 22) rfl)), (lr_1 _ (List.mem_of_getElem? (i := 5) rfl)), (lr_9 _ (List.mem_of_getElem? (i := 1) rfl)), by decide +kernel, by decide +kernel, by decide +kernel⟩
theorem im_yX8_person : Cond.instanceMethod yX8_person ∈ wsL_law := (lr_8 _ (List.mem_of_getElem? (i := 23) rfl))
theorem se_yX8_person : Cond.selects RX8 yX8_person yX8_person ∈ wsL_law := (lr_9 _ (List.mem_of_getElem? (i := 0) rfl))
theorem cbX8_107 : CB RX8 107 yX8_isPerson cX8_isPerson 2 (some .boolean) 1 := ⟨(lr_9 _ (List.mem_of_getElem? (i := 3) rfl)), (lr_1 _ (List.mem_of_getElem? (i := 5) rfl)), (lr_9 _ (List.mem_of_getElem? (i := 6) rfl)), by decide +kernel, by decide +kernel, by decide +kernel⟩
theorem im_yX8_isPerson : Cond.instanceMethod yX8_isPerson ∈ wsL_law := (lr_9 _ (List.mem_of_getElem? (i := 4) rfl))
theorem se_yX8_isPerson : Cond.selects RX8 yX8_isPerson yX8_isPerson ∈ wsL_law := (lr_9 _ (List.mem_of_getElem? (i := 5) rfl))
theorem cbL_23 : CB RL 23 yX7_marry cX7_marry 5 (some .boolean) 2 := ⟨(lr_9 _ (List.mem_of_getElem? (i := 7) rfl)), (lr_1 _ (List.mem_of_getElem? (i := 2) rfl)), (lr_9 _ (List.mem_of_getElem? (i := 10) rfl)), by decide +kernel, by decide +kernel, by decide +kernel⟩
theorem im_yX7_marry : Cond.instanceMethod yX7_marry ∈ wsL_law := (lr_9 _ (List.mem_of_getElem? (i := 8) rfl))
theorem se_yX7_marry : Cond.selects RX7 yX7_marry yX7_marry ∈ wsL_law := (lr_9 _ (List.mem_of_getElem? (i := 9) rfl))
theorem cbX7_79 : CB RX7 79 yX3_findAlive cX3_findAlive 3 (some (.object "ManorRolls$Person")) 1 := ⟨(lr_9 _ (List.mem_of_getElem? (i := 13) rfl)), (lr_1 _ (List.mem_of_getElem? (i := 20) rfl)), (lr_9 _ (List.mem_of_getElem? (i := 16) rfl)), by decide +kernel, by decide +kernel, by decide +kernel⟩
theorem im_yX3_findAlive : Cond.instanceMethod yX3_findAlive ∈ wsL_law := (lr_9 _ (List.mem_of_getElem? (i := 14) rfl))
theorem se_yX3_findAlive : Cond.selects RX3 yX3_findAlive yX3_findAlive ∈ wsL_law := (lr_9 _ (List.mem_of_getElem? (i := 15) rfl))
theorem cbX7_89 : CB RX7 89 yX7_passWidowsParts cX7_passWidowsParts 4 (some .int) 1 := ⟨(lr_9 _ (List.mem_of_getElem? (i := 18) rfl)), (lr_1 _ (List.mem_of_getElem? (i := 2) rfl)), (lr_9 _ (List.mem_of_getElem? (i := 21) rfl)), by decide +kernel, by decide +kernel, by decide +kernel⟩
theorem im_yX7_passWidowsParts : Cond.instanceMethod yX7_passWidowsParts ∈ wsL_law := (lr_9 _ (List.mem_of_getElem? (i := 19) rfl))
theorem se_yX7_passWidowsParts : Cond.selects RX7 yX7_passWidowsParts yX7_passWidowsParts ∈ wsL_law := (lr_9 _ (List.mem_of_getElem? (i := 20) rfl))
theorem cbX7_112 : CB RX7 112 yX2_pick cX2_pick 7 none 3 := ⟨(lr_10 _ (List.mem_of_getElem? (i := 0) rfl)), (lr_2 _ (List.mem_of_getElem? (i := 0) rfl)), (lr_10 _ (List.mem_of_getElem? (i := 3) rfl)), by decide +kernel, by decide +kernel, by decide +kernel⟩
theorem im_yX2_pick : Cond.instanceMethod yX2_pick ∈ wsL_law := (lr_10 _ (List.mem_of_getElem? (i := 1) rfl))
theorem se_yX2_pick : Cond.selects RX2 yX2_pick yX2_pick ∈ wsL_law := (lr_10 _ (List.mem_of_getElem? (i := 2) rfl))
theorem cbX2_31 : CB RX2 31 yX2_find cX2_find 2 (some (.object "ManorRolls$Right")) 1 := ⟨(lr_10 _ (List.mem_of_getElem? (i := 7) rfl)), (lr_2 _ (List.mem_of_getElem? (i := 0) rfl)), (lr_10 _ (List.mem_of_getElem? (i := 10) rfl)), by decide +kernel, by decide +kernel, by decide +kernel⟩
theorem im_yX2_find : Cond.instanceMethod yX2_find ∈ wsL_law := (lr_10 _ (List.mem_of_getElem? (i := 8) rfl))
theorem se_yX2_find : Cond.selects RX2 yX2_find yX2_find ∈ wsL_law := (lr_10 _ (List.mem_of_getElem? (i := 9) rfl))
theorem cbX7_246 : CB RX7 246 yX2_giverOf cX2_giverOf 3 (some .int) 1 := ⟨(lr_10 _ (List.mem_of_getElem? (i := 11) rfl)), (lr_2 _ (List.mem_of_getElem? (i := 0) rfl)), (lr_10 _ (List.mem_of_getElem? (i := 14) rfl)), by decide +kernel, by decide +kernel, by decide +kernel⟩
theorem im_yX2_giverOf : Cond.instanceMethod yX2_giverOf ∈ wsL_law := (lr_10 _ (List.mem_of_getElem? (i := 12) rfl))
theorem se_yX2_giverOf : Cond.selects RX2 yX2_giverOf yX2_giverOf ∈ wsL_law := (lr_10 _ (List.mem_of_getElem? (i := 13) rfl))
theorem cbX7_237 : CB RX7 237 yX7_passPicked cX7_passPicked 5 none 2 := ⟨(lr_10 _ (List.mem_of_getElem? (i := 16) rfl)), (lr_1 _ (List.mem_of_getElem? (i := 2) rfl)), (lr_10 _ (List.mem_of_getElem? (i := 19) rfl)), by decide +kernel, by decide +kernel, by decide +kernel⟩
theorem im_yX7_passPicked : Cond.instanceMethod yX7_passPicked ∈ wsL_law := (lr_10 _ (List.mem_of_getElem? (i := 17) rfl))
theorem se_yX7_passPicked : Cond.selects RX7 yX7_passPicked yX7_passPicked ∈ wsL_law := (lr_10 _ (List.mem_of_getElem? (i := 18) rfl))
theorem cbX7_249 : CB RX7 249 yX1_share cX1_share 5 none 3 := ⟨(lr_10 _ (List.mem_of_getElem? (i := 22) rfl)), (lr_2 _ (List.mem_of_getElem? (i := 4) rfl)), (lr_11 _ (List.mem_of_getElem? (i := 1) rfl)), by decide +kernel, by decide +kernel, by decide +kernel⟩
theorem im_yX1_share : Cond.instanceMethod yX1_share ∈ wsL_law := (lr_10 _ (List.mem_of_getElem? (i := 23) rfl))
theorem se_yX1_share : Cond.selects RX1 yX1_share yX1_share ∈ wsL_law := (lr_11 _ (List.mem_of_getElem? (i := 0) rfl))
theorem cbX1_22 : CB RX1 22 yX1_look cX1_look 6 none 2 := ⟨(lr_11 _ (List.mem_of_getElem? (i := 6) rfl)), (lr_2 _ (List.mem_of_getElem? (i := 4) rfl)), (lr_11 _ (List.mem_of_getElem? (i := 9) rfl)), by decide +kernel, by decide +kernel, by decide +kernel⟩
theorem im_yX1_look : Cond.instanceMethod yX1_look ∈ wsL_law := (lr_11 _ (List.mem_of_getElem? (i := 7) rfl))
theorem se_yX1_look : Cond.selects RX1 yX1_look yX1_look ∈ wsL_law := (lr_11 _ (List.mem_of_getElem? (i := 8) rfl))
theorem cbX1_63 : CB RX1 63 yX3_find cX3_find 2 (some (.object "ManorRolls$Person")) 1 := ⟨(lr_11 _ (List.mem_of_getElem? (i := 17) rfl)), (lr_1 _ (List.mem_of_getElem? (i := 20) rfl)), (lr_7 _ (List.mem_of_getElem? (i := 18) rfl)), by decide +kernel, by decide +kernel, by decide +kernel⟩
theorem cbX1_30 : CB RX1 30 yX1_firstLine cX1_firstLine 5 (some .long) 1 := ⟨(lr_11 _ (List.mem_of_getElem? (i := 18) rfl)), (lr_2 _ (List.mem_of_getElem? (i := 4) rfl)), (lr_11 _ (List.mem_of_getElem? (i := 21) rfl)), by decide +kernel, by decide +kernel, by decide +kernel⟩
theorem im_yX1_firstLine : Cond.instanceMethod yX1_firstLine ∈ wsL_law := (lr_11 _ (List.mem_of_getElem? (i := 19) rfl))
theorem se_yX1_firstLine : Cond.selects RX1 yX1_firstLine yX1_firstLine ∈ wsL_law := (lr_11 _ (List.mem_of_getElem? (i := 20) rfl))
theorem cbX1_79 : CB RX1 79 yX1_lineBelow cX1_lineBelow 7 (some .long) 2 := ⟨(lr_11 _ (List.mem_of_getElem? (i := 23) rfl)), (lr_2 _ (List.mem_of_getElem? (i := 4) rfl)), (lr_12 _ (List.mem_of_getElem? (i := 2) rfl)), by decide +kernel, by decide +kernel, by decide +kernel⟩
theorem im_yX1_lineBelow : Cond.instanceMethod yX1_lineBelow ∈ wsL_law := (lr_12 _ (List.mem_of_getElem? (i := 0) rfl))
theorem se_yX1_lineBelow : Cond.selects RX1 yX1_lineBelow yX1_lineBelow ∈ wsL_law := (lr_12 _ (List.mem_of_getElem? (i := 1) rfl))
theorem cnX1_86 : Cond.constantLong RX1 86 (-1) ∈ wsL_law := (lr_12 _ (List.mem_of_getElem? (i := 3) rfl))
theorem cbX1_88 : CB RX1 88 yX1_youngestOf cX1_youngestOf 4 (some .long) 1 := ⟨(lr_12 _ (List.mem_of_getElem? (i := 4) rfl)), (lr_2 _ (List.mem_of_getElem? (i := 4) rfl)), (lr_12 _ (List.mem_of_getElem? (i := 6) rfl)), by decide +kernel, by decide +kernel, by decide +kernel⟩
theorem sm_yX1_youngestOf : Cond.static yX1_youngestOf ∈ wsL_law := (lr_12 _ (List.mem_of_getElem? (i := 5) rfl))
theorem cnX1_92 : Cond.constantLong RX1 92 (576460752303423488) ∈ wsL_law := (lr_12 _ (List.mem_of_getElem? (i := 7) rfl))
theorem cbX1_44 : CB RX1 44 yX1_shareLine cX1_shareLine 13 none 4 := ⟨(lr_12 _ (List.mem_of_getElem? (i := 8) rfl)), (lr_2 _ (List.mem_of_getElem? (i := 4) rfl)), (lr_12 _ (List.mem_of_getElem? (i := 11) rfl)), by decide +kernel, by decide +kernel, by decide +kernel⟩
theorem im_yX1_shareLine : Cond.instanceMethod yX1_shareLine ∈ wsL_law := (lr_12 _ (List.mem_of_getElem? (i := 9) rfl))
theorem se_yX1_shareLine : Cond.selects RX1 yX1_shareLine yX1_shareLine ∈ wsL_law := (lr_12 _ (List.mem_of_getElem? (i := 10) rfl))
theorem cbX1_98 : CB RX1 98 yJ13_bitCount_95d88 cJ13_bitCount_95d88 2 (some .int) 1 := ⟨(lr_12 _ (List.mem_of_getElem? (i := 12) rfl)), (lr_12 _ (List.mem_of_getElem? (i := 14) rfl)), (lr_12 _ (List.mem_of_getElem? (i := 15) rfl)), by decide +kernel, by decide +kernel, by decide +kernel⟩
theorem sm_yJ13_bitCount_95d88 : Cond.static yJ13_bitCount_95d88 ∈ wsL_law := (lr_12 _ (List.mem_of_getElem? (i := 13) rfl))
theorem ini_RJ13 : Cond.initialized RJ13 ∈ wsL_law := (lr_12 _ (List.mem_of_getElem? (i := 14) rfl))
theorem cnJ13_314 : Cond.constantLong RJ13 314 (6148914691236517205) ∈ wsL_law := (lr_12 _ (List.mem_of_getElem? (i := 16) rfl))
theorem cnJ13_316 : Cond.constantLong RJ13 316 (3689348814741910323) ∈ wsL_law := (lr_12 _ (List.mem_of_getElem? (i := 17) rfl))
theorem cnJ13_318 : Cond.constantLong RJ13 318 (1085102592571150095) ∈ wsL_law := (lr_12 _ (List.mem_of_getElem? (i := 18) rfl))
theorem cbX1_94 : CB RX1 94 yX1_isIn cX1_isIn 3 (some .boolean) 2 := ⟨(lr_12 _ (List.mem_of_getElem? (i := 19) rfl)), (lr_2 _ (List.mem_of_getElem? (i := 4) rfl)), (lr_12 _ (List.mem_of_getElem? (i := 21) rfl)), by decide +kernel, by decide +kernel, by decide +kernel⟩
theorem sm_yX1_isIn : Cond.static yX1_isIn ∈ wsL_law := (lr_12 _ (List.mem_of_getElem? (i := 20) rfl))
theorem cbX1_104 : CB RX1 104 yX1_give cX1_give 5 none 3 := ⟨(lr_12 _ (List.mem_of_getElem? (i := 22) rfl)), (lr_2 _ (List.mem_of_getElem? (i := 4) rfl)), (lr_13 _ (List.mem_of_getElem? (i := 1) rfl)), by decide +kernel, by decide +kernel, by decide +kernel⟩
theorem im_yX1_give : Cond.instanceMethod yX1_give ∈ wsL_law := (lr_12 _ (List.mem_of_getElem? (i := 23) rfl))
theorem se_yX1_give : Cond.selects RX1 yX1_give yX1_give ∈ wsL_law := (lr_13 _ (List.mem_of_getElem? (i := 0) rfl))
theorem cbX7_119 : CB RX7 119 yX2_bringPicked cX2_bringPicked 9 none 5 := ⟨(lr_13 _ (List.mem_of_getElem? (i := 2) rfl)), (lr_2 _ (List.mem_of_getElem? (i := 0) rfl)), (lr_13 _ (List.mem_of_getElem? (i := 5) rfl)), by decide +kernel, by decide +kernel, by decide +kernel⟩
theorem im_yX2_bringPicked : Cond.instanceMethod yX2_bringPicked ∈ wsL_law := (lr_13 _ (List.mem_of_getElem? (i := 3) rfl))
theorem se_yX2_bringPicked : Cond.selects RX2 yX2_bringPicked yX2_bringPicked ∈ wsL_law := (lr_13 _ (List.mem_of_getElem? (i := 4) rfl))
theorem cnX2_47 : Cond.constant RX2 47 (61560) ∈ wsL_law := (lr_13 _ (List.mem_of_getElem? (i := 9) rfl))
theorem cbX7_93 : CB RX7 93 yX7_oweMerchet cX7_oweMerchet 4 none 1 := ⟨(lr_13 _ (List.mem_of_getElem? (i := 10) rfl)), (lr_1 _ (List.mem_of_getElem? (i := 2) rfl)), (lr_13 _ (List.mem_of_getElem? (i := 13) rfl)), by decide +kernel, by decide +kernel, by decide +kernel⟩
theorem im_yX7_oweMerchet : Cond.instanceMethod yX7_oweMerchet ∈ wsL_law := (lr_13 _ (List.mem_of_getElem? (i := 11) rfl))
theorem se_yX7_oweMerchet : Cond.selects RX7 yX7_oweMerchet yX7_oweMerchet ∈ wsL_law := (lr_13 _ (List.mem_of_getElem? (i := 12) rfl))
theorem cbL_27 : CB RL 27 yX8_marry cX8_marry 6 (some .boolean) 2 := ⟨(lr_13 _ (List.mem_of_getElem? (i := 17) rfl)), (lr_1 _ (List.mem_of_getElem? (i := 5) rfl)), (lr_13 _ (List.mem_of_getElem? (i := 20) rfl)), by decide +kernel, by decide +kernel, by decide +kernel⟩
theorem im_yX8_marry : Cond.instanceMethod yX8_marry ∈ wsL_law := (lr_13 _ (List.mem_of_getElem? (i := 18) rfl))
theorem se_yX8_marry : Cond.selects RX8 yX8_marry yX8_marry ∈ wsL_law := (lr_13 _ (List.mem_of_getElem? (i := 19) rfl))
theorem cbX8_188 : CB RX8 188 yX8_lives cX8_lives 2 (some .boolean) 1 := ⟨(lr_13 _ (List.mem_of_getElem? (i := 21) rfl)), (lr_1 _ (List.mem_of_getElem? (i := 5) rfl)), (lr_14 _ (List.mem_of_getElem? (i := 0) rfl)), by decide +kernel, by decide +kernel, by decide +kernel⟩
theorem im_yX8_lives : Cond.instanceMethod yX8_lives ∈ wsL_law := (lr_13 _ (List.mem_of_getElem? (i := 22) rfl))
theorem se_yX8_lives : Cond.selects RX8 yX8_lives yX8_lives ∈ wsL_law := (lr_13 _ (List.mem_of_getElem? (i := 23) rfl))
theorem cbX8_191 : CB RX8 191 yX8_widowPasses cX8_widowPasses 7 (some .int) 2 := ⟨(lr_14 _ (List.mem_of_getElem? (i := 1) rfl)), (lr_1 _ (List.mem_of_getElem? (i := 5) rfl)), (lr_14 _ (List.mem_of_getElem? (i := 4) rfl)), by decide +kernel, by decide +kernel, by decide +kernel⟩
theorem im_yX8_widowPasses : Cond.instanceMethod yX8_widowPasses ∈ wsL_law := (lr_14 _ (List.mem_of_getElem? (i := 2) rfl))
theorem se_yX8_widowPasses : Cond.selects RX8 yX8_widowPasses yX8_widowPasses ∈ wsL_law := (lr_14 _ (List.mem_of_getElem? (i := 3) rfl))
theorem cbX8_185 : CB RX8 185 yX8_passes cX8_passes 6 none 3 := ⟨(lr_14 _ (List.mem_of_getElem? (i := 5) rfl)), (lr_1 _ (List.mem_of_getElem? (i := 5) rfl)), (lr_14 _ (List.mem_of_getElem? (i := 8) rfl)), by decide +kernel, by decide +kernel, by decide +kernel⟩
theorem im_yX8_passes : Cond.instanceMethod yX8_passes ∈ wsL_law := (lr_14 _ (List.mem_of_getElem? (i := 6) rfl))
theorem se_yX8_passes : Cond.selects RX8 yX8_passes yX8_passes ∈ wsL_law := (lr_14 _ (List.mem_of_getElem? (i := 7) rfl))
theorem cbX8_174 : CB RX8 174 yX8_lines cX8_lines 3 none 0 := ⟨(lr_14 _ (List.mem_of_getElem? (i := 10) rfl)), (lr_1 _ (List.mem_of_getElem? (i := 5) rfl)), (lr_14 _ (List.mem_of_getElem? (i := 13) rfl)), by decide +kernel, by decide +kernel, by decide +kernel⟩
theorem im_yX8_lines : Cond.instanceMethod yX8_lines ∈ wsL_law := (lr_14 _ (List.mem_of_getElem? (i := 11) rfl))
theorem se_yX8_lines : Cond.selects RX8 yX8_lines yX8_lines ∈ wsL_law := (lr_14 _ (List.mem_of_getElem? (i := 12) rfl))
theorem cbX8_154 : CB RX8 154 yX8_isChild cX8_isChild 3 (some .boolean) 2 := ⟨(lr_14 _ (List.mem_of_getElem? (i := 14) rfl)), (lr_1 _ (List.mem_of_getElem? (i := 5) rfl)), (lr_14 _ (List.mem_of_getElem? (i := 17) rfl)), by decide +kernel, by decide +kernel, by decide +kernel⟩
theorem im_yX8_isChild : Cond.instanceMethod yX8_isChild ∈ wsL_law := (lr_14 _ (List.mem_of_getElem? (i := 15) rfl))
theorem se_yX8_isChild : Cond.selects RX8 yX8_isChild yX8_isChild ∈ wsL_law := (lr_14 _ (List.mem_of_getElem? (i := 16) rfl))
theorem cbX8_177 : CB RX8 177 yX8_first cX8_first 3 (some .int) 1 := ⟨(lr_14 _ (List.mem_of_getElem? (i := 18) rfl)), (lr_1 _ (List.mem_of_getElem? (i := 5) rfl)), (lr_14 _ (List.mem_of_getElem? (i := 21) rfl)), by decide +kernel, by decide +kernel, by decide +kernel⟩
theorem im_yX8_first : Cond.instanceMethod yX8_first ∈ wsL_law := (lr_14 _ (List.mem_of_getElem? (i := 19) rfl))
theorem se_yX8_first : Cond.selects RX8 yX8_first yX8_first ∈ wsL_law := (lr_14 _ (List.mem_of_getElem? (i := 20) rfl))
theorem cbX8_161 : CB RX8 161 yX8_group cX8_group 8 (some .int) 2 := ⟨(lr_14 _ (List.mem_of_getElem? (i := 22) rfl)), (lr_1 _ (List.mem_of_getElem? (i := 5) rfl)), (lr_15 _ (List.mem_of_getElem? (i := 1) rfl)), by decide +kernel, by decide +kernel, by decide +kernel⟩
theorem im_yX8_group : Cond.instanceMethod yX8_group ∈ wsL_law := (lr_14 _ (List.mem_of_getElem? (i := 23) rfl))
theorem se_yX8_group : Cond.selects RX8 yX8_group yX8_group ∈ wsL_law := (lr_15 _ (List.mem_of_getElem? (i := 0) rfl))
theorem cbX8_181 : CB RX8 181 yX8_shares cX8_shares 11 none 4 := ⟨(lr_15 _ (List.mem_of_getElem? (i := 2) rfl)), (lr_1 _ (List.mem_of_getElem? (i := 5) rfl)), (lr_15 _ (List.mem_of_getElem? (i := 5) rfl)), by decide +kernel, by decide +kernel, by decide +kernel⟩
theorem im_yX8_shares : Cond.instanceMethod yX8_shares ∈ wsL_law := (lr_15 _ (List.mem_of_getElem? (i := 3) rfl))
theorem se_yX8_shares : Cond.selects RX8 yX8_shares yX8_shares ∈ wsL_law := (lr_15 _ (List.mem_of_getElem? (i := 4) rfl))
theorem cbL_28 : CB RL 28 yX7_die cX7_die 5 (some .int) 1 := ⟨(lr_15 _ (List.mem_of_getElem? (i := 6) rfl)), (lr_1 _ (List.mem_of_getElem? (i := 2) rfl)), (lr_15 _ (List.mem_of_getElem? (i := 9) rfl)), by decide +kernel, by decide +kernel, by decide +kernel⟩
theorem im_yX7_die : Cond.instanceMethod yX7_die ∈ wsL_law := (lr_15 _ (List.mem_of_getElem? (i := 7) rfl))
theorem se_yX7_die : Cond.selects RX7 yX7_die yX7_die ∈ wsL_law := (lr_15 _ (List.mem_of_getElem? (i := 8) rfl))
theorem cbX7_101 : CB RX7 101 yX7_passOwnStrips cX7_passOwnStrips 7 (some .int) 2 := ⟨(lr_15 _ (List.mem_of_getElem? (i := 11) rfl)), (lr_1 _ (List.mem_of_getElem? (i := 2) rfl)), (lr_15 _ (List.mem_of_getElem? (i := 14) rfl)), by decide +kernel, by decide +kernel, by decide +kernel⟩
theorem im_yX7_passOwnStrips : Cond.instanceMethod yX7_passOwnStrips ∈ wsL_law := (lr_15 _ (List.mem_of_getElem? (i := 12) rfl))
theorem se_yX7_passOwnStrips : Cond.selects RX7 yX7_passOwnStrips yX7_passOwnStrips ∈ wsL_law := (lr_15 _ (List.mem_of_getElem? (i := 13) rfl))
theorem cbX7_105 : CB RX7 105 yX3_find cX3_find 2 (some (.object "ManorRolls$Person")) 1 := ⟨(lr_15 _ (List.mem_of_getElem? (i := 17) rfl)), (lr_1 _ (List.mem_of_getElem? (i := 20) rfl)), (lr_7 _ (List.mem_of_getElem? (i := 18) rfl)), by decide +kernel, by decide +kernel, by decide +kernel⟩
theorem cbL_32 : CB RL 32 yX8_die cX8_die 8 (some .int) 1 := ⟨(lr_15 _ (List.mem_of_getElem? (i := 18) rfl)), (lr_1 _ (List.mem_of_getElem? (i := 5) rfl)), (lr_15 _ (List.mem_of_getElem? (i := 21) rfl)), by decide +kernel, by decide +kernel, by decide +kernel⟩
theorem im_yX8_die : Cond.instanceMethod yX8_die ∈ wsL_law := (lr_15 _ (List.mem_of_getElem? (i := 19) rfl))
theorem se_yX8_die : Cond.selects RX8 yX8_die yX8_die ∈ wsL_law := (lr_15 _ (List.mem_of_getElem? (i := 20) rfl))
theorem cbX8_194 : CB RX8 194 yX8_own cX8_own 5 (some .int) 2 := ⟨(lr_15 _ (List.mem_of_getElem? (i := 22) rfl)), (lr_1 _ (List.mem_of_getElem? (i := 5) rfl)), (lr_16 _ (List.mem_of_getElem? (i := 1) rfl)), by decide +kernel, by decide +kernel, by decide +kernel⟩
theorem im_yX8_own : Cond.instanceMethod yX8_own ∈ wsL_law := (lr_15 _ (List.mem_of_getElem? (i := 23) rfl))
theorem se_yX8_own : Cond.selects RX8 yX8_own yX8_own ∈ wsL_law := (lr_16 _ (List.mem_of_getElem? (i := 0) rfl))
theorem cbL_33 : CB RL 33 yX7_grant cX7_grant 4 (some .boolean) 3 := ⟨(lr_16 _ (List.mem_of_getElem? (i := 2) rfl)), (lr_1 _ (List.mem_of_getElem? (i := 2) rfl)), (lr_16 _ (List.mem_of_getElem? (i := 5) rfl)), by decide +kernel, by decide +kernel, by decide +kernel⟩
theorem im_yX7_grant : Cond.instanceMethod yX7_grant ∈ wsL_law := (lr_16 _ (List.mem_of_getElem? (i := 3) rfl))
theorem se_yX7_grant : Cond.selects RX7 yX7_grant yX7_grant ∈ wsL_law := (lr_16 _ (List.mem_of_getElem? (i := 4) rfl))
theorem cbX7_108 : CB RX7 108 yX7_isHolding cX7_isHolding 1 (some .boolean) 1 := ⟨(lr_16 _ (List.mem_of_getElem? (i := 6) rfl)), (lr_1 _ (List.mem_of_getElem? (i := 2) rfl)), (lr_16 _ (List.mem_of_getElem? (i := 8) rfl)), by decide +kernel, by decide +kernel, by decide +kernel⟩
theorem sm_yX7_isHolding : Cond.static yX7_isHolding ∈ wsL_law := (lr_16 _ (List.mem_of_getElem? (i := 7) rfl))
theorem cbL_37 : CB RL 37 yX8_grant cX8_grant 4 (some .boolean) 3 := ⟨(lr_16 _ (List.mem_of_getElem? (i := 9) rfl)), (lr_1 _ (List.mem_of_getElem? (i := 5) rfl)), (lr_16 _ (List.mem_of_getElem? (i := 12) rfl)), by decide +kernel, by decide +kernel, by decide +kernel⟩
theorem im_yX8_grant : Cond.instanceMethod yX8_grant ∈ wsL_law := (lr_16 _ (List.mem_of_getElem? (i := 10) rfl))
theorem se_yX8_grant : Cond.selects RX8 yX8_grant yX8_grant ∈ wsL_law := (lr_16 _ (List.mem_of_getElem? (i := 11) rfl))
theorem cbX8_197 : CB RX8 197 yX8_moves cX8_moves 8 (some .boolean) 5 := ⟨(lr_16 _ (List.mem_of_getElem? (i := 13) rfl)), (lr_1 _ (List.mem_of_getElem? (i := 5) rfl)), (lr_16 _ (List.mem_of_getElem? (i := 16) rfl)), by decide +kernel, by decide +kernel, by decide +kernel⟩
theorem im_yX8_moves : Cond.instanceMethod yX8_moves ∈ wsL_law := (lr_16 _ (List.mem_of_getElem? (i := 14) rfl))
theorem se_yX8_moves : Cond.selects RX8 yX8_moves yX8_moves ∈ wsL_law := (lr_16 _ (List.mem_of_getElem? (i := 15) rfl))
theorem cbL_38 : CB RL 38 yX7_rod cX7_rod 6 (some .boolean) 4 := ⟨(lr_16 _ (List.mem_of_getElem? (i := 17) rfl)), (lr_1 _ (List.mem_of_getElem? (i := 2) rfl)), (lr_16 _ (List.mem_of_getElem? (i := 20) rfl)), by decide +kernel, by decide +kernel, by decide +kernel⟩
theorem im_yX7_rod : Cond.instanceMethod yX7_rod ∈ wsL_law := (lr_16 _ (List.mem_of_getElem? (i := 18) rfl))
theorem se_yX7_rod : Cond.selects RX7 yX7_rod yX7_rod ∈ wsL_law := (lr_16 _ (List.mem_of_getElem? (i := 19) rfl))
theorem cbL_42 : CB RL 42 yX8_rod cX8_rod 5 (some .boolean) 4 := ⟨(lr_16 _ (List.mem_of_getElem? (i := 22) rfl)), (lr_1 _ (List.mem_of_getElem? (i := 5) rfl)), (lr_17 _ (List.mem_of_getElem? (i := 1) rfl)), by decide +kernel, by decide +kernel, by decide +kernel⟩
theorem im_yX8_rod : Cond.instanceMethod yX8_rod ∈ wsL_law := (lr_16 _ (List.mem_of_getElem? (i := 23) rfl))
theorem se_yX8_rod : Cond.selects RX8 yX8_rod yX8_rod ∈ wsL_law := (lr_17 _ (List.mem_of_getElem? (i := 0) rfl))
theorem cbL_43 : CB RL 43 yX7_weeks cX7_weeks 4 (some .int) 1 := ⟨(lr_17 _ (List.mem_of_getElem? (i := 2) rfl)), (lr_1 _ (List.mem_of_getElem? (i := 2) rfl)), (lr_17 _ (List.mem_of_getElem? (i := 5) rfl)), by decide +kernel, by decide +kernel, by decide +kernel⟩
theorem im_yX7_weeks : Cond.instanceMethod yX7_weeks ∈ wsL_law := (lr_17 _ (List.mem_of_getElem? (i := 3) rfl))
theorem se_yX7_weeks : Cond.selects RX7 yX7_weeks yX7_weeks ∈ wsL_law := (lr_17 _ (List.mem_of_getElem? (i := 4) rfl))
theorem cnX7_129 : Cond.constant RX7 129 (40000) ∈ wsL_law := (lr_17 _ (List.mem_of_getElem? (i := 6) rfl))
theorem cbX7_130 : CB RX7 130 yX2_heldBy cX2_heldBy 5 (some .int) 1 := ⟨(lr_17 _ (List.mem_of_getElem? (i := 8) rfl)), (lr_2 _ (List.mem_of_getElem? (i := 0) rfl)), (lr_17 _ (List.mem_of_getElem? (i := 11) rfl)), by decide +kernel, by decide +kernel, by decide +kernel⟩
theorem im_yX2_heldBy : Cond.instanceMethod yX2_heldBy ∈ wsL_law := (lr_17 _ (List.mem_of_getElem? (i := 9) rfl))
theorem se_yX2_heldBy : Cond.selects RX2 yX2_heldBy yX2_heldBy ∈ wsL_law := (lr_17 _ (List.mem_of_getElem? (i := 10) rfl))
theorem cbX7_136 : CB RX7 136 yX4_spendWeeks cX4_spendWeeks 4 none 2 := ⟨(lr_17 _ (List.mem_of_getElem? (i := 12) rfl)), (lr_7 _ (List.mem_of_getElem? (i := 9) rfl)), (lr_17 _ (List.mem_of_getElem? (i := 15) rfl)), by decide +kernel, by decide +kernel, by decide +kernel⟩
theorem im_yX4_spendWeeks : Cond.instanceMethod yX4_spendWeeks ∈ wsL_law := (lr_17 _ (List.mem_of_getElem? (i := 13) rfl))
theorem se_yX4_spendWeeks : Cond.selects RX4 yX4_spendWeeks yX4_spendWeeks ∈ wsL_law := (lr_17 _ (List.mem_of_getElem? (i := 14) rfl))
theorem cbL_46 : CB RL 46 yX8_weeks cX8_weeks 5 (some .int) 1 := ⟨(lr_17 _ (List.mem_of_getElem? (i := 20) rfl)), (lr_1 _ (List.mem_of_getElem? (i := 5) rfl)), (lr_17 _ (List.mem_of_getElem? (i := 23) rfl)), by decide +kernel, by decide +kernel, by decide +kernel⟩
theorem im_yX8_weeks : Cond.instanceMethod yX8_weeks ∈ wsL_law := (lr_17 _ (List.mem_of_getElem? (i := 21) rfl))
theorem se_yX8_weeks : Cond.selects RX8 yX8_weeks yX8_weeks ∈ wsL_law := (lr_17 _ (List.mem_of_getElem? (i := 22) rfl))
theorem cnX8_201 : Cond.constant RX8 201 (40000) ∈ wsL_law := (lr_18 _ (List.mem_of_getElem? (i := 0) rfl))
theorem cbX8_202 : CB RX8 202 yX8_held cX8_held 5 (some .int) 2 := ⟨(lr_18 _ (List.mem_of_getElem? (i := 1) rfl)), (lr_1 _ (List.mem_of_getElem? (i := 5) rfl)), (lr_18 _ (List.mem_of_getElem? (i := 4) rfl)), by decide +kernel, by decide +kernel, by decide +kernel⟩
theorem im_yX8_held : Cond.instanceMethod yX8_held ∈ wsL_law := (lr_18 _ (List.mem_of_getElem? (i := 2) rfl))
theorem se_yX8_held : Cond.selects RX8 yX8_held yX8_held ∈ wsL_law := (lr_18 _ (List.mem_of_getElem? (i := 3) rfl))
theorem cbL_47 : CB RL 47 yX7_sick cX7_sick 4 (some .boolean) 2 := ⟨(lr_18 _ (List.mem_of_getElem? (i := 5) rfl)), (lr_1 _ (List.mem_of_getElem? (i := 2) rfl)), (lr_18 _ (List.mem_of_getElem? (i := 8) rfl)), by decide +kernel, by decide +kernel, by decide +kernel⟩
theorem im_yX7_sick : Cond.instanceMethod yX7_sick ∈ wsL_law := (lr_18 _ (List.mem_of_getElem? (i := 6) rfl))
theorem se_yX7_sick : Cond.selects RX7 yX7_sick yX7_sick ∈ wsL_law := (lr_18 _ (List.mem_of_getElem? (i := 7) rfl))
theorem cbL_50 : CB RL 50 yX8_sick cX8_sick 3 (some .boolean) 2 := ⟨(lr_18 _ (List.mem_of_getElem? (i := 10) rfl)), (lr_1 _ (List.mem_of_getElem? (i := 5) rfl)), (lr_18 _ (List.mem_of_getElem? (i := 13) rfl)), by decide +kernel, by decide +kernel, by decide +kernel⟩
theorem im_yX8_sick : Cond.instanceMethod yX8_sick ∈ wsL_law := (lr_18 _ (List.mem_of_getElem? (i := 11) rfl))
theorem se_yX8_sick : Cond.selects RX8 yX8_sick yX8_sick ∈ wsL_law := (lr_18 _ (List.mem_of_getElem? (i := 12) rfl))
theorem cbL_51 : CB RL 51 yX7_works cX7_works 5 (some .int) 3 := ⟨(lr_18 _ (List.mem_of_getElem? (i := 14) rfl)), (lr_1 _ (List.mem_of_getElem? (i := 2) rfl)), (lr_18 _ (List.mem_of_getElem? (i := 17) rfl)), by decide +kernel, by decide +kernel, by decide +kernel⟩
theorem im_yX7_works : Cond.instanceMethod yX7_works ∈ wsL_law := (lr_18 _ (List.mem_of_getElem? (i := 15) rfl))
theorem se_yX7_works : Cond.selects RX7 yX7_works yX7_works ∈ wsL_law := (lr_18 _ (List.mem_of_getElem? (i := 16) rfl))
theorem cbL_55 : CB RL 55 yX8_works cX8_works 4 (some .int) 3 := ⟨(lr_18 _ (List.mem_of_getElem? (i := 21) rfl)), (lr_1 _ (List.mem_of_getElem? (i := 5) rfl)), (lr_19 _ (List.mem_of_getElem? (i := 0) rfl)), by decide +kernel, by decide +kernel, by decide +kernel⟩
theorem im_yX8_works : Cond.instanceMethod yX8_works ∈ wsL_law := (lr_18 _ (List.mem_of_getElem? (i := 22) rfl))
theorem se_yX8_works : Cond.selects RX8 yX8_works yX8_works ∈ wsL_law := (lr_18 _ (List.mem_of_getElem? (i := 23) rfl))
theorem cbL_56 : CB RL 56 yX7_pay cX7_pay 4 (some .int) 2 := ⟨(lr_19 _ (List.mem_of_getElem? (i := 1) rfl)), (lr_1 _ (List.mem_of_getElem? (i := 2) rfl)), (lr_19 _ (List.mem_of_getElem? (i := 4) rfl)), by decide +kernel, by decide +kernel, by decide +kernel⟩
theorem im_yX7_pay : Cond.instanceMethod yX7_pay ∈ wsL_law := (lr_19 _ (List.mem_of_getElem? (i := 2) rfl))
theorem se_yX7_pay : Cond.selects RX7 yX7_pay yX7_pay ∈ wsL_law := (lr_19 _ (List.mem_of_getElem? (i := 3) rfl))
theorem cbL_59 : CB RL 59 yX8_pay cX8_pay 3 (some .int) 2 := ⟨(lr_19 _ (List.mem_of_getElem? (i := 5) rfl)), (lr_1 _ (List.mem_of_getElem? (i := 5) rfl)), (lr_19 _ (List.mem_of_getElem? (i := 8) rfl)), by decide +kernel, by decide +kernel, by decide +kernel⟩
theorem im_yX8_pay : Cond.instanceMethod yX8_pay ∈ wsL_law := (lr_19 _ (List.mem_of_getElem? (i := 6) rfl))
theorem se_yX8_pay : Cond.selects RX8 yX8_pay yX8_pay ∈ wsL_law := (lr_19 _ (List.mem_of_getElem? (i := 7) rfl))
theorem cbL_60 : CB RL 60 yX7_suit cX7_suit 5 (some .int) 3 := ⟨(lr_19 _ (List.mem_of_getElem? (i := 10) rfl)), (lr_1 _ (List.mem_of_getElem? (i := 2) rfl)), (lr_19 _ (List.mem_of_getElem? (i := 13) rfl)), by decide +kernel, by decide +kernel, by decide +kernel⟩
theorem im_yX7_suit : Cond.instanceMethod yX7_suit ∈ wsL_law := (lr_19 _ (List.mem_of_getElem? (i := 11) rfl))
theorem se_yX7_suit : Cond.selects RX7 yX7_suit yX7_suit ∈ wsL_law := (lr_19 _ (List.mem_of_getElem? (i := 12) rfl))
theorem in_RX6 : Cond.instantiable RX6 7 ∈ wsL_law := (lr_19 _ (List.mem_of_getElem? (i := 14) rfl))
theorem ini_RX6 : Cond.initialized RX6 ∈ wsL_law := (lr_19 _ (List.mem_of_getElem? (i := 15) rfl))
theorem cbX7_151 : CB RX7 151 yX6_init cX6_init 4 none 3 := ⟨(lr_19 _ (List.mem_of_getElem? (i := 16) rfl)), (lr_19 _ (List.mem_of_getElem? (i := 15) rfl)), (lr_19 _ (List.mem_of_getElem? (i := 18) rfl)), by decide +kernel, by decide +kernel, by decide +kernel⟩
theorem im_yX6_init : Cond.instanceMethod yX6_init ∈ wsL_law := (lr_19 _ (List.mem_of_getElem? (i := 17) rfl))
theorem cbL_63 : CB RL 63 yX8_suit cX8_suit 4 (some .int) 3 := ⟨(lr_20 _ (List.mem_of_getElem? (i := 1) rfl)), (lr_1 _ (List.mem_of_getElem? (i := 5) rfl)), (lr_20 _ (List.mem_of_getElem? (i := 4) rfl)), by decide +kernel, by decide +kernel, by decide +kernel⟩
theorem im_yX8_suit : Cond.instanceMethod yX8_suit ∈ wsL_law := (lr_20 _ (List.mem_of_getElem? (i := 2) rfl))
theorem se_yX8_suit : Cond.selects RX8 yX8_suit yX8_suit ∈ wsL_law := (lr_20 _ (List.mem_of_getElem? (i := 3) rfl))
theorem cbL_64 : CB RL 64 yX7_appear cX7_appear 4 (some .boolean) 2 := ⟨(lr_20 _ (List.mem_of_getElem? (i := 6) rfl)), (lr_1 _ (List.mem_of_getElem? (i := 2) rfl)), (lr_20 _ (List.mem_of_getElem? (i := 9) rfl)), by decide +kernel, by decide +kernel, by decide +kernel⟩
theorem im_yX7_appear : Cond.instanceMethod yX7_appear ∈ wsL_law := (lr_20 _ (List.mem_of_getElem? (i := 7) rfl))
theorem se_yX7_appear : Cond.selects RX7 yX7_appear yX7_appear ∈ wsL_law := (lr_20 _ (List.mem_of_getElem? (i := 8) rfl))
theorem cbX7_154 : CB RX7 154 yX7_findSuit cX7_findSuit 2 (some (.object "ManorRolls$Suit")) 1 := ⟨(lr_20 _ (List.mem_of_getElem? (i := 12) rfl)), (lr_1 _ (List.mem_of_getElem? (i := 2) rfl)), (lr_20 _ (List.mem_of_getElem? (i := 15) rfl)), by decide +kernel, by decide +kernel, by decide +kernel⟩
theorem im_yX7_findSuit : Cond.instanceMethod yX7_findSuit ∈ wsL_law := (lr_20 _ (List.mem_of_getElem? (i := 13) rfl))
theorem se_yX7_findSuit : Cond.selects RX7 yX7_findSuit yX7_findSuit ∈ wsL_law := (lr_20 _ (List.mem_of_getElem? (i := 14) rfl))
theorem cbL_67 : CB RL 67 yX8_appear cX8_appear 3 (some .boolean) 2 := ⟨(lr_20 _ (List.mem_of_getElem? (i := 16) rfl)), (lr_1 _ (List.mem_of_getElem? (i := 5) rfl)), (lr_20 _ (List.mem_of_getElem? (i := 19) rfl)), by decide +kernel, by decide +kernel, by decide +kernel⟩
theorem im_yX8_appear : Cond.instanceMethod yX8_appear ∈ wsL_law := (lr_20 _ (List.mem_of_getElem? (i := 17) rfl))
theorem se_yX8_appear : Cond.selects RX8 yX8_appear yX8_appear ∈ wsL_law := (lr_20 _ (List.mem_of_getElem? (i := 18) rfl))
theorem cbL_68 : CB RL 68 yX7_court cX7_court 4 (some .int) 0 := ⟨(lr_20 _ (List.mem_of_getElem? (i := 20) rfl)), (lr_1 _ (List.mem_of_getElem? (i := 2) rfl)), (lr_20 _ (List.mem_of_getElem? (i := 23) rfl)), by decide +kernel, by decide +kernel, by decide +kernel⟩
theorem im_yX7_court : Cond.instanceMethod yX7_court ∈ wsL_law := (lr_20 _ (List.mem_of_getElem? (i := 21) rfl))
theorem se_yX7_court : Cond.selects RX7 yX7_court yX7_court ∈ wsL_law := (lr_20 _ (List.mem_of_getElem? (i := 22) rfl))
theorem cbX7_164 : CB RX7 164 yX7_hear cX7_hear 3 none 1 := ⟨(lr_21 _ (List.mem_of_getElem? (i := 0) rfl)), (lr_1 _ (List.mem_of_getElem? (i := 2) rfl)), (lr_21 _ (List.mem_of_getElem? (i := 3) rfl)), by decide +kernel, by decide +kernel, by decide +kernel⟩
theorem im_yX7_hear : Cond.instanceMethod yX7_hear ∈ wsL_law := (lr_21 _ (List.mem_of_getElem? (i := 1) rfl))
theorem se_yX7_hear : Cond.selects RX7 yX7_hear yX7_hear ∈ wsL_law := (lr_21 _ (List.mem_of_getElem? (i := 2) rfl))
theorem cbX7_261 : CB RX7 261 yX3_owe cX3_owe 4 none 2 := ⟨(lr_21 _ (List.mem_of_getElem? (i := 8) rfl)), (lr_1 _ (List.mem_of_getElem? (i := 20) rfl)), (lr_21 _ (List.mem_of_getElem? (i := 11) rfl)), by decide +kernel, by decide +kernel, by decide +kernel⟩
theorem im_yX3_owe : Cond.instanceMethod yX3_owe ∈ wsL_law := (lr_21 _ (List.mem_of_getElem? (i := 9) rfl))
theorem se_yX3_owe : Cond.selects RX3 yX3_owe yX3_owe ∈ wsL_law := (lr_21 _ (List.mem_of_getElem? (i := 10) rfl))
theorem cbX7_265 : CB RX7 265 yX7_defaultIn cX7_defaultIn 5 none 2 := ⟨(lr_21 _ (List.mem_of_getElem? (i := 13) rfl)), (lr_1 _ (List.mem_of_getElem? (i := 2) rfl)), (lr_21 _ (List.mem_of_getElem? (i := 16) rfl)), by decide +kernel, by decide +kernel, by decide +kernel⟩
theorem im_yX7_defaultIn : Cond.instanceMethod yX7_defaultIn ∈ wsL_law := (lr_21 _ (List.mem_of_getElem? (i := 14) rfl))
theorem se_yX7_defaultIn : Cond.selects RX7 yX7_defaultIn yX7_defaultIn ∈ wsL_law := (lr_21 _ (List.mem_of_getElem? (i := 15) rfl))
theorem cbL_72 : CB RL 72 yX8_court cX8_court 4 (some .int) 0 := ⟨(lr_21 _ (List.mem_of_getElem? (i := 19) rfl)), (lr_1 _ (List.mem_of_getElem? (i := 5) rfl)), (lr_21 _ (List.mem_of_getElem? (i := 22) rfl)), by decide +kernel, by decide +kernel, by decide +kernel⟩
theorem im_yX8_court : Cond.instanceMethod yX8_court ∈ wsL_law := (lr_21 _ (List.mem_of_getElem? (i := 20) rfl))
theorem se_yX8_court : Cond.selects RX8 yX8_court yX8_court ∈ wsL_law := (lr_21 _ (List.mem_of_getElem? (i := 21) rfl))
theorem cbX8_212 : CB RX8 212 yX8_falls cX8_falls 3 none 1 := ⟨(lr_21 _ (List.mem_of_getElem? (i := 23) rfl)), (lr_1 _ (List.mem_of_getElem? (i := 5) rfl)), (lr_22 _ (List.mem_of_getElem? (i := 2) rfl)), by decide +kernel, by decide +kernel, by decide +kernel⟩
theorem im_yX8_falls : Cond.instanceMethod yX8_falls ∈ wsL_law := (lr_22 _ (List.mem_of_getElem? (i := 0) rfl))
theorem se_yX8_falls : Cond.selects RX8 yX8_falls yX8_falls ∈ wsL_law := (lr_22 _ (List.mem_of_getElem? (i := 1) rfl))
theorem cbL_73 : CB RL 73 yX7_holder cX7_holder 4 (some .int) 3 := ⟨(lr_22 _ (List.mem_of_getElem? (i := 3) rfl)), (lr_1 _ (List.mem_of_getElem? (i := 2) rfl)), (lr_22 _ (List.mem_of_getElem? (i := 6) rfl)), by decide +kernel, by decide +kernel, by decide +kernel⟩
theorem im_yX7_holder : Cond.instanceMethod yX7_holder ∈ wsL_law := (lr_22 _ (List.mem_of_getElem? (i := 4) rfl))
theorem se_yX7_holder : Cond.selects RX7 yX7_holder yX7_holder ∈ wsL_law := (lr_22 _ (List.mem_of_getElem? (i := 5) rfl))
theorem cbX7_168 : CB RX7 168 yX7_right cX7_right 7 (some .int) 5 := ⟨(lr_22 _ (List.mem_of_getElem? (i := 7) rfl)), (lr_1 _ (List.mem_of_getElem? (i := 2) rfl)), (lr_22 _ (List.mem_of_getElem? (i := 10) rfl)), by decide +kernel, by decide +kernel, by decide +kernel⟩
theorem im_yX7_right : Cond.instanceMethod yX7_right ∈ wsL_law := (lr_22 _ (List.mem_of_getElem? (i := 8) rfl))
theorem se_yX7_right : Cond.selects RX7 yX7_right yX7_right ∈ wsL_law := (lr_22 _ (List.mem_of_getElem? (i := 9) rfl))
theorem cbX7_172 : CB RX7 172 yX2_onDay cX2_onDay 4 (some (.object "ManorRolls$Right")) 2 := ⟨(lr_22 _ (List.mem_of_getElem? (i := 14) rfl)), (lr_2 _ (List.mem_of_getElem? (i := 0) rfl)), (lr_22 _ (List.mem_of_getElem? (i := 17) rfl)), by decide +kernel, by decide +kernel, by decide +kernel⟩
theorem im_yX2_onDay : Cond.instanceMethod yX2_onDay ∈ wsL_law := (lr_22 _ (List.mem_of_getElem? (i := 15) rfl))
theorem se_yX2_onDay : Cond.selects RX2 yX2_onDay yX2_onDay ∈ wsL_law := (lr_22 _ (List.mem_of_getElem? (i := 16) rfl))
theorem cbX7_176 : CB RX7 176 yX2_stepsAhead cX2_stepsAhead 4 (some (.object "ManorRolls$Right")) 2 := ⟨(lr_22 _ (List.mem_of_getElem? (i := 19) rfl)), (lr_2 _ (List.mem_of_getElem? (i := 0) rfl)), (lr_22 _ (List.mem_of_getElem? (i := 21) rfl)), by decide +kernel, by decide +kernel, by decide +kernel⟩
theorem sm_yX2_stepsAhead : Cond.static yX2_stepsAhead ∈ wsL_law := (lr_22 _ (List.mem_of_getElem? (i := 20) rfl))
theorem cbL_76 : CB RL 76 yX8_holder cX8_holder 4 (some .int) 3 := ⟨(lr_22 _ (List.mem_of_getElem? (i := 22) rfl)), (lr_1 _ (List.mem_of_getElem? (i := 5) rfl)), (lr_23 _ (List.mem_of_getElem? (i := 1) rfl)), by decide +kernel, by decide +kernel, by decide +kernel⟩
theorem im_yX8_holder : Cond.instanceMethod yX8_holder ∈ wsL_law := (lr_22 _ (List.mem_of_getElem? (i := 23) rfl))
theorem se_yX8_holder : Cond.selects RX8 yX8_holder yX8_holder ∈ wsL_law := (lr_23 _ (List.mem_of_getElem? (i := 0) rfl))
theorem cbX8_121 : CB RX8 121 yX8_isStrip cX8_isStrip 4 (some .boolean) 3 := ⟨(lr_23 _ (List.mem_of_getElem? (i := 2) rfl)), (lr_1 _ (List.mem_of_getElem? (i := 5) rfl)), (lr_23 _ (List.mem_of_getElem? (i := 5) rfl)), by decide +kernel, by decide +kernel, by decide +kernel⟩
theorem im_yX8_isStrip : Cond.instanceMethod yX8_isStrip ∈ wsL_law := (lr_23 _ (List.mem_of_getElem? (i := 3) rfl))
theorem se_yX8_isStrip : Cond.selects RX8 yX8_isStrip yX8_isStrip ∈ wsL_law := (lr_23 _ (List.mem_of_getElem? (i := 4) rfl))
theorem cbX8_124 : CB RX8 124 yX8_rightOf cX8_rightOf 6 (some .int) 3 := ⟨(lr_23 _ (List.mem_of_getElem? (i := 6) rfl)), (lr_1 _ (List.mem_of_getElem? (i := 5) rfl)), (lr_23 _ (List.mem_of_getElem? (i := 9) rfl)), by decide +kernel, by decide +kernel, by decide +kernel⟩
theorem im_yX8_rightOf : Cond.instanceMethod yX8_rightOf ∈ wsL_law := (lr_23 _ (List.mem_of_getElem? (i := 7) rfl))
theorem se_yX8_rightOf : Cond.selects RX8 yX8_rightOf yX8_rightOf ∈ wsL_law := (lr_23 _ (List.mem_of_getElem? (i := 8) rfl))
theorem cbL_77 : CB RL 77 yX7_right cX7_right 7 (some .int) 5 := ⟨(lr_23 _ (List.mem_of_getElem? (i := 10) rfl)), (lr_1 _ (List.mem_of_getElem? (i := 2) rfl)), (lr_22 _ (List.mem_of_getElem? (i := 10) rfl)), by decide +kernel, by decide +kernel, by decide +kernel⟩
theorem cbL_81 : CB RL 81 yX8_right cX8_right 7 (some .int) 5 := ⟨(lr_23 _ (List.mem_of_getElem? (i := 11) rfl)), (lr_1 _ (List.mem_of_getElem? (i := 5) rfl)), (lr_23 _ (List.mem_of_getElem? (i := 14) rfl)), by decide +kernel, by decide +kernel, by decide +kernel⟩
theorem im_yX8_right : Cond.instanceMethod yX8_right ∈ wsL_law := (lr_23 _ (List.mem_of_getElem? (i := 12) rfl))
theorem se_yX8_right : Cond.selects RX8 yX8_right yX8_right ∈ wsL_law := (lr_23 _ (List.mem_of_getElem? (i := 13) rfl))
theorem cbL_82 : CB RL 82 yX7_heir cX7_heir 3 (some .int) 2 := ⟨(lr_23 _ (List.mem_of_getElem? (i := 15) rfl)), (lr_1 _ (List.mem_of_getElem? (i := 2) rfl)), (lr_23 _ (List.mem_of_getElem? (i := 18) rfl)), by decide +kernel, by decide +kernel, by decide +kernel⟩
theorem im_yX7_heir : Cond.instanceMethod yX7_heir ∈ wsL_law := (lr_23 _ (List.mem_of_getElem? (i := 16) rfl))
theorem se_yX7_heir : Cond.selects RX7 yX7_heir yX7_heir ∈ wsL_law := (lr_23 _ (List.mem_of_getElem? (i := 17) rfl))
theorem cbX7_194 : CB RX7 194 yX1_list cX1_list 3 none 2 := ⟨(lr_23 _ (List.mem_of_getElem? (i := 21) rfl)), (lr_2 _ (List.mem_of_getElem? (i := 4) rfl)), (lr_24 _ (List.mem_of_getElem? (i := 0) rfl)), by decide +kernel, by decide +kernel, by decide +kernel⟩
theorem im_yX1_list : Cond.instanceMethod yX1_list ∈ wsL_law := (lr_23 _ (List.mem_of_getElem? (i := 22) rfl))
theorem se_yX1_list : Cond.selects RX1 yX1_list yX1_list ∈ wsL_law := (lr_23 _ (List.mem_of_getElem? (i := 23) rfl))
theorem cbX1_34 : CB RX1 34 yX1_listLine cX1_listLine 5 none 2 := ⟨(lr_24 _ (List.mem_of_getElem? (i := 2) rfl)), (lr_2 _ (List.mem_of_getElem? (i := 4) rfl)), (lr_24 _ (List.mem_of_getElem? (i := 5) rfl)), by decide +kernel, by decide +kernel, by decide +kernel⟩
theorem im_yX1_listLine : Cond.instanceMethod yX1_listLine ∈ wsL_law := (lr_24 _ (List.mem_of_getElem? (i := 3) rfl))
theorem se_yX1_listLine : Cond.selects RX1 yX1_listLine yX1_listLine ∈ wsL_law := (lr_24 _ (List.mem_of_getElem? (i := 4) rfl))
theorem cbL_85 : CB RL 85 yX8_heir cX8_heir 6 (some .int) 2 := ⟨(lr_24 _ (List.mem_of_getElem? (i := 6) rfl)), (lr_1 _ (List.mem_of_getElem? (i := 5) rfl)), (lr_24 _ (List.mem_of_getElem? (i := 9) rfl)), by decide +kernel, by decide +kernel, by decide +kernel⟩
theorem im_yX8_heir : Cond.instanceMethod yX8_heir ∈ wsL_law := (lr_24 _ (List.mem_of_getElem? (i := 7) rfl))
theorem se_yX8_heir : Cond.selects RX8 yX8_heir yX8_heir ∈ wsL_law := (lr_24 _ (List.mem_of_getElem? (i := 8) rfl))
theorem cbX8_171 : CB RX8 171 yX8_listed cX8_listed 8 (some .int) 2 := ⟨(lr_24 _ (List.mem_of_getElem? (i := 12) rfl)), (lr_1 _ (List.mem_of_getElem? (i := 5) rfl)), (lr_24 _ (List.mem_of_getElem? (i := 15) rfl)), by decide +kernel, by decide +kernel, by decide +kernel⟩
theorem im_yX8_listed : Cond.instanceMethod yX8_listed ∈ wsL_law := (lr_24 _ (List.mem_of_getElem? (i := 13) rfl))
theorem se_yX8_listed : Cond.selects RX8 yX8_listed yX8_listed ∈ wsL_law := (lr_24 _ (List.mem_of_getElem? (i := 14) rfl))
theorem cbL_86 : CB RL 86 yX7_told cX7_told 4 (some .int) 2 := ⟨(lr_24 _ (List.mem_of_getElem? (i := 16) rfl)), (lr_1 _ (List.mem_of_getElem? (i := 2) rfl)), (lr_24 _ (List.mem_of_getElem? (i := 19) rfl)), by decide +kernel, by decide +kernel, by decide +kernel⟩
theorem im_yX7_told : Cond.instanceMethod yX7_told ∈ wsL_law := (lr_24 _ (List.mem_of_getElem? (i := 17) rfl))
theorem se_yX7_told : Cond.selects RX7 yX7_told yX7_told ∈ wsL_law := (lr_24 _ (List.mem_of_getElem? (i := 18) rfl))
theorem cbX7_212 : CB RX7 212 yX2_partsOf cX2_partsOf 5 (some .int) 1 := ⟨(lr_24 _ (List.mem_of_getElem? (i := 23) rfl)), (lr_2 _ (List.mem_of_getElem? (i := 0) rfl)), (lr_25 _ (List.mem_of_getElem? (i := 2) rfl)), by decide +kernel, by decide +kernel, by decide +kernel⟩
theorem im_yX2_partsOf : Cond.instanceMethod yX2_partsOf ∈ wsL_law := (lr_25 _ (List.mem_of_getElem? (i := 0) rfl))
theorem se_yX2_partsOf : Cond.selects RX2 yX2_partsOf yX2_partsOf ∈ wsL_law := (lr_25 _ (List.mem_of_getElem? (i := 1) rfl))
theorem cbL_89 : CB RL 89 yX8_told cX8_told 3 (some .int) 2 := ⟨(lr_25 _ (List.mem_of_getElem? (i := 3) rfl)), (lr_1 _ (List.mem_of_getElem? (i := 5) rfl)), (lr_25 _ (List.mem_of_getElem? (i := 6) rfl)), by decide +kernel, by decide +kernel, by decide +kernel⟩
theorem im_yX8_told : Cond.instanceMethod yX8_told ∈ wsL_law := (lr_25 _ (List.mem_of_getElem? (i := 4) rfl))
theorem se_yX8_told : Cond.selects RX8 yX8_told yX8_told ∈ wsL_law := (lr_25 _ (List.mem_of_getElem? (i := 5) rfl))
theorem cbL_90 : CB RL 90 yX7_suited cX7_suited 4 (some .int) 2 := ⟨(lr_25 _ (List.mem_of_getElem? (i := 7) rfl)), (lr_1 _ (List.mem_of_getElem? (i := 2) rfl)), (lr_25 _ (List.mem_of_getElem? (i := 10) rfl)), by decide +kernel, by decide +kernel, by decide +kernel⟩
theorem im_yX7_suited : Cond.instanceMethod yX7_suited ∈ wsL_law := (lr_25 _ (List.mem_of_getElem? (i := 8) rfl))
theorem se_yX7_suited : Cond.selects RX7 yX7_suited yX7_suited ∈ wsL_law := (lr_25 _ (List.mem_of_getElem? (i := 9) rfl))
theorem cbL_93 : CB RL 93 yX8_suited cX8_suited 3 (some .int) 2 := ⟨(lr_25 _ (List.mem_of_getElem? (i := 11) rfl)), (lr_1 _ (List.mem_of_getElem? (i := 5) rfl)), (lr_25 _ (List.mem_of_getElem? (i := 14) rfl)), by decide +kernel, by decide +kernel, by decide +kernel⟩
theorem im_yX8_suited : Cond.instanceMethod yX8_suited ∈ wsL_law := (lr_25 _ (List.mem_of_getElem? (i := 12) rfl))
theorem se_yX8_suited : Cond.selects RX8 yX8_suited yX8_suited ∈ wsL_law := (lr_25 _ (List.mem_of_getElem? (i := 13) rfl))
theorem cbL_94 : CB RL 94 yX7_count cX7_count 2 (some .int) 1 := ⟨(lr_25 _ (List.mem_of_getElem? (i := 15) rfl)), (lr_1 _ (List.mem_of_getElem? (i := 2) rfl)), (lr_25 _ (List.mem_of_getElem? (i := 18) rfl)), by decide +kernel, by decide +kernel, by decide +kernel⟩
theorem im_yX7_count : Cond.instanceMethod yX7_count ∈ wsL_law := (lr_25 _ (List.mem_of_getElem? (i := 16) rfl))
theorem se_yX7_count : Cond.selects RX7 yX7_count yX7_count ∈ wsL_law := (lr_25 _ (List.mem_of_getElem? (i := 17) rfl))
theorem cbX7_224 : CB RX7 224 yX3_allOwed cX3_allOwed 4 (some .int) 0 := ⟨(lr_25 _ (List.mem_of_getElem? (i := 20) rfl)), (lr_1 _ (List.mem_of_getElem? (i := 20) rfl)), (lr_25 _ (List.mem_of_getElem? (i := 23) rfl)), by decide +kernel, by decide +kernel, by decide +kernel⟩
theorem im_yX3_allOwed : Cond.instanceMethod yX3_allOwed ∈ wsL_law := (lr_25 _ (List.mem_of_getElem? (i := 21) rfl))
theorem se_yX3_allOwed : Cond.selects RX3 yX3_allOwed yX3_allOwed ∈ wsL_law := (lr_25 _ (List.mem_of_getElem? (i := 22) rfl))
theorem cbL_97 : CB RL 97 yX8_count cX8_count 4 (some .int) 1 := ⟨(lr_26 _ (List.mem_of_getElem? (i := 0) rfl)), (lr_1 _ (List.mem_of_getElem? (i := 5) rfl)), (lr_26 _ (List.mem_of_getElem? (i := 3) rfl)), by decide +kernel, by decide +kernel, by decide +kernel⟩
theorem im_yX8_count : Cond.instanceMethod yX8_count ∈ wsL_law := (lr_26 _ (List.mem_of_getElem? (i := 1) rfl))
theorem se_yX8_count : Cond.selects RX8 yX8_count yX8_count ∈ wsL_law := (lr_26 _ (List.mem_of_getElem? (i := 2) rfl))
theorem oi_inst : Cond.instanceMethod objectInit ∈ wsL_law := (lr_1 _ (List.mem_of_getElem? (i := 10) rfl))
theorem oi_code : Cond.code objectInit ⟨#[0xb1]⟩ 1 none ∈ wsL_law := (lr_1 _ (List.mem_of_getElem? (i := 11) rfl))
theorem oi_X7_3 : Cond.methodLink RX7 3 objectInit ∈ wsL_law := (lr_1 _ (List.mem_of_getElem? (i := 9) rfl))
theorem oi_X0_3 : Cond.methodLink RX0 3 objectInit ∈ wsL_law := (lr_2 _ (List.mem_of_getElem? (i := 13) rfl))
theorem oi_X3_3 : Cond.methodLink RX3 3 objectInit ∈ wsL_law := (lr_3 _ (List.mem_of_getElem? (i := 0) rfl))
theorem oi_X2_3 : Cond.methodLink RX2 3 objectInit ∈ wsL_law := (lr_3 _ (List.mem_of_getElem? (i := 6) rfl))
theorem oi_X5_1 : Cond.methodLink RX5 1 objectInit ∈ wsL_law := (lr_3 _ (List.mem_of_getElem? (i := 17) rfl))
theorem oi_X1_3 : Cond.methodLink RX1 3 objectInit ∈ wsL_law := (lr_4 _ (List.mem_of_getElem? (i := 1) rfl))
theorem oi_X8_3 : Cond.methodLink RX8 3 objectInit ∈ wsL_law := (lr_4 _ (List.mem_of_getElem? (i := 8) rfl))
theorem oi_X4_3 : Cond.methodLink RX4 3 objectInit ∈ wsL_law := (lr_7 _ (List.mem_of_getElem? (i := 23) rfl))
theorem oi_X6_3 : Cond.methodLink RX6 3 objectInit ∈ wsL_law := (lr_19 _ (List.mem_of_getElem? (i := 19) rfl))
theorem mi_X1_38 : Cond.methodLink RX1 38 Lib.Math.min.name ∈ wsL_law := (lr_11 _ (List.mem_of_getElem? (i := 2) rfl))
theorem mi_X4_41 : Cond.methodLink RX4 41 Lib.Math.min.name ∈ wsL_law := (lr_17 _ (List.mem_of_getElem? (i := 17) rfl))
theorem mi_st : Cond.static Lib.Math.min.name ∈ wsL_law := (lr_11 _ (List.mem_of_getElem? (i := 3) rfl))
theorem mi_code : Cond.code Lib.Math.min.name Lib.Math.min.code 2 (some .int) ∈ wsL_law := (lr_11 _ (List.mem_of_getElem? (i := 5) rfl))
theorem mx_X2_41 : Cond.methodLink RX2 41 Lib.Math.max.name ∈ wsL_law := (lr_13 _ (List.mem_of_getElem? (i := 6) rfl))
theorem mx_st : Cond.static Lib.Math.max.name ∈ wsL_law := (lr_13 _ (List.mem_of_getElem? (i := 7) rfl))
theorem mx_code : Cond.code Lib.Math.max.name Lib.Math.max.code 2 (some .int) ∈ wsL_law := (lr_13 _ (List.mem_of_getElem? (i := 8) rfl))
theorem mm_ini : Cond.initialized "java/lang/Math" ∈ wsL_law := (lr_11 _ (List.mem_of_getElem? (i := 4) rfl))
end
section
/-! ===== HEAP: fields, arrays, makings, calls ===== -/
theorem x_get {l : Launch} {E : En} {cc : ByteArray} {own nm : String} {nL : Nat} {R : Room} {ret : Option FieldType} {Fn : Ft} {J : Jt} (O : Ok l E cc own nm nL R ret Fn J) {pc index : Nat} {ci k a : Nat} {v : Value} {P : HP} {ce sl : Nat} {lv : LV} {st : List Value} (d : decode cc pc = .ok (.getfield index, 3)) (hl : FD own index ci k) (hv : ∀ h, P h → ∃ fs, h a = some (.inr (ci, fs)) ∧ fs[k]? = some v) (kk : J P ce sl (pc + 3) lv (v :: st)) : J P ce sl pc lv (.ref a :: st) := by
  obtain ⟨p, e, s, m, args, below, meth, c, A, Q, rfl, hx, hb, hml, hown, hts, hK, hA, hnm, hret⟩ := O
  intro H locs ls ws h1 h2 h3 h4 h5
  obtain ⟨C, T, N, g1, g2, g3, g4⟩ := hl
  obtain ⟨fs, f1, f2⟩ := hv _ h3
  obtain ⟨q0, f3⟩ := hf_mem f1
  exact va_get (C := C) (T := T) (N := N) hx hb hts g4 hown hK.1 h1 q0 f3 g1 k g2 (hts _ g3) (fun _ h9 => h9) f2 d (kk H locs ls ws h1 h2 h3 h4 h5)
theorem x_put {l : Launch} {E : En} {cc : ByteArray} {own nm : String} {nL : Nat} {R : Room} {ret : Option FieldType} {Fn : Ft} {J : Jt} (O : Ok l E cc own nm nL R ret Fn J) {pc index : Nat} {ci k a : Nat} {ty : FieldType} {v : Value} {P P' : HP} {ce sl : Nat} {lv : LV} {st : List Value} (d : decode cc pc = .ok (.putfield index, 3)) (hl : FP own index ci k ty false) (hn : narrow ty v = v) (hfit : fits ty v = true) (hv : ∀ h, P h → ∃ fs, h a = some (.inr (ci, fs)) ∧ k < fs.length ∧ P' (hset h a (.inr (ci, fs.set k v)))) (kk : J P' ce sl (pc + 3) lv st) : J P ce sl pc lv (v :: .ref a :: st) := by
  obtain ⟨p, e, s, m, args, below, meth, c, A, Q, rfl, hx, hb, hml, hown, hts, hK, hA, hnm, hret⟩ := O
  intro H locs ls ws h1 h2 h3 h4 h5
  obtain ⟨C, T, N, ty0, g1, g2, g3, g4, g5, g6, g7, g8, -⟩ := hl
  obtain ⟨fs, f1, f2, f5⟩ := hv _ h3
  obtain ⟨q0, f3⟩ := hf_mem f1
  refine va_put (C := C) (T := T) (N := N) hx hb hts g4 ty0 g5 g6 hown hK.1 h1 h2 h4 q0 f3 g1 k g2 (hts _ g3) (fun _ h9 => h9) g7 g8 hn hfit f2 d (fun H1 locs1 q1 q2 q3 => ?_)
  exact kk H1 locs1 ls _ q1 q2 (by rw [hf_set h2 f3]; exact f5) q3 h5
theorem x_putF {l : Launch} {E : En} {cc : ByteArray} {own nm : String} {nL : Nat} {R : Room} {ret : Option FieldType} {Fn : Ft} {J : Jt} (O : Ok l E cc own nm nL R ret Fn J) {pc index : Nat} {ci k a : Nat} {ty : FieldType} {v : Value} {P P' : HP} {ce sl : Nat} {lv : LV} {st : List Value} (hi : nm = "<init>") (d : decode cc pc = .ok (.putfield index, 3)) (hl : FP own index ci k ty true) (hn : narrow ty v = v) (hfit : fits ty v = true) (hv : ∀ h, P h → ∃ fs, h a = some (.inr (ci, fs)) ∧ k < fs.length ∧ P' (hset h a (.inr (ci, fs.set k v)))) (kk : J P' ce sl (pc + 3) lv st) : J P ce sl pc lv (v :: .ref a :: st) := by
  obtain ⟨p, e, s, m, args, below, meth, c, A, Q, rfl, hx, hb, hml, hown, hts, hK, hA, hnm, hret⟩ := O
  intro H locs ls ws h1 h2 h3 h4 h5
  obtain ⟨C, T, N, ty0, g1, g2, g3, g4, g5, g6, g7, g8, g9⟩ := hl
  obtain ⟨fs, f1, f2, f5⟩ := hv _ h3
  obtain ⟨q0, f3⟩ := hf_mem f1
  refine va_putF (C := C) (T := T) (N := N) hx hb hts g4 ty0 g5 g6 hown hK.1 h1 h2 h4 q0 f3 g1 k g2 (hts _ g3) (fun _ h9 => h9) g7 (hnm.trans hi) (g9 rfl) g8 hn hfit f2 d (fun H1 locs1 q1 q2 q3 => ?_)
  exact kk H1 locs1 ls _ q1 q2 (by rw [hf_set h2 f3]; exact f5) q3 h5
theorem x_iald {l : Launch} {E : En} {cc : ByteArray} {own nm : String} {nL : Nat} {R : Room} {ret : Option FieldType} {Fn : Ft} {J : Jt} (O : Ok l E cc own nm nL R ret Fn J) {pc : Nat} {a : Nat} {i v : Int32} {P : HP} {ce sl : Nat} {lv : LV} {st : List Value} (d : decode cc pc = .ok (.iaload, 1)) (hv : ∀ h, P h → ∃ N f, h a = some (.inl (E.2 0, N, .inl f)) ∧ vp_in i N ∧ f i.toNatClampNeg = v) (kk : J P ce sl (pc + 1) lv (.int v :: st)) : J P ce sl pc lv (.int i :: .ref a :: st) := by
  obtain ⟨p, e, s, m, args, below, meth, c, A, Q, rfl, hx, hb, hml, hown, hts, hK, hA, hnm, hret⟩ := O
  intro H locs ls ws h1 h2 h3 h4 h5
  obtain ⟨N, f, f1, f2, f4⟩ := hv _ h3
  obtain ⟨q0, f3⟩ := hf_mem f1
  subst f4
  exact va_iald hx hb hK.1 h1 q0 0 f3 rfl f2 d (kk H locs ls ws h1 h2 h3 h4 h5)
theorem x_zald {l : Launch} {E : En} {cc : ByteArray} {own nm : String} {nL : Nat} {R : Room} {ret : Option FieldType} {Fn : Ft} {J : Jt} (O : Ok l E cc own nm nL R ret Fn J) {pc : Nat} {a : Nat} {i v : Int32} {P : HP} {ce sl : Nat} {lv : LV} {st : List Value} (d : decode cc pc = .ok (.baload, 1)) (hv : ∀ h, P h → ∃ N f, h a = some (.inl (E.2 1, N, .inl f)) ∧ vp_in i N ∧ f i.toNatClampNeg = v) (kk : J P ce sl (pc + 1) lv (.int v :: st)) : J P ce sl pc lv (.int i :: .ref a :: st) := by
  obtain ⟨p, e, s, m, args, below, meth, c, A, Q, rfl, hx, hb, hml, hown, hts, hK, hA, hnm, hret⟩ := O
  intro H locs ls ws h1 h2 h3 h4 h5
  obtain ⟨N, f, f1, f2, f4⟩ := hv _ h3
  obtain ⟨q0, f3⟩ := hf_mem f1
  subst f4
  exact va_zald hx hb hK.1 h1 q0 1 f3 rfl f2 d (kk H locs ls ws h1 h2 h3 h4 h5)
theorem x_iast {l : Launch} {E : En} {cc : ByteArray} {own nm : String} {nL : Nat} {R : Room} {ret : Option FieldType} {Fn : Ft} {J : Jt} (O : Ok l E cc own nm nL R ret Fn J) {pc : Nat} {a : Nat} {i x : Int32} {P P' : HP} {ce sl : Nat} {lv : LV} {st : List Value} (d : decode cc pc = .ok (.iastore, 1)) (hv : ∀ h, P h → ∃ N f, h a = some (.inl (E.2 0, N, .inl f)) ∧ vp_in i N ∧ P' (hset h a (.inl (E.2 0, N, .inl (upd f i.toNatClampNeg x))))) (kk : J P' ce sl (pc + 1) lv st) : J P ce sl pc lv (.int x :: .int i :: .ref a :: st) := by
  obtain ⟨p, e, s, m, args, below, meth, c, A, Q, rfl, hx, hb, hml, hown, hts, hK, hA, hnm, hret⟩ := O
  intro H locs ls ws h1 h2 h3 h4 h5
  obtain ⟨N, f, f1, f2, f5⟩ := hv _ h3
  obtain ⟨q0, f3⟩ := hf_mem f1
  refine va_iast hx hb hK.1 h1 h2 h4 q0 0 f3 rfl f2 d (fun H1 locs1 q1 q2 q3 => ?_)
  exact kk H1 locs1 ls _ q1 q2 (by rw [hf_set h2 f3]; exact f5) q3 h5
theorem x_zast {l : Launch} {E : En} {cc : ByteArray} {own nm : String} {nL : Nat} {R : Room} {ret : Option FieldType} {Fn : Ft} {J : Jt} (O : Ok l E cc own nm nL R ret Fn J) {pc : Nat} {a : Nat} {i x : Int32} {P P' : HP} {ce sl : Nat} {lv : LV} {st : List Value} (d : decode cc pc = .ok (.bastore, 1)) (hv : ∀ h, P h → ∃ N f, h a = some (.inl (E.2 1, N, .inl f)) ∧ vp_in i N ∧ P' (hset h a (.inl (E.2 1, N, .inl (upd f i.toNatClampNeg (vp_nar .boolean x)))))) (kk : J P' ce sl (pc + 1) lv st) : J P ce sl pc lv (.int x :: .int i :: .ref a :: st) := by
  obtain ⟨p, e, s, m, args, below, meth, c, A, Q, rfl, hx, hb, hml, hown, hts, hK, hA, hnm, hret⟩ := O
  intro H locs ls ws h1 h2 h3 h4 h5
  obtain ⟨N, f, f1, f2, f5⟩ := hv _ h3
  obtain ⟨q0, f3⟩ := hf_mem f1
  refine va_zast hx hb hK.1 h1 h2 h4 q0 1 f3 rfl f2 d (fun H1 locs1 q1 q2 q3 => ?_)
  exact kk H1 locs1 ls _ q1 q2 (by rw [hf_set h2 f3]; exact f5) q3 h5
theorem x_alen {l : Launch} {E : En} {cc : ByteArray} {own nm : String} {nL : Nat} {R : Room} {ret : Option FieldType} {Fn : Ft} {J : Jt} (O : Ok l E cc own nm nL R ret Fn J) {pc : Nat} {a N t0 : Nat} {ty : FieldType} {v : Int32} {P : HP} {ce sl : Nat} {lv : LV} {st : List Value} (d : decode cc pc = .ok (.arraylength, 1)) (hv : ∀ h, P h → ∃ cA f, h a = some (.inl (cA, N, f)) ∧ (e_tys E)[t0]? = some (cA, ty)) (hN : Int32.ofNat N = v) (kk : J P ce sl (pc + 1) lv (.int v :: st)) : J P ce sl pc lv (.ref a :: st) := by
  obtain ⟨p, e, s, m, args, below, meth, c, A, Q, rfl, hx, hb, hml, hown, hts, hK, hA, hnm, hret⟩ := O
  intro H locs ls ws h1 h2 h3 h4 h5
  obtain ⟨cA, f, f1, f2⟩ := hv _ h3
  obtain ⟨q0, f3⟩ := hf_mem f1
  exact va_alen hx hb hK.1 h1 q0 t0 f3 f2 hN d (kk H locs ls ws h1 h2 h3 h4 h5)
theorem x_aald {l : Launch} {E : En} {cc : ByteArray} {own nm : String} {nL : Nat} {R : Room} {ret : Option FieldType} {Fn : Ft} {J : Jt} (O : Ok l E cc own nm nL R ret Fn J) {pc : Nat} {a t0 : Nat} {C : String} {i : Int32} {v : Option Nat} {P : HP} {ce sl : Nat} {lv : LV} {st : List Value} (d : decode cc pc = .ok (.aaload, 1)) (ht : (e_tys E)[t0]? = some (E.2 t0, .object C)) (hv : ∀ h, P h → ∃ N f, h a = some (.inl (E.2 t0, N, .inr (.inr (.inr (.inr f))))) ∧ vp_in i N ∧ f i.toNatClampNeg = v) (kk : J P ce sl (pc + 1) lv (va_rf v :: st)) : J P ce sl pc lv (.int i :: .ref a :: st) := by
  obtain ⟨p, e, s, m, args, below, meth, c, A, Q, rfl, hx, hb, hml, hown, hts, hK, hA, hnm, hret⟩ := O
  intro H locs ls ws h1 h2 h3 h4 h5
  obtain ⟨N, f, f1, f2, f4⟩ := hv _ h3
  obtain ⟨q0, f3⟩ := hf_mem f1
  subst f4
  exact va_aldq hx hb hK.1 h1 q0 t0 f3 ht f2 d (kk H locs ls ws h1 h2 h3 h4 h5)
theorem x_aast {l : Launch} {E : En} {cc : ByteArray} {own nm : String} {nL : Nat} {R : Room} {ret : Option FieldType} {Fn : Ft} {J : Jt} (O : Ok l E cc own nm nL R ret Fn J) {pc : Nat} {a b t0 ci : Nat} {r : vw_C} {i : Int32} {P P' : HP} {ce sl : Nat} {lv : LV} {st : List Value} (d : decode cc pc = .ok (.aastore, 1)) (ht : (e_tys E)[t0]? = some (E.2 t0, .object r.1)) (hc : vwCl[ci]? = some r) (hv : ∀ h, P h → ∃ N f fs, h a = some (.inl (E.2 t0, N, .inr (.inr (.inr (.inr f))))) ∧ h b = some (.inr (ci, fs)) ∧ vp_in i N ∧ P' (hset h a (.inl (E.2 t0, N, .inr (.inr (.inr (.inr (va_up f i.toNatClampNeg (some b))))))))) (kk : J P' ce sl (pc + 1) lv st) : J P ce sl pc lv (.ref b :: .int i :: .ref a :: st) := by
  obtain ⟨p, e, s, m, args, below, meth, c, A, Q, rfl, hx, hb, hml, hown, hts, hK, hA, hnm, hret⟩ := O
  intro H locs ls ws h1 h2 h3 h4 h5
  obtain ⟨N, f, fs, f1, f6, f2, f5⟩ := hv _ h3
  obtain ⟨q0, f3⟩ := hf_mem f1
  obtain ⟨qk, f7⟩ := hf_mem f6
  refine va_astq hx hb hK.1 h1 h2 h4 q0 t0 qk ci f3 ht f7 hc f2 d (fun H1 locs1 q1 q2 q3 => ?_)
  exact kk H1 locs1 ls _ q1 q2 (by rw [hf_set h2 f3]; exact f5) q3 h5
theorem x_new {l : Launch} {E : En} {cc : ByteArray} {own nm : String} {nL : Nat} {R : Room} {ret : Option FieldType} {Fn : Ft} {J : Jt} (O : Ok l E cc own nm nL R ret Fn J) {pc index : Nat} {ci N : Nat} {C : String} {T : u_T} {fs : List Value} {P P' : HP} {ce sl : Nat} {lv : LV} {st : List Value} (ty0 : Nat → FieldType) (d : decode cc pc = .ok (.new index, 3)) (hc : vwCl[ci]? = some (C, T, N)) (hin : ∀ w ∈ u_ws C T N, w ∈ wsL_law) (hty : ∀ k, k < N → parseFieldDescriptor (T k).2.2.1 = some (ty0 k)) (hl : Cond.classLink own index C ∈ wsL_law) (hi : Cond.instantiable C N ∈ wsL_law) (hini : Cond.initialized C ∈ wsL_law) (hfs : ∀ j, j < N → defaultValue (ty0 j) = vp_V fs j) (hce : ce + 1 ≤ R.cells) (hsl : sl + N ≤ R.slots) (kk : ∀ q, J (fun h => ∃ h0, P h0 ∧ h0 q = none ∧ h = hset h0 q (.inr (ci, fs))) (ce + 1) (sl + N) (pc + 3) lv (.ref q :: st)) : J P ce sl pc lv st := by
  obtain ⟨p, e, s, m, args, below, meth, c, A, Q, rfl, hx, hb, hml, hown, hts, hK, hA, hnm, hret⟩ := O
  intro H locs ls ws h1 h2 h3 h4 h5
  refine va_new (ci := ci) (fs := fs) (C := C) (T := T) (N := N) hx hb hts hin ty0 hty hown (hts _ hl) (hts _ hi) (hts _ hini) hK.1 h1 h2 h4 hA hc hfs hce hsl d (fun q H1 q1 q2 q3 => ?_)
  exact kk q H1 locs ls _ q1 q2 ⟨hf ws, h3, hf_fresh q2, hf_push h2 q2⟩ q3 h5
theorem x_newi {l : Launch} {E : En} {cc : ByteArray} {own nm : String} {nL : Nat} {R : Room} {ret : Option FieldType} {Fn : Ft} {J : Jt} (O : Ok l E cc own nm nL R ret Fn J) {pc : Nat} {i : Int32} {N : Nat} {P : HP} {ce sl : Nat} {lv : LV} {st : List Value} (d : decode cc pc = .ok (.newarray .int, 2)) (hn : ¬ i < 0) (hN : i.toNatClampNeg = N) (hN2 : N ≤ 131072) (hce : ce + 1 ≤ R.cells) (hsl : sl + N ≤ R.slots) (kk : ∀ q, J (fun h => ∃ h0, P h0 ∧ h0 q = none ∧ h = hset h0 q (.inl (E.2 0, N, .inl (fun _ => 0)))) (ce + 1) (sl + N) (pc + 2) lv (.ref q :: st)) : J P ce sl pc lv (.int i :: st) := by
  obtain ⟨p, e, s, m, args, below, meth, c, A, Q, rfl, hx, hb, hml, hown, hts, hK, hA, hnm, hret⟩ := O
  intro H locs ls ws h1 h2 h3 h4 h5
  refine va_newa (atype := .int) (a0 := (N, .inl (fun _ => 0))) (ty := .int) hx hb (hts _ ac_int) rfl hK.1 h1 h2 h4 hA (fun cA => rfl) hn hN (by simp only [componentBytes]; omega) hce hsl d (fun q cA H1 q0 q1 q2 q3 => ?_)
  have e1 := (q0.2 5 (cA, .int) rfl).2
  have e2 := (hK.1.2 0 (E.2 0, .int) rfl).2
  have e3 : cA = E.2 0 := Option.some.inj (e1.symm.trans e2)
  subst e3
  exact kk q H1 locs ls _ q1 q2 ⟨hf ws, h3, hf_fresh q2, hf_push h2 q2⟩ q3 h5
theorem x_newz {l : Launch} {E : En} {cc : ByteArray} {own nm : String} {nL : Nat} {R : Room} {ret : Option FieldType} {Fn : Ft} {J : Jt} (O : Ok l E cc own nm nL R ret Fn J) {pc : Nat} {i : Int32} {N : Nat} {P : HP} {ce sl : Nat} {lv : LV} {st : List Value} (d : decode cc pc = .ok (.newarray .boolean, 2)) (hn : ¬ i < 0) (hN : i.toNatClampNeg = N) (hN2 : N ≤ 131072) (hce : ce + 1 ≤ R.cells) (hsl : sl + N ≤ R.slots) (kk : ∀ q, J (fun h => ∃ h0, P h0 ∧ h0 q = none ∧ h = hset h0 q (.inl (E.2 1, N, .inl (fun _ => 0)))) (ce + 1) (sl + N) (pc + 2) lv (.ref q :: st)) : J P ce sl pc lv (.int i :: st) := by
  obtain ⟨p, e, s, m, args, below, meth, c, A, Q, rfl, hx, hb, hml, hown, hts, hK, hA, hnm, hret⟩ := O
  intro H locs ls ws h1 h2 h3 h4 h5
  refine va_newa (atype := .boolean) (a0 := (N, .inl (fun _ => 0))) (ty := .boolean) hx hb (hts _ ac_boolean) rfl hK.1 h1 h2 h4 hA (fun cA => rfl) hn hN (by simp only [componentBytes]; omega) hce hsl d (fun q cA H1 q0 q1 q2 q3 => ?_)
  have e1 := (q0.2 5 (cA, .boolean) rfl).2
  have e2 := (hK.1.2 1 (E.2 1, .boolean) rfl).2
  have e3 : cA = E.2 1 := Option.some.inj (e1.symm.trans e2)
  subst e3
  exact kk q H1 locs ls _ q1 q2 ⟨hf ws, h3, hf_fresh q2, hf_push h2 q2⟩ q3 h5
theorem x_newq {l : Launch} {E : En} {cc : ByteArray} {own nm : String} {nL : Nat} {R : Room} {ret : Option FieldType} {Fn : Ft} {J : Jt} (O : Ok l E cc own nm nL R ret Fn J) {pc index : Nat} {i : Int32} {N t0 : Nat} {C : String} {P : HP} {ce sl : Nat} {lv : LV} {st : List Value} (d : decode cc pc = .ok (.anewarray index, 3)) (ht : (e_tys E)[t0]? = some (E.2 t0, .object C)) (hao : ∀ U, e_K E U → va_AO C U) (hl : Cond.classLink own index C ∈ wsL_law) (hn : ¬ i < 0) (hN : i.toNatClampNeg = N) (hN2 : N ≤ 131072) (hce : ce + 1 ≤ R.cells) (hsl : sl + N ≤ R.slots) (kk : ∀ q, J (fun h => ∃ h0, P h0 ∧ h0 q = none ∧ h = hset h0 q (.inl (E.2 t0, N, .inr (.inr (.inr (.inr (fun _ => none))))))) (ce + 1) (sl + N) (pc + 3) lv (.ref q :: st)) : J P ce sl pc lv (.int i :: st) := by
  obtain ⟨p, e, s, m, args, below, meth, c, A, Q, rfl, hx, hb, hml, hown, hts, hK, hA, hnm, hret⟩ := O
  intro H locs ls ws h1 h2 h3 h4 h5
  refine va_newq (C := C) hx hb hown (hts _ hl) (hao s hK) hK.1 h1 h2 h4 hA hn hN (by omega) hce hsl d (fun q cA H1 q0 q1 q2 q3 => ?_)
  obtain ⟨-, -, -, -, -, e1⟩ := (q0.2 5 (cA, .object C) rfl).2
  obtain ⟨-, -, -, -, -, e2⟩ := (hK.1.2 t0 (E.2 t0, .object C) ht).2
  have e3 : cA = E.2 t0 := Option.some.inj (e1.symm.trans e2)
  subst e3
  exact kk q H1 locs ls _ q1 q2 ⟨hf ws, h3, hf_fresh q2, hf_push h2 q2⟩ q3 h5
theorem x_obj {l : Launch} {E : En} {cc : ByteArray} {own nm : String} {nL : Nat} {R : Room} {ret : Option FieldType} {Fn : Ft} {J : Jt} (O : Ok l E cc own nm nL R ret Fn J) {pc index a : Nat} {P : HP} {ce sl : Nat} {lv : LV} {st : List Value} (d : decode cc pc = .ok (.invokespecial index, 3)) (hl : Cond.methodLink own index objectInit ∈ wsL_law) (hf1 : 1 ≤ R.frames) (hf2 : (st.map fun v => v.category).sum + 12 ≤ R.locals) (kk : J P ce sl (pc + 3) lv st) : J P ce sl pc lv (.ref a :: st) := by
  obtain ⟨p, e, s, m, args, below, meth, c, A, Q, rfl, hx, hb, hml, hown, hts, hK, hA, hnm, hret⟩ := O
  intro H locs ls ws h1 h2 h3 h4 h5
  exact W.objInit hx hb hown (hts _ hl) (hts _ oi_inst) (hts _ oi_code) rfl (by rw [hml]; exact h5.2.1) rfl d hf1 (by show 2 * 0 + _ + 12 ≤ _; omega) (kk H locs ls ws h1 h2 h3 h4 h5)
theorem x_min {l : Launch} {E : En} {cc : ByteArray} {own nm : String} {nL : Nat} {R : Room} {ret : Option FieldType} {Fn : Ft} {J : Jt} (O : Ok l E cc own nm nL R ret Fn J) {pc index : Nat} {x y : Int32} {P : HP} {ce sl : Nat} {lv : LV} {st : List Value} (d : decode cc pc = .ok (.invokestatic index, 3)) (hl : Cond.methodLink own index Lib.Math.min.name ∈ wsL_law) (hf1 : 1 ≤ R.frames) (hf2 : (st.map fun v => v.category).sum + 13 ≤ R.locals) (hce : ce ≤ R.cells) (hsl : sl ≤ R.slots) (kk : J P ce sl (pc + 3) lv (.int (if y < x then y else x) :: st)) : J P ce sl pc lv (.int y :: .int x :: st) := by
  obtain ⟨p, e, s, m, args, below, meth, c, A, Q, rfl, hx, hb, hml, hown, hts, hK, hA, hnm, hret⟩ := O
  intro H locs ls ws h1 h2 h3 h4 h5
  exact va_mmin hx hb (by rw [hml]; exact h5.2.1.symm) hown (hts _ hl) (hts _ mi_st) (hts _ mm_ini) (hts _ mi_code) hf1 hf2 hce hsl d (kk H locs ls ws h1 h2 h3 h4 h5)
theorem x_max {l : Launch} {E : En} {cc : ByteArray} {own nm : String} {nL : Nat} {R : Room} {ret : Option FieldType} {Fn : Ft} {J : Jt} (O : Ok l E cc own nm nL R ret Fn J) {pc index : Nat} {x y : Int32} {P : HP} {ce sl : Nat} {lv : LV} {st : List Value} (d : decode cc pc = .ok (.invokestatic index, 3)) (hl : Cond.methodLink own index Lib.Math.max.name ∈ wsL_law) (hf1 : 1 ≤ R.frames) (hf2 : (st.map fun v => v.category).sum + 13 ≤ R.locals) (hce : ce ≤ R.cells) (hsl : sl ≤ R.slots) (kk : J P ce sl (pc + 3) lv (.int (if x < y then y else x) :: st)) : J P ce sl pc lv (.int y :: .int x :: st) := by
  obtain ⟨p, e, s, m, args, below, meth, c, A, Q, rfl, hx, hb, hml, hown, hts, hK, hA, hnm, hret⟩ := O
  intro H locs ls ws h1 h2 h3 h4 h5
  exact va_mmax hx hb (by rw [hml]; exact h5.2.1.symm) hown (hts _ hl) (hts _ mx_st) (hts _ mm_ini) (hts _ mx_code) hf1 hf2 hce hsl d (kk H locs ls ws h1 h2 h3 h4 h5)
/-! ===== contracts ===== -/
def mtPc (E : En) (ws : va_W) (sz : Nat) (av : List Value) : Array Value → State → Prop := va_Pc av (fun U => U.heap.size = sz ∧ va_P E.1 vwCl ws U.heap ∧ e_K E U ∧ va_D (fun _ => True) ws)
def mtQc {X : Type} (E : En) (ws : va_W) (sz : Nat) (val : X → Option Value) (P' : X → HP) : Array Value → State → Outcome → State → Prop := fun _ st oc t => (∃ (x : X) (ws' : va_W), oc = .returned (val x) ∧ P' x (hf ws') ∧ va_P E.1 vwCl ws' t.heap ∧ va_D (va_A ws sz) ws') ∧ va_F (va_A ws sz) st t
def Mt {X : Type} (l : Launch) (E : En) (y : MethodName) (bytes : ByteArray) (maxL : Nat) (ret : Option FieldType) (rm : Room) (av : List Value) (P : HP) (val : X → Option Value) (P' : X → HP) : Prop :=
  ∀ (ws : va_W) (sz : Nat), P (hf ws) → Met l y (.code y bytes maxL ret :: wsL_law) rm (mtPc E ws sz av) (mtQc E ws sz val P') rm.cells rm.slots (va_A ws sz)
theorem e_K_warm {E : En} {s U : State} (hW : s.WarmedH U.vm) (h : e_K E s) : e_K E U := ⟨va_K.moved hW.alike h.1, h.2.1.moved hW.alike, h.2.2.1.moved hW.alike, h.2.2.2.1.moved hW.alike, va_Nw.warmM hW h.2.2.2.2⟩
theorem e_K_same {E : En} {u U : State} (hvm : u.vm = U.vm) (h : e_K E u) : e_K E U := by
  have ha : u.vm.Alike U.vm := by rw [hvm]; exact Vm.Alike.refl _
  exact ⟨va_K.moved ha h.1, h.2.1.moved ha, h.2.2.1.moved ha, h.2.2.2.1.moved ha, va_Nw.same rfl hvm h.2.2.2.2⟩
theorem lawgood : ∀ w ∈ wsL_law, ((w.onTables && w.keeps) = true ∨ ∃ ty, w = .arrayClass ty) := fun w h => good_of_word (List.all_eq_true.mp wsL_law_gw w h)
theorem callB_law {R : Room} {s : State} {args : Array Value} {own : String} {index : Nat} {y : MethodName} {bytes : ByteArray} {maxL n : Nat} {ret : Option FieldType} {rm : Room} (hts : ∀ w ∈ wsL_law, w.before args s = true) (hc : CB own index y bytes maxL ret n) (hR : rm.frames + 1 ≤ R.frames ∧ 8 + (maxL + 11) + rm.locals ≤ R.locals) : CallB R s args own index y bytes maxL ret (.code y bytes maxL ret :: wsL_law) rm rm.cells rm.slots n :=
  callB_of (Ts := wsL_law) (ws' := wsL_law) n hts (fun w h => by
    rcases List.mem_cons.mp h with rfl | h
    · exact ⟨hc.2.2.1, lawgood _ hc.2.2.1⟩
    · exact ⟨h, lawgood _ h⟩) rfl rfl rfl (hts _ hc.2.1) (hts _ hc.1) hc.2.2.2 hR
section CALLX
variable {p : Program} {l : Launch} {e : Env} {R : Room} {s : State} {m : MethodId} {args : Array Value} {below : List Frame} {meth : Method} {c : Code} {H : Heap} {locs : List Loc} {cells slots : Nat} {Q : State → Prop}
variable {pc : Nat} {ls : Array Slot} {rest st0 : List Value} {a : Array Value} {A0 : Nat → Prop} {mc ms : Nat}
theorem x_back {X : Type} {E : En} {ws : va_W} {val : X → Option Value} {P' : X → HP} (hr : va_Run p l e R s m args below meth c H locs cells slots mc ms (F0 m pc ls st0) rest (mtQc E ws H.size val P' a) (va_A ws H.size)) (hD : va_D A0 ws) (hS : va_S A0 s.heap H locs) (hA : ∀ q, s.heap.size ≤ q → A0 q)
    (kk : ∀ (x : X) (ws' : va_W) (H1 : Heap) (locs1 : List Loc), P' x (hf ws') → va_P E.1 vwCl ws' H1 → va_D A0 ws' → va_S A0 s.heap H1 locs1 → W p l e R s m args below meth c H1 locs1 (cells + mc) (slots + ms) Q (F0 m (pc + 3) ls ((val x).toList ++ rest))) : W p l e R s m args below meth c H locs cells slots Q (F0 m pc ls st0) := by
  have hf : ∀ q, va_A ws H.size q → A0 q := fun q h => by
    rcases h with ⟨k, e, h⟩ | h
    · exact hD.2 k (q, e) h
    · exact hA q (Nat.le_trans hS.1 h)
  intro T hT X
  obtain ⟨v, st₀, t, T', L, h0, X', hL, e1, e2, ⟨⟨x, ws', hv, hp, hb, hd⟩, hz, hk⟩, st⟩ := hr T hT X
  cases hv
  rw [h0] at hz hk
  obtain ⟨t2, a1, b1⟩ := kk x ws' T'.heap (locs ++ L) hp (by rw [e1]; exact hb) (hd.weaken (fun _ _ _ h => hf _ h))
    ⟨Nat.le_trans hS.1 (by rw [e1]; exact hz), fun q h1 h2 => by rw [e1, hk q (Nat.lt_of_lt_of_le h1 hS.1) (fun z => h2 (hf q z))]; exact hS.2.1 q h1 h2, fun q hq => by
      rcases List.mem_append.mp hq with h | h
      · exact hS.2.2 q h
      · exact hf _ (hL q h)⟩ T' rfl X'
  exact ⟨t2, st t2 a1, b1⟩
end CALLX
theorem mt_pre {E : En} {s : State} {H : Heap} {ws : va_W} {A : Nat → Prop} {av : List Value} (hK : e_K E s) (hP : va_P E.1 vwCl ws H) (hD : va_D A ws) : PreS s H (mtPc E ws H.size av) av := ⟨fun a U g mk q => by
    obtain ⟨q0, q1, qP, qK, qD⟩ := q
    exact ⟨q0, q1, qP, e_K_same (u := U) (U := U.calling g mk a) rfl qK, qD⟩, fun U hU hW => ⟨rfl, by rw [hU], by rw [hU]; exact hP, e_K_warm hW hK, hD.weaken (fun _ _ _ _ => trivial)⟩⟩
theorem x_callV {l : Launch} {E : En} {cc : ByteArray} {own nm : String} {nL : Nat} {R : Room} {ret : Option FieldType} {Fn : Ft} {J : Jt} (O : Ok l E cc own nm nL R ret Fn J) {pc index : Nat} {X : Type} {y : MethodName} {bytes : ByteArray} {maxL n : Nat} {ret' : Option FieldType} {rm : Room} {val : X → Option Value} {P' : X → HP} {P : HP} {ce sl : Nat} {lv : LV} {st : List Value} {b : Nat} {As : List Value} (rest : List Value) (ci : Nat) (hM : Mt l E y bytes maxL ret' rm (.ref b :: As) P val P') (d : decode cc pc = .ok (.invokevirtual index, 3)) (hc : CB own index y bytes maxL ret' n) (him : Cond.instanceMethod y ∈ wsL_law) (hse : Cond.selects y.cls y y ∈ wsL_law) (hci : (vwCl[ci]?).map (fun q => q.1) = some y.cls) (hb0 : ∀ h, P h → ∃ fs, h b = some (.inr (ci, fs))) (hst : st = As.reverse ++ .ref b :: rest) (hn : As.length = n) (hw : (rest.map fun v => v.category).sum ≤ 8) (hR : rm.frames + 1 ≤ R.frames ∧ 8 + (maxL + 11) + rm.locals ≤ R.locals) (hce : ce + rm.cells ≤ R.cells ∧ sl + rm.slots ≤ R.slots) (kk : ∀ x, J (P' x) (ce + rm.cells) (sl + rm.slots) (pc + 3) lv ((val x).toList ++ rest)) : J P ce sl pc lv st := by
  obtain ⟨p, e, s, m, args, below, meth, c, A, Q, rfl, hx, hb, hml, hown, hts, hK, hA, hnm, hret⟩ := O
  intro H locs ls ws h1 h2 h3 h4 h5
  subst hst
  obtain ⟨fs, f1⟩ := hb0 _ h3
  obtain ⟨q0, f2⟩ := hf_mem f1
  cases hq : vwCl[ci]? with
  | none => rw [hq] at hci; cases hci
  | some q =>
    rw [hq] at hci
    have hq1 : q.1 = y.cls := Option.some.inj hci
    have hrec := va_recv hK.1 h1 hq f2
    rw [hq1] at hrec
    have hps := mt_pre (av := .ref b :: As) hK h1 h2
    exact x_back (va_runV (As := As) (rest := rest) ⟨hx, hb, hml, hown, hts⟩ (hM ws H.size h3) ⟨callB_law hts hc hR, hts _ him, hts _ hse⟩ ⟨hps.1, hrec, hps.2⟩ rfl hn h5.2.1 rfl (lv_room hw) d hce) h2 h4 hA (fun x ws' H1 locs1 g1 g2 g3 g4 => kk x H1 locs1 ls ws' g2 g3 g1 g4 h5)
theorem x_callS {l : Launch} {E : En} {cc : ByteArray} {own nm : String} {nL : Nat} {R : Room} {ret : Option FieldType} {Fn : Ft} {J : Jt} (O : Ok l E cc own nm nL R ret Fn J) {pc index : Nat} {X : Type} {y : MethodName} {bytes : ByteArray} {maxL n : Nat} {ret' : Option FieldType} {rm : Room} {val : X → Option Value} {P' : X → HP} {P : HP} {ce sl : Nat} {lv : LV} {st : List Value} {As : List Value} (rest : List Value) (hM : Mt l E y bytes maxL ret' rm As P val P') (d : decode cc pc = .ok (.invokestatic index, 3)) (hc : CB own index y bytes maxL ret' n) (him : Cond.static y ∈ wsL_law) (hst : st = As.reverse ++ rest) (hn : As.length = n) (hw : (rest.map fun v => v.category).sum ≤ 8) (hR : rm.frames + 1 ≤ R.frames ∧ 8 + (maxL + 11) + rm.locals ≤ R.locals) (hce : ce + rm.cells ≤ R.cells ∧ sl + rm.slots ≤ R.slots) (kk : ∀ x, J (P' x) (ce + rm.cells) (sl + rm.slots) (pc + 3) lv ((val x).toList ++ rest)) : J P ce sl pc lv st := by
  obtain ⟨p, e, s, m, args, below, meth, c, A, Q, rfl, hx, hb, hml, hown, hts, hK, hA, hnm, hret⟩ := O
  intro H locs ls ws h1 h2 h3 h4 h5
  subst hst
  exact x_back (va_runS (As := As) (rest := rest) ⟨hx, hb, hml, hown, hts⟩ (hM ws H.size h3) ⟨callB_law hts hc hR, hts _ him⟩ (mt_pre hK h1 h2) rfl hn h5.2.1 rfl (lv_room hw) d hce) h2 h4 hA (fun x ws' H1 locs1 g1 g2 g3 g4 => kk x H1 locs1 ls ws' g2 g3 g1 g4 h5)
theorem x_callI {l : Launch} {E : En} {cc : ByteArray} {own nm : String} {nL : Nat} {R : Room} {ret : Option FieldType} {Fn : Ft} {J : Jt} (O : Ok l E cc own nm nL R ret Fn J) {pc index : Nat} {X : Type} {y : MethodName} {bytes : ByteArray} {maxL n : Nat} {rm : Room} {val : X → Option Value} {P' : X → HP} {P : HP} {ce sl : Nat} {lv : LV} {st : List Value} {b : Nat} {As : List Value} (rest : List Value) (hM : Mt l E y bytes maxL none rm (.ref b :: As) P val P') (hy : y.name = "<init>") (d : decode cc pc = .ok (.invokespecial index, 3)) (hc : CB own index y bytes maxL none n) (him : Cond.instanceMethod y ∈ wsL_law) (hst : st = As.reverse ++ .ref b :: rest) (hn : As.length = n) (hw : (rest.map fun v => v.category).sum ≤ 8) (hR : rm.frames + 1 ≤ R.frames ∧ 8 + (maxL + 11) + rm.locals ≤ R.locals) (hce : ce + rm.cells ≤ R.cells ∧ sl + rm.slots ≤ R.slots) (kk : ∀ x, J (P' x) (ce + rm.cells) (sl + rm.slots) (pc + 3) lv ((val x).toList ++ rest)) : J P ce sl pc lv st := by
  obtain ⟨p, e, s, m, args, below, meth, c, A, Q, rfl, hx, hb, hml, hown, hts, hK, hA, hnm, hret⟩ := O
  intro H locs ls ws h1 h2 h3 h4 h5
  subst hst
  exact x_back (va_runI (As := As) (rest := rest) ⟨hx, hb, hml, hown, hts⟩ (hM ws H.size h3) ⟨callB_law hts hc hR, hy, hts _ him⟩ (mt_pre hK h1 h2) rfl hn h5.2.1 rfl (lv_room hw) d hce) h2 h4 hA (fun x ws' H1 locs1 g1 g2 g3 g4 => kk x H1 locs1 ls ws' g2 g3 g1 g4 h5)
theorem x_callP {l : Launch} {E : En} {cc : ByteArray} {own nm : String} {nL : Nat} {R : Room} {ret : Option FieldType} {Fn : Ft} {J : Jt} (O : Ok l E cc RX7 nm nL R ret Fn J) {pc : Nat} {X : Type} {bytes : ByteArray} {maxL : Nat} {rm : Room} {val : X → Option Value} {P' : X → HP} {P : HP} {ce sl : Nat} {lv : LV} {st : List Value} {b : Nat} (rest : List Value) (hM : Mt l E yX3_init bytes maxL none rm [.ref b] P val P') (d : decode cc pc = .ok (.invokespecial 27, 3)) (hcode : Cond.code yX3_init bytes maxL none ∈ wsL_law) (him : Cond.instanceMethod yX3_init ∈ wsL_law) (hst : st = .ref b :: rest) (hw : (rest.map fun v => v.category).sum ≤ 8) (hR : rm.frames + 1 ≤ R.frames ∧ 8 + (maxL + 11) + rm.locals ≤ R.locals) (hce : ce + rm.cells ≤ R.cells ∧ sl + rm.slots ≤ R.slots) (kk : ∀ x, J (P' x) (ce + rm.cells) (sl + rm.slots) (pc + 3) lv ((val x).toList ++ rest)) : J P ce sl pc lv st := by
  obtain ⟨p, e, s, m, args, below, meth, c, A, Q, rfl, hx, hb, hml, hown, hts, hK, hA, hnm, hret⟩ := O
  intro H locs ls ws h1 h2 h3 h4 h5
  subst hst
  exact x_back (va_runIN (As := []) (rest := rest) ⟨hx, hb, hml, hown, hts⟩ (hM ws H.size h3) ⟨va_cnB (Ts := wsL_law) (ws' := wsL_law) 0 hts (fun w h => by
    rcases List.mem_cons.mp h with rfl | h
    · exact ⟨hcode, lawgood _ hcode⟩
    · exact ⟨h, lawgood _ h⟩) rfl rfl rfl hK.2.2.2.2 (hts _ ini_RX3) (by decide +kernel) hR, rfl, hts _ him⟩ (mt_pre hK h1 h2) rfl rfl h5.2.1 rfl (lv_room hw) d hce) h2 h4 hA (fun x ws' H1 locs1 g1 g2 g3 g4 => kk x H1 locs1 ls ws' g2 g3 g1 g4 h5)
/-! ===== a contract out of its body ===== -/
def ent1 : List Value → LV
  | [] => []
  | .long x :: r => some (.long x) :: none :: ent1 r
  | .double x :: r => some (.double x) :: none :: ent1 r
  | v :: r => some v :: ent1 r
def ent (vs : List Value) (n : Nat) : LV := ent1 vs ++ List.replicate (n - (ent1 vs).length) none
theorem ent1_len : ∀ vs : List Value, (ent1 vs).length = (lg_sl vs).length
  | [] => rfl
  | v :: r => by
    have ih := ent1_len r
    cases v <;> simp [ent1, lg_sl, Value.category] at ih ⊢ <;> omega
theorem ent1_mem : ∀ (vs : List Value) (i j : Nat) (v : Value), (ent1 vs)[j]? = some (some v) → (i + j, v) ∈ lv_args i vs
  | [], i, j, v, h => by simp [ent1] at h
  | u :: r, i, j, v, h => by
    have ih := fun i j v => ent1_mem r i j v
    by_cases hc : u.category = 2
    · have he : ent1 (u :: r) = some u :: none :: ent1 r := by cases u <;> first | rfl | (simp [Value.category] at hc)
      rw [he] at h
      simp only [lv_args, hc, if_true]
      rcases j with _ | _ | j
      · simp at h; subst h; exact List.mem_cons_self
      · simp at h
      · simp only [List.getElem?_cons_succ] at h
        have := ih (i + 2) j v h
        refine List.mem_cons_of_mem _ ?_
        rw [show i + (j + 1 + 1) = i + 2 + j by omega]
        exact this
    · have he : ent1 (u :: r) = some u :: ent1 r := by cases u <;> first | rfl | (simp [Value.category] at hc)
      rw [he] at h
      simp only [lv_args, hc, if_false]
      rcases j with _ | j
      · simp at h; subst h; exact List.mem_cons_self
      · simp only [List.getElem?_cons_succ] at h
        have := ih (i + 1) j v h
        refine List.mem_cons_of_mem _ ?_
        rw [show i + (j + 1) = i + 1 + j by omega]
        exact this
theorem ent_lvs (vs : List Value) (n : Nat) (h : (ent1 vs).length ≤ n) : lvs ((lg_sl vs ++ List.replicate (n - (lg_sl vs).length) Slot.unset).toArray) n (ent vs n) := by
  have hl := lv_entry vs (n := n) (by rw [← ent1_len]; exact h)
  refine ⟨by simp [ent]; omega, hl.1, hl.2.1, fun i v hv => ?_⟩
  unfold ent at hv
  by_cases hi : i < (ent1 vs).length
  · rw [List.getElem?_append_left hi] at hv
    have := ent1_mem vs 0 i v hv
    rw [Nat.zero_add] at this
    exact hl.2.2 _ this
  · rw [List.getElem?_append_right (Nat.le_of_not_lt hi), List.getElem?_replicate] at hv
    split at hv <;> cases hv
def mtFin {X : Type} (rm : Room) (val : X → Option Value) (P' : X → HP) : Ft := fun v P ce sl => ce ≤ rm.cells ∧ sl ≤ rm.slots ∧ ∃ x, v = val x ∧ ∀ h, P h → P' x h
theorem Mt_of {X : Type} {l : Launch} {E : En} {y : MethodName} {bytes : ByteArray} {maxL : Nat} {ret : Option FieldType} {rm : Room} {av : List Value} {P : HP} {val : X → Option Value} {P' : X → HP} (hy : plainName y.cls = true) (hlen : (ent1 av).length ≤ maxL) (body : ∀ J, Ok l E bytes y.cls y.name maxL rm ret (mtFin rm val P') J → J P 0 0 0 (ent av maxL) []) : Mt l E y bytes maxL ret rm av P val P' := by
  intro ws sz hP
  refine Met.ofW (cc := bytes) (maxL := maxL) (ret := ret) hy rfl ?_
  intro p e s m args below meth c s₁ B hml hv
  obtain ⟨rfl, rfl, hP0, hK, hD0⟩ := hv
  have hx := B.exec
  have hb := B.bytes
  have hr := B.returns
  have hlocks := B.notSynchronized
  have hts := atoms_spec (ws := .code y bytes maxL ret :: wsL_law) B.pre
  have hown : s.vm.findClass y.cls = some m.cls := findClass_of_methodNamed B.named
  have hnm : meth.name = y.name := (name_of_methodNamed B.named B.method).1
  have hD := hD0.self (sz := s.heap.size)
  have hA : ∀ q : Nat, s.heap.size ≤ q → va_A ws s.heap.size q := fun q h => Or.inr h
  rw [lg_entry_eq]
  refine body _ ⟨p, e, s, m, av.toArray, below, meth, c, va_A ws s.heap.size, MQ below (mtQc E ws s.heap.size val P') av.toArray s rm.cells rm.slots (va_A ws s.heap.size), rfl, hx, hb, hml, hown, fun w h => hts w (List.mem_cons_of_mem _ h), hK, hA, hnm, ?_⟩ s.heap [] _ ws hP0 hD hP va_S.rf (ent_lvs av maxL hlen)
  intro v P2 ce sl pc lv hF hrt hd H locs ls ws' g1 g2 g3 g4 g5
  obtain ⟨hc, hs, x, rfl, hx9⟩ := hF
  have hq : ∀ t : State, t.heap = H → s.WarmedH t.vm → mtQc E ws s.heap.size val P' av.toArray s (.returned (val x)) t := fun t ht hW => ⟨⟨x, ws', rfl, hx9 _ g3, by rw [ht]; exact g1, g2⟩, g4.F ht⟩
  refine W.widen hc hs ?_
  cases hv : val x with
  | none =>
    rw [hv] at hq hd hrt
    cases ret with
    | none => exact W.vret hx hb hr hq g4.2.2 hd
    | some ty => cases hrt
  | some u =>
    rw [hv] at hq hd hrt
    cases ret with
    | none => cases u <;> cases hrt
    | some ty =>
      cases u with
      | int z => exact W.zret hx hb hr hrt hq g4.2.2 hd
      | long z =>
        cases ty <;> first | (cases hrt; done) | exact W.lret hx hb hr hq g4.2.2 hd
      | ref z =>
        cases ty <;> first | (cases hrt; done) | exact W.aret hx hb hr (Or.inl ⟨_, rfl⟩) (Or.inr ⟨_, rfl⟩) hq g4.2.2 hd | exact W.aret hx hb hr (Or.inr ⟨_, rfl⟩) (Or.inr ⟨_, rfl⟩) hq g4.2.2 hd
      | null =>
        cases ty <;> first | (cases hrt; done) | exact W.aret hx hb hr (Or.inl ⟨_, rfl⟩) (Or.inl rfl) hq g4.2.2 hd
      | _ => cases ty <;> cases hrt
end
section
theorem dX0_init_0 : decode cX0_init 0 = .ok (.aload_n 0, 1) := by decide +kernel
theorem dX0_init_1 : decode cX0_init 1 = .ok (.invokespecial 3, 3) := by decide +kernel
theorem dX0_init_4 : decode cX0_init 4 = .ok (.aload_n 0, 1) := by decide +kernel
theorem dX0_init_5 : decode cX0_init 5 = .ok (.iload_n 1, 1) := by decide +kernel
theorem dX0_init_6 : decode cX0_init 6 = .ok (.ldc 9, 2) := by decide +kernel
theorem dX0_init_8 : decode cX0_init 8 = .ok (.idiv, 1) := by decide +kernel
theorem dX0_init_9 : decode cX0_init 9 = .ok (.putfield 10, 3) := by decide +kernel
theorem dX0_init_12 : decode cX0_init 12 = .ok (.aload_n 0, 1) := by decide +kernel
theorem dX0_init_13 : decode cX0_init 13 = .ok (.iload_n 1, 1) := by decide +kernel
theorem dX0_init_14 : decode cX0_init 14 = .ok (.sipush 1000, 3) := by decide +kernel
theorem dX0_init_17 : decode cX0_init 17 = .ok (.idiv, 1) := by decide +kernel
theorem dX0_init_18 : decode cX0_init 18 = .ok (.bipush 100, 2) := by decide +kernel
theorem dX0_init_20 : decode cX0_init 20 = .ok (.irem, 1) := by decide +kernel
theorem dX0_init_21 : decode cX0_init 21 = .ok (.putfield 16, 3) := by decide +kernel
theorem dX0_init_24 : decode cX0_init 24 = .ok (.aload_n 0, 1) := by decide +kernel
theorem dX0_init_25 : decode cX0_init 25 = .ok (.iload_n 1, 1) := by decide +kernel
theorem dX0_init_26 : decode cX0_init 26 = .ok (.bipush 100, 2) := by decide +kernel
theorem dX0_init_28 : decode cX0_init 28 = .ok (.idiv, 1) := by decide +kernel
theorem dX0_init_29 : decode cX0_init 29 = .ok (.bipush 10, 2) := by decide +kernel
theorem dX0_init_31 : decode cX0_init 31 = .ok (.irem, 1) := by decide +kernel
theorem dX0_init_32 : decode cX0_init 32 = .ok (.putfield 19, 3) := by decide +kernel
theorem dX0_init_35 : decode cX0_init 35 = .ok (.aload_n 0, 1) := by decide +kernel
theorem dX0_init_36 : decode cX0_init 36 = .ok (.iload_n 1, 1) := by decide +kernel
theorem dX0_init_37 : decode cX0_init 37 = .ok (.bipush 10, 2) := by decide +kernel
theorem dX0_init_39 : decode cX0_init 39 = .ok (.idiv, 1) := by decide +kernel
theorem dX0_init_40 : decode cX0_init 40 = .ok (.bipush 10, 2) := by decide +kernel
theorem dX0_init_42 : decode cX0_init 42 = .ok (.irem, 1) := by decide +kernel
theorem dX0_init_43 : decode cX0_init 43 = .ok (.putfield 22, 3) := by decide +kernel
theorem dX0_init_46 : decode cX0_init 46 = .ok (.aload_n 0, 1) := by decide +kernel
theorem dX0_init_47 : decode cX0_init 47 = .ok (.iload_n 2, 1) := by decide +kernel
theorem dX0_init_48 : decode cX0_init 48 = .ok (.sipush 10000, 3) := by decide +kernel
theorem dX0_init_51 : decode cX0_init 51 = .ok (.idiv, 1) := by decide +kernel
theorem dX0_init_52 : decode cX0_init 52 = .ok (.putfield 25, 3) := by decide +kernel
theorem dX0_init_55 : decode cX0_init 55 = .ok (.aload_n 0, 1) := by decide +kernel
theorem dX0_init_56 : decode cX0_init 56 = .ok (.iload_n 2, 1) := by decide +kernel
theorem dX0_init_57 : decode cX0_init 57 = .ok (.bipush 100, 2) := by decide +kernel
theorem dX0_init_59 : decode cX0_init 59 = .ok (.idiv, 1) := by decide +kernel
theorem dX0_init_60 : decode cX0_init 60 = .ok (.bipush 100, 2) := by decide +kernel
theorem dX0_init_62 : decode cX0_init 62 = .ok (.irem, 1) := by decide +kernel
theorem dX0_init_63 : decode cX0_init 63 = .ok (.putfield 28, 3) := by decide +kernel
theorem dX0_init_66 : decode cX0_init 66 = .ok (.aload_n 0, 1) := by decide +kernel
theorem dX0_init_67 : decode cX0_init 67 = .ok (.iload_n 2, 1) := by decide +kernel
theorem dX0_init_68 : decode cX0_init 68 = .ok (.bipush 100, 2) := by decide +kernel
theorem dX0_init_70 : decode cX0_init 70 = .ok (.irem, 1) := by decide +kernel
theorem dX0_init_71 : decode cX0_init 71 = .ok (.putfield 31, 3) := by decide +kernel
theorem dX0_init_74 : decode cX0_init 74 = .ok (.return_, 1) := by decide +kernel
theorem dX0_canBe_0 : decode cX0_canBe 0 = .ok (.iload_n 0, 1) := by decide +kernel
theorem dX0_canBe_1 : decode cX0_canBe 1 = .ok (.ifCond .lt 20, 3) := by decide +kernel
theorem dX0_canBe_4 : decode cX0_canBe 4 = .ok (.iload_n 0, 1) := by decide +kernel
theorem dX0_canBe_5 : decode cX0_canBe 5 = .ok (.bipush 10, 2) := by decide +kernel
theorem dX0_canBe_7 : decode cX0_canBe 7 = .ok (.irem, 1) := by decide +kernel
theorem dX0_canBe_8 : decode cX0_canBe 8 = .ok (.ifCond .ne 13, 3) := by decide +kernel
theorem dX0_canBe_11 : decode cX0_canBe 11 = .ok (.iload_n 1, 1) := by decide +kernel
theorem dX0_canBe_12 : decode cX0_canBe 12 = .ok (.ifCond .lt 9, 3) := by decide +kernel
theorem dX0_canBe_15 : decode cX0_canBe 15 = .ok (.iload_n 1, 1) := by decide +kernel
theorem dX0_canBe_16 : decode cX0_canBe 16 = .ok (.ldc 34, 2) := by decide +kernel
theorem dX0_canBe_18 : decode cX0_canBe 18 = .ok (.if_icmp .le 5, 3) := by decide +kernel
theorem dX0_canBe_21 : decode cX0_canBe 21 = .ok (.iconst 0, 1) := by decide +kernel
theorem dX0_canBe_22 : decode cX0_canBe 22 = .ok (.ireturn, 1) := by decide +kernel
theorem dX0_canBe_23 : decode cX0_canBe 23 = .ok (.new 11, 3) := by decide +kernel
theorem dX0_canBe_26 : decode cX0_canBe 26 = .ok (.dup, 1) := by decide +kernel
theorem dX0_canBe_27 : decode cX0_canBe 27 = .ok (.iload_n 0, 1) := by decide +kernel
theorem dX0_canBe_28 : decode cX0_canBe 28 = .ok (.iload_n 1, 1) := by decide +kernel
theorem dX0_canBe_29 : decode cX0_canBe 29 = .ok (.invokespecial 35, 3) := by decide +kernel
theorem dX0_canBe_32 : decode cX0_canBe 32 = .ok (.astore_n 2, 1) := by decide +kernel
theorem dX0_canBe_33 : decode cX0_canBe 33 = .ok (.aload_n 2, 1) := by decide +kernel
theorem dX0_canBe_34 : decode cX0_canBe 34 = .ok (.getfield 10, 3) := by decide +kernel
theorem dX0_canBe_37 : decode cX0_canBe 37 = .ok (.iconst 2, 1) := by decide +kernel
theorem dX0_canBe_38 : decode cX0_canBe 38 = .ok (.if_icmp .gt 32, 3) := by decide +kernel
theorem dX0_canBe_41 : decode cX0_canBe 41 = .ok (.aload_n 2, 1) := by decide +kernel
theorem dX0_canBe_42 : decode cX0_canBe 42 = .ok (.getfield 16, 3) := by decide +kernel
theorem dX0_canBe_45 : decode cX0_canBe 45 = .ok (.bipush 12, 2) := by decide +kernel
theorem dX0_canBe_47 : decode cX0_canBe 47 = .ok (.if_icmp .gt 23, 3) := by decide +kernel
theorem dX0_canBe_50 : decode cX0_canBe 50 = .ok (.aload_n 2, 1) := by decide +kernel
theorem dX0_canBe_51 : decode cX0_canBe 51 = .ok (.getfield 19, 3) := by decide +kernel
theorem dX0_canBe_54 : decode cX0_canBe 54 = .ok (.iconst 3, 1) := by decide +kernel
theorem dX0_canBe_55 : decode cX0_canBe 55 = .ok (.if_icmp .gt 15, 3) := by decide +kernel
theorem dX0_canBe_58 : decode cX0_canBe 58 = .ok (.aload_n 2, 1) := by decide +kernel
theorem dX0_canBe_59 : decode cX0_canBe 59 = .ok (.getfield 22, 3) := by decide +kernel
theorem dX0_canBe_62 : decode cX0_canBe 62 = .ok (.iconst 3, 1) := by decide +kernel
theorem dX0_canBe_63 : decode cX0_canBe 63 = .ok (.if_icmp .gt 7, 3) := by decide +kernel
theorem dX0_canBe_66 : decode cX0_canBe 66 = .ok (.iconst 1, 1) := by decide +kernel
theorem dX0_canBe_67 : decode cX0_canBe 67 = .ok (.goto 4, 3) := by decide +kernel
theorem dX0_canBe_70 : decode cX0_canBe 70 = .ok (.iconst 0, 1) := by decide +kernel
theorem dX0_canBe_71 : decode cX0_canBe 71 = .ok (.ireturn, 1) := by decide +kernel
theorem dX1_init_0 : decode cX1_init 0 = .ok (.aload_n 0, 1) := by decide +kernel
theorem dX1_init_1 : decode cX1_init 1 = .ok (.invokespecial 3, 3) := by decide +kernel
theorem dX1_init_4 : decode cX1_init 4 = .ok (.aload_n 0, 1) := by decide +kernel
theorem dX1_init_5 : decode cX1_init 5 = .ok (.bipush 40, 2) := by decide +kernel
theorem dX1_init_7 : decode cX1_init 7 = .ok (.newarray .int, 2) := by decide +kernel
theorem dX1_init_9 : decode cX1_init 9 = .ok (.putfield 9, 3) := by decide +kernel
theorem dX1_init_12 : decode cX1_init 12 = .ok (.aload_n 0, 1) := by decide +kernel
theorem dX1_init_13 : decode cX1_init 13 = .ok (.bipush 12, 2) := by decide +kernel
theorem dX1_init_15 : decode cX1_init 15 = .ok (.newarray .int, 2) := by decide +kernel
theorem dX1_init_17 : decode cX1_init 17 = .ok (.putfield 15, 3) := by decide +kernel
theorem dX1_init_20 : decode cX1_init 20 = .ok (.aload_n 0, 1) := by decide +kernel
theorem dX1_init_21 : decode cX1_init 21 = .ok (.aload_n 1, 1) := by decide +kernel
theorem dX1_init_22 : decode cX1_init 22 = .ok (.putfield 18, 3) := by decide +kernel
theorem dX1_init_25 : decode cX1_init 25 = .ok (.return_, 1) := by decide +kernel
theorem dX1_list_0 : decode cX1_list 0 = .ok (.aload_n 0, 1) := by decide +kernel
theorem dX1_list_1 : decode cX1_list 1 = .ok (.iload_n 1, 1) := by decide +kernel
theorem dX1_list_2 : decode cX1_list 2 = .ok (.iload_n 2, 1) := by decide +kernel
theorem dX1_list_3 : decode cX1_list 3 = .ok (.invokevirtual 22, 3) := by decide +kernel
theorem dX1_list_6 : decode cX1_list 6 = .ok (.aload_n 0, 1) := by decide +kernel
theorem dX1_list_7 : decode cX1_list 7 = .ok (.iconst 0, 1) := by decide +kernel
theorem dX1_list_8 : decode cX1_list 8 = .ok (.putfield 26, 3) := by decide +kernel
theorem dX1_list_11 : decode cX1_list 11 = .ok (.aload_n 0, 1) := by decide +kernel
theorem dX1_list_12 : decode cX1_list 12 = .ok (.aload_n 0, 1) := by decide +kernel
theorem dX1_list_13 : decode cX1_list 13 = .ok (.iload_n 1, 1) := by decide +kernel
theorem dX1_list_14 : decode cX1_list 14 = .ok (.invokevirtual 30, 3) := by decide +kernel
theorem dX1_list_17 : decode cX1_list 17 = .ok (.iconst 0, 1) := by decide +kernel
theorem dX1_list_18 : decode cX1_list 18 = .ok (.invokevirtual 34, 3) := by decide +kernel
theorem dX1_list_21 : decode cX1_list 21 = .ok (.return_, 1) := by decide +kernel
theorem dX1_share_0 : decode cX1_share 0 = .ok (.aload_n 0, 1) := by decide +kernel
theorem dX1_share_1 : decode cX1_share 1 = .ok (.iload_n 1, 1) := by decide +kernel
theorem dX1_share_2 : decode cX1_share 2 = .ok (.iload_n 2, 1) := by decide +kernel
theorem dX1_share_3 : decode cX1_share 3 = .ok (.invokevirtual 22, 3) := by decide +kernel
theorem dX1_share_6 : decode cX1_share 6 = .ok (.iconst 0, 1) := by decide +kernel
theorem dX1_share_7 : decode cX1_share 7 = .ok (.istore 4, 2) := by decide +kernel
theorem dX1_share_9 : decode cX1_share 9 = .ok (.iload 4, 2) := by decide +kernel
theorem dX1_share_11 : decode cX1_share 11 = .ok (.aload_n 0, 1) := by decide +kernel
theorem dX1_share_12 : decode cX1_share 12 = .ok (.getfield 15, 3) := by decide +kernel
theorem dX1_share_15 : decode cX1_share 15 = .ok (.arraylength, 1) := by decide +kernel
theorem dX1_share_16 : decode cX1_share 16 = .ok (.if_icmp .ge 17, 3) := by decide +kernel
theorem dX1_share_19 : decode cX1_share 19 = .ok (.aload_n 0, 1) := by decide +kernel
theorem dX1_share_20 : decode cX1_share 20 = .ok (.getfield 15, 3) := by decide +kernel
theorem dX1_share_23 : decode cX1_share 23 = .ok (.iload 4, 2) := by decide +kernel
theorem dX1_share_25 : decode cX1_share 25 = .ok (.iconst (-1), 1) := by decide +kernel
theorem dX1_share_26 : decode cX1_share 26 = .ok (.iastore, 1) := by decide +kernel
theorem dX1_share_27 : decode cX1_share 27 = .ok (.iinc 4 1, 3) := by decide +kernel
theorem dX1_share_30 : decode cX1_share 30 = .ok (.goto (-21), 3) := by decide +kernel
theorem dX1_share_33 : decode cX1_share 33 = .ok (.aload_n 0, 1) := by decide +kernel
theorem dX1_share_34 : decode cX1_share 34 = .ok (.aload_n 0, 1) := by decide +kernel
theorem dX1_share_35 : decode cX1_share 35 = .ok (.iload_n 1, 1) := by decide +kernel
theorem dX1_share_36 : decode cX1_share 36 = .ok (.invokevirtual 30, 3) := by decide +kernel
theorem dX1_share_39 : decode cX1_share 39 = .ok (.iconst 0, 1) := by decide +kernel
theorem dX1_share_40 : decode cX1_share 40 = .ok (.iload_n 3, 1) := by decide +kernel
theorem dX1_share_41 : decode cX1_share 41 = .ok (.aload_n 0, 1) := by decide +kernel
theorem dX1_share_42 : decode cX1_share 42 = .ok (.getfield 15, 3) := by decide +kernel
theorem dX1_share_45 : decode cX1_share 45 = .ok (.arraylength, 1) := by decide +kernel
theorem dX1_share_46 : decode cX1_share 46 = .ok (.invokestatic 38, 3) := by decide +kernel
theorem dX1_share_49 : decode cX1_share 49 = .ok (.iconst 0, 1) := by decide +kernel
theorem dX1_share_50 : decode cX1_share 50 = .ok (.invokevirtual 44, 3) := by decide +kernel
theorem dX1_share_53 : decode cX1_share 53 = .ok (.return_, 1) := by decide +kernel
theorem dX1_look_0 : decode cX1_look 0 = .ok (.aload_n 0, 1) := by decide +kernel
theorem dX1_look_1 : decode cX1_look 1 = .ok (.iload_n 2, 1) := by decide +kernel
theorem dX1_look_2 : decode cX1_look 2 = .ok (.putfield 48, 3) := by decide +kernel
theorem dX1_look_5 : decode cX1_look 5 = .ok (.aload_n 0, 1) := by decide +kernel
theorem dX1_look_6 : decode cX1_look 6 = .ok (.lconst 0, 1) := by decide +kernel
theorem dX1_look_7 : decode cX1_look 7 = .ok (.putfield 51, 3) := by decide +kernel
theorem dX1_look_10 : decode cX1_look 10 = .ok (.aload_n 0, 1) := by decide +kernel
theorem dX1_look_11 : decode cX1_look 11 = .ok (.lconst 0, 1) := by decide +kernel
theorem dX1_look_12 : decode cX1_look 12 = .ok (.putfield 55, 3) := by decide +kernel
theorem dX1_look_15 : decode cX1_look 15 = .ok (.aload_n 0, 1) := by decide +kernel
theorem dX1_look_16 : decode cX1_look 16 = .ok (.getfield 18, 3) := by decide +kernel
theorem dX1_look_19 : decode cX1_look 19 = .ok (.getfield 58, 3) := by decide +kernel
theorem dX1_look_22 : decode cX1_look 22 = .ok (.iconst 1, 1) := by decide +kernel
theorem dX1_look_23 : decode cX1_look 23 = .ok (.isub, 1) := by decide +kernel
theorem dX1_look_24 : decode cX1_look 24 = .ok (.istore_n 3, 1) := by decide +kernel
theorem dX1_look_25 : decode cX1_look 25 = .ok (.iload_n 3, 1) := by decide +kernel
theorem dX1_look_26 : decode cX1_look 26 = .ok (.ifCond .lt 110, 3) := by decide +kernel
theorem dX1_look_29 : decode cX1_look 29 = .ok (.aload_n 0, 1) := by decide +kernel
theorem dX1_look_30 : decode cX1_look 30 = .ok (.getfield 18, 3) := by decide +kernel
theorem dX1_look_33 : decode cX1_look 33 = .ok (.iload_n 3, 1) := by decide +kernel
theorem dX1_look_34 : decode cX1_look 34 = .ok (.invokevirtual 63, 3) := by decide +kernel
theorem dX1_look_37 : decode cX1_look 37 = .ok (.astore 4, 2) := by decide +kernel
theorem dX1_look_39 : decode cX1_look 39 = .ok (.aload 4, 2) := by decide +kernel
theorem dX1_look_41 : decode cX1_look 41 = .ok (.ifnonnull 6, 3) := by decide +kernel
theorem dX1_look_44 : decode cX1_look 44 = .ok (.goto 86, 3) := by decide +kernel
theorem dX1_look_47 : decode cX1_look 47 = .ok (.aload 4, 2) := by decide +kernel
theorem dX1_look_49 : decode cX1_look 49 = .ok (.getfield 67, 3) := by decide +kernel
theorem dX1_look_52 : decode cX1_look 52 = .ok (.ifCond .eq 12, 3) := by decide +kernel
theorem dX1_look_55 : decode cX1_look 55 = .ok (.iload_n 3, 1) := by decide +kernel
theorem dX1_look_56 : decode cX1_look 56 = .ok (.iload_n 1, 1) := by decide +kernel
theorem dX1_look_57 : decode cX1_look 57 = .ok (.if_icmp .eq 7, 3) := by decide +kernel
theorem dX1_look_60 : decode cX1_look 60 = .ok (.iconst 1, 1) := by decide +kernel
theorem dX1_look_61 : decode cX1_look 61 = .ok (.goto 4, 3) := by decide +kernel
theorem dX1_look_64 : decode cX1_look 64 = .ok (.iconst 0, 1) := by decide +kernel
theorem dX1_look_65 : decode cX1_look 65 = .ok (.istore 5, 2) := by decide +kernel
theorem dX1_look_67 : decode cX1_look 67 = .ok (.aload_n 0, 1) := by decide +kernel
theorem dX1_look_68 : decode cX1_look 68 = .ok (.dup, 1) := by decide +kernel
theorem dX1_look_69 : decode cX1_look 69 = .ok (.getfield 51, 3) := by decide +kernel
theorem dX1_look_72 : decode cX1_look 72 = .ok (.iload 5, 2) := by decide +kernel
theorem dX1_look_74 : decode cX1_look 74 = .ok (.ifCond .eq 9, 3) := by decide +kernel
theorem dX1_look_77 : decode cX1_look 77 = .ok (.lconst 1, 1) := by decide +kernel
theorem dX1_look_78 : decode cX1_look 78 = .ok (.iload_n 3, 1) := by decide +kernel
theorem dX1_look_79 : decode cX1_look 79 = .ok (.lshl, 1) := by decide +kernel
theorem dX1_look_80 : decode cX1_look 80 = .ok (.goto 4, 3) := by decide +kernel
theorem dX1_look_83 : decode cX1_look 83 = .ok (.lconst 0, 1) := by decide +kernel
theorem dX1_look_84 : decode cX1_look 84 = .ok (.lor, 1) := by decide +kernel
theorem dX1_look_85 : decode cX1_look 85 = .ok (.putfield 51, 3) := by decide +kernel
theorem dX1_look_88 : decode cX1_look 88 = .ok (.aload_n 0, 1) := by decide +kernel
theorem dX1_look_89 : decode cX1_look 89 = .ok (.dup, 1) := by decide +kernel
theorem dX1_look_90 : decode cX1_look 90 = .ok (.getfield 55, 3) := by decide +kernel
theorem dX1_look_93 : decode cX1_look 93 = .ok (.iload 5, 2) := by decide +kernel
theorem dX1_look_95 : decode cX1_look 95 = .ok (.ifCond .ne 24, 3) := by decide +kernel
theorem dX1_look_98 : decode cX1_look 98 = .ok (.aload 4, 2) := by decide +kernel
theorem dX1_look_100 : decode cX1_look 100 = .ok (.getfield 73, 3) := by decide +kernel
theorem dX1_look_103 : decode cX1_look 103 = .ok (.aload 4, 2) := by decide +kernel
theorem dX1_look_105 : decode cX1_look 105 = .ok (.getfield 76, 3) := by decide +kernel
theorem dX1_look_108 : decode cX1_look 108 = .ok (.lor, 1) := by decide +kernel
theorem dX1_look_109 : decode cX1_look 109 = .ok (.aload_n 0, 1) := by decide +kernel
theorem dX1_look_110 : decode cX1_look 110 = .ok (.getfield 55, 3) := by decide +kernel
theorem dX1_look_113 : decode cX1_look 113 = .ok (.land, 1) := by decide +kernel
theorem dX1_look_114 : decode cX1_look 114 = .ok (.lconst 0, 1) := by decide +kernel
theorem dX1_look_115 : decode cX1_look 115 = .ok (.lcmp, 1) := by decide +kernel
theorem dX1_look_116 : decode cX1_look 116 = .ok (.ifCond .eq 9, 3) := by decide +kernel
theorem dX1_look_119 : decode cX1_look 119 = .ok (.lconst 1, 1) := by decide +kernel
theorem dX1_look_120 : decode cX1_look 120 = .ok (.iload_n 3, 1) := by decide +kernel
theorem dX1_look_121 : decode cX1_look 121 = .ok (.lshl, 1) := by decide +kernel
theorem dX1_look_122 : decode cX1_look 122 = .ok (.goto 4, 3) := by decide +kernel
theorem dX1_look_125 : decode cX1_look 125 = .ok (.lconst 0, 1) := by decide +kernel
theorem dX1_look_126 : decode cX1_look 126 = .ok (.lor, 1) := by decide +kernel
theorem dX1_look_127 : decode cX1_look 127 = .ok (.putfield 55, 3) := by decide +kernel
theorem dX1_look_130 : decode cX1_look 130 = .ok (.iinc 3 (-1), 3) := by decide +kernel
theorem dX1_look_133 : decode cX1_look 133 = .ok (.goto (-108), 3) := by decide +kernel
theorem dX1_look_136 : decode cX1_look 136 = .ok (.return_, 1) := by decide +kernel
theorem dX1_firstLine_0 : decode cX1_firstLine 0 = .ok (.aload_n 0, 1) := by decide +kernel
theorem dX1_firstLine_1 : decode cX1_firstLine 1 = .ok (.iload_n 1, 1) := by decide +kernel
theorem dX1_firstLine_2 : decode cX1_firstLine 2 = .ok (.lconst 0, 1) := by decide +kernel
theorem dX1_firstLine_3 : decode cX1_firstLine 3 = .ok (.invokevirtual 79, 3) := by decide +kernel
theorem dX1_firstLine_6 : decode cX1_firstLine 6 = .ok (.lstore_n 2, 1) := by decide +kernel
theorem dX1_firstLine_7 : decode cX1_firstLine 7 = .ok (.aload_n 0, 1) := by decide +kernel
theorem dX1_firstLine_8 : decode cX1_firstLine 8 = .ok (.getfield 18, 3) := by decide +kernel
theorem dX1_firstLine_11 : decode cX1_firstLine 11 = .ok (.iload_n 1, 1) := by decide +kernel
theorem dX1_firstLine_12 : decode cX1_firstLine 12 = .ok (.invokevirtual 63, 3) := by decide +kernel
theorem dX1_firstLine_15 : decode cX1_firstLine 15 = .ok (.astore 4, 2) := by decide +kernel
theorem dX1_firstLine_17 : decode cX1_firstLine 17 = .ok (.lload_n 2, 1) := by decide +kernel
theorem dX1_firstLine_18 : decode cX1_firstLine 18 = .ok (.lconst 0, 1) := by decide +kernel
theorem dX1_firstLine_19 : decode cX1_firstLine 19 = .ok (.lcmp, 1) := by decide +kernel
theorem dX1_firstLine_20 : decode cX1_firstLine 20 = .ok (.ifCond .ne 8, 3) := by decide +kernel
theorem dX1_firstLine_23 : decode cX1_firstLine 23 = .ok (.aload 4, 2) := by decide +kernel
theorem dX1_firstLine_25 : decode cX1_firstLine 25 = .ok (.ifnonnull 5, 3) := by decide +kernel
theorem dX1_firstLine_28 : decode cX1_firstLine 28 = .ok (.lload_n 2, 1) := by decide +kernel
theorem dX1_firstLine_29 : decode cX1_firstLine 29 = .ok (.lreturn, 1) := by decide +kernel
theorem dX1_firstLine_30 : decode cX1_firstLine 30 = .ok (.aload_n 0, 1) := by decide +kernel
theorem dX1_firstLine_31 : decode cX1_firstLine 31 = .ok (.aload 4, 2) := by decide +kernel
theorem dX1_firstLine_33 : decode cX1_firstLine 33 = .ok (.getfield 83, 3) := by decide +kernel
theorem dX1_firstLine_36 : decode cX1_firstLine 36 = .ok (.lconst 1, 1) := by decide +kernel
theorem dX1_firstLine_37 : decode cX1_firstLine 37 = .ok (.iload_n 1, 1) := by decide +kernel
theorem dX1_firstLine_38 : decode cX1_firstLine 38 = .ok (.lshl, 1) := by decide +kernel
theorem dX1_firstLine_39 : decode cX1_firstLine 39 = .ok (.invokevirtual 79, 3) := by decide +kernel
theorem dX1_firstLine_42 : decode cX1_firstLine 42 = .ok (.lreturn, 1) := by decide +kernel
theorem dX1_lineBelow_0 : decode cX1_lineBelow 0 = .ok (.aload_n 0, 1) := by decide +kernel
theorem dX1_lineBelow_1 : decode cX1_lineBelow 1 = .ok (.getfield 18, 3) := by decide +kernel
theorem dX1_lineBelow_4 : decode cX1_lineBelow 4 = .ok (.iload_n 1, 1) := by decide +kernel
theorem dX1_lineBelow_5 : decode cX1_lineBelow 5 = .ok (.invokevirtual 63, 3) := by decide +kernel
theorem dX1_lineBelow_8 : decode cX1_lineBelow 8 = .ok (.astore 4, 2) := by decide +kernel
theorem dX1_lineBelow_10 : decode cX1_lineBelow 10 = .ok (.aload 4, 2) := by decide +kernel
theorem dX1_lineBelow_12 : decode cX1_lineBelow 12 = .ok (.ifnonnull 5, 3) := by decide +kernel
theorem dX1_lineBelow_15 : decode cX1_lineBelow 15 = .ok (.lconst 0, 1) := by decide +kernel
theorem dX1_lineBelow_16 : decode cX1_lineBelow 16 = .ok (.lreturn, 1) := by decide +kernel
theorem dX1_lineBelow_17 : decode cX1_lineBelow 17 = .ok (.aload 4, 2) := by decide +kernel
theorem dX1_lineBelow_19 : decode cX1_lineBelow 19 = .ok (.getfield 73, 3) := by decide +kernel
theorem dX1_lineBelow_22 : decode cX1_lineBelow 22 = .ok (.aload_n 0, 1) := by decide +kernel
theorem dX1_lineBelow_23 : decode cX1_lineBelow 23 = .ok (.getfield 55, 3) := by decide +kernel
theorem dX1_lineBelow_26 : decode cX1_lineBelow 26 = .ok (.land, 1) := by decide +kernel
theorem dX1_lineBelow_27 : decode cX1_lineBelow 27 = .ok (.lload_n 2, 1) := by decide +kernel
theorem dX1_lineBelow_28 : decode cX1_lineBelow 28 = .ok (.ldc2_w 86, 3) := by decide +kernel
theorem dX1_lineBelow_31 : decode cX1_lineBelow 31 = .ok (.lxor, 1) := by decide +kernel
theorem dX1_lineBelow_32 : decode cX1_lineBelow 32 = .ok (.land, 1) := by decide +kernel
theorem dX1_lineBelow_33 : decode cX1_lineBelow 33 = .ok (.lstore 5, 2) := by decide +kernel
theorem dX1_lineBelow_35 : decode cX1_lineBelow 35 = .ok (.lload 5, 2) := by decide +kernel
theorem dX1_lineBelow_37 : decode cX1_lineBelow 37 = .ok (.lconst 0, 1) := by decide +kernel
theorem dX1_lineBelow_38 : decode cX1_lineBelow 38 = .ok (.lcmp, 1) := by decide +kernel
theorem dX1_lineBelow_39 : decode cX1_lineBelow 39 = .ok (.ifCond .ne 20, 3) := by decide +kernel
theorem dX1_lineBelow_42 : decode cX1_lineBelow 42 = .ok (.aload 4, 2) := by decide +kernel
theorem dX1_lineBelow_44 : decode cX1_lineBelow 44 = .ok (.getfield 76, 3) := by decide +kernel
theorem dX1_lineBelow_47 : decode cX1_lineBelow 47 = .ok (.aload_n 0, 1) := by decide +kernel
theorem dX1_lineBelow_48 : decode cX1_lineBelow 48 = .ok (.getfield 55, 3) := by decide +kernel
theorem dX1_lineBelow_51 : decode cX1_lineBelow 51 = .ok (.land, 1) := by decide +kernel
theorem dX1_lineBelow_52 : decode cX1_lineBelow 52 = .ok (.lload_n 2, 1) := by decide +kernel
theorem dX1_lineBelow_53 : decode cX1_lineBelow 53 = .ok (.ldc2_w 86, 3) := by decide +kernel
theorem dX1_lineBelow_56 : decode cX1_lineBelow 56 = .ok (.lxor, 1) := by decide +kernel
theorem dX1_lineBelow_57 : decode cX1_lineBelow 57 = .ok (.land, 1) := by decide +kernel
theorem dX1_lineBelow_58 : decode cX1_lineBelow 58 = .ok (.lreturn, 1) := by decide +kernel
theorem dX1_lineBelow_59 : decode cX1_lineBelow 59 = .ok (.aload_n 0, 1) := by decide +kernel
theorem dX1_lineBelow_60 : decode cX1_lineBelow 60 = .ok (.getfield 48, 3) := by decide +kernel
theorem dX1_lineBelow_63 : decode cX1_lineBelow 63 = .ok (.ifCond .ne 10, 3) := by decide +kernel
theorem dX1_lineBelow_66 : decode cX1_lineBelow 66 = .ok (.lload 5, 2) := by decide +kernel
theorem dX1_lineBelow_68 : decode cX1_lineBelow 68 = .ok (.lload 5, 2) := by decide +kernel
theorem dX1_lineBelow_70 : decode cX1_lineBelow 70 = .ok (.lneg, 1) := by decide +kernel
theorem dX1_lineBelow_71 : decode cX1_lineBelow 71 = .ok (.land, 1) := by decide +kernel
theorem dX1_lineBelow_72 : decode cX1_lineBelow 72 = .ok (.lreturn, 1) := by decide +kernel
theorem dX1_lineBelow_73 : decode cX1_lineBelow 73 = .ok (.aload_n 0, 1) := by decide +kernel
theorem dX1_lineBelow_74 : decode cX1_lineBelow 74 = .ok (.getfield 48, 3) := by decide +kernel
theorem dX1_lineBelow_77 : decode cX1_lineBelow 77 = .ok (.iconst 1, 1) := by decide +kernel
theorem dX1_lineBelow_78 : decode cX1_lineBelow 78 = .ok (.if_icmp .ne 11, 3) := by decide +kernel
theorem dX1_lineBelow_81 : decode cX1_lineBelow 81 = .ok (.lload 5, 2) := by decide +kernel
theorem dX1_lineBelow_83 : decode cX1_lineBelow 83 = .ok (.invokestatic 88, 3) := by decide +kernel
theorem dX1_lineBelow_86 : decode cX1_lineBelow 86 = .ok (.goto 5, 3) := by decide +kernel
theorem dX1_lineBelow_89 : decode cX1_lineBelow 89 = .ok (.lload 5, 2) := by decide +kernel
theorem dX1_lineBelow_91 : decode cX1_lineBelow 91 = .ok (.lreturn, 1) := by decide +kernel
theorem dX1_youngestOf_0 : decode cX1_youngestOf 0 = .ok (.ldc2_w 92, 3) := by decide +kernel
theorem dX1_youngestOf_3 : decode cX1_youngestOf 3 = .ok (.lstore_n 2, 1) := by decide +kernel
theorem dX1_youngestOf_4 : decode cX1_youngestOf 4 = .ok (.lload_n 2, 1) := by decide +kernel
theorem dX1_youngestOf_5 : decode cX1_youngestOf 5 = .ok (.lconst 0, 1) := by decide +kernel
theorem dX1_youngestOf_6 : decode cX1_youngestOf 6 = .ok (.lcmp, 1) := by decide +kernel
theorem dX1_youngestOf_7 : decode cX1_youngestOf 7 = .ok (.ifCond .le 20, 3) := by decide +kernel
theorem dX1_youngestOf_10 : decode cX1_youngestOf 10 = .ok (.lload_n 0, 1) := by decide +kernel
theorem dX1_youngestOf_11 : decode cX1_youngestOf 11 = .ok (.lload_n 2, 1) := by decide +kernel
theorem dX1_youngestOf_12 : decode cX1_youngestOf 12 = .ok (.land, 1) := by decide +kernel
theorem dX1_youngestOf_13 : decode cX1_youngestOf 13 = .ok (.lconst 0, 1) := by decide +kernel
theorem dX1_youngestOf_14 : decode cX1_youngestOf 14 = .ok (.lcmp, 1) := by decide +kernel
theorem dX1_youngestOf_15 : decode cX1_youngestOf 15 = .ok (.ifCond .eq 5, 3) := by decide +kernel
theorem dX1_youngestOf_18 : decode cX1_youngestOf 18 = .ok (.lload_n 2, 1) := by decide +kernel
theorem dX1_youngestOf_19 : decode cX1_youngestOf 19 = .ok (.lreturn, 1) := by decide +kernel
theorem dX1_youngestOf_20 : decode cX1_youngestOf 20 = .ok (.lload_n 2, 1) := by decide +kernel
theorem dX1_youngestOf_21 : decode cX1_youngestOf 21 = .ok (.iconst 1, 1) := by decide +kernel
theorem dX1_youngestOf_22 : decode cX1_youngestOf 22 = .ok (.lshr, 1) := by decide +kernel
theorem dX1_youngestOf_23 : decode cX1_youngestOf 23 = .ok (.lstore_n 2, 1) := by decide +kernel
theorem dX1_youngestOf_24 : decode cX1_youngestOf 24 = .ok (.goto (-20), 3) := by decide +kernel
theorem dX1_youngestOf_27 : decode cX1_youngestOf 27 = .ok (.lconst 0, 1) := by decide +kernel
theorem dX1_youngestOf_28 : decode cX1_youngestOf 28 = .ok (.lreturn, 1) := by decide +kernel
theorem dX1_isIn_0 : decode cX1_isIn 0 = .ok (.lload_n 0, 1) := by decide +kernel
theorem dX1_isIn_1 : decode cX1_isIn 1 = .ok (.iload_n 2, 1) := by decide +kernel
theorem dX1_isIn_2 : decode cX1_isIn 2 = .ok (.lshr, 1) := by decide +kernel
theorem dX1_isIn_3 : decode cX1_isIn 3 = .ok (.lconst 1, 1) := by decide +kernel
theorem dX1_isIn_4 : decode cX1_isIn 4 = .ok (.land, 1) := by decide +kernel
theorem dX1_isIn_5 : decode cX1_isIn 5 = .ok (.lconst 0, 1) := by decide +kernel
theorem dX1_isIn_6 : decode cX1_isIn 6 = .ok (.lcmp, 1) := by decide +kernel
theorem dX1_isIn_7 : decode cX1_isIn 7 = .ok (.ifCond .eq 7, 3) := by decide +kernel
theorem dX1_isIn_10 : decode cX1_isIn 10 = .ok (.iconst 1, 1) := by decide +kernel
theorem dX1_isIn_11 : decode cX1_isIn 11 = .ok (.goto 4, 3) := by decide +kernel
theorem dX1_isIn_14 : decode cX1_isIn 14 = .ok (.iconst 0, 1) := by decide +kernel
theorem dX1_isIn_15 : decode cX1_isIn 15 = .ok (.ireturn, 1) := by decide +kernel
theorem dX1_listLine_0 : decode cX1_listLine 0 = .ok (.iload_n 3, 1) := by decide +kernel
theorem dX1_listLine_1 : decode cX1_listLine 1 = .ok (.bipush 60, 2) := by decide +kernel
theorem dX1_listLine_3 : decode cX1_listLine 3 = .ok (.if_icmp .le 4, 3) := by decide +kernel
theorem dX1_listLine_6 : decode cX1_listLine 6 = .ok (.return_, 1) := by decide +kernel
theorem dX1_listLine_7 : decode cX1_listLine 7 = .ok (.iconst 0, 1) := by decide +kernel
theorem dX1_listLine_8 : decode cX1_listLine 8 = .ok (.istore 4, 2) := by decide +kernel
theorem dX1_listLine_10 : decode cX1_listLine 10 = .ok (.iload 4, 2) := by decide +kernel
theorem dX1_listLine_12 : decode cX1_listLine 12 = .ok (.aload_n 0, 1) := by decide +kernel
theorem dX1_listLine_13 : decode cX1_listLine 13 = .ok (.getfield 18, 3) := by decide +kernel
theorem dX1_listLine_16 : decode cX1_listLine 16 = .ok (.getfield 58, 3) := by decide +kernel
theorem dX1_listLine_19 : decode cX1_listLine 19 = .ok (.if_icmp .ge 83, 3) := by decide +kernel
theorem dX1_listLine_22 : decode cX1_listLine 22 = .ok (.aload_n 0, 1) := by decide +kernel
theorem dX1_listLine_23 : decode cX1_listLine 23 = .ok (.getfield 26, 3) := by decide +kernel
theorem dX1_listLine_26 : decode cX1_listLine 26 = .ok (.aload_n 0, 1) := by decide +kernel
theorem dX1_listLine_27 : decode cX1_listLine 27 = .ok (.getfield 9, 3) := by decide +kernel
theorem dX1_listLine_30 : decode cX1_listLine 30 = .ok (.arraylength, 1) := by decide +kernel
theorem dX1_listLine_31 : decode cX1_listLine 31 = .ok (.if_icmp .ge 71, 3) := by decide +kernel
theorem dX1_listLine_34 : decode cX1_listLine 34 = .ok (.lload_n 1, 1) := by decide +kernel
theorem dX1_listLine_35 : decode cX1_listLine 35 = .ok (.iload 4, 2) := by decide +kernel
theorem dX1_listLine_37 : decode cX1_listLine 37 = .ok (.invokestatic 94, 3) := by decide +kernel
theorem dX1_listLine_40 : decode cX1_listLine 40 = .ok (.ifCond .ne 6, 3) := by decide +kernel
theorem dX1_listLine_43 : decode cX1_listLine 43 = .ok (.goto 53, 3) := by decide +kernel
theorem dX1_listLine_46 : decode cX1_listLine 46 = .ok (.aload_n 0, 1) := by decide +kernel
theorem dX1_listLine_47 : decode cX1_listLine 47 = .ok (.getfield 51, 3) := by decide +kernel
theorem dX1_listLine_50 : decode cX1_listLine 50 = .ok (.iload 4, 2) := by decide +kernel
theorem dX1_listLine_52 : decode cX1_listLine 52 = .ok (.invokestatic 94, 3) := by decide +kernel
theorem dX1_listLine_55 : decode cX1_listLine 55 = .ok (.ifCond .eq 27, 3) := by decide +kernel
theorem dX1_listLine_58 : decode cX1_listLine 58 = .ok (.aload_n 0, 1) := by decide +kernel
theorem dX1_listLine_59 : decode cX1_listLine 59 = .ok (.getfield 9, 3) := by decide +kernel
theorem dX1_listLine_62 : decode cX1_listLine 62 = .ok (.aload_n 0, 1) := by decide +kernel
theorem dX1_listLine_63 : decode cX1_listLine 63 = .ok (.getfield 26, 3) := by decide +kernel
theorem dX1_listLine_66 : decode cX1_listLine 66 = .ok (.iload 4, 2) := by decide +kernel
theorem dX1_listLine_68 : decode cX1_listLine 68 = .ok (.iastore, 1) := by decide +kernel
theorem dX1_listLine_69 : decode cX1_listLine 69 = .ok (.aload_n 0, 1) := by decide +kernel
theorem dX1_listLine_70 : decode cX1_listLine 70 = .ok (.dup, 1) := by decide +kernel
theorem dX1_listLine_71 : decode cX1_listLine 71 = .ok (.getfield 26, 3) := by decide +kernel
theorem dX1_listLine_74 : decode cX1_listLine 74 = .ok (.iconst 1, 1) := by decide +kernel
theorem dX1_listLine_75 : decode cX1_listLine 75 = .ok (.iadd, 1) := by decide +kernel
theorem dX1_listLine_76 : decode cX1_listLine 76 = .ok (.putfield 26, 3) := by decide +kernel
theorem dX1_listLine_79 : decode cX1_listLine 79 = .ok (.goto 17, 3) := by decide +kernel
theorem dX1_listLine_82 : decode cX1_listLine 82 = .ok (.aload_n 0, 1) := by decide +kernel
theorem dX1_listLine_83 : decode cX1_listLine 83 = .ok (.aload_n 0, 1) := by decide +kernel
theorem dX1_listLine_84 : decode cX1_listLine 84 = .ok (.iload 4, 2) := by decide +kernel
theorem dX1_listLine_86 : decode cX1_listLine 86 = .ok (.lconst 0, 1) := by decide +kernel
theorem dX1_listLine_87 : decode cX1_listLine 87 = .ok (.invokevirtual 79, 3) := by decide +kernel
theorem dX1_listLine_90 : decode cX1_listLine 90 = .ok (.iload_n 3, 1) := by decide +kernel
theorem dX1_listLine_91 : decode cX1_listLine 91 = .ok (.iconst 1, 1) := by decide +kernel
theorem dX1_listLine_92 : decode cX1_listLine 92 = .ok (.iadd, 1) := by decide +kernel
theorem dX1_listLine_93 : decode cX1_listLine 93 = .ok (.invokevirtual 34, 3) := by decide +kernel
theorem dX1_listLine_96 : decode cX1_listLine 96 = .ok (.iinc 4 1, 3) := by decide +kernel
theorem dX1_listLine_99 : decode cX1_listLine 99 = .ok (.goto (-89), 3) := by decide +kernel
theorem dX1_listLine_102 : decode cX1_listLine 102 = .ok (.return_, 1) := by decide +kernel
theorem dX1_shareLine_0 : decode cX1_shareLine 0 = .ok (.lload_n 1, 1) := by decide +kernel
theorem dX1_shareLine_1 : decode cX1_shareLine 1 = .ok (.invokestatic 98, 3) := by decide +kernel
theorem dX1_shareLine_4 : decode cX1_shareLine 4 = .ok (.istore 6, 2) := by decide +kernel
theorem dX1_shareLine_6 : decode cX1_shareLine 6 = .ok (.iload 6, 2) := by decide +kernel
theorem dX1_shareLine_8 : decode cX1_shareLine 8 = .ok (.ifCond .eq 10, 3) := by decide +kernel
theorem dX1_shareLine_11 : decode cX1_shareLine 11 = .ok (.iload 5, 2) := by decide +kernel
theorem dX1_shareLine_13 : decode cX1_shareLine 13 = .ok (.bipush 60, 2) := by decide +kernel
theorem dX1_shareLine_15 : decode cX1_shareLine 15 = .ok (.if_icmp .le 4, 3) := by decide +kernel
theorem dX1_shareLine_18 : decode cX1_shareLine 18 = .ok (.return_, 1) := by decide +kernel
theorem dX1_shareLine_19 : decode cX1_shareLine 19 = .ok (.iload 4, 2) := by decide +kernel
theorem dX1_shareLine_21 : decode cX1_shareLine 21 = .ok (.iload 6, 2) := by decide +kernel
theorem dX1_shareLine_23 : decode cX1_shareLine 23 = .ok (.idiv, 1) := by decide +kernel
theorem dX1_shareLine_24 : decode cX1_shareLine 24 = .ok (.istore 7, 2) := by decide +kernel
theorem dX1_shareLine_26 : decode cX1_shareLine 26 = .ok (.iload 4, 2) := by decide +kernel
theorem dX1_shareLine_28 : decode cX1_shareLine 28 = .ok (.iload 6, 2) := by decide +kernel
theorem dX1_shareLine_30 : decode cX1_shareLine 30 = .ok (.irem, 1) := by decide +kernel
theorem dX1_shareLine_31 : decode cX1_shareLine 31 = .ok (.istore 8, 2) := by decide +kernel
theorem dX1_shareLine_33 : decode cX1_shareLine 33 = .ok (.iload_n 3, 1) := by decide +kernel
theorem dX1_shareLine_34 : decode cX1_shareLine 34 = .ok (.istore 9, 2) := by decide +kernel
theorem dX1_shareLine_36 : decode cX1_shareLine 36 = .ok (.iconst 0, 1) := by decide +kernel
theorem dX1_shareLine_37 : decode cX1_shareLine 37 = .ok (.istore 10, 2) := by decide +kernel
theorem dX1_shareLine_39 : decode cX1_shareLine 39 = .ok (.iconst 0, 1) := by decide +kernel
theorem dX1_shareLine_40 : decode cX1_shareLine 40 = .ok (.istore 11, 2) := by decide +kernel
theorem dX1_shareLine_42 : decode cX1_shareLine 42 = .ok (.iload 11, 2) := by decide +kernel
theorem dX1_shareLine_44 : decode cX1_shareLine 44 = .ok (.aload_n 0, 1) := by decide +kernel
theorem dX1_shareLine_45 : decode cX1_shareLine 45 = .ok (.getfield 18, 3) := by decide +kernel
theorem dX1_shareLine_48 : decode cX1_shareLine 48 = .ok (.getfield 58, 3) := by decide +kernel
theorem dX1_shareLine_51 : decode cX1_shareLine 51 = .ok (.if_icmp .ge 102, 3) := by decide +kernel
theorem dX1_shareLine_54 : decode cX1_shareLine 54 = .ok (.lload_n 1, 1) := by decide +kernel
theorem dX1_shareLine_55 : decode cX1_shareLine 55 = .ok (.iload 11, 2) := by decide +kernel
theorem dX1_shareLine_57 : decode cX1_shareLine 57 = .ok (.invokestatic 94, 3) := by decide +kernel
theorem dX1_shareLine_60 : decode cX1_shareLine 60 = .ok (.ifCond .ne 6, 3) := by decide +kernel
theorem dX1_shareLine_63 : decode cX1_shareLine 63 = .ok (.goto 84, 3) := by decide +kernel
theorem dX1_shareLine_66 : decode cX1_shareLine 66 = .ok (.iload 7, 2) := by decide +kernel
theorem dX1_shareLine_68 : decode cX1_shareLine 68 = .ok (.iload 10, 2) := by decide +kernel
theorem dX1_shareLine_70 : decode cX1_shareLine 70 = .ok (.iload 8, 2) := by decide +kernel
theorem dX1_shareLine_72 : decode cX1_shareLine 72 = .ok (.if_icmp .ge 7, 3) := by decide +kernel
theorem dX1_shareLine_75 : decode cX1_shareLine 75 = .ok (.iconst 1, 1) := by decide +kernel
theorem dX1_shareLine_76 : decode cX1_shareLine 76 = .ok (.goto 4, 3) := by decide +kernel
theorem dX1_shareLine_79 : decode cX1_shareLine 79 = .ok (.iconst 0, 1) := by decide +kernel
theorem dX1_shareLine_80 : decode cX1_shareLine 80 = .ok (.iadd, 1) := by decide +kernel
theorem dX1_shareLine_81 : decode cX1_shareLine 81 = .ok (.istore 12, 2) := by decide +kernel
theorem dX1_shareLine_83 : decode cX1_shareLine 83 = .ok (.iinc 10 1, 3) := by decide +kernel
theorem dX1_shareLine_86 : decode cX1_shareLine 86 = .ok (.iload 12, 2) := by decide +kernel
theorem dX1_shareLine_88 : decode cX1_shareLine 88 = .ok (.ifCond .le 28, 3) := by decide +kernel
theorem dX1_shareLine_91 : decode cX1_shareLine 91 = .ok (.aload_n 0, 1) := by decide +kernel
theorem dX1_shareLine_92 : decode cX1_shareLine 92 = .ok (.getfield 51, 3) := by decide +kernel
theorem dX1_shareLine_95 : decode cX1_shareLine 95 = .ok (.iload 11, 2) := by decide +kernel
theorem dX1_shareLine_97 : decode cX1_shareLine 97 = .ok (.invokestatic 94, 3) := by decide +kernel
theorem dX1_shareLine_100 : decode cX1_shareLine 100 = .ok (.ifCond .eq 16, 3) := by decide +kernel
theorem dX1_shareLine_103 : decode cX1_shareLine 103 = .ok (.aload_n 0, 1) := by decide +kernel
theorem dX1_shareLine_104 : decode cX1_shareLine 104 = .ok (.iload 11, 2) := by decide +kernel
theorem dX1_shareLine_106 : decode cX1_shareLine 106 = .ok (.iload 9, 2) := by decide +kernel
theorem dX1_shareLine_108 : decode cX1_shareLine 108 = .ok (.iload 12, 2) := by decide +kernel
theorem dX1_shareLine_110 : decode cX1_shareLine 110 = .ok (.invokevirtual 104, 3) := by decide +kernel
theorem dX1_shareLine_113 : decode cX1_shareLine 113 = .ok (.goto 27, 3) := by decide +kernel
theorem dX1_shareLine_116 : decode cX1_shareLine 116 = .ok (.iload 12, 2) := by decide +kernel
theorem dX1_shareLine_118 : decode cX1_shareLine 118 = .ok (.ifCond .le 22, 3) := by decide +kernel
theorem dX1_shareLine_121 : decode cX1_shareLine 121 = .ok (.aload_n 0, 1) := by decide +kernel
theorem dX1_shareLine_122 : decode cX1_shareLine 122 = .ok (.aload_n 0, 1) := by decide +kernel
theorem dX1_shareLine_123 : decode cX1_shareLine 123 = .ok (.iload 11, 2) := by decide +kernel
theorem dX1_shareLine_125 : decode cX1_shareLine 125 = .ok (.lconst 0, 1) := by decide +kernel
theorem dX1_shareLine_126 : decode cX1_shareLine 126 = .ok (.invokevirtual 79, 3) := by decide +kernel
theorem dX1_shareLine_129 : decode cX1_shareLine 129 = .ok (.iload 9, 2) := by decide +kernel
theorem dX1_shareLine_131 : decode cX1_shareLine 131 = .ok (.iload 12, 2) := by decide +kernel
theorem dX1_shareLine_133 : decode cX1_shareLine 133 = .ok (.iload 5, 2) := by decide +kernel
theorem dX1_shareLine_135 : decode cX1_shareLine 135 = .ok (.iconst 1, 1) := by decide +kernel
theorem dX1_shareLine_136 : decode cX1_shareLine 136 = .ok (.iadd, 1) := by decide +kernel
theorem dX1_shareLine_137 : decode cX1_shareLine 137 = .ok (.invokevirtual 44, 3) := by decide +kernel
theorem dX1_shareLine_140 : decode cX1_shareLine 140 = .ok (.iload 9, 2) := by decide +kernel
theorem dX1_shareLine_142 : decode cX1_shareLine 142 = .ok (.iload 12, 2) := by decide +kernel
theorem dX1_shareLine_144 : decode cX1_shareLine 144 = .ok (.iadd, 1) := by decide +kernel
theorem dX1_shareLine_145 : decode cX1_shareLine 145 = .ok (.istore 9, 2) := by decide +kernel
theorem dX1_shareLine_147 : decode cX1_shareLine 147 = .ok (.iinc 11 1, 3) := by decide +kernel
theorem dX1_shareLine_150 : decode cX1_shareLine 150 = .ok (.goto (-108), 3) := by decide +kernel
theorem dX1_shareLine_153 : decode cX1_shareLine 153 = .ok (.return_, 1) := by decide +kernel
theorem dX1_give_0 : decode cX1_give 0 = .ok (.iload_n 2, 1) := by decide +kernel
theorem dX1_give_1 : decode cX1_give 1 = .ok (.istore 4, 2) := by decide +kernel
theorem dX1_give_3 : decode cX1_give 3 = .ok (.iload 4, 2) := by decide +kernel
theorem dX1_give_5 : decode cX1_give 5 = .ok (.iload_n 2, 1) := by decide +kernel
theorem dX1_give_6 : decode cX1_give 6 = .ok (.iload_n 3, 1) := by decide +kernel
theorem dX1_give_7 : decode cX1_give 7 = .ok (.iadd, 1) := by decide +kernel
theorem dX1_give_8 : decode cX1_give 8 = .ok (.if_icmp .ge 27, 3) := by decide +kernel
theorem dX1_give_11 : decode cX1_give 11 = .ok (.iload 4, 2) := by decide +kernel
theorem dX1_give_13 : decode cX1_give 13 = .ok (.aload_n 0, 1) := by decide +kernel
theorem dX1_give_14 : decode cX1_give 14 = .ok (.getfield 15, 3) := by decide +kernel
theorem dX1_give_17 : decode cX1_give 17 = .ok (.arraylength, 1) := by decide +kernel
theorem dX1_give_18 : decode cX1_give 18 = .ok (.if_icmp .ge 17, 3) := by decide +kernel
theorem dX1_give_21 : decode cX1_give 21 = .ok (.aload_n 0, 1) := by decide +kernel
theorem dX1_give_22 : decode cX1_give 22 = .ok (.getfield 15, 3) := by decide +kernel
theorem dX1_give_25 : decode cX1_give 25 = .ok (.iload 4, 2) := by decide +kernel
theorem dX1_give_27 : decode cX1_give 27 = .ok (.iload_n 1, 1) := by decide +kernel
theorem dX1_give_28 : decode cX1_give 28 = .ok (.iastore, 1) := by decide +kernel
theorem dX1_give_29 : decode cX1_give 29 = .ok (.iinc 4 1, 3) := by decide +kernel
theorem dX1_give_32 : decode cX1_give 32 = .ok (.goto (-29), 3) := by decide +kernel
theorem dX1_give_35 : decode cX1_give 35 = .ok (.return_, 1) := by decide +kernel
theorem dX2_init_0 : decode cX2_init 0 = .ok (.aload_n 0, 1) := by decide +kernel
theorem dX2_init_1 : decode cX2_init 1 = .ok (.invokespecial 3, 3) := by decide +kernel
theorem dX2_init_4 : decode cX2_init 4 = .ok (.aload_n 0, 1) := by decide +kernel
theorem dX2_init_5 : decode cX2_init 5 = .ok (.bipush 120, 2) := by decide +kernel
theorem dX2_init_7 : decode cX2_init 7 = .ok (.anewarray 9, 3) := by decide +kernel
theorem dX2_init_10 : decode cX2_init 10 = .ok (.putfield 11, 3) := by decide +kernel
theorem dX2_init_13 : decode cX2_init 13 = .ok (.aload_n 0, 1) := by decide +kernel
theorem dX2_init_14 : decode cX2_init 14 = .ok (.bipush 120, 2) := by decide +kernel
theorem dX2_init_16 : decode cX2_init 16 = .ok (.putfield 17, 3) := by decide +kernel
theorem dX2_init_19 : decode cX2_init 19 = .ok (.aload_n 0, 1) := by decide +kernel
theorem dX2_init_20 : decode cX2_init 20 = .ok (.bipush 12, 2) := by decide +kernel
theorem dX2_init_22 : decode cX2_init 22 = .ok (.newarray .int, 2) := by decide +kernel
theorem dX2_init_24 : decode cX2_init 24 = .ok (.putfield 21, 3) := by decide +kernel
theorem dX2_init_27 : decode cX2_init 27 = .ok (.new 9, 3) := by decide +kernel
theorem dX2_init_30 : decode cX2_init 30 = .ok (.dup, 1) := by decide +kernel
theorem dX2_init_31 : decode cX2_init 31 = .ok (.iconst (-1), 1) := by decide +kernel
theorem dX2_init_32 : decode cX2_init 32 = .ok (.iconst 0, 1) := by decide +kernel
theorem dX2_init_33 : decode cX2_init 33 = .ok (.iconst 0, 1) := by decide +kernel
theorem dX2_init_34 : decode cX2_init 34 = .ok (.aconst_null, 1) := by decide +kernel
theorem dX2_init_35 : decode cX2_init 35 = .ok (.invokespecial 25, 3) := by decide +kernel
theorem dX2_init_38 : decode cX2_init 38 = .ok (.astore_n 1, 1) := by decide +kernel
theorem dX2_init_39 : decode cX2_init 39 = .ok (.iconst 0, 1) := by decide +kernel
theorem dX2_init_40 : decode cX2_init 40 = .ok (.istore_n 2, 1) := by decide +kernel
theorem dX2_init_41 : decode cX2_init 41 = .ok (.iload_n 2, 1) := by decide +kernel
theorem dX2_init_42 : decode cX2_init 42 = .ok (.bipush 120, 2) := by decide +kernel
theorem dX2_init_44 : decode cX2_init 44 = .ok (.if_icmp .ge 16, 3) := by decide +kernel
theorem dX2_init_47 : decode cX2_init 47 = .ok (.aload_n 0, 1) := by decide +kernel
theorem dX2_init_48 : decode cX2_init 48 = .ok (.getfield 11, 3) := by decide +kernel
theorem dX2_init_51 : decode cX2_init 51 = .ok (.iload_n 2, 1) := by decide +kernel
theorem dX2_init_52 : decode cX2_init 52 = .ok (.aload_n 1, 1) := by decide +kernel
theorem dX2_init_53 : decode cX2_init 53 = .ok (.aastore, 1) := by decide +kernel
theorem dX2_init_54 : decode cX2_init 54 = .ok (.iinc 2 1, 3) := by decide +kernel
theorem dX2_init_57 : decode cX2_init 57 = .ok (.goto (-16), 3) := by decide +kernel
theorem dX2_init_60 : decode cX2_init 60 = .ok (.return_, 1) := by decide +kernel
theorem dX2_pick_0 : decode cX2_pick 0 = .ok (.aload_n 0, 1) := by decide +kernel
theorem dX2_pick_1 : decode cX2_pick 1 = .ok (.iconst 0, 1) := by decide +kernel
theorem dX2_pick_2 : decode cX2_pick 2 = .ok (.putfield 28, 3) := by decide +kernel
theorem dX2_pick_5 : decode cX2_pick 5 = .ok (.iconst 0, 1) := by decide +kernel
theorem dX2_pick_6 : decode cX2_pick 6 = .ok (.istore 4, 2) := by decide +kernel
theorem dX2_pick_8 : decode cX2_pick 8 = .ok (.iload 4, 2) := by decide +kernel
theorem dX2_pick_10 : decode cX2_pick 10 = .ok (.bipush 12, 2) := by decide +kernel
theorem dX2_pick_12 : decode cX2_pick 12 = .ok (.if_icmp .ge 79, 3) := by decide +kernel
theorem dX2_pick_15 : decode cX2_pick 15 = .ok (.iload_n 1, 1) := by decide +kernel
theorem dX2_pick_16 : decode cX2_pick 16 = .ok (.bipush 12, 2) := by decide +kernel
theorem dX2_pick_18 : decode cX2_pick 18 = .ok (.imul, 1) := by decide +kernel
theorem dX2_pick_19 : decode cX2_pick 19 = .ok (.iload 4, 2) := by decide +kernel
theorem dX2_pick_21 : decode cX2_pick 21 = .ok (.iadd, 1) := by decide +kernel
theorem dX2_pick_22 : decode cX2_pick 22 = .ok (.istore 5, 2) := by decide +kernel
theorem dX2_pick_24 : decode cX2_pick 24 = .ok (.aload_n 0, 1) := by decide +kernel
theorem dX2_pick_25 : decode cX2_pick 25 = .ok (.iload 5, 2) := by decide +kernel
theorem dX2_pick_27 : decode cX2_pick 27 = .ok (.invokevirtual 31, 3) := by decide +kernel
theorem dX2_pick_30 : decode cX2_pick 30 = .ok (.astore 6, 2) := by decide +kernel
theorem dX2_pick_32 : decode cX2_pick 32 = .ok (.aload 6, 2) := by decide +kernel
theorem dX2_pick_34 : decode cX2_pick 34 = .ok (.ifnull 51, 3) := by decide +kernel
theorem dX2_pick_37 : decode cX2_pick 37 = .ok (.aload 6, 2) := by decide +kernel
theorem dX2_pick_39 : decode cX2_pick 39 = .ok (.getfield 35, 3) := by decide +kernel
theorem dX2_pick_42 : decode cX2_pick 42 = .ok (.iload_n 2, 1) := by decide +kernel
theorem dX2_pick_43 : decode cX2_pick 43 = .ok (.if_icmp .ne 42, 3) := by decide +kernel
theorem dX2_pick_46 : decode cX2_pick 46 = .ok (.aload 6, 2) := by decide +kernel
theorem dX2_pick_48 : decode cX2_pick 48 = .ok (.getfield 38, 3) := by decide +kernel
theorem dX2_pick_51 : decode cX2_pick 51 = .ok (.iconst 3, 1) := by decide +kernel
theorem dX2_pick_52 : decode cX2_pick 52 = .ok (.if_icmp .ne 7, 3) := by decide +kernel
theorem dX2_pick_55 : decode cX2_pick 55 = .ok (.iconst 1, 1) := by decide +kernel
theorem dX2_pick_56 : decode cX2_pick 56 = .ok (.goto 4, 3) := by decide +kernel
theorem dX2_pick_59 : decode cX2_pick 59 = .ok (.iconst 0, 1) := by decide +kernel
theorem dX2_pick_60 : decode cX2_pick 60 = .ok (.iload_n 3, 1) := by decide +kernel
theorem dX2_pick_61 : decode cX2_pick 61 = .ok (.if_icmp .ne 24, 3) := by decide +kernel
theorem dX2_pick_64 : decode cX2_pick 64 = .ok (.aload_n 0, 1) := by decide +kernel
theorem dX2_pick_65 : decode cX2_pick 65 = .ok (.getfield 21, 3) := by decide +kernel
theorem dX2_pick_68 : decode cX2_pick 68 = .ok (.aload_n 0, 1) := by decide +kernel
theorem dX2_pick_69 : decode cX2_pick 69 = .ok (.getfield 28, 3) := by decide +kernel
theorem dX2_pick_72 : decode cX2_pick 72 = .ok (.iload 5, 2) := by decide +kernel
theorem dX2_pick_74 : decode cX2_pick 74 = .ok (.iastore, 1) := by decide +kernel
theorem dX2_pick_75 : decode cX2_pick 75 = .ok (.aload_n 0, 1) := by decide +kernel
theorem dX2_pick_76 : decode cX2_pick 76 = .ok (.dup, 1) := by decide +kernel
theorem dX2_pick_77 : decode cX2_pick 77 = .ok (.getfield 28, 3) := by decide +kernel
theorem dX2_pick_80 : decode cX2_pick 80 = .ok (.iconst 1, 1) := by decide +kernel
theorem dX2_pick_81 : decode cX2_pick 81 = .ok (.iadd, 1) := by decide +kernel
theorem dX2_pick_82 : decode cX2_pick 82 = .ok (.putfield 28, 3) := by decide +kernel
theorem dX2_pick_85 : decode cX2_pick 85 = .ok (.iinc 4 1, 3) := by decide +kernel
theorem dX2_pick_88 : decode cX2_pick 88 = .ok (.goto (-80), 3) := by decide +kernel
theorem dX2_pick_91 : decode cX2_pick 91 = .ok (.return_, 1) := by decide +kernel
theorem dX2_bringPicked_0 : decode cX2_bringPicked 0 = .ok (.iload_n 1, 1) := by decide +kernel
theorem dX2_bringPicked_1 : decode cX2_bringPicked 1 = .ok (.iconst 0, 1) := by decide +kernel
theorem dX2_bringPicked_2 : decode cX2_bringPicked 2 = .ok (.invokestatic 41, 3) := by decide +kernel
theorem dX2_bringPicked_5 : decode cX2_bringPicked 5 = .ok (.istore 6, 2) := by decide +kernel
theorem dX2_bringPicked_7 : decode cX2_bringPicked 7 = .ok (.iload 6, 2) := by decide +kernel
theorem dX2_bringPicked_9 : decode cX2_bringPicked 9 = .ok (.iload_n 2, 1) := by decide +kernel
theorem dX2_bringPicked_10 : decode cX2_bringPicked 10 = .ok (.if_icmp .ge 90, 3) := by decide +kernel
theorem dX2_bringPicked_13 : decode cX2_bringPicked 13 = .ok (.iload 6, 2) := by decide +kernel
theorem dX2_bringPicked_15 : decode cX2_bringPicked 15 = .ok (.aload_n 0, 1) := by decide +kernel
theorem dX2_bringPicked_16 : decode cX2_bringPicked 16 = .ok (.getfield 28, 3) := by decide +kernel
theorem dX2_bringPicked_19 : decode cX2_bringPicked 19 = .ok (.if_icmp .ge 81, 3) := by decide +kernel
theorem dX2_bringPicked_22 : decode cX2_bringPicked 22 = .ok (.iload 6, 2) := by decide +kernel
theorem dX2_bringPicked_24 : decode cX2_bringPicked 24 = .ok (.aload_n 0, 1) := by decide +kernel
theorem dX2_bringPicked_25 : decode cX2_bringPicked 25 = .ok (.getfield 21, 3) := by decide +kernel
theorem dX2_bringPicked_28 : decode cX2_bringPicked 28 = .ok (.arraylength, 1) := by decide +kernel
theorem dX2_bringPicked_29 : decode cX2_bringPicked 29 = .ok (.if_icmp .ge 71, 3) := by decide +kernel
theorem dX2_bringPicked_32 : decode cX2_bringPicked 32 = .ok (.aload_n 0, 1) := by decide +kernel
theorem dX2_bringPicked_33 : decode cX2_bringPicked 33 = .ok (.getfield 21, 3) := by decide +kernel
theorem dX2_bringPicked_36 : decode cX2_bringPicked 36 = .ok (.iload 6, 2) := by decide +kernel
theorem dX2_bringPicked_38 : decode cX2_bringPicked 38 = .ok (.iaload, 1) := by decide +kernel
theorem dX2_bringPicked_39 : decode cX2_bringPicked 39 = .ok (.istore 7, 2) := by decide +kernel
theorem dX2_bringPicked_41 : decode cX2_bringPicked 41 = .ok (.aload_n 0, 1) := by decide +kernel
theorem dX2_bringPicked_42 : decode cX2_bringPicked 42 = .ok (.iload 7, 2) := by decide +kernel
theorem dX2_bringPicked_44 : decode cX2_bringPicked 44 = .ok (.invokevirtual 31, 3) := by decide +kernel
theorem dX2_bringPicked_47 : decode cX2_bringPicked 47 = .ok (.astore 8, 2) := by decide +kernel
theorem dX2_bringPicked_49 : decode cX2_bringPicked 49 = .ok (.aload 8, 2) := by decide +kernel
theorem dX2_bringPicked_51 : decode cX2_bringPicked 51 = .ok (.ifnull 43, 3) := by decide +kernel
theorem dX2_bringPicked_54 : decode cX2_bringPicked 54 = .ok (.aload_n 0, 1) := by decide +kernel
theorem dX2_bringPicked_55 : decode cX2_bringPicked 55 = .ok (.getfield 17, 3) := by decide +kernel
theorem dX2_bringPicked_58 : decode cX2_bringPicked 58 = .ok (.ldc 47, 2) := by decide +kernel
theorem dX2_bringPicked_60 : decode cX2_bringPicked 60 = .ok (.if_icmp .ge 34, 3) := by decide +kernel
theorem dX2_bringPicked_63 : decode cX2_bringPicked 63 = .ok (.aload_n 0, 1) := by decide +kernel
theorem dX2_bringPicked_64 : decode cX2_bringPicked 64 = .ok (.getfield 11, 3) := by decide +kernel
theorem dX2_bringPicked_67 : decode cX2_bringPicked 67 = .ok (.iload 7, 2) := by decide +kernel
theorem dX2_bringPicked_69 : decode cX2_bringPicked 69 = .ok (.new 9, 3) := by decide +kernel
theorem dX2_bringPicked_72 : decode cX2_bringPicked 72 = .ok (.dup, 1) := by decide +kernel
theorem dX2_bringPicked_73 : decode cX2_bringPicked 73 = .ok (.iload_n 3, 1) := by decide +kernel
theorem dX2_bringPicked_74 : decode cX2_bringPicked 74 = .ok (.iload 4, 2) := by decide +kernel
theorem dX2_bringPicked_76 : decode cX2_bringPicked 76 = .ok (.iload 5, 2) := by decide +kernel
theorem dX2_bringPicked_78 : decode cX2_bringPicked 78 = .ok (.aload 8, 2) := by decide +kernel
theorem dX2_bringPicked_80 : decode cX2_bringPicked 80 = .ok (.invokespecial 25, 3) := by decide +kernel
theorem dX2_bringPicked_83 : decode cX2_bringPicked 83 = .ok (.aastore, 1) := by decide +kernel
theorem dX2_bringPicked_84 : decode cX2_bringPicked 84 = .ok (.aload_n 0, 1) := by decide +kernel
theorem dX2_bringPicked_85 : decode cX2_bringPicked 85 = .ok (.dup, 1) := by decide +kernel
theorem dX2_bringPicked_86 : decode cX2_bringPicked 86 = .ok (.getfield 17, 3) := by decide +kernel
theorem dX2_bringPicked_89 : decode cX2_bringPicked 89 = .ok (.iconst 1, 1) := by decide +kernel
theorem dX2_bringPicked_90 : decode cX2_bringPicked 90 = .ok (.iadd, 1) := by decide +kernel
theorem dX2_bringPicked_91 : decode cX2_bringPicked 91 = .ok (.putfield 17, 3) := by decide +kernel
theorem dX2_bringPicked_94 : decode cX2_bringPicked 94 = .ok (.iinc 6 1, 3) := by decide +kernel
theorem dX2_bringPicked_97 : decode cX2_bringPicked 97 = .ok (.goto (-90), 3) := by decide +kernel
theorem dX2_bringPicked_100 : decode cX2_bringPicked 100 = .ok (.return_, 1) := by decide +kernel
theorem dX2_giverOf_0 : decode cX2_giverOf 0 = .ok (.aload_n 0, 1) := by decide +kernel
theorem dX2_giverOf_1 : decode cX2_giverOf 1 = .ok (.iload_n 1, 1) := by decide +kernel
theorem dX2_giverOf_2 : decode cX2_giverOf 2 = .ok (.invokevirtual 31, 3) := by decide +kernel
theorem dX2_giverOf_5 : decode cX2_giverOf 5 = .ok (.astore_n 2, 1) := by decide +kernel
theorem dX2_giverOf_6 : decode cX2_giverOf 6 = .ok (.aload_n 2, 1) := by decide +kernel
theorem dX2_giverOf_7 : decode cX2_giverOf 7 = .ok (.ifnull 10, 3) := by decide +kernel
theorem dX2_giverOf_10 : decode cX2_giverOf 10 = .ok (.aload_n 2, 1) := by decide +kernel
theorem dX2_giverOf_11 : decode cX2_giverOf 11 = .ok (.getfield 48, 3) := by decide +kernel
theorem dX2_giverOf_14 : decode cX2_giverOf 14 = .ok (.ifnonnull 7, 3) := by decide +kernel
theorem dX2_giverOf_17 : decode cX2_giverOf 17 = .ok (.iconst (-1), 1) := by decide +kernel
theorem dX2_giverOf_18 : decode cX2_giverOf 18 = .ok (.goto 10, 3) := by decide +kernel
theorem dX2_giverOf_21 : decode cX2_giverOf 21 = .ok (.aload_n 2, 1) := by decide +kernel
theorem dX2_giverOf_22 : decode cX2_giverOf 22 = .ok (.getfield 48, 3) := by decide +kernel
theorem dX2_giverOf_25 : decode cX2_giverOf 25 = .ok (.getfield 35, 3) := by decide +kernel
theorem dX2_giverOf_28 : decode cX2_giverOf 28 = .ok (.ireturn, 1) := by decide +kernel
theorem dX2_onDay_0 : decode cX2_onDay 0 = .ok (.aload_n 0, 1) := by decide +kernel
theorem dX2_onDay_1 : decode cX2_onDay 1 = .ok (.iload_n 1, 1) := by decide +kernel
theorem dX2_onDay_2 : decode cX2_onDay 2 = .ok (.invokevirtual 31, 3) := by decide +kernel
theorem dX2_onDay_5 : decode cX2_onDay 5 = .ok (.astore_n 3, 1) := by decide +kernel
theorem dX2_onDay_6 : decode cX2_onDay 6 = .ok (.aload_n 3, 1) := by decide +kernel
theorem dX2_onDay_7 : decode cX2_onDay 7 = .ok (.ifnull 19, 3) := by decide +kernel
theorem dX2_onDay_10 : decode cX2_onDay 10 = .ok (.aload_n 3, 1) := by decide +kernel
theorem dX2_onDay_11 : decode cX2_onDay 11 = .ok (.getfield 52, 3) := by decide +kernel
theorem dX2_onDay_14 : decode cX2_onDay 14 = .ok (.iload_n 2, 1) := by decide +kernel
theorem dX2_onDay_15 : decode cX2_onDay 15 = .ok (.if_icmp .le 11, 3) := by decide +kernel
theorem dX2_onDay_18 : decode cX2_onDay 18 = .ok (.aload_n 3, 1) := by decide +kernel
theorem dX2_onDay_19 : decode cX2_onDay 19 = .ok (.getfield 48, 3) := by decide +kernel
theorem dX2_onDay_22 : decode cX2_onDay 22 = .ok (.astore_n 3, 1) := by decide +kernel
theorem dX2_onDay_23 : decode cX2_onDay 23 = .ok (.goto (-17), 3) := by decide +kernel
theorem dX2_onDay_26 : decode cX2_onDay 26 = .ok (.aload_n 3, 1) := by decide +kernel
theorem dX2_onDay_27 : decode cX2_onDay 27 = .ok (.areturn, 1) := by decide +kernel
theorem dX2_stepsAhead_0 : decode cX2_stepsAhead 0 = .ok (.aload_n 0, 1) := by decide +kernel
theorem dX2_stepsAhead_1 : decode cX2_stepsAhead 1 = .ok (.astore_n 2, 1) := by decide +kernel
theorem dX2_stepsAhead_2 : decode cX2_stepsAhead 2 = .ok (.iconst 0, 1) := by decide +kernel
theorem dX2_stepsAhead_3 : decode cX2_stepsAhead 3 = .ok (.istore_n 3, 1) := by decide +kernel
theorem dX2_stepsAhead_4 : decode cX2_stepsAhead 4 = .ok (.iload_n 3, 1) := by decide +kernel
theorem dX2_stepsAhead_5 : decode cX2_stepsAhead 5 = .ok (.iload_n 1, 1) := by decide +kernel
theorem dX2_stepsAhead_6 : decode cX2_stepsAhead 6 = .ok (.if_icmp .ge 18, 3) := by decide +kernel
theorem dX2_stepsAhead_9 : decode cX2_stepsAhead 9 = .ok (.aload_n 2, 1) := by decide +kernel
theorem dX2_stepsAhead_10 : decode cX2_stepsAhead 10 = .ok (.ifnull 14, 3) := by decide +kernel
theorem dX2_stepsAhead_13 : decode cX2_stepsAhead 13 = .ok (.aload_n 2, 1) := by decide +kernel
theorem dX2_stepsAhead_14 : decode cX2_stepsAhead 14 = .ok (.getfield 48, 3) := by decide +kernel
theorem dX2_stepsAhead_17 : decode cX2_stepsAhead 17 = .ok (.astore_n 2, 1) := by decide +kernel
theorem dX2_stepsAhead_18 : decode cX2_stepsAhead 18 = .ok (.iinc 3 1, 3) := by decide +kernel
theorem dX2_stepsAhead_21 : decode cX2_stepsAhead 21 = .ok (.goto (-17), 3) := by decide +kernel
theorem dX2_stepsAhead_24 : decode cX2_stepsAhead 24 = .ok (.aload_n 2, 1) := by decide +kernel
theorem dX2_stepsAhead_25 : decode cX2_stepsAhead 25 = .ok (.areturn, 1) := by decide +kernel
theorem dX2_heldBy_0 : decode cX2_heldBy 0 = .ok (.iconst 0, 1) := by decide +kernel
theorem dX2_heldBy_1 : decode cX2_heldBy 1 = .ok (.istore_n 2, 1) := by decide +kernel
theorem dX2_heldBy_2 : decode cX2_heldBy 2 = .ok (.iconst 0, 1) := by decide +kernel
theorem dX2_heldBy_3 : decode cX2_heldBy 3 = .ok (.istore_n 3, 1) := by decide +kernel
theorem dX2_heldBy_4 : decode cX2_heldBy 4 = .ok (.iload_n 3, 1) := by decide +kernel
theorem dX2_heldBy_5 : decode cX2_heldBy 5 = .ok (.bipush 120, 2) := by decide +kernel
theorem dX2_heldBy_7 : decode cX2_heldBy 7 = .ok (.if_icmp .ge 38, 3) := by decide +kernel
theorem dX2_heldBy_10 : decode cX2_heldBy 10 = .ok (.aload_n 0, 1) := by decide +kernel
theorem dX2_heldBy_11 : decode cX2_heldBy 11 = .ok (.iload_n 3, 1) := by decide +kernel
theorem dX2_heldBy_12 : decode cX2_heldBy 12 = .ok (.invokevirtual 31, 3) := by decide +kernel
theorem dX2_heldBy_15 : decode cX2_heldBy 15 = .ok (.astore 4, 2) := by decide +kernel
theorem dX2_heldBy_17 : decode cX2_heldBy 17 = .ok (.iload_n 2, 1) := by decide +kernel
theorem dX2_heldBy_18 : decode cX2_heldBy 18 = .ok (.aload 4, 2) := by decide +kernel
theorem dX2_heldBy_20 : decode cX2_heldBy 20 = .ok (.ifnull 16, 3) := by decide +kernel
theorem dX2_heldBy_23 : decode cX2_heldBy 23 = .ok (.aload 4, 2) := by decide +kernel
theorem dX2_heldBy_25 : decode cX2_heldBy 25 = .ok (.getfield 35, 3) := by decide +kernel
theorem dX2_heldBy_28 : decode cX2_heldBy 28 = .ok (.iload_n 1, 1) := by decide +kernel
theorem dX2_heldBy_29 : decode cX2_heldBy 29 = .ok (.if_icmp .ne 7, 3) := by decide +kernel
theorem dX2_heldBy_32 : decode cX2_heldBy 32 = .ok (.iconst 1, 1) := by decide +kernel
theorem dX2_heldBy_33 : decode cX2_heldBy 33 = .ok (.goto 4, 3) := by decide +kernel
theorem dX2_heldBy_36 : decode cX2_heldBy 36 = .ok (.iconst 0, 1) := by decide +kernel
theorem dX2_heldBy_37 : decode cX2_heldBy 37 = .ok (.iadd, 1) := by decide +kernel
theorem dX2_heldBy_38 : decode cX2_heldBy 38 = .ok (.istore_n 2, 1) := by decide +kernel
theorem dX2_heldBy_39 : decode cX2_heldBy 39 = .ok (.iinc 3 1, 3) := by decide +kernel
theorem dX2_heldBy_42 : decode cX2_heldBy 42 = .ok (.goto (-38), 3) := by decide +kernel
theorem dX2_heldBy_45 : decode cX2_heldBy 45 = .ok (.iload_n 2, 1) := by decide +kernel
theorem dX2_heldBy_46 : decode cX2_heldBy 46 = .ok (.ireturn, 1) := by decide +kernel
theorem dX2_partsOf_0 : decode cX2_partsOf 0 = .ok (.iconst 0, 1) := by decide +kernel
theorem dX2_partsOf_1 : decode cX2_partsOf 1 = .ok (.istore_n 2, 1) := by decide +kernel
theorem dX2_partsOf_2 : decode cX2_partsOf 2 = .ok (.iconst 0, 1) := by decide +kernel
theorem dX2_partsOf_3 : decode cX2_partsOf 3 = .ok (.istore_n 3, 1) := by decide +kernel
theorem dX2_partsOf_4 : decode cX2_partsOf 4 = .ok (.iload_n 3, 1) := by decide +kernel
theorem dX2_partsOf_5 : decode cX2_partsOf 5 = .ok (.bipush 120, 2) := by decide +kernel
theorem dX2_partsOf_7 : decode cX2_partsOf 7 = .ok (.if_icmp .ge 47, 3) := by decide +kernel
theorem dX2_partsOf_10 : decode cX2_partsOf 10 = .ok (.aload_n 0, 1) := by decide +kernel
theorem dX2_partsOf_11 : decode cX2_partsOf 11 = .ok (.iload_n 3, 1) := by decide +kernel
theorem dX2_partsOf_12 : decode cX2_partsOf 12 = .ok (.invokevirtual 31, 3) := by decide +kernel
theorem dX2_partsOf_15 : decode cX2_partsOf 15 = .ok (.astore 4, 2) := by decide +kernel
theorem dX2_partsOf_17 : decode cX2_partsOf 17 = .ok (.iload_n 2, 1) := by decide +kernel
theorem dX2_partsOf_18 : decode cX2_partsOf 18 = .ok (.aload 4, 2) := by decide +kernel
theorem dX2_partsOf_20 : decode cX2_partsOf 20 = .ok (.ifnull 25, 3) := by decide +kernel
theorem dX2_partsOf_23 : decode cX2_partsOf 23 = .ok (.aload 4, 2) := by decide +kernel
theorem dX2_partsOf_25 : decode cX2_partsOf 25 = .ok (.getfield 35, 3) := by decide +kernel
theorem dX2_partsOf_28 : decode cX2_partsOf 28 = .ok (.iload_n 1, 1) := by decide +kernel
theorem dX2_partsOf_29 : decode cX2_partsOf 29 = .ok (.if_icmp .ne 16, 3) := by decide +kernel
theorem dX2_partsOf_32 : decode cX2_partsOf 32 = .ok (.aload 4, 2) := by decide +kernel
theorem dX2_partsOf_34 : decode cX2_partsOf 34 = .ok (.getfield 38, 3) := by decide +kernel
theorem dX2_partsOf_37 : decode cX2_partsOf 37 = .ok (.iconst 3, 1) := by decide +kernel
theorem dX2_partsOf_38 : decode cX2_partsOf 38 = .ok (.if_icmp .ne 7, 3) := by decide +kernel
theorem dX2_partsOf_41 : decode cX2_partsOf 41 = .ok (.iconst 1, 1) := by decide +kernel
theorem dX2_partsOf_42 : decode cX2_partsOf 42 = .ok (.goto 4, 3) := by decide +kernel
theorem dX2_partsOf_45 : decode cX2_partsOf 45 = .ok (.iconst 0, 1) := by decide +kernel
theorem dX2_partsOf_46 : decode cX2_partsOf 46 = .ok (.iadd, 1) := by decide +kernel
theorem dX2_partsOf_47 : decode cX2_partsOf 47 = .ok (.istore_n 2, 1) := by decide +kernel
theorem dX2_partsOf_48 : decode cX2_partsOf 48 = .ok (.iinc 3 1, 3) := by decide +kernel
theorem dX2_partsOf_51 : decode cX2_partsOf 51 = .ok (.goto (-47), 3) := by decide +kernel
theorem dX2_partsOf_54 : decode cX2_partsOf 54 = .ok (.iload_n 2, 1) := by decide +kernel
theorem dX2_partsOf_55 : decode cX2_partsOf 55 = .ok (.ireturn, 1) := by decide +kernel
theorem dX2_find_0 : decode cX2_find 0 = .ok (.iload_n 1, 1) := by decide +kernel
theorem dX2_find_1 : decode cX2_find 1 = .ok (.ifCond .lt 21, 3) := by decide +kernel
theorem dX2_find_4 : decode cX2_find 4 = .ok (.iload_n 1, 1) := by decide +kernel
theorem dX2_find_5 : decode cX2_find 5 = .ok (.aload_n 0, 1) := by decide +kernel
theorem dX2_find_6 : decode cX2_find 6 = .ok (.getfield 11, 3) := by decide +kernel
theorem dX2_find_9 : decode cX2_find 9 = .ok (.arraylength, 1) := by decide +kernel
theorem dX2_find_10 : decode cX2_find 10 = .ok (.if_icmp .ge 12, 3) := by decide +kernel
theorem dX2_find_13 : decode cX2_find 13 = .ok (.aload_n 0, 1) := by decide +kernel
theorem dX2_find_14 : decode cX2_find 14 = .ok (.getfield 11, 3) := by decide +kernel
theorem dX2_find_17 : decode cX2_find 17 = .ok (.iload_n 1, 1) := by decide +kernel
theorem dX2_find_18 : decode cX2_find 18 = .ok (.aaload, 1) := by decide +kernel
theorem dX2_find_19 : decode cX2_find 19 = .ok (.goto 4, 3) := by decide +kernel
theorem dX2_find_22 : decode cX2_find 22 = .ok (.aconst_null, 1) := by decide +kernel
theorem dX2_find_23 : decode cX2_find 23 = .ok (.areturn, 1) := by decide +kernel
theorem dX3_init_0 : decode cX3_init 0 = .ok (.aload_n 0, 1) := by decide +kernel
theorem dX3_init_1 : decode cX3_init 1 = .ok (.invokespecial 3, 3) := by decide +kernel
theorem dX3_init_4 : decode cX3_init 4 = .ok (.aload_n 0, 1) := by decide +kernel
theorem dX3_init_5 : decode cX3_init 5 = .ok (.bipush 60, 2) := by decide +kernel
theorem dX3_init_7 : decode cX3_init 7 = .ok (.anewarray 9, 3) := by decide +kernel
theorem dX3_init_10 : decode cX3_init 10 = .ok (.putfield 11, 3) := by decide +kernel
theorem dX3_init_13 : decode cX3_init 13 = .ok (.return_, 1) := by decide +kernel
theorem dX3_find_0 : decode cX3_find 0 = .ok (.iload_n 1, 1) := by decide +kernel
theorem dX3_find_1 : decode cX3_find 1 = .ok (.ifCond .lt 29, 3) := by decide +kernel
theorem dX3_find_4 : decode cX3_find 4 = .ok (.iload_n 1, 1) := by decide +kernel
theorem dX3_find_5 : decode cX3_find 5 = .ok (.aload_n 0, 1) := by decide +kernel
theorem dX3_find_6 : decode cX3_find 6 = .ok (.getfield 17, 3) := by decide +kernel
theorem dX3_find_9 : decode cX3_find 9 = .ok (.if_icmp .ge 21, 3) := by decide +kernel
theorem dX3_find_12 : decode cX3_find 12 = .ok (.iload_n 1, 1) := by decide +kernel
theorem dX3_find_13 : decode cX3_find 13 = .ok (.aload_n 0, 1) := by decide +kernel
theorem dX3_find_14 : decode cX3_find 14 = .ok (.getfield 11, 3) := by decide +kernel
theorem dX3_find_17 : decode cX3_find 17 = .ok (.arraylength, 1) := by decide +kernel
theorem dX3_find_18 : decode cX3_find 18 = .ok (.if_icmp .ge 12, 3) := by decide +kernel
theorem dX3_find_21 : decode cX3_find 21 = .ok (.aload_n 0, 1) := by decide +kernel
theorem dX3_find_22 : decode cX3_find 22 = .ok (.getfield 11, 3) := by decide +kernel
theorem dX3_find_25 : decode cX3_find 25 = .ok (.iload_n 1, 1) := by decide +kernel
theorem dX3_find_26 : decode cX3_find 26 = .ok (.aaload, 1) := by decide +kernel
theorem dX3_find_27 : decode cX3_find 27 = .ok (.goto 4, 3) := by decide +kernel
theorem dX3_find_30 : decode cX3_find 30 = .ok (.aconst_null, 1) := by decide +kernel
theorem dX3_find_31 : decode cX3_find 31 = .ok (.areturn, 1) := by decide +kernel
theorem dX3_findAlive_0 : decode cX3_findAlive 0 = .ok (.aload_n 0, 1) := by decide +kernel
theorem dX3_findAlive_1 : decode cX3_findAlive 1 = .ok (.iload_n 1, 1) := by decide +kernel
theorem dX3_findAlive_2 : decode cX3_findAlive 2 = .ok (.invokevirtual 21, 3) := by decide +kernel
theorem dX3_findAlive_5 : decode cX3_findAlive 5 = .ok (.astore_n 2, 1) := by decide +kernel
theorem dX3_findAlive_6 : decode cX3_findAlive 6 = .ok (.aload_n 2, 1) := by decide +kernel
theorem dX3_findAlive_7 : decode cX3_findAlive 7 = .ok (.ifnull 14, 3) := by decide +kernel
theorem dX3_findAlive_10 : decode cX3_findAlive 10 = .ok (.aload_n 2, 1) := by decide +kernel
theorem dX3_findAlive_11 : decode cX3_findAlive 11 = .ok (.getfield 25, 3) := by decide +kernel
theorem dX3_findAlive_14 : decode cX3_findAlive 14 = .ok (.ifCond .eq 7, 3) := by decide +kernel
theorem dX3_findAlive_17 : decode cX3_findAlive 17 = .ok (.aload_n 2, 1) := by decide +kernel
theorem dX3_findAlive_18 : decode cX3_findAlive 18 = .ok (.goto 4, 3) := by decide +kernel
theorem dX3_findAlive_21 : decode cX3_findAlive 21 = .ok (.aconst_null, 1) := by decide +kernel
theorem dX3_findAlive_22 : decode cX3_findAlive 22 = .ok (.areturn, 1) := by decide +kernel
theorem dX3_mayBeParent_0 : decode cX3_mayBeParent 0 = .ok (.aload_n 0, 1) := by decide +kernel
theorem dX3_mayBeParent_1 : decode cX3_mayBeParent 1 = .ok (.iload_n 1, 1) := by decide +kernel
theorem dX3_mayBeParent_2 : decode cX3_mayBeParent 2 = .ok (.invokevirtual 21, 3) := by decide +kernel
theorem dX3_mayBeParent_5 : decode cX3_mayBeParent 5 = .ok (.astore_n 3, 1) := by decide +kernel
theorem dX3_mayBeParent_6 : decode cX3_mayBeParent 6 = .ok (.iload_n 1, 1) := by decide +kernel
theorem dX3_mayBeParent_7 : decode cX3_mayBeParent 7 = .ok (.iconst (-1), 1) := by decide +kernel
theorem dX3_mayBeParent_8 : decode cX3_mayBeParent 8 = .ok (.if_icmp .eq 15, 3) := by decide +kernel
theorem dX3_mayBeParent_11 : decode cX3_mayBeParent 11 = .ok (.aload_n 3, 1) := by decide +kernel
theorem dX3_mayBeParent_12 : decode cX3_mayBeParent 12 = .ok (.ifnull 15, 3) := by decide +kernel
theorem dX3_mayBeParent_15 : decode cX3_mayBeParent 15 = .ok (.aload_n 3, 1) := by decide +kernel
theorem dX3_mayBeParent_16 : decode cX3_mayBeParent 16 = .ok (.getfield 29, 3) := by decide +kernel
theorem dX3_mayBeParent_19 : decode cX3_mayBeParent 19 = .ok (.iload_n 2, 1) := by decide +kernel
theorem dX3_mayBeParent_20 : decode cX3_mayBeParent 20 = .ok (.if_icmp .ne 7, 3) := by decide +kernel
theorem dX3_mayBeParent_23 : decode cX3_mayBeParent 23 = .ok (.iconst 1, 1) := by decide +kernel
theorem dX3_mayBeParent_24 : decode cX3_mayBeParent 24 = .ok (.goto 4, 3) := by decide +kernel
theorem dX3_mayBeParent_27 : decode cX3_mayBeParent 27 = .ok (.iconst 0, 1) := by decide +kernel
theorem dX3_mayBeParent_28 : decode cX3_mayBeParent 28 = .ok (.ireturn, 1) := by decide +kernel
theorem dX3_add_0 : decode cX3_add 0 = .ok (.aload_n 0, 1) := by decide +kernel
theorem dX3_add_1 : decode cX3_add 1 = .ok (.getfield 17, 3) := by decide +kernel
theorem dX3_add_4 : decode cX3_add 4 = .ok (.istore_n 2, 1) := by decide +kernel
theorem dX3_add_5 : decode cX3_add 5 = .ok (.iload_n 2, 1) := by decide +kernel
theorem dX3_add_6 : decode cX3_add 6 = .ok (.ifCond .lt 12, 3) := by decide +kernel
theorem dX3_add_9 : decode cX3_add 9 = .ok (.iload_n 2, 1) := by decide +kernel
theorem dX3_add_10 : decode cX3_add 10 = .ok (.aload_n 0, 1) := by decide +kernel
theorem dX3_add_11 : decode cX3_add 11 = .ok (.getfield 11, 3) := by decide +kernel
theorem dX3_add_14 : decode cX3_add 14 = .ok (.arraylength, 1) := by decide +kernel
theorem dX3_add_15 : decode cX3_add 15 = .ok (.if_icmp .lt 5, 3) := by decide +kernel
theorem dX3_add_18 : decode cX3_add 18 = .ok (.iconst (-1), 1) := by decide +kernel
theorem dX3_add_19 : decode cX3_add 19 = .ok (.ireturn, 1) := by decide +kernel
theorem dX3_add_20 : decode cX3_add 20 = .ok (.aload_n 0, 1) := by decide +kernel
theorem dX3_add_21 : decode cX3_add 21 = .ok (.getfield 11, 3) := by decide +kernel
theorem dX3_add_24 : decode cX3_add 24 = .ok (.iload_n 2, 1) := by decide +kernel
theorem dX3_add_25 : decode cX3_add 25 = .ok (.aload_n 1, 1) := by decide +kernel
theorem dX3_add_26 : decode cX3_add 26 = .ok (.aastore, 1) := by decide +kernel
theorem dX3_add_27 : decode cX3_add 27 = .ok (.aload_n 0, 1) := by decide +kernel
theorem dX3_add_28 : decode cX3_add 28 = .ok (.dup, 1) := by decide +kernel
theorem dX3_add_29 : decode cX3_add 29 = .ok (.getfield 17, 3) := by decide +kernel
theorem dX3_add_32 : decode cX3_add 32 = .ok (.iconst 1, 1) := by decide +kernel
theorem dX3_add_33 : decode cX3_add 33 = .ok (.iadd, 1) := by decide +kernel
theorem dX3_add_34 : decode cX3_add 34 = .ok (.putfield 17, 3) := by decide +kernel
theorem dX3_add_37 : decode cX3_add 37 = .ok (.aload_n 0, 1) := by decide +kernel
theorem dX3_add_38 : decode cX3_add 38 = .ok (.aload_n 1, 1) := by decide +kernel
theorem dX3_add_39 : decode cX3_add 39 = .ok (.getfield 32, 3) := by decide +kernel
theorem dX3_add_42 : decode cX3_add 42 = .ok (.iload_n 2, 1) := by decide +kernel
theorem dX3_add_43 : decode cX3_add 43 = .ok (.aload_n 1, 1) := by decide +kernel
theorem dX3_add_44 : decode cX3_add 44 = .ok (.getfield 29, 3) := by decide +kernel
theorem dX3_add_47 : decode cX3_add 47 = .ok (.invokevirtual 35, 3) := by decide +kernel
theorem dX3_add_50 : decode cX3_add 50 = .ok (.aload_n 0, 1) := by decide +kernel
theorem dX3_add_51 : decode cX3_add 51 = .ok (.aload_n 1, 1) := by decide +kernel
theorem dX3_add_52 : decode cX3_add 52 = .ok (.getfield 39, 3) := by decide +kernel
theorem dX3_add_55 : decode cX3_add 55 = .ok (.iload_n 2, 1) := by decide +kernel
theorem dX3_add_56 : decode cX3_add 56 = .ok (.aload_n 1, 1) := by decide +kernel
theorem dX3_add_57 : decode cX3_add 57 = .ok (.getfield 29, 3) := by decide +kernel
theorem dX3_add_60 : decode cX3_add 60 = .ok (.invokevirtual 35, 3) := by decide +kernel
theorem dX3_add_63 : decode cX3_add 63 = .ok (.iload_n 2, 1) := by decide +kernel
theorem dX3_add_64 : decode cX3_add 64 = .ok (.ireturn, 1) := by decide +kernel
theorem dX3_addChildTo_0 : decode cX3_addChildTo 0 = .ok (.aload_n 0, 1) := by decide +kernel
theorem dX3_addChildTo_1 : decode cX3_addChildTo 1 = .ok (.iload_n 1, 1) := by decide +kernel
theorem dX3_addChildTo_2 : decode cX3_addChildTo 2 = .ok (.invokevirtual 21, 3) := by decide +kernel
theorem dX3_addChildTo_5 : decode cX3_addChildTo 5 = .ok (.astore 4, 2) := by decide +kernel
theorem dX3_addChildTo_7 : decode cX3_addChildTo 7 = .ok (.aload 4, 2) := by decide +kernel
theorem dX3_addChildTo_9 : decode cX3_addChildTo 9 = .ok (.ifnull 10, 3) := by decide +kernel
theorem dX3_addChildTo_12 : decode cX3_addChildTo 12 = .ok (.aload 4, 2) := by decide +kernel
theorem dX3_addChildTo_14 : decode cX3_addChildTo 14 = .ok (.iload_n 2, 1) := by decide +kernel
theorem dX3_addChildTo_15 : decode cX3_addChildTo 15 = .ok (.iload_n 3, 1) := by decide +kernel
theorem dX3_addChildTo_16 : decode cX3_addChildTo 16 = .ok (.invokevirtual 42, 3) := by decide +kernel
theorem dX3_addChildTo_19 : decode cX3_addChildTo 19 = .ok (.return_, 1) := by decide +kernel
theorem dX3_owe_0 : decode cX3_owe 0 = .ok (.aload_n 0, 1) := by decide +kernel
theorem dX3_owe_1 : decode cX3_owe 1 = .ok (.iload_n 1, 1) := by decide +kernel
theorem dX3_owe_2 : decode cX3_owe 2 = .ok (.invokevirtual 21, 3) := by decide +kernel
theorem dX3_owe_5 : decode cX3_owe 5 = .ok (.astore_n 3, 1) := by decide +kernel
theorem dX3_owe_6 : decode cX3_owe 6 = .ok (.aload_n 3, 1) := by decide +kernel
theorem dX3_owe_7 : decode cX3_owe 7 = .ok (.ifnull 13, 3) := by decide +kernel
theorem dX3_owe_10 : decode cX3_owe 10 = .ok (.aload_n 3, 1) := by decide +kernel
theorem dX3_owe_11 : decode cX3_owe 11 = .ok (.dup, 1) := by decide +kernel
theorem dX3_owe_12 : decode cX3_owe 12 = .ok (.getfield 46, 3) := by decide +kernel
theorem dX3_owe_15 : decode cX3_owe 15 = .ok (.iload_n 2, 1) := by decide +kernel
theorem dX3_owe_16 : decode cX3_owe 16 = .ok (.iadd, 1) := by decide +kernel
theorem dX3_owe_17 : decode cX3_owe 17 = .ok (.putfield 46, 3) := by decide +kernel
theorem dX3_owe_20 : decode cX3_owe 20 = .ok (.return_, 1) := by decide +kernel
theorem dX3_allOwed_0 : decode cX3_allOwed 0 = .ok (.iconst 0, 1) := by decide +kernel
theorem dX3_allOwed_1 : decode cX3_allOwed 1 = .ok (.istore_n 1, 1) := by decide +kernel
theorem dX3_allOwed_2 : decode cX3_allOwed 2 = .ok (.iconst 0, 1) := by decide +kernel
theorem dX3_allOwed_3 : decode cX3_allOwed 3 = .ok (.istore_n 2, 1) := by decide +kernel
theorem dX3_allOwed_4 : decode cX3_allOwed 4 = .ok (.iload_n 2, 1) := by decide +kernel
theorem dX3_allOwed_5 : decode cX3_allOwed 5 = .ok (.aload_n 0, 1) := by decide +kernel
theorem dX3_allOwed_6 : decode cX3_allOwed 6 = .ok (.getfield 17, 3) := by decide +kernel
theorem dX3_allOwed_9 : decode cX3_allOwed 9 = .ok (.if_icmp .ge 30, 3) := by decide +kernel
theorem dX3_allOwed_12 : decode cX3_allOwed 12 = .ok (.aload_n 0, 1) := by decide +kernel
theorem dX3_allOwed_13 : decode cX3_allOwed 13 = .ok (.iload_n 2, 1) := by decide +kernel
theorem dX3_allOwed_14 : decode cX3_allOwed 14 = .ok (.invokevirtual 21, 3) := by decide +kernel
theorem dX3_allOwed_17 : decode cX3_allOwed 17 = .ok (.astore_n 3, 1) := by decide +kernel
theorem dX3_allOwed_18 : decode cX3_allOwed 18 = .ok (.iload_n 1, 1) := by decide +kernel
theorem dX3_allOwed_19 : decode cX3_allOwed 19 = .ok (.aload_n 3, 1) := by decide +kernel
theorem dX3_allOwed_20 : decode cX3_allOwed 20 = .ok (.ifnonnull 7, 3) := by decide +kernel
theorem dX3_allOwed_23 : decode cX3_allOwed 23 = .ok (.iconst 0, 1) := by decide +kernel
theorem dX3_allOwed_24 : decode cX3_allOwed 24 = .ok (.goto 7, 3) := by decide +kernel
theorem dX3_allOwed_27 : decode cX3_allOwed 27 = .ok (.aload_n 3, 1) := by decide +kernel
theorem dX3_allOwed_28 : decode cX3_allOwed 28 = .ok (.getfield 46, 3) := by decide +kernel
theorem dX3_allOwed_31 : decode cX3_allOwed 31 = .ok (.iadd, 1) := by decide +kernel
theorem dX3_allOwed_32 : decode cX3_allOwed 32 = .ok (.istore_n 1, 1) := by decide +kernel
theorem dX3_allOwed_33 : decode cX3_allOwed 33 = .ok (.iinc 2 1, 3) := by decide +kernel
theorem dX3_allOwed_36 : decode cX3_allOwed 36 = .ok (.goto (-32), 3) := by decide +kernel
theorem dX3_allOwed_39 : decode cX3_allOwed 39 = .ok (.iload_n 1, 1) := by decide +kernel
theorem dX3_allOwed_40 : decode cX3_allOwed 40 = .ok (.ireturn, 1) := by decide +kernel
end
section
theorem dX4_init_0 : decode cX4_init 0 = .ok (.aload_n 0, 1) := by decide +kernel
theorem dX4_init_1 : decode cX4_init 1 = .ok (.invokespecial 3, 3) := by decide +kernel
theorem dX4_init_4 : decode cX4_init 4 = .ok (.aload_n 0, 1) := by decide +kernel
theorem dX4_init_5 : decode cX4_init 5 = .ok (.iload_n 1, 1) := by decide +kernel
theorem dX4_init_6 : decode cX4_init 6 = .ok (.putfield 9, 3) := by decide +kernel
theorem dX4_init_9 : decode cX4_init 9 = .ok (.aload_n 0, 1) := by decide +kernel
theorem dX4_init_10 : decode cX4_init 10 = .ok (.iload_n 2, 1) := by decide +kernel
theorem dX4_init_11 : decode cX4_init 11 = .ok (.putfield 15, 3) := by decide +kernel
theorem dX4_init_14 : decode cX4_init 14 = .ok (.aload_n 0, 1) := by decide +kernel
theorem dX4_init_15 : decode cX4_init 15 = .ok (.iload_n 3, 1) := by decide +kernel
theorem dX4_init_16 : decode cX4_init 16 = .ok (.putfield 18, 3) := by decide +kernel
theorem dX4_init_19 : decode cX4_init 19 = .ok (.aload_n 0, 1) := by decide +kernel
theorem dX4_init_20 : decode cX4_init 20 = .ok (.iload 4, 2) := by decide +kernel
theorem dX4_init_22 : decode cX4_init 22 = .ok (.putfield 21, 3) := by decide +kernel
theorem dX4_init_25 : decode cX4_init 25 = .ok (.aload_n 0, 1) := by decide +kernel
theorem dX4_init_26 : decode cX4_init 26 = .ok (.iconst 1, 1) := by decide +kernel
theorem dX4_init_27 : decode cX4_init 27 = .ok (.putfield 24, 3) := by decide +kernel
theorem dX4_init_30 : decode cX4_init 30 = .ok (.aload_n 0, 1) := by decide +kernel
theorem dX4_init_31 : decode cX4_init 31 = .ok (.iconst (-1), 1) := by decide +kernel
theorem dX4_init_32 : decode cX4_init 32 = .ok (.putfield 28, 3) := by decide +kernel
theorem dX4_init_35 : decode cX4_init 35 = .ok (.return_, 1) := by decide +kernel
theorem dX4_addChild_0 : decode cX4_addChild 0 = .ok (.iload_n 2, 1) := by decide +kernel
theorem dX4_addChild_1 : decode cX4_addChild 1 = .ok (.ifCond .ne 18, 3) := by decide +kernel
theorem dX4_addChild_4 : decode cX4_addChild 4 = .ok (.aload_n 0, 1) := by decide +kernel
theorem dX4_addChild_5 : decode cX4_addChild 5 = .ok (.dup, 1) := by decide +kernel
theorem dX4_addChild_6 : decode cX4_addChild 6 = .ok (.getfield 31, 3) := by decide +kernel
theorem dX4_addChild_9 : decode cX4_addChild 9 = .ok (.lconst 1, 1) := by decide +kernel
theorem dX4_addChild_10 : decode cX4_addChild 10 = .ok (.iload_n 1, 1) := by decide +kernel
theorem dX4_addChild_11 : decode cX4_addChild 11 = .ok (.lshl, 1) := by decide +kernel
theorem dX4_addChild_12 : decode cX4_addChild 12 = .ok (.lor, 1) := by decide +kernel
theorem dX4_addChild_13 : decode cX4_addChild 13 = .ok (.putfield 31, 3) := by decide +kernel
theorem dX4_addChild_16 : decode cX4_addChild 16 = .ok (.goto 15, 3) := by decide +kernel
theorem dX4_addChild_19 : decode cX4_addChild 19 = .ok (.aload_n 0, 1) := by decide +kernel
theorem dX4_addChild_20 : decode cX4_addChild 20 = .ok (.dup, 1) := by decide +kernel
theorem dX4_addChild_21 : decode cX4_addChild 21 = .ok (.getfield 35, 3) := by decide +kernel
theorem dX4_addChild_24 : decode cX4_addChild 24 = .ok (.lconst 1, 1) := by decide +kernel
theorem dX4_addChild_25 : decode cX4_addChild 25 = .ok (.iload_n 1, 1) := by decide +kernel
theorem dX4_addChild_26 : decode cX4_addChild 26 = .ok (.lshl, 1) := by decide +kernel
theorem dX4_addChild_27 : decode cX4_addChild 27 = .ok (.lor, 1) := by decide +kernel
theorem dX4_addChild_28 : decode cX4_addChild 28 = .ok (.putfield 35, 3) := by decide +kernel
theorem dX4_addChild_31 : decode cX4_addChild 31 = .ok (.return_, 1) := by decide +kernel
theorem dX4_spendWeeks_0 : decode cX4_spendWeeks 0 = .ok (.iload_n 1, 1) := by decide +kernel
theorem dX4_spendWeeks_1 : decode cX4_spendWeeks 1 = .ok (.aload_n 0, 1) := by decide +kernel
theorem dX4_spendWeeks_2 : decode cX4_spendWeeks 2 = .ok (.getfield 38, 3) := by decide +kernel
theorem dX4_spendWeeks_5 : decode cX4_spendWeeks 5 = .ok (.invokestatic 41, 3) := by decide +kernel
theorem dX4_spendWeeks_8 : decode cX4_spendWeeks 8 = .ok (.istore_n 3, 1) := by decide +kernel
theorem dX4_spendWeeks_9 : decode cX4_spendWeeks 9 = .ok (.aload_n 0, 1) := by decide +kernel
theorem dX4_spendWeeks_10 : decode cX4_spendWeeks 10 = .ok (.dup, 1) := by decide +kernel
theorem dX4_spendWeeks_11 : decode cX4_spendWeeks 11 = .ok (.getfield 47, 3) := by decide +kernel
theorem dX4_spendWeeks_14 : decode cX4_spendWeeks 14 = .ok (.iload_n 3, 1) := by decide +kernel
theorem dX4_spendWeeks_15 : decode cX4_spendWeeks 15 = .ok (.iload_n 2, 1) := by decide +kernel
theorem dX4_spendWeeks_16 : decode cX4_spendWeeks 16 = .ok (.imul, 1) := by decide +kernel
theorem dX4_spendWeeks_17 : decode cX4_spendWeeks 17 = .ok (.iadd, 1) := by decide +kernel
theorem dX4_spendWeeks_18 : decode cX4_spendWeeks 18 = .ok (.putfield 47, 3) := by decide +kernel
theorem dX4_spendWeeks_21 : decode cX4_spendWeeks 21 = .ok (.aload_n 0, 1) := by decide +kernel
theorem dX4_spendWeeks_22 : decode cX4_spendWeeks 22 = .ok (.dup, 1) := by decide +kernel
theorem dX4_spendWeeks_23 : decode cX4_spendWeeks 23 = .ok (.getfield 50, 3) := by decide +kernel
theorem dX4_spendWeeks_26 : decode cX4_spendWeeks 26 = .ok (.iload_n 1, 1) := by decide +kernel
theorem dX4_spendWeeks_27 : decode cX4_spendWeeks 27 = .ok (.iload_n 3, 1) := by decide +kernel
theorem dX4_spendWeeks_28 : decode cX4_spendWeeks 28 = .ok (.isub, 1) := by decide +kernel
theorem dX4_spendWeeks_29 : decode cX4_spendWeeks 29 = .ok (.iload_n 2, 1) := by decide +kernel
theorem dX4_spendWeeks_30 : decode cX4_spendWeeks 30 = .ok (.imul, 1) := by decide +kernel
theorem dX4_spendWeeks_31 : decode cX4_spendWeeks 31 = .ok (.iadd, 1) := by decide +kernel
theorem dX4_spendWeeks_32 : decode cX4_spendWeeks 32 = .ok (.putfield 50, 3) := by decide +kernel
theorem dX4_spendWeeks_35 : decode cX4_spendWeeks 35 = .ok (.aload_n 0, 1) := by decide +kernel
theorem dX4_spendWeeks_36 : decode cX4_spendWeeks 36 = .ok (.getfield 24, 3) := by decide +kernel
theorem dX4_spendWeeks_39 : decode cX4_spendWeeks 39 = .ok (.ifCond .eq 13, 3) := by decide +kernel
theorem dX4_spendWeeks_42 : decode cX4_spendWeeks 42 = .ok (.aload_n 0, 1) := by decide +kernel
theorem dX4_spendWeeks_43 : decode cX4_spendWeeks 43 = .ok (.dup, 1) := by decide +kernel
theorem dX4_spendWeeks_44 : decode cX4_spendWeeks 44 = .ok (.getfield 38, 3) := by decide +kernel
theorem dX4_spendWeeks_47 : decode cX4_spendWeeks 47 = .ok (.iload_n 3, 1) := by decide +kernel
theorem dX4_spendWeeks_48 : decode cX4_spendWeeks 48 = .ok (.isub, 1) := by decide +kernel
theorem dX4_spendWeeks_49 : decode cX4_spendWeeks 49 = .ok (.putfield 38, 3) := by decide +kernel
theorem dX4_spendWeeks_52 : decode cX4_spendWeeks 52 = .ok (.return_, 1) := by decide +kernel
theorem dX5_init_0 : decode cX5_init 0 = .ok (.aload_n 0, 1) := by decide +kernel
theorem dX5_init_1 : decode cX5_init 1 = .ok (.invokespecial 1, 3) := by decide +kernel
theorem dX5_init_4 : decode cX5_init 4 = .ok (.aload_n 0, 1) := by decide +kernel
theorem dX5_init_5 : decode cX5_init 5 = .ok (.iload_n 1, 1) := by decide +kernel
theorem dX5_init_6 : decode cX5_init 6 = .ok (.putfield 7, 3) := by decide +kernel
theorem dX5_init_9 : decode cX5_init 9 = .ok (.aload_n 0, 1) := by decide +kernel
theorem dX5_init_10 : decode cX5_init 10 = .ok (.iload_n 2, 1) := by decide +kernel
theorem dX5_init_11 : decode cX5_init 11 = .ok (.putfield 13, 3) := by decide +kernel
theorem dX5_init_14 : decode cX5_init 14 = .ok (.aload_n 0, 1) := by decide +kernel
theorem dX5_init_15 : decode cX5_init 15 = .ok (.iload_n 3, 1) := by decide +kernel
theorem dX5_init_16 : decode cX5_init 16 = .ok (.putfield 16, 3) := by decide +kernel
theorem dX5_init_19 : decode cX5_init 19 = .ok (.aload_n 0, 1) := by decide +kernel
theorem dX5_init_20 : decode cX5_init 20 = .ok (.aload 4, 2) := by decide +kernel
theorem dX5_init_22 : decode cX5_init 22 = .ok (.putfield 19, 3) := by decide +kernel
theorem dX5_init_25 : decode cX5_init 25 = .ok (.return_, 1) := by decide +kernel
theorem dX6_init_0 : decode cX6_init 0 = .ok (.aload_n 0, 1) := by decide +kernel
theorem dX6_init_1 : decode cX6_init 1 = .ok (.invokespecial 3, 3) := by decide +kernel
theorem dX6_init_4 : decode cX6_init 4 = .ok (.aload_n 0, 1) := by decide +kernel
theorem dX6_init_5 : decode cX6_init 5 = .ok (.iload_n 1, 1) := by decide +kernel
theorem dX6_init_6 : decode cX6_init 6 = .ok (.putfield 9, 3) := by decide +kernel
theorem dX6_init_9 : decode cX6_init 9 = .ok (.aload_n 0, 1) := by decide +kernel
theorem dX6_init_10 : decode cX6_init 10 = .ok (.iload_n 2, 1) := by decide +kernel
theorem dX6_init_11 : decode cX6_init 11 = .ok (.putfield 15, 3) := by decide +kernel
theorem dX6_init_14 : decode cX6_init 14 = .ok (.aload_n 0, 1) := by decide +kernel
theorem dX6_init_15 : decode cX6_init 15 = .ok (.iload_n 3, 1) := by decide +kernel
theorem dX6_init_16 : decode cX6_init 16 = .ok (.putfield 18, 3) := by decide +kernel
theorem dX6_init_19 : decode cX6_init 19 = .ok (.aload_n 0, 1) := by decide +kernel
theorem dX6_init_20 : decode cX6_init 20 = .ok (.iconst 0, 1) := by decide +kernel
theorem dX6_init_21 : decode cX6_init 21 = .ok (.putfield 21, 3) := by decide +kernel
theorem dX6_init_24 : decode cX6_init 24 = .ok (.aload_n 0, 1) := by decide +kernel
theorem dX6_init_25 : decode cX6_init 25 = .ok (.iconst 0, 1) := by decide +kernel
theorem dX6_init_26 : decode cX6_init 26 = .ok (.putfield 24, 3) := by decide +kernel
theorem dX6_init_29 : decode cX6_init 29 = .ok (.return_, 1) := by decide +kernel
theorem dJ13_bitCount_95d88_0 : decode cJ13_bitCount_95d88 0 = .ok (.lload_n 0, 1) := by decide +kernel
theorem dJ13_bitCount_95d88_1 : decode cJ13_bitCount_95d88 1 = .ok (.lload_n 0, 1) := by decide +kernel
theorem dJ13_bitCount_95d88_2 : decode cJ13_bitCount_95d88 2 = .ok (.iconst 1, 1) := by decide +kernel
theorem dJ13_bitCount_95d88_3 : decode cJ13_bitCount_95d88 3 = .ok (.lushr, 1) := by decide +kernel
theorem dJ13_bitCount_95d88_4 : decode cJ13_bitCount_95d88 4 = .ok (.ldc2_w 314, 3) := by decide +kernel
theorem dJ13_bitCount_95d88_7 : decode cJ13_bitCount_95d88 7 = .ok (.land, 1) := by decide +kernel
theorem dJ13_bitCount_95d88_8 : decode cJ13_bitCount_95d88 8 = .ok (.lsub, 1) := by decide +kernel
theorem dJ13_bitCount_95d88_9 : decode cJ13_bitCount_95d88 9 = .ok (.lstore_n 0, 1) := by decide +kernel
theorem dJ13_bitCount_95d88_10 : decode cJ13_bitCount_95d88 10 = .ok (.lload_n 0, 1) := by decide +kernel
theorem dJ13_bitCount_95d88_11 : decode cJ13_bitCount_95d88 11 = .ok (.ldc2_w 316, 3) := by decide +kernel
theorem dJ13_bitCount_95d88_14 : decode cJ13_bitCount_95d88 14 = .ok (.land, 1) := by decide +kernel
theorem dJ13_bitCount_95d88_15 : decode cJ13_bitCount_95d88 15 = .ok (.lload_n 0, 1) := by decide +kernel
theorem dJ13_bitCount_95d88_16 : decode cJ13_bitCount_95d88 16 = .ok (.iconst 2, 1) := by decide +kernel
theorem dJ13_bitCount_95d88_17 : decode cJ13_bitCount_95d88 17 = .ok (.lushr, 1) := by decide +kernel
theorem dJ13_bitCount_95d88_18 : decode cJ13_bitCount_95d88 18 = .ok (.ldc2_w 316, 3) := by decide +kernel
theorem dJ13_bitCount_95d88_21 : decode cJ13_bitCount_95d88 21 = .ok (.land, 1) := by decide +kernel
theorem dJ13_bitCount_95d88_22 : decode cJ13_bitCount_95d88 22 = .ok (.ladd, 1) := by decide +kernel
theorem dJ13_bitCount_95d88_23 : decode cJ13_bitCount_95d88 23 = .ok (.lstore_n 0, 1) := by decide +kernel
theorem dJ13_bitCount_95d88_24 : decode cJ13_bitCount_95d88 24 = .ok (.lload_n 0, 1) := by decide +kernel
theorem dJ13_bitCount_95d88_25 : decode cJ13_bitCount_95d88 25 = .ok (.lload_n 0, 1) := by decide +kernel
theorem dJ13_bitCount_95d88_26 : decode cJ13_bitCount_95d88 26 = .ok (.iconst 4, 1) := by decide +kernel
theorem dJ13_bitCount_95d88_27 : decode cJ13_bitCount_95d88 27 = .ok (.lushr, 1) := by decide +kernel
theorem dJ13_bitCount_95d88_28 : decode cJ13_bitCount_95d88 28 = .ok (.ladd, 1) := by decide +kernel
theorem dJ13_bitCount_95d88_29 : decode cJ13_bitCount_95d88 29 = .ok (.ldc2_w 318, 3) := by decide +kernel
theorem dJ13_bitCount_95d88_32 : decode cJ13_bitCount_95d88 32 = .ok (.land, 1) := by decide +kernel
theorem dJ13_bitCount_95d88_33 : decode cJ13_bitCount_95d88 33 = .ok (.lstore_n 0, 1) := by decide +kernel
theorem dJ13_bitCount_95d88_34 : decode cJ13_bitCount_95d88 34 = .ok (.lload_n 0, 1) := by decide +kernel
theorem dJ13_bitCount_95d88_35 : decode cJ13_bitCount_95d88 35 = .ok (.lload_n 0, 1) := by decide +kernel
theorem dJ13_bitCount_95d88_36 : decode cJ13_bitCount_95d88 36 = .ok (.bipush 8, 2) := by decide +kernel
theorem dJ13_bitCount_95d88_38 : decode cJ13_bitCount_95d88 38 = .ok (.lushr, 1) := by decide +kernel
theorem dJ13_bitCount_95d88_39 : decode cJ13_bitCount_95d88 39 = .ok (.ladd, 1) := by decide +kernel
theorem dJ13_bitCount_95d88_40 : decode cJ13_bitCount_95d88 40 = .ok (.lstore_n 0, 1) := by decide +kernel
theorem dJ13_bitCount_95d88_41 : decode cJ13_bitCount_95d88 41 = .ok (.lload_n 0, 1) := by decide +kernel
theorem dJ13_bitCount_95d88_42 : decode cJ13_bitCount_95d88 42 = .ok (.lload_n 0, 1) := by decide +kernel
theorem dJ13_bitCount_95d88_43 : decode cJ13_bitCount_95d88 43 = .ok (.bipush 16, 2) := by decide +kernel
theorem dJ13_bitCount_95d88_45 : decode cJ13_bitCount_95d88 45 = .ok (.lushr, 1) := by decide +kernel
theorem dJ13_bitCount_95d88_46 : decode cJ13_bitCount_95d88 46 = .ok (.ladd, 1) := by decide +kernel
theorem dJ13_bitCount_95d88_47 : decode cJ13_bitCount_95d88 47 = .ok (.lstore_n 0, 1) := by decide +kernel
theorem dJ13_bitCount_95d88_48 : decode cJ13_bitCount_95d88 48 = .ok (.lload_n 0, 1) := by decide +kernel
theorem dJ13_bitCount_95d88_49 : decode cJ13_bitCount_95d88 49 = .ok (.lload_n 0, 1) := by decide +kernel
theorem dJ13_bitCount_95d88_50 : decode cJ13_bitCount_95d88 50 = .ok (.bipush 32, 2) := by decide +kernel
theorem dJ13_bitCount_95d88_52 : decode cJ13_bitCount_95d88 52 = .ok (.lushr, 1) := by decide +kernel
theorem dJ13_bitCount_95d88_53 : decode cJ13_bitCount_95d88 53 = .ok (.ladd, 1) := by decide +kernel
theorem dJ13_bitCount_95d88_54 : decode cJ13_bitCount_95d88 54 = .ok (.lstore_n 0, 1) := by decide +kernel
theorem dJ13_bitCount_95d88_55 : decode cJ13_bitCount_95d88 55 = .ok (.lload_n 0, 1) := by decide +kernel
theorem dJ13_bitCount_95d88_56 : decode cJ13_bitCount_95d88 56 = .ok (.l2i, 1) := by decide +kernel
theorem dJ13_bitCount_95d88_57 : decode cJ13_bitCount_95d88 57 = .ok (.bipush 127, 2) := by decide +kernel
theorem dJ13_bitCount_95d88_59 : decode cJ13_bitCount_95d88 59 = .ok (.iand, 1) := by decide +kernel
theorem dJ13_bitCount_95d88_60 : decode cJ13_bitCount_95d88 60 = .ok (.ireturn, 1) := by decide +kernel
theorem dJ9_max_7cf53_0 : decode cJ9_max_7cf53 0 = .ok (.iload_n 0, 1) := by decide +kernel
theorem dJ9_max_7cf53_1 : decode cJ9_max_7cf53 1 = .ok (.iload_n 1, 1) := by decide +kernel
theorem dJ9_max_7cf53_2 : decode cJ9_max_7cf53 2 = .ok (.if_icmp .lt 7, 3) := by decide +kernel
theorem dJ9_max_7cf53_5 : decode cJ9_max_7cf53 5 = .ok (.iload_n 0, 1) := by decide +kernel
theorem dJ9_max_7cf53_6 : decode cJ9_max_7cf53 6 = .ok (.goto 4, 3) := by decide +kernel
theorem dJ9_max_7cf53_9 : decode cJ9_max_7cf53 9 = .ok (.iload_n 1, 1) := by decide +kernel
theorem dJ9_max_7cf53_10 : decode cJ9_max_7cf53 10 = .ok (.ireturn, 1) := by decide +kernel
theorem dJ9_min_7cf53_0 : decode cJ9_min_7cf53 0 = .ok (.iload_n 0, 1) := by decide +kernel
theorem dJ9_min_7cf53_1 : decode cJ9_min_7cf53 1 = .ok (.iload_n 1, 1) := by decide +kernel
theorem dJ9_min_7cf53_2 : decode cJ9_min_7cf53 2 = .ok (.if_icmp .gt 7, 3) := by decide +kernel
theorem dJ9_min_7cf53_5 : decode cJ9_min_7cf53 5 = .ok (.iload_n 0, 1) := by decide +kernel
theorem dJ9_min_7cf53_6 : decode cJ9_min_7cf53 6 = .ok (.goto 4, 3) := by decide +kernel
theorem dJ9_min_7cf53_9 : decode cJ9_min_7cf53 9 = .ok (.iload_n 1, 1) := by decide +kernel
theorem dJ9_min_7cf53_10 : decode cJ9_min_7cf53 10 = .ok (.ireturn, 1) := by decide +kernel
theorem dX7_init_0 : decode cX7_init 0 = .ok (.aload_n 0, 1) := by decide +kernel
theorem dX7_init_1 : decode cX7_init 1 = .ok (.invokespecial 3, 3) := by decide +kernel
theorem dX7_init_4 : decode cX7_init 4 = .ok (.aload_n 0, 1) := by decide +kernel
theorem dX7_init_5 : decode cX7_init 5 = .ok (.iconst 0, 1) := by decide +kernel
theorem dX7_init_6 : decode cX7_init 6 = .ok (.putfield 9, 3) := by decide +kernel
theorem dX7_init_9 : decode cX7_init 9 = .ok (.aload_n 0, 1) := by decide +kernel
theorem dX7_init_10 : decode cX7_init 10 = .ok (.new 13, 3) := by decide +kernel
theorem dX7_init_13 : decode cX7_init 13 = .ok (.dup, 1) := by decide +kernel
theorem dX7_init_14 : decode cX7_init 14 = .ok (.iconst 0, 1) := by decide +kernel
theorem dX7_init_15 : decode cX7_init 15 = .ok (.iconst 0, 1) := by decide +kernel
theorem dX7_init_16 : decode cX7_init 16 = .ok (.invokespecial 15, 3) := by decide +kernel
theorem dX7_init_19 : decode cX7_init 19 = .ok (.putfield 18, 3) := by decide +kernel
theorem dX7_init_22 : decode cX7_init 22 = .ok (.aload_n 0, 1) := by decide +kernel
theorem dX7_init_23 : decode cX7_init 23 = .ok (.iconst 0, 1) := by decide +kernel
theorem dX7_init_24 : decode cX7_init 24 = .ok (.putfield 22, 3) := by decide +kernel
theorem dX7_init_27 : decode cX7_init 27 = .ok (.aload_n 0, 1) := by decide +kernel
theorem dX7_init_28 : decode cX7_init 28 = .ok (.new 25, 3) := by decide +kernel
theorem dX7_init_31 : decode cX7_init 31 = .ok (.dup, 1) := by decide +kernel
theorem dX7_init_32 : decode cX7_init 32 = .ok (.invokespecial 27, 3) := by decide +kernel
theorem dX7_init_35 : decode cX7_init 35 = .ok (.putfield 28, 3) := by decide +kernel
theorem dX7_init_38 : decode cX7_init 38 = .ok (.aload_n 0, 1) := by decide +kernel
theorem dX7_init_39 : decode cX7_init 39 = .ok (.new 32, 3) := by decide +kernel
theorem dX7_init_42 : decode cX7_init 42 = .ok (.dup, 1) := by decide +kernel
theorem dX7_init_43 : decode cX7_init 43 = .ok (.invokespecial 34, 3) := by decide +kernel
theorem dX7_init_46 : decode cX7_init 46 = .ok (.putfield 35, 3) := by decide +kernel
theorem dX7_init_49 : decode cX7_init 49 = .ok (.aload_n 0, 1) := by decide +kernel
theorem dX7_init_50 : decode cX7_init 50 = .ok (.new 39, 3) := by decide +kernel
theorem dX7_init_53 : decode cX7_init 53 = .ok (.dup, 1) := by decide +kernel
theorem dX7_init_54 : decode cX7_init 54 = .ok (.aload_n 0, 1) := by decide +kernel
theorem dX7_init_55 : decode cX7_init 55 = .ok (.getfield 28, 3) := by decide +kernel
theorem dX7_init_58 : decode cX7_init 58 = .ok (.invokespecial 41, 3) := by decide +kernel
theorem dX7_init_61 : decode cX7_init 61 = .ok (.putfield 44, 3) := by decide +kernel
theorem dX7_init_64 : decode cX7_init 64 = .ok (.aload_n 0, 1) := by decide +kernel
theorem dX7_init_65 : decode cX7_init 65 = .ok (.bipush 40, 2) := by decide +kernel
theorem dX7_init_67 : decode cX7_init 67 = .ok (.anewarray 48, 3) := by decide +kernel
theorem dX7_init_70 : decode cX7_init 70 = .ok (.putfield 50, 3) := by decide +kernel
theorem dX7_init_73 : decode cX7_init 73 = .ok (.aload_n 0, 1) := by decide +kernel
theorem dX7_init_74 : decode cX7_init 74 = .ok (.iconst 0, 1) := by decide +kernel
theorem dX7_init_75 : decode cX7_init 75 = .ok (.putfield 54, 3) := by decide +kernel
theorem dX7_init_78 : decode cX7_init 78 = .ok (.aload_n 0, 1) := by decide +kernel
theorem dX7_init_79 : decode cX7_init 79 = .ok (.iconst 0, 1) := by decide +kernel
theorem dX7_init_80 : decode cX7_init 80 = .ok (.putfield 57, 3) := by decide +kernel
theorem dX7_init_83 : decode cX7_init 83 = .ok (.return_, 1) := by decide +kernel
theorem dX7_custom_0 : decode cX7_custom 0 = .ok (.iload_n 1, 1) := by decide +kernel
theorem dX7_custom_1 : decode cX7_custom 1 = .ok (.iload_n 2, 1) := by decide +kernel
theorem dX7_custom_2 : decode cX7_custom 2 = .ok (.invokestatic 60, 3) := by decide +kernel
theorem dX7_custom_5 : decode cX7_custom 5 = .ok (.ifCond .ne 5, 3) := by decide +kernel
theorem dX7_custom_8 : decode cX7_custom 8 = .ok (.iconst (-1), 1) := by decide +kernel
theorem dX7_custom_9 : decode cX7_custom 9 = .ok (.ireturn, 1) := by decide +kernel
theorem dX7_custom_10 : decode cX7_custom 10 = .ok (.aload_n 0, 1) := by decide +kernel
theorem dX7_custom_11 : decode cX7_custom 11 = .ok (.new 13, 3) := by decide +kernel
theorem dX7_custom_14 : decode cX7_custom 14 = .ok (.dup, 1) := by decide +kernel
theorem dX7_custom_15 : decode cX7_custom 15 = .ok (.iload_n 1, 1) := by decide +kernel
theorem dX7_custom_16 : decode cX7_custom 16 = .ok (.iload_n 2, 1) := by decide +kernel
theorem dX7_custom_17 : decode cX7_custom 17 = .ok (.invokespecial 15, 3) := by decide +kernel
theorem dX7_custom_20 : decode cX7_custom 20 = .ok (.putfield 18, 3) := by decide +kernel
theorem dX7_custom_23 : decode cX7_custom 23 = .ok (.aload_n 0, 1) := by decide +kernel
theorem dX7_custom_24 : decode cX7_custom 24 = .ok (.dup, 1) := by decide +kernel
theorem dX7_custom_25 : decode cX7_custom 25 = .ok (.getfield 22, 3) := by decide +kernel
theorem dX7_custom_28 : decode cX7_custom 28 = .ok (.iconst 1, 1) := by decide +kernel
theorem dX7_custom_29 : decode cX7_custom 29 = .ok (.iadd, 1) := by decide +kernel
theorem dX7_custom_30 : decode cX7_custom 30 = .ok (.putfield 22, 3) := by decide +kernel
theorem dX7_custom_33 : decode cX7_custom 33 = .ok (.aload_n 0, 1) := by decide +kernel
theorem dX7_custom_34 : decode cX7_custom 34 = .ok (.getfield 22, 3) := by decide +kernel
theorem dX7_custom_37 : decode cX7_custom 37 = .ok (.ireturn, 1) := by decide +kernel
theorem dX7_person_0 : decode cX7_person 0 = .ok (.iload_n 1, 1) := by decide +kernel
theorem dX7_person_1 : decode cX7_person 1 = .ok (.ifCond .eq 8, 3) := by decide +kernel
theorem dX7_person_4 : decode cX7_person 4 = .ok (.iload_n 1, 1) := by decide +kernel
theorem dX7_person_5 : decode cX7_person 5 = .ok (.iconst 1, 1) := by decide +kernel
theorem dX7_person_6 : decode cX7_person 6 = .ok (.if_icmp .ne 15, 3) := by decide +kernel
theorem dX7_person_9 : decode cX7_person 9 = .ok (.aload_n 0, 1) := by decide +kernel
theorem dX7_person_10 : decode cX7_person 10 = .ok (.getfield 28, 3) := by decide +kernel
theorem dX7_person_13 : decode cX7_person 13 = .ok (.getfield 64, 3) := by decide +kernel
theorem dX7_person_16 : decode cX7_person 16 = .ok (.bipush 60, 2) := by decide +kernel
theorem dX7_person_18 : decode cX7_person 18 = .ok (.if_icmp .lt 5, 3) := by decide +kernel
theorem dX7_person_21 : decode cX7_person 21 = .ok (.iconst (-1), 1) := by decide +kernel
theorem dX7_person_22 : decode cX7_person 22 = .ok (.ireturn, 1) := by decide +kernel
theorem dX7_person_23 : decode cX7_person 23 = .ok (.aload_n 0, 1) := by decide +kernel
theorem dX7_person_24 : decode cX7_person 24 = .ok (.getfield 28, 3) := by decide +kernel
theorem dX7_person_27 : decode cX7_person 27 = .ok (.iload_n 2, 1) := by decide +kernel
theorem dX7_person_28 : decode cX7_person 28 = .ok (.iconst 0, 1) := by decide +kernel
theorem dX7_person_29 : decode cX7_person 29 = .ok (.invokevirtual 67, 3) := by decide +kernel
theorem dX7_person_32 : decode cX7_person 32 = .ok (.ifCond .eq 15, 3) := by decide +kernel
theorem dX7_person_35 : decode cX7_person 35 = .ok (.aload_n 0, 1) := by decide +kernel
theorem dX7_person_36 : decode cX7_person 36 = .ok (.getfield 28, 3) := by decide +kernel
theorem dX7_person_39 : decode cX7_person 39 = .ok (.iload_n 3, 1) := by decide +kernel
theorem dX7_person_40 : decode cX7_person 40 = .ok (.iconst 1, 1) := by decide +kernel
theorem dX7_person_41 : decode cX7_person 41 = .ok (.invokevirtual 67, 3) := by decide +kernel
theorem dX7_person_44 : decode cX7_person 44 = .ok (.ifCond .ne 5, 3) := by decide +kernel
theorem dX7_person_47 : decode cX7_person 47 = .ok (.iconst (-1), 1) := by decide +kernel
theorem dX7_person_48 : decode cX7_person 48 = .ok (.ireturn, 1) := by decide +kernel
theorem dX7_person_49 : decode cX7_person 49 = .ok (.aload_n 0, 1) := by decide +kernel
theorem dX7_person_50 : decode cX7_person 50 = .ok (.getfield 28, 3) := by decide +kernel
theorem dX7_person_53 : decode cX7_person 53 = .ok (.new 70, 3) := by decide +kernel
theorem dX7_person_56 : decode cX7_person 56 = .ok (.dup, 1) := by decide +kernel
theorem dX7_person_57 : decode cX7_person 57 = .ok (.iload_n 1, 1) := by decide +kernel
theorem dX7_person_58 : decode cX7_person 58 = .ok (.iload_n 2, 1) := by decide +kernel
theorem dX7_person_59 : decode cX7_person 59 = .ok (.iload_n 3, 1) := by decide +kernel
theorem dX7_person_60 : decode cX7_person 60 = .ok (.aload_n 0, 1) := by decide +kernel
theorem dX7_person_61 : decode cX7_person 61 = .ok (.getfield 9, 3) := by decide +kernel
theorem dX7_person_64 : decode cX7_person 64 = .ok (.invokespecial 72, 3) := by decide +kernel
theorem dX7_person_67 : decode cX7_person 67 = .ok (.invokevirtual 75, 3) := by decide +kernel
theorem dX7_person_70 : decode cX7_person 70 = .ok (.ireturn, 1) := by decide +kernel
theorem dX7_marry_0 : decode cX7_marry 0 = .ok (.aload_n 0, 1) := by decide +kernel
theorem dX7_marry_1 : decode cX7_marry 1 = .ok (.getfield 28, 3) := by decide +kernel
theorem dX7_marry_4 : decode cX7_marry 4 = .ok (.iload_n 1, 1) := by decide +kernel
theorem dX7_marry_5 : decode cX7_marry 5 = .ok (.invokevirtual 79, 3) := by decide +kernel
theorem dX7_marry_8 : decode cX7_marry 8 = .ok (.astore_n 3, 1) := by decide +kernel
theorem dX7_marry_9 : decode cX7_marry 9 = .ok (.aload_n 0, 1) := by decide +kernel
theorem dX7_marry_10 : decode cX7_marry 10 = .ok (.getfield 28, 3) := by decide +kernel
theorem dX7_marry_13 : decode cX7_marry 13 = .ok (.iload_n 2, 1) := by decide +kernel
theorem dX7_marry_14 : decode cX7_marry 14 = .ok (.invokevirtual 79, 3) := by decide +kernel
theorem dX7_marry_17 : decode cX7_marry 17 = .ok (.astore 4, 2) := by decide +kernel
theorem dX7_marry_19 : decode cX7_marry 19 = .ok (.aload_n 3, 1) := by decide +kernel
theorem dX7_marry_20 : decode cX7_marry 20 = .ok (.ifnull 24, 3) := by decide +kernel
theorem dX7_marry_23 : decode cX7_marry 23 = .ok (.aload 4, 2) := by decide +kernel
theorem dX7_marry_25 : decode cX7_marry 25 = .ok (.ifnull 19, 3) := by decide +kernel
theorem dX7_marry_28 : decode cX7_marry 28 = .ok (.aload_n 3, 1) := by decide +kernel
theorem dX7_marry_29 : decode cX7_marry 29 = .ok (.getfield 83, 3) := by decide +kernel
theorem dX7_marry_32 : decode cX7_marry 32 = .ok (.ifCond .ne 12, 3) := by decide +kernel
theorem dX7_marry_35 : decode cX7_marry 35 = .ok (.aload 4, 2) := by decide +kernel
theorem dX7_marry_37 : decode cX7_marry 37 = .ok (.getfield 83, 3) := by decide +kernel
theorem dX7_marry_40 : decode cX7_marry 40 = .ok (.iconst 1, 1) := by decide +kernel
theorem dX7_marry_41 : decode cX7_marry 41 = .ok (.if_icmp .eq 5, 3) := by decide +kernel
theorem dX7_marry_44 : decode cX7_marry 44 = .ok (.iconst 0, 1) := by decide +kernel
theorem dX7_marry_45 : decode cX7_marry 45 = .ok (.ireturn, 1) := by decide +kernel
theorem dX7_marry_46 : decode cX7_marry 46 = .ok (.aload_n 3, 1) := by decide +kernel
theorem dX7_marry_47 : decode cX7_marry 47 = .ok (.getfield 86, 3) := by decide +kernel
theorem dX7_marry_50 : decode cX7_marry 50 = .ok (.iconst (-1), 1) := by decide +kernel
theorem dX7_marry_51 : decode cX7_marry 51 = .ok (.if_icmp .ne 12, 3) := by decide +kernel
theorem dX7_marry_54 : decode cX7_marry 54 = .ok (.aload 4, 2) := by decide +kernel
theorem dX7_marry_56 : decode cX7_marry 56 = .ok (.getfield 86, 3) := by decide +kernel
theorem dX7_marry_59 : decode cX7_marry 59 = .ok (.iconst (-1), 1) := by decide +kernel
theorem dX7_marry_60 : decode cX7_marry 60 = .ok (.if_icmp .eq 5, 3) := by decide +kernel
theorem dX7_marry_63 : decode cX7_marry 63 = .ok (.iconst 0, 1) := by decide +kernel
theorem dX7_marry_64 : decode cX7_marry 64 = .ok (.ireturn, 1) := by decide +kernel
theorem dX7_marry_65 : decode cX7_marry 65 = .ok (.aload_n 0, 1) := by decide +kernel
theorem dX7_marry_66 : decode cX7_marry 66 = .ok (.iload_n 1, 1) := by decide +kernel
theorem dX7_marry_67 : decode cX7_marry 67 = .ok (.invokevirtual 89, 3) := by decide +kernel
theorem dX7_marry_70 : decode cX7_marry 70 = .ok (.pop, 1) := by decide +kernel
theorem dX7_marry_71 : decode cX7_marry 71 = .ok (.aload_n 0, 1) := by decide +kernel
theorem dX7_marry_72 : decode cX7_marry 72 = .ok (.iload_n 2, 1) := by decide +kernel
theorem dX7_marry_73 : decode cX7_marry 73 = .ok (.invokevirtual 89, 3) := by decide +kernel
theorem dX7_marry_76 : decode cX7_marry 76 = .ok (.pop, 1) := by decide +kernel
theorem dX7_marry_77 : decode cX7_marry 77 = .ok (.aload_n 3, 1) := by decide +kernel
theorem dX7_marry_78 : decode cX7_marry 78 = .ok (.iload_n 2, 1) := by decide +kernel
theorem dX7_marry_79 : decode cX7_marry 79 = .ok (.putfield 86, 3) := by decide +kernel
theorem dX7_marry_82 : decode cX7_marry 82 = .ok (.aload 4, 2) := by decide +kernel
theorem dX7_marry_84 : decode cX7_marry 84 = .ok (.iload_n 1, 1) := by decide +kernel
theorem dX7_marry_85 : decode cX7_marry 85 = .ok (.putfield 86, 3) := by decide +kernel
theorem dX7_marry_88 : decode cX7_marry 88 = .ok (.aload_n 0, 1) := by decide +kernel
theorem dX7_marry_89 : decode cX7_marry 89 = .ok (.aload 4, 2) := by decide +kernel
theorem dX7_marry_91 : decode cX7_marry 91 = .ok (.invokevirtual 93, 3) := by decide +kernel
theorem dX7_marry_94 : decode cX7_marry 94 = .ok (.iconst 1, 1) := by decide +kernel
theorem dX7_marry_95 : decode cX7_marry 95 = .ok (.ireturn, 1) := by decide +kernel
theorem dX7_die_0 : decode cX7_die 0 = .ok (.aload_n 0, 1) := by decide +kernel
theorem dX7_die_1 : decode cX7_die 1 = .ok (.getfield 28, 3) := by decide +kernel
theorem dX7_die_4 : decode cX7_die 4 = .ok (.iload_n 1, 1) := by decide +kernel
theorem dX7_die_5 : decode cX7_die 5 = .ok (.invokevirtual 79, 3) := by decide +kernel
theorem dX7_die_8 : decode cX7_die 8 = .ok (.astore_n 2, 1) := by decide +kernel
theorem dX7_die_9 : decode cX7_die 9 = .ok (.aload_n 2, 1) := by decide +kernel
theorem dX7_die_10 : decode cX7_die 10 = .ok (.ifnonnull 5, 3) := by decide +kernel
theorem dX7_die_13 : decode cX7_die 13 = .ok (.iconst (-1), 1) := by decide +kernel
theorem dX7_die_14 : decode cX7_die 14 = .ok (.ireturn, 1) := by decide +kernel
theorem dX7_die_15 : decode cX7_die 15 = .ok (.aload_n 2, 1) := by decide +kernel
theorem dX7_die_16 : decode cX7_die 16 = .ok (.iconst 0, 1) := by decide +kernel
theorem dX7_die_17 : decode cX7_die 17 = .ok (.putfield 97, 3) := by decide +kernel
theorem dX7_die_20 : decode cX7_die 20 = .ok (.aload_n 0, 1) := by decide +kernel
theorem dX7_die_21 : decode cX7_die 21 = .ok (.iload_n 1, 1) := by decide +kernel
theorem dX7_die_22 : decode cX7_die 22 = .ok (.aload_n 2, 1) := by decide +kernel
theorem dX7_die_23 : decode cX7_die 23 = .ok (.invokevirtual 101, 3) := by decide +kernel
theorem dX7_die_26 : decode cX7_die 26 = .ok (.aload_n 0, 1) := by decide +kernel
theorem dX7_die_27 : decode cX7_die 27 = .ok (.iload_n 1, 1) := by decide +kernel
theorem dX7_die_28 : decode cX7_die 28 = .ok (.invokevirtual 89, 3) := by decide +kernel
theorem dX7_die_31 : decode cX7_die 31 = .ok (.iadd, 1) := by decide +kernel
theorem dX7_die_32 : decode cX7_die 32 = .ok (.istore_n 3, 1) := by decide +kernel
theorem dX7_die_33 : decode cX7_die 33 = .ok (.aload_n 0, 1) := by decide +kernel
theorem dX7_die_34 : decode cX7_die 34 = .ok (.getfield 28, 3) := by decide +kernel
theorem dX7_die_37 : decode cX7_die 37 = .ok (.aload_n 2, 1) := by decide +kernel
theorem dX7_die_38 : decode cX7_die 38 = .ok (.getfield 86, 3) := by decide +kernel
theorem dX7_die_41 : decode cX7_die 41 = .ok (.invokevirtual 105, 3) := by decide +kernel
theorem dX7_die_44 : decode cX7_die 44 = .ok (.astore 4, 2) := by decide +kernel
theorem dX7_die_46 : decode cX7_die 46 = .ok (.aload 4, 2) := by decide +kernel
theorem dX7_die_48 : decode cX7_die 48 = .ok (.ifnull 9, 3) := by decide +kernel
theorem dX7_die_51 : decode cX7_die 51 = .ok (.aload 4, 2) := by decide +kernel
theorem dX7_die_53 : decode cX7_die 53 = .ok (.iconst (-1), 1) := by decide +kernel
theorem dX7_die_54 : decode cX7_die 54 = .ok (.putfield 86, 3) := by decide +kernel
theorem dX7_die_57 : decode cX7_die 57 = .ok (.aload_n 2, 1) := by decide +kernel
theorem dX7_die_58 : decode cX7_die 58 = .ok (.iconst (-1), 1) := by decide +kernel
theorem dX7_die_59 : decode cX7_die 59 = .ok (.putfield 86, 3) := by decide +kernel
theorem dX7_die_62 : decode cX7_die 62 = .ok (.iload_n 3, 1) := by decide +kernel
theorem dX7_die_63 : decode cX7_die 63 = .ok (.ireturn, 1) := by decide +kernel
theorem dX7_grant_0 : decode cX7_grant 0 = .ok (.iload_n 1, 1) := by decide +kernel
theorem dX7_grant_1 : decode cX7_grant 1 = .ok (.invokestatic 108, 3) := by decide +kernel
theorem dX7_grant_4 : decode cX7_grant 4 = .ok (.ifCond .eq 14, 3) := by decide +kernel
theorem dX7_grant_7 : decode cX7_grant 7 = .ok (.aload_n 0, 1) := by decide +kernel
theorem dX7_grant_8 : decode cX7_grant 8 = .ok (.getfield 28, 3) := by decide +kernel
theorem dX7_grant_11 : decode cX7_grant 11 = .ok (.iload_n 3, 1) := by decide +kernel
theorem dX7_grant_12 : decode cX7_grant 12 = .ok (.invokevirtual 79, 3) := by decide +kernel
theorem dX7_grant_15 : decode cX7_grant 15 = .ok (.ifnonnull 5, 3) := by decide +kernel
theorem dX7_grant_18 : decode cX7_grant 18 = .ok (.iconst 0, 1) := by decide +kernel
theorem dX7_grant_19 : decode cX7_grant 19 = .ok (.ireturn, 1) := by decide +kernel
theorem dX7_grant_20 : decode cX7_grant 20 = .ok (.aload_n 0, 1) := by decide +kernel
theorem dX7_grant_21 : decode cX7_grant 21 = .ok (.getfield 35, 3) := by decide +kernel
theorem dX7_grant_24 : decode cX7_grant 24 = .ok (.iload_n 1, 1) := by decide +kernel
theorem dX7_grant_25 : decode cX7_grant 25 = .ok (.iconst (-1), 1) := by decide +kernel
theorem dX7_grant_26 : decode cX7_grant 26 = .ok (.iconst 0, 1) := by decide +kernel
theorem dX7_grant_27 : decode cX7_grant 27 = .ok (.invokevirtual 112, 3) := by decide +kernel
theorem dX7_grant_30 : decode cX7_grant 30 = .ok (.iload_n 2, 1) := by decide +kernel
theorem dX7_grant_31 : decode cX7_grant 31 = .ok (.iconst 1, 1) := by decide +kernel
theorem dX7_grant_32 : decode cX7_grant 32 = .ok (.if_icmp .lt 14, 3) := by decide +kernel
theorem dX7_grant_35 : decode cX7_grant 35 = .ok (.iload_n 2, 1) := by decide +kernel
theorem dX7_grant_36 : decode cX7_grant 36 = .ok (.aload_n 0, 1) := by decide +kernel
theorem dX7_grant_37 : decode cX7_grant 37 = .ok (.getfield 35, 3) := by decide +kernel
theorem dX7_grant_40 : decode cX7_grant 40 = .ok (.getfield 116, 3) := by decide +kernel
theorem dX7_grant_43 : decode cX7_grant 43 = .ok (.if_icmp .le 5, 3) := by decide +kernel
theorem dX7_grant_46 : decode cX7_grant 46 = .ok (.iconst 0, 1) := by decide +kernel
theorem dX7_grant_47 : decode cX7_grant 47 = .ok (.ireturn, 1) := by decide +kernel
theorem dX7_grant_48 : decode cX7_grant 48 = .ok (.aload_n 0, 1) := by decide +kernel
theorem dX7_grant_49 : decode cX7_grant 49 = .ok (.getfield 35, 3) := by decide +kernel
theorem dX7_grant_52 : decode cX7_grant 52 = .ok (.iconst 0, 1) := by decide +kernel
theorem dX7_grant_53 : decode cX7_grant 53 = .ok (.iload_n 2, 1) := by decide +kernel
theorem dX7_grant_54 : decode cX7_grant 54 = .ok (.iload_n 3, 1) := by decide +kernel
theorem dX7_grant_55 : decode cX7_grant 55 = .ok (.iconst 1, 1) := by decide +kernel
theorem dX7_grant_56 : decode cX7_grant 56 = .ok (.aload_n 0, 1) := by decide +kernel
theorem dX7_grant_57 : decode cX7_grant 57 = .ok (.getfield 9, 3) := by decide +kernel
theorem dX7_grant_60 : decode cX7_grant 60 = .ok (.invokevirtual 119, 3) := by decide +kernel
theorem dX7_grant_63 : decode cX7_grant 63 = .ok (.iconst 1, 1) := by decide +kernel
theorem dX7_grant_64 : decode cX7_grant 64 = .ok (.ireturn, 1) := by decide +kernel
theorem dX7_rod_0 : decode cX7_rod 0 = .ok (.aload_n 0, 1) := by decide +kernel
theorem dX7_rod_1 : decode cX7_rod 1 = .ok (.getfield 28, 3) := by decide +kernel
theorem dX7_rod_4 : decode cX7_rod 4 = .ok (.iload 4, 2) := by decide +kernel
theorem dX7_rod_6 : decode cX7_rod 6 = .ok (.invokevirtual 79, 3) := by decide +kernel
theorem dX7_rod_9 : decode cX7_rod 9 = .ok (.astore 5, 2) := by decide +kernel
theorem dX7_rod_11 : decode cX7_rod 11 = .ok (.iload_n 1, 1) := by decide +kernel
theorem dX7_rod_12 : decode cX7_rod 12 = .ok (.invokestatic 108, 3) := by decide +kernel
theorem dX7_rod_15 : decode cX7_rod 15 = .ok (.ifCond .eq 25, 3) := by decide +kernel
theorem dX7_rod_18 : decode cX7_rod 18 = .ok (.aload_n 0, 1) := by decide +kernel
theorem dX7_rod_19 : decode cX7_rod 19 = .ok (.getfield 28, 3) := by decide +kernel
theorem dX7_rod_22 : decode cX7_rod 22 = .ok (.iload_n 3, 1) := by decide +kernel
theorem dX7_rod_23 : decode cX7_rod 23 = .ok (.invokevirtual 79, 3) := by decide +kernel
theorem dX7_rod_26 : decode cX7_rod 26 = .ok (.ifnull 14, 3) := by decide +kernel
theorem dX7_rod_29 : decode cX7_rod 29 = .ok (.aload 5, 2) := by decide +kernel
theorem dX7_rod_31 : decode cX7_rod 31 = .ok (.ifnull 9, 3) := by decide +kernel
theorem dX7_rod_34 : decode cX7_rod 34 = .ok (.iload_n 3, 1) := by decide +kernel
theorem dX7_rod_35 : decode cX7_rod 35 = .ok (.iload 4, 2) := by decide +kernel
theorem dX7_rod_37 : decode cX7_rod 37 = .ok (.if_icmp .ne 5, 3) := by decide +kernel
theorem dX7_rod_40 : decode cX7_rod 40 = .ok (.iconst 0, 1) := by decide +kernel
theorem dX7_rod_41 : decode cX7_rod 41 = .ok (.ireturn, 1) := by decide +kernel
theorem dX7_rod_42 : decode cX7_rod 42 = .ok (.aload_n 0, 1) := by decide +kernel
theorem dX7_rod_43 : decode cX7_rod 43 = .ok (.getfield 35, 3) := by decide +kernel
theorem dX7_rod_46 : decode cX7_rod 46 = .ok (.iload_n 1, 1) := by decide +kernel
theorem dX7_rod_47 : decode cX7_rod 47 = .ok (.iload_n 3, 1) := by decide +kernel
theorem dX7_rod_48 : decode cX7_rod 48 = .ok (.iconst 0, 1) := by decide +kernel
theorem dX7_rod_49 : decode cX7_rod 49 = .ok (.invokevirtual 112, 3) := by decide +kernel
theorem dX7_rod_52 : decode cX7_rod 52 = .ok (.iload_n 2, 1) := by decide +kernel
theorem dX7_rod_53 : decode cX7_rod 53 = .ok (.iconst 1, 1) := by decide +kernel
theorem dX7_rod_54 : decode cX7_rod 54 = .ok (.if_icmp .lt 14, 3) := by decide +kernel
theorem dX7_rod_57 : decode cX7_rod 57 = .ok (.iload_n 2, 1) := by decide +kernel
theorem dX7_rod_58 : decode cX7_rod 58 = .ok (.aload_n 0, 1) := by decide +kernel
theorem dX7_rod_59 : decode cX7_rod 59 = .ok (.getfield 35, 3) := by decide +kernel
theorem dX7_rod_62 : decode cX7_rod 62 = .ok (.getfield 116, 3) := by decide +kernel
theorem dX7_rod_65 : decode cX7_rod 65 = .ok (.if_icmp .le 5, 3) := by decide +kernel
theorem dX7_rod_68 : decode cX7_rod 68 = .ok (.iconst 0, 1) := by decide +kernel
theorem dX7_rod_69 : decode cX7_rod 69 = .ok (.ireturn, 1) := by decide +kernel
theorem dX7_rod_70 : decode cX7_rod 70 = .ok (.aload_n 0, 1) := by decide +kernel
theorem dX7_rod_71 : decode cX7_rod 71 = .ok (.getfield 35, 3) := by decide +kernel
theorem dX7_rod_74 : decode cX7_rod 74 = .ok (.iconst 0, 1) := by decide +kernel
theorem dX7_rod_75 : decode cX7_rod 75 = .ok (.iload_n 2, 1) := by decide +kernel
theorem dX7_rod_76 : decode cX7_rod 76 = .ok (.iload 4, 2) := by decide +kernel
theorem dX7_rod_78 : decode cX7_rod 78 = .ok (.iconst 4, 1) := by decide +kernel
theorem dX7_rod_79 : decode cX7_rod 79 = .ok (.aload_n 0, 1) := by decide +kernel
theorem dX7_rod_80 : decode cX7_rod 80 = .ok (.getfield 9, 3) := by decide +kernel
theorem dX7_rod_83 : decode cX7_rod 83 = .ok (.invokevirtual 119, 3) := by decide +kernel
theorem dX7_rod_86 : decode cX7_rod 86 = .ok (.aload 5, 2) := by decide +kernel
theorem dX7_rod_88 : decode cX7_rod 88 = .ok (.dup, 1) := by decide +kernel
theorem dX7_rod_89 : decode cX7_rod 89 = .ok (.getfield 123, 3) := by decide +kernel
theorem dX7_rod_92 : decode cX7_rod 92 = .ok (.iload_n 2, 1) := by decide +kernel
theorem dX7_rod_93 : decode cX7_rod 93 = .ok (.aload_n 0, 1) := by decide +kernel
theorem dX7_rod_94 : decode cX7_rod 94 = .ok (.getfield 18, 3) := by decide +kernel
theorem dX7_rod_97 : decode cX7_rod 97 = .ok (.getfield 126, 3) := by decide +kernel
theorem dX7_rod_100 : decode cX7_rod 100 = .ok (.imul, 1) := by decide +kernel
theorem dX7_rod_101 : decode cX7_rod 101 = .ok (.iadd, 1) := by decide +kernel
theorem dX7_rod_102 : decode cX7_rod 102 = .ok (.putfield 123, 3) := by decide +kernel
theorem dX7_rod_105 : decode cX7_rod 105 = .ok (.iconst 1, 1) := by decide +kernel
theorem dX7_rod_106 : decode cX7_rod 106 = .ok (.ireturn, 1) := by decide +kernel
theorem dX7_weeks_0 : decode cX7_weeks 0 = .ok (.iload_n 1, 1) := by decide +kernel
theorem dX7_weeks_1 : decode cX7_weeks 1 = .ok (.ifCond .lt 23, 3) := by decide +kernel
theorem dX7_weeks_4 : decode cX7_weeks 4 = .ok (.iload_n 1, 1) := by decide +kernel
theorem dX7_weeks_5 : decode cX7_weeks 5 = .ok (.bipush 60, 2) := by decide +kernel
theorem dX7_weeks_7 : decode cX7_weeks 7 = .ok (.if_icmp .gt 17, 3) := by decide +kernel
theorem dX7_weeks_10 : decode cX7_weeks 10 = .ok (.aload_n 0, 1) := by decide +kernel
theorem dX7_weeks_11 : decode cX7_weeks 11 = .ok (.getfield 9, 3) := by decide +kernel
theorem dX7_weeks_14 : decode cX7_weeks 14 = .ok (.iload_n 1, 1) := by decide +kernel
theorem dX7_weeks_15 : decode cX7_weeks 15 = .ok (.bipush 7, 2) := by decide +kernel
theorem dX7_weeks_17 : decode cX7_weeks 17 = .ok (.imul, 1) := by decide +kernel
theorem dX7_weeks_18 : decode cX7_weeks 18 = .ok (.iadd, 1) := by decide +kernel
theorem dX7_weeks_19 : decode cX7_weeks 19 = .ok (.ldc 129, 2) := by decide +kernel
theorem dX7_weeks_21 : decode cX7_weeks 21 = .ok (.if_icmp .le 5, 3) := by decide +kernel
theorem dX7_weeks_24 : decode cX7_weeks 24 = .ok (.iconst (-1), 1) := by decide +kernel
theorem dX7_weeks_25 : decode cX7_weeks 25 = .ok (.ireturn, 1) := by decide +kernel
theorem dX7_weeks_26 : decode cX7_weeks 26 = .ok (.iconst 0, 1) := by decide +kernel
theorem dX7_weeks_27 : decode cX7_weeks 27 = .ok (.istore_n 2, 1) := by decide +kernel
theorem dX7_weeks_28 : decode cX7_weeks 28 = .ok (.iload_n 2, 1) := by decide +kernel
theorem dX7_weeks_29 : decode cX7_weeks 29 = .ok (.aload_n 0, 1) := by decide +kernel
theorem dX7_weeks_30 : decode cX7_weeks 30 = .ok (.getfield 28, 3) := by decide +kernel
theorem dX7_weeks_33 : decode cX7_weeks 33 = .ok (.getfield 64, 3) := by decide +kernel
theorem dX7_weeks_36 : decode cX7_weeks 36 = .ok (.if_icmp .ge 43, 3) := by decide +kernel
theorem dX7_weeks_39 : decode cX7_weeks 39 = .ok (.aload_n 0, 1) := by decide +kernel
theorem dX7_weeks_40 : decode cX7_weeks 40 = .ok (.getfield 28, 3) := by decide +kernel
theorem dX7_weeks_43 : decode cX7_weeks 43 = .ok (.iload_n 2, 1) := by decide +kernel
theorem dX7_weeks_44 : decode cX7_weeks 44 = .ok (.invokevirtual 105, 3) := by decide +kernel
theorem dX7_weeks_47 : decode cX7_weeks 47 = .ok (.astore_n 3, 1) := by decide +kernel
theorem dX7_weeks_48 : decode cX7_weeks 48 = .ok (.aload_n 3, 1) := by decide +kernel
theorem dX7_weeks_49 : decode cX7_weeks 49 = .ok (.ifnull 24, 3) := by decide +kernel
theorem dX7_weeks_52 : decode cX7_weeks 52 = .ok (.aload_n 3, 1) := by decide +kernel
theorem dX7_weeks_53 : decode cX7_weeks 53 = .ok (.iload_n 1, 1) := by decide +kernel
theorem dX7_weeks_54 : decode cX7_weeks 54 = .ok (.aload_n 0, 1) := by decide +kernel
theorem dX7_weeks_55 : decode cX7_weeks 55 = .ok (.getfield 35, 3) := by decide +kernel
theorem dX7_weeks_58 : decode cX7_weeks 58 = .ok (.iload_n 2, 1) := by decide +kernel
theorem dX7_weeks_59 : decode cX7_weeks 59 = .ok (.invokevirtual 130, 3) := by decide +kernel
theorem dX7_weeks_62 : decode cX7_weeks 62 = .ok (.aload_n 0, 1) := by decide +kernel
theorem dX7_weeks_63 : decode cX7_weeks 63 = .ok (.getfield 18, 3) := by decide +kernel
theorem dX7_weeks_66 : decode cX7_weeks 66 = .ok (.getfield 133, 3) := by decide +kernel
theorem dX7_weeks_69 : decode cX7_weeks 69 = .ok (.imul, 1) := by decide +kernel
theorem dX7_weeks_70 : decode cX7_weeks 70 = .ok (.invokevirtual 136, 3) := by decide +kernel
theorem dX7_weeks_73 : decode cX7_weeks 73 = .ok (.iinc 2 1, 3) := by decide +kernel
theorem dX7_weeks_76 : decode cX7_weeks 76 = .ok (.goto (-48), 3) := by decide +kernel
theorem dX7_weeks_79 : decode cX7_weeks 79 = .ok (.aload_n 0, 1) := by decide +kernel
theorem dX7_weeks_80 : decode cX7_weeks 80 = .ok (.dup, 1) := by decide +kernel
theorem dX7_weeks_81 : decode cX7_weeks 81 = .ok (.getfield 9, 3) := by decide +kernel
theorem dX7_weeks_84 : decode cX7_weeks 84 = .ok (.iload_n 1, 1) := by decide +kernel
theorem dX7_weeks_85 : decode cX7_weeks 85 = .ok (.bipush 7, 2) := by decide +kernel
theorem dX7_weeks_87 : decode cX7_weeks 87 = .ok (.imul, 1) := by decide +kernel
theorem dX7_weeks_88 : decode cX7_weeks 88 = .ok (.iadd, 1) := by decide +kernel
theorem dX7_weeks_89 : decode cX7_weeks 89 = .ok (.putfield 9, 3) := by decide +kernel
theorem dX7_weeks_92 : decode cX7_weeks 92 = .ok (.aload_n 0, 1) := by decide +kernel
theorem dX7_weeks_93 : decode cX7_weeks 93 = .ok (.getfield 9, 3) := by decide +kernel
theorem dX7_weeks_96 : decode cX7_weeks 96 = .ok (.ireturn, 1) := by decide +kernel
theorem dX7_sick_0 : decode cX7_sick 0 = .ok (.aload_n 0, 1) := by decide +kernel
theorem dX7_sick_1 : decode cX7_sick 1 = .ok (.getfield 28, 3) := by decide +kernel
theorem dX7_sick_4 : decode cX7_sick 4 = .ok (.iload_n 1, 1) := by decide +kernel
theorem dX7_sick_5 : decode cX7_sick 5 = .ok (.invokevirtual 79, 3) := by decide +kernel
theorem dX7_sick_8 : decode cX7_sick 8 = .ok (.astore_n 3, 1) := by decide +kernel
theorem dX7_sick_9 : decode cX7_sick 9 = .ok (.aload_n 3, 1) := by decide +kernel
theorem dX7_sick_10 : decode cX7_sick 10 = .ok (.ifnull 13, 3) := by decide +kernel
theorem dX7_sick_13 : decode cX7_sick 13 = .ok (.iload_n 2, 1) := by decide +kernel
theorem dX7_sick_14 : decode cX7_sick 14 = .ok (.ifCond .lt 9, 3) := by decide +kernel
theorem dX7_sick_17 : decode cX7_sick 17 = .ok (.iload_n 2, 1) := by decide +kernel
theorem dX7_sick_18 : decode cX7_sick 18 = .ok (.bipush 60, 2) := by decide +kernel
theorem dX7_sick_20 : decode cX7_sick 20 = .ok (.if_icmp .le 5, 3) := by decide +kernel
theorem dX7_sick_23 : decode cX7_sick 23 = .ok (.iconst 0, 1) := by decide +kernel
theorem dX7_sick_24 : decode cX7_sick 24 = .ok (.ireturn, 1) := by decide +kernel
theorem dX7_sick_25 : decode cX7_sick 25 = .ok (.aload_n 3, 1) := by decide +kernel
theorem dX7_sick_26 : decode cX7_sick 26 = .ok (.iload_n 2, 1) := by decide +kernel
theorem dX7_sick_27 : decode cX7_sick 27 = .ok (.putfield 139, 3) := by decide +kernel
theorem dX7_sick_30 : decode cX7_sick 30 = .ok (.iconst 1, 1) := by decide +kernel
theorem dX7_sick_31 : decode cX7_sick 31 = .ok (.ireturn, 1) := by decide +kernel
theorem dX7_works_0 : decode cX7_works 0 = .ok (.aload_n 0, 1) := by decide +kernel
theorem dX7_works_1 : decode cX7_works 1 = .ok (.getfield 28, 3) := by decide +kernel
theorem dX7_works_4 : decode cX7_works 4 = .ok (.iload_n 1, 1) := by decide +kernel
theorem dX7_works_5 : decode cX7_works 5 = .ok (.invokevirtual 105, 3) := by decide +kernel
theorem dX7_works_8 : decode cX7_works 8 = .ok (.astore 4, 2) := by decide +kernel
theorem dX7_works_10 : decode cX7_works 10 = .ok (.aload 4, 2) := by decide +kernel
theorem dX7_works_12 : decode cX7_works 12 = .ok (.ifnull 17, 3) := by decide +kernel
theorem dX7_works_15 : decode cX7_works 15 = .ok (.iload_n 2, 1) := by decide +kernel
theorem dX7_works_16 : decode cX7_works 16 = .ok (.iconst 1, 1) := by decide +kernel
theorem dX7_works_17 : decode cX7_works 17 = .ok (.if_icmp .lt 12, 3) := by decide +kernel
theorem dX7_works_20 : decode cX7_works 20 = .ok (.iload_n 2, 1) := by decide +kernel
theorem dX7_works_21 : decode cX7_works 21 = .ok (.aload 4, 2) := by decide +kernel
theorem dX7_works_23 : decode cX7_works 23 = .ok (.getfield 142, 3) := by decide +kernel
theorem dX7_works_26 : decode cX7_works 26 = .ok (.if_icmp .le 5, 3) := by decide +kernel
theorem dX7_works_29 : decode cX7_works 29 = .ok (.iconst (-1), 1) := by decide +kernel
theorem dX7_works_30 : decode cX7_works 30 = .ok (.ireturn, 1) := by decide +kernel
theorem dX7_works_31 : decode cX7_works 31 = .ok (.aload 4, 2) := by decide +kernel
theorem dX7_works_33 : decode cX7_works 33 = .ok (.dup, 1) := by decide +kernel
theorem dX7_works_34 : decode cX7_works 34 = .ok (.getfield 142, 3) := by decide +kernel
theorem dX7_works_37 : decode cX7_works 37 = .ok (.iload_n 2, 1) := by decide +kernel
theorem dX7_works_38 : decode cX7_works 38 = .ok (.isub, 1) := by decide +kernel
theorem dX7_works_39 : decode cX7_works 39 = .ok (.putfield 142, 3) := by decide +kernel
theorem dX7_works_42 : decode cX7_works 42 = .ok (.iload_n 3, 1) := by decide +kernel
theorem dX7_works_43 : decode cX7_works 43 = .ok (.ifCond .eq 28, 3) := by decide +kernel
theorem dX7_works_46 : decode cX7_works 46 = .ok (.aload 4, 2) := by decide +kernel
theorem dX7_works_48 : decode cX7_works 48 = .ok (.dup, 1) := by decide +kernel
theorem dX7_works_49 : decode cX7_works 49 = .ok (.getfield 145, 3) := by decide +kernel
theorem dX7_works_52 : decode cX7_works 52 = .ok (.iload_n 2, 1) := by decide +kernel
theorem dX7_works_53 : decode cX7_works 53 = .ok (.iadd, 1) := by decide +kernel
theorem dX7_works_54 : decode cX7_works 54 = .ok (.putfield 145, 3) := by decide +kernel
theorem dX7_works_57 : decode cX7_works 57 = .ok (.aload 4, 2) := by decide +kernel
theorem dX7_works_59 : decode cX7_works 59 = .ok (.dup, 1) := by decide +kernel
theorem dX7_works_60 : decode cX7_works 60 = .ok (.getfield 123, 3) := by decide +kernel
theorem dX7_works_63 : decode cX7_works 63 = .ok (.iload_n 2, 1) := by decide +kernel
theorem dX7_works_64 : decode cX7_works 64 = .ok (.iadd, 1) := by decide +kernel
theorem dX7_works_65 : decode cX7_works 65 = .ok (.putfield 123, 3) := by decide +kernel
theorem dX7_works_68 : decode cX7_works 68 = .ok (.goto 14, 3) := by decide +kernel
theorem dX7_works_71 : decode cX7_works 71 = .ok (.aload 4, 2) := by decide +kernel
theorem dX7_works_73 : decode cX7_works 73 = .ok (.dup, 1) := by decide +kernel
theorem dX7_works_74 : decode cX7_works 74 = .ok (.getfield 148, 3) := by decide +kernel
theorem dX7_works_77 : decode cX7_works 77 = .ok (.iload_n 2, 1) := by decide +kernel
theorem dX7_works_78 : decode cX7_works 78 = .ok (.iadd, 1) := by decide +kernel
theorem dX7_works_79 : decode cX7_works 79 = .ok (.putfield 148, 3) := by decide +kernel
theorem dX7_works_82 : decode cX7_works 82 = .ok (.aload 4, 2) := by decide +kernel
theorem dX7_works_84 : decode cX7_works 84 = .ok (.getfield 142, 3) := by decide +kernel
theorem dX7_works_87 : decode cX7_works 87 = .ok (.ireturn, 1) := by decide +kernel
theorem dX7_pay_0 : decode cX7_pay 0 = .ok (.aload_n 0, 1) := by decide +kernel
theorem dX7_pay_1 : decode cX7_pay 1 = .ok (.getfield 28, 3) := by decide +kernel
theorem dX7_pay_4 : decode cX7_pay 4 = .ok (.iload_n 1, 1) := by decide +kernel
theorem dX7_pay_5 : decode cX7_pay 5 = .ok (.invokevirtual 105, 3) := by decide +kernel
theorem dX7_pay_8 : decode cX7_pay 8 = .ok (.astore_n 3, 1) := by decide +kernel
theorem dX7_pay_9 : decode cX7_pay 9 = .ok (.aload_n 3, 1) := by decide +kernel
theorem dX7_pay_10 : decode cX7_pay 10 = .ok (.ifnull 16, 3) := by decide +kernel
theorem dX7_pay_13 : decode cX7_pay 13 = .ok (.iload_n 2, 1) := by decide +kernel
theorem dX7_pay_14 : decode cX7_pay 14 = .ok (.iconst 1, 1) := by decide +kernel
theorem dX7_pay_15 : decode cX7_pay 15 = .ok (.if_icmp .lt 11, 3) := by decide +kernel
theorem dX7_pay_18 : decode cX7_pay 18 = .ok (.iload_n 2, 1) := by decide +kernel
theorem dX7_pay_19 : decode cX7_pay 19 = .ok (.aload_n 3, 1) := by decide +kernel
theorem dX7_pay_20 : decode cX7_pay 20 = .ok (.getfield 123, 3) := by decide +kernel
theorem dX7_pay_23 : decode cX7_pay 23 = .ok (.if_icmp .le 5, 3) := by decide +kernel
theorem dX7_pay_26 : decode cX7_pay 26 = .ok (.iconst (-1), 1) := by decide +kernel
theorem dX7_pay_27 : decode cX7_pay 27 = .ok (.ireturn, 1) := by decide +kernel
theorem dX7_pay_28 : decode cX7_pay 28 = .ok (.aload_n 3, 1) := by decide +kernel
theorem dX7_pay_29 : decode cX7_pay 29 = .ok (.dup, 1) := by decide +kernel
theorem dX7_pay_30 : decode cX7_pay 30 = .ok (.getfield 123, 3) := by decide +kernel
theorem dX7_pay_33 : decode cX7_pay 33 = .ok (.iload_n 2, 1) := by decide +kernel
theorem dX7_pay_34 : decode cX7_pay 34 = .ok (.isub, 1) := by decide +kernel
theorem dX7_pay_35 : decode cX7_pay 35 = .ok (.putfield 123, 3) := by decide +kernel
theorem dX7_pay_38 : decode cX7_pay 38 = .ok (.aload_n 0, 1) := by decide +kernel
theorem dX7_pay_39 : decode cX7_pay 39 = .ok (.dup, 1) := by decide +kernel
theorem dX7_pay_40 : decode cX7_pay 40 = .ok (.getfield 57, 3) := by decide +kernel
theorem dX7_pay_43 : decode cX7_pay 43 = .ok (.iload_n 2, 1) := by decide +kernel
theorem dX7_pay_44 : decode cX7_pay 44 = .ok (.iadd, 1) := by decide +kernel
theorem dX7_pay_45 : decode cX7_pay 45 = .ok (.putfield 57, 3) := by decide +kernel
theorem dX7_pay_48 : decode cX7_pay 48 = .ok (.aload_n 3, 1) := by decide +kernel
theorem dX7_pay_49 : decode cX7_pay 49 = .ok (.getfield 123, 3) := by decide +kernel
theorem dX7_pay_52 : decode cX7_pay 52 = .ok (.ireturn, 1) := by decide +kernel
theorem dX7_suit_0 : decode cX7_suit 0 = .ok (.aload_n 0, 1) := by decide +kernel
theorem dX7_suit_1 : decode cX7_suit 1 = .ok (.getfield 28, 3) := by decide +kernel
theorem dX7_suit_4 : decode cX7_suit 4 = .ok (.iload_n 1, 1) := by decide +kernel
theorem dX7_suit_5 : decode cX7_suit 5 = .ok (.invokevirtual 79, 3) := by decide +kernel
theorem dX7_suit_8 : decode cX7_suit 8 = .ok (.ifnull 25, 3) := by decide +kernel
theorem dX7_suit_11 : decode cX7_suit 11 = .ok (.aload_n 0, 1) := by decide +kernel
theorem dX7_suit_12 : decode cX7_suit 12 = .ok (.getfield 28, 3) := by decide +kernel
theorem dX7_suit_15 : decode cX7_suit 15 = .ok (.iload_n 2, 1) := by decide +kernel
theorem dX7_suit_16 : decode cX7_suit 16 = .ok (.invokevirtual 79, 3) := by decide +kernel
theorem dX7_suit_19 : decode cX7_suit 19 = .ok (.ifnull 14, 3) := by decide +kernel
theorem dX7_suit_22 : decode cX7_suit 22 = .ok (.aload_n 0, 1) := by decide +kernel
theorem dX7_suit_23 : decode cX7_suit 23 = .ok (.getfield 28, 3) := by decide +kernel
theorem dX7_suit_26 : decode cX7_suit 26 = .ok (.iload_n 3, 1) := by decide +kernel
theorem dX7_suit_27 : decode cX7_suit 27 = .ok (.invokevirtual 79, 3) := by decide +kernel
theorem dX7_suit_30 : decode cX7_suit 30 = .ok (.ifnonnull 5, 3) := by decide +kernel
theorem dX7_suit_33 : decode cX7_suit 33 = .ok (.iconst (-1), 1) := by decide +kernel
theorem dX7_suit_34 : decode cX7_suit 34 = .ok (.ireturn, 1) := by decide +kernel
theorem dX7_suit_35 : decode cX7_suit 35 = .ok (.iload_n 1, 1) := by decide +kernel
theorem dX7_suit_36 : decode cX7_suit 36 = .ok (.iload_n 2, 1) := by decide +kernel
theorem dX7_suit_37 : decode cX7_suit 37 = .ok (.if_icmp .eq 22, 3) := by decide +kernel
theorem dX7_suit_40 : decode cX7_suit 40 = .ok (.iload_n 1, 1) := by decide +kernel
theorem dX7_suit_41 : decode cX7_suit 41 = .ok (.iload_n 3, 1) := by decide +kernel
theorem dX7_suit_42 : decode cX7_suit 42 = .ok (.if_icmp .eq 17, 3) := by decide +kernel
theorem dX7_suit_45 : decode cX7_suit 45 = .ok (.iload_n 2, 1) := by decide +kernel
theorem dX7_suit_46 : decode cX7_suit 46 = .ok (.iload_n 3, 1) := by decide +kernel
theorem dX7_suit_47 : decode cX7_suit 47 = .ok (.if_icmp .eq 12, 3) := by decide +kernel
theorem dX7_suit_50 : decode cX7_suit 50 = .ok (.aload_n 0, 1) := by decide +kernel
theorem dX7_suit_51 : decode cX7_suit 51 = .ok (.getfield 54, 3) := by decide +kernel
theorem dX7_suit_54 : decode cX7_suit 54 = .ok (.bipush 40, 2) := by decide +kernel
theorem dX7_suit_56 : decode cX7_suit 56 = .ok (.if_icmp .lt 5, 3) := by decide +kernel
theorem dX7_suit_59 : decode cX7_suit 59 = .ok (.iconst (-1), 1) := by decide +kernel
theorem dX7_suit_60 : decode cX7_suit 60 = .ok (.ireturn, 1) := by decide +kernel
theorem dX7_suit_61 : decode cX7_suit 61 = .ok (.aload_n 0, 1) := by decide +kernel
theorem dX7_suit_62 : decode cX7_suit 62 = .ok (.getfield 54, 3) := by decide +kernel
theorem dX7_suit_65 : decode cX7_suit 65 = .ok (.istore 4, 2) := by decide +kernel
theorem dX7_suit_67 : decode cX7_suit 67 = .ok (.aload_n 0, 1) := by decide +kernel
theorem dX7_suit_68 : decode cX7_suit 68 = .ok (.getfield 50, 3) := by decide +kernel
theorem dX7_suit_71 : decode cX7_suit 71 = .ok (.iload 4, 2) := by decide +kernel
theorem dX7_suit_73 : decode cX7_suit 73 = .ok (.new 48, 3) := by decide +kernel
theorem dX7_suit_76 : decode cX7_suit 76 = .ok (.dup, 1) := by decide +kernel
theorem dX7_suit_77 : decode cX7_suit 77 = .ok (.iload_n 1, 1) := by decide +kernel
theorem dX7_suit_78 : decode cX7_suit 78 = .ok (.iload_n 2, 1) := by decide +kernel
theorem dX7_suit_79 : decode cX7_suit 79 = .ok (.iload_n 3, 1) := by decide +kernel
theorem dX7_suit_80 : decode cX7_suit 80 = .ok (.invokespecial 151, 3) := by decide +kernel
theorem dX7_suit_83 : decode cX7_suit 83 = .ok (.aastore, 1) := by decide +kernel
theorem dX7_suit_84 : decode cX7_suit 84 = .ok (.aload_n 0, 1) := by decide +kernel
theorem dX7_suit_85 : decode cX7_suit 85 = .ok (.dup, 1) := by decide +kernel
theorem dX7_suit_86 : decode cX7_suit 86 = .ok (.getfield 54, 3) := by decide +kernel
theorem dX7_suit_89 : decode cX7_suit 89 = .ok (.iconst 1, 1) := by decide +kernel
theorem dX7_suit_90 : decode cX7_suit 90 = .ok (.iadd, 1) := by decide +kernel
theorem dX7_suit_91 : decode cX7_suit 91 = .ok (.putfield 54, 3) := by decide +kernel
theorem dX7_suit_94 : decode cX7_suit 94 = .ok (.iload 4, 2) := by decide +kernel
theorem dX7_suit_96 : decode cX7_suit 96 = .ok (.ireturn, 1) := by decide +kernel
theorem dX7_appear_0 : decode cX7_appear 0 = .ok (.aload_n 0, 1) := by decide +kernel
theorem dX7_appear_1 : decode cX7_appear 1 = .ok (.iload_n 1, 1) := by decide +kernel
theorem dX7_appear_2 : decode cX7_appear 2 = .ok (.invokevirtual 154, 3) := by decide +kernel
theorem dX7_appear_5 : decode cX7_appear 5 = .ok (.astore_n 3, 1) := by decide +kernel
theorem dX7_appear_6 : decode cX7_appear 6 = .ok (.aload_n 3, 1) := by decide +kernel
theorem dX7_appear_7 : decode cX7_appear 7 = .ok (.ifnull 19, 3) := by decide +kernel
theorem dX7_appear_10 : decode cX7_appear 10 = .ok (.aload_n 3, 1) := by decide +kernel
theorem dX7_appear_11 : decode cX7_appear 11 = .ok (.getfield 158, 3) := by decide +kernel
theorem dX7_appear_14 : decode cX7_appear 14 = .ok (.ifCond .ne 12, 3) := by decide +kernel
theorem dX7_appear_17 : decode cX7_appear 17 = .ok (.iload_n 2, 1) := by decide +kernel
theorem dX7_appear_18 : decode cX7_appear 18 = .ok (.ifCond .lt 8, 3) := by decide +kernel
theorem dX7_appear_21 : decode cX7_appear 21 = .ok (.iload_n 2, 1) := by decide +kernel
theorem dX7_appear_22 : decode cX7_appear 22 = .ok (.iconst 3, 1) := by decide +kernel
theorem dX7_appear_23 : decode cX7_appear 23 = .ok (.if_icmp .le 5, 3) := by decide +kernel
theorem dX7_appear_26 : decode cX7_appear 26 = .ok (.iconst 0, 1) := by decide +kernel
theorem dX7_appear_27 : decode cX7_appear 27 = .ok (.ireturn, 1) := by decide +kernel
theorem dX7_appear_28 : decode cX7_appear 28 = .ok (.aload_n 3, 1) := by decide +kernel
theorem dX7_appear_29 : decode cX7_appear 29 = .ok (.iload_n 2, 1) := by decide +kernel
theorem dX7_appear_30 : decode cX7_appear 30 = .ok (.putfield 161, 3) := by decide +kernel
theorem dX7_appear_33 : decode cX7_appear 33 = .ok (.iconst 1, 1) := by decide +kernel
theorem dX7_appear_34 : decode cX7_appear 34 = .ok (.ireturn, 1) := by decide +kernel
theorem dX7_court_0 : decode cX7_court 0 = .ok (.iconst 0, 1) := by decide +kernel
theorem dX7_court_1 : decode cX7_court 1 = .ok (.istore_n 1, 1) := by decide +kernel
theorem dX7_court_2 : decode cX7_court 2 = .ok (.iconst 0, 1) := by decide +kernel
theorem dX7_court_3 : decode cX7_court 3 = .ok (.istore_n 2, 1) := by decide +kernel
theorem dX7_court_4 : decode cX7_court 4 = .ok (.iload_n 2, 1) := by decide +kernel
theorem dX7_court_5 : decode cX7_court 5 = .ok (.aload_n 0, 1) := by decide +kernel
theorem dX7_court_6 : decode cX7_court 6 = .ok (.getfield 54, 3) := by decide +kernel
theorem dX7_court_9 : decode cX7_court 9 = .ok (.if_icmp .ge 51, 3) := by decide +kernel
theorem dX7_court_12 : decode cX7_court 12 = .ok (.aload_n 0, 1) := by decide +kernel
theorem dX7_court_13 : decode cX7_court 13 = .ok (.iload_n 2, 1) := by decide +kernel
theorem dX7_court_14 : decode cX7_court 14 = .ok (.invokevirtual 154, 3) := by decide +kernel
theorem dX7_court_17 : decode cX7_court 17 = .ok (.astore_n 3, 1) := by decide +kernel
theorem dX7_court_18 : decode cX7_court 18 = .ok (.aload_n 3, 1) := by decide +kernel
theorem dX7_court_19 : decode cX7_court 19 = .ok (.ifnull 35, 3) := by decide +kernel
theorem dX7_court_22 : decode cX7_court 22 = .ok (.aload_n 3, 1) := by decide +kernel
theorem dX7_court_23 : decode cX7_court 23 = .ok (.getfield 158, 3) := by decide +kernel
theorem dX7_court_26 : decode cX7_court 26 = .ok (.ifCond .ne 28, 3) := by decide +kernel
theorem dX7_court_29 : decode cX7_court 29 = .ok (.aload_n 0, 1) := by decide +kernel
theorem dX7_court_30 : decode cX7_court 30 = .ok (.aload_n 3, 1) := by decide +kernel
theorem dX7_court_31 : decode cX7_court 31 = .ok (.invokevirtual 164, 3) := by decide +kernel
theorem dX7_court_34 : decode cX7_court 34 = .ok (.aload_n 3, 1) := by decide +kernel
theorem dX7_court_35 : decode cX7_court 35 = .ok (.iconst 0, 1) := by decide +kernel
theorem dX7_court_36 : decode cX7_court 36 = .ok (.putfield 161, 3) := by decide +kernel
theorem dX7_court_39 : decode cX7_court 39 = .ok (.iload_n 1, 1) := by decide +kernel
theorem dX7_court_40 : decode cX7_court 40 = .ok (.aload_n 3, 1) := by decide +kernel
theorem dX7_court_41 : decode cX7_court 41 = .ok (.getfield 158, 3) := by decide +kernel
theorem dX7_court_44 : decode cX7_court 44 = .ok (.ifCond .ne 7, 3) := by decide +kernel
theorem dX7_court_47 : decode cX7_court 47 = .ok (.iconst 0, 1) := by decide +kernel
theorem dX7_court_48 : decode cX7_court 48 = .ok (.goto 4, 3) := by decide +kernel
theorem dX7_court_51 : decode cX7_court 51 = .ok (.iconst 1, 1) := by decide +kernel
theorem dX7_court_52 : decode cX7_court 52 = .ok (.iadd, 1) := by decide +kernel
theorem dX7_court_53 : decode cX7_court 53 = .ok (.istore_n 1, 1) := by decide +kernel
theorem dX7_court_54 : decode cX7_court 54 = .ok (.iinc 2 1, 3) := by decide +kernel
theorem dX7_court_57 : decode cX7_court 57 = .ok (.goto (-53), 3) := by decide +kernel
theorem dX7_court_60 : decode cX7_court 60 = .ok (.iload_n 1, 1) := by decide +kernel
theorem dX7_court_61 : decode cX7_court 61 = .ok (.ireturn, 1) := by decide +kernel
theorem dX7_holder_0 : decode cX7_holder 0 = .ok (.aload_n 0, 1) := by decide +kernel
theorem dX7_holder_1 : decode cX7_holder 1 = .ok (.iload_n 1, 1) := by decide +kernel
theorem dX7_holder_2 : decode cX7_holder 2 = .ok (.iload_n 2, 1) := by decide +kernel
theorem dX7_holder_3 : decode cX7_holder 3 = .ok (.iload_n 3, 1) := by decide +kernel
theorem dX7_holder_4 : decode cX7_holder 4 = .ok (.iconst 0, 1) := by decide +kernel
theorem dX7_holder_5 : decode cX7_holder 5 = .ok (.iconst 0, 1) := by decide +kernel
theorem dX7_holder_6 : decode cX7_holder 6 = .ok (.invokevirtual 168, 3) := by decide +kernel
theorem dX7_holder_9 : decode cX7_holder 9 = .ok (.ireturn, 1) := by decide +kernel
theorem dX7_right_0 : decode cX7_right 0 = .ok (.iload_n 1, 1) := by decide +kernel
theorem dX7_right_1 : decode cX7_right 1 = .ok (.invokestatic 108, 3) := by decide +kernel
theorem dX7_right_4 : decode cX7_right 4 = .ok (.ifCond .eq 30, 3) := by decide +kernel
theorem dX7_right_7 : decode cX7_right 7 = .ok (.iload_n 2, 1) := by decide +kernel
theorem dX7_right_8 : decode cX7_right 8 = .ok (.ifCond .lt 26, 3) := by decide +kernel
theorem dX7_right_11 : decode cX7_right 11 = .ok (.iload_n 2, 1) := by decide +kernel
theorem dX7_right_12 : decode cX7_right 12 = .ok (.bipush 12, 2) := by decide +kernel
theorem dX7_right_14 : decode cX7_right 14 = .ok (.if_icmp .ge 20, 3) := by decide +kernel
theorem dX7_right_17 : decode cX7_right 17 = .ok (.iload_n 3, 1) := by decide +kernel
theorem dX7_right_18 : decode cX7_right 18 = .ok (.ifCond .lt 16, 3) := by decide +kernel
theorem dX7_right_21 : decode cX7_right 21 = .ok (.iload_n 3, 1) := by decide +kernel
theorem dX7_right_22 : decode cX7_right 22 = .ok (.aload_n 0, 1) := by decide +kernel
theorem dX7_right_23 : decode cX7_right 23 = .ok (.getfield 9, 3) := by decide +kernel
theorem dX7_right_26 : decode cX7_right 26 = .ok (.if_icmp .gt 8, 3) := by decide +kernel
theorem dX7_right_29 : decode cX7_right 29 = .ok (.iload 4, 2) := by decide +kernel
theorem dX7_right_31 : decode cX7_right 31 = .ok (.ifCond .ge 6, 3) := by decide +kernel
theorem dX7_right_34 : decode cX7_right 34 = .ok (.bipush (-2), 2) := by decide +kernel
theorem dX7_right_36 : decode cX7_right 36 = .ok (.ireturn, 1) := by decide +kernel
theorem dX7_right_37 : decode cX7_right 37 = .ok (.aload_n 0, 1) := by decide +kernel
theorem dX7_right_38 : decode cX7_right 38 = .ok (.getfield 35, 3) := by decide +kernel
theorem dX7_right_41 : decode cX7_right 41 = .ok (.iload_n 1, 1) := by decide +kernel
theorem dX7_right_42 : decode cX7_right 42 = .ok (.bipush 12, 2) := by decide +kernel
theorem dX7_right_44 : decode cX7_right 44 = .ok (.imul, 1) := by decide +kernel
theorem dX7_right_45 : decode cX7_right 45 = .ok (.iload_n 2, 1) := by decide +kernel
theorem dX7_right_46 : decode cX7_right 46 = .ok (.iadd, 1) := by decide +kernel
theorem dX7_right_47 : decode cX7_right 47 = .ok (.iload_n 3, 1) := by decide +kernel
theorem dX7_right_48 : decode cX7_right 48 = .ok (.invokevirtual 172, 3) := by decide +kernel
theorem dX7_right_51 : decode cX7_right 51 = .ok (.iload 4, 2) := by decide +kernel
theorem dX7_right_53 : decode cX7_right 53 = .ok (.invokestatic 176, 3) := by decide +kernel
theorem dX7_right_56 : decode cX7_right 56 = .ok (.astore 6, 2) := by decide +kernel
theorem dX7_right_58 : decode cX7_right 58 = .ok (.aload 6, 2) := by decide +kernel
theorem dX7_right_60 : decode cX7_right 60 = .ok (.ifnonnull 6, 3) := by decide +kernel
theorem dX7_right_63 : decode cX7_right 63 = .ok (.bipush (-2), 2) := by decide +kernel
theorem dX7_right_65 : decode cX7_right 65 = .ok (.ireturn, 1) := by decide +kernel
theorem dX7_right_66 : decode cX7_right 66 = .ok (.iload 5, 2) := by decide +kernel
theorem dX7_right_68 : decode cX7_right 68 = .ok (.tableswitch 46 0 2 #[28, 34, 40], 28) := by decide +kernel
theorem dX7_right_96 : decode cX7_right 96 = .ok (.aload 6, 2) := by decide +kernel
theorem dX7_right_98 : decode cX7_right 98 = .ok (.getfield 180, 3) := by decide +kernel
theorem dX7_right_101 : decode cX7_right 101 = .ok (.ireturn, 1) := by decide +kernel
theorem dX7_right_102 : decode cX7_right 102 = .ok (.aload 6, 2) := by decide +kernel
theorem dX7_right_104 : decode cX7_right 104 = .ok (.getfield 185, 3) := by decide +kernel
theorem dX7_right_107 : decode cX7_right 107 = .ok (.ireturn, 1) := by decide +kernel
theorem dX7_right_108 : decode cX7_right 108 = .ok (.aload 6, 2) := by decide +kernel
theorem dX7_right_110 : decode cX7_right 110 = .ok (.getfield 188, 3) := by decide +kernel
theorem dX7_right_113 : decode cX7_right 113 = .ok (.ireturn, 1) := by decide +kernel
theorem dX7_right_114 : decode cX7_right 114 = .ok (.bipush (-2), 2) := by decide +kernel
theorem dX7_right_116 : decode cX7_right 116 = .ok (.ireturn, 1) := by decide +kernel
theorem dX7_heir_0 : decode cX7_heir 0 = .ok (.aload_n 0, 1) := by decide +kernel
theorem dX7_heir_1 : decode cX7_heir 1 = .ok (.getfield 28, 3) := by decide +kernel
theorem dX7_heir_4 : decode cX7_heir 4 = .ok (.iload_n 1, 1) := by decide +kernel
theorem dX7_heir_5 : decode cX7_heir 5 = .ok (.invokevirtual 105, 3) := by decide +kernel
theorem dX7_heir_8 : decode cX7_heir 8 = .ok (.ifnull 13, 3) := by decide +kernel
theorem dX7_heir_11 : decode cX7_heir 11 = .ok (.iload_n 2, 1) := by decide +kernel
theorem dX7_heir_12 : decode cX7_heir 12 = .ok (.ifCond .lt 9, 3) := by decide +kernel
theorem dX7_heir_15 : decode cX7_heir 15 = .ok (.iload_n 2, 1) := by decide +kernel
theorem dX7_heir_16 : decode cX7_heir 16 = .ok (.bipush 40, 2) := by decide +kernel
theorem dX7_heir_18 : decode cX7_heir 18 = .ok (.if_icmp .lt 5, 3) := by decide +kernel
theorem dX7_heir_21 : decode cX7_heir 21 = .ok (.iconst (-1), 1) := by decide +kernel
theorem dX7_heir_22 : decode cX7_heir 22 = .ok (.ireturn, 1) := by decide +kernel
theorem dX7_heir_23 : decode cX7_heir 23 = .ok (.aload_n 0, 1) := by decide +kernel
theorem dX7_heir_24 : decode cX7_heir 24 = .ok (.getfield 44, 3) := by decide +kernel
theorem dX7_heir_27 : decode cX7_heir 27 = .ok (.iload_n 1, 1) := by decide +kernel
theorem dX7_heir_28 : decode cX7_heir 28 = .ok (.aload_n 0, 1) := by decide +kernel
theorem dX7_heir_29 : decode cX7_heir 29 = .ok (.getfield 18, 3) := by decide +kernel
theorem dX7_heir_32 : decode cX7_heir 32 = .ok (.getfield 191, 3) := by decide +kernel
theorem dX7_heir_35 : decode cX7_heir 35 = .ok (.invokevirtual 194, 3) := by decide +kernel
theorem dX7_heir_38 : decode cX7_heir 38 = .ok (.iload_n 2, 1) := by decide +kernel
theorem dX7_heir_39 : decode cX7_heir 39 = .ok (.aload_n 0, 1) := by decide +kernel
theorem dX7_heir_40 : decode cX7_heir 40 = .ok (.getfield 44, 3) := by decide +kernel
theorem dX7_heir_43 : decode cX7_heir 43 = .ok (.getfield 197, 3) := by decide +kernel
theorem dX7_heir_46 : decode cX7_heir 46 = .ok (.if_icmp .ge 15, 3) := by decide +kernel
theorem dX7_heir_49 : decode cX7_heir 49 = .ok (.aload_n 0, 1) := by decide +kernel
theorem dX7_heir_50 : decode cX7_heir 50 = .ok (.getfield 44, 3) := by decide +kernel
theorem dX7_heir_53 : decode cX7_heir 53 = .ok (.getfield 200, 3) := by decide +kernel
theorem dX7_heir_56 : decode cX7_heir 56 = .ok (.iload_n 2, 1) := by decide +kernel
theorem dX7_heir_57 : decode cX7_heir 57 = .ok (.iaload, 1) := by decide +kernel
theorem dX7_heir_58 : decode cX7_heir 58 = .ok (.goto 4, 3) := by decide +kernel
theorem dX7_heir_61 : decode cX7_heir 61 = .ok (.iconst (-1), 1) := by decide +kernel
theorem dX7_heir_62 : decode cX7_heir 62 = .ok (.ireturn, 1) := by decide +kernel
theorem dX7_told_0 : decode cX7_told 0 = .ok (.aload_n 0, 1) := by decide +kernel
theorem dX7_told_1 : decode cX7_told 1 = .ok (.getfield 28, 3) := by decide +kernel
theorem dX7_told_4 : decode cX7_told 4 = .ok (.iload_n 1, 1) := by decide +kernel
theorem dX7_told_5 : decode cX7_told 5 = .ok (.invokevirtual 105, 3) := by decide +kernel
theorem dX7_told_8 : decode cX7_told 8 = .ok (.astore_n 3, 1) := by decide +kernel
theorem dX7_told_9 : decode cX7_told 9 = .ok (.aload_n 3, 1) := by decide +kernel
theorem dX7_told_10 : decode cX7_told 10 = .ok (.ifnonnull 6, 3) := by decide +kernel
theorem dX7_told_13 : decode cX7_told 13 = .ok (.bipush (-2), 2) := by decide +kernel
theorem dX7_told_15 : decode cX7_told 15 = .ok (.ireturn, 1) := by decide +kernel
theorem dX7_told_16 : decode cX7_told 16 = .ok (.iload_n 2, 1) := by decide +kernel
theorem dX7_told_17 : decode cX7_told 17 = .ok (.tableswitch 157 0 13 #[71, 76, 81, 86, 99, 104, 109, 118, 127, 132, 137, 142, 147, 152], 71) := by decide +kernel
theorem dX7_told_88 : decode cX7_told 88 = .ok (.aload_n 3, 1) := by decide +kernel
theorem dX7_told_89 : decode cX7_told 89 = .ok (.getfield 83, 3) := by decide +kernel
theorem dX7_told_92 : decode cX7_told 92 = .ok (.ireturn, 1) := by decide +kernel
theorem dX7_told_93 : decode cX7_told 93 = .ok (.aload_n 3, 1) := by decide +kernel
theorem dX7_told_94 : decode cX7_told 94 = .ok (.getfield 203, 3) := by decide +kernel
theorem dX7_told_97 : decode cX7_told 97 = .ok (.ireturn, 1) := by decide +kernel
theorem dX7_told_98 : decode cX7_told 98 = .ok (.aload_n 3, 1) := by decide +kernel
theorem dX7_told_99 : decode cX7_told 99 = .ok (.getfield 206, 3) := by decide +kernel
theorem dX7_told_102 : decode cX7_told 102 = .ok (.ireturn, 1) := by decide +kernel
theorem dX7_told_103 : decode cX7_told 103 = .ok (.aload_n 3, 1) := by decide +kernel
theorem dX7_told_104 : decode cX7_told 104 = .ok (.getfield 97, 3) := by decide +kernel
theorem dX7_told_107 : decode cX7_told 107 = .ok (.ifCond .eq 7, 3) := by decide +kernel
theorem dX7_told_110 : decode cX7_told 110 = .ok (.iconst 1, 1) := by decide +kernel
theorem dX7_told_111 : decode cX7_told 111 = .ok (.goto 4, 3) := by decide +kernel
theorem dX7_told_114 : decode cX7_told 114 = .ok (.iconst 0, 1) := by decide +kernel
theorem dX7_told_115 : decode cX7_told 115 = .ok (.ireturn, 1) := by decide +kernel
theorem dX7_told_116 : decode cX7_told 116 = .ok (.aload_n 3, 1) := by decide +kernel
theorem dX7_told_117 : decode cX7_told 117 = .ok (.getfield 86, 3) := by decide +kernel
theorem dX7_told_120 : decode cX7_told 120 = .ok (.ireturn, 1) := by decide +kernel
theorem dX7_told_121 : decode cX7_told 121 = .ok (.aload_n 3, 1) := by decide +kernel
theorem dX7_told_122 : decode cX7_told 122 = .ok (.getfield 209, 3) := by decide +kernel
theorem dX7_told_125 : decode cX7_told 125 = .ok (.ireturn, 1) := by decide +kernel
theorem dX7_told_126 : decode cX7_told 126 = .ok (.aload_n 0, 1) := by decide +kernel
theorem dX7_told_127 : decode cX7_told 127 = .ok (.getfield 35, 3) := by decide +kernel
theorem dX7_told_130 : decode cX7_told 130 = .ok (.iload_n 1, 1) := by decide +kernel
theorem dX7_told_131 : decode cX7_told 131 = .ok (.invokevirtual 130, 3) := by decide +kernel
theorem dX7_told_134 : decode cX7_told 134 = .ok (.ireturn, 1) := by decide +kernel
theorem dX7_told_135 : decode cX7_told 135 = .ok (.aload_n 0, 1) := by decide +kernel
theorem dX7_told_136 : decode cX7_told 136 = .ok (.getfield 35, 3) := by decide +kernel
theorem dX7_told_139 : decode cX7_told 139 = .ok (.iload_n 1, 1) := by decide +kernel
theorem dX7_told_140 : decode cX7_told 140 = .ok (.invokevirtual 212, 3) := by decide +kernel
theorem dX7_told_143 : decode cX7_told 143 = .ok (.ireturn, 1) := by decide +kernel
theorem dX7_told_144 : decode cX7_told 144 = .ok (.aload_n 3, 1) := by decide +kernel
theorem dX7_told_145 : decode cX7_told 145 = .ok (.getfield 123, 3) := by decide +kernel
theorem dX7_told_148 : decode cX7_told 148 = .ok (.ireturn, 1) := by decide +kernel
theorem dX7_told_149 : decode cX7_told 149 = .ok (.aload_n 3, 1) := by decide +kernel
theorem dX7_told_150 : decode cX7_told 150 = .ok (.getfield 142, 3) := by decide +kernel
theorem dX7_told_153 : decode cX7_told 153 = .ok (.ireturn, 1) := by decide +kernel
theorem dX7_told_154 : decode cX7_told 154 = .ok (.aload_n 3, 1) := by decide +kernel
theorem dX7_told_155 : decode cX7_told 155 = .ok (.getfield 148, 3) := by decide +kernel
theorem dX7_told_158 : decode cX7_told 158 = .ok (.ireturn, 1) := by decide +kernel
theorem dX7_told_159 : decode cX7_told 159 = .ok (.aload_n 3, 1) := by decide +kernel
theorem dX7_told_160 : decode cX7_told 160 = .ok (.getfield 145, 3) := by decide +kernel
theorem dX7_told_163 : decode cX7_told 163 = .ok (.ireturn, 1) := by decide +kernel
theorem dX7_told_164 : decode cX7_told 164 = .ok (.aload_n 3, 1) := by decide +kernel
theorem dX7_told_165 : decode cX7_told 165 = .ok (.getfield 215, 3) := by decide +kernel
theorem dX7_told_168 : decode cX7_told 168 = .ok (.ireturn, 1) := by decide +kernel
theorem dX7_told_169 : decode cX7_told 169 = .ok (.aload_n 3, 1) := by decide +kernel
theorem dX7_told_170 : decode cX7_told 170 = .ok (.getfield 139, 3) := by decide +kernel
theorem dX7_told_173 : decode cX7_told 173 = .ok (.ireturn, 1) := by decide +kernel
theorem dX7_told_174 : decode cX7_told 174 = .ok (.bipush (-2), 2) := by decide +kernel
theorem dX7_told_176 : decode cX7_told 176 = .ok (.ireturn, 1) := by decide +kernel
theorem dX7_suited_0 : decode cX7_suited 0 = .ok (.aload_n 0, 1) := by decide +kernel
theorem dX7_suited_1 : decode cX7_suited 1 = .ok (.iload_n 1, 1) := by decide +kernel
theorem dX7_suited_2 : decode cX7_suited 2 = .ok (.invokevirtual 154, 3) := by decide +kernel
theorem dX7_suited_5 : decode cX7_suited 5 = .ok (.astore_n 3, 1) := by decide +kernel
theorem dX7_suited_6 : decode cX7_suited 6 = .ok (.aload_n 3, 1) := by decide +kernel
theorem dX7_suited_7 : decode cX7_suited 7 = .ok (.ifnonnull 5, 3) := by decide +kernel
theorem dX7_suited_10 : decode cX7_suited 10 = .ok (.iconst (-1), 1) := by decide +kernel
theorem dX7_suited_11 : decode cX7_suited 11 = .ok (.ireturn, 1) := by decide +kernel
theorem dX7_suited_12 : decode cX7_suited 12 = .ok (.iload_n 2, 1) := by decide +kernel
theorem dX7_suited_13 : decode cX7_suited 13 = .ok (.tableswitch 42 0 2 #[27, 32, 37], 27) := by decide +kernel
theorem dX7_suited_40 : decode cX7_suited 40 = .ok (.aload_n 3, 1) := by decide +kernel
theorem dX7_suited_41 : decode cX7_suited 41 = .ok (.getfield 158, 3) := by decide +kernel
theorem dX7_suited_44 : decode cX7_suited 44 = .ok (.ireturn, 1) := by decide +kernel
theorem dX7_suited_45 : decode cX7_suited 45 = .ok (.aload_n 3, 1) := by decide +kernel
theorem dX7_suited_46 : decode cX7_suited 46 = .ok (.getfield 218, 3) := by decide +kernel
theorem dX7_suited_49 : decode cX7_suited 49 = .ok (.ireturn, 1) := by decide +kernel
theorem dX7_suited_50 : decode cX7_suited 50 = .ok (.aload_n 3, 1) := by decide +kernel
theorem dX7_suited_51 : decode cX7_suited 51 = .ok (.getfield 221, 3) := by decide +kernel
theorem dX7_suited_54 : decode cX7_suited 54 = .ok (.ireturn, 1) := by decide +kernel
theorem dX7_suited_55 : decode cX7_suited 55 = .ok (.iconst (-1), 1) := by decide +kernel
theorem dX7_suited_56 : decode cX7_suited 56 = .ok (.ireturn, 1) := by decide +kernel
theorem dX7_count_0 : decode cX7_count 0 = .ok (.iload_n 1, 1) := by decide +kernel
theorem dX7_count_1 : decode cX7_count 1 = .ok (.tableswitch 100 0 7 #[47, 52, 60, 65, 70, 79, 87, 92], 47) := by decide +kernel
theorem dX7_count_48 : decode cX7_count 48 = .ok (.aload_n 0, 1) := by decide +kernel
theorem dX7_count_49 : decode cX7_count 49 = .ok (.getfield 9, 3) := by decide +kernel
theorem dX7_count_52 : decode cX7_count 52 = .ok (.ireturn, 1) := by decide +kernel
theorem dX7_count_53 : decode cX7_count 53 = .ok (.aload_n 0, 1) := by decide +kernel
theorem dX7_count_54 : decode cX7_count 54 = .ok (.getfield 28, 3) := by decide +kernel
theorem dX7_count_57 : decode cX7_count 57 = .ok (.getfield 64, 3) := by decide +kernel
theorem dX7_count_60 : decode cX7_count 60 = .ok (.ireturn, 1) := by decide +kernel
theorem dX7_count_61 : decode cX7_count 61 = .ok (.aload_n 0, 1) := by decide +kernel
theorem dX7_count_62 : decode cX7_count 62 = .ok (.getfield 22, 3) := by decide +kernel
theorem dX7_count_65 : decode cX7_count 65 = .ok (.ireturn, 1) := by decide +kernel
theorem dX7_count_66 : decode cX7_count 66 = .ok (.aload_n 0, 1) := by decide +kernel
theorem dX7_count_67 : decode cX7_count 67 = .ok (.getfield 54, 3) := by decide +kernel
theorem dX7_count_70 : decode cX7_count 70 = .ok (.ireturn, 1) := by decide +kernel
theorem dX7_count_71 : decode cX7_count 71 = .ok (.aload_n 0, 1) := by decide +kernel
theorem dX7_count_72 : decode cX7_count 72 = .ok (.getfield 35, 3) := by decide +kernel
theorem dX7_count_75 : decode cX7_count 75 = .ok (.iconst (-1), 1) := by decide +kernel
theorem dX7_count_76 : decode cX7_count 76 = .ok (.invokevirtual 130, 3) := by decide +kernel
theorem dX7_count_79 : decode cX7_count 79 = .ok (.ireturn, 1) := by decide +kernel
theorem dX7_count_80 : decode cX7_count 80 = .ok (.aload_n 0, 1) := by decide +kernel
theorem dX7_count_81 : decode cX7_count 81 = .ok (.getfield 28, 3) := by decide +kernel
theorem dX7_count_84 : decode cX7_count 84 = .ok (.invokevirtual 224, 3) := by decide +kernel
theorem dX7_count_87 : decode cX7_count 87 = .ok (.ireturn, 1) := by decide +kernel
theorem dX7_count_88 : decode cX7_count 88 = .ok (.aload_n 0, 1) := by decide +kernel
theorem dX7_count_89 : decode cX7_count 89 = .ok (.getfield 57, 3) := by decide +kernel
theorem dX7_count_92 : decode cX7_count 92 = .ok (.ireturn, 1) := by decide +kernel
theorem dX7_count_93 : decode cX7_count 93 = .ok (.aload_n 0, 1) := by decide +kernel
theorem dX7_count_94 : decode cX7_count 94 = .ok (.getfield 35, 3) := by decide +kernel
theorem dX7_count_97 : decode cX7_count 97 = .ok (.getfield 228, 3) := by decide +kernel
theorem dX7_count_100 : decode cX7_count 100 = .ok (.ireturn, 1) := by decide +kernel
theorem dX7_count_101 : decode cX7_count 101 = .ok (.iconst (-1), 1) := by decide +kernel
theorem dX7_count_102 : decode cX7_count 102 = .ok (.ireturn, 1) := by decide +kernel
theorem dX7_isHolding_0 : decode cX7_isHolding 0 = .ok (.iload_n 0, 1) := by decide +kernel
theorem dX7_isHolding_1 : decode cX7_isHolding 1 = .ok (.ifCond .lt 13, 3) := by decide +kernel
theorem dX7_isHolding_4 : decode cX7_isHolding 4 = .ok (.iload_n 0, 1) := by decide +kernel
theorem dX7_isHolding_5 : decode cX7_isHolding 5 = .ok (.bipush 10, 2) := by decide +kernel
theorem dX7_isHolding_7 : decode cX7_isHolding 7 = .ok (.if_icmp .ge 7, 3) := by decide +kernel
theorem dX7_isHolding_10 : decode cX7_isHolding 10 = .ok (.iconst 1, 1) := by decide +kernel
theorem dX7_isHolding_11 : decode cX7_isHolding 11 = .ok (.goto 4, 3) := by decide +kernel
theorem dX7_isHolding_14 : decode cX7_isHolding 14 = .ok (.iconst 0, 1) := by decide +kernel
theorem dX7_isHolding_15 : decode cX7_isHolding 15 = .ok (.ireturn, 1) := by decide +kernel
theorem dX7_findSuit_0 : decode cX7_findSuit 0 = .ok (.iload_n 1, 1) := by decide +kernel
theorem dX7_findSuit_1 : decode cX7_findSuit 1 = .ok (.ifCond .lt 29, 3) := by decide +kernel
theorem dX7_findSuit_4 : decode cX7_findSuit 4 = .ok (.iload_n 1, 1) := by decide +kernel
theorem dX7_findSuit_5 : decode cX7_findSuit 5 = .ok (.aload_n 0, 1) := by decide +kernel
theorem dX7_findSuit_6 : decode cX7_findSuit 6 = .ok (.getfield 54, 3) := by decide +kernel
theorem dX7_findSuit_9 : decode cX7_findSuit 9 = .ok (.if_icmp .ge 21, 3) := by decide +kernel
theorem dX7_findSuit_12 : decode cX7_findSuit 12 = .ok (.iload_n 1, 1) := by decide +kernel
theorem dX7_findSuit_13 : decode cX7_findSuit 13 = .ok (.aload_n 0, 1) := by decide +kernel
theorem dX7_findSuit_14 : decode cX7_findSuit 14 = .ok (.getfield 50, 3) := by decide +kernel
theorem dX7_findSuit_17 : decode cX7_findSuit 17 = .ok (.arraylength, 1) := by decide +kernel
theorem dX7_findSuit_18 : decode cX7_findSuit 18 = .ok (.if_icmp .ge 12, 3) := by decide +kernel
theorem dX7_findSuit_21 : decode cX7_findSuit 21 = .ok (.aload_n 0, 1) := by decide +kernel
theorem dX7_findSuit_22 : decode cX7_findSuit 22 = .ok (.getfield 50, 3) := by decide +kernel
theorem dX7_findSuit_25 : decode cX7_findSuit 25 = .ok (.iload_n 1, 1) := by decide +kernel
theorem dX7_findSuit_26 : decode cX7_findSuit 26 = .ok (.aaload, 1) := by decide +kernel
theorem dX7_findSuit_27 : decode cX7_findSuit 27 = .ok (.goto 4, 3) := by decide +kernel
theorem dX7_findSuit_30 : decode cX7_findSuit 30 = .ok (.aconst_null, 1) := by decide +kernel
theorem dX7_findSuit_31 : decode cX7_findSuit 31 = .ok (.areturn, 1) := by decide +kernel
theorem dX7_oweMerchet_0 : decode cX7_oweMerchet 0 = .ok (.aload_n 0, 1) := by decide +kernel
theorem dX7_oweMerchet_1 : decode cX7_oweMerchet 1 = .ok (.getfield 28, 3) := by decide +kernel
theorem dX7_oweMerchet_4 : decode cX7_oweMerchet 4 = .ok (.aload_n 1, 1) := by decide +kernel
theorem dX7_oweMerchet_5 : decode cX7_oweMerchet 5 = .ok (.getfield 203, 3) := by decide +kernel
theorem dX7_oweMerchet_8 : decode cX7_oweMerchet 8 = .ok (.invokevirtual 79, 3) := by decide +kernel
theorem dX7_oweMerchet_11 : decode cX7_oweMerchet 11 = .ok (.astore_n 2, 1) := by decide +kernel
theorem dX7_oweMerchet_12 : decode cX7_oweMerchet 12 = .ok (.aload_n 2, 1) := by decide +kernel
theorem dX7_oweMerchet_13 : decode cX7_oweMerchet 13 = .ok (.ifnonnull 7, 3) := by decide +kernel
theorem dX7_oweMerchet_16 : decode cX7_oweMerchet 16 = .ok (.aload_n 1, 1) := by decide +kernel
theorem dX7_oweMerchet_17 : decode cX7_oweMerchet 17 = .ok (.goto 4, 3) := by decide +kernel
theorem dX7_oweMerchet_20 : decode cX7_oweMerchet 20 = .ok (.aload_n 2, 1) := by decide +kernel
theorem dX7_oweMerchet_21 : decode cX7_oweMerchet 21 = .ok (.astore_n 3, 1) := by decide +kernel
theorem dX7_oweMerchet_22 : decode cX7_oweMerchet 22 = .ok (.aload_n 3, 1) := by decide +kernel
theorem dX7_oweMerchet_23 : decode cX7_oweMerchet 23 = .ok (.dup, 1) := by decide +kernel
theorem dX7_oweMerchet_24 : decode cX7_oweMerchet 24 = .ok (.getfield 123, 3) := by decide +kernel
theorem dX7_oweMerchet_27 : decode cX7_oweMerchet 27 = .ok (.aload_n 0, 1) := by decide +kernel
theorem dX7_oweMerchet_28 : decode cX7_oweMerchet 28 = .ok (.getfield 18, 3) := by decide +kernel
theorem dX7_oweMerchet_31 : decode cX7_oweMerchet 31 = .ok (.getfield 231, 3) := by decide +kernel
theorem dX7_oweMerchet_34 : decode cX7_oweMerchet 34 = .ok (.iadd, 1) := by decide +kernel
theorem dX7_oweMerchet_35 : decode cX7_oweMerchet 35 = .ok (.putfield 123, 3) := by decide +kernel
theorem dX7_oweMerchet_38 : decode cX7_oweMerchet 38 = .ok (.return_, 1) := by decide +kernel
theorem dX7_passOwnStrips_0 : decode cX7_passOwnStrips 0 = .ok (.iconst 0, 1) := by decide +kernel
theorem dX7_passOwnStrips_1 : decode cX7_passOwnStrips 1 = .ok (.istore_n 3, 1) := by decide +kernel
theorem dX7_passOwnStrips_2 : decode cX7_passOwnStrips 2 = .ok (.iconst 0, 1) := by decide +kernel
theorem dX7_passOwnStrips_3 : decode cX7_passOwnStrips 3 = .ok (.istore 4, 2) := by decide +kernel
theorem dX7_passOwnStrips_5 : decode cX7_passOwnStrips 5 = .ok (.iload 4, 2) := by decide +kernel
theorem dX7_passOwnStrips_7 : decode cX7_passOwnStrips 7 = .ok (.bipush 10, 2) := by decide +kernel
theorem dX7_passOwnStrips_9 : decode cX7_passOwnStrips 9 = .ok (.if_icmp .ge 108, 3) := by decide +kernel
theorem dX7_passOwnStrips_12 : decode cX7_passOwnStrips 12 = .ok (.aload_n 0, 1) := by decide +kernel
theorem dX7_passOwnStrips_13 : decode cX7_passOwnStrips 13 = .ok (.getfield 35, 3) := by decide +kernel
theorem dX7_passOwnStrips_16 : decode cX7_passOwnStrips 16 = .ok (.iload 4, 2) := by decide +kernel
theorem dX7_passOwnStrips_18 : decode cX7_passOwnStrips 18 = .ok (.iload_n 1, 1) := by decide +kernel
theorem dX7_passOwnStrips_19 : decode cX7_passOwnStrips 19 = .ok (.iconst 0, 1) := by decide +kernel
theorem dX7_passOwnStrips_20 : decode cX7_passOwnStrips 20 = .ok (.invokevirtual 112, 3) := by decide +kernel
theorem dX7_passOwnStrips_23 : decode cX7_passOwnStrips 23 = .ok (.aload_n 0, 1) := by decide +kernel
theorem dX7_passOwnStrips_24 : decode cX7_passOwnStrips 24 = .ok (.getfield 35, 3) := by decide +kernel
theorem dX7_passOwnStrips_27 : decode cX7_passOwnStrips 27 = .ok (.getfield 116, 3) := by decide +kernel
theorem dX7_passOwnStrips_30 : decode cX7_passOwnStrips 30 = .ok (.istore 5, 2) := by decide +kernel
theorem dX7_passOwnStrips_32 : decode cX7_passOwnStrips 32 = .ok (.iload 5, 2) := by decide +kernel
theorem dX7_passOwnStrips_34 : decode cX7_passOwnStrips 34 = .ok (.ifCond .le 77, 3) := by decide +kernel
theorem dX7_passOwnStrips_37 : decode cX7_passOwnStrips 37 = .ok (.aload_n 2, 1) := by decide +kernel
theorem dX7_passOwnStrips_38 : decode cX7_passOwnStrips 38 = .ok (.getfield 86, 3) := by decide +kernel
theorem dX7_passOwnStrips_41 : decode cX7_passOwnStrips 41 = .ok (.iconst (-1), 1) := by decide +kernel
theorem dX7_passOwnStrips_42 : decode cX7_passOwnStrips 42 = .ok (.if_icmp .ne 7, 3) := by decide +kernel
theorem dX7_passOwnStrips_45 : decode cX7_passOwnStrips 45 = .ok (.iconst 0, 1) := by decide +kernel
theorem dX7_passOwnStrips_46 : decode cX7_passOwnStrips 46 = .ok (.goto 16, 3) := by decide +kernel
theorem dX7_passOwnStrips_49 : decode cX7_passOwnStrips 49 = .ok (.iload 5, 2) := by decide +kernel
theorem dX7_passOwnStrips_51 : decode cX7_passOwnStrips 51 = .ok (.aload_n 0, 1) := by decide +kernel
theorem dX7_passOwnStrips_52 : decode cX7_passOwnStrips 52 = .ok (.getfield 18, 3) := by decide +kernel
theorem dX7_passOwnStrips_55 : decode cX7_passOwnStrips 55 = .ok (.getfield 234, 3) := by decide +kernel
theorem dX7_passOwnStrips_58 : decode cX7_passOwnStrips 58 = .ok (.imul, 1) := by decide +kernel
theorem dX7_passOwnStrips_59 : decode cX7_passOwnStrips 59 = .ok (.bipush 12, 2) := by decide +kernel
theorem dX7_passOwnStrips_61 : decode cX7_passOwnStrips 61 = .ok (.idiv, 1) := by decide +kernel
theorem dX7_passOwnStrips_62 : decode cX7_passOwnStrips 62 = .ok (.istore 6, 2) := by decide +kernel
theorem dX7_passOwnStrips_64 : decode cX7_passOwnStrips 64 = .ok (.aload_n 0, 1) := by decide +kernel
theorem dX7_passOwnStrips_65 : decode cX7_passOwnStrips 65 = .ok (.getfield 35, 3) := by decide +kernel
theorem dX7_passOwnStrips_68 : decode cX7_passOwnStrips 68 = .ok (.iconst 0, 1) := by decide +kernel
theorem dX7_passOwnStrips_69 : decode cX7_passOwnStrips 69 = .ok (.iload 6, 2) := by decide +kernel
theorem dX7_passOwnStrips_71 : decode cX7_passOwnStrips 71 = .ok (.aload_n 2, 1) := by decide +kernel
theorem dX7_passOwnStrips_72 : decode cX7_passOwnStrips 72 = .ok (.getfield 86, 3) := by decide +kernel
theorem dX7_passOwnStrips_75 : decode cX7_passOwnStrips 75 = .ok (.iconst 3, 1) := by decide +kernel
theorem dX7_passOwnStrips_76 : decode cX7_passOwnStrips 76 = .ok (.aload_n 0, 1) := by decide +kernel
theorem dX7_passOwnStrips_77 : decode cX7_passOwnStrips 77 = .ok (.getfield 9, 3) := by decide +kernel
theorem dX7_passOwnStrips_80 : decode cX7_passOwnStrips 80 = .ok (.invokevirtual 119, 3) := by decide +kernel
theorem dX7_passOwnStrips_83 : decode cX7_passOwnStrips 83 = .ok (.aload_n 0, 1) := by decide +kernel
theorem dX7_passOwnStrips_84 : decode cX7_passOwnStrips 84 = .ok (.iload 6, 2) := by decide +kernel
theorem dX7_passOwnStrips_86 : decode cX7_passOwnStrips 86 = .ok (.iload_n 1, 1) := by decide +kernel
theorem dX7_passOwnStrips_87 : decode cX7_passOwnStrips 87 = .ok (.invokevirtual 237, 3) := by decide +kernel
theorem dX7_passOwnStrips_90 : decode cX7_passOwnStrips 90 = .ok (.aload_n 2, 1) := by decide +kernel
theorem dX7_passOwnStrips_91 : decode cX7_passOwnStrips 91 = .ok (.dup, 1) := by decide +kernel
theorem dX7_passOwnStrips_92 : decode cX7_passOwnStrips 92 = .ok (.getfield 123, 3) := by decide +kernel
theorem dX7_passOwnStrips_95 : decode cX7_passOwnStrips 95 = .ok (.aload_n 0, 1) := by decide +kernel
theorem dX7_passOwnStrips_96 : decode cX7_passOwnStrips 96 = .ok (.getfield 18, 3) := by decide +kernel
theorem dX7_passOwnStrips_99 : decode cX7_passOwnStrips 99 = .ok (.getfield 240, 3) := by decide +kernel
theorem dX7_passOwnStrips_102 : decode cX7_passOwnStrips 102 = .ok (.iadd, 1) := by decide +kernel
theorem dX7_passOwnStrips_103 : decode cX7_passOwnStrips 103 = .ok (.putfield 123, 3) := by decide +kernel
theorem dX7_passOwnStrips_106 : decode cX7_passOwnStrips 106 = .ok (.iload_n 3, 1) := by decide +kernel
theorem dX7_passOwnStrips_107 : decode cX7_passOwnStrips 107 = .ok (.iload 5, 2) := by decide +kernel
theorem dX7_passOwnStrips_109 : decode cX7_passOwnStrips 109 = .ok (.iadd, 1) := by decide +kernel
theorem dX7_passOwnStrips_110 : decode cX7_passOwnStrips 110 = .ok (.istore_n 3, 1) := by decide +kernel
theorem dX7_passOwnStrips_111 : decode cX7_passOwnStrips 111 = .ok (.iinc 4 1, 3) := by decide +kernel
theorem dX7_passOwnStrips_114 : decode cX7_passOwnStrips 114 = .ok (.goto (-109), 3) := by decide +kernel
theorem dX7_passOwnStrips_117 : decode cX7_passOwnStrips 117 = .ok (.iload_n 3, 1) := by decide +kernel
theorem dX7_passOwnStrips_118 : decode cX7_passOwnStrips 118 = .ok (.ireturn, 1) := by decide +kernel
theorem dX7_passWidowsParts_0 : decode cX7_passWidowsParts 0 = .ok (.iconst 0, 1) := by decide +kernel
theorem dX7_passWidowsParts_1 : decode cX7_passWidowsParts 1 = .ok (.istore_n 2, 1) := by decide +kernel
theorem dX7_passWidowsParts_2 : decode cX7_passWidowsParts 2 = .ok (.iconst 0, 1) := by decide +kernel
theorem dX7_passWidowsParts_3 : decode cX7_passWidowsParts 3 = .ok (.istore_n 3, 1) := by decide +kernel
theorem dX7_passWidowsParts_4 : decode cX7_passWidowsParts 4 = .ok (.iload_n 3, 1) := by decide +kernel
theorem dX7_passWidowsParts_5 : decode cX7_passWidowsParts 5 = .ok (.bipush 10, 2) := by decide +kernel
theorem dX7_passWidowsParts_7 : decode cX7_passWidowsParts 7 = .ok (.if_icmp .ge 60, 3) := by decide +kernel
theorem dX7_passWidowsParts_10 : decode cX7_passWidowsParts 10 = .ok (.aload_n 0, 1) := by decide +kernel
theorem dX7_passWidowsParts_11 : decode cX7_passWidowsParts 11 = .ok (.getfield 35, 3) := by decide +kernel
theorem dX7_passWidowsParts_14 : decode cX7_passWidowsParts 14 = .ok (.iload_n 3, 1) := by decide +kernel
theorem dX7_passWidowsParts_15 : decode cX7_passWidowsParts 15 = .ok (.iload_n 1, 1) := by decide +kernel
theorem dX7_passWidowsParts_16 : decode cX7_passWidowsParts 16 = .ok (.iconst 1, 1) := by decide +kernel
theorem dX7_passWidowsParts_17 : decode cX7_passWidowsParts 17 = .ok (.invokevirtual 112, 3) := by decide +kernel
theorem dX7_passWidowsParts_20 : decode cX7_passWidowsParts 20 = .ok (.aload_n 0, 1) := by decide +kernel
theorem dX7_passWidowsParts_21 : decode cX7_passWidowsParts 21 = .ok (.getfield 35, 3) := by decide +kernel
theorem dX7_passWidowsParts_24 : decode cX7_passWidowsParts 24 = .ok (.getfield 116, 3) := by decide +kernel
theorem dX7_passWidowsParts_27 : decode cX7_passWidowsParts 27 = .ok (.ifCond .le 34, 3) := by decide +kernel
theorem dX7_passWidowsParts_30 : decode cX7_passWidowsParts 30 = .ok (.aload_n 0, 1) := by decide +kernel
theorem dX7_passWidowsParts_31 : decode cX7_passWidowsParts 31 = .ok (.iconst 0, 1) := by decide +kernel
theorem dX7_passWidowsParts_32 : decode cX7_passWidowsParts 32 = .ok (.aload_n 0, 1) := by decide +kernel
theorem dX7_passWidowsParts_33 : decode cX7_passWidowsParts 33 = .ok (.getfield 35, 3) := by decide +kernel
theorem dX7_passWidowsParts_36 : decode cX7_passWidowsParts 36 = .ok (.aload_n 0, 1) := by decide +kernel
theorem dX7_passWidowsParts_37 : decode cX7_passWidowsParts 37 = .ok (.getfield 35, 3) := by decide +kernel
theorem dX7_passWidowsParts_40 : decode cX7_passWidowsParts 40 = .ok (.getfield 243, 3) := by decide +kernel
theorem dX7_passWidowsParts_43 : decode cX7_passWidowsParts 43 = .ok (.iconst 0, 1) := by decide +kernel
theorem dX7_passWidowsParts_44 : decode cX7_passWidowsParts 44 = .ok (.iaload, 1) := by decide +kernel
theorem dX7_passWidowsParts_45 : decode cX7_passWidowsParts 45 = .ok (.invokevirtual 246, 3) := by decide +kernel
theorem dX7_passWidowsParts_48 : decode cX7_passWidowsParts 48 = .ok (.invokevirtual 237, 3) := by decide +kernel
theorem dX7_passWidowsParts_51 : decode cX7_passWidowsParts 51 = .ok (.iload_n 2, 1) := by decide +kernel
theorem dX7_passWidowsParts_52 : decode cX7_passWidowsParts 52 = .ok (.aload_n 0, 1) := by decide +kernel
theorem dX7_passWidowsParts_53 : decode cX7_passWidowsParts 53 = .ok (.getfield 35, 3) := by decide +kernel
theorem dX7_passWidowsParts_56 : decode cX7_passWidowsParts 56 = .ok (.getfield 116, 3) := by decide +kernel
theorem dX7_passWidowsParts_59 : decode cX7_passWidowsParts 59 = .ok (.iadd, 1) := by decide +kernel
theorem dX7_passWidowsParts_60 : decode cX7_passWidowsParts 60 = .ok (.istore_n 2, 1) := by decide +kernel
theorem dX7_passWidowsParts_61 : decode cX7_passWidowsParts 61 = .ok (.iinc 3 1, 3) := by decide +kernel
theorem dX7_passWidowsParts_64 : decode cX7_passWidowsParts 64 = .ok (.goto (-60), 3) := by decide +kernel
theorem dX7_passWidowsParts_67 : decode cX7_passWidowsParts 67 = .ok (.iload_n 2, 1) := by decide +kernel
theorem dX7_passWidowsParts_68 : decode cX7_passWidowsParts 68 = .ok (.ireturn, 1) := by decide +kernel
theorem dX7_passPicked_0 : decode cX7_passPicked 0 = .ok (.aload_n 0, 1) := by decide +kernel
theorem dX7_passPicked_1 : decode cX7_passPicked 1 = .ok (.getfield 44, 3) := by decide +kernel
theorem dX7_passPicked_4 : decode cX7_passPicked 4 = .ok (.iload_n 2, 1) := by decide +kernel
theorem dX7_passPicked_5 : decode cX7_passPicked 5 = .ok (.aload_n 0, 1) := by decide +kernel
theorem dX7_passPicked_6 : decode cX7_passPicked 6 = .ok (.getfield 18, 3) := by decide +kernel
theorem dX7_passPicked_9 : decode cX7_passPicked 9 = .ok (.getfield 191, 3) := by decide +kernel
theorem dX7_passPicked_12 : decode cX7_passPicked 12 = .ok (.aload_n 0, 1) := by decide +kernel
theorem dX7_passPicked_13 : decode cX7_passPicked 13 = .ok (.getfield 35, 3) := by decide +kernel
theorem dX7_passPicked_16 : decode cX7_passPicked 16 = .ok (.getfield 116, 3) := by decide +kernel
theorem dX7_passPicked_19 : decode cX7_passPicked 19 = .ok (.iload_n 1, 1) := by decide +kernel
theorem dX7_passPicked_20 : decode cX7_passPicked 20 = .ok (.isub, 1) := by decide +kernel
theorem dX7_passPicked_21 : decode cX7_passPicked 21 = .ok (.invokevirtual 249, 3) := by decide +kernel
theorem dX7_passPicked_24 : decode cX7_passPicked 24 = .ok (.iload_n 1, 1) := by decide +kernel
theorem dX7_passPicked_25 : decode cX7_passPicked 25 = .ok (.istore_n 3, 1) := by decide +kernel
theorem dX7_passPicked_26 : decode cX7_passPicked 26 = .ok (.iload_n 3, 1) := by decide +kernel
theorem dX7_passPicked_27 : decode cX7_passPicked 27 = .ok (.aload_n 0, 1) := by decide +kernel
theorem dX7_passPicked_28 : decode cX7_passPicked 28 = .ok (.getfield 35, 3) := by decide +kernel
theorem dX7_passPicked_31 : decode cX7_passPicked 31 = .ok (.getfield 116, 3) := by decide +kernel
theorem dX7_passPicked_34 : decode cX7_passPicked 34 = .ok (.if_icmp .ge 50, 3) := by decide +kernel
theorem dX7_passPicked_37 : decode cX7_passPicked 37 = .ok (.aload_n 0, 1) := by decide +kernel
theorem dX7_passPicked_38 : decode cX7_passPicked 38 = .ok (.getfield 44, 3) := by decide +kernel
theorem dX7_passPicked_41 : decode cX7_passPicked 41 = .ok (.getfield 252, 3) := by decide +kernel
theorem dX7_passPicked_44 : decode cX7_passPicked 44 = .ok (.iload_n 3, 1) := by decide +kernel
theorem dX7_passPicked_45 : decode cX7_passPicked 45 = .ok (.iload_n 1, 1) := by decide +kernel
theorem dX7_passPicked_46 : decode cX7_passPicked 46 = .ok (.isub, 1) := by decide +kernel
theorem dX7_passPicked_47 : decode cX7_passPicked 47 = .ok (.iaload, 1) := by decide +kernel
theorem dX7_passPicked_48 : decode cX7_passPicked 48 = .ok (.istore 4, 2) := by decide +kernel
theorem dX7_passPicked_50 : decode cX7_passPicked 50 = .ok (.aload_n 0, 1) := by decide +kernel
theorem dX7_passPicked_51 : decode cX7_passPicked 51 = .ok (.getfield 35, 3) := by decide +kernel
theorem dX7_passPicked_54 : decode cX7_passPicked 54 = .ok (.iload_n 3, 1) := by decide +kernel
theorem dX7_passPicked_55 : decode cX7_passPicked 55 = .ok (.iload_n 3, 1) := by decide +kernel
theorem dX7_passPicked_56 : decode cX7_passPicked 56 = .ok (.iconst 1, 1) := by decide +kernel
theorem dX7_passPicked_57 : decode cX7_passPicked 57 = .ok (.iadd, 1) := by decide +kernel
theorem dX7_passPicked_58 : decode cX7_passPicked 58 = .ok (.iload 4, 2) := by decide +kernel
theorem dX7_passPicked_60 : decode cX7_passPicked 60 = .ok (.iload 4, 2) := by decide +kernel
theorem dX7_passPicked_62 : decode cX7_passPicked 62 = .ok (.iconst (-1), 1) := by decide +kernel
theorem dX7_passPicked_63 : decode cX7_passPicked 63 = .ok (.if_icmp .ne 7, 3) := by decide +kernel
theorem dX7_passPicked_66 : decode cX7_passPicked 66 = .ok (.iconst 5, 1) := by decide +kernel
theorem dX7_passPicked_67 : decode cX7_passPicked 67 = .ok (.goto 4, 3) := by decide +kernel
theorem dX7_passPicked_70 : decode cX7_passPicked 70 = .ok (.iconst 2, 1) := by decide +kernel
theorem dX7_passPicked_71 : decode cX7_passPicked 71 = .ok (.aload_n 0, 1) := by decide +kernel
theorem dX7_passPicked_72 : decode cX7_passPicked 72 = .ok (.getfield 9, 3) := by decide +kernel
theorem dX7_passPicked_75 : decode cX7_passPicked 75 = .ok (.invokevirtual 119, 3) := by decide +kernel
theorem dX7_passPicked_78 : decode cX7_passPicked 78 = .ok (.iinc 3 1, 3) := by decide +kernel
theorem dX7_passPicked_81 : decode cX7_passPicked 81 = .ok (.goto (-55), 3) := by decide +kernel
theorem dX7_passPicked_84 : decode cX7_passPicked 84 = .ok (.return_, 1) := by decide +kernel
theorem dX7_hear_0 : decode cX7_hear 0 = .ok (.aload_n 0, 1) := by decide +kernel
theorem dX7_hear_1 : decode cX7_hear 1 = .ok (.getfield 28, 3) := by decide +kernel
theorem dX7_hear_4 : decode cX7_hear 4 = .ok (.aload_n 1, 1) := by decide +kernel
theorem dX7_hear_5 : decode cX7_hear 5 = .ok (.getfield 255, 3) := by decide +kernel
theorem dX7_hear_8 : decode cX7_hear 8 = .ok (.invokevirtual 79, 3) := by decide +kernel
theorem dX7_hear_11 : decode cX7_hear 11 = .ok (.astore_n 2, 1) := by decide +kernel
theorem dX7_hear_12 : decode cX7_hear 12 = .ok (.aload_n 2, 1) := by decide +kernel
theorem dX7_hear_13 : decode cX7_hear 13 = .ok (.ifnonnull 11, 3) := by decide +kernel
theorem dX7_hear_16 : decode cX7_hear 16 = .ok (.aload_n 1, 1) := by decide +kernel
theorem dX7_hear_17 : decode cX7_hear 17 = .ok (.iconst 1, 1) := by decide +kernel
theorem dX7_hear_18 : decode cX7_hear 18 = .ok (.putfield 158, 3) := by decide +kernel
theorem dX7_hear_21 : decode cX7_hear 21 = .ok (.goto 100, 3) := by decide +kernel
theorem dX7_hear_24 : decode cX7_hear 24 = .ok (.aload_n 1, 1) := by decide +kernel
theorem dX7_hear_25 : decode cX7_hear 25 = .ok (.getfield 161, 3) := by decide +kernel
theorem dX7_hear_28 : decode cX7_hear 28 = .ok (.iconst 2, 1) := by decide +kernel
theorem dX7_hear_29 : decode cX7_hear 29 = .ok (.if_icmp .ne 22, 3) := by decide +kernel
theorem dX7_hear_32 : decode cX7_hear 32 = .ok (.aload_n 1, 1) := by decide +kernel
theorem dX7_hear_33 : decode cX7_hear 33 = .ok (.iconst 2, 1) := by decide +kernel
theorem dX7_hear_34 : decode cX7_hear 34 = .ok (.putfield 158, 3) := by decide +kernel
theorem dX7_hear_37 : decode cX7_hear 37 = .ok (.aload_n 2, 1) := by decide +kernel
theorem dX7_hear_38 : decode cX7_hear 38 = .ok (.dup, 1) := by decide +kernel
theorem dX7_hear_39 : decode cX7_hear 39 = .ok (.getfield 123, 3) := by decide +kernel
theorem dX7_hear_42 : decode cX7_hear 42 = .ok (.bipush 6, 2) := by decide +kernel
theorem dX7_hear_44 : decode cX7_hear 44 = .ok (.iadd, 1) := by decide +kernel
theorem dX7_hear_45 : decode cX7_hear 45 = .ok (.putfield 123, 3) := by decide +kernel
theorem dX7_hear_48 : decode cX7_hear 48 = .ok (.goto 73, 3) := by decide +kernel
theorem dX7_hear_51 : decode cX7_hear 51 = .ok (.aload_n 1, 1) := by decide +kernel
theorem dX7_hear_52 : decode cX7_hear 52 = .ok (.getfield 161, 3) := by decide +kernel
theorem dX7_hear_55 : decode cX7_hear 55 = .ok (.iconst 3, 1) := by decide +kernel
theorem dX7_hear_56 : decode cX7_hear 56 = .ok (.if_icmp .ne 24, 3) := by decide +kernel
theorem dX7_hear_59 : decode cX7_hear 59 = .ok (.aload_n 1, 1) := by decide +kernel
theorem dX7_hear_60 : decode cX7_hear 60 = .ok (.iconst 3, 1) := by decide +kernel
theorem dX7_hear_61 : decode cX7_hear 61 = .ok (.putfield 158, 3) := by decide +kernel
theorem dX7_hear_64 : decode cX7_hear 64 = .ok (.aload_n 0, 1) := by decide +kernel
theorem dX7_hear_65 : decode cX7_hear 65 = .ok (.getfield 28, 3) := by decide +kernel
theorem dX7_hear_68 : decode cX7_hear 68 = .ok (.aload_n 1, 1) := by decide +kernel
theorem dX7_hear_69 : decode cX7_hear 69 = .ok (.getfield 258, 3) := by decide +kernel
theorem dX7_hear_72 : decode cX7_hear 72 = .ok (.bipush 6, 2) := by decide +kernel
theorem dX7_hear_74 : decode cX7_hear 74 = .ok (.invokevirtual 261, 3) := by decide +kernel
theorem dX7_hear_77 : decode cX7_hear 77 = .ok (.goto 44, 3) := by decide +kernel
theorem dX7_hear_80 : decode cX7_hear 80 = .ok (.aload_n 1, 1) := by decide +kernel
theorem dX7_hear_81 : decode cX7_hear 81 = .ok (.getfield 161, 3) := by decide +kernel
theorem dX7_hear_84 : decode cX7_hear 84 = .ok (.iconst 1, 1) := by decide +kernel
theorem dX7_hear_85 : decode cX7_hear 85 = .ok (.if_icmp .ne 30, 3) := by decide +kernel
theorem dX7_hear_88 : decode cX7_hear 88 = .ok (.aload_n 1, 1) := by decide +kernel
theorem dX7_hear_89 : decode cX7_hear 89 = .ok (.getfield 218, 3) := by decide +kernel
theorem dX7_hear_92 : decode cX7_hear 92 = .ok (.aload_n 0, 1) := by decide +kernel
theorem dX7_hear_93 : decode cX7_hear 93 = .ok (.getfield 18, 3) := by decide +kernel
theorem dX7_hear_96 : decode cX7_hear 96 = .ok (.getfield 264, 3) := by decide +kernel
theorem dX7_hear_99 : decode cX7_hear 99 = .ok (.if_icmp .ge 16, 3) := by decide +kernel
theorem dX7_hear_102 : decode cX7_hear 102 = .ok (.aload_n 1, 1) := by decide +kernel
theorem dX7_hear_103 : decode cX7_hear 103 = .ok (.dup, 1) := by decide +kernel
theorem dX7_hear_104 : decode cX7_hear 104 = .ok (.getfield 218, 3) := by decide +kernel
theorem dX7_hear_107 : decode cX7_hear 107 = .ok (.iconst 1, 1) := by decide +kernel
theorem dX7_hear_108 : decode cX7_hear 108 = .ok (.iadd, 1) := by decide +kernel
theorem dX7_hear_109 : decode cX7_hear 109 = .ok (.putfield 218, 3) := by decide +kernel
theorem dX7_hear_112 : decode cX7_hear 112 = .ok (.goto 9, 3) := by decide +kernel
theorem dX7_hear_115 : decode cX7_hear 115 = .ok (.aload_n 0, 1) := by decide +kernel
theorem dX7_hear_116 : decode cX7_hear 116 = .ok (.aload_n 1, 1) := by decide +kernel
theorem dX7_hear_117 : decode cX7_hear 117 = .ok (.aload_n 2, 1) := by decide +kernel
theorem dX7_hear_118 : decode cX7_hear 118 = .ok (.invokevirtual 265, 3) := by decide +kernel
theorem dX7_hear_121 : decode cX7_hear 121 = .ok (.return_, 1) := by decide +kernel
theorem dX7_defaultIn_0 : decode cX7_defaultIn 0 = .ok (.aload_n 0, 1) := by decide +kernel
theorem dX7_defaultIn_1 : decode cX7_defaultIn 1 = .ok (.getfield 28, 3) := by decide +kernel
theorem dX7_defaultIn_4 : decode cX7_defaultIn 4 = .ok (.aload_n 1, 1) := by decide +kernel
theorem dX7_defaultIn_5 : decode cX7_defaultIn 5 = .ok (.getfield 269, 3) := by decide +kernel
theorem dX7_defaultIn_8 : decode cX7_defaultIn 8 = .ok (.invokevirtual 79, 3) := by decide +kernel
theorem dX7_defaultIn_11 : decode cX7_defaultIn 11 = .ok (.astore_n 3, 1) := by decide +kernel
theorem dX7_defaultIn_12 : decode cX7_defaultIn 12 = .ok (.aload_n 3, 1) := by decide +kernel
theorem dX7_defaultIn_13 : decode cX7_defaultIn 13 = .ok (.ifnonnull 7, 3) := by decide +kernel
theorem dX7_defaultIn_16 : decode cX7_defaultIn 16 = .ok (.aload_n 2, 1) := by decide +kernel
theorem dX7_defaultIn_17 : decode cX7_defaultIn 17 = .ok (.goto 4, 3) := by decide +kernel
theorem dX7_defaultIn_20 : decode cX7_defaultIn 20 = .ok (.aload_n 3, 1) := by decide +kernel
theorem dX7_defaultIn_21 : decode cX7_defaultIn 21 = .ok (.astore 4, 2) := by decide +kernel
theorem dX7_defaultIn_23 : decode cX7_defaultIn 23 = .ok (.aload 4, 2) := by decide +kernel
theorem dX7_defaultIn_25 : decode cX7_defaultIn 25 = .ok (.dup, 1) := by decide +kernel
theorem dX7_defaultIn_26 : decode cX7_defaultIn 26 = .ok (.getfield 123, 3) := by decide +kernel
theorem dX7_defaultIn_29 : decode cX7_defaultIn 29 = .ok (.iconst 3, 1) := by decide +kernel
theorem dX7_defaultIn_30 : decode cX7_defaultIn 30 = .ok (.iadd, 1) := by decide +kernel
theorem dX7_defaultIn_31 : decode cX7_defaultIn 31 = .ok (.putfield 123, 3) := by decide +kernel
theorem dX7_defaultIn_34 : decode cX7_defaultIn 34 = .ok (.aload_n 1, 1) := by decide +kernel
theorem dX7_defaultIn_35 : decode cX7_defaultIn 35 = .ok (.dup, 1) := by decide +kernel
theorem dX7_defaultIn_36 : decode cX7_defaultIn 36 = .ok (.getfield 221, 3) := by decide +kernel
theorem dX7_defaultIn_39 : decode cX7_defaultIn 39 = .ok (.iconst 1, 1) := by decide +kernel
theorem dX7_defaultIn_40 : decode cX7_defaultIn 40 = .ok (.iadd, 1) := by decide +kernel
theorem dX7_defaultIn_41 : decode cX7_defaultIn 41 = .ok (.putfield 221, 3) := by decide +kernel
theorem dX7_defaultIn_44 : decode cX7_defaultIn 44 = .ok (.aload_n 1, 1) := by decide +kernel
theorem dX7_defaultIn_45 : decode cX7_defaultIn 45 = .ok (.getfield 221, 3) := by decide +kernel
theorem dX7_defaultIn_48 : decode cX7_defaultIn 48 = .ok (.iconst 2, 1) := by decide +kernel
theorem dX7_defaultIn_49 : decode cX7_defaultIn 49 = .ok (.if_icmp .lt 19, 3) := by decide +kernel
theorem dX7_defaultIn_52 : decode cX7_defaultIn 52 = .ok (.aload_n 1, 1) := by decide +kernel
theorem dX7_defaultIn_53 : decode cX7_defaultIn 53 = .ok (.iconst 2, 1) := by decide +kernel
theorem dX7_defaultIn_54 : decode cX7_defaultIn 54 = .ok (.putfield 158, 3) := by decide +kernel
theorem dX7_defaultIn_57 : decode cX7_defaultIn 57 = .ok (.aload_n 2, 1) := by decide +kernel
theorem dX7_defaultIn_58 : decode cX7_defaultIn 58 = .ok (.dup, 1) := by decide +kernel
theorem dX7_defaultIn_59 : decode cX7_defaultIn 59 = .ok (.getfield 123, 3) := by decide +kernel
theorem dX7_defaultIn_62 : decode cX7_defaultIn 62 = .ok (.bipush 6, 2) := by decide +kernel
theorem dX7_defaultIn_64 : decode cX7_defaultIn 64 = .ok (.iadd, 1) := by decide +kernel
theorem dX7_defaultIn_65 : decode cX7_defaultIn 65 = .ok (.putfield 123, 3) := by decide +kernel
theorem dX7_defaultIn_68 : decode cX7_defaultIn 68 = .ok (.return_, 1) := by decide +kernel
end
section
theorem dX8_init_0 : decode cX8_init 0 = .ok (.aload_n 0, 1) := by decide +kernel
theorem dX8_init_1 : decode cX8_init 1 = .ok (.invokespecial 3, 3) := by decide +kernel
theorem dX8_init_4 : decode cX8_init 4 = .ok (.aload_n 0, 1) := by decide +kernel
theorem dX8_init_5 : decode cX8_init 5 = .ok (.bipush 60, 2) := by decide +kernel
theorem dX8_init_7 : decode cX8_init 7 = .ok (.newarray .int, 2) := by decide +kernel
theorem dX8_init_9 : decode cX8_init 9 = .ok (.putfield 9, 3) := by decide +kernel
theorem dX8_init_12 : decode cX8_init 12 = .ok (.aload_n 0, 1) := by decide +kernel
theorem dX8_init_13 : decode cX8_init 13 = .ok (.bipush 60, 2) := by decide +kernel
theorem dX8_init_15 : decode cX8_init 15 = .ok (.newarray .int, 2) := by decide +kernel
theorem dX8_init_17 : decode cX8_init 17 = .ok (.putfield 13, 3) := by decide +kernel
theorem dX8_init_20 : decode cX8_init 20 = .ok (.aload_n 0, 1) := by decide +kernel
theorem dX8_init_21 : decode cX8_init 21 = .ok (.bipush 60, 2) := by decide +kernel
theorem dX8_init_23 : decode cX8_init 23 = .ok (.newarray .int, 2) := by decide +kernel
theorem dX8_init_25 : decode cX8_init 25 = .ok (.putfield 16, 3) := by decide +kernel
theorem dX8_init_28 : decode cX8_init 28 = .ok (.aload_n 0, 1) := by decide +kernel
theorem dX8_init_29 : decode cX8_init 29 = .ok (.bipush 60, 2) := by decide +kernel
theorem dX8_init_31 : decode cX8_init 31 = .ok (.newarray .int, 2) := by decide +kernel
theorem dX8_init_33 : decode cX8_init 33 = .ok (.putfield 19, 3) := by decide +kernel
theorem dX8_init_36 : decode cX8_init 36 = .ok (.aload_n 0, 1) := by decide +kernel
theorem dX8_init_37 : decode cX8_init 37 = .ok (.bipush 60, 2) := by decide +kernel
theorem dX8_init_39 : decode cX8_init 39 = .ok (.newarray .int, 2) := by decide +kernel
theorem dX8_init_41 : decode cX8_init 41 = .ok (.putfield 22, 3) := by decide +kernel
theorem dX8_init_44 : decode cX8_init 44 = .ok (.aload_n 0, 1) := by decide +kernel
theorem dX8_init_45 : decode cX8_init 45 = .ok (.bipush 60, 2) := by decide +kernel
theorem dX8_init_47 : decode cX8_init 47 = .ok (.newarray .int, 2) := by decide +kernel
theorem dX8_init_49 : decode cX8_init 49 = .ok (.putfield 25, 3) := by decide +kernel
theorem dX8_init_52 : decode cX8_init 52 = .ok (.aload_n 0, 1) := by decide +kernel
theorem dX8_init_53 : decode cX8_init 53 = .ok (.bipush 60, 2) := by decide +kernel
theorem dX8_init_55 : decode cX8_init 55 = .ok (.newarray .int, 2) := by decide +kernel
theorem dX8_init_57 : decode cX8_init 57 = .ok (.putfield 28, 3) := by decide +kernel
theorem dX8_init_60 : decode cX8_init 60 = .ok (.aload_n 0, 1) := by decide +kernel
theorem dX8_init_61 : decode cX8_init 61 = .ok (.bipush 60, 2) := by decide +kernel
theorem dX8_init_63 : decode cX8_init 63 = .ok (.newarray .int, 2) := by decide +kernel
theorem dX8_init_65 : decode cX8_init 65 = .ok (.putfield 31, 3) := by decide +kernel
theorem dX8_init_68 : decode cX8_init 68 = .ok (.aload_n 0, 1) := by decide +kernel
theorem dX8_init_69 : decode cX8_init 69 = .ok (.bipush 60, 2) := by decide +kernel
theorem dX8_init_71 : decode cX8_init 71 = .ok (.newarray .int, 2) := by decide +kernel
theorem dX8_init_73 : decode cX8_init 73 = .ok (.putfield 34, 3) := by decide +kernel
theorem dX8_init_76 : decode cX8_init 76 = .ok (.aload_n 0, 1) := by decide +kernel
theorem dX8_init_77 : decode cX8_init 77 = .ok (.bipush 60, 2) := by decide +kernel
theorem dX8_init_79 : decode cX8_init 79 = .ok (.newarray .int, 2) := by decide +kernel
theorem dX8_init_81 : decode cX8_init 81 = .ok (.putfield 37, 3) := by decide +kernel
theorem dX8_init_84 : decode cX8_init 84 = .ok (.aload_n 0, 1) := by decide +kernel
theorem dX8_init_85 : decode cX8_init 85 = .ok (.bipush 60, 2) := by decide +kernel
theorem dX8_init_87 : decode cX8_init 87 = .ok (.newarray .int, 2) := by decide +kernel
theorem dX8_init_89 : decode cX8_init 89 = .ok (.putfield 40, 3) := by decide +kernel
theorem dX8_init_92 : decode cX8_init 92 = .ok (.aload_n 0, 1) := by decide +kernel
theorem dX8_init_93 : decode cX8_init 93 = .ok (.bipush 60, 2) := by decide +kernel
theorem dX8_init_95 : decode cX8_init 95 = .ok (.newarray .boolean, 2) := by decide +kernel
theorem dX8_init_97 : decode cX8_init 97 = .ok (.putfield 43, 3) := by decide +kernel
theorem dX8_init_100 : decode cX8_init 100 = .ok (.aload_n 0, 1) := by decide +kernel
theorem dX8_init_101 : decode cX8_init 101 = .ok (.bipush 60, 2) := by decide +kernel
theorem dX8_init_103 : decode cX8_init 103 = .ok (.newarray .boolean, 2) := by decide +kernel
theorem dX8_init_105 : decode cX8_init 105 = .ok (.putfield 47, 3) := by decide +kernel
theorem dX8_init_108 : decode cX8_init 108 = .ok (.aload_n 0, 1) := by decide +kernel
theorem dX8_init_109 : decode cX8_init 109 = .ok (.sipush 256, 3) := by decide +kernel
theorem dX8_init_112 : decode cX8_init 112 = .ok (.newarray .int, 2) := by decide +kernel
theorem dX8_init_114 : decode cX8_init 114 = .ok (.putfield 50, 3) := by decide +kernel
theorem dX8_init_117 : decode cX8_init 117 = .ok (.aload_n 0, 1) := by decide +kernel
theorem dX8_init_118 : decode cX8_init 118 = .ok (.sipush 256, 3) := by decide +kernel
theorem dX8_init_121 : decode cX8_init 121 = .ok (.newarray .int, 2) := by decide +kernel
theorem dX8_init_123 : decode cX8_init 123 = .ok (.putfield 53, 3) := by decide +kernel
theorem dX8_init_126 : decode cX8_init 126 = .ok (.aload_n 0, 1) := by decide +kernel
theorem dX8_init_127 : decode cX8_init 127 = .ok (.sipush 256, 3) := by decide +kernel
theorem dX8_init_130 : decode cX8_init 130 = .ok (.newarray .int, 2) := by decide +kernel
theorem dX8_init_132 : decode cX8_init 132 = .ok (.putfield 56, 3) := by decide +kernel
theorem dX8_init_135 : decode cX8_init 135 = .ok (.aload_n 0, 1) := by decide +kernel
theorem dX8_init_136 : decode cX8_init 136 = .ok (.sipush 256, 3) := by decide +kernel
theorem dX8_init_139 : decode cX8_init 139 = .ok (.newarray .int, 2) := by decide +kernel
theorem dX8_init_141 : decode cX8_init 141 = .ok (.putfield 59, 3) := by decide +kernel
theorem dX8_init_144 : decode cX8_init 144 = .ok (.aload_n 0, 1) := by decide +kernel
theorem dX8_init_145 : decode cX8_init 145 = .ok (.bipush 120, 2) := by decide +kernel
theorem dX8_init_147 : decode cX8_init 147 = .ok (.newarray .int, 2) := by decide +kernel
theorem dX8_init_149 : decode cX8_init 149 = .ok (.putfield 62, 3) := by decide +kernel
theorem dX8_init_152 : decode cX8_init 152 = .ok (.aload_n 0, 1) := by decide +kernel
theorem dX8_init_153 : decode cX8_init 153 = .ok (.bipush 120, 2) := by decide +kernel
theorem dX8_init_155 : decode cX8_init 155 = .ok (.newarray .int, 2) := by decide +kernel
theorem dX8_init_157 : decode cX8_init 157 = .ok (.putfield 65, 3) := by decide +kernel
theorem dX8_init_160 : decode cX8_init 160 = .ok (.aload_n 0, 1) := by decide +kernel
theorem dX8_init_161 : decode cX8_init 161 = .ok (.bipush 40, 2) := by decide +kernel
theorem dX8_init_163 : decode cX8_init 163 = .ok (.newarray .int, 2) := by decide +kernel
theorem dX8_init_165 : decode cX8_init 165 = .ok (.putfield 68, 3) := by decide +kernel
theorem dX8_init_168 : decode cX8_init 168 = .ok (.aload_n 0, 1) := by decide +kernel
theorem dX8_init_169 : decode cX8_init 169 = .ok (.bipush 40, 2) := by decide +kernel
theorem dX8_init_171 : decode cX8_init 171 = .ok (.newarray .int, 2) := by decide +kernel
theorem dX8_init_173 : decode cX8_init 173 = .ok (.putfield 71, 3) := by decide +kernel
theorem dX8_init_176 : decode cX8_init 176 = .ok (.aload_n 0, 1) := by decide +kernel
theorem dX8_init_177 : decode cX8_init 177 = .ok (.bipush 40, 2) := by decide +kernel
theorem dX8_init_179 : decode cX8_init 179 = .ok (.newarray .int, 2) := by decide +kernel
theorem dX8_init_181 : decode cX8_init 181 = .ok (.putfield 74, 3) := by decide +kernel
theorem dX8_init_184 : decode cX8_init 184 = .ok (.aload_n 0, 1) := by decide +kernel
theorem dX8_init_185 : decode cX8_init 185 = .ok (.bipush 40, 2) := by decide +kernel
theorem dX8_init_187 : decode cX8_init 187 = .ok (.newarray .int, 2) := by decide +kernel
theorem dX8_init_189 : decode cX8_init 189 = .ok (.putfield 77, 3) := by decide +kernel
theorem dX8_init_192 : decode cX8_init 192 = .ok (.aload_n 0, 1) := by decide +kernel
theorem dX8_init_193 : decode cX8_init 193 = .ok (.bipush 40, 2) := by decide +kernel
theorem dX8_init_195 : decode cX8_init 195 = .ok (.newarray .int, 2) := by decide +kernel
theorem dX8_init_197 : decode cX8_init 197 = .ok (.putfield 80, 3) := by decide +kernel
theorem dX8_init_200 : decode cX8_init 200 = .ok (.aload_n 0, 1) := by decide +kernel
theorem dX8_init_201 : decode cX8_init 201 = .ok (.bipush 40, 2) := by decide +kernel
theorem dX8_init_203 : decode cX8_init 203 = .ok (.newarray .int, 2) := by decide +kernel
theorem dX8_init_205 : decode cX8_init 205 = .ok (.putfield 83, 3) := by decide +kernel
theorem dX8_init_208 : decode cX8_init 208 = .ok (.aload_n 0, 1) := by decide +kernel
theorem dX8_init_209 : decode cX8_init 209 = .ok (.bipush 40, 2) := by decide +kernel
theorem dX8_init_211 : decode cX8_init 211 = .ok (.newarray .int, 2) := by decide +kernel
theorem dX8_init_213 : decode cX8_init 213 = .ok (.putfield 86, 3) := by decide +kernel
theorem dX8_init_216 : decode cX8_init 216 = .ok (.aload_n 0, 1) := by decide +kernel
theorem dX8_init_217 : decode cX8_init 217 = .ok (.sipush 3720, 3) := by decide +kernel
theorem dX8_init_220 : decode cX8_init 220 = .ok (.newarray .int, 2) := by decide +kernel
theorem dX8_init_222 : decode cX8_init 222 = .ok (.putfield 89, 3) := by decide +kernel
theorem dX8_init_225 : decode cX8_init 225 = .ok (.aload_n 0, 1) := by decide +kernel
theorem dX8_init_226 : decode cX8_init 226 = .ok (.bipush 12, 2) := by decide +kernel
theorem dX8_init_228 : decode cX8_init 228 = .ok (.newarray .int, 2) := by decide +kernel
theorem dX8_init_230 : decode cX8_init 230 = .ok (.putfield 92, 3) := by decide +kernel
theorem dX8_init_233 : decode cX8_init 233 = .ok (.iconst 0, 1) := by decide +kernel
theorem dX8_init_234 : decode cX8_init 234 = .ok (.istore_n 1, 1) := by decide +kernel
theorem dX8_init_235 : decode cX8_init 235 = .ok (.iload_n 1, 1) := by decide +kernel
theorem dX8_init_236 : decode cX8_init 236 = .ok (.bipush 120, 2) := by decide +kernel
theorem dX8_init_238 : decode cX8_init 238 = .ok (.if_icmp .ge 23, 3) := by decide +kernel
theorem dX8_init_241 : decode cX8_init 241 = .ok (.aload_n 0, 1) := by decide +kernel
theorem dX8_init_242 : decode cX8_init 242 = .ok (.getfield 65, 3) := by decide +kernel
theorem dX8_init_245 : decode cX8_init 245 = .ok (.iload_n 1, 1) := by decide +kernel
theorem dX8_init_246 : decode cX8_init 246 = .ok (.iconst (-1), 1) := by decide +kernel
theorem dX8_init_247 : decode cX8_init 247 = .ok (.iastore, 1) := by decide +kernel
theorem dX8_init_248 : decode cX8_init 248 = .ok (.aload_n 0, 1) := by decide +kernel
theorem dX8_init_249 : decode cX8_init 249 = .ok (.iload_n 1, 1) := by decide +kernel
theorem dX8_init_250 : decode cX8_init 250 = .ok (.iconst (-1), 1) := by decide +kernel
theorem dX8_init_251 : decode cX8_init 251 = .ok (.iconst 0, 1) := by decide +kernel
theorem dX8_init_252 : decode cX8_init 252 = .ok (.invokevirtual 95, 3) := by decide +kernel
theorem dX8_init_255 : decode cX8_init 255 = .ok (.iinc 1 1, 3) := by decide +kernel
theorem dX8_init_258 : decode cX8_init 258 = .ok (.goto (-23), 3) := by decide +kernel
theorem dX8_init_261 : decode cX8_init 261 = .ok (.return_, 1) := by decide +kernel
theorem dX8_in_0 : decode cX8_in 0 = .ok (.iload_n 0, 1) := by decide +kernel
theorem dX8_in_1 : decode cX8_in 1 = .ok (.iload_n 1, 1) := by decide +kernel
theorem dX8_in_2 : decode cX8_in 2 = .ok (.if_icmp .lt 12, 3) := by decide +kernel
theorem dX8_in_5 : decode cX8_in 5 = .ok (.iload_n 0, 1) := by decide +kernel
theorem dX8_in_6 : decode cX8_in 6 = .ok (.iload_n 2, 1) := by decide +kernel
theorem dX8_in_7 : decode cX8_in 7 = .ok (.if_icmp .gt 7, 3) := by decide +kernel
theorem dX8_in_10 : decode cX8_in 10 = .ok (.iconst 1, 1) := by decide +kernel
theorem dX8_in_11 : decode cX8_in 11 = .ok (.goto 4, 3) := by decide +kernel
theorem dX8_in_14 : decode cX8_in 14 = .ok (.iconst 0, 1) := by decide +kernel
theorem dX8_in_15 : decode cX8_in 15 = .ok (.ireturn, 1) := by decide +kernel
theorem dX8_isPerson_0 : decode cX8_isPerson 0 = .ok (.iload_n 1, 1) := by decide +kernel
theorem dX8_isPerson_1 : decode cX8_isPerson 1 = .ok (.iconst 0, 1) := by decide +kernel
theorem dX8_isPerson_2 : decode cX8_isPerson 2 = .ok (.aload_n 0, 1) := by decide +kernel
theorem dX8_isPerson_3 : decode cX8_isPerson 3 = .ok (.getfield 99, 3) := by decide +kernel
theorem dX8_isPerson_6 : decode cX8_isPerson 6 = .ok (.iconst 1, 1) := by decide +kernel
theorem dX8_isPerson_7 : decode cX8_isPerson 7 = .ok (.isub, 1) := by decide +kernel
theorem dX8_isPerson_8 : decode cX8_isPerson 8 = .ok (.invokestatic 103, 3) := by decide +kernel
theorem dX8_isPerson_11 : decode cX8_isPerson 11 = .ok (.ireturn, 1) := by decide +kernel
theorem dX8_lives_0 : decode cX8_lives 0 = .ok (.aload_n 0, 1) := by decide +kernel
theorem dX8_lives_1 : decode cX8_lives 1 = .ok (.iload_n 1, 1) := by decide +kernel
theorem dX8_lives_2 : decode cX8_lives 2 = .ok (.invokevirtual 107, 3) := by decide +kernel
theorem dX8_lives_5 : decode cX8_lives 5 = .ok (.ifCond .eq 16, 3) := by decide +kernel
theorem dX8_lives_8 : decode cX8_lives 8 = .ok (.aload_n 0, 1) := by decide +kernel
theorem dX8_lives_9 : decode cX8_lives 9 = .ok (.getfield 43, 3) := by decide +kernel
theorem dX8_lives_12 : decode cX8_lives 12 = .ok (.iload_n 1, 1) := by decide +kernel
theorem dX8_lives_13 : decode cX8_lives 13 = .ok (.baload, 1) := by decide +kernel
theorem dX8_lives_14 : decode cX8_lives 14 = .ok (.ifCond .eq 7, 3) := by decide +kernel
theorem dX8_lives_17 : decode cX8_lives 17 = .ok (.iconst 1, 1) := by decide +kernel
theorem dX8_lives_18 : decode cX8_lives 18 = .ok (.goto 4, 3) := by decide +kernel
theorem dX8_lives_21 : decode cX8_lives 21 = .ok (.iconst 0, 1) := by decide +kernel
theorem dX8_lives_22 : decode cX8_lives 22 = .ok (.ireturn, 1) := by decide +kernel
theorem dX8_longer_0 : decode cX8_longer 0 = .ok (.iconst 2, 1) := by decide +kernel
theorem dX8_longer_1 : decode cX8_longer 1 = .ok (.aload_n 0, 1) := by decide +kernel
theorem dX8_longer_2 : decode cX8_longer 2 = .ok (.arraylength, 1) := by decide +kernel
theorem dX8_longer_3 : decode cX8_longer 3 = .ok (.imul, 1) := by decide +kernel
theorem dX8_longer_4 : decode cX8_longer 4 = .ok (.newarray .int, 2) := by decide +kernel
theorem dX8_longer_6 : decode cX8_longer 6 = .ok (.astore_n 1, 1) := by decide +kernel
theorem dX8_longer_7 : decode cX8_longer 7 = .ok (.iconst 0, 1) := by decide +kernel
theorem dX8_longer_8 : decode cX8_longer 8 = .ok (.istore_n 2, 1) := by decide +kernel
theorem dX8_longer_9 : decode cX8_longer 9 = .ok (.iload_n 2, 1) := by decide +kernel
theorem dX8_longer_10 : decode cX8_longer 10 = .ok (.aload_n 0, 1) := by decide +kernel
theorem dX8_longer_11 : decode cX8_longer 11 = .ok (.arraylength, 1) := by decide +kernel
theorem dX8_longer_12 : decode cX8_longer 12 = .ok (.if_icmp .ge 15, 3) := by decide +kernel
theorem dX8_longer_15 : decode cX8_longer 15 = .ok (.aload_n 1, 1) := by decide +kernel
theorem dX8_longer_16 : decode cX8_longer 16 = .ok (.iload_n 2, 1) := by decide +kernel
theorem dX8_longer_17 : decode cX8_longer 17 = .ok (.aload_n 0, 1) := by decide +kernel
theorem dX8_longer_18 : decode cX8_longer 18 = .ok (.iload_n 2, 1) := by decide +kernel
theorem dX8_longer_19 : decode cX8_longer 19 = .ok (.iaload, 1) := by decide +kernel
theorem dX8_longer_20 : decode cX8_longer 20 = .ok (.iastore, 1) := by decide +kernel
theorem dX8_longer_21 : decode cX8_longer 21 = .ok (.iinc 2 1, 3) := by decide +kernel
theorem dX8_longer_24 : decode cX8_longer 24 = .ok (.goto (-15), 3) := by decide +kernel
theorem dX8_longer_27 : decode cX8_longer 27 = .ok (.aload_n 1, 1) := by decide +kernel
theorem dX8_longer_28 : decode cX8_longer 28 = .ok (.areturn, 1) := by decide +kernel
theorem dX8_comes_0 : decode cX8_comes 0 = .ok (.aload_n 0, 1) := by decide +kernel
theorem dX8_comes_1 : decode cX8_comes 1 = .ok (.getfield 111, 3) := by decide +kernel
theorem dX8_comes_4 : decode cX8_comes 4 = .ok (.aload_n 0, 1) := by decide +kernel
theorem dX8_comes_5 : decode cX8_comes 5 = .ok (.getfield 50, 3) := by decide +kernel
theorem dX8_comes_8 : decode cX8_comes 8 = .ok (.arraylength, 1) := by decide +kernel
theorem dX8_comes_9 : decode cX8_comes 9 = .ok (.if_icmp .ne 47, 3) := by decide +kernel
theorem dX8_comes_12 : decode cX8_comes 12 = .ok (.aload_n 0, 1) := by decide +kernel
theorem dX8_comes_13 : decode cX8_comes 13 = .ok (.aload_n 0, 1) := by decide +kernel
theorem dX8_comes_14 : decode cX8_comes 14 = .ok (.getfield 50, 3) := by decide +kernel
theorem dX8_comes_17 : decode cX8_comes 17 = .ok (.invokestatic 114, 3) := by decide +kernel
theorem dX8_comes_20 : decode cX8_comes 20 = .ok (.putfield 50, 3) := by decide +kernel
theorem dX8_comes_23 : decode cX8_comes 23 = .ok (.aload_n 0, 1) := by decide +kernel
theorem dX8_comes_24 : decode cX8_comes 24 = .ok (.aload_n 0, 1) := by decide +kernel
theorem dX8_comes_25 : decode cX8_comes 25 = .ok (.getfield 53, 3) := by decide +kernel
theorem dX8_comes_28 : decode cX8_comes 28 = .ok (.invokestatic 114, 3) := by decide +kernel
theorem dX8_comes_31 : decode cX8_comes 31 = .ok (.putfield 53, 3) := by decide +kernel
theorem dX8_comes_34 : decode cX8_comes 34 = .ok (.aload_n 0, 1) := by decide +kernel
theorem dX8_comes_35 : decode cX8_comes 35 = .ok (.aload_n 0, 1) := by decide +kernel
theorem dX8_comes_36 : decode cX8_comes 36 = .ok (.getfield 56, 3) := by decide +kernel
theorem dX8_comes_39 : decode cX8_comes 39 = .ok (.invokestatic 114, 3) := by decide +kernel
theorem dX8_comes_42 : decode cX8_comes 42 = .ok (.putfield 56, 3) := by decide +kernel
theorem dX8_comes_45 : decode cX8_comes 45 = .ok (.aload_n 0, 1) := by decide +kernel
theorem dX8_comes_46 : decode cX8_comes 46 = .ok (.aload_n 0, 1) := by decide +kernel
theorem dX8_comes_47 : decode cX8_comes 47 = .ok (.getfield 59, 3) := by decide +kernel
theorem dX8_comes_50 : decode cX8_comes 50 = .ok (.invokestatic 114, 3) := by decide +kernel
theorem dX8_comes_53 : decode cX8_comes 53 = .ok (.putfield 59, 3) := by decide +kernel
theorem dX8_comes_56 : decode cX8_comes 56 = .ok (.aload_n 0, 1) := by decide +kernel
theorem dX8_comes_57 : decode cX8_comes 57 = .ok (.getfield 50, 3) := by decide +kernel
theorem dX8_comes_60 : decode cX8_comes 60 = .ok (.aload_n 0, 1) := by decide +kernel
theorem dX8_comes_61 : decode cX8_comes 61 = .ok (.getfield 111, 3) := by decide +kernel
theorem dX8_comes_64 : decode cX8_comes 64 = .ok (.iload_n 1, 1) := by decide +kernel
theorem dX8_comes_65 : decode cX8_comes 65 = .ok (.iastore, 1) := by decide +kernel
theorem dX8_comes_66 : decode cX8_comes 66 = .ok (.aload_n 0, 1) := by decide +kernel
theorem dX8_comes_67 : decode cX8_comes 67 = .ok (.getfield 53, 3) := by decide +kernel
theorem dX8_comes_70 : decode cX8_comes 70 = .ok (.aload_n 0, 1) := by decide +kernel
theorem dX8_comes_71 : decode cX8_comes 71 = .ok (.getfield 111, 3) := by decide +kernel
theorem dX8_comes_74 : decode cX8_comes 74 = .ok (.iload_n 2, 1) := by decide +kernel
theorem dX8_comes_75 : decode cX8_comes 75 = .ok (.iastore, 1) := by decide +kernel
theorem dX8_comes_76 : decode cX8_comes 76 = .ok (.aload_n 0, 1) := by decide +kernel
theorem dX8_comes_77 : decode cX8_comes 77 = .ok (.getfield 56, 3) := by decide +kernel
theorem dX8_comes_80 : decode cX8_comes 80 = .ok (.aload_n 0, 1) := by decide +kernel
theorem dX8_comes_81 : decode cX8_comes 81 = .ok (.getfield 111, 3) := by decide +kernel
theorem dX8_comes_84 : decode cX8_comes 84 = .ok (.iload_n 3, 1) := by decide +kernel
theorem dX8_comes_85 : decode cX8_comes 85 = .ok (.iastore, 1) := by decide +kernel
theorem dX8_comes_86 : decode cX8_comes 86 = .ok (.aload_n 0, 1) := by decide +kernel
theorem dX8_comes_87 : decode cX8_comes 87 = .ok (.getfield 59, 3) := by decide +kernel
theorem dX8_comes_90 : decode cX8_comes 90 = .ok (.aload_n 0, 1) := by decide +kernel
theorem dX8_comes_91 : decode cX8_comes 91 = .ok (.getfield 111, 3) := by decide +kernel
theorem dX8_comes_94 : decode cX8_comes 94 = .ok (.aload_n 0, 1) := by decide +kernel
theorem dX8_comes_95 : decode cX8_comes 95 = .ok (.getfield 118, 3) := by decide +kernel
theorem dX8_comes_98 : decode cX8_comes 98 = .ok (.iastore, 1) := by decide +kernel
theorem dX8_comes_99 : decode cX8_comes 99 = .ok (.aload_n 0, 1) := by decide +kernel
theorem dX8_comes_100 : decode cX8_comes 100 = .ok (.dup, 1) := by decide +kernel
theorem dX8_comes_101 : decode cX8_comes 101 = .ok (.getfield 111, 3) := by decide +kernel
theorem dX8_comes_104 : decode cX8_comes 104 = .ok (.iconst 1, 1) := by decide +kernel
theorem dX8_comes_105 : decode cX8_comes 105 = .ok (.iadd, 1) := by decide +kernel
theorem dX8_comes_106 : decode cX8_comes 106 = .ok (.putfield 111, 3) := by decide +kernel
theorem dX8_comes_109 : decode cX8_comes 109 = .ok (.aload_n 0, 1) := by decide +kernel
theorem dX8_comes_110 : decode cX8_comes 110 = .ok (.getfield 62, 3) := by decide +kernel
theorem dX8_comes_113 : decode cX8_comes 113 = .ok (.iload_n 1, 1) := by decide +kernel
theorem dX8_comes_114 : decode cX8_comes 114 = .ok (.iload_n 2, 1) := by decide +kernel
theorem dX8_comes_115 : decode cX8_comes 115 = .ok (.iastore, 1) := by decide +kernel
theorem dX8_comes_116 : decode cX8_comes 116 = .ok (.aload_n 0, 1) := by decide +kernel
theorem dX8_comes_117 : decode cX8_comes 117 = .ok (.getfield 65, 3) := by decide +kernel
theorem dX8_comes_120 : decode cX8_comes 120 = .ok (.iload_n 1, 1) := by decide +kernel
theorem dX8_comes_121 : decode cX8_comes 121 = .ok (.iconst (-1), 1) := by decide +kernel
theorem dX8_comes_122 : decode cX8_comes 122 = .ok (.iastore, 1) := by decide +kernel
theorem dX8_comes_123 : decode cX8_comes 123 = .ok (.return_, 1) := by decide +kernel
theorem dX8_rightOf_0 : decode cX8_rightOf 0 = .ok (.iload_n 3, 1) := by decide +kernel
theorem dX8_rightOf_1 : decode cX8_rightOf 1 = .ok (.istore 4, 2) := by decide +kernel
theorem dX8_rightOf_3 : decode cX8_rightOf 3 = .ok (.aload_n 0, 1) := by decide +kernel
theorem dX8_rightOf_4 : decode cX8_rightOf 4 = .ok (.getfield 111, 3) := by decide +kernel
theorem dX8_rightOf_7 : decode cX8_rightOf 7 = .ok (.iconst 1, 1) := by decide +kernel
theorem dX8_rightOf_8 : decode cX8_rightOf 8 = .ok (.isub, 1) := by decide +kernel
theorem dX8_rightOf_9 : decode cX8_rightOf 9 = .ok (.istore 5, 2) := by decide +kernel
theorem dX8_rightOf_11 : decode cX8_rightOf 11 = .ok (.iload 5, 2) := by decide +kernel
theorem dX8_rightOf_13 : decode cX8_rightOf 13 = .ok (.ifCond .lt 45, 3) := by decide +kernel
theorem dX8_rightOf_16 : decode cX8_rightOf 16 = .ok (.aload_n 0, 1) := by decide +kernel
theorem dX8_rightOf_17 : decode cX8_rightOf 17 = .ok (.getfield 50, 3) := by decide +kernel
theorem dX8_rightOf_20 : decode cX8_rightOf 20 = .ok (.iload 5, 2) := by decide +kernel
theorem dX8_rightOf_22 : decode cX8_rightOf 22 = .ok (.iaload, 1) := by decide +kernel
theorem dX8_rightOf_23 : decode cX8_rightOf 23 = .ok (.iload_n 1, 1) := by decide +kernel
theorem dX8_rightOf_24 : decode cX8_rightOf 24 = .ok (.if_icmp .ne 28, 3) := by decide +kernel
theorem dX8_rightOf_27 : decode cX8_rightOf 27 = .ok (.aload_n 0, 1) := by decide +kernel
theorem dX8_rightOf_28 : decode cX8_rightOf 28 = .ok (.getfield 59, 3) := by decide +kernel
theorem dX8_rightOf_31 : decode cX8_rightOf 31 = .ok (.iload 5, 2) := by decide +kernel
theorem dX8_rightOf_33 : decode cX8_rightOf 33 = .ok (.iaload, 1) := by decide +kernel
theorem dX8_rightOf_34 : decode cX8_rightOf 34 = .ok (.iload_n 2, 1) := by decide +kernel
theorem dX8_rightOf_35 : decode cX8_rightOf 35 = .ok (.if_icmp .le 6, 3) := by decide +kernel
theorem dX8_rightOf_38 : decode cX8_rightOf 38 = .ok (.goto 14, 3) := by decide +kernel
theorem dX8_rightOf_41 : decode cX8_rightOf 41 = .ok (.iload 4, 2) := by decide +kernel
theorem dX8_rightOf_43 : decode cX8_rightOf 43 = .ok (.ifCond .ne 6, 3) := by decide +kernel
theorem dX8_rightOf_46 : decode cX8_rightOf 46 = .ok (.iload 5, 2) := by decide +kernel
theorem dX8_rightOf_48 : decode cX8_rightOf 48 = .ok (.ireturn, 1) := by decide +kernel
theorem dX8_rightOf_49 : decode cX8_rightOf 49 = .ok (.iinc 4 (-1), 3) := by decide +kernel
theorem dX8_rightOf_52 : decode cX8_rightOf 52 = .ok (.iinc 5 (-1), 3) := by decide +kernel
theorem dX8_rightOf_55 : decode cX8_rightOf 55 = .ok (.goto (-44), 3) := by decide +kernel
theorem dX8_rightOf_58 : decode cX8_rightOf 58 = .ok (.iconst (-1), 1) := by decide +kernel
theorem dX8_rightOf_59 : decode cX8_rightOf 59 = .ok (.ireturn, 1) := by decide +kernel
theorem dX8_isStrip_0 : decode cX8_isStrip 0 = .ok (.iload_n 1, 1) := by decide +kernel
theorem dX8_isStrip_1 : decode cX8_isStrip 1 = .ok (.iconst 0, 1) := by decide +kernel
theorem dX8_isStrip_2 : decode cX8_isStrip 2 = .ok (.bipush 9, 2) := by decide +kernel
theorem dX8_isStrip_4 : decode cX8_isStrip 4 = .ok (.invokestatic 103, 3) := by decide +kernel
theorem dX8_isStrip_7 : decode cX8_isStrip 7 = .ok (.ifCond .eq 29, 3) := by decide +kernel
theorem dX8_isStrip_10 : decode cX8_isStrip 10 = .ok (.iload_n 2, 1) := by decide +kernel
theorem dX8_isStrip_11 : decode cX8_isStrip 11 = .ok (.iconst 0, 1) := by decide +kernel
theorem dX8_isStrip_12 : decode cX8_isStrip 12 = .ok (.bipush 11, 2) := by decide +kernel
theorem dX8_isStrip_14 : decode cX8_isStrip 14 = .ok (.invokestatic 103, 3) := by decide +kernel
theorem dX8_isStrip_17 : decode cX8_isStrip 17 = .ok (.ifCond .eq 19, 3) := by decide +kernel
theorem dX8_isStrip_20 : decode cX8_isStrip 20 = .ok (.iload_n 3, 1) := by decide +kernel
theorem dX8_isStrip_21 : decode cX8_isStrip 21 = .ok (.iconst 0, 1) := by decide +kernel
theorem dX8_isStrip_22 : decode cX8_isStrip 22 = .ok (.aload_n 0, 1) := by decide +kernel
theorem dX8_isStrip_23 : decode cX8_isStrip 23 = .ok (.getfield 118, 3) := by decide +kernel
theorem dX8_isStrip_26 : decode cX8_isStrip 26 = .ok (.invokestatic 103, 3) := by decide +kernel
theorem dX8_isStrip_29 : decode cX8_isStrip 29 = .ok (.ifCond .eq 7, 3) := by decide +kernel
theorem dX8_isStrip_32 : decode cX8_isStrip 32 = .ok (.iconst 1, 1) := by decide +kernel
theorem dX8_isStrip_33 : decode cX8_isStrip 33 = .ok (.goto 4, 3) := by decide +kernel
theorem dX8_isStrip_36 : decode cX8_isStrip 36 = .ok (.iconst 0, 1) := by decide +kernel
theorem dX8_isStrip_37 : decode cX8_isStrip 37 = .ok (.ireturn, 1) := by decide +kernel
theorem dX8_holder_0 : decode cX8_holder 0 = .ok (.aload_n 0, 1) := by decide +kernel
theorem dX8_holder_1 : decode cX8_holder 1 = .ok (.iload_n 1, 1) := by decide +kernel
theorem dX8_holder_2 : decode cX8_holder 2 = .ok (.iload_n 2, 1) := by decide +kernel
theorem dX8_holder_3 : decode cX8_holder 3 = .ok (.iload_n 3, 1) := by decide +kernel
theorem dX8_holder_4 : decode cX8_holder 4 = .ok (.invokevirtual 121, 3) := by decide +kernel
theorem dX8_holder_7 : decode cX8_holder 7 = .ok (.ifCond .eq 23, 3) := by decide +kernel
theorem dX8_holder_10 : decode cX8_holder 10 = .ok (.aload_n 0, 1) := by decide +kernel
theorem dX8_holder_11 : decode cX8_holder 11 = .ok (.getfield 53, 3) := by decide +kernel
theorem dX8_holder_14 : decode cX8_holder 14 = .ok (.aload_n 0, 1) := by decide +kernel
theorem dX8_holder_15 : decode cX8_holder 15 = .ok (.bipush 12, 2) := by decide +kernel
theorem dX8_holder_17 : decode cX8_holder 17 = .ok (.iload_n 1, 1) := by decide +kernel
theorem dX8_holder_18 : decode cX8_holder 18 = .ok (.imul, 1) := by decide +kernel
theorem dX8_holder_19 : decode cX8_holder 19 = .ok (.iload_n 2, 1) := by decide +kernel
theorem dX8_holder_20 : decode cX8_holder 20 = .ok (.iadd, 1) := by decide +kernel
theorem dX8_holder_21 : decode cX8_holder 21 = .ok (.iload_n 3, 1) := by decide +kernel
theorem dX8_holder_22 : decode cX8_holder 22 = .ok (.iconst 0, 1) := by decide +kernel
theorem dX8_holder_23 : decode cX8_holder 23 = .ok (.invokevirtual 124, 3) := by decide +kernel
theorem dX8_holder_26 : decode cX8_holder 26 = .ok (.iaload, 1) := by decide +kernel
theorem dX8_holder_27 : decode cX8_holder 27 = .ok (.goto 5, 3) := by decide +kernel
theorem dX8_holder_30 : decode cX8_holder 30 = .ok (.bipush (-2), 2) := by decide +kernel
theorem dX8_holder_32 : decode cX8_holder 32 = .ok (.ireturn, 1) := by decide +kernel
theorem dX8_right_0 : decode cX8_right 0 = .ok (.aload_n 0, 1) := by decide +kernel
theorem dX8_right_1 : decode cX8_right 1 = .ok (.iload_n 1, 1) := by decide +kernel
theorem dX8_right_2 : decode cX8_right 2 = .ok (.iload_n 2, 1) := by decide +kernel
theorem dX8_right_3 : decode cX8_right 3 = .ok (.iload_n 3, 1) := by decide +kernel
theorem dX8_right_4 : decode cX8_right 4 = .ok (.invokevirtual 121, 3) := by decide +kernel
theorem dX8_right_7 : decode cX8_right 7 = .ok (.ifCond .eq 8, 3) := by decide +kernel
theorem dX8_right_10 : decode cX8_right 10 = .ok (.iload 4, 2) := by decide +kernel
theorem dX8_right_12 : decode cX8_right 12 = .ok (.ifCond .ge 6, 3) := by decide +kernel
theorem dX8_right_15 : decode cX8_right 15 = .ok (.bipush (-2), 2) := by decide +kernel
theorem dX8_right_17 : decode cX8_right 17 = .ok (.ireturn, 1) := by decide +kernel
theorem dX8_right_18 : decode cX8_right 18 = .ok (.aload_n 0, 1) := by decide +kernel
theorem dX8_right_19 : decode cX8_right 19 = .ok (.bipush 12, 2) := by decide +kernel
theorem dX8_right_21 : decode cX8_right 21 = .ok (.iload_n 1, 1) := by decide +kernel
theorem dX8_right_22 : decode cX8_right 22 = .ok (.imul, 1) := by decide +kernel
theorem dX8_right_23 : decode cX8_right 23 = .ok (.iload_n 2, 1) := by decide +kernel
theorem dX8_right_24 : decode cX8_right 24 = .ok (.iadd, 1) := by decide +kernel
theorem dX8_right_25 : decode cX8_right 25 = .ok (.iload_n 3, 1) := by decide +kernel
theorem dX8_right_26 : decode cX8_right 26 = .ok (.iload 4, 2) := by decide +kernel
theorem dX8_right_28 : decode cX8_right 28 = .ok (.invokevirtual 124, 3) := by decide +kernel
theorem dX8_right_31 : decode cX8_right 31 = .ok (.istore 6, 2) := by decide +kernel
theorem dX8_right_33 : decode cX8_right 33 = .ok (.iload 6, 2) := by decide +kernel
theorem dX8_right_35 : decode cX8_right 35 = .ok (.iconst (-1), 1) := by decide +kernel
theorem dX8_right_36 : decode cX8_right 36 = .ok (.if_icmp .ne 6, 3) := by decide +kernel
theorem dX8_right_39 : decode cX8_right 39 = .ok (.bipush (-2), 2) := by decide +kernel
theorem dX8_right_41 : decode cX8_right 41 = .ok (.ireturn, 1) := by decide +kernel
theorem dX8_right_42 : decode cX8_right 42 = .ok (.iload 5, 2) := by decide +kernel
theorem dX8_right_44 : decode cX8_right 44 = .ok (.ifCond .ne 13, 3) := by decide +kernel
theorem dX8_right_47 : decode cX8_right 47 = .ok (.aload_n 0, 1) := by decide +kernel
theorem dX8_right_48 : decode cX8_right 48 = .ok (.getfield 53, 3) := by decide +kernel
theorem dX8_right_51 : decode cX8_right 51 = .ok (.iload 6, 2) := by decide +kernel
theorem dX8_right_53 : decode cX8_right 53 = .ok (.iaload, 1) := by decide +kernel
theorem dX8_right_54 : decode cX8_right 54 = .ok (.goto 37, 3) := by decide +kernel
theorem dX8_right_57 : decode cX8_right 57 = .ok (.iload 5, 2) := by decide +kernel
theorem dX8_right_59 : decode cX8_right 59 = .ok (.iconst 1, 1) := by decide +kernel
theorem dX8_right_60 : decode cX8_right 60 = .ok (.if_icmp .ne 13, 3) := by decide +kernel
theorem dX8_right_63 : decode cX8_right 63 = .ok (.aload_n 0, 1) := by decide +kernel
theorem dX8_right_64 : decode cX8_right 64 = .ok (.getfield 56, 3) := by decide +kernel
theorem dX8_right_67 : decode cX8_right 67 = .ok (.iload 6, 2) := by decide +kernel
theorem dX8_right_69 : decode cX8_right 69 = .ok (.iaload, 1) := by decide +kernel
theorem dX8_right_70 : decode cX8_right 70 = .ok (.goto 21, 3) := by decide +kernel
theorem dX8_right_73 : decode cX8_right 73 = .ok (.iload 5, 2) := by decide +kernel
theorem dX8_right_75 : decode cX8_right 75 = .ok (.iconst 2, 1) := by decide +kernel
theorem dX8_right_76 : decode cX8_right 76 = .ok (.if_icmp .ne 13, 3) := by decide +kernel
theorem dX8_right_79 : decode cX8_right 79 = .ok (.aload_n 0, 1) := by decide +kernel
theorem dX8_right_80 : decode cX8_right 80 = .ok (.getfield 59, 3) := by decide +kernel
theorem dX8_right_83 : decode cX8_right 83 = .ok (.iload 6, 2) := by decide +kernel
theorem dX8_right_85 : decode cX8_right 85 = .ok (.iaload, 1) := by decide +kernel
theorem dX8_right_86 : decode cX8_right 86 = .ok (.goto 5, 3) := by decide +kernel
theorem dX8_right_89 : decode cX8_right 89 = .ok (.bipush (-2), 2) := by decide +kernel
theorem dX8_right_91 : decode cX8_right 91 = .ok (.ireturn, 1) := by decide +kernel
theorem dX8_custom_0 : decode cX8_custom 0 = .ok (.iload_n 1, 1) := by decide +kernel
theorem dX8_custom_1 : decode cX8_custom 1 = .ok (.ldc 128, 2) := by decide +kernel
theorem dX8_custom_3 : decode cX8_custom 3 = .ok (.idiv, 1) := by decide +kernel
theorem dX8_custom_4 : decode cX8_custom 4 = .ok (.istore_n 3, 1) := by decide +kernel
theorem dX8_custom_5 : decode cX8_custom 5 = .ok (.iload_n 1, 1) := by decide +kernel
theorem dX8_custom_6 : decode cX8_custom 6 = .ok (.sipush 1000, 3) := by decide +kernel
theorem dX8_custom_9 : decode cX8_custom 9 = .ok (.idiv, 1) := by decide +kernel
theorem dX8_custom_10 : decode cX8_custom 10 = .ok (.bipush 100, 2) := by decide +kernel
theorem dX8_custom_12 : decode cX8_custom 12 = .ok (.irem, 1) := by decide +kernel
theorem dX8_custom_13 : decode cX8_custom 13 = .ok (.istore 4, 2) := by decide +kernel
theorem dX8_custom_15 : decode cX8_custom 15 = .ok (.iload_n 1, 1) := by decide +kernel
theorem dX8_custom_16 : decode cX8_custom 16 = .ok (.bipush 100, 2) := by decide +kernel
theorem dX8_custom_18 : decode cX8_custom 18 = .ok (.idiv, 1) := by decide +kernel
theorem dX8_custom_19 : decode cX8_custom 19 = .ok (.bipush 10, 2) := by decide +kernel
theorem dX8_custom_21 : decode cX8_custom 21 = .ok (.irem, 1) := by decide +kernel
theorem dX8_custom_22 : decode cX8_custom 22 = .ok (.istore 5, 2) := by decide +kernel
theorem dX8_custom_24 : decode cX8_custom 24 = .ok (.iload_n 1, 1) := by decide +kernel
theorem dX8_custom_25 : decode cX8_custom 25 = .ok (.bipush 10, 2) := by decide +kernel
theorem dX8_custom_27 : decode cX8_custom 27 = .ok (.idiv, 1) := by decide +kernel
theorem dX8_custom_28 : decode cX8_custom 28 = .ok (.bipush 10, 2) := by decide +kernel
theorem dX8_custom_30 : decode cX8_custom 30 = .ok (.irem, 1) := by decide +kernel
theorem dX8_custom_31 : decode cX8_custom 31 = .ok (.istore 6, 2) := by decide +kernel
theorem dX8_custom_33 : decode cX8_custom 33 = .ok (.iload_n 1, 1) := by decide +kernel
theorem dX8_custom_34 : decode cX8_custom 34 = .ok (.ifCond .lt 44, 3) := by decide +kernel
theorem dX8_custom_37 : decode cX8_custom 37 = .ok (.iload_n 1, 1) := by decide +kernel
theorem dX8_custom_38 : decode cX8_custom 38 = .ok (.bipush 10, 2) := by decide +kernel
theorem dX8_custom_40 : decode cX8_custom 40 = .ok (.irem, 1) := by decide +kernel
theorem dX8_custom_41 : decode cX8_custom 41 = .ok (.ifCond .ne 37, 3) := by decide +kernel
theorem dX8_custom_44 : decode cX8_custom 44 = .ok (.iload_n 3, 1) := by decide +kernel
theorem dX8_custom_45 : decode cX8_custom 45 = .ok (.iconst 2, 1) := by decide +kernel
theorem dX8_custom_46 : decode cX8_custom 46 = .ok (.if_icmp .gt 32, 3) := by decide +kernel
theorem dX8_custom_49 : decode cX8_custom 49 = .ok (.iload 4, 2) := by decide +kernel
theorem dX8_custom_51 : decode cX8_custom 51 = .ok (.bipush 12, 2) := by decide +kernel
theorem dX8_custom_53 : decode cX8_custom 53 = .ok (.if_icmp .gt 25, 3) := by decide +kernel
theorem dX8_custom_56 : decode cX8_custom 56 = .ok (.iload 5, 2) := by decide +kernel
theorem dX8_custom_58 : decode cX8_custom 58 = .ok (.iconst 3, 1) := by decide +kernel
theorem dX8_custom_59 : decode cX8_custom 59 = .ok (.if_icmp .gt 19, 3) := by decide +kernel
theorem dX8_custom_62 : decode cX8_custom 62 = .ok (.iload 6, 2) := by decide +kernel
theorem dX8_custom_64 : decode cX8_custom 64 = .ok (.iconst 3, 1) := by decide +kernel
theorem dX8_custom_65 : decode cX8_custom 65 = .ok (.if_icmp .gt 13, 3) := by decide +kernel
theorem dX8_custom_68 : decode cX8_custom 68 = .ok (.iload_n 2, 1) := by decide +kernel
theorem dX8_custom_69 : decode cX8_custom 69 = .ok (.iconst 0, 1) := by decide +kernel
theorem dX8_custom_70 : decode cX8_custom 70 = .ok (.ldc 129, 2) := by decide +kernel
theorem dX8_custom_72 : decode cX8_custom 72 = .ok (.invokestatic 103, 3) := by decide +kernel
theorem dX8_custom_75 : decode cX8_custom 75 = .ok (.ifCond .ne 5, 3) := by decide +kernel
theorem dX8_custom_78 : decode cX8_custom 78 = .ok (.iconst (-1), 1) := by decide +kernel
theorem dX8_custom_79 : decode cX8_custom 79 = .ok (.ireturn, 1) := by decide +kernel
theorem dX8_custom_80 : decode cX8_custom 80 = .ok (.aload_n 0, 1) := by decide +kernel
theorem dX8_custom_81 : decode cX8_custom 81 = .ok (.iload_n 3, 1) := by decide +kernel
theorem dX8_custom_82 : decode cX8_custom 82 = .ok (.putfield 130, 3) := by decide +kernel
theorem dX8_custom_85 : decode cX8_custom 85 = .ok (.aload_n 0, 1) := by decide +kernel
theorem dX8_custom_86 : decode cX8_custom 86 = .ok (.iload 4, 2) := by decide +kernel
theorem dX8_custom_88 : decode cX8_custom 88 = .ok (.putfield 133, 3) := by decide +kernel
theorem dX8_custom_91 : decode cX8_custom 91 = .ok (.aload_n 0, 1) := by decide +kernel
theorem dX8_custom_92 : decode cX8_custom 92 = .ok (.iload 5, 2) := by decide +kernel
theorem dX8_custom_94 : decode cX8_custom 94 = .ok (.putfield 136, 3) := by decide +kernel
theorem dX8_custom_97 : decode cX8_custom 97 = .ok (.aload_n 0, 1) := by decide +kernel
theorem dX8_custom_98 : decode cX8_custom 98 = .ok (.iload 6, 2) := by decide +kernel
theorem dX8_custom_100 : decode cX8_custom 100 = .ok (.putfield 139, 3) := by decide +kernel
theorem dX8_custom_103 : decode cX8_custom 103 = .ok (.aload_n 0, 1) := by decide +kernel
theorem dX8_custom_104 : decode cX8_custom 104 = .ok (.iload_n 2, 1) := by decide +kernel
theorem dX8_custom_105 : decode cX8_custom 105 = .ok (.sipush 10000, 3) := by decide +kernel
theorem dX8_custom_108 : decode cX8_custom 108 = .ok (.idiv, 1) := by decide +kernel
theorem dX8_custom_109 : decode cX8_custom 109 = .ok (.putfield 142, 3) := by decide +kernel
theorem dX8_custom_112 : decode cX8_custom 112 = .ok (.aload_n 0, 1) := by decide +kernel
theorem dX8_custom_113 : decode cX8_custom 113 = .ok (.iload_n 2, 1) := by decide +kernel
theorem dX8_custom_114 : decode cX8_custom 114 = .ok (.bipush 100, 2) := by decide +kernel
theorem dX8_custom_116 : decode cX8_custom 116 = .ok (.idiv, 1) := by decide +kernel
theorem dX8_custom_117 : decode cX8_custom 117 = .ok (.bipush 100, 2) := by decide +kernel
theorem dX8_custom_119 : decode cX8_custom 119 = .ok (.irem, 1) := by decide +kernel
theorem dX8_custom_120 : decode cX8_custom 120 = .ok (.putfield 145, 3) := by decide +kernel
theorem dX8_custom_123 : decode cX8_custom 123 = .ok (.aload_n 0, 1) := by decide +kernel
theorem dX8_custom_124 : decode cX8_custom 124 = .ok (.iload_n 2, 1) := by decide +kernel
theorem dX8_custom_125 : decode cX8_custom 125 = .ok (.bipush 100, 2) := by decide +kernel
theorem dX8_custom_127 : decode cX8_custom 127 = .ok (.irem, 1) := by decide +kernel
theorem dX8_custom_128 : decode cX8_custom 128 = .ok (.putfield 148, 3) := by decide +kernel
theorem dX8_custom_131 : decode cX8_custom 131 = .ok (.aload_n 0, 1) := by decide +kernel
theorem dX8_custom_132 : decode cX8_custom 132 = .ok (.dup, 1) := by decide +kernel
theorem dX8_custom_133 : decode cX8_custom 133 = .ok (.getfield 151, 3) := by decide +kernel
theorem dX8_custom_136 : decode cX8_custom 136 = .ok (.iconst 1, 1) := by decide +kernel
theorem dX8_custom_137 : decode cX8_custom 137 = .ok (.iadd, 1) := by decide +kernel
theorem dX8_custom_138 : decode cX8_custom 138 = .ok (.putfield 151, 3) := by decide +kernel
theorem dX8_custom_141 : decode cX8_custom 141 = .ok (.aload_n 0, 1) := by decide +kernel
theorem dX8_custom_142 : decode cX8_custom 142 = .ok (.getfield 151, 3) := by decide +kernel
theorem dX8_custom_145 : decode cX8_custom 145 = .ok (.ireturn, 1) := by decide +kernel
theorem dX8_person_0 : decode cX8_person 0 = .ok (.iload_n 1, 1) := by decide +kernel
theorem dX8_person_1 : decode cX8_person 1 = .ok (.iconst 0, 1) := by decide +kernel
theorem dX8_person_2 : decode cX8_person 2 = .ok (.iconst 1, 1) := by decide +kernel
theorem dX8_person_3 : decode cX8_person 3 = .ok (.invokestatic 103, 3) := by decide +kernel
theorem dX8_person_6 : decode cX8_person 6 = .ok (.ifCond .eq 57, 3) := by decide +kernel
theorem dX8_person_9 : decode cX8_person 9 = .ok (.iload_n 2, 1) := by decide +kernel
theorem dX8_person_10 : decode cX8_person 10 = .ok (.iconst (-1), 1) := by decide +kernel
theorem dX8_person_11 : decode cX8_person 11 = .ok (.if_icmp .eq 20, 3) := by decide +kernel
theorem dX8_person_14 : decode cX8_person 14 = .ok (.aload_n 0, 1) := by decide +kernel
theorem dX8_person_15 : decode cX8_person 15 = .ok (.iload_n 2, 1) := by decide +kernel
theorem dX8_person_16 : decode cX8_person 16 = .ok (.invokevirtual 107, 3) := by decide +kernel
theorem dX8_person_19 : decode cX8_person 19 = .ok (.ifCond .eq 44, 3) := by decide +kernel
theorem dX8_person_22 : decode cX8_person 22 = .ok (.aload_n 0, 1) := by decide +kernel
theorem dX8_person_23 : decode cX8_person 23 = .ok (.getfield 9, 3) := by decide +kernel
theorem dX8_person_26 : decode cX8_person 26 = .ok (.iload_n 2, 1) := by decide +kernel
theorem dX8_person_27 : decode cX8_person 27 = .ok (.iaload, 1) := by decide +kernel
theorem dX8_person_28 : decode cX8_person 28 = .ok (.ifCond .ne 35, 3) := by decide +kernel
theorem dX8_person_31 : decode cX8_person 31 = .ok (.iload_n 3, 1) := by decide +kernel
theorem dX8_person_32 : decode cX8_person 32 = .ok (.iconst (-1), 1) := by decide +kernel
theorem dX8_person_33 : decode cX8_person 33 = .ok (.if_icmp .eq 21, 3) := by decide +kernel
theorem dX8_person_36 : decode cX8_person 36 = .ok (.aload_n 0, 1) := by decide +kernel
theorem dX8_person_37 : decode cX8_person 37 = .ok (.iload_n 3, 1) := by decide +kernel
theorem dX8_person_38 : decode cX8_person 38 = .ok (.invokevirtual 107, 3) := by decide +kernel
theorem dX8_person_41 : decode cX8_person 41 = .ok (.ifCond .eq 22, 3) := by decide +kernel
theorem dX8_person_44 : decode cX8_person 44 = .ok (.aload_n 0, 1) := by decide +kernel
theorem dX8_person_45 : decode cX8_person 45 = .ok (.getfield 9, 3) := by decide +kernel
theorem dX8_person_48 : decode cX8_person 48 = .ok (.iload_n 3, 1) := by decide +kernel
theorem dX8_person_49 : decode cX8_person 49 = .ok (.iaload, 1) := by decide +kernel
theorem dX8_person_50 : decode cX8_person 50 = .ok (.iconst 1, 1) := by decide +kernel
theorem dX8_person_51 : decode cX8_person 51 = .ok (.if_icmp .ne 12, 3) := by decide +kernel
theorem dX8_person_54 : decode cX8_person 54 = .ok (.aload_n 0, 1) := by decide +kernel
theorem dX8_person_55 : decode cX8_person 55 = .ok (.getfield 99, 3) := by decide +kernel
theorem dX8_person_58 : decode cX8_person 58 = .ok (.bipush 60, 2) := by decide +kernel
theorem dX8_person_60 : decode cX8_person 60 = .ok (.if_icmp .ne 5, 3) := by decide +kernel
theorem dX8_person_63 : decode cX8_person 63 = .ok (.iconst (-1), 1) := by decide +kernel
theorem dX8_person_64 : decode cX8_person 64 = .ok (.ireturn, 1) := by decide +kernel
theorem dX8_person_65 : decode cX8_person 65 = .ok (.aload_n 0, 1) := by decide +kernel
theorem dX8_person_66 : decode cX8_person 66 = .ok (.getfield 9, 3) := by decide +kernel
theorem dX8_person_69 : decode cX8_person 69 = .ok (.aload_n 0, 1) := by decide +kernel
theorem dX8_person_70 : decode cX8_person 70 = .ok (.getfield 99, 3) := by decide +kernel
theorem dX8_person_73 : decode cX8_person 73 = .ok (.iload_n 1, 1) := by decide +kernel
theorem dX8_person_74 : decode cX8_person 74 = .ok (.iastore, 1) := by decide +kernel
theorem dX8_person_75 : decode cX8_person 75 = .ok (.aload_n 0, 1) := by decide +kernel
theorem dX8_person_76 : decode cX8_person 76 = .ok (.getfield 13, 3) := by decide +kernel
theorem dX8_person_79 : decode cX8_person 79 = .ok (.aload_n 0, 1) := by decide +kernel
theorem dX8_person_80 : decode cX8_person 80 = .ok (.getfield 99, 3) := by decide +kernel
theorem dX8_person_83 : decode cX8_person 83 = .ok (.iload_n 2, 1) := by decide +kernel
theorem dX8_person_84 : decode cX8_person 84 = .ok (.iastore, 1) := by decide +kernel
theorem dX8_person_85 : decode cX8_person 85 = .ok (.aload_n 0, 1) := by decide +kernel
theorem dX8_person_86 : decode cX8_person 86 = .ok (.getfield 16, 3) := by decide +kernel
theorem dX8_person_89 : decode cX8_person 89 = .ok (.aload_n 0, 1) := by decide +kernel
theorem dX8_person_90 : decode cX8_person 90 = .ok (.getfield 99, 3) := by decide +kernel
theorem dX8_person_93 : decode cX8_person 93 = .ok (.iload_n 3, 1) := by decide +kernel
theorem dX8_person_94 : decode cX8_person 94 = .ok (.iastore, 1) := by decide +kernel
theorem dX8_person_95 : decode cX8_person 95 = .ok (.aload_n 0, 1) := by decide +kernel
theorem dX8_person_96 : decode cX8_person 96 = .ok (.getfield 19, 3) := by decide +kernel
theorem dX8_person_99 : decode cX8_person 99 = .ok (.aload_n 0, 1) := by decide +kernel
theorem dX8_person_100 : decode cX8_person 100 = .ok (.getfield 99, 3) := by decide +kernel
theorem dX8_person_103 : decode cX8_person 103 = .ok (.iconst (-1), 1) := by decide +kernel
theorem dX8_person_104 : decode cX8_person 104 = .ok (.iastore, 1) := by decide +kernel
theorem dX8_person_105 : decode cX8_person 105 = .ok (.aload_n 0, 1) := by decide +kernel
theorem dX8_person_106 : decode cX8_person 106 = .ok (.getfield 22, 3) := by decide +kernel
theorem dX8_person_109 : decode cX8_person 109 = .ok (.aload_n 0, 1) := by decide +kernel
theorem dX8_person_110 : decode cX8_person 110 = .ok (.getfield 99, 3) := by decide +kernel
theorem dX8_person_113 : decode cX8_person 113 = .ok (.aload_n 0, 1) := by decide +kernel
theorem dX8_person_114 : decode cX8_person 114 = .ok (.getfield 118, 3) := by decide +kernel
theorem dX8_person_117 : decode cX8_person 117 = .ok (.iastore, 1) := by decide +kernel
theorem dX8_person_118 : decode cX8_person 118 = .ok (.aload_n 0, 1) := by decide +kernel
theorem dX8_person_119 : decode cX8_person 119 = .ok (.getfield 43, 3) := by decide +kernel
theorem dX8_person_122 : decode cX8_person 122 = .ok (.aload_n 0, 1) := by decide +kernel
theorem dX8_person_123 : decode cX8_person 123 = .ok (.getfield 99, 3) := by decide +kernel
theorem dX8_person_126 : decode cX8_person 126 = .ok (.iconst 1, 1) := by decide +kernel
theorem dX8_person_127 : decode cX8_person 127 = .ok (.bastore, 1) := by decide +kernel
theorem dX8_person_128 : decode cX8_person 128 = .ok (.aload_n 0, 1) := by decide +kernel
theorem dX8_person_129 : decode cX8_person 129 = .ok (.dup, 1) := by decide +kernel
theorem dX8_person_130 : decode cX8_person 130 = .ok (.getfield 99, 3) := by decide +kernel
theorem dX8_person_133 : decode cX8_person 133 = .ok (.iconst 1, 1) := by decide +kernel
theorem dX8_person_134 : decode cX8_person 134 = .ok (.iadd, 1) := by decide +kernel
theorem dX8_person_135 : decode cX8_person 135 = .ok (.putfield 99, 3) := by decide +kernel
theorem dX8_person_138 : decode cX8_person 138 = .ok (.aload_n 0, 1) := by decide +kernel
theorem dX8_person_139 : decode cX8_person 139 = .ok (.getfield 99, 3) := by decide +kernel
theorem dX8_person_142 : decode cX8_person 142 = .ok (.iconst 1, 1) := by decide +kernel
theorem dX8_person_143 : decode cX8_person 143 = .ok (.isub, 1) := by decide +kernel
theorem dX8_person_144 : decode cX8_person 144 = .ok (.ireturn, 1) := by decide +kernel
theorem dX8_lines_0 : decode cX8_lines 0 = .ok (.aload_n 0, 1) := by decide +kernel
theorem dX8_lines_1 : decode cX8_lines 1 = .ok (.getfield 99, 3) := by decide +kernel
theorem dX8_lines_4 : decode cX8_lines 4 = .ok (.iconst 1, 1) := by decide +kernel
theorem dX8_lines_5 : decode cX8_lines 5 = .ok (.isub, 1) := by decide +kernel
theorem dX8_lines_6 : decode cX8_lines 6 = .ok (.istore_n 1, 1) := by decide +kernel
theorem dX8_lines_7 : decode cX8_lines 7 = .ok (.iload_n 1, 1) := by decide +kernel
theorem dX8_lines_8 : decode cX8_lines 8 = .ok (.ifCond .lt 77, 3) := by decide +kernel
theorem dX8_lines_11 : decode cX8_lines 11 = .ok (.aload_n 0, 1) := by decide +kernel
theorem dX8_lines_12 : decode cX8_lines 12 = .ok (.getfield 47, 3) := by decide +kernel
theorem dX8_lines_15 : decode cX8_lines 15 = .ok (.iload_n 1, 1) := by decide +kernel
theorem dX8_lines_16 : decode cX8_lines 16 = .ok (.aload_n 0, 1) := by decide +kernel
theorem dX8_lines_17 : decode cX8_lines 17 = .ok (.getfield 43, 3) := by decide +kernel
theorem dX8_lines_20 : decode cX8_lines 20 = .ok (.iload_n 1, 1) := by decide +kernel
theorem dX8_lines_21 : decode cX8_lines 21 = .ok (.baload, 1) := by decide +kernel
theorem dX8_lines_22 : decode cX8_lines 22 = .ok (.bastore, 1) := by decide +kernel
theorem dX8_lines_23 : decode cX8_lines 23 = .ok (.iload_n 1, 1) := by decide +kernel
theorem dX8_lines_24 : decode cX8_lines 24 = .ok (.iconst 1, 1) := by decide +kernel
theorem dX8_lines_25 : decode cX8_lines 25 = .ok (.iadd, 1) := by decide +kernel
theorem dX8_lines_26 : decode cX8_lines 26 = .ok (.istore_n 2, 1) := by decide +kernel
theorem dX8_lines_27 : decode cX8_lines 27 = .ok (.iload_n 2, 1) := by decide +kernel
theorem dX8_lines_28 : decode cX8_lines 28 = .ok (.aload_n 0, 1) := by decide +kernel
theorem dX8_lines_29 : decode cX8_lines 29 = .ok (.getfield 99, 3) := by decide +kernel
theorem dX8_lines_32 : decode cX8_lines 32 = .ok (.if_icmp .ge 47, 3) := by decide +kernel
theorem dX8_lines_35 : decode cX8_lines 35 = .ok (.aload_n 0, 1) := by decide +kernel
theorem dX8_lines_36 : decode cX8_lines 36 = .ok (.getfield 47, 3) := by decide +kernel
theorem dX8_lines_39 : decode cX8_lines 39 = .ok (.iload_n 1, 1) := by decide +kernel
theorem dX8_lines_40 : decode cX8_lines 40 = .ok (.aload_n 0, 1) := by decide +kernel
theorem dX8_lines_41 : decode cX8_lines 41 = .ok (.getfield 47, 3) := by decide +kernel
theorem dX8_lines_44 : decode cX8_lines 44 = .ok (.iload_n 1, 1) := by decide +kernel
theorem dX8_lines_45 : decode cX8_lines 45 = .ok (.baload, 1) := by decide +kernel
theorem dX8_lines_46 : decode cX8_lines 46 = .ok (.ifCond .ne 21, 3) := by decide +kernel
theorem dX8_lines_49 : decode cX8_lines 49 = .ok (.aload_n 0, 1) := by decide +kernel
theorem dX8_lines_50 : decode cX8_lines 50 = .ok (.getfield 47, 3) := by decide +kernel
theorem dX8_lines_53 : decode cX8_lines 53 = .ok (.iload_n 2, 1) := by decide +kernel
theorem dX8_lines_54 : decode cX8_lines 54 = .ok (.baload, 1) := by decide +kernel
theorem dX8_lines_55 : decode cX8_lines 55 = .ok (.ifCond .eq 16, 3) := by decide +kernel
theorem dX8_lines_58 : decode cX8_lines 58 = .ok (.aload_n 0, 1) := by decide +kernel
theorem dX8_lines_59 : decode cX8_lines 59 = .ok (.iload_n 2, 1) := by decide +kernel
theorem dX8_lines_60 : decode cX8_lines 60 = .ok (.iload_n 1, 1) := by decide +kernel
theorem dX8_lines_61 : decode cX8_lines 61 = .ok (.invokevirtual 154, 3) := by decide +kernel
theorem dX8_lines_64 : decode cX8_lines 64 = .ok (.ifCond .eq 7, 3) := by decide +kernel
theorem dX8_lines_67 : decode cX8_lines 67 = .ok (.iconst 1, 1) := by decide +kernel
theorem dX8_lines_68 : decode cX8_lines 68 = .ok (.goto 4, 3) := by decide +kernel
theorem dX8_lines_71 : decode cX8_lines 71 = .ok (.iconst 0, 1) := by decide +kernel
theorem dX8_lines_72 : decode cX8_lines 72 = .ok (.bastore, 1) := by decide +kernel
theorem dX8_lines_73 : decode cX8_lines 73 = .ok (.iinc 2 1, 3) := by decide +kernel
theorem dX8_lines_76 : decode cX8_lines 76 = .ok (.goto (-49), 3) := by decide +kernel
theorem dX8_lines_79 : decode cX8_lines 79 = .ok (.iinc 1 (-1), 3) := by decide +kernel
theorem dX8_lines_82 : decode cX8_lines 82 = .ok (.goto (-75), 3) := by decide +kernel
theorem dX8_lines_85 : decode cX8_lines 85 = .ok (.return_, 1) := by decide +kernel
theorem dX8_isChild_0 : decode cX8_isChild 0 = .ok (.aload_n 0, 1) := by decide +kernel
theorem dX8_isChild_1 : decode cX8_isChild 1 = .ok (.getfield 13, 3) := by decide +kernel
theorem dX8_isChild_4 : decode cX8_isChild 4 = .ok (.iload_n 1, 1) := by decide +kernel
theorem dX8_isChild_5 : decode cX8_isChild 5 = .ok (.iaload, 1) := by decide +kernel
theorem dX8_isChild_6 : decode cX8_isChild 6 = .ok (.iload_n 2, 1) := by decide +kernel
theorem dX8_isChild_7 : decode cX8_isChild 7 = .ok (.if_icmp .eq 13, 3) := by decide +kernel
theorem dX8_isChild_10 : decode cX8_isChild 10 = .ok (.aload_n 0, 1) := by decide +kernel
theorem dX8_isChild_11 : decode cX8_isChild 11 = .ok (.getfield 16, 3) := by decide +kernel
theorem dX8_isChild_14 : decode cX8_isChild 14 = .ok (.iload_n 1, 1) := by decide +kernel
theorem dX8_isChild_15 : decode cX8_isChild 15 = .ok (.iaload, 1) := by decide +kernel
theorem dX8_isChild_16 : decode cX8_isChild 16 = .ok (.iload_n 2, 1) := by decide +kernel
theorem dX8_isChild_17 : decode cX8_isChild 17 = .ok (.if_icmp .ne 7, 3) := by decide +kernel
theorem dX8_isChild_20 : decode cX8_isChild 20 = .ok (.iconst 1, 1) := by decide +kernel
theorem dX8_isChild_21 : decode cX8_isChild 21 = .ok (.goto 4, 3) := by decide +kernel
theorem dX8_isChild_24 : decode cX8_isChild 24 = .ok (.iconst 0, 1) := by decide +kernel
theorem dX8_isChild_25 : decode cX8_isChild 25 = .ok (.ireturn, 1) := by decide +kernel
theorem dX8_group_0 : decode cX8_group 0 = .ok (.aload_n 0, 1) := by decide +kernel
theorem dX8_group_1 : decode cX8_group 1 = .ok (.getfield 158, 3) := by decide +kernel
theorem dX8_group_4 : decode cX8_group 4 = .ok (.istore_n 3, 1) := by decide +kernel
theorem dX8_group_5 : decode cX8_group 5 = .ok (.iconst 0, 1) := by decide +kernel
theorem dX8_group_6 : decode cX8_group 6 = .ok (.istore 4, 2) := by decide +kernel
theorem dX8_group_8 : decode cX8_group 8 = .ok (.iload 4, 2) := by decide +kernel
theorem dX8_group_10 : decode cX8_group 10 = .ok (.iconst 2, 1) := by decide +kernel
theorem dX8_group_11 : decode cX8_group 11 = .ok (.if_icmp .ge 185, 3) := by decide +kernel
theorem dX8_group_14 : decode cX8_group 14 = .ok (.aload_n 0, 1) := by decide +kernel
theorem dX8_group_15 : decode cX8_group 15 = .ok (.getfield 158, 3) := by decide +kernel
theorem dX8_group_18 : decode cX8_group 18 = .ok (.iload_n 3, 1) := by decide +kernel
theorem dX8_group_19 : decode cX8_group 19 = .ok (.if_icmp .ne 177, 3) := by decide +kernel
theorem dX8_group_22 : decode cX8_group 22 = .ok (.iconst (-1), 1) := by decide +kernel
theorem dX8_group_23 : decode cX8_group 23 = .ok (.istore 5, 2) := by decide +kernel
theorem dX8_group_25 : decode cX8_group 25 = .ok (.iconst (-1), 1) := by decide +kernel
theorem dX8_group_26 : decode cX8_group 26 = .ok (.istore 6, 2) := by decide +kernel
theorem dX8_group_28 : decode cX8_group 28 = .ok (.iconst 0, 1) := by decide +kernel
theorem dX8_group_29 : decode cX8_group 29 = .ok (.istore 7, 2) := by decide +kernel
theorem dX8_group_31 : decode cX8_group 31 = .ok (.iload 7, 2) := by decide +kernel
theorem dX8_group_33 : decode cX8_group 33 = .ok (.aload_n 0, 1) := by decide +kernel
theorem dX8_group_34 : decode cX8_group 34 = .ok (.getfield 99, 3) := by decide +kernel
theorem dX8_group_37 : decode cX8_group 37 = .ok (.if_icmp .ge 101, 3) := by decide +kernel
theorem dX8_group_40 : decode cX8_group 40 = .ok (.iload 7, 2) := by decide +kernel
theorem dX8_group_42 : decode cX8_group 42 = .ok (.iload_n 2, 1) := by decide +kernel
theorem dX8_group_43 : decode cX8_group 43 = .ok (.if_icmp .eq 89, 3) := by decide +kernel
theorem dX8_group_46 : decode cX8_group 46 = .ok (.aload_n 0, 1) := by decide +kernel
theorem dX8_group_47 : decode cX8_group 47 = .ok (.getfield 9, 3) := by decide +kernel
theorem dX8_group_50 : decode cX8_group 50 = .ok (.iload 7, 2) := by decide +kernel
theorem dX8_group_52 : decode cX8_group 52 = .ok (.iaload, 1) := by decide +kernel
theorem dX8_group_53 : decode cX8_group 53 = .ok (.iload 4, 2) := by decide +kernel
theorem dX8_group_55 : decode cX8_group 55 = .ok (.if_icmp .ne 77, 3) := by decide +kernel
theorem dX8_group_58 : decode cX8_group 58 = .ok (.aload_n 0, 1) := by decide +kernel
theorem dX8_group_59 : decode cX8_group 59 = .ok (.getfield 47, 3) := by decide +kernel
theorem dX8_group_62 : decode cX8_group 62 = .ok (.iload 7, 2) := by decide +kernel
theorem dX8_group_64 : decode cX8_group 64 = .ok (.baload, 1) := by decide +kernel
theorem dX8_group_65 : decode cX8_group 65 = .ok (.ifCond .eq 67, 3) := by decide +kernel
theorem dX8_group_68 : decode cX8_group 68 = .ok (.aload_n 0, 1) := by decide +kernel
theorem dX8_group_69 : decode cX8_group 69 = .ok (.iload 7, 2) := by decide +kernel
theorem dX8_group_71 : decode cX8_group 71 = .ok (.iload_n 1, 1) := by decide +kernel
theorem dX8_group_72 : decode cX8_group 72 = .ok (.invokevirtual 154, 3) := by decide +kernel
theorem dX8_group_75 : decode cX8_group 75 = .ok (.ifCond .ne 6, 3) := by decide +kernel
theorem dX8_group_78 : decode cX8_group 78 = .ok (.goto 54, 3) := by decide +kernel
theorem dX8_group_81 : decode cX8_group 81 = .ok (.iload 5, 2) := by decide +kernel
theorem dX8_group_83 : decode cX8_group 83 = .ok (.iconst (-1), 1) := by decide +kernel
theorem dX8_group_84 : decode cX8_group 84 = .ok (.if_icmp .ne 7, 3) := by decide +kernel
theorem dX8_group_87 : decode cX8_group 87 = .ok (.iload 7, 2) := by decide +kernel
theorem dX8_group_89 : decode cX8_group 89 = .ok (.istore 5, 2) := by decide +kernel
theorem dX8_group_91 : decode cX8_group 91 = .ok (.iload 7, 2) := by decide +kernel
theorem dX8_group_93 : decode cX8_group 93 = .ok (.istore 6, 2) := by decide +kernel
theorem dX8_group_95 : decode cX8_group 95 = .ok (.iload 4, 2) := by decide +kernel
theorem dX8_group_97 : decode cX8_group 97 = .ok (.ifCond .ne 14, 3) := by decide +kernel
theorem dX8_group_100 : decode cX8_group 100 = .ok (.aload_n 0, 1) := by decide +kernel
theorem dX8_group_101 : decode cX8_group 101 = .ok (.getfield 130, 3) := by decide +kernel
theorem dX8_group_104 : decode cX8_group 104 = .ok (.iconst 2, 1) := by decide +kernel
theorem dX8_group_105 : decode cX8_group 105 = .ok (.if_icmp .ge 6, 3) := by decide +kernel
theorem dX8_group_108 : decode cX8_group 108 = .ok (.goto 24, 3) := by decide +kernel
theorem dX8_group_111 : decode cX8_group 111 = .ok (.aload_n 0, 1) := by decide +kernel
theorem dX8_group_112 : decode cX8_group 112 = .ok (.getfield 89, 3) := by decide +kernel
theorem dX8_group_115 : decode cX8_group 115 = .ok (.aload_n 0, 1) := by decide +kernel
theorem dX8_group_116 : decode cX8_group 116 = .ok (.getfield 158, 3) := by decide +kernel
theorem dX8_group_119 : decode cX8_group 119 = .ok (.iload 7, 2) := by decide +kernel
theorem dX8_group_121 : decode cX8_group 121 = .ok (.iastore, 1) := by decide +kernel
theorem dX8_group_122 : decode cX8_group 122 = .ok (.aload_n 0, 1) := by decide +kernel
theorem dX8_group_123 : decode cX8_group 123 = .ok (.dup, 1) := by decide +kernel
theorem dX8_group_124 : decode cX8_group 124 = .ok (.getfield 158, 3) := by decide +kernel
theorem dX8_group_127 : decode cX8_group 127 = .ok (.iconst 1, 1) := by decide +kernel
theorem dX8_group_128 : decode cX8_group 128 = .ok (.iadd, 1) := by decide +kernel
theorem dX8_group_129 : decode cX8_group 129 = .ok (.putfield 158, 3) := by decide +kernel
theorem dX8_group_132 : decode cX8_group 132 = .ok (.iinc 7 1, 3) := by decide +kernel
theorem dX8_group_135 : decode cX8_group 135 = .ok (.goto (-104), 3) := by decide +kernel
theorem dX8_group_138 : decode cX8_group 138 = .ok (.iload 4, 2) := by decide +kernel
theorem dX8_group_140 : decode cX8_group 140 = .ok (.ifCond .ne 50, 3) := by decide +kernel
theorem dX8_group_143 : decode cX8_group 143 = .ok (.aload_n 0, 1) := by decide +kernel
theorem dX8_group_144 : decode cX8_group 144 = .ok (.getfield 130, 3) := by decide +kernel
theorem dX8_group_147 : decode cX8_group 147 = .ok (.iconst 2, 1) := by decide +kernel
theorem dX8_group_148 : decode cX8_group 148 = .ok (.if_icmp .ge 42, 3) := by decide +kernel
theorem dX8_group_151 : decode cX8_group 151 = .ok (.iload 5, 2) := by decide +kernel
theorem dX8_group_153 : decode cX8_group 153 = .ok (.iconst (-1), 1) := by decide +kernel
theorem dX8_group_154 : decode cX8_group 154 = .ok (.if_icmp .eq 36, 3) := by decide +kernel
theorem dX8_group_157 : decode cX8_group 157 = .ok (.aload_n 0, 1) := by decide +kernel
theorem dX8_group_158 : decode cX8_group 158 = .ok (.getfield 89, 3) := by decide +kernel
theorem dX8_group_161 : decode cX8_group 161 = .ok (.aload_n 0, 1) := by decide +kernel
theorem dX8_group_162 : decode cX8_group 162 = .ok (.getfield 158, 3) := by decide +kernel
theorem dX8_group_165 : decode cX8_group 165 = .ok (.aload_n 0, 1) := by decide +kernel
theorem dX8_group_166 : decode cX8_group 166 = .ok (.getfield 130, 3) := by decide +kernel
theorem dX8_group_169 : decode cX8_group 169 = .ok (.ifCond .ne 8, 3) := by decide +kernel
theorem dX8_group_172 : decode cX8_group 172 = .ok (.iload 5, 2) := by decide +kernel
theorem dX8_group_174 : decode cX8_group 174 = .ok (.goto 5, 3) := by decide +kernel
theorem dX8_group_177 : decode cX8_group 177 = .ok (.iload 6, 2) := by decide +kernel
theorem dX8_group_179 : decode cX8_group 179 = .ok (.iastore, 1) := by decide +kernel
theorem dX8_group_180 : decode cX8_group 180 = .ok (.aload_n 0, 1) := by decide +kernel
theorem dX8_group_181 : decode cX8_group 181 = .ok (.dup, 1) := by decide +kernel
theorem dX8_group_182 : decode cX8_group 182 = .ok (.getfield 158, 3) := by decide +kernel
theorem dX8_group_185 : decode cX8_group 185 = .ok (.iconst 1, 1) := by decide +kernel
theorem dX8_group_186 : decode cX8_group 186 = .ok (.iadd, 1) := by decide +kernel
theorem dX8_group_187 : decode cX8_group 187 = .ok (.putfield 158, 3) := by decide +kernel
theorem dX8_group_190 : decode cX8_group 190 = .ok (.iinc 4 1, 3) := by decide +kernel
theorem dX8_group_193 : decode cX8_group 193 = .ok (.goto (-185), 3) := by decide +kernel
theorem dX8_group_196 : decode cX8_group 196 = .ok (.aload_n 0, 1) := by decide +kernel
theorem dX8_group_197 : decode cX8_group 197 = .ok (.getfield 158, 3) := by decide +kernel
theorem dX8_group_200 : decode cX8_group 200 = .ok (.iload_n 3, 1) := by decide +kernel
theorem dX8_group_201 : decode cX8_group 201 = .ok (.isub, 1) := by decide +kernel
theorem dX8_group_202 : decode cX8_group 202 = .ok (.ireturn, 1) := by decide +kernel
theorem dX8_first_0 : decode cX8_first 0 = .ok (.aload_n 0, 1) := by decide +kernel
theorem dX8_first_1 : decode cX8_first 1 = .ok (.iload_n 1, 1) := by decide +kernel
theorem dX8_first_2 : decode cX8_first 2 = .ok (.iconst (-1), 1) := by decide +kernel
theorem dX8_first_3 : decode cX8_first 3 = .ok (.invokevirtual 161, 3) := by decide +kernel
theorem dX8_first_6 : decode cX8_first 6 = .ok (.istore_n 2, 1) := by decide +kernel
theorem dX8_first_7 : decode cX8_first 7 = .ok (.iload_n 2, 1) := by decide +kernel
theorem dX8_first_8 : decode cX8_first 8 = .ok (.ifCond .gt 13, 3) := by decide +kernel
theorem dX8_first_11 : decode cX8_first 11 = .ok (.aload_n 0, 1) := by decide +kernel
theorem dX8_first_12 : decode cX8_first 12 = .ok (.getfield 13, 3) := by decide +kernel
theorem dX8_first_15 : decode cX8_first 15 = .ok (.iload_n 1, 1) := by decide +kernel
theorem dX8_first_16 : decode cX8_first 16 = .ok (.iaload, 1) := by decide +kernel
theorem dX8_first_17 : decode cX8_first 17 = .ok (.iconst (-1), 1) := by decide +kernel
theorem dX8_first_18 : decode cX8_first 18 = .ok (.if_icmp .ne 7, 3) := by decide +kernel
theorem dX8_first_21 : decode cX8_first 21 = .ok (.iload_n 2, 1) := by decide +kernel
theorem dX8_first_22 : decode cX8_first 22 = .ok (.goto 14, 3) := by decide +kernel
theorem dX8_first_25 : decode cX8_first 25 = .ok (.aload_n 0, 1) := by decide +kernel
theorem dX8_first_26 : decode cX8_first 26 = .ok (.aload_n 0, 1) := by decide +kernel
theorem dX8_first_27 : decode cX8_first 27 = .ok (.getfield 13, 3) := by decide +kernel
theorem dX8_first_30 : decode cX8_first 30 = .ok (.iload_n 1, 1) := by decide +kernel
theorem dX8_first_31 : decode cX8_first 31 = .ok (.iaload, 1) := by decide +kernel
theorem dX8_first_32 : decode cX8_first 32 = .ok (.iload_n 1, 1) := by decide +kernel
theorem dX8_first_33 : decode cX8_first 33 = .ok (.invokevirtual 161, 3) := by decide +kernel
theorem dX8_first_36 : decode cX8_first 36 = .ok (.ireturn, 1) := by decide +kernel
theorem dX8_listed_0 : decode cX8_listed 0 = .ok (.iconst 0, 1) := by decide +kernel
theorem dX8_listed_1 : decode cX8_listed 1 = .ok (.istore_n 3, 1) := by decide +kernel
theorem dX8_listed_2 : decode cX8_listed 2 = .ok (.iload_n 3, 1) := by decide +kernel
theorem dX8_listed_3 : decode cX8_listed 3 = .ok (.iload_n 2, 1) := by decide +kernel
theorem dX8_listed_4 : decode cX8_listed 4 = .ok (.if_icmp .ge 96, 3) := by decide +kernel
theorem dX8_listed_7 : decode cX8_listed 7 = .ok (.aload_n 0, 1) := by decide +kernel
theorem dX8_listed_8 : decode cX8_listed 8 = .ok (.getfield 89, 3) := by decide +kernel
theorem dX8_listed_11 : decode cX8_listed 11 = .ok (.iload_n 1, 1) := by decide +kernel
theorem dX8_listed_12 : decode cX8_listed 12 = .ok (.iload_n 3, 1) := by decide +kernel
theorem dX8_listed_13 : decode cX8_listed 13 = .ok (.iadd, 1) := by decide +kernel
theorem dX8_listed_14 : decode cX8_listed 14 = .ok (.iaload, 1) := by decide +kernel
theorem dX8_listed_15 : decode cX8_listed 15 = .ok (.istore 4, 2) := by decide +kernel
theorem dX8_listed_17 : decode cX8_listed 17 = .ok (.aload_n 0, 1) := by decide +kernel
theorem dX8_listed_18 : decode cX8_listed 18 = .ok (.getfield 43, 3) := by decide +kernel
theorem dX8_listed_21 : decode cX8_listed 21 = .ok (.iload 4, 2) := by decide +kernel
theorem dX8_listed_23 : decode cX8_listed 23 = .ok (.baload, 1) := by decide +kernel
theorem dX8_listed_24 : decode cX8_listed 24 = .ok (.ifCond .eq 30, 3) := by decide +kernel
theorem dX8_listed_27 : decode cX8_listed 27 = .ok (.aload_n 0, 1) := by decide +kernel
theorem dX8_listed_28 : decode cX8_listed 28 = .ok (.getfield 165, 3) := by decide +kernel
theorem dX8_listed_31 : decode cX8_listed 31 = .ok (.aload_n 0, 1) := by decide +kernel
theorem dX8_listed_32 : decode cX8_listed 32 = .ok (.getfield 168, 3) := by decide +kernel
theorem dX8_listed_35 : decode cX8_listed 35 = .ok (.if_icmp .ne 6, 3) := by decide +kernel
theorem dX8_listed_38 : decode cX8_listed 38 = .ok (.iload 4, 2) := by decide +kernel
theorem dX8_listed_40 : decode cX8_listed 40 = .ok (.ireturn, 1) := by decide +kernel
theorem dX8_listed_41 : decode cX8_listed 41 = .ok (.aload_n 0, 1) := by decide +kernel
theorem dX8_listed_42 : decode cX8_listed 42 = .ok (.dup, 1) := by decide +kernel
theorem dX8_listed_43 : decode cX8_listed 43 = .ok (.getfield 165, 3) := by decide +kernel
theorem dX8_listed_46 : decode cX8_listed 46 = .ok (.iconst 1, 1) := by decide +kernel
theorem dX8_listed_47 : decode cX8_listed 47 = .ok (.iadd, 1) := by decide +kernel
theorem dX8_listed_48 : decode cX8_listed 48 = .ok (.putfield 165, 3) := by decide +kernel
theorem dX8_listed_51 : decode cX8_listed 51 = .ok (.goto 43, 3) := by decide +kernel
theorem dX8_listed_54 : decode cX8_listed 54 = .ok (.aload_n 0, 1) := by decide +kernel
theorem dX8_listed_55 : decode cX8_listed 55 = .ok (.getfield 158, 3) := by decide +kernel
theorem dX8_listed_58 : decode cX8_listed 58 = .ok (.istore 5, 2) := by decide +kernel
theorem dX8_listed_60 : decode cX8_listed 60 = .ok (.aload_n 0, 1) := by decide +kernel
theorem dX8_listed_61 : decode cX8_listed 61 = .ok (.iload 4, 2) := by decide +kernel
theorem dX8_listed_63 : decode cX8_listed 63 = .ok (.iconst (-1), 1) := by decide +kernel
theorem dX8_listed_64 : decode cX8_listed 64 = .ok (.invokevirtual 161, 3) := by decide +kernel
theorem dX8_listed_67 : decode cX8_listed 67 = .ok (.istore 6, 2) := by decide +kernel
theorem dX8_listed_69 : decode cX8_listed 69 = .ok (.aload_n 0, 1) := by decide +kernel
theorem dX8_listed_70 : decode cX8_listed 70 = .ok (.iload 5, 2) := by decide +kernel
theorem dX8_listed_72 : decode cX8_listed 72 = .ok (.iload 6, 2) := by decide +kernel
theorem dX8_listed_74 : decode cX8_listed 74 = .ok (.invokevirtual 171, 3) := by decide +kernel
theorem dX8_listed_77 : decode cX8_listed 77 = .ok (.istore 7, 2) := by decide +kernel
theorem dX8_listed_79 : decode cX8_listed 79 = .ok (.aload_n 0, 1) := by decide +kernel
theorem dX8_listed_80 : decode cX8_listed 80 = .ok (.iload 5, 2) := by decide +kernel
theorem dX8_listed_82 : decode cX8_listed 82 = .ok (.putfield 158, 3) := by decide +kernel
theorem dX8_listed_85 : decode cX8_listed 85 = .ok (.iload 7, 2) := by decide +kernel
theorem dX8_listed_87 : decode cX8_listed 87 = .ok (.iconst (-1), 1) := by decide +kernel
theorem dX8_listed_88 : decode cX8_listed 88 = .ok (.if_icmp .eq 6, 3) := by decide +kernel
theorem dX8_listed_91 : decode cX8_listed 91 = .ok (.iload 7, 2) := by decide +kernel
theorem dX8_listed_93 : decode cX8_listed 93 = .ok (.ireturn, 1) := by decide +kernel
theorem dX8_listed_94 : decode cX8_listed 94 = .ok (.iinc 3 1, 3) := by decide +kernel
theorem dX8_listed_97 : decode cX8_listed 97 = .ok (.goto (-95), 3) := by decide +kernel
theorem dX8_listed_100 : decode cX8_listed 100 = .ok (.iconst (-1), 1) := by decide +kernel
theorem dX8_listed_101 : decode cX8_listed 101 = .ok (.ireturn, 1) := by decide +kernel
theorem dX8_heir_0 : decode cX8_heir 0 = .ok (.aload_n 0, 1) := by decide +kernel
theorem dX8_heir_1 : decode cX8_heir 1 = .ok (.iload_n 1, 1) := by decide +kernel
theorem dX8_heir_2 : decode cX8_heir 2 = .ok (.invokevirtual 107, 3) := by decide +kernel
theorem dX8_heir_5 : decode cX8_heir 5 = .ok (.ifCond .eq 13, 3) := by decide +kernel
theorem dX8_heir_8 : decode cX8_heir 8 = .ok (.iload_n 2, 1) := by decide +kernel
theorem dX8_heir_9 : decode cX8_heir 9 = .ok (.iconst 0, 1) := by decide +kernel
theorem dX8_heir_10 : decode cX8_heir 10 = .ok (.bipush 39, 2) := by decide +kernel
theorem dX8_heir_12 : decode cX8_heir 12 = .ok (.invokestatic 103, 3) := by decide +kernel
theorem dX8_heir_15 : decode cX8_heir 15 = .ok (.ifCond .ne 5, 3) := by decide +kernel
theorem dX8_heir_18 : decode cX8_heir 18 = .ok (.iconst (-1), 1) := by decide +kernel
theorem dX8_heir_19 : decode cX8_heir 19 = .ok (.ireturn, 1) := by decide +kernel
theorem dX8_heir_20 : decode cX8_heir 20 = .ok (.aload_n 0, 1) := by decide +kernel
theorem dX8_heir_21 : decode cX8_heir 21 = .ok (.getfield 43, 3) := by decide +kernel
theorem dX8_heir_24 : decode cX8_heir 24 = .ok (.iload_n 1, 1) := by decide +kernel
theorem dX8_heir_25 : decode cX8_heir 25 = .ok (.baload, 1) := by decide +kernel
theorem dX8_heir_26 : decode cX8_heir 26 = .ok (.istore_n 3, 1) := by decide +kernel
theorem dX8_heir_27 : decode cX8_heir 27 = .ok (.aload_n 0, 1) := by decide +kernel
theorem dX8_heir_28 : decode cX8_heir 28 = .ok (.getfield 43, 3) := by decide +kernel
theorem dX8_heir_31 : decode cX8_heir 31 = .ok (.iload_n 1, 1) := by decide +kernel
theorem dX8_heir_32 : decode cX8_heir 32 = .ok (.iconst 0, 1) := by decide +kernel
theorem dX8_heir_33 : decode cX8_heir 33 = .ok (.bastore, 1) := by decide +kernel
theorem dX8_heir_34 : decode cX8_heir 34 = .ok (.aload_n 0, 1) := by decide +kernel
theorem dX8_heir_35 : decode cX8_heir 35 = .ok (.invokevirtual 174, 3) := by decide +kernel
theorem dX8_heir_38 : decode cX8_heir 38 = .ok (.aload_n 0, 1) := by decide +kernel
theorem dX8_heir_39 : decode cX8_heir 39 = .ok (.iconst 0, 1) := by decide +kernel
theorem dX8_heir_40 : decode cX8_heir 40 = .ok (.putfield 158, 3) := by decide +kernel
theorem dX8_heir_43 : decode cX8_heir 43 = .ok (.aload_n 0, 1) := by decide +kernel
theorem dX8_heir_44 : decode cX8_heir 44 = .ok (.iconst 0, 1) := by decide +kernel
theorem dX8_heir_45 : decode cX8_heir 45 = .ok (.putfield 165, 3) := by decide +kernel
theorem dX8_heir_48 : decode cX8_heir 48 = .ok (.aload_n 0, 1) := by decide +kernel
theorem dX8_heir_49 : decode cX8_heir 49 = .ok (.iload_n 2, 1) := by decide +kernel
theorem dX8_heir_50 : decode cX8_heir 50 = .ok (.putfield 168, 3) := by decide +kernel
theorem dX8_heir_53 : decode cX8_heir 53 = .ok (.aload_n 0, 1) := by decide +kernel
theorem dX8_heir_54 : decode cX8_heir 54 = .ok (.iload_n 1, 1) := by decide +kernel
theorem dX8_heir_55 : decode cX8_heir 55 = .ok (.invokevirtual 177, 3) := by decide +kernel
theorem dX8_heir_58 : decode cX8_heir 58 = .ok (.istore 4, 2) := by decide +kernel
theorem dX8_heir_60 : decode cX8_heir 60 = .ok (.aload_n 0, 1) := by decide +kernel
theorem dX8_heir_61 : decode cX8_heir 61 = .ok (.iconst 0, 1) := by decide +kernel
theorem dX8_heir_62 : decode cX8_heir 62 = .ok (.iload 4, 2) := by decide +kernel
theorem dX8_heir_64 : decode cX8_heir 64 = .ok (.invokevirtual 171, 3) := by decide +kernel
theorem dX8_heir_67 : decode cX8_heir 67 = .ok (.istore 5, 2) := by decide +kernel
theorem dX8_heir_69 : decode cX8_heir 69 = .ok (.aload_n 0, 1) := by decide +kernel
theorem dX8_heir_70 : decode cX8_heir 70 = .ok (.getfield 43, 3) := by decide +kernel
theorem dX8_heir_73 : decode cX8_heir 73 = .ok (.iload_n 1, 1) := by decide +kernel
theorem dX8_heir_74 : decode cX8_heir 74 = .ok (.iload_n 3, 1) := by decide +kernel
theorem dX8_heir_75 : decode cX8_heir 75 = .ok (.bastore, 1) := by decide +kernel
theorem dX8_heir_76 : decode cX8_heir 76 = .ok (.iload 5, 2) := by decide +kernel
theorem dX8_heir_78 : decode cX8_heir 78 = .ok (.ireturn, 1) := by decide +kernel
theorem dX8_shares_0 : decode cX8_shares 0 = .ok (.iload_n 1, 1) := by decide +kernel
theorem dX8_shares_1 : decode cX8_shares 1 = .ok (.istore 5, 2) := by decide +kernel
theorem dX8_shares_3 : decode cX8_shares 3 = .ok (.iconst 0, 1) := by decide +kernel
theorem dX8_shares_4 : decode cX8_shares 4 = .ok (.istore 6, 2) := by decide +kernel
theorem dX8_shares_6 : decode cX8_shares 6 = .ok (.iload 6, 2) := by decide +kernel
theorem dX8_shares_8 : decode cX8_shares 8 = .ok (.iload 4, 2) := by decide +kernel
theorem dX8_shares_10 : decode cX8_shares 10 = .ok (.if_icmp .ge 137, 3) := by decide +kernel
theorem dX8_shares_13 : decode cX8_shares 13 = .ok (.iload_n 2, 1) := by decide +kernel
theorem dX8_shares_14 : decode cX8_shares 14 = .ok (.iload 4, 2) := by decide +kernel
theorem dX8_shares_16 : decode cX8_shares 16 = .ok (.idiv, 1) := by decide +kernel
theorem dX8_shares_17 : decode cX8_shares 17 = .ok (.iload 6, 2) := by decide +kernel
theorem dX8_shares_19 : decode cX8_shares 19 = .ok (.iload_n 2, 1) := by decide +kernel
theorem dX8_shares_20 : decode cX8_shares 20 = .ok (.iload 4, 2) := by decide +kernel
theorem dX8_shares_22 : decode cX8_shares 22 = .ok (.irem, 1) := by decide +kernel
theorem dX8_shares_23 : decode cX8_shares 23 = .ok (.if_icmp .ge 7, 3) := by decide +kernel
theorem dX8_shares_26 : decode cX8_shares 26 = .ok (.iconst 1, 1) := by decide +kernel
theorem dX8_shares_27 : decode cX8_shares 27 = .ok (.goto 4, 3) := by decide +kernel
theorem dX8_shares_30 : decode cX8_shares 30 = .ok (.iconst 0, 1) := by decide +kernel
theorem dX8_shares_31 : decode cX8_shares 31 = .ok (.iadd, 1) := by decide +kernel
theorem dX8_shares_32 : decode cX8_shares 32 = .ok (.istore 7, 2) := by decide +kernel
theorem dX8_shares_34 : decode cX8_shares 34 = .ok (.aload_n 0, 1) := by decide +kernel
theorem dX8_shares_35 : decode cX8_shares 35 = .ok (.getfield 89, 3) := by decide +kernel
theorem dX8_shares_38 : decode cX8_shares 38 = .ok (.iload_n 3, 1) := by decide +kernel
theorem dX8_shares_39 : decode cX8_shares 39 = .ok (.iload 6, 2) := by decide +kernel
theorem dX8_shares_41 : decode cX8_shares 41 = .ok (.iadd, 1) := by decide +kernel
theorem dX8_shares_42 : decode cX8_shares 42 = .ok (.iaload, 1) := by decide +kernel
theorem dX8_shares_43 : decode cX8_shares 43 = .ok (.istore 8, 2) := by decide +kernel
theorem dX8_shares_45 : decode cX8_shares 45 = .ok (.iload 7, 2) := by decide +kernel
theorem dX8_shares_47 : decode cX8_shares 47 = .ok (.ifCond .le 49, 3) := by decide +kernel
theorem dX8_shares_50 : decode cX8_shares 50 = .ok (.aload_n 0, 1) := by decide +kernel
theorem dX8_shares_51 : decode cX8_shares 51 = .ok (.getfield 43, 3) := by decide +kernel
theorem dX8_shares_54 : decode cX8_shares 54 = .ok (.iload 8, 2) := by decide +kernel
theorem dX8_shares_56 : decode cX8_shares 56 = .ok (.baload, 1) := by decide +kernel
theorem dX8_shares_57 : decode cX8_shares 57 = .ok (.ifCond .eq 39, 3) := by decide +kernel
theorem dX8_shares_60 : decode cX8_shares 60 = .ok (.iconst 0, 1) := by decide +kernel
theorem dX8_shares_61 : decode cX8_shares 61 = .ok (.istore 9, 2) := by decide +kernel
theorem dX8_shares_63 : decode cX8_shares 63 = .ok (.iload 9, 2) := by decide +kernel
theorem dX8_shares_65 : decode cX8_shares 65 = .ok (.iload 7, 2) := by decide +kernel
theorem dX8_shares_67 : decode cX8_shares 67 = .ok (.if_icmp .ge 26, 3) := by decide +kernel
theorem dX8_shares_70 : decode cX8_shares 70 = .ok (.aload_n 0, 1) := by decide +kernel
theorem dX8_shares_71 : decode cX8_shares 71 = .ok (.aload_n 0, 1) := by decide +kernel
theorem dX8_shares_72 : decode cX8_shares 72 = .ok (.getfield 92, 3) := by decide +kernel
theorem dX8_shares_75 : decode cX8_shares 75 = .ok (.iload 5, 2) := by decide +kernel
theorem dX8_shares_77 : decode cX8_shares 77 = .ok (.iload 9, 2) := by decide +kernel
theorem dX8_shares_79 : decode cX8_shares 79 = .ok (.iadd, 1) := by decide +kernel
theorem dX8_shares_80 : decode cX8_shares 80 = .ok (.iaload, 1) := by decide +kernel
theorem dX8_shares_81 : decode cX8_shares 81 = .ok (.iload 8, 2) := by decide +kernel
theorem dX8_shares_83 : decode cX8_shares 83 = .ok (.iconst 2, 1) := by decide +kernel
theorem dX8_shares_84 : decode cX8_shares 84 = .ok (.invokevirtual 95, 3) := by decide +kernel
theorem dX8_shares_87 : decode cX8_shares 87 = .ok (.iinc 9 1, 3) := by decide +kernel
theorem dX8_shares_90 : decode cX8_shares 90 = .ok (.goto (-27), 3) := by decide +kernel
theorem dX8_shares_93 : decode cX8_shares 93 = .ok (.goto 41, 3) := by decide +kernel
theorem dX8_shares_96 : decode cX8_shares 96 = .ok (.iload 7, 2) := by decide +kernel
theorem dX8_shares_98 : decode cX8_shares 98 = .ok (.ifCond .le 36, 3) := by decide +kernel
theorem dX8_shares_101 : decode cX8_shares 101 = .ok (.aload_n 0, 1) := by decide +kernel
theorem dX8_shares_102 : decode cX8_shares 102 = .ok (.getfield 158, 3) := by decide +kernel
theorem dX8_shares_105 : decode cX8_shares 105 = .ok (.istore 9, 2) := by decide +kernel
theorem dX8_shares_107 : decode cX8_shares 107 = .ok (.aload_n 0, 1) := by decide +kernel
theorem dX8_shares_108 : decode cX8_shares 108 = .ok (.iload 8, 2) := by decide +kernel
theorem dX8_shares_110 : decode cX8_shares 110 = .ok (.iconst (-1), 1) := by decide +kernel
theorem dX8_shares_111 : decode cX8_shares 111 = .ok (.invokevirtual 161, 3) := by decide +kernel
theorem dX8_shares_114 : decode cX8_shares 114 = .ok (.istore 10, 2) := by decide +kernel
theorem dX8_shares_116 : decode cX8_shares 116 = .ok (.aload_n 0, 1) := by decide +kernel
theorem dX8_shares_117 : decode cX8_shares 117 = .ok (.iload 5, 2) := by decide +kernel
theorem dX8_shares_119 : decode cX8_shares 119 = .ok (.iload 7, 2) := by decide +kernel
theorem dX8_shares_121 : decode cX8_shares 121 = .ok (.iload 9, 2) := by decide +kernel
theorem dX8_shares_123 : decode cX8_shares 123 = .ok (.iload 10, 2) := by decide +kernel
theorem dX8_shares_125 : decode cX8_shares 125 = .ok (.invokevirtual 181, 3) := by decide +kernel
theorem dX8_shares_128 : decode cX8_shares 128 = .ok (.aload_n 0, 1) := by decide +kernel
theorem dX8_shares_129 : decode cX8_shares 129 = .ok (.iload 9, 2) := by decide +kernel
theorem dX8_shares_131 : decode cX8_shares 131 = .ok (.putfield 158, 3) := by decide +kernel
theorem dX8_shares_134 : decode cX8_shares 134 = .ok (.iload 5, 2) := by decide +kernel
theorem dX8_shares_136 : decode cX8_shares 136 = .ok (.iload 7, 2) := by decide +kernel
theorem dX8_shares_138 : decode cX8_shares 138 = .ok (.iadd, 1) := by decide +kernel
theorem dX8_shares_139 : decode cX8_shares 139 = .ok (.istore 5, 2) := by decide +kernel
theorem dX8_shares_141 : decode cX8_shares 141 = .ok (.iinc 6 1, 3) := by decide +kernel
theorem dX8_shares_144 : decode cX8_shares 144 = .ok (.goto (-138), 3) := by decide +kernel
theorem dX8_shares_147 : decode cX8_shares 147 = .ok (.return_, 1) := by decide +kernel
theorem dX8_passes_0 : decode cX8_passes 0 = .ok (.aload_n 0, 1) := by decide +kernel
theorem dX8_passes_1 : decode cX8_passes 1 = .ok (.invokevirtual 174, 3) := by decide +kernel
theorem dX8_passes_4 : decode cX8_passes 4 = .ok (.aload_n 0, 1) := by decide +kernel
theorem dX8_passes_5 : decode cX8_passes 5 = .ok (.iconst 0, 1) := by decide +kernel
theorem dX8_passes_6 : decode cX8_passes 6 = .ok (.putfield 158, 3) := by decide +kernel
theorem dX8_passes_9 : decode cX8_passes 9 = .ok (.aload_n 0, 1) := by decide +kernel
theorem dX8_passes_10 : decode cX8_passes 10 = .ok (.iload_n 1, 1) := by decide +kernel
theorem dX8_passes_11 : decode cX8_passes 11 = .ok (.invokevirtual 177, 3) := by decide +kernel
theorem dX8_passes_14 : decode cX8_passes 14 = .ok (.istore 4, 2) := by decide +kernel
theorem dX8_passes_16 : decode cX8_passes 16 = .ok (.iload 4, 2) := by decide +kernel
theorem dX8_passes_18 : decode cX8_passes 18 = .ok (.ifCond .le 17, 3) := by decide +kernel
theorem dX8_passes_21 : decode cX8_passes 21 = .ok (.aload_n 0, 1) := by decide +kernel
theorem dX8_passes_22 : decode cX8_passes 22 = .ok (.iload_n 2, 1) := by decide +kernel
theorem dX8_passes_23 : decode cX8_passes 23 = .ok (.iload_n 3, 1) := by decide +kernel
theorem dX8_passes_24 : decode cX8_passes 24 = .ok (.iload_n 2, 1) := by decide +kernel
theorem dX8_passes_25 : decode cX8_passes 25 = .ok (.isub, 1) := by decide +kernel
theorem dX8_passes_26 : decode cX8_passes 26 = .ok (.iconst 0, 1) := by decide +kernel
theorem dX8_passes_27 : decode cX8_passes 27 = .ok (.iload 4, 2) := by decide +kernel
theorem dX8_passes_29 : decode cX8_passes 29 = .ok (.invokevirtual 181, 3) := by decide +kernel
theorem dX8_passes_32 : decode cX8_passes 32 = .ok (.goto 31, 3) := by decide +kernel
theorem dX8_passes_35 : decode cX8_passes 35 = .ok (.iload_n 2, 1) := by decide +kernel
theorem dX8_passes_36 : decode cX8_passes 36 = .ok (.istore 5, 2) := by decide +kernel
theorem dX8_passes_38 : decode cX8_passes 38 = .ok (.iload 5, 2) := by decide +kernel
theorem dX8_passes_40 : decode cX8_passes 40 = .ok (.iload_n 3, 1) := by decide +kernel
theorem dX8_passes_41 : decode cX8_passes 41 = .ok (.if_icmp .ge 22, 3) := by decide +kernel
theorem dX8_passes_44 : decode cX8_passes 44 = .ok (.aload_n 0, 1) := by decide +kernel
theorem dX8_passes_45 : decode cX8_passes 45 = .ok (.aload_n 0, 1) := by decide +kernel
theorem dX8_passes_46 : decode cX8_passes 46 = .ok (.getfield 92, 3) := by decide +kernel
theorem dX8_passes_49 : decode cX8_passes 49 = .ok (.iload 5, 2) := by decide +kernel
theorem dX8_passes_51 : decode cX8_passes 51 = .ok (.iaload, 1) := by decide +kernel
theorem dX8_passes_52 : decode cX8_passes 52 = .ok (.iconst (-1), 1) := by decide +kernel
theorem dX8_passes_53 : decode cX8_passes 53 = .ok (.iconst 5, 1) := by decide +kernel
theorem dX8_passes_54 : decode cX8_passes 54 = .ok (.invokevirtual 95, 3) := by decide +kernel
theorem dX8_passes_57 : decode cX8_passes 57 = .ok (.iinc 5 1, 3) := by decide +kernel
theorem dX8_passes_60 : decode cX8_passes 60 = .ok (.goto (-22), 3) := by decide +kernel
theorem dX8_passes_63 : decode cX8_passes 63 = .ok (.return_, 1) := by decide +kernel
theorem dX8_widowPasses_0 : decode cX8_widowPasses 0 = .ok (.iconst 0, 1) := by decide +kernel
theorem dX8_widowPasses_1 : decode cX8_widowPasses 1 = .ok (.istore_n 3, 1) := by decide +kernel
theorem dX8_widowPasses_2 : decode cX8_widowPasses 2 = .ok (.iconst 0, 1) := by decide +kernel
theorem dX8_widowPasses_3 : decode cX8_widowPasses 3 = .ok (.istore 4, 2) := by decide +kernel
theorem dX8_widowPasses_5 : decode cX8_widowPasses 5 = .ok (.iload 4, 2) := by decide +kernel
theorem dX8_widowPasses_7 : decode cX8_widowPasses 7 = .ok (.aload_n 0, 1) := by decide +kernel
theorem dX8_widowPasses_8 : decode cX8_widowPasses 8 = .ok (.getfield 99, 3) := by decide +kernel
theorem dX8_widowPasses_11 : decode cX8_widowPasses 11 = .ok (.if_icmp .ge 92, 3) := by decide +kernel
theorem dX8_widowPasses_14 : decode cX8_widowPasses 14 = .ok (.iconst 0, 1) := by decide +kernel
theorem dX8_widowPasses_15 : decode cX8_widowPasses 15 = .ok (.istore 5, 2) := by decide +kernel
theorem dX8_widowPasses_17 : decode cX8_widowPasses 17 = .ok (.bipush 12, 2) := by decide +kernel
theorem dX8_widowPasses_19 : decode cX8_widowPasses 19 = .ok (.iload_n 2, 1) := by decide +kernel
theorem dX8_widowPasses_20 : decode cX8_widowPasses 20 = .ok (.imul, 1) := by decide +kernel
theorem dX8_widowPasses_21 : decode cX8_widowPasses 21 = .ok (.istore 6, 2) := by decide +kernel
theorem dX8_widowPasses_23 : decode cX8_widowPasses 23 = .ok (.iload 6, 2) := by decide +kernel
theorem dX8_widowPasses_25 : decode cX8_widowPasses 25 = .ok (.bipush 12, 2) := by decide +kernel
theorem dX8_widowPasses_27 : decode cX8_widowPasses 27 = .ok (.iload_n 2, 1) := by decide +kernel
theorem dX8_widowPasses_28 : decode cX8_widowPasses 28 = .ok (.iconst 1, 1) := by decide +kernel
theorem dX8_widowPasses_29 : decode cX8_widowPasses 29 = .ok (.iadd, 1) := by decide +kernel
theorem dX8_widowPasses_30 : decode cX8_widowPasses 30 = .ok (.imul, 1) := by decide +kernel
theorem dX8_widowPasses_31 : decode cX8_widowPasses 31 = .ok (.if_icmp .ge 47, 3) := by decide +kernel
theorem dX8_widowPasses_34 : decode cX8_widowPasses 34 = .ok (.aload_n 0, 1) := by decide +kernel
theorem dX8_widowPasses_35 : decode cX8_widowPasses 35 = .ok (.getfield 62, 3) := by decide +kernel
theorem dX8_widowPasses_38 : decode cX8_widowPasses 38 = .ok (.iload 6, 2) := by decide +kernel
theorem dX8_widowPasses_40 : decode cX8_widowPasses 40 = .ok (.iaload, 1) := by decide +kernel
theorem dX8_widowPasses_41 : decode cX8_widowPasses 41 = .ok (.iload_n 1, 1) := by decide +kernel
theorem dX8_widowPasses_42 : decode cX8_widowPasses 42 = .ok (.if_icmp .ne 30, 3) := by decide +kernel
theorem dX8_widowPasses_45 : decode cX8_widowPasses 45 = .ok (.aload_n 0, 1) := by decide +kernel
theorem dX8_widowPasses_46 : decode cX8_widowPasses 46 = .ok (.getfield 65, 3) := by decide +kernel
theorem dX8_widowPasses_49 : decode cX8_widowPasses 49 = .ok (.iload 6, 2) := by decide +kernel
theorem dX8_widowPasses_51 : decode cX8_widowPasses 51 = .ok (.iaload, 1) := by decide +kernel
theorem dX8_widowPasses_52 : decode cX8_widowPasses 52 = .ok (.iload 4, 2) := by decide +kernel
theorem dX8_widowPasses_54 : decode cX8_widowPasses 54 = .ok (.if_icmp .eq 6, 3) := by decide +kernel
theorem dX8_widowPasses_57 : decode cX8_widowPasses 57 = .ok (.goto 15, 3) := by decide +kernel
theorem dX8_widowPasses_60 : decode cX8_widowPasses 60 = .ok (.aload_n 0, 1) := by decide +kernel
theorem dX8_widowPasses_61 : decode cX8_widowPasses 61 = .ok (.getfield 92, 3) := by decide +kernel
theorem dX8_widowPasses_64 : decode cX8_widowPasses 64 = .ok (.iload 5, 2) := by decide +kernel
theorem dX8_widowPasses_66 : decode cX8_widowPasses 66 = .ok (.iload 6, 2) := by decide +kernel
theorem dX8_widowPasses_68 : decode cX8_widowPasses 68 = .ok (.iastore, 1) := by decide +kernel
theorem dX8_widowPasses_69 : decode cX8_widowPasses 69 = .ok (.iinc 5 1, 3) := by decide +kernel
theorem dX8_widowPasses_72 : decode cX8_widowPasses 72 = .ok (.iinc 6 1, 3) := by decide +kernel
theorem dX8_widowPasses_75 : decode cX8_widowPasses 75 = .ok (.goto (-52), 3) := by decide +kernel
theorem dX8_widowPasses_78 : decode cX8_widowPasses 78 = .ok (.iload 5, 2) := by decide +kernel
theorem dX8_widowPasses_80 : decode cX8_widowPasses 80 = .ok (.ifCond .le 12, 3) := by decide +kernel
theorem dX8_widowPasses_83 : decode cX8_widowPasses 83 = .ok (.aload_n 0, 1) := by decide +kernel
theorem dX8_widowPasses_84 : decode cX8_widowPasses 84 = .ok (.iload 4, 2) := by decide +kernel
theorem dX8_widowPasses_86 : decode cX8_widowPasses 86 = .ok (.iconst 0, 1) := by decide +kernel
theorem dX8_widowPasses_87 : decode cX8_widowPasses 87 = .ok (.iload 5, 2) := by decide +kernel
theorem dX8_widowPasses_89 : decode cX8_widowPasses 89 = .ok (.invokevirtual 185, 3) := by decide +kernel
theorem dX8_widowPasses_92 : decode cX8_widowPasses 92 = .ok (.iload_n 3, 1) := by decide +kernel
theorem dX8_widowPasses_93 : decode cX8_widowPasses 93 = .ok (.iload 5, 2) := by decide +kernel
theorem dX8_widowPasses_95 : decode cX8_widowPasses 95 = .ok (.iadd, 1) := by decide +kernel
theorem dX8_widowPasses_96 : decode cX8_widowPasses 96 = .ok (.istore_n 3, 1) := by decide +kernel
theorem dX8_widowPasses_97 : decode cX8_widowPasses 97 = .ok (.iinc 4 1, 3) := by decide +kernel
theorem dX8_widowPasses_100 : decode cX8_widowPasses 100 = .ok (.goto (-95), 3) := by decide +kernel
theorem dX8_widowPasses_103 : decode cX8_widowPasses 103 = .ok (.iload_n 3, 1) := by decide +kernel
theorem dX8_widowPasses_104 : decode cX8_widowPasses 104 = .ok (.ireturn, 1) := by decide +kernel
theorem dX8_own_0 : decode cX8_own 0 = .ok (.iconst 0, 1) := by decide +kernel
theorem dX8_own_1 : decode cX8_own 1 = .ok (.istore_n 3, 1) := by decide +kernel
theorem dX8_own_2 : decode cX8_own 2 = .ok (.bipush 12, 2) := by decide +kernel
theorem dX8_own_4 : decode cX8_own 4 = .ok (.iload_n 2, 1) := by decide +kernel
theorem dX8_own_5 : decode cX8_own 5 = .ok (.imul, 1) := by decide +kernel
theorem dX8_own_6 : decode cX8_own 6 = .ok (.istore 4, 2) := by decide +kernel
theorem dX8_own_8 : decode cX8_own 8 = .ok (.iload 4, 2) := by decide +kernel
theorem dX8_own_10 : decode cX8_own 10 = .ok (.bipush 12, 2) := by decide +kernel
theorem dX8_own_12 : decode cX8_own 12 = .ok (.iload_n 2, 1) := by decide +kernel
theorem dX8_own_13 : decode cX8_own 13 = .ok (.iconst 1, 1) := by decide +kernel
theorem dX8_own_14 : decode cX8_own 14 = .ok (.iadd, 1) := by decide +kernel
theorem dX8_own_15 : decode cX8_own 15 = .ok (.imul, 1) := by decide +kernel
theorem dX8_own_16 : decode cX8_own 16 = .ok (.if_icmp .ge 45, 3) := by decide +kernel
theorem dX8_own_19 : decode cX8_own 19 = .ok (.aload_n 0, 1) := by decide +kernel
theorem dX8_own_20 : decode cX8_own 20 = .ok (.getfield 62, 3) := by decide +kernel
theorem dX8_own_23 : decode cX8_own 23 = .ok (.iload 4, 2) := by decide +kernel
theorem dX8_own_25 : decode cX8_own 25 = .ok (.iaload, 1) := by decide +kernel
theorem dX8_own_26 : decode cX8_own 26 = .ok (.iload_n 1, 1) := by decide +kernel
theorem dX8_own_27 : decode cX8_own 27 = .ok (.if_icmp .ne 28, 3) := by decide +kernel
theorem dX8_own_30 : decode cX8_own 30 = .ok (.aload_n 0, 1) := by decide +kernel
theorem dX8_own_31 : decode cX8_own 31 = .ok (.getfield 65, 3) := by decide +kernel
theorem dX8_own_34 : decode cX8_own 34 = .ok (.iload 4, 2) := by decide +kernel
theorem dX8_own_36 : decode cX8_own 36 = .ok (.iaload, 1) := by decide +kernel
theorem dX8_own_37 : decode cX8_own 37 = .ok (.iconst (-1), 1) := by decide +kernel
theorem dX8_own_38 : decode cX8_own 38 = .ok (.if_icmp .eq 6, 3) := by decide +kernel
theorem dX8_own_41 : decode cX8_own 41 = .ok (.goto 14, 3) := by decide +kernel
theorem dX8_own_44 : decode cX8_own 44 = .ok (.aload_n 0, 1) := by decide +kernel
theorem dX8_own_45 : decode cX8_own 45 = .ok (.getfield 92, 3) := by decide +kernel
theorem dX8_own_48 : decode cX8_own 48 = .ok (.iload_n 3, 1) := by decide +kernel
theorem dX8_own_49 : decode cX8_own 49 = .ok (.iload 4, 2) := by decide +kernel
theorem dX8_own_51 : decode cX8_own 51 = .ok (.iastore, 1) := by decide +kernel
theorem dX8_own_52 : decode cX8_own 52 = .ok (.iinc 3 1, 3) := by decide +kernel
theorem dX8_own_55 : decode cX8_own 55 = .ok (.iinc 4 1, 3) := by decide +kernel
theorem dX8_own_58 : decode cX8_own 58 = .ok (.goto (-50), 3) := by decide +kernel
theorem dX8_own_61 : decode cX8_own 61 = .ok (.iload_n 3, 1) := by decide +kernel
theorem dX8_own_62 : decode cX8_own 62 = .ok (.ireturn, 1) := by decide +kernel
theorem dX8_marry_0 : decode cX8_marry 0 = .ok (.aload_n 0, 1) := by decide +kernel
theorem dX8_marry_1 : decode cX8_marry 1 = .ok (.iload_n 1, 1) := by decide +kernel
theorem dX8_marry_2 : decode cX8_marry 2 = .ok (.invokevirtual 188, 3) := by decide +kernel
theorem dX8_marry_5 : decode cX8_marry 5 = .ok (.ifCond .eq 50, 3) := by decide +kernel
theorem dX8_marry_8 : decode cX8_marry 8 = .ok (.aload_n 0, 1) := by decide +kernel
theorem dX8_marry_9 : decode cX8_marry 9 = .ok (.iload_n 2, 1) := by decide +kernel
theorem dX8_marry_10 : decode cX8_marry 10 = .ok (.invokevirtual 188, 3) := by decide +kernel
theorem dX8_marry_13 : decode cX8_marry 13 = .ok (.ifCond .eq 42, 3) := by decide +kernel
theorem dX8_marry_16 : decode cX8_marry 16 = .ok (.aload_n 0, 1) := by decide +kernel
theorem dX8_marry_17 : decode cX8_marry 17 = .ok (.getfield 9, 3) := by decide +kernel
theorem dX8_marry_20 : decode cX8_marry 20 = .ok (.iload_n 1, 1) := by decide +kernel
theorem dX8_marry_21 : decode cX8_marry 21 = .ok (.iaload, 1) := by decide +kernel
theorem dX8_marry_22 : decode cX8_marry 22 = .ok (.ifCond .ne 33, 3) := by decide +kernel
theorem dX8_marry_25 : decode cX8_marry 25 = .ok (.aload_n 0, 1) := by decide +kernel
theorem dX8_marry_26 : decode cX8_marry 26 = .ok (.getfield 9, 3) := by decide +kernel
theorem dX8_marry_29 : decode cX8_marry 29 = .ok (.iload_n 2, 1) := by decide +kernel
theorem dX8_marry_30 : decode cX8_marry 30 = .ok (.iaload, 1) := by decide +kernel
theorem dX8_marry_31 : decode cX8_marry 31 = .ok (.iconst 1, 1) := by decide +kernel
theorem dX8_marry_32 : decode cX8_marry 32 = .ok (.if_icmp .ne 23, 3) := by decide +kernel
theorem dX8_marry_35 : decode cX8_marry 35 = .ok (.aload_n 0, 1) := by decide +kernel
theorem dX8_marry_36 : decode cX8_marry 36 = .ok (.getfield 19, 3) := by decide +kernel
theorem dX8_marry_39 : decode cX8_marry 39 = .ok (.iload_n 1, 1) := by decide +kernel
theorem dX8_marry_40 : decode cX8_marry 40 = .ok (.iaload, 1) := by decide +kernel
theorem dX8_marry_41 : decode cX8_marry 41 = .ok (.iconst (-1), 1) := by decide +kernel
theorem dX8_marry_42 : decode cX8_marry 42 = .ok (.if_icmp .ne 13, 3) := by decide +kernel
theorem dX8_marry_45 : decode cX8_marry 45 = .ok (.aload_n 0, 1) := by decide +kernel
theorem dX8_marry_46 : decode cX8_marry 46 = .ok (.getfield 19, 3) := by decide +kernel
theorem dX8_marry_49 : decode cX8_marry 49 = .ok (.iload_n 2, 1) := by decide +kernel
theorem dX8_marry_50 : decode cX8_marry 50 = .ok (.iaload, 1) := by decide +kernel
theorem dX8_marry_51 : decode cX8_marry 51 = .ok (.iconst (-1), 1) := by decide +kernel
theorem dX8_marry_52 : decode cX8_marry 52 = .ok (.if_icmp .eq 5, 3) := by decide +kernel
theorem dX8_marry_55 : decode cX8_marry 55 = .ok (.iconst 0, 1) := by decide +kernel
theorem dX8_marry_56 : decode cX8_marry 56 = .ok (.ireturn, 1) := by decide +kernel
theorem dX8_marry_57 : decode cX8_marry 57 = .ok (.aload_n 0, 1) := by decide +kernel
theorem dX8_marry_58 : decode cX8_marry 58 = .ok (.getfield 19, 3) := by decide +kernel
theorem dX8_marry_61 : decode cX8_marry 61 = .ok (.iload_n 1, 1) := by decide +kernel
theorem dX8_marry_62 : decode cX8_marry 62 = .ok (.iload_n 2, 1) := by decide +kernel
theorem dX8_marry_63 : decode cX8_marry 63 = .ok (.iastore, 1) := by decide +kernel
theorem dX8_marry_64 : decode cX8_marry 64 = .ok (.aload_n 0, 1) := by decide +kernel
theorem dX8_marry_65 : decode cX8_marry 65 = .ok (.getfield 19, 3) := by decide +kernel
theorem dX8_marry_68 : decode cX8_marry 68 = .ok (.iload_n 2, 1) := by decide +kernel
theorem dX8_marry_69 : decode cX8_marry 69 = .ok (.iload_n 1, 1) := by decide +kernel
theorem dX8_marry_70 : decode cX8_marry 70 = .ok (.iastore, 1) := by decide +kernel
theorem dX8_marry_71 : decode cX8_marry 71 = .ok (.aload_n 0, 1) := by decide +kernel
theorem dX8_marry_72 : decode cX8_marry 72 = .ok (.getfield 13, 3) := by decide +kernel
theorem dX8_marry_75 : decode cX8_marry 75 = .ok (.iload_n 2, 1) := by decide +kernel
theorem dX8_marry_76 : decode cX8_marry 76 = .ok (.iaload, 1) := by decide +kernel
theorem dX8_marry_77 : decode cX8_marry 77 = .ok (.istore_n 3, 1) := by decide +kernel
theorem dX8_marry_78 : decode cX8_marry 78 = .ok (.aload_n 0, 1) := by decide +kernel
theorem dX8_marry_79 : decode cX8_marry 79 = .ok (.getfield 25, 3) := by decide +kernel
theorem dX8_marry_82 : decode cX8_marry 82 = .ok (.iload_n 3, 1) := by decide +kernel
theorem dX8_marry_83 : decode cX8_marry 83 = .ok (.iconst (-1), 1) := by decide +kernel
theorem dX8_marry_84 : decode cX8_marry 84 = .ok (.if_icmp .eq 16, 3) := by decide +kernel
theorem dX8_marry_87 : decode cX8_marry 87 = .ok (.aload_n 0, 1) := by decide +kernel
theorem dX8_marry_88 : decode cX8_marry 88 = .ok (.getfield 43, 3) := by decide +kernel
theorem dX8_marry_91 : decode cX8_marry 91 = .ok (.iload_n 3, 1) := by decide +kernel
theorem dX8_marry_92 : decode cX8_marry 92 = .ok (.baload, 1) := by decide +kernel
theorem dX8_marry_93 : decode cX8_marry 93 = .ok (.ifCond .eq 7, 3) := by decide +kernel
theorem dX8_marry_96 : decode cX8_marry 96 = .ok (.iload_n 3, 1) := by decide +kernel
theorem dX8_marry_97 : decode cX8_marry 97 = .ok (.goto 4, 3) := by decide +kernel
theorem dX8_marry_100 : decode cX8_marry 100 = .ok (.iload_n 2, 1) := by decide +kernel
theorem dX8_marry_101 : decode cX8_marry 101 = .ok (.dup2, 1) := by decide +kernel
theorem dX8_marry_102 : decode cX8_marry 102 = .ok (.iaload, 1) := by decide +kernel
theorem dX8_marry_103 : decode cX8_marry 103 = .ok (.aload_n 0, 1) := by decide +kernel
theorem dX8_marry_104 : decode cX8_marry 104 = .ok (.getfield 148, 3) := by decide +kernel
theorem dX8_marry_107 : decode cX8_marry 107 = .ok (.iadd, 1) := by decide +kernel
theorem dX8_marry_108 : decode cX8_marry 108 = .ok (.iastore, 1) := by decide +kernel
theorem dX8_marry_109 : decode cX8_marry 109 = .ok (.iconst 0, 1) := by decide +kernel
theorem dX8_marry_110 : decode cX8_marry 110 = .ok (.istore 4, 2) := by decide +kernel
theorem dX8_marry_112 : decode cX8_marry 112 = .ok (.iload 4, 2) := by decide +kernel
theorem dX8_marry_114 : decode cX8_marry 114 = .ok (.bipush 10, 2) := by decide +kernel
theorem dX8_marry_116 : decode cX8_marry 116 = .ok (.if_icmp .ge 26, 3) := by decide +kernel
theorem dX8_marry_119 : decode cX8_marry 119 = .ok (.aload_n 0, 1) := by decide +kernel
theorem dX8_marry_120 : decode cX8_marry 120 = .ok (.iload_n 1, 1) := by decide +kernel
theorem dX8_marry_121 : decode cX8_marry 121 = .ok (.iload 4, 2) := by decide +kernel
theorem dX8_marry_123 : decode cX8_marry 123 = .ok (.invokevirtual 191, 3) := by decide +kernel
theorem dX8_marry_126 : decode cX8_marry 126 = .ok (.aload_n 0, 1) := by decide +kernel
theorem dX8_marry_127 : decode cX8_marry 127 = .ok (.iload_n 2, 1) := by decide +kernel
theorem dX8_marry_128 : decode cX8_marry 128 = .ok (.iload 4, 2) := by decide +kernel
theorem dX8_marry_130 : decode cX8_marry 130 = .ok (.invokevirtual 191, 3) := by decide +kernel
theorem dX8_marry_133 : decode cX8_marry 133 = .ok (.iadd, 1) := by decide +kernel
theorem dX8_marry_134 : decode cX8_marry 134 = .ok (.istore 5, 2) := by decide +kernel
theorem dX8_marry_136 : decode cX8_marry 136 = .ok (.iinc 4 1, 3) := by decide +kernel
theorem dX8_marry_139 : decode cX8_marry 139 = .ok (.goto (-27), 3) := by decide +kernel
theorem dX8_marry_142 : decode cX8_marry 142 = .ok (.iconst 1, 1) := by decide +kernel
theorem dX8_marry_143 : decode cX8_marry 143 = .ok (.ireturn, 1) := by decide +kernel
theorem dX8_die_0 : decode cX8_die 0 = .ok (.aload_n 0, 1) := by decide +kernel
theorem dX8_die_1 : decode cX8_die 1 = .ok (.iload_n 1, 1) := by decide +kernel
theorem dX8_die_2 : decode cX8_die 2 = .ok (.invokevirtual 188, 3) := by decide +kernel
theorem dX8_die_5 : decode cX8_die 5 = .ok (.ifCond .ne 5, 3) := by decide +kernel
theorem dX8_die_8 : decode cX8_die 8 = .ok (.iconst (-1), 1) := by decide +kernel
theorem dX8_die_9 : decode cX8_die 9 = .ok (.ireturn, 1) := by decide +kernel
theorem dX8_die_10 : decode cX8_die 10 = .ok (.aload_n 0, 1) := by decide +kernel
theorem dX8_die_11 : decode cX8_die 11 = .ok (.getfield 43, 3) := by decide +kernel
theorem dX8_die_14 : decode cX8_die 14 = .ok (.iload_n 1, 1) := by decide +kernel
theorem dX8_die_15 : decode cX8_die 15 = .ok (.iconst 0, 1) := by decide +kernel
theorem dX8_die_16 : decode cX8_die 16 = .ok (.bastore, 1) := by decide +kernel
theorem dX8_die_17 : decode cX8_die 17 = .ok (.aload_n 0, 1) := by decide +kernel
theorem dX8_die_18 : decode cX8_die 18 = .ok (.getfield 19, 3) := by decide +kernel
theorem dX8_die_21 : decode cX8_die 21 = .ok (.iload_n 1, 1) := by decide +kernel
theorem dX8_die_22 : decode cX8_die 22 = .ok (.iaload, 1) := by decide +kernel
theorem dX8_die_23 : decode cX8_die 23 = .ok (.istore_n 2, 1) := by decide +kernel
theorem dX8_die_24 : decode cX8_die 24 = .ok (.iconst 0, 1) := by decide +kernel
theorem dX8_die_25 : decode cX8_die 25 = .ok (.istore_n 3, 1) := by decide +kernel
theorem dX8_die_26 : decode cX8_die 26 = .ok (.iconst 0, 1) := by decide +kernel
theorem dX8_die_27 : decode cX8_die 27 = .ok (.istore 4, 2) := by decide +kernel
theorem dX8_die_29 : decode cX8_die 29 = .ok (.iload 4, 2) := by decide +kernel
theorem dX8_die_31 : decode cX8_die 31 = .ok (.bipush 10, 2) := by decide +kernel
theorem dX8_die_33 : decode cX8_die 33 = .ok (.if_icmp .ge 128, 3) := by decide +kernel
theorem dX8_die_36 : decode cX8_die 36 = .ok (.aload_n 0, 1) := by decide +kernel
theorem dX8_die_37 : decode cX8_die 37 = .ok (.iload_n 1, 1) := by decide +kernel
theorem dX8_die_38 : decode cX8_die 38 = .ok (.iload 4, 2) := by decide +kernel
theorem dX8_die_40 : decode cX8_die 40 = .ok (.invokevirtual 194, 3) := by decide +kernel
theorem dX8_die_43 : decode cX8_die 43 = .ok (.istore 5, 2) := by decide +kernel
theorem dX8_die_45 : decode cX8_die 45 = .ok (.iload_n 2, 1) := by decide +kernel
theorem dX8_die_46 : decode cX8_die 46 = .ok (.iconst (-1), 1) := by decide +kernel
theorem dX8_die_47 : decode cX8_die 47 = .ok (.if_icmp .ne 7, 3) := by decide +kernel
theorem dX8_die_50 : decode cX8_die 50 = .ok (.iconst 0, 1) := by decide +kernel
theorem dX8_die_51 : decode cX8_die 51 = .ok (.goto 13, 3) := by decide +kernel
theorem dX8_die_54 : decode cX8_die 54 = .ok (.iload 5, 2) := by decide +kernel
theorem dX8_die_56 : decode cX8_die 56 = .ok (.aload_n 0, 1) := by decide +kernel
theorem dX8_die_57 : decode cX8_die 57 = .ok (.getfield 133, 3) := by decide +kernel
theorem dX8_die_60 : decode cX8_die 60 = .ok (.imul, 1) := by decide +kernel
theorem dX8_die_61 : decode cX8_die 61 = .ok (.bipush 12, 2) := by decide +kernel
theorem dX8_die_63 : decode cX8_die 63 = .ok (.idiv, 1) := by decide +kernel
theorem dX8_die_64 : decode cX8_die 64 = .ok (.istore 6, 2) := by decide +kernel
theorem dX8_die_66 : decode cX8_die 66 = .ok (.iconst 0, 1) := by decide +kernel
theorem dX8_die_67 : decode cX8_die 67 = .ok (.istore 7, 2) := by decide +kernel
theorem dX8_die_69 : decode cX8_die 69 = .ok (.iload 7, 2) := by decide +kernel
theorem dX8_die_71 : decode cX8_die 71 = .ok (.iload 6, 2) := by decide +kernel
theorem dX8_die_73 : decode cX8_die 73 = .ok (.if_icmp .ge 35, 3) := by decide +kernel
theorem dX8_die_76 : decode cX8_die 76 = .ok (.aload_n 0, 1) := by decide +kernel
theorem dX8_die_77 : decode cX8_die 77 = .ok (.aload_n 0, 1) := by decide +kernel
theorem dX8_die_78 : decode cX8_die 78 = .ok (.getfield 92, 3) := by decide +kernel
theorem dX8_die_81 : decode cX8_die 81 = .ok (.iload 7, 2) := by decide +kernel
theorem dX8_die_83 : decode cX8_die 83 = .ok (.iaload, 1) := by decide +kernel
theorem dX8_die_84 : decode cX8_die 84 = .ok (.iload_n 2, 1) := by decide +kernel
theorem dX8_die_85 : decode cX8_die 85 = .ok (.iconst 3, 1) := by decide +kernel
theorem dX8_die_86 : decode cX8_die 86 = .ok (.invokevirtual 95, 3) := by decide +kernel
theorem dX8_die_89 : decode cX8_die 89 = .ok (.aload_n 0, 1) := by decide +kernel
theorem dX8_die_90 : decode cX8_die 90 = .ok (.getfield 65, 3) := by decide +kernel
theorem dX8_die_93 : decode cX8_die 93 = .ok (.aload_n 0, 1) := by decide +kernel
theorem dX8_die_94 : decode cX8_die 94 = .ok (.getfield 92, 3) := by decide +kernel
theorem dX8_die_97 : decode cX8_die 97 = .ok (.iload 7, 2) := by decide +kernel
theorem dX8_die_99 : decode cX8_die 99 = .ok (.iaload, 1) := by decide +kernel
theorem dX8_die_100 : decode cX8_die 100 = .ok (.iload_n 1, 1) := by decide +kernel
theorem dX8_die_101 : decode cX8_die 101 = .ok (.iastore, 1) := by decide +kernel
theorem dX8_die_102 : decode cX8_die 102 = .ok (.iinc 7 1, 3) := by decide +kernel
theorem dX8_die_105 : decode cX8_die 105 = .ok (.goto (-36), 3) := by decide +kernel
theorem dX8_die_108 : decode cX8_die 108 = .ok (.iload 5, 2) := by decide +kernel
theorem dX8_die_110 : decode cX8_die 110 = .ok (.iload 6, 2) := by decide +kernel
theorem dX8_die_112 : decode cX8_die 112 = .ok (.if_icmp .le 12, 3) := by decide +kernel
theorem dX8_die_115 : decode cX8_die 115 = .ok (.aload_n 0, 1) := by decide +kernel
theorem dX8_die_116 : decode cX8_die 116 = .ok (.iload_n 1, 1) := by decide +kernel
theorem dX8_die_117 : decode cX8_die 117 = .ok (.iload 6, 2) := by decide +kernel
theorem dX8_die_119 : decode cX8_die 119 = .ok (.iload 5, 2) := by decide +kernel
theorem dX8_die_121 : decode cX8_die 121 = .ok (.invokevirtual 185, 3) := by decide +kernel
theorem dX8_die_124 : decode cX8_die 124 = .ok (.iload 5, 2) := by decide +kernel
theorem dX8_die_126 : decode cX8_die 126 = .ok (.ifCond .le 16, 3) := by decide +kernel
theorem dX8_die_129 : decode cX8_die 129 = .ok (.aload_n 0, 1) := by decide +kernel
theorem dX8_die_130 : decode cX8_die 130 = .ok (.getfield 25, 3) := by decide +kernel
theorem dX8_die_133 : decode cX8_die 133 = .ok (.iload_n 1, 1) := by decide +kernel
theorem dX8_die_134 : decode cX8_die 134 = .ok (.dup2, 1) := by decide +kernel
theorem dX8_die_135 : decode cX8_die 135 = .ok (.iaload, 1) := by decide +kernel
theorem dX8_die_136 : decode cX8_die 136 = .ok (.aload_n 0, 1) := by decide +kernel
theorem dX8_die_137 : decode cX8_die 137 = .ok (.getfield 142, 3) := by decide +kernel
theorem dX8_die_140 : decode cX8_die 140 = .ok (.iadd, 1) := by decide +kernel
theorem dX8_die_141 : decode cX8_die 141 = .ok (.iastore, 1) := by decide +kernel
theorem dX8_die_142 : decode cX8_die 142 = .ok (.iload_n 3, 1) := by decide +kernel
theorem dX8_die_143 : decode cX8_die 143 = .ok (.iload 5, 2) := by decide +kernel
theorem dX8_die_145 : decode cX8_die 145 = .ok (.aload_n 0, 1) := by decide +kernel
theorem dX8_die_146 : decode cX8_die 146 = .ok (.iload_n 1, 1) := by decide +kernel
theorem dX8_die_147 : decode cX8_die 147 = .ok (.iload 4, 2) := by decide +kernel
theorem dX8_die_149 : decode cX8_die 149 = .ok (.invokevirtual 191, 3) := by decide +kernel
theorem dX8_die_152 : decode cX8_die 152 = .ok (.iadd, 1) := by decide +kernel
theorem dX8_die_153 : decode cX8_die 153 = .ok (.iadd, 1) := by decide +kernel
theorem dX8_die_154 : decode cX8_die 154 = .ok (.istore_n 3, 1) := by decide +kernel
theorem dX8_die_155 : decode cX8_die 155 = .ok (.iinc 4 1, 3) := by decide +kernel
theorem dX8_die_158 : decode cX8_die 158 = .ok (.goto (-129), 3) := by decide +kernel
theorem dX8_die_161 : decode cX8_die 161 = .ok (.iload_n 2, 1) := by decide +kernel
theorem dX8_die_162 : decode cX8_die 162 = .ok (.iconst (-1), 1) := by decide +kernel
theorem dX8_die_163 : decode cX8_die 163 = .ok (.if_icmp .eq 10, 3) := by decide +kernel
theorem dX8_die_166 : decode cX8_die 166 = .ok (.aload_n 0, 1) := by decide +kernel
theorem dX8_die_167 : decode cX8_die 167 = .ok (.getfield 19, 3) := by decide +kernel
theorem dX8_die_170 : decode cX8_die 170 = .ok (.iload_n 2, 1) := by decide +kernel
theorem dX8_die_171 : decode cX8_die 171 = .ok (.iconst (-1), 1) := by decide +kernel
theorem dX8_die_172 : decode cX8_die 172 = .ok (.iastore, 1) := by decide +kernel
theorem dX8_die_173 : decode cX8_die 173 = .ok (.aload_n 0, 1) := by decide +kernel
theorem dX8_die_174 : decode cX8_die 174 = .ok (.getfield 19, 3) := by decide +kernel
theorem dX8_die_177 : decode cX8_die 177 = .ok (.iload_n 1, 1) := by decide +kernel
theorem dX8_die_178 : decode cX8_die 178 = .ok (.iconst (-1), 1) := by decide +kernel
theorem dX8_die_179 : decode cX8_die 179 = .ok (.iastore, 1) := by decide +kernel
theorem dX8_die_180 : decode cX8_die 180 = .ok (.iload_n 3, 1) := by decide +kernel
theorem dX8_die_181 : decode cX8_die 181 = .ok (.ireturn, 1) := by decide +kernel
theorem dX8_moves_0 : decode cX8_moves 0 = .ok (.iload_n 1, 1) := by decide +kernel
theorem dX8_moves_1 : decode cX8_moves 1 = .ok (.iconst 0, 1) := by decide +kernel
theorem dX8_moves_2 : decode cX8_moves 2 = .ok (.bipush 9, 2) := by decide +kernel
theorem dX8_moves_4 : decode cX8_moves 4 = .ok (.invokestatic 103, 3) := by decide +kernel
theorem dX8_moves_7 : decode cX8_moves 7 = .ok (.ifCond .ne 5, 3) := by decide +kernel
theorem dX8_moves_10 : decode cX8_moves 10 = .ok (.iconst 0, 1) := by decide +kernel
theorem dX8_moves_11 : decode cX8_moves 11 = .ok (.ireturn, 1) := by decide +kernel
theorem dX8_moves_12 : decode cX8_moves 12 = .ok (.aload_n 0, 1) := by decide +kernel
theorem dX8_moves_13 : decode cX8_moves 13 = .ok (.iload_n 3, 1) := by decide +kernel
theorem dX8_moves_14 : decode cX8_moves 14 = .ok (.iload_n 1, 1) := by decide +kernel
theorem dX8_moves_15 : decode cX8_moves 15 = .ok (.invokevirtual 194, 3) := by decide +kernel
theorem dX8_moves_18 : decode cX8_moves 18 = .ok (.istore 6, 2) := by decide +kernel
theorem dX8_moves_20 : decode cX8_moves 20 = .ok (.iload_n 2, 1) := by decide +kernel
theorem dX8_moves_21 : decode cX8_moves 21 = .ok (.iconst 1, 1) := by decide +kernel
theorem dX8_moves_22 : decode cX8_moves 22 = .ok (.iload 6, 2) := by decide +kernel
theorem dX8_moves_24 : decode cX8_moves 24 = .ok (.invokestatic 103, 3) := by decide +kernel
theorem dX8_moves_27 : decode cX8_moves 27 = .ok (.ifCond .ne 5, 3) := by decide +kernel
theorem dX8_moves_30 : decode cX8_moves 30 = .ok (.iconst 0, 1) := by decide +kernel
theorem dX8_moves_31 : decode cX8_moves 31 = .ok (.ireturn, 1) := by decide +kernel
theorem dX8_moves_32 : decode cX8_moves 32 = .ok (.iconst 0, 1) := by decide +kernel
theorem dX8_moves_33 : decode cX8_moves 33 = .ok (.istore 7, 2) := by decide +kernel
theorem dX8_moves_35 : decode cX8_moves 35 = .ok (.iload 7, 2) := by decide +kernel
theorem dX8_moves_37 : decode cX8_moves 37 = .ok (.iload_n 2, 1) := by decide +kernel
theorem dX8_moves_38 : decode cX8_moves 38 = .ok (.if_icmp .ge 24, 3) := by decide +kernel
theorem dX8_moves_41 : decode cX8_moves 41 = .ok (.aload_n 0, 1) := by decide +kernel
theorem dX8_moves_42 : decode cX8_moves 42 = .ok (.aload_n 0, 1) := by decide +kernel
theorem dX8_moves_43 : decode cX8_moves 43 = .ok (.getfield 92, 3) := by decide +kernel
theorem dX8_moves_46 : decode cX8_moves 46 = .ok (.iload 7, 2) := by decide +kernel
theorem dX8_moves_48 : decode cX8_moves 48 = .ok (.iaload, 1) := by decide +kernel
theorem dX8_moves_49 : decode cX8_moves 49 = .ok (.iload 4, 2) := by decide +kernel
theorem dX8_moves_51 : decode cX8_moves 51 = .ok (.iload 5, 2) := by decide +kernel
theorem dX8_moves_53 : decode cX8_moves 53 = .ok (.invokevirtual 95, 3) := by decide +kernel
theorem dX8_moves_56 : decode cX8_moves 56 = .ok (.iinc 7 1, 3) := by decide +kernel
theorem dX8_moves_59 : decode cX8_moves 59 = .ok (.goto (-24), 3) := by decide +kernel
theorem dX8_moves_62 : decode cX8_moves 62 = .ok (.iconst 1, 1) := by decide +kernel
theorem dX8_moves_63 : decode cX8_moves 63 = .ok (.ireturn, 1) := by decide +kernel
theorem dX8_grant_0 : decode cX8_grant 0 = .ok (.aload_n 0, 1) := by decide +kernel
theorem dX8_grant_1 : decode cX8_grant 1 = .ok (.iload_n 3, 1) := by decide +kernel
theorem dX8_grant_2 : decode cX8_grant 2 = .ok (.invokevirtual 188, 3) := by decide +kernel
theorem dX8_grant_5 : decode cX8_grant 5 = .ok (.ifCond .eq 19, 3) := by decide +kernel
theorem dX8_grant_8 : decode cX8_grant 8 = .ok (.aload_n 0, 1) := by decide +kernel
theorem dX8_grant_9 : decode cX8_grant 9 = .ok (.iload_n 1, 1) := by decide +kernel
theorem dX8_grant_10 : decode cX8_grant 10 = .ok (.iload_n 2, 1) := by decide +kernel
theorem dX8_grant_11 : decode cX8_grant 11 = .ok (.iconst (-1), 1) := by decide +kernel
theorem dX8_grant_12 : decode cX8_grant 12 = .ok (.iload_n 3, 1) := by decide +kernel
theorem dX8_grant_13 : decode cX8_grant 13 = .ok (.iconst 1, 1) := by decide +kernel
theorem dX8_grant_14 : decode cX8_grant 14 = .ok (.invokevirtual 197, 3) := by decide +kernel
theorem dX8_grant_17 : decode cX8_grant 17 = .ok (.ifCond .eq 7, 3) := by decide +kernel
theorem dX8_grant_20 : decode cX8_grant 20 = .ok (.iconst 1, 1) := by decide +kernel
theorem dX8_grant_21 : decode cX8_grant 21 = .ok (.goto 4, 3) := by decide +kernel
theorem dX8_grant_24 : decode cX8_grant 24 = .ok (.iconst 0, 1) := by decide +kernel
theorem dX8_grant_25 : decode cX8_grant 25 = .ok (.ireturn, 1) := by decide +kernel
theorem dX8_rod_0 : decode cX8_rod 0 = .ok (.aload_n 0, 1) := by decide +kernel
theorem dX8_rod_1 : decode cX8_rod 1 = .ok (.iload_n 3, 1) := by decide +kernel
theorem dX8_rod_2 : decode cX8_rod 2 = .ok (.invokevirtual 188, 3) := by decide +kernel
theorem dX8_rod_5 : decode cX8_rod 5 = .ok (.ifCond .eq 31, 3) := by decide +kernel
theorem dX8_rod_8 : decode cX8_rod 8 = .ok (.aload_n 0, 1) := by decide +kernel
theorem dX8_rod_9 : decode cX8_rod 9 = .ok (.iload 4, 2) := by decide +kernel
theorem dX8_rod_11 : decode cX8_rod 11 = .ok (.invokevirtual 188, 3) := by decide +kernel
theorem dX8_rod_14 : decode cX8_rod 14 = .ok (.ifCond .eq 22, 3) := by decide +kernel
theorem dX8_rod_17 : decode cX8_rod 17 = .ok (.iload_n 3, 1) := by decide +kernel
theorem dX8_rod_18 : decode cX8_rod 18 = .ok (.iload 4, 2) := by decide +kernel
theorem dX8_rod_20 : decode cX8_rod 20 = .ok (.if_icmp .eq 16, 3) := by decide +kernel
theorem dX8_rod_23 : decode cX8_rod 23 = .ok (.aload_n 0, 1) := by decide +kernel
theorem dX8_rod_24 : decode cX8_rod 24 = .ok (.iload_n 1, 1) := by decide +kernel
theorem dX8_rod_25 : decode cX8_rod 25 = .ok (.iload_n 2, 1) := by decide +kernel
theorem dX8_rod_26 : decode cX8_rod 26 = .ok (.iload_n 3, 1) := by decide +kernel
theorem dX8_rod_27 : decode cX8_rod 27 = .ok (.iload 4, 2) := by decide +kernel
theorem dX8_rod_29 : decode cX8_rod 29 = .ok (.iconst 4, 1) := by decide +kernel
theorem dX8_rod_30 : decode cX8_rod 30 = .ok (.invokevirtual 197, 3) := by decide +kernel
theorem dX8_rod_33 : decode cX8_rod 33 = .ok (.ifCond .ne 5, 3) := by decide +kernel
theorem dX8_rod_36 : decode cX8_rod 36 = .ok (.iconst 0, 1) := by decide +kernel
theorem dX8_rod_37 : decode cX8_rod 37 = .ok (.ireturn, 1) := by decide +kernel
theorem dX8_rod_38 : decode cX8_rod 38 = .ok (.aload_n 0, 1) := by decide +kernel
theorem dX8_rod_39 : decode cX8_rod 39 = .ok (.getfield 25, 3) := by decide +kernel
theorem dX8_rod_42 : decode cX8_rod 42 = .ok (.iload 4, 2) := by decide +kernel
theorem dX8_rod_44 : decode cX8_rod 44 = .ok (.dup2, 1) := by decide +kernel
theorem dX8_rod_45 : decode cX8_rod 45 = .ok (.iaload, 1) := by decide +kernel
theorem dX8_rod_46 : decode cX8_rod 46 = .ok (.iload_n 2, 1) := by decide +kernel
theorem dX8_rod_47 : decode cX8_rod 47 = .ok (.aload_n 0, 1) := by decide +kernel
theorem dX8_rod_48 : decode cX8_rod 48 = .ok (.getfield 145, 3) := by decide +kernel
theorem dX8_rod_51 : decode cX8_rod 51 = .ok (.imul, 1) := by decide +kernel
theorem dX8_rod_52 : decode cX8_rod 52 = .ok (.iadd, 1) := by decide +kernel
theorem dX8_rod_53 : decode cX8_rod 53 = .ok (.iastore, 1) := by decide +kernel
theorem dX8_rod_54 : decode cX8_rod 54 = .ok (.iconst 1, 1) := by decide +kernel
theorem dX8_rod_55 : decode cX8_rod 55 = .ok (.ireturn, 1) := by decide +kernel
theorem dX8_held_0 : decode cX8_held 0 = .ok (.iconst 0, 1) := by decide +kernel
theorem dX8_held_1 : decode cX8_held 1 = .ok (.istore_n 3, 1) := by decide +kernel
theorem dX8_held_2 : decode cX8_held 2 = .ok (.iconst 0, 1) := by decide +kernel
theorem dX8_held_3 : decode cX8_held 3 = .ok (.istore 4, 2) := by decide +kernel
theorem dX8_held_5 : decode cX8_held 5 = .ok (.iload 4, 2) := by decide +kernel
theorem dX8_held_7 : decode cX8_held 7 = .ok (.bipush 120, 2) := by decide +kernel
theorem dX8_held_9 : decode cX8_held 9 = .ok (.if_icmp .ge 43, 3) := by decide +kernel
theorem dX8_held_12 : decode cX8_held 12 = .ok (.iload_n 3, 1) := by decide +kernel
theorem dX8_held_13 : decode cX8_held 13 = .ok (.aload_n 0, 1) := by decide +kernel
theorem dX8_held_14 : decode cX8_held 14 = .ok (.getfield 62, 3) := by decide +kernel
theorem dX8_held_17 : decode cX8_held 17 = .ok (.iload 4, 2) := by decide +kernel
theorem dX8_held_19 : decode cX8_held 19 = .ok (.iaload, 1) := by decide +kernel
theorem dX8_held_20 : decode cX8_held 20 = .ok (.iload_n 1, 1) := by decide +kernel
theorem dX8_held_21 : decode cX8_held 21 = .ok (.if_icmp .ne 22, 3) := by decide +kernel
theorem dX8_held_24 : decode cX8_held 24 = .ok (.iload_n 2, 1) := by decide +kernel
theorem dX8_held_25 : decode cX8_held 25 = .ok (.ifCond .eq 14, 3) := by decide +kernel
theorem dX8_held_28 : decode cX8_held 28 = .ok (.aload_n 0, 1) := by decide +kernel
theorem dX8_held_29 : decode cX8_held 29 = .ok (.getfield 65, 3) := by decide +kernel
theorem dX8_held_32 : decode cX8_held 32 = .ok (.iload 4, 2) := by decide +kernel
theorem dX8_held_34 : decode cX8_held 34 = .ok (.iaload, 1) := by decide +kernel
theorem dX8_held_35 : decode cX8_held 35 = .ok (.iconst (-1), 1) := by decide +kernel
theorem dX8_held_36 : decode cX8_held 36 = .ok (.if_icmp .eq 7, 3) := by decide +kernel
theorem dX8_held_39 : decode cX8_held 39 = .ok (.iconst 1, 1) := by decide +kernel
theorem dX8_held_40 : decode cX8_held 40 = .ok (.goto 4, 3) := by decide +kernel
theorem dX8_held_43 : decode cX8_held 43 = .ok (.iconst 0, 1) := by decide +kernel
theorem dX8_held_44 : decode cX8_held 44 = .ok (.iadd, 1) := by decide +kernel
theorem dX8_held_45 : decode cX8_held 45 = .ok (.istore_n 3, 1) := by decide +kernel
theorem dX8_held_46 : decode cX8_held 46 = .ok (.iinc 4 1, 3) := by decide +kernel
theorem dX8_held_49 : decode cX8_held 49 = .ok (.goto (-44), 3) := by decide +kernel
theorem dX8_held_52 : decode cX8_held 52 = .ok (.iload_n 3, 1) := by decide +kernel
theorem dX8_held_53 : decode cX8_held 53 = .ok (.ireturn, 1) := by decide +kernel
theorem dX8_weeks_0 : decode cX8_weeks 0 = .ok (.iload_n 1, 1) := by decide +kernel
theorem dX8_weeks_1 : decode cX8_weeks 1 = .ok (.iconst 0, 1) := by decide +kernel
theorem dX8_weeks_2 : decode cX8_weeks 2 = .ok (.bipush 60, 2) := by decide +kernel
theorem dX8_weeks_4 : decode cX8_weeks 4 = .ok (.invokestatic 103, 3) := by decide +kernel
theorem dX8_weeks_7 : decode cX8_weeks 7 = .ok (.ifCond .eq 17, 3) := by decide +kernel
theorem dX8_weeks_10 : decode cX8_weeks 10 = .ok (.aload_n 0, 1) := by decide +kernel
theorem dX8_weeks_11 : decode cX8_weeks 11 = .ok (.getfield 118, 3) := by decide +kernel
theorem dX8_weeks_14 : decode cX8_weeks 14 = .ok (.bipush 7, 2) := by decide +kernel
theorem dX8_weeks_16 : decode cX8_weeks 16 = .ok (.iload_n 1, 1) := by decide +kernel
theorem dX8_weeks_17 : decode cX8_weeks 17 = .ok (.imul, 1) := by decide +kernel
theorem dX8_weeks_18 : decode cX8_weeks 18 = .ok (.iadd, 1) := by decide +kernel
theorem dX8_weeks_19 : decode cX8_weeks 19 = .ok (.ldc 201, 2) := by decide +kernel
theorem dX8_weeks_21 : decode cX8_weeks 21 = .ok (.if_icmp .le 5, 3) := by decide +kernel
theorem dX8_weeks_24 : decode cX8_weeks 24 = .ok (.iconst (-1), 1) := by decide +kernel
theorem dX8_weeks_25 : decode cX8_weeks 25 = .ok (.ireturn, 1) := by decide +kernel
theorem dX8_weeks_26 : decode cX8_weeks 26 = .ok (.iconst 0, 1) := by decide +kernel
theorem dX8_weeks_27 : decode cX8_weeks 27 = .ok (.istore_n 2, 1) := by decide +kernel
theorem dX8_weeks_28 : decode cX8_weeks 28 = .ok (.iload_n 2, 1) := by decide +kernel
theorem dX8_weeks_29 : decode cX8_weeks 29 = .ok (.iload_n 1, 1) := by decide +kernel
theorem dX8_weeks_30 : decode cX8_weeks 30 = .ok (.if_icmp .ge 111, 3) := by decide +kernel
theorem dX8_weeks_33 : decode cX8_weeks 33 = .ok (.iconst 0, 1) := by decide +kernel
theorem dX8_weeks_34 : decode cX8_weeks 34 = .ok (.istore_n 3, 1) := by decide +kernel
theorem dX8_weeks_35 : decode cX8_weeks 35 = .ok (.iload_n 3, 1) := by decide +kernel
theorem dX8_weeks_36 : decode cX8_weeks 36 = .ok (.aload_n 0, 1) := by decide +kernel
theorem dX8_weeks_37 : decode cX8_weeks 37 = .ok (.getfield 99, 3) := by decide +kernel
theorem dX8_weeks_40 : decode cX8_weeks 40 = .ok (.if_icmp .ge 84, 3) := by decide +kernel
theorem dX8_weeks_43 : decode cX8_weeks 43 = .ok (.aload_n 0, 1) := by decide +kernel
theorem dX8_weeks_44 : decode cX8_weeks 44 = .ok (.getfield 136, 3) := by decide +kernel
theorem dX8_weeks_47 : decode cX8_weeks 47 = .ok (.aload_n 0, 1) := by decide +kernel
theorem dX8_weeks_48 : decode cX8_weeks 48 = .ok (.iload_n 3, 1) := by decide +kernel
theorem dX8_weeks_49 : decode cX8_weeks 49 = .ok (.iconst 0, 1) := by decide +kernel
theorem dX8_weeks_50 : decode cX8_weeks 50 = .ok (.invokevirtual 202, 3) := by decide +kernel
theorem dX8_weeks_53 : decode cX8_weeks 53 = .ok (.imul, 1) := by decide +kernel
theorem dX8_weeks_54 : decode cX8_weeks 54 = .ok (.istore 4, 2) := by decide +kernel
theorem dX8_weeks_56 : decode cX8_weeks 56 = .ok (.aload_n 0, 1) := by decide +kernel
theorem dX8_weeks_57 : decode cX8_weeks 57 = .ok (.getfield 40, 3) := by decide +kernel
theorem dX8_weeks_60 : decode cX8_weeks 60 = .ok (.iload_n 3, 1) := by decide +kernel
theorem dX8_weeks_61 : decode cX8_weeks 61 = .ok (.iaload, 1) := by decide +kernel
theorem dX8_weeks_62 : decode cX8_weeks 62 = .ok (.ifCond .le 17, 3) := by decide +kernel
theorem dX8_weeks_65 : decode cX8_weeks 65 = .ok (.aload_n 0, 1) := by decide +kernel
theorem dX8_weeks_66 : decode cX8_weeks 66 = .ok (.getfield 37, 3) := by decide +kernel
theorem dX8_weeks_69 : decode cX8_weeks 69 = .ok (.iload_n 3, 1) := by decide +kernel
theorem dX8_weeks_70 : decode cX8_weeks 70 = .ok (.dup2, 1) := by decide +kernel
theorem dX8_weeks_71 : decode cX8_weeks 71 = .ok (.iaload, 1) := by decide +kernel
theorem dX8_weeks_72 : decode cX8_weeks 72 = .ok (.iload 4, 2) := by decide +kernel
theorem dX8_weeks_74 : decode cX8_weeks 74 = .ok (.iadd, 1) := by decide +kernel
theorem dX8_weeks_75 : decode cX8_weeks 75 = .ok (.iastore, 1) := by decide +kernel
theorem dX8_weeks_76 : decode cX8_weeks 76 = .ok (.goto 14, 3) := by decide +kernel
theorem dX8_weeks_79 : decode cX8_weeks 79 = .ok (.aload_n 0, 1) := by decide +kernel
theorem dX8_weeks_80 : decode cX8_weeks 80 = .ok (.getfield 28, 3) := by decide +kernel
theorem dX8_weeks_83 : decode cX8_weeks 83 = .ok (.iload_n 3, 1) := by decide +kernel
theorem dX8_weeks_84 : decode cX8_weeks 84 = .ok (.dup2, 1) := by decide +kernel
theorem dX8_weeks_85 : decode cX8_weeks 85 = .ok (.iaload, 1) := by decide +kernel
theorem dX8_weeks_86 : decode cX8_weeks 86 = .ok (.iload 4, 2) := by decide +kernel
theorem dX8_weeks_88 : decode cX8_weeks 88 = .ok (.iadd, 1) := by decide +kernel
theorem dX8_weeks_89 : decode cX8_weeks 89 = .ok (.iastore, 1) := by decide +kernel
theorem dX8_weeks_90 : decode cX8_weeks 90 = .ok (.aload_n 0, 1) := by decide +kernel
theorem dX8_weeks_91 : decode cX8_weeks 91 = .ok (.getfield 43, 3) := by decide +kernel
theorem dX8_weeks_94 : decode cX8_weeks 94 = .ok (.iload_n 3, 1) := by decide +kernel
theorem dX8_weeks_95 : decode cX8_weeks 95 = .ok (.baload, 1) := by decide +kernel
theorem dX8_weeks_96 : decode cX8_weeks 96 = .ok (.ifCond .eq 22, 3) := by decide +kernel
theorem dX8_weeks_99 : decode cX8_weeks 99 = .ok (.aload_n 0, 1) := by decide +kernel
theorem dX8_weeks_100 : decode cX8_weeks 100 = .ok (.getfield 40, 3) := by decide +kernel
theorem dX8_weeks_103 : decode cX8_weeks 103 = .ok (.iload_n 3, 1) := by decide +kernel
theorem dX8_weeks_104 : decode cX8_weeks 104 = .ok (.iaload, 1) := by decide +kernel
theorem dX8_weeks_105 : decode cX8_weeks 105 = .ok (.ifCond .le 13, 3) := by decide +kernel
theorem dX8_weeks_108 : decode cX8_weeks 108 = .ok (.aload_n 0, 1) := by decide +kernel
theorem dX8_weeks_109 : decode cX8_weeks 109 = .ok (.getfield 40, 3) := by decide +kernel
theorem dX8_weeks_112 : decode cX8_weeks 112 = .ok (.iload_n 3, 1) := by decide +kernel
theorem dX8_weeks_113 : decode cX8_weeks 113 = .ok (.dup2, 1) := by decide +kernel
theorem dX8_weeks_114 : decode cX8_weeks 114 = .ok (.iaload, 1) := by decide +kernel
theorem dX8_weeks_115 : decode cX8_weeks 115 = .ok (.iconst 1, 1) := by decide +kernel
theorem dX8_weeks_116 : decode cX8_weeks 116 = .ok (.isub, 1) := by decide +kernel
theorem dX8_weeks_117 : decode cX8_weeks 117 = .ok (.iastore, 1) := by decide +kernel
theorem dX8_weeks_118 : decode cX8_weeks 118 = .ok (.iinc 3 1, 3) := by decide +kernel
theorem dX8_weeks_121 : decode cX8_weeks 121 = .ok (.goto (-86), 3) := by decide +kernel
theorem dX8_weeks_124 : decode cX8_weeks 124 = .ok (.aload_n 0, 1) := by decide +kernel
theorem dX8_weeks_125 : decode cX8_weeks 125 = .ok (.dup, 1) := by decide +kernel
theorem dX8_weeks_126 : decode cX8_weeks 126 = .ok (.getfield 118, 3) := by decide +kernel
theorem dX8_weeks_129 : decode cX8_weeks 129 = .ok (.bipush 7, 2) := by decide +kernel
theorem dX8_weeks_131 : decode cX8_weeks 131 = .ok (.iadd, 1) := by decide +kernel
theorem dX8_weeks_132 : decode cX8_weeks 132 = .ok (.putfield 118, 3) := by decide +kernel
theorem dX8_weeks_135 : decode cX8_weeks 135 = .ok (.iinc 2 1, 3) := by decide +kernel
theorem dX8_weeks_138 : decode cX8_weeks 138 = .ok (.goto (-110), 3) := by decide +kernel
theorem dX8_weeks_141 : decode cX8_weeks 141 = .ok (.aload_n 0, 1) := by decide +kernel
theorem dX8_weeks_142 : decode cX8_weeks 142 = .ok (.getfield 118, 3) := by decide +kernel
theorem dX8_weeks_145 : decode cX8_weeks 145 = .ok (.ireturn, 1) := by decide +kernel
theorem dX8_sick_0 : decode cX8_sick 0 = .ok (.aload_n 0, 1) := by decide +kernel
theorem dX8_sick_1 : decode cX8_sick 1 = .ok (.iload_n 1, 1) := by decide +kernel
theorem dX8_sick_2 : decode cX8_sick 2 = .ok (.invokevirtual 188, 3) := by decide +kernel
theorem dX8_sick_5 : decode cX8_sick 5 = .ok (.ifCond .eq 13, 3) := by decide +kernel
theorem dX8_sick_8 : decode cX8_sick 8 = .ok (.iload_n 2, 1) := by decide +kernel
theorem dX8_sick_9 : decode cX8_sick 9 = .ok (.iconst 0, 1) := by decide +kernel
theorem dX8_sick_10 : decode cX8_sick 10 = .ok (.bipush 60, 2) := by decide +kernel
theorem dX8_sick_12 : decode cX8_sick 12 = .ok (.invokestatic 103, 3) := by decide +kernel
theorem dX8_sick_15 : decode cX8_sick 15 = .ok (.ifCond .ne 5, 3) := by decide +kernel
theorem dX8_sick_18 : decode cX8_sick 18 = .ok (.iconst 0, 1) := by decide +kernel
theorem dX8_sick_19 : decode cX8_sick 19 = .ok (.ireturn, 1) := by decide +kernel
theorem dX8_sick_20 : decode cX8_sick 20 = .ok (.aload_n 0, 1) := by decide +kernel
theorem dX8_sick_21 : decode cX8_sick 21 = .ok (.getfield 40, 3) := by decide +kernel
theorem dX8_sick_24 : decode cX8_sick 24 = .ok (.iload_n 1, 1) := by decide +kernel
theorem dX8_sick_25 : decode cX8_sick 25 = .ok (.iload_n 2, 1) := by decide +kernel
theorem dX8_sick_26 : decode cX8_sick 26 = .ok (.iastore, 1) := by decide +kernel
theorem dX8_sick_27 : decode cX8_sick 27 = .ok (.iconst 1, 1) := by decide +kernel
theorem dX8_sick_28 : decode cX8_sick 28 = .ok (.ireturn, 1) := by decide +kernel
theorem dX8_works_0 : decode cX8_works 0 = .ok (.aload_n 0, 1) := by decide +kernel
theorem dX8_works_1 : decode cX8_works 1 = .ok (.iload_n 1, 1) := by decide +kernel
theorem dX8_works_2 : decode cX8_works 2 = .ok (.invokevirtual 107, 3) := by decide +kernel
theorem dX8_works_5 : decode cX8_works 5 = .ok (.ifCond .eq 17, 3) := by decide +kernel
theorem dX8_works_8 : decode cX8_works 8 = .ok (.iload_n 2, 1) := by decide +kernel
theorem dX8_works_9 : decode cX8_works 9 = .ok (.iconst 1, 1) := by decide +kernel
theorem dX8_works_10 : decode cX8_works 10 = .ok (.aload_n 0, 1) := by decide +kernel
theorem dX8_works_11 : decode cX8_works 11 = .ok (.getfield 28, 3) := by decide +kernel
theorem dX8_works_14 : decode cX8_works 14 = .ok (.iload_n 1, 1) := by decide +kernel
theorem dX8_works_15 : decode cX8_works 15 = .ok (.iaload, 1) := by decide +kernel
theorem dX8_works_16 : decode cX8_works 16 = .ok (.invokestatic 103, 3) := by decide +kernel
theorem dX8_works_19 : decode cX8_works 19 = .ok (.ifCond .ne 5, 3) := by decide +kernel
theorem dX8_works_22 : decode cX8_works 22 = .ok (.iconst (-1), 1) := by decide +kernel
theorem dX8_works_23 : decode cX8_works 23 = .ok (.ireturn, 1) := by decide +kernel
theorem dX8_works_24 : decode cX8_works 24 = .ok (.aload_n 0, 1) := by decide +kernel
theorem dX8_works_25 : decode cX8_works 25 = .ok (.getfield 28, 3) := by decide +kernel
theorem dX8_works_28 : decode cX8_works 28 = .ok (.iload_n 1, 1) := by decide +kernel
theorem dX8_works_29 : decode cX8_works 29 = .ok (.dup2, 1) := by decide +kernel
theorem dX8_works_30 : decode cX8_works 30 = .ok (.iaload, 1) := by decide +kernel
theorem dX8_works_31 : decode cX8_works 31 = .ok (.iload_n 2, 1) := by decide +kernel
theorem dX8_works_32 : decode cX8_works 32 = .ok (.isub, 1) := by decide +kernel
theorem dX8_works_33 : decode cX8_works 33 = .ok (.iastore, 1) := by decide +kernel
theorem dX8_works_34 : decode cX8_works 34 = .ok (.iload_n 3, 1) := by decide +kernel
theorem dX8_works_35 : decode cX8_works 35 = .ok (.ifCond .eq 26, 3) := by decide +kernel
theorem dX8_works_38 : decode cX8_works 38 = .ok (.aload_n 0, 1) := by decide +kernel
theorem dX8_works_39 : decode cX8_works 39 = .ok (.getfield 34, 3) := by decide +kernel
theorem dX8_works_42 : decode cX8_works 42 = .ok (.iload_n 1, 1) := by decide +kernel
theorem dX8_works_43 : decode cX8_works 43 = .ok (.dup2, 1) := by decide +kernel
theorem dX8_works_44 : decode cX8_works 44 = .ok (.iaload, 1) := by decide +kernel
theorem dX8_works_45 : decode cX8_works 45 = .ok (.iload_n 2, 1) := by decide +kernel
theorem dX8_works_46 : decode cX8_works 46 = .ok (.iadd, 1) := by decide +kernel
theorem dX8_works_47 : decode cX8_works 47 = .ok (.iastore, 1) := by decide +kernel
theorem dX8_works_48 : decode cX8_works 48 = .ok (.aload_n 0, 1) := by decide +kernel
theorem dX8_works_49 : decode cX8_works 49 = .ok (.getfield 25, 3) := by decide +kernel
theorem dX8_works_52 : decode cX8_works 52 = .ok (.iload_n 1, 1) := by decide +kernel
theorem dX8_works_53 : decode cX8_works 53 = .ok (.dup2, 1) := by decide +kernel
theorem dX8_works_54 : decode cX8_works 54 = .ok (.iaload, 1) := by decide +kernel
theorem dX8_works_55 : decode cX8_works 55 = .ok (.iload_n 2, 1) := by decide +kernel
theorem dX8_works_56 : decode cX8_works 56 = .ok (.iadd, 1) := by decide +kernel
theorem dX8_works_57 : decode cX8_works 57 = .ok (.iastore, 1) := by decide +kernel
theorem dX8_works_58 : decode cX8_works 58 = .ok (.goto 13, 3) := by decide +kernel
theorem dX8_works_61 : decode cX8_works 61 = .ok (.aload_n 0, 1) := by decide +kernel
theorem dX8_works_62 : decode cX8_works 62 = .ok (.getfield 31, 3) := by decide +kernel
theorem dX8_works_65 : decode cX8_works 65 = .ok (.iload_n 1, 1) := by decide +kernel
theorem dX8_works_66 : decode cX8_works 66 = .ok (.dup2, 1) := by decide +kernel
theorem dX8_works_67 : decode cX8_works 67 = .ok (.iaload, 1) := by decide +kernel
theorem dX8_works_68 : decode cX8_works 68 = .ok (.iload_n 2, 1) := by decide +kernel
theorem dX8_works_69 : decode cX8_works 69 = .ok (.iadd, 1) := by decide +kernel
theorem dX8_works_70 : decode cX8_works 70 = .ok (.iastore, 1) := by decide +kernel
theorem dX8_works_71 : decode cX8_works 71 = .ok (.aload_n 0, 1) := by decide +kernel
theorem dX8_works_72 : decode cX8_works 72 = .ok (.getfield 28, 3) := by decide +kernel
theorem dX8_works_75 : decode cX8_works 75 = .ok (.iload_n 1, 1) := by decide +kernel
theorem dX8_works_76 : decode cX8_works 76 = .ok (.iaload, 1) := by decide +kernel
theorem dX8_works_77 : decode cX8_works 77 = .ok (.ireturn, 1) := by decide +kernel
theorem dX8_pay_0 : decode cX8_pay 0 = .ok (.aload_n 0, 1) := by decide +kernel
theorem dX8_pay_1 : decode cX8_pay 1 = .ok (.iload_n 1, 1) := by decide +kernel
theorem dX8_pay_2 : decode cX8_pay 2 = .ok (.invokevirtual 107, 3) := by decide +kernel
theorem dX8_pay_5 : decode cX8_pay 5 = .ok (.ifCond .eq 17, 3) := by decide +kernel
theorem dX8_pay_8 : decode cX8_pay 8 = .ok (.iload_n 2, 1) := by decide +kernel
theorem dX8_pay_9 : decode cX8_pay 9 = .ok (.iconst 1, 1) := by decide +kernel
theorem dX8_pay_10 : decode cX8_pay 10 = .ok (.aload_n 0, 1) := by decide +kernel
theorem dX8_pay_11 : decode cX8_pay 11 = .ok (.getfield 25, 3) := by decide +kernel
theorem dX8_pay_14 : decode cX8_pay 14 = .ok (.iload_n 1, 1) := by decide +kernel
theorem dX8_pay_15 : decode cX8_pay 15 = .ok (.iaload, 1) := by decide +kernel
theorem dX8_pay_16 : decode cX8_pay 16 = .ok (.invokestatic 103, 3) := by decide +kernel
theorem dX8_pay_19 : decode cX8_pay 19 = .ok (.ifCond .ne 5, 3) := by decide +kernel
theorem dX8_pay_22 : decode cX8_pay 22 = .ok (.iconst (-1), 1) := by decide +kernel
theorem dX8_pay_23 : decode cX8_pay 23 = .ok (.ireturn, 1) := by decide +kernel
theorem dX8_pay_24 : decode cX8_pay 24 = .ok (.aload_n 0, 1) := by decide +kernel
theorem dX8_pay_25 : decode cX8_pay 25 = .ok (.getfield 25, 3) := by decide +kernel
theorem dX8_pay_28 : decode cX8_pay 28 = .ok (.iload_n 1, 1) := by decide +kernel
theorem dX8_pay_29 : decode cX8_pay 29 = .ok (.dup2, 1) := by decide +kernel
theorem dX8_pay_30 : decode cX8_pay 30 = .ok (.iaload, 1) := by decide +kernel
theorem dX8_pay_31 : decode cX8_pay 31 = .ok (.iload_n 2, 1) := by decide +kernel
theorem dX8_pay_32 : decode cX8_pay 32 = .ok (.isub, 1) := by decide +kernel
theorem dX8_pay_33 : decode cX8_pay 33 = .ok (.iastore, 1) := by decide +kernel
theorem dX8_pay_34 : decode cX8_pay 34 = .ok (.aload_n 0, 1) := by decide +kernel
theorem dX8_pay_35 : decode cX8_pay 35 = .ok (.dup, 1) := by decide +kernel
theorem dX8_pay_36 : decode cX8_pay 36 = .ok (.getfield 206, 3) := by decide +kernel
theorem dX8_pay_39 : decode cX8_pay 39 = .ok (.iload_n 2, 1) := by decide +kernel
theorem dX8_pay_40 : decode cX8_pay 40 = .ok (.iadd, 1) := by decide +kernel
theorem dX8_pay_41 : decode cX8_pay 41 = .ok (.putfield 206, 3) := by decide +kernel
theorem dX8_pay_44 : decode cX8_pay 44 = .ok (.aload_n 0, 1) := by decide +kernel
theorem dX8_pay_45 : decode cX8_pay 45 = .ok (.getfield 25, 3) := by decide +kernel
theorem dX8_pay_48 : decode cX8_pay 48 = .ok (.iload_n 1, 1) := by decide +kernel
theorem dX8_pay_49 : decode cX8_pay 49 = .ok (.iaload, 1) := by decide +kernel
theorem dX8_pay_50 : decode cX8_pay 50 = .ok (.ireturn, 1) := by decide +kernel
theorem dX8_suit_0 : decode cX8_suit 0 = .ok (.aload_n 0, 1) := by decide +kernel
theorem dX8_suit_1 : decode cX8_suit 1 = .ok (.iload_n 1, 1) := by decide +kernel
theorem dX8_suit_2 : decode cX8_suit 2 = .ok (.invokevirtual 188, 3) := by decide +kernel
theorem dX8_suit_5 : decode cX8_suit 5 = .ok (.ifCond .eq 43, 3) := by decide +kernel
theorem dX8_suit_8 : decode cX8_suit 8 = .ok (.aload_n 0, 1) := by decide +kernel
theorem dX8_suit_9 : decode cX8_suit 9 = .ok (.iload_n 2, 1) := by decide +kernel
theorem dX8_suit_10 : decode cX8_suit 10 = .ok (.invokevirtual 188, 3) := by decide +kernel
theorem dX8_suit_13 : decode cX8_suit 13 = .ok (.ifCond .eq 35, 3) := by decide +kernel
theorem dX8_suit_16 : decode cX8_suit 16 = .ok (.aload_n 0, 1) := by decide +kernel
theorem dX8_suit_17 : decode cX8_suit 17 = .ok (.iload_n 3, 1) := by decide +kernel
theorem dX8_suit_18 : decode cX8_suit 18 = .ok (.invokevirtual 188, 3) := by decide +kernel
theorem dX8_suit_21 : decode cX8_suit 21 = .ok (.ifCond .eq 27, 3) := by decide +kernel
theorem dX8_suit_24 : decode cX8_suit 24 = .ok (.iload_n 1, 1) := by decide +kernel
theorem dX8_suit_25 : decode cX8_suit 25 = .ok (.iload_n 2, 1) := by decide +kernel
theorem dX8_suit_26 : decode cX8_suit 26 = .ok (.if_icmp .eq 22, 3) := by decide +kernel
theorem dX8_suit_29 : decode cX8_suit 29 = .ok (.iload_n 2, 1) := by decide +kernel
theorem dX8_suit_30 : decode cX8_suit 30 = .ok (.iload_n 3, 1) := by decide +kernel
theorem dX8_suit_31 : decode cX8_suit 31 = .ok (.if_icmp .eq 17, 3) := by decide +kernel
theorem dX8_suit_34 : decode cX8_suit 34 = .ok (.iload_n 1, 1) := by decide +kernel
theorem dX8_suit_35 : decode cX8_suit 35 = .ok (.iload_n 3, 1) := by decide +kernel
theorem dX8_suit_36 : decode cX8_suit 36 = .ok (.if_icmp .eq 12, 3) := by decide +kernel
theorem dX8_suit_39 : decode cX8_suit 39 = .ok (.aload_n 0, 1) := by decide +kernel
theorem dX8_suit_40 : decode cX8_suit 40 = .ok (.getfield 209, 3) := by decide +kernel
theorem dX8_suit_43 : decode cX8_suit 43 = .ok (.bipush 40, 2) := by decide +kernel
theorem dX8_suit_45 : decode cX8_suit 45 = .ok (.if_icmp .ne 5, 3) := by decide +kernel
theorem dX8_suit_48 : decode cX8_suit 48 = .ok (.iconst (-1), 1) := by decide +kernel
theorem dX8_suit_49 : decode cX8_suit 49 = .ok (.ireturn, 1) := by decide +kernel
theorem dX8_suit_50 : decode cX8_suit 50 = .ok (.aload_n 0, 1) := by decide +kernel
theorem dX8_suit_51 : decode cX8_suit 51 = .ok (.getfield 68, 3) := by decide +kernel
theorem dX8_suit_54 : decode cX8_suit 54 = .ok (.aload_n 0, 1) := by decide +kernel
theorem dX8_suit_55 : decode cX8_suit 55 = .ok (.getfield 209, 3) := by decide +kernel
theorem dX8_suit_58 : decode cX8_suit 58 = .ok (.iload_n 1, 1) := by decide +kernel
theorem dX8_suit_59 : decode cX8_suit 59 = .ok (.iastore, 1) := by decide +kernel
theorem dX8_suit_60 : decode cX8_suit 60 = .ok (.aload_n 0, 1) := by decide +kernel
theorem dX8_suit_61 : decode cX8_suit 61 = .ok (.getfield 71, 3) := by decide +kernel
theorem dX8_suit_64 : decode cX8_suit 64 = .ok (.aload_n 0, 1) := by decide +kernel
theorem dX8_suit_65 : decode cX8_suit 65 = .ok (.getfield 209, 3) := by decide +kernel
theorem dX8_suit_68 : decode cX8_suit 68 = .ok (.iload_n 2, 1) := by decide +kernel
theorem dX8_suit_69 : decode cX8_suit 69 = .ok (.iastore, 1) := by decide +kernel
theorem dX8_suit_70 : decode cX8_suit 70 = .ok (.aload_n 0, 1) := by decide +kernel
theorem dX8_suit_71 : decode cX8_suit 71 = .ok (.getfield 74, 3) := by decide +kernel
theorem dX8_suit_74 : decode cX8_suit 74 = .ok (.aload_n 0, 1) := by decide +kernel
theorem dX8_suit_75 : decode cX8_suit 75 = .ok (.getfield 209, 3) := by decide +kernel
theorem dX8_suit_78 : decode cX8_suit 78 = .ok (.iload_n 3, 1) := by decide +kernel
theorem dX8_suit_79 : decode cX8_suit 79 = .ok (.iastore, 1) := by decide +kernel
theorem dX8_suit_80 : decode cX8_suit 80 = .ok (.aload_n 0, 1) := by decide +kernel
theorem dX8_suit_81 : decode cX8_suit 81 = .ok (.dup, 1) := by decide +kernel
theorem dX8_suit_82 : decode cX8_suit 82 = .ok (.getfield 209, 3) := by decide +kernel
theorem dX8_suit_85 : decode cX8_suit 85 = .ok (.iconst 1, 1) := by decide +kernel
theorem dX8_suit_86 : decode cX8_suit 86 = .ok (.iadd, 1) := by decide +kernel
theorem dX8_suit_87 : decode cX8_suit 87 = .ok (.putfield 209, 3) := by decide +kernel
theorem dX8_suit_90 : decode cX8_suit 90 = .ok (.aload_n 0, 1) := by decide +kernel
theorem dX8_suit_91 : decode cX8_suit 91 = .ok (.getfield 209, 3) := by decide +kernel
theorem dX8_suit_94 : decode cX8_suit 94 = .ok (.iconst 1, 1) := by decide +kernel
theorem dX8_suit_95 : decode cX8_suit 95 = .ok (.isub, 1) := by decide +kernel
theorem dX8_suit_96 : decode cX8_suit 96 = .ok (.ireturn, 1) := by decide +kernel
theorem dX8_appear_0 : decode cX8_appear 0 = .ok (.iload_n 1, 1) := by decide +kernel
theorem dX8_appear_1 : decode cX8_appear 1 = .ok (.iconst 0, 1) := by decide +kernel
theorem dX8_appear_2 : decode cX8_appear 2 = .ok (.aload_n 0, 1) := by decide +kernel
theorem dX8_appear_3 : decode cX8_appear 3 = .ok (.getfield 209, 3) := by decide +kernel
theorem dX8_appear_6 : decode cX8_appear 6 = .ok (.iconst 1, 1) := by decide +kernel
theorem dX8_appear_7 : decode cX8_appear 7 = .ok (.isub, 1) := by decide +kernel
theorem dX8_appear_8 : decode cX8_appear 8 = .ok (.invokestatic 103, 3) := by decide +kernel
theorem dX8_appear_11 : decode cX8_appear 11 = .ok (.ifCond .eq 21, 3) := by decide +kernel
theorem dX8_appear_14 : decode cX8_appear 14 = .ok (.aload_n 0, 1) := by decide +kernel
theorem dX8_appear_15 : decode cX8_appear 15 = .ok (.getfield 80, 3) := by decide +kernel
theorem dX8_appear_18 : decode cX8_appear 18 = .ok (.iload_n 1, 1) := by decide +kernel
theorem dX8_appear_19 : decode cX8_appear 19 = .ok (.iaload, 1) := by decide +kernel
theorem dX8_appear_20 : decode cX8_appear 20 = .ok (.ifCond .ne 12, 3) := by decide +kernel
theorem dX8_appear_23 : decode cX8_appear 23 = .ok (.iload_n 2, 1) := by decide +kernel
theorem dX8_appear_24 : decode cX8_appear 24 = .ok (.iconst 0, 1) := by decide +kernel
theorem dX8_appear_25 : decode cX8_appear 25 = .ok (.iconst 3, 1) := by decide +kernel
theorem dX8_appear_26 : decode cX8_appear 26 = .ok (.invokestatic 103, 3) := by decide +kernel
theorem dX8_appear_29 : decode cX8_appear 29 = .ok (.ifCond .ne 5, 3) := by decide +kernel
theorem dX8_appear_32 : decode cX8_appear 32 = .ok (.iconst 0, 1) := by decide +kernel
theorem dX8_appear_33 : decode cX8_appear 33 = .ok (.ireturn, 1) := by decide +kernel
theorem dX8_appear_34 : decode cX8_appear 34 = .ok (.aload_n 0, 1) := by decide +kernel
theorem dX8_appear_35 : decode cX8_appear 35 = .ok (.getfield 77, 3) := by decide +kernel
theorem dX8_appear_38 : decode cX8_appear 38 = .ok (.iload_n 1, 1) := by decide +kernel
theorem dX8_appear_39 : decode cX8_appear 39 = .ok (.iload_n 2, 1) := by decide +kernel
theorem dX8_appear_40 : decode cX8_appear 40 = .ok (.iastore, 1) := by decide +kernel
theorem dX8_appear_41 : decode cX8_appear 41 = .ok (.iconst 1, 1) := by decide +kernel
theorem dX8_appear_42 : decode cX8_appear 42 = .ok (.ireturn, 1) := by decide +kernel
theorem dX8_falls_0 : decode cX8_falls 0 = .ok (.aload_n 0, 1) := by decide +kernel
theorem dX8_falls_1 : decode cX8_falls 1 = .ok (.getfield 43, 3) := by decide +kernel
theorem dX8_falls_4 : decode cX8_falls 4 = .ok (.aload_n 0, 1) := by decide +kernel
theorem dX8_falls_5 : decode cX8_falls 5 = .ok (.getfield 74, 3) := by decide +kernel
theorem dX8_falls_8 : decode cX8_falls 8 = .ok (.iload_n 1, 1) := by decide +kernel
theorem dX8_falls_9 : decode cX8_falls 9 = .ok (.iaload, 1) := by decide +kernel
theorem dX8_falls_10 : decode cX8_falls 10 = .ok (.baload, 1) := by decide +kernel
theorem dX8_falls_11 : decode cX8_falls 11 = .ok (.ifCond .eq 12, 3) := by decide +kernel
theorem dX8_falls_14 : decode cX8_falls 14 = .ok (.aload_n 0, 1) := by decide +kernel
theorem dX8_falls_15 : decode cX8_falls 15 = .ok (.getfield 74, 3) := by decide +kernel
theorem dX8_falls_18 : decode cX8_falls 18 = .ok (.iload_n 1, 1) := by decide +kernel
theorem dX8_falls_19 : decode cX8_falls 19 = .ok (.iaload, 1) := by decide +kernel
theorem dX8_falls_20 : decode cX8_falls 20 = .ok (.goto 9, 3) := by decide +kernel
theorem dX8_falls_23 : decode cX8_falls 23 = .ok (.aload_n 0, 1) := by decide +kernel
theorem dX8_falls_24 : decode cX8_falls 24 = .ok (.getfield 71, 3) := by decide +kernel
theorem dX8_falls_27 : decode cX8_falls 27 = .ok (.iload_n 1, 1) := by decide +kernel
theorem dX8_falls_28 : decode cX8_falls 28 = .ok (.iaload, 1) := by decide +kernel
theorem dX8_falls_29 : decode cX8_falls 29 = .ok (.istore_n 2, 1) := by decide +kernel
theorem dX8_falls_30 : decode cX8_falls 30 = .ok (.aload_n 0, 1) := by decide +kernel
theorem dX8_falls_31 : decode cX8_falls 31 = .ok (.getfield 25, 3) := by decide +kernel
theorem dX8_falls_34 : decode cX8_falls 34 = .ok (.iload_n 2, 1) := by decide +kernel
theorem dX8_falls_35 : decode cX8_falls 35 = .ok (.dup2, 1) := by decide +kernel
theorem dX8_falls_36 : decode cX8_falls 36 = .ok (.iaload, 1) := by decide +kernel
theorem dX8_falls_37 : decode cX8_falls 37 = .ok (.iconst 3, 1) := by decide +kernel
theorem dX8_falls_38 : decode cX8_falls 38 = .ok (.iadd, 1) := by decide +kernel
theorem dX8_falls_39 : decode cX8_falls 39 = .ok (.iastore, 1) := by decide +kernel
theorem dX8_falls_40 : decode cX8_falls 40 = .ok (.aload_n 0, 1) := by decide +kernel
theorem dX8_falls_41 : decode cX8_falls 41 = .ok (.getfield 86, 3) := by decide +kernel
theorem dX8_falls_44 : decode cX8_falls 44 = .ok (.iload_n 1, 1) := by decide +kernel
theorem dX8_falls_45 : decode cX8_falls 45 = .ok (.dup2, 1) := by decide +kernel
theorem dX8_falls_46 : decode cX8_falls 46 = .ok (.iaload, 1) := by decide +kernel
theorem dX8_falls_47 : decode cX8_falls 47 = .ok (.iconst 1, 1) := by decide +kernel
theorem dX8_falls_48 : decode cX8_falls 48 = .ok (.iadd, 1) := by decide +kernel
theorem dX8_falls_49 : decode cX8_falls 49 = .ok (.iastore, 1) := by decide +kernel
theorem dX8_falls_50 : decode cX8_falls 50 = .ok (.aload_n 0, 1) := by decide +kernel
theorem dX8_falls_51 : decode cX8_falls 51 = .ok (.getfield 86, 3) := by decide +kernel
theorem dX8_falls_54 : decode cX8_falls 54 = .ok (.iload_n 1, 1) := by decide +kernel
theorem dX8_falls_55 : decode cX8_falls 55 = .ok (.iaload, 1) := by decide +kernel
theorem dX8_falls_56 : decode cX8_falls 56 = .ok (.iconst 2, 1) := by decide +kernel
theorem dX8_falls_57 : decode cX8_falls 57 = .ok (.if_icmp .ge 4, 3) := by decide +kernel
theorem dX8_falls_60 : decode cX8_falls 60 = .ok (.return_, 1) := by decide +kernel
theorem dX8_falls_61 : decode cX8_falls 61 = .ok (.aload_n 0, 1) := by decide +kernel
theorem dX8_falls_62 : decode cX8_falls 62 = .ok (.getfield 80, 3) := by decide +kernel
theorem dX8_falls_65 : decode cX8_falls 65 = .ok (.iload_n 1, 1) := by decide +kernel
theorem dX8_falls_66 : decode cX8_falls 66 = .ok (.iconst 2, 1) := by decide +kernel
theorem dX8_falls_67 : decode cX8_falls 67 = .ok (.iastore, 1) := by decide +kernel
theorem dX8_falls_68 : decode cX8_falls 68 = .ok (.aload_n 0, 1) := by decide +kernel
theorem dX8_falls_69 : decode cX8_falls 69 = .ok (.getfield 25, 3) := by decide +kernel
theorem dX8_falls_72 : decode cX8_falls 72 = .ok (.aload_n 0, 1) := by decide +kernel
theorem dX8_falls_73 : decode cX8_falls 73 = .ok (.getfield 71, 3) := by decide +kernel
theorem dX8_falls_76 : decode cX8_falls 76 = .ok (.iload_n 1, 1) := by decide +kernel
theorem dX8_falls_77 : decode cX8_falls 77 = .ok (.iaload, 1) := by decide +kernel
theorem dX8_falls_78 : decode cX8_falls 78 = .ok (.dup2, 1) := by decide +kernel
theorem dX8_falls_79 : decode cX8_falls 79 = .ok (.iaload, 1) := by decide +kernel
theorem dX8_falls_80 : decode cX8_falls 80 = .ok (.bipush 6, 2) := by decide +kernel
theorem dX8_falls_82 : decode cX8_falls 82 = .ok (.iadd, 1) := by decide +kernel
theorem dX8_falls_83 : decode cX8_falls 83 = .ok (.iastore, 1) := by decide +kernel
theorem dX8_falls_84 : decode cX8_falls 84 = .ok (.return_, 1) := by decide +kernel
theorem dX8_court_0 : decode cX8_court 0 = .ok (.iconst 0, 1) := by decide +kernel
theorem dX8_court_1 : decode cX8_court 1 = .ok (.istore_n 1, 1) := by decide +kernel
theorem dX8_court_2 : decode cX8_court 2 = .ok (.iconst 0, 1) := by decide +kernel
theorem dX8_court_3 : decode cX8_court 3 = .ok (.istore_n 2, 1) := by decide +kernel
theorem dX8_court_4 : decode cX8_court 4 = .ok (.iload_n 2, 1) := by decide +kernel
theorem dX8_court_5 : decode cX8_court 5 = .ok (.aload_n 0, 1) := by decide +kernel
theorem dX8_court_6 : decode cX8_court 6 = .ok (.getfield 209, 3) := by decide +kernel
theorem dX8_court_9 : decode cX8_court 9 = .ok (.if_icmp .ge 157, 3) := by decide +kernel
theorem dX8_court_12 : decode cX8_court 12 = .ok (.aload_n 0, 1) := by decide +kernel
theorem dX8_court_13 : decode cX8_court 13 = .ok (.getfield 80, 3) := by decide +kernel
theorem dX8_court_16 : decode cX8_court 16 = .ok (.iload_n 2, 1) := by decide +kernel
theorem dX8_court_17 : decode cX8_court 17 = .ok (.iaload, 1) := by decide +kernel
theorem dX8_court_18 : decode cX8_court 18 = .ok (.ifCond .eq 6, 3) := by decide +kernel
theorem dX8_court_21 : decode cX8_court 21 = .ok (.goto 139, 3) := by decide +kernel
theorem dX8_court_24 : decode cX8_court 24 = .ok (.aload_n 0, 1) := by decide +kernel
theorem dX8_court_25 : decode cX8_court 25 = .ok (.getfield 77, 3) := by decide +kernel
theorem dX8_court_28 : decode cX8_court 28 = .ok (.iload_n 2, 1) := by decide +kernel
theorem dX8_court_29 : decode cX8_court 29 = .ok (.iaload, 1) := by decide +kernel
theorem dX8_court_30 : decode cX8_court 30 = .ok (.istore_n 3, 1) := by decide +kernel
theorem dX8_court_31 : decode cX8_court 31 = .ok (.aload_n 0, 1) := by decide +kernel
theorem dX8_court_32 : decode cX8_court 32 = .ok (.getfield 77, 3) := by decide +kernel
theorem dX8_court_35 : decode cX8_court 35 = .ok (.iload_n 2, 1) := by decide +kernel
theorem dX8_court_36 : decode cX8_court 36 = .ok (.iconst 0, 1) := by decide +kernel
theorem dX8_court_37 : decode cX8_court 37 = .ok (.iastore, 1) := by decide +kernel
theorem dX8_court_38 : decode cX8_court 38 = .ok (.aload_n 0, 1) := by decide +kernel
theorem dX8_court_39 : decode cX8_court 39 = .ok (.getfield 43, 3) := by decide +kernel
theorem dX8_court_42 : decode cX8_court 42 = .ok (.aload_n 0, 1) := by decide +kernel
theorem dX8_court_43 : decode cX8_court 43 = .ok (.getfield 71, 3) := by decide +kernel
theorem dX8_court_46 : decode cX8_court 46 = .ok (.iload_n 2, 1) := by decide +kernel
theorem dX8_court_47 : decode cX8_court 47 = .ok (.iaload, 1) := by decide +kernel
theorem dX8_court_48 : decode cX8_court 48 = .ok (.baload, 1) := by decide +kernel
theorem dX8_court_49 : decode cX8_court 49 = .ok (.ifCond .ne 13, 3) := by decide +kernel
theorem dX8_court_52 : decode cX8_court 52 = .ok (.aload_n 0, 1) := by decide +kernel
theorem dX8_court_53 : decode cX8_court 53 = .ok (.getfield 80, 3) := by decide +kernel
theorem dX8_court_56 : decode cX8_court 56 = .ok (.iload_n 2, 1) := by decide +kernel
theorem dX8_court_57 : decode cX8_court 57 = .ok (.iconst 1, 1) := by decide +kernel
theorem dX8_court_58 : decode cX8_court 58 = .ok (.iastore, 1) := by decide +kernel
theorem dX8_court_59 : decode cX8_court 59 = .ok (.goto 84, 3) := by decide +kernel
theorem dX8_court_62 : decode cX8_court 62 = .ok (.iload_n 3, 1) := by decide +kernel
theorem dX8_court_63 : decode cX8_court 63 = .ok (.iconst 1, 1) := by decide +kernel
theorem dX8_court_64 : decode cX8_court 64 = .ok (.if_icmp .le 43, 3) := by decide +kernel
theorem dX8_court_67 : decode cX8_court 67 = .ok (.aload_n 0, 1) := by decide +kernel
theorem dX8_court_68 : decode cX8_court 68 = .ok (.getfield 80, 3) := by decide +kernel
theorem dX8_court_71 : decode cX8_court 71 = .ok (.iload_n 2, 1) := by decide +kernel
theorem dX8_court_72 : decode cX8_court 72 = .ok (.iload_n 3, 1) := by decide +kernel
theorem dX8_court_73 : decode cX8_court 73 = .ok (.iastore, 1) := by decide +kernel
theorem dX8_court_74 : decode cX8_court 74 = .ok (.aload_n 0, 1) := by decide +kernel
theorem dX8_court_75 : decode cX8_court 75 = .ok (.getfield 25, 3) := by decide +kernel
theorem dX8_court_78 : decode cX8_court 78 = .ok (.iload_n 3, 1) := by decide +kernel
theorem dX8_court_79 : decode cX8_court 79 = .ok (.iconst 2, 1) := by decide +kernel
theorem dX8_court_80 : decode cX8_court 80 = .ok (.if_icmp .ne 12, 3) := by decide +kernel
theorem dX8_court_83 : decode cX8_court 83 = .ok (.aload_n 0, 1) := by decide +kernel
theorem dX8_court_84 : decode cX8_court 84 = .ok (.getfield 71, 3) := by decide +kernel
theorem dX8_court_87 : decode cX8_court 87 = .ok (.iload_n 2, 1) := by decide +kernel
theorem dX8_court_88 : decode cX8_court 88 = .ok (.iaload, 1) := by decide +kernel
theorem dX8_court_89 : decode cX8_court 89 = .ok (.goto 9, 3) := by decide +kernel
theorem dX8_court_92 : decode cX8_court 92 = .ok (.aload_n 0, 1) := by decide +kernel
theorem dX8_court_93 : decode cX8_court 93 = .ok (.getfield 68, 3) := by decide +kernel
theorem dX8_court_96 : decode cX8_court 96 = .ok (.iload_n 2, 1) := by decide +kernel
theorem dX8_court_97 : decode cX8_court 97 = .ok (.iaload, 1) := by decide +kernel
theorem dX8_court_98 : decode cX8_court 98 = .ok (.dup2, 1) := by decide +kernel
theorem dX8_court_99 : decode cX8_court 99 = .ok (.iaload, 1) := by decide +kernel
theorem dX8_court_100 : decode cX8_court 100 = .ok (.bipush 6, 2) := by decide +kernel
theorem dX8_court_102 : decode cX8_court 102 = .ok (.iadd, 1) := by decide +kernel
theorem dX8_court_103 : decode cX8_court 103 = .ok (.iastore, 1) := by decide +kernel
theorem dX8_court_104 : decode cX8_court 104 = .ok (.goto 39, 3) := by decide +kernel
theorem dX8_court_107 : decode cX8_court 107 = .ok (.iload_n 3, 1) := by decide +kernel
theorem dX8_court_108 : decode cX8_court 108 = .ok (.iconst 1, 1) := by decide +kernel
theorem dX8_court_109 : decode cX8_court 109 = .ok (.if_icmp .ne 29, 3) := by decide +kernel
theorem dX8_court_112 : decode cX8_court 112 = .ok (.aload_n 0, 1) := by decide +kernel
theorem dX8_court_113 : decode cX8_court 113 = .ok (.getfield 83, 3) := by decide +kernel
theorem dX8_court_116 : decode cX8_court 116 = .ok (.iload_n 2, 1) := by decide +kernel
theorem dX8_court_117 : decode cX8_court 117 = .ok (.iaload, 1) := by decide +kernel
theorem dX8_court_118 : decode cX8_court 118 = .ok (.aload_n 0, 1) := by decide +kernel
theorem dX8_court_119 : decode cX8_court 119 = .ok (.getfield 139, 3) := by decide +kernel
theorem dX8_court_122 : decode cX8_court 122 = .ok (.if_icmp .ge 16, 3) := by decide +kernel
theorem dX8_court_125 : decode cX8_court 125 = .ok (.aload_n 0, 1) := by decide +kernel
theorem dX8_court_126 : decode cX8_court 126 = .ok (.getfield 83, 3) := by decide +kernel
theorem dX8_court_129 : decode cX8_court 129 = .ok (.iload_n 2, 1) := by decide +kernel
theorem dX8_court_130 : decode cX8_court 130 = .ok (.dup2, 1) := by decide +kernel
theorem dX8_court_131 : decode cX8_court 131 = .ok (.iaload, 1) := by decide +kernel
theorem dX8_court_132 : decode cX8_court 132 = .ok (.iconst 1, 1) := by decide +kernel
theorem dX8_court_133 : decode cX8_court 133 = .ok (.iadd, 1) := by decide +kernel
theorem dX8_court_134 : decode cX8_court 134 = .ok (.iastore, 1) := by decide +kernel
theorem dX8_court_135 : decode cX8_court 135 = .ok (.goto 8, 3) := by decide +kernel
theorem dX8_court_138 : decode cX8_court 138 = .ok (.aload_n 0, 1) := by decide +kernel
theorem dX8_court_139 : decode cX8_court 139 = .ok (.iload_n 2, 1) := by decide +kernel
theorem dX8_court_140 : decode cX8_court 140 = .ok (.invokevirtual 212, 3) := by decide +kernel
theorem dX8_court_143 : decode cX8_court 143 = .ok (.iload_n 1, 1) := by decide +kernel
theorem dX8_court_144 : decode cX8_court 144 = .ok (.aload_n 0, 1) := by decide +kernel
theorem dX8_court_145 : decode cX8_court 145 = .ok (.getfield 80, 3) := by decide +kernel
theorem dX8_court_148 : decode cX8_court 148 = .ok (.iload_n 2, 1) := by decide +kernel
theorem dX8_court_149 : decode cX8_court 149 = .ok (.iaload, 1) := by decide +kernel
theorem dX8_court_150 : decode cX8_court 150 = .ok (.ifCond .eq 7, 3) := by decide +kernel
theorem dX8_court_153 : decode cX8_court 153 = .ok (.iconst 1, 1) := by decide +kernel
theorem dX8_court_154 : decode cX8_court 154 = .ok (.goto 4, 3) := by decide +kernel
theorem dX8_court_157 : decode cX8_court 157 = .ok (.iconst 0, 1) := by decide +kernel
theorem dX8_court_158 : decode cX8_court 158 = .ok (.iadd, 1) := by decide +kernel
theorem dX8_court_159 : decode cX8_court 159 = .ok (.istore_n 1, 1) := by decide +kernel
theorem dX8_court_160 : decode cX8_court 160 = .ok (.iinc 2 1, 3) := by decide +kernel
theorem dX8_court_163 : decode cX8_court 163 = .ok (.goto (-159), 3) := by decide +kernel
theorem dX8_court_166 : decode cX8_court 166 = .ok (.iload_n 1, 1) := by decide +kernel
theorem dX8_court_167 : decode cX8_court 167 = .ok (.ireturn, 1) := by decide +kernel
theorem dX8_suited_0 : decode cX8_suited 0 = .ok (.iload_n 1, 1) := by decide +kernel
theorem dX8_suited_1 : decode cX8_suited 1 = .ok (.iconst 0, 1) := by decide +kernel
theorem dX8_suited_2 : decode cX8_suited 2 = .ok (.aload_n 0, 1) := by decide +kernel
theorem dX8_suited_3 : decode cX8_suited 3 = .ok (.getfield 209, 3) := by decide +kernel
theorem dX8_suited_6 : decode cX8_suited 6 = .ok (.iconst 1, 1) := by decide +kernel
theorem dX8_suited_7 : decode cX8_suited 7 = .ok (.isub, 1) := by decide +kernel
theorem dX8_suited_8 : decode cX8_suited 8 = .ok (.invokestatic 103, 3) := by decide +kernel
theorem dX8_suited_11 : decode cX8_suited 11 = .ok (.ifCond .ne 5, 3) := by decide +kernel
theorem dX8_suited_14 : decode cX8_suited 14 = .ok (.iconst (-1), 1) := by decide +kernel
theorem dX8_suited_15 : decode cX8_suited 15 = .ok (.ireturn, 1) := by decide +kernel
theorem dX8_suited_16 : decode cX8_suited 16 = .ok (.iload_n 2, 1) := by decide +kernel
theorem dX8_suited_17 : decode cX8_suited 17 = .ok (.ifCond .ne 12, 3) := by decide +kernel
theorem dX8_suited_20 : decode cX8_suited 20 = .ok (.aload_n 0, 1) := by decide +kernel
theorem dX8_suited_21 : decode cX8_suited 21 = .ok (.getfield 80, 3) := by decide +kernel
theorem dX8_suited_24 : decode cX8_suited 24 = .ok (.iload_n 1, 1) := by decide +kernel
theorem dX8_suited_25 : decode cX8_suited 25 = .ok (.iaload, 1) := by decide +kernel
theorem dX8_suited_26 : decode cX8_suited 26 = .ok (.goto 32, 3) := by decide +kernel
theorem dX8_suited_29 : decode cX8_suited 29 = .ok (.iload_n 2, 1) := by decide +kernel
theorem dX8_suited_30 : decode cX8_suited 30 = .ok (.iconst 1, 1) := by decide +kernel
theorem dX8_suited_31 : decode cX8_suited 31 = .ok (.if_icmp .ne 12, 3) := by decide +kernel
theorem dX8_suited_34 : decode cX8_suited 34 = .ok (.aload_n 0, 1) := by decide +kernel
theorem dX8_suited_35 : decode cX8_suited 35 = .ok (.getfield 83, 3) := by decide +kernel
theorem dX8_suited_38 : decode cX8_suited 38 = .ok (.iload_n 1, 1) := by decide +kernel
theorem dX8_suited_39 : decode cX8_suited 39 = .ok (.iaload, 1) := by decide +kernel
theorem dX8_suited_40 : decode cX8_suited 40 = .ok (.goto 18, 3) := by decide +kernel
theorem dX8_suited_43 : decode cX8_suited 43 = .ok (.iload_n 2, 1) := by decide +kernel
theorem dX8_suited_44 : decode cX8_suited 44 = .ok (.iconst 2, 1) := by decide +kernel
theorem dX8_suited_45 : decode cX8_suited 45 = .ok (.if_icmp .ne 12, 3) := by decide +kernel
theorem dX8_suited_48 : decode cX8_suited 48 = .ok (.aload_n 0, 1) := by decide +kernel
theorem dX8_suited_49 : decode cX8_suited 49 = .ok (.getfield 86, 3) := by decide +kernel
theorem dX8_suited_52 : decode cX8_suited 52 = .ok (.iload_n 1, 1) := by decide +kernel
theorem dX8_suited_53 : decode cX8_suited 53 = .ok (.iaload, 1) := by decide +kernel
theorem dX8_suited_54 : decode cX8_suited 54 = .ok (.goto 4, 3) := by decide +kernel
theorem dX8_suited_57 : decode cX8_suited 57 = .ok (.iconst (-1), 1) := by decide +kernel
theorem dX8_suited_58 : decode cX8_suited 58 = .ok (.ireturn, 1) := by decide +kernel
theorem dX8_told_0 : decode cX8_told 0 = .ok (.aload_n 0, 1) := by decide +kernel
theorem dX8_told_1 : decode cX8_told 1 = .ok (.iload_n 1, 1) := by decide +kernel
theorem dX8_told_2 : decode cX8_told 2 = .ok (.invokevirtual 107, 3) := by decide +kernel
theorem dX8_told_5 : decode cX8_told 5 = .ok (.ifCond .ne 6, 3) := by decide +kernel
theorem dX8_told_8 : decode cX8_told 8 = .ok (.bipush (-2), 2) := by decide +kernel
theorem dX8_told_10 : decode cX8_told 10 = .ok (.ireturn, 1) := by decide +kernel
theorem dX8_told_11 : decode cX8_told 11 = .ok (.iload_n 2, 1) := by decide +kernel
theorem dX8_told_12 : decode cX8_told 12 = .ok (.tableswitch 178 0 13 #[72, 79, 86, 93, 108, 115, 122, 129, 136, 143, 150, 157, 164, 171], 72) := by decide +kernel
theorem dX8_told_84 : decode cX8_told 84 = .ok (.aload_n 0, 1) := by decide +kernel
theorem dX8_told_85 : decode cX8_told 85 = .ok (.getfield 9, 3) := by decide +kernel
theorem dX8_told_88 : decode cX8_told 88 = .ok (.iload_n 1, 1) := by decide +kernel
theorem dX8_told_89 : decode cX8_told 89 = .ok (.iaload, 1) := by decide +kernel
theorem dX8_told_90 : decode cX8_told 90 = .ok (.ireturn, 1) := by decide +kernel
theorem dX8_told_91 : decode cX8_told 91 = .ok (.aload_n 0, 1) := by decide +kernel
theorem dX8_told_92 : decode cX8_told 92 = .ok (.getfield 13, 3) := by decide +kernel
theorem dX8_told_95 : decode cX8_told 95 = .ok (.iload_n 1, 1) := by decide +kernel
theorem dX8_told_96 : decode cX8_told 96 = .ok (.iaload, 1) := by decide +kernel
theorem dX8_told_97 : decode cX8_told 97 = .ok (.ireturn, 1) := by decide +kernel
theorem dX8_told_98 : decode cX8_told 98 = .ok (.aload_n 0, 1) := by decide +kernel
theorem dX8_told_99 : decode cX8_told 99 = .ok (.getfield 16, 3) := by decide +kernel
theorem dX8_told_102 : decode cX8_told 102 = .ok (.iload_n 1, 1) := by decide +kernel
theorem dX8_told_103 : decode cX8_told 103 = .ok (.iaload, 1) := by decide +kernel
theorem dX8_told_104 : decode cX8_told 104 = .ok (.ireturn, 1) := by decide +kernel
theorem dX8_told_105 : decode cX8_told 105 = .ok (.aload_n 0, 1) := by decide +kernel
theorem dX8_told_106 : decode cX8_told 106 = .ok (.getfield 43, 3) := by decide +kernel
theorem dX8_told_109 : decode cX8_told 109 = .ok (.iload_n 1, 1) := by decide +kernel
theorem dX8_told_110 : decode cX8_told 110 = .ok (.baload, 1) := by decide +kernel
theorem dX8_told_111 : decode cX8_told 111 = .ok (.ifCond .eq 7, 3) := by decide +kernel
theorem dX8_told_114 : decode cX8_told 114 = .ok (.iconst 1, 1) := by decide +kernel
theorem dX8_told_115 : decode cX8_told 115 = .ok (.goto 4, 3) := by decide +kernel
theorem dX8_told_118 : decode cX8_told 118 = .ok (.iconst 0, 1) := by decide +kernel
theorem dX8_told_119 : decode cX8_told 119 = .ok (.ireturn, 1) := by decide +kernel
theorem dX8_told_120 : decode cX8_told 120 = .ok (.aload_n 0, 1) := by decide +kernel
theorem dX8_told_121 : decode cX8_told 121 = .ok (.getfield 19, 3) := by decide +kernel
theorem dX8_told_124 : decode cX8_told 124 = .ok (.iload_n 1, 1) := by decide +kernel
theorem dX8_told_125 : decode cX8_told 125 = .ok (.iaload, 1) := by decide +kernel
theorem dX8_told_126 : decode cX8_told 126 = .ok (.ireturn, 1) := by decide +kernel
theorem dX8_told_127 : decode cX8_told 127 = .ok (.aload_n 0, 1) := by decide +kernel
theorem dX8_told_128 : decode cX8_told 128 = .ok (.getfield 22, 3) := by decide +kernel
theorem dX8_told_131 : decode cX8_told 131 = .ok (.iload_n 1, 1) := by decide +kernel
theorem dX8_told_132 : decode cX8_told 132 = .ok (.iaload, 1) := by decide +kernel
theorem dX8_told_133 : decode cX8_told 133 = .ok (.ireturn, 1) := by decide +kernel
theorem dX8_told_134 : decode cX8_told 134 = .ok (.aload_n 0, 1) := by decide +kernel
theorem dX8_told_135 : decode cX8_told 135 = .ok (.iload_n 1, 1) := by decide +kernel
theorem dX8_told_136 : decode cX8_told 136 = .ok (.iconst 0, 1) := by decide +kernel
theorem dX8_told_137 : decode cX8_told 137 = .ok (.invokevirtual 202, 3) := by decide +kernel
theorem dX8_told_140 : decode cX8_told 140 = .ok (.ireturn, 1) := by decide +kernel
theorem dX8_told_141 : decode cX8_told 141 = .ok (.aload_n 0, 1) := by decide +kernel
theorem dX8_told_142 : decode cX8_told 142 = .ok (.iload_n 1, 1) := by decide +kernel
theorem dX8_told_143 : decode cX8_told 143 = .ok (.iconst 1, 1) := by decide +kernel
theorem dX8_told_144 : decode cX8_told 144 = .ok (.invokevirtual 202, 3) := by decide +kernel
theorem dX8_told_147 : decode cX8_told 147 = .ok (.ireturn, 1) := by decide +kernel
theorem dX8_told_148 : decode cX8_told 148 = .ok (.aload_n 0, 1) := by decide +kernel
theorem dX8_told_149 : decode cX8_told 149 = .ok (.getfield 25, 3) := by decide +kernel
theorem dX8_told_152 : decode cX8_told 152 = .ok (.iload_n 1, 1) := by decide +kernel
theorem dX8_told_153 : decode cX8_told 153 = .ok (.iaload, 1) := by decide +kernel
theorem dX8_told_154 : decode cX8_told 154 = .ok (.ireturn, 1) := by decide +kernel
theorem dX8_told_155 : decode cX8_told 155 = .ok (.aload_n 0, 1) := by decide +kernel
theorem dX8_told_156 : decode cX8_told 156 = .ok (.getfield 28, 3) := by decide +kernel
theorem dX8_told_159 : decode cX8_told 159 = .ok (.iload_n 1, 1) := by decide +kernel
theorem dX8_told_160 : decode cX8_told 160 = .ok (.iaload, 1) := by decide +kernel
theorem dX8_told_161 : decode cX8_told 161 = .ok (.ireturn, 1) := by decide +kernel
theorem dX8_told_162 : decode cX8_told 162 = .ok (.aload_n 0, 1) := by decide +kernel
theorem dX8_told_163 : decode cX8_told 163 = .ok (.getfield 31, 3) := by decide +kernel
theorem dX8_told_166 : decode cX8_told 166 = .ok (.iload_n 1, 1) := by decide +kernel
theorem dX8_told_167 : decode cX8_told 167 = .ok (.iaload, 1) := by decide +kernel
theorem dX8_told_168 : decode cX8_told 168 = .ok (.ireturn, 1) := by decide +kernel
theorem dX8_told_169 : decode cX8_told 169 = .ok (.aload_n 0, 1) := by decide +kernel
theorem dX8_told_170 : decode cX8_told 170 = .ok (.getfield 34, 3) := by decide +kernel
theorem dX8_told_173 : decode cX8_told 173 = .ok (.iload_n 1, 1) := by decide +kernel
theorem dX8_told_174 : decode cX8_told 174 = .ok (.iaload, 1) := by decide +kernel
theorem dX8_told_175 : decode cX8_told 175 = .ok (.ireturn, 1) := by decide +kernel
theorem dX8_told_176 : decode cX8_told 176 = .ok (.aload_n 0, 1) := by decide +kernel
theorem dX8_told_177 : decode cX8_told 177 = .ok (.getfield 37, 3) := by decide +kernel
theorem dX8_told_180 : decode cX8_told 180 = .ok (.iload_n 1, 1) := by decide +kernel
theorem dX8_told_181 : decode cX8_told 181 = .ok (.iaload, 1) := by decide +kernel
theorem dX8_told_182 : decode cX8_told 182 = .ok (.ireturn, 1) := by decide +kernel
theorem dX8_told_183 : decode cX8_told 183 = .ok (.aload_n 0, 1) := by decide +kernel
theorem dX8_told_184 : decode cX8_told 184 = .ok (.getfield 40, 3) := by decide +kernel
theorem dX8_told_187 : decode cX8_told 187 = .ok (.iload_n 1, 1) := by decide +kernel
theorem dX8_told_188 : decode cX8_told 188 = .ok (.iaload, 1) := by decide +kernel
theorem dX8_told_189 : decode cX8_told 189 = .ok (.ireturn, 1) := by decide +kernel
theorem dX8_told_190 : decode cX8_told 190 = .ok (.bipush (-2), 2) := by decide +kernel
theorem dX8_told_192 : decode cX8_told 192 = .ok (.ireturn, 1) := by decide +kernel
theorem dX8_count_0 : decode cX8_count 0 = .ok (.iload_n 1, 1) := by decide +kernel
theorem dX8_count_1 : decode cX8_count 1 = .ok (.tableswitch 113 0 7 #[47, 52, 57, 62, 67, 74, 103, 108], 47) := by decide +kernel
theorem dX8_count_48 : decode cX8_count 48 = .ok (.aload_n 0, 1) := by decide +kernel
theorem dX8_count_49 : decode cX8_count 49 = .ok (.getfield 118, 3) := by decide +kernel
theorem dX8_count_52 : decode cX8_count 52 = .ok (.ireturn, 1) := by decide +kernel
theorem dX8_count_53 : decode cX8_count 53 = .ok (.aload_n 0, 1) := by decide +kernel
theorem dX8_count_54 : decode cX8_count 54 = .ok (.getfield 99, 3) := by decide +kernel
theorem dX8_count_57 : decode cX8_count 57 = .ok (.ireturn, 1) := by decide +kernel
theorem dX8_count_58 : decode cX8_count 58 = .ok (.aload_n 0, 1) := by decide +kernel
theorem dX8_count_59 : decode cX8_count 59 = .ok (.getfield 151, 3) := by decide +kernel
theorem dX8_count_62 : decode cX8_count 62 = .ok (.ireturn, 1) := by decide +kernel
theorem dX8_count_63 : decode cX8_count 63 = .ok (.aload_n 0, 1) := by decide +kernel
theorem dX8_count_64 : decode cX8_count 64 = .ok (.getfield 209, 3) := by decide +kernel
theorem dX8_count_67 : decode cX8_count 67 = .ok (.ireturn, 1) := by decide +kernel
theorem dX8_count_68 : decode cX8_count 68 = .ok (.aload_n 0, 1) := by decide +kernel
theorem dX8_count_69 : decode cX8_count 69 = .ok (.iconst (-1), 1) := by decide +kernel
theorem dX8_count_70 : decode cX8_count 70 = .ok (.iconst 0, 1) := by decide +kernel
theorem dX8_count_71 : decode cX8_count 71 = .ok (.invokevirtual 202, 3) := by decide +kernel
theorem dX8_count_74 : decode cX8_count 74 = .ok (.ireturn, 1) := by decide +kernel
theorem dX8_count_75 : decode cX8_count 75 = .ok (.iconst 0, 1) := by decide +kernel
theorem dX8_count_76 : decode cX8_count 76 = .ok (.istore_n 2, 1) := by decide +kernel
theorem dX8_count_77 : decode cX8_count 77 = .ok (.iconst 0, 1) := by decide +kernel
theorem dX8_count_78 : decode cX8_count 78 = .ok (.istore_n 3, 1) := by decide +kernel
theorem dX8_count_79 : decode cX8_count 79 = .ok (.iload_n 3, 1) := by decide +kernel
theorem dX8_count_80 : decode cX8_count 80 = .ok (.aload_n 0, 1) := by decide +kernel
theorem dX8_count_81 : decode cX8_count 81 = .ok (.getfield 99, 3) := by decide +kernel
theorem dX8_count_84 : decode cX8_count 84 = .ok (.if_icmp .ge 18, 3) := by decide +kernel
theorem dX8_count_87 : decode cX8_count 87 = .ok (.iload_n 2, 1) := by decide +kernel
theorem dX8_count_88 : decode cX8_count 88 = .ok (.aload_n 0, 1) := by decide +kernel
theorem dX8_count_89 : decode cX8_count 89 = .ok (.getfield 25, 3) := by decide +kernel
theorem dX8_count_92 : decode cX8_count 92 = .ok (.iload_n 3, 1) := by decide +kernel
theorem dX8_count_93 : decode cX8_count 93 = .ok (.iaload, 1) := by decide +kernel
theorem dX8_count_94 : decode cX8_count 94 = .ok (.iadd, 1) := by decide +kernel
theorem dX8_count_95 : decode cX8_count 95 = .ok (.istore_n 2, 1) := by decide +kernel
theorem dX8_count_96 : decode cX8_count 96 = .ok (.iinc 3 1, 3) := by decide +kernel
theorem dX8_count_99 : decode cX8_count 99 = .ok (.goto (-20), 3) := by decide +kernel
theorem dX8_count_102 : decode cX8_count 102 = .ok (.iload_n 2, 1) := by decide +kernel
theorem dX8_count_103 : decode cX8_count 103 = .ok (.ireturn, 1) := by decide +kernel
theorem dX8_count_104 : decode cX8_count 104 = .ok (.aload_n 0, 1) := by decide +kernel
theorem dX8_count_105 : decode cX8_count 105 = .ok (.getfield 206, 3) := by decide +kernel
theorem dX8_count_108 : decode cX8_count 108 = .ok (.ireturn, 1) := by decide +kernel
theorem dX8_count_109 : decode cX8_count 109 = .ok (.aload_n 0, 1) := by decide +kernel
theorem dX8_count_110 : decode cX8_count 110 = .ok (.getfield 111, 3) := by decide +kernel
theorem dX8_count_113 : decode cX8_count 113 = .ok (.ireturn, 1) := by decide +kernel
theorem dX8_count_114 : decode cX8_count 114 = .ok (.iconst (-1), 1) := by decide +kernel
theorem dX8_count_115 : decode cX8_count 115 = .ok (.ireturn, 1) := by decide +kernel
end
section
theorem dL_law_0 : decode cL_law 0 = .ok (.new 7, 3) := by decide +kernel
theorem dL_law_3 : decode cL_law 3 = .ok (.dup, 1) := by decide +kernel
theorem dL_law_4 : decode cL_law 4 = .ok (.invokespecial 9, 3) := by decide +kernel
theorem dL_law_7 : decode cL_law 7 = .ok (.astore_n 1, 1) := by decide +kernel
theorem dL_law_8 : decode cL_law 8 = .ok (.new 10, 3) := by decide +kernel
theorem dL_law_11 : decode cL_law 11 = .ok (.dup, 1) := by decide +kernel
theorem dL_law_12 : decode cL_law 12 = .ok (.invokespecial 12, 3) := by decide +kernel
theorem dL_law_15 : decode cL_law 15 = .ok (.astore_n 2, 1) := by decide +kernel
theorem dL_law_16 : decode cL_law 16 = .ok (.iconst 0, 1) := by decide +kernel
theorem dL_law_17 : decode cL_law 17 = .ok (.istore_n 3, 1) := by decide +kernel
theorem dL_law_18 : decode cL_law 18 = .ok (.iload_n 3, 1) := by decide +kernel
theorem dL_law_19 : decode cL_law 19 = .ok (.aload_n 0, 1) := by decide +kernel
theorem dL_law_20 : decode cL_law 20 = .ok (.arraylength, 1) := by decide +kernel
theorem dL_law_21 : decode cL_law 21 = .ok (.bipush 6, 2) := by decide +kernel
theorem dL_law_23 : decode cL_law 23 = .ok (.isub, 1) := by decide +kernel
theorem dL_law_24 : decode cL_law 24 = .ok (.if_icmp .gt 799, 3) := by decide +kernel
theorem dL_law_27 : decode cL_law 27 = .ok (.aload_n 0, 1) := by decide +kernel
theorem dL_law_28 : decode cL_law 28 = .ok (.iload_n 3, 1) := by decide +kernel
theorem dL_law_29 : decode cL_law 29 = .ok (.iaload, 1) := by decide +kernel
theorem dL_law_30 : decode cL_law 30 = .ok (.bipush 31, 2) := by decide +kernel
theorem dL_law_32 : decode cL_law 32 = .ok (.iand, 1) := by decide +kernel
theorem dL_law_33 : decode cL_law 33 = .ok (.tableswitch 784 0 18 #[91, 124, 167, 200, 223, 266, 319, 342, 375, 434, 467, 510, 543, 556, 599, 662, 695, 728, 761], 91) := by decide +kernel
theorem dL_law_124 : decode cL_law 124 = .ok (.aload_n 1, 1) := by decide +kernel
theorem dL_law_125 : decode cL_law 125 = .ok (.aload_n 0, 1) := by decide +kernel
theorem dL_law_126 : decode cL_law 126 = .ok (.iload_n 3, 1) := by decide +kernel
theorem dL_law_127 : decode cL_law 127 = .ok (.iconst 1, 1) := by decide +kernel
theorem dL_law_128 : decode cL_law 128 = .ok (.iadd, 1) := by decide +kernel
theorem dL_law_129 : decode cL_law 129 = .ok (.iaload, 1) := by decide +kernel
theorem dL_law_130 : decode cL_law 130 = .ok (.aload_n 0, 1) := by decide +kernel
theorem dL_law_131 : decode cL_law 131 = .ok (.iload_n 3, 1) := by decide +kernel
theorem dL_law_132 : decode cL_law 132 = .ok (.iconst 2, 1) := by decide +kernel
theorem dL_law_133 : decode cL_law 133 = .ok (.iadd, 1) := by decide +kernel
theorem dL_law_134 : decode cL_law 134 = .ok (.iaload, 1) := by decide +kernel
theorem dL_law_135 : decode cL_law 135 = .ok (.invokevirtual 13, 3) := by decide +kernel
theorem dL_law_138 : decode cL_law 138 = .ok (.aload_n 2, 1) := by decide +kernel
theorem dL_law_139 : decode cL_law 139 = .ok (.aload_n 0, 1) := by decide +kernel
theorem dL_law_140 : decode cL_law 140 = .ok (.iload_n 3, 1) := by decide +kernel
theorem dL_law_141 : decode cL_law 141 = .ok (.iconst 1, 1) := by decide +kernel
theorem dL_law_142 : decode cL_law 142 = .ok (.iadd, 1) := by decide +kernel
theorem dL_law_143 : decode cL_law 143 = .ok (.iaload, 1) := by decide +kernel
theorem dL_law_144 : decode cL_law 144 = .ok (.aload_n 0, 1) := by decide +kernel
theorem dL_law_145 : decode cL_law 145 = .ok (.iload_n 3, 1) := by decide +kernel
theorem dL_law_146 : decode cL_law 146 = .ok (.iconst 2, 1) := by decide +kernel
theorem dL_law_147 : decode cL_law 147 = .ok (.iadd, 1) := by decide +kernel
theorem dL_law_148 : decode cL_law 148 = .ok (.iaload, 1) := by decide +kernel
theorem dL_law_149 : decode cL_law 149 = .ok (.invokevirtual 17, 3) := by decide +kernel
theorem dL_law_152 : decode cL_law 152 = .ok (.if_icmp .eq 665, 3) := by decide +kernel
theorem dL_law_155 : decode cL_law 155 = .ok (.iconst 0, 1) := by decide +kernel
theorem dL_law_156 : decode cL_law 156 = .ok (.ireturn, 1) := by decide +kernel
theorem dL_law_157 : decode cL_law 157 = .ok (.aload_n 1, 1) := by decide +kernel
theorem dL_law_158 : decode cL_law 158 = .ok (.aload_n 0, 1) := by decide +kernel
theorem dL_law_159 : decode cL_law 159 = .ok (.iload_n 3, 1) := by decide +kernel
theorem dL_law_160 : decode cL_law 160 = .ok (.iconst 1, 1) := by decide +kernel
theorem dL_law_161 : decode cL_law 161 = .ok (.iadd, 1) := by decide +kernel
theorem dL_law_162 : decode cL_law 162 = .ok (.iaload, 1) := by decide +kernel
theorem dL_law_163 : decode cL_law 163 = .ok (.aload_n 0, 1) := by decide +kernel
theorem dL_law_164 : decode cL_law 164 = .ok (.iload_n 3, 1) := by decide +kernel
theorem dL_law_165 : decode cL_law 165 = .ok (.iconst 2, 1) := by decide +kernel
theorem dL_law_166 : decode cL_law 166 = .ok (.iadd, 1) := by decide +kernel
theorem dL_law_167 : decode cL_law 167 = .ok (.iaload, 1) := by decide +kernel
theorem dL_law_168 : decode cL_law 168 = .ok (.aload_n 0, 1) := by decide +kernel
theorem dL_law_169 : decode cL_law 169 = .ok (.iload_n 3, 1) := by decide +kernel
theorem dL_law_170 : decode cL_law 170 = .ok (.iconst 3, 1) := by decide +kernel
theorem dL_law_171 : decode cL_law 171 = .ok (.iadd, 1) := by decide +kernel
theorem dL_law_172 : decode cL_law 172 = .ok (.iaload, 1) := by decide +kernel
theorem dL_law_173 : decode cL_law 173 = .ok (.invokevirtual 18, 3) := by decide +kernel
theorem dL_law_176 : decode cL_law 176 = .ok (.aload_n 2, 1) := by decide +kernel
theorem dL_law_177 : decode cL_law 177 = .ok (.aload_n 0, 1) := by decide +kernel
theorem dL_law_178 : decode cL_law 178 = .ok (.iload_n 3, 1) := by decide +kernel
theorem dL_law_179 : decode cL_law 179 = .ok (.iconst 1, 1) := by decide +kernel
theorem dL_law_180 : decode cL_law 180 = .ok (.iadd, 1) := by decide +kernel
theorem dL_law_181 : decode cL_law 181 = .ok (.iaload, 1) := by decide +kernel
theorem dL_law_182 : decode cL_law 182 = .ok (.aload_n 0, 1) := by decide +kernel
theorem dL_law_183 : decode cL_law 183 = .ok (.iload_n 3, 1) := by decide +kernel
theorem dL_law_184 : decode cL_law 184 = .ok (.iconst 2, 1) := by decide +kernel
theorem dL_law_185 : decode cL_law 185 = .ok (.iadd, 1) := by decide +kernel
theorem dL_law_186 : decode cL_law 186 = .ok (.iaload, 1) := by decide +kernel
theorem dL_law_187 : decode cL_law 187 = .ok (.aload_n 0, 1) := by decide +kernel
theorem dL_law_188 : decode cL_law 188 = .ok (.iload_n 3, 1) := by decide +kernel
theorem dL_law_189 : decode cL_law 189 = .ok (.iconst 3, 1) := by decide +kernel
theorem dL_law_190 : decode cL_law 190 = .ok (.iadd, 1) := by decide +kernel
theorem dL_law_191 : decode cL_law 191 = .ok (.iaload, 1) := by decide +kernel
theorem dL_law_192 : decode cL_law 192 = .ok (.invokevirtual 22, 3) := by decide +kernel
theorem dL_law_195 : decode cL_law 195 = .ok (.if_icmp .eq 622, 3) := by decide +kernel
theorem dL_law_198 : decode cL_law 198 = .ok (.iconst 0, 1) := by decide +kernel
theorem dL_law_199 : decode cL_law 199 = .ok (.ireturn, 1) := by decide +kernel
theorem dL_law_200 : decode cL_law 200 = .ok (.aload_n 1, 1) := by decide +kernel
theorem dL_law_201 : decode cL_law 201 = .ok (.aload_n 0, 1) := by decide +kernel
theorem dL_law_202 : decode cL_law 202 = .ok (.iload_n 3, 1) := by decide +kernel
theorem dL_law_203 : decode cL_law 203 = .ok (.iconst 1, 1) := by decide +kernel
theorem dL_law_204 : decode cL_law 204 = .ok (.iadd, 1) := by decide +kernel
theorem dL_law_205 : decode cL_law 205 = .ok (.iaload, 1) := by decide +kernel
theorem dL_law_206 : decode cL_law 206 = .ok (.aload_n 0, 1) := by decide +kernel
theorem dL_law_207 : decode cL_law 207 = .ok (.iload_n 3, 1) := by decide +kernel
theorem dL_law_208 : decode cL_law 208 = .ok (.iconst 2, 1) := by decide +kernel
theorem dL_law_209 : decode cL_law 209 = .ok (.iadd, 1) := by decide +kernel
theorem dL_law_210 : decode cL_law 210 = .ok (.iaload, 1) := by decide +kernel
theorem dL_law_211 : decode cL_law 211 = .ok (.invokevirtual 23, 3) := by decide +kernel
theorem dL_law_214 : decode cL_law 214 = .ok (.aload_n 2, 1) := by decide +kernel
theorem dL_law_215 : decode cL_law 215 = .ok (.aload_n 0, 1) := by decide +kernel
theorem dL_law_216 : decode cL_law 216 = .ok (.iload_n 3, 1) := by decide +kernel
theorem dL_law_217 : decode cL_law 217 = .ok (.iconst 1, 1) := by decide +kernel
theorem dL_law_218 : decode cL_law 218 = .ok (.iadd, 1) := by decide +kernel
theorem dL_law_219 : decode cL_law 219 = .ok (.iaload, 1) := by decide +kernel
theorem dL_law_220 : decode cL_law 220 = .ok (.aload_n 0, 1) := by decide +kernel
theorem dL_law_221 : decode cL_law 221 = .ok (.iload_n 3, 1) := by decide +kernel
theorem dL_law_222 : decode cL_law 222 = .ok (.iconst 2, 1) := by decide +kernel
theorem dL_law_223 : decode cL_law 223 = .ok (.iadd, 1) := by decide +kernel
theorem dL_law_224 : decode cL_law 224 = .ok (.iaload, 1) := by decide +kernel
theorem dL_law_225 : decode cL_law 225 = .ok (.invokevirtual 27, 3) := by decide +kernel
theorem dL_law_228 : decode cL_law 228 = .ok (.if_icmp .eq 589, 3) := by decide +kernel
theorem dL_law_231 : decode cL_law 231 = .ok (.iconst 0, 1) := by decide +kernel
theorem dL_law_232 : decode cL_law 232 = .ok (.ireturn, 1) := by decide +kernel
theorem dL_law_233 : decode cL_law 233 = .ok (.aload_n 1, 1) := by decide +kernel
theorem dL_law_234 : decode cL_law 234 = .ok (.aload_n 0, 1) := by decide +kernel
theorem dL_law_235 : decode cL_law 235 = .ok (.iload_n 3, 1) := by decide +kernel
theorem dL_law_236 : decode cL_law 236 = .ok (.iconst 1, 1) := by decide +kernel
theorem dL_law_237 : decode cL_law 237 = .ok (.iadd, 1) := by decide +kernel
theorem dL_law_238 : decode cL_law 238 = .ok (.iaload, 1) := by decide +kernel
theorem dL_law_239 : decode cL_law 239 = .ok (.invokevirtual 28, 3) := by decide +kernel
theorem dL_law_242 : decode cL_law 242 = .ok (.aload_n 2, 1) := by decide +kernel
theorem dL_law_243 : decode cL_law 243 = .ok (.aload_n 0, 1) := by decide +kernel
theorem dL_law_244 : decode cL_law 244 = .ok (.iload_n 3, 1) := by decide +kernel
theorem dL_law_245 : decode cL_law 245 = .ok (.iconst 1, 1) := by decide +kernel
theorem dL_law_246 : decode cL_law 246 = .ok (.iadd, 1) := by decide +kernel
theorem dL_law_247 : decode cL_law 247 = .ok (.iaload, 1) := by decide +kernel
theorem dL_law_248 : decode cL_law 248 = .ok (.invokevirtual 32, 3) := by decide +kernel
theorem dL_law_251 : decode cL_law 251 = .ok (.if_icmp .eq 566, 3) := by decide +kernel
theorem dL_law_254 : decode cL_law 254 = .ok (.iconst 0, 1) := by decide +kernel
theorem dL_law_255 : decode cL_law 255 = .ok (.ireturn, 1) := by decide +kernel
theorem dL_law_256 : decode cL_law 256 = .ok (.aload_n 1, 1) := by decide +kernel
theorem dL_law_257 : decode cL_law 257 = .ok (.aload_n 0, 1) := by decide +kernel
theorem dL_law_258 : decode cL_law 258 = .ok (.iload_n 3, 1) := by decide +kernel
theorem dL_law_259 : decode cL_law 259 = .ok (.iconst 1, 1) := by decide +kernel
theorem dL_law_260 : decode cL_law 260 = .ok (.iadd, 1) := by decide +kernel
theorem dL_law_261 : decode cL_law 261 = .ok (.iaload, 1) := by decide +kernel
theorem dL_law_262 : decode cL_law 262 = .ok (.aload_n 0, 1) := by decide +kernel
theorem dL_law_263 : decode cL_law 263 = .ok (.iload_n 3, 1) := by decide +kernel
theorem dL_law_264 : decode cL_law 264 = .ok (.iconst 2, 1) := by decide +kernel
theorem dL_law_265 : decode cL_law 265 = .ok (.iadd, 1) := by decide +kernel
theorem dL_law_266 : decode cL_law 266 = .ok (.iaload, 1) := by decide +kernel
theorem dL_law_267 : decode cL_law 267 = .ok (.aload_n 0, 1) := by decide +kernel
theorem dL_law_268 : decode cL_law 268 = .ok (.iload_n 3, 1) := by decide +kernel
theorem dL_law_269 : decode cL_law 269 = .ok (.iconst 3, 1) := by decide +kernel
theorem dL_law_270 : decode cL_law 270 = .ok (.iadd, 1) := by decide +kernel
theorem dL_law_271 : decode cL_law 271 = .ok (.iaload, 1) := by decide +kernel
theorem dL_law_272 : decode cL_law 272 = .ok (.invokevirtual 33, 3) := by decide +kernel
theorem dL_law_275 : decode cL_law 275 = .ok (.aload_n 2, 1) := by decide +kernel
theorem dL_law_276 : decode cL_law 276 = .ok (.aload_n 0, 1) := by decide +kernel
theorem dL_law_277 : decode cL_law 277 = .ok (.iload_n 3, 1) := by decide +kernel
theorem dL_law_278 : decode cL_law 278 = .ok (.iconst 1, 1) := by decide +kernel
theorem dL_law_279 : decode cL_law 279 = .ok (.iadd, 1) := by decide +kernel
theorem dL_law_280 : decode cL_law 280 = .ok (.iaload, 1) := by decide +kernel
theorem dL_law_281 : decode cL_law 281 = .ok (.aload_n 0, 1) := by decide +kernel
theorem dL_law_282 : decode cL_law 282 = .ok (.iload_n 3, 1) := by decide +kernel
theorem dL_law_283 : decode cL_law 283 = .ok (.iconst 2, 1) := by decide +kernel
theorem dL_law_284 : decode cL_law 284 = .ok (.iadd, 1) := by decide +kernel
theorem dL_law_285 : decode cL_law 285 = .ok (.iaload, 1) := by decide +kernel
theorem dL_law_286 : decode cL_law 286 = .ok (.aload_n 0, 1) := by decide +kernel
theorem dL_law_287 : decode cL_law 287 = .ok (.iload_n 3, 1) := by decide +kernel
theorem dL_law_288 : decode cL_law 288 = .ok (.iconst 3, 1) := by decide +kernel
theorem dL_law_289 : decode cL_law 289 = .ok (.iadd, 1) := by decide +kernel
theorem dL_law_290 : decode cL_law 290 = .ok (.iaload, 1) := by decide +kernel
theorem dL_law_291 : decode cL_law 291 = .ok (.invokevirtual 37, 3) := by decide +kernel
theorem dL_law_294 : decode cL_law 294 = .ok (.if_icmp .eq 523, 3) := by decide +kernel
theorem dL_law_297 : decode cL_law 297 = .ok (.iconst 0, 1) := by decide +kernel
theorem dL_law_298 : decode cL_law 298 = .ok (.ireturn, 1) := by decide +kernel
theorem dL_law_299 : decode cL_law 299 = .ok (.aload_n 1, 1) := by decide +kernel
theorem dL_law_300 : decode cL_law 300 = .ok (.aload_n 0, 1) := by decide +kernel
theorem dL_law_301 : decode cL_law 301 = .ok (.iload_n 3, 1) := by decide +kernel
theorem dL_law_302 : decode cL_law 302 = .ok (.iconst 1, 1) := by decide +kernel
theorem dL_law_303 : decode cL_law 303 = .ok (.iadd, 1) := by decide +kernel
theorem dL_law_304 : decode cL_law 304 = .ok (.iaload, 1) := by decide +kernel
theorem dL_law_305 : decode cL_law 305 = .ok (.aload_n 0, 1) := by decide +kernel
theorem dL_law_306 : decode cL_law 306 = .ok (.iload_n 3, 1) := by decide +kernel
theorem dL_law_307 : decode cL_law 307 = .ok (.iconst 2, 1) := by decide +kernel
theorem dL_law_308 : decode cL_law 308 = .ok (.iadd, 1) := by decide +kernel
theorem dL_law_309 : decode cL_law 309 = .ok (.iaload, 1) := by decide +kernel
theorem dL_law_310 : decode cL_law 310 = .ok (.aload_n 0, 1) := by decide +kernel
theorem dL_law_311 : decode cL_law 311 = .ok (.iload_n 3, 1) := by decide +kernel
theorem dL_law_312 : decode cL_law 312 = .ok (.iconst 3, 1) := by decide +kernel
theorem dL_law_313 : decode cL_law 313 = .ok (.iadd, 1) := by decide +kernel
theorem dL_law_314 : decode cL_law 314 = .ok (.iaload, 1) := by decide +kernel
theorem dL_law_315 : decode cL_law 315 = .ok (.aload_n 0, 1) := by decide +kernel
theorem dL_law_316 : decode cL_law 316 = .ok (.iload_n 3, 1) := by decide +kernel
theorem dL_law_317 : decode cL_law 317 = .ok (.iconst 4, 1) := by decide +kernel
theorem dL_law_318 : decode cL_law 318 = .ok (.iadd, 1) := by decide +kernel
theorem dL_law_319 : decode cL_law 319 = .ok (.iaload, 1) := by decide +kernel
theorem dL_law_320 : decode cL_law 320 = .ok (.invokevirtual 38, 3) := by decide +kernel
theorem dL_law_323 : decode cL_law 323 = .ok (.aload_n 2, 1) := by decide +kernel
theorem dL_law_324 : decode cL_law 324 = .ok (.aload_n 0, 1) := by decide +kernel
theorem dL_law_325 : decode cL_law 325 = .ok (.iload_n 3, 1) := by decide +kernel
theorem dL_law_326 : decode cL_law 326 = .ok (.iconst 1, 1) := by decide +kernel
theorem dL_law_327 : decode cL_law 327 = .ok (.iadd, 1) := by decide +kernel
theorem dL_law_328 : decode cL_law 328 = .ok (.iaload, 1) := by decide +kernel
theorem dL_law_329 : decode cL_law 329 = .ok (.aload_n 0, 1) := by decide +kernel
theorem dL_law_330 : decode cL_law 330 = .ok (.iload_n 3, 1) := by decide +kernel
theorem dL_law_331 : decode cL_law 331 = .ok (.iconst 2, 1) := by decide +kernel
theorem dL_law_332 : decode cL_law 332 = .ok (.iadd, 1) := by decide +kernel
theorem dL_law_333 : decode cL_law 333 = .ok (.iaload, 1) := by decide +kernel
theorem dL_law_334 : decode cL_law 334 = .ok (.aload_n 0, 1) := by decide +kernel
theorem dL_law_335 : decode cL_law 335 = .ok (.iload_n 3, 1) := by decide +kernel
theorem dL_law_336 : decode cL_law 336 = .ok (.iconst 3, 1) := by decide +kernel
theorem dL_law_337 : decode cL_law 337 = .ok (.iadd, 1) := by decide +kernel
theorem dL_law_338 : decode cL_law 338 = .ok (.iaload, 1) := by decide +kernel
theorem dL_law_339 : decode cL_law 339 = .ok (.aload_n 0, 1) := by decide +kernel
theorem dL_law_340 : decode cL_law 340 = .ok (.iload_n 3, 1) := by decide +kernel
theorem dL_law_341 : decode cL_law 341 = .ok (.iconst 4, 1) := by decide +kernel
theorem dL_law_342 : decode cL_law 342 = .ok (.iadd, 1) := by decide +kernel
theorem dL_law_343 : decode cL_law 343 = .ok (.iaload, 1) := by decide +kernel
theorem dL_law_344 : decode cL_law 344 = .ok (.invokevirtual 42, 3) := by decide +kernel
theorem dL_law_347 : decode cL_law 347 = .ok (.if_icmp .eq 470, 3) := by decide +kernel
theorem dL_law_350 : decode cL_law 350 = .ok (.iconst 0, 1) := by decide +kernel
theorem dL_law_351 : decode cL_law 351 = .ok (.ireturn, 1) := by decide +kernel
theorem dL_law_352 : decode cL_law 352 = .ok (.aload_n 1, 1) := by decide +kernel
theorem dL_law_353 : decode cL_law 353 = .ok (.aload_n 0, 1) := by decide +kernel
theorem dL_law_354 : decode cL_law 354 = .ok (.iload_n 3, 1) := by decide +kernel
theorem dL_law_355 : decode cL_law 355 = .ok (.iconst 1, 1) := by decide +kernel
theorem dL_law_356 : decode cL_law 356 = .ok (.iadd, 1) := by decide +kernel
theorem dL_law_357 : decode cL_law 357 = .ok (.iaload, 1) := by decide +kernel
theorem dL_law_358 : decode cL_law 358 = .ok (.invokevirtual 43, 3) := by decide +kernel
theorem dL_law_361 : decode cL_law 361 = .ok (.aload_n 2, 1) := by decide +kernel
theorem dL_law_362 : decode cL_law 362 = .ok (.aload_n 0, 1) := by decide +kernel
theorem dL_law_363 : decode cL_law 363 = .ok (.iload_n 3, 1) := by decide +kernel
theorem dL_law_364 : decode cL_law 364 = .ok (.iconst 1, 1) := by decide +kernel
theorem dL_law_365 : decode cL_law 365 = .ok (.iadd, 1) := by decide +kernel
theorem dL_law_366 : decode cL_law 366 = .ok (.iaload, 1) := by decide +kernel
theorem dL_law_367 : decode cL_law 367 = .ok (.invokevirtual 46, 3) := by decide +kernel
theorem dL_law_370 : decode cL_law 370 = .ok (.if_icmp .eq 447, 3) := by decide +kernel
theorem dL_law_373 : decode cL_law 373 = .ok (.iconst 0, 1) := by decide +kernel
theorem dL_law_374 : decode cL_law 374 = .ok (.ireturn, 1) := by decide +kernel
theorem dL_law_375 : decode cL_law 375 = .ok (.aload_n 1, 1) := by decide +kernel
theorem dL_law_376 : decode cL_law 376 = .ok (.aload_n 0, 1) := by decide +kernel
theorem dL_law_377 : decode cL_law 377 = .ok (.iload_n 3, 1) := by decide +kernel
theorem dL_law_378 : decode cL_law 378 = .ok (.iconst 1, 1) := by decide +kernel
theorem dL_law_379 : decode cL_law 379 = .ok (.iadd, 1) := by decide +kernel
theorem dL_law_380 : decode cL_law 380 = .ok (.iaload, 1) := by decide +kernel
theorem dL_law_381 : decode cL_law 381 = .ok (.aload_n 0, 1) := by decide +kernel
theorem dL_law_382 : decode cL_law 382 = .ok (.iload_n 3, 1) := by decide +kernel
theorem dL_law_383 : decode cL_law 383 = .ok (.iconst 2, 1) := by decide +kernel
theorem dL_law_384 : decode cL_law 384 = .ok (.iadd, 1) := by decide +kernel
theorem dL_law_385 : decode cL_law 385 = .ok (.iaload, 1) := by decide +kernel
theorem dL_law_386 : decode cL_law 386 = .ok (.invokevirtual 47, 3) := by decide +kernel
theorem dL_law_389 : decode cL_law 389 = .ok (.aload_n 2, 1) := by decide +kernel
theorem dL_law_390 : decode cL_law 390 = .ok (.aload_n 0, 1) := by decide +kernel
theorem dL_law_391 : decode cL_law 391 = .ok (.iload_n 3, 1) := by decide +kernel
theorem dL_law_392 : decode cL_law 392 = .ok (.iconst 1, 1) := by decide +kernel
theorem dL_law_393 : decode cL_law 393 = .ok (.iadd, 1) := by decide +kernel
theorem dL_law_394 : decode cL_law 394 = .ok (.iaload, 1) := by decide +kernel
theorem dL_law_395 : decode cL_law 395 = .ok (.aload_n 0, 1) := by decide +kernel
theorem dL_law_396 : decode cL_law 396 = .ok (.iload_n 3, 1) := by decide +kernel
theorem dL_law_397 : decode cL_law 397 = .ok (.iconst 2, 1) := by decide +kernel
theorem dL_law_398 : decode cL_law 398 = .ok (.iadd, 1) := by decide +kernel
theorem dL_law_399 : decode cL_law 399 = .ok (.iaload, 1) := by decide +kernel
theorem dL_law_400 : decode cL_law 400 = .ok (.invokevirtual 50, 3) := by decide +kernel
theorem dL_law_403 : decode cL_law 403 = .ok (.if_icmp .eq 414, 3) := by decide +kernel
theorem dL_law_406 : decode cL_law 406 = .ok (.iconst 0, 1) := by decide +kernel
theorem dL_law_407 : decode cL_law 407 = .ok (.ireturn, 1) := by decide +kernel
theorem dL_law_408 : decode cL_law 408 = .ok (.aload_n 1, 1) := by decide +kernel
theorem dL_law_409 : decode cL_law 409 = .ok (.aload_n 0, 1) := by decide +kernel
theorem dL_law_410 : decode cL_law 410 = .ok (.iload_n 3, 1) := by decide +kernel
theorem dL_law_411 : decode cL_law 411 = .ok (.iconst 1, 1) := by decide +kernel
theorem dL_law_412 : decode cL_law 412 = .ok (.iadd, 1) := by decide +kernel
theorem dL_law_413 : decode cL_law 413 = .ok (.iaload, 1) := by decide +kernel
theorem dL_law_414 : decode cL_law 414 = .ok (.aload_n 0, 1) := by decide +kernel
theorem dL_law_415 : decode cL_law 415 = .ok (.iload_n 3, 1) := by decide +kernel
theorem dL_law_416 : decode cL_law 416 = .ok (.iconst 2, 1) := by decide +kernel
theorem dL_law_417 : decode cL_law 417 = .ok (.iadd, 1) := by decide +kernel
theorem dL_law_418 : decode cL_law 418 = .ok (.iaload, 1) := by decide +kernel
theorem dL_law_419 : decode cL_law 419 = .ok (.aload_n 0, 1) := by decide +kernel
theorem dL_law_420 : decode cL_law 420 = .ok (.iload_n 3, 1) := by decide +kernel
theorem dL_law_421 : decode cL_law 421 = .ok (.iconst 3, 1) := by decide +kernel
theorem dL_law_422 : decode cL_law 422 = .ok (.iadd, 1) := by decide +kernel
theorem dL_law_423 : decode cL_law 423 = .ok (.iaload, 1) := by decide +kernel
theorem dL_law_424 : decode cL_law 424 = .ok (.ifCond .eq 7, 3) := by decide +kernel
theorem dL_law_427 : decode cL_law 427 = .ok (.iconst 1, 1) := by decide +kernel
theorem dL_law_428 : decode cL_law 428 = .ok (.goto 4, 3) := by decide +kernel
theorem dL_law_431 : decode cL_law 431 = .ok (.iconst 0, 1) := by decide +kernel
theorem dL_law_432 : decode cL_law 432 = .ok (.invokevirtual 51, 3) := by decide +kernel
theorem dL_law_435 : decode cL_law 435 = .ok (.aload_n 2, 1) := by decide +kernel
theorem dL_law_436 : decode cL_law 436 = .ok (.aload_n 0, 1) := by decide +kernel
theorem dL_law_437 : decode cL_law 437 = .ok (.iload_n 3, 1) := by decide +kernel
theorem dL_law_438 : decode cL_law 438 = .ok (.iconst 1, 1) := by decide +kernel
theorem dL_law_439 : decode cL_law 439 = .ok (.iadd, 1) := by decide +kernel
theorem dL_law_440 : decode cL_law 440 = .ok (.iaload, 1) := by decide +kernel
theorem dL_law_441 : decode cL_law 441 = .ok (.aload_n 0, 1) := by decide +kernel
theorem dL_law_442 : decode cL_law 442 = .ok (.iload_n 3, 1) := by decide +kernel
theorem dL_law_443 : decode cL_law 443 = .ok (.iconst 2, 1) := by decide +kernel
theorem dL_law_444 : decode cL_law 444 = .ok (.iadd, 1) := by decide +kernel
theorem dL_law_445 : decode cL_law 445 = .ok (.iaload, 1) := by decide +kernel
theorem dL_law_446 : decode cL_law 446 = .ok (.aload_n 0, 1) := by decide +kernel
theorem dL_law_447 : decode cL_law 447 = .ok (.iload_n 3, 1) := by decide +kernel
theorem dL_law_448 : decode cL_law 448 = .ok (.iconst 3, 1) := by decide +kernel
theorem dL_law_449 : decode cL_law 449 = .ok (.iadd, 1) := by decide +kernel
theorem dL_law_450 : decode cL_law 450 = .ok (.iaload, 1) := by decide +kernel
theorem dL_law_451 : decode cL_law 451 = .ok (.ifCond .eq 7, 3) := by decide +kernel
theorem dL_law_454 : decode cL_law 454 = .ok (.iconst 1, 1) := by decide +kernel
theorem dL_law_455 : decode cL_law 455 = .ok (.goto 4, 3) := by decide +kernel
theorem dL_law_458 : decode cL_law 458 = .ok (.iconst 0, 1) := by decide +kernel
theorem dL_law_459 : decode cL_law 459 = .ok (.invokevirtual 55, 3) := by decide +kernel
theorem dL_law_462 : decode cL_law 462 = .ok (.if_icmp .eq 355, 3) := by decide +kernel
theorem dL_law_465 : decode cL_law 465 = .ok (.iconst 0, 1) := by decide +kernel
theorem dL_law_466 : decode cL_law 466 = .ok (.ireturn, 1) := by decide +kernel
theorem dL_law_467 : decode cL_law 467 = .ok (.aload_n 1, 1) := by decide +kernel
theorem dL_law_468 : decode cL_law 468 = .ok (.aload_n 0, 1) := by decide +kernel
theorem dL_law_469 : decode cL_law 469 = .ok (.iload_n 3, 1) := by decide +kernel
theorem dL_law_470 : decode cL_law 470 = .ok (.iconst 1, 1) := by decide +kernel
theorem dL_law_471 : decode cL_law 471 = .ok (.iadd, 1) := by decide +kernel
theorem dL_law_472 : decode cL_law 472 = .ok (.iaload, 1) := by decide +kernel
theorem dL_law_473 : decode cL_law 473 = .ok (.aload_n 0, 1) := by decide +kernel
theorem dL_law_474 : decode cL_law 474 = .ok (.iload_n 3, 1) := by decide +kernel
theorem dL_law_475 : decode cL_law 475 = .ok (.iconst 2, 1) := by decide +kernel
theorem dL_law_476 : decode cL_law 476 = .ok (.iadd, 1) := by decide +kernel
theorem dL_law_477 : decode cL_law 477 = .ok (.iaload, 1) := by decide +kernel
theorem dL_law_478 : decode cL_law 478 = .ok (.invokevirtual 56, 3) := by decide +kernel
theorem dL_law_481 : decode cL_law 481 = .ok (.aload_n 2, 1) := by decide +kernel
theorem dL_law_482 : decode cL_law 482 = .ok (.aload_n 0, 1) := by decide +kernel
theorem dL_law_483 : decode cL_law 483 = .ok (.iload_n 3, 1) := by decide +kernel
theorem dL_law_484 : decode cL_law 484 = .ok (.iconst 1, 1) := by decide +kernel
theorem dL_law_485 : decode cL_law 485 = .ok (.iadd, 1) := by decide +kernel
theorem dL_law_486 : decode cL_law 486 = .ok (.iaload, 1) := by decide +kernel
theorem dL_law_487 : decode cL_law 487 = .ok (.aload_n 0, 1) := by decide +kernel
theorem dL_law_488 : decode cL_law 488 = .ok (.iload_n 3, 1) := by decide +kernel
theorem dL_law_489 : decode cL_law 489 = .ok (.iconst 2, 1) := by decide +kernel
theorem dL_law_490 : decode cL_law 490 = .ok (.iadd, 1) := by decide +kernel
theorem dL_law_491 : decode cL_law 491 = .ok (.iaload, 1) := by decide +kernel
theorem dL_law_492 : decode cL_law 492 = .ok (.invokevirtual 59, 3) := by decide +kernel
theorem dL_law_495 : decode cL_law 495 = .ok (.if_icmp .eq 322, 3) := by decide +kernel
theorem dL_law_498 : decode cL_law 498 = .ok (.iconst 0, 1) := by decide +kernel
theorem dL_law_499 : decode cL_law 499 = .ok (.ireturn, 1) := by decide +kernel
theorem dL_law_500 : decode cL_law 500 = .ok (.aload_n 1, 1) := by decide +kernel
theorem dL_law_501 : decode cL_law 501 = .ok (.aload_n 0, 1) := by decide +kernel
theorem dL_law_502 : decode cL_law 502 = .ok (.iload_n 3, 1) := by decide +kernel
theorem dL_law_503 : decode cL_law 503 = .ok (.iconst 1, 1) := by decide +kernel
theorem dL_law_504 : decode cL_law 504 = .ok (.iadd, 1) := by decide +kernel
theorem dL_law_505 : decode cL_law 505 = .ok (.iaload, 1) := by decide +kernel
theorem dL_law_506 : decode cL_law 506 = .ok (.aload_n 0, 1) := by decide +kernel
theorem dL_law_507 : decode cL_law 507 = .ok (.iload_n 3, 1) := by decide +kernel
theorem dL_law_508 : decode cL_law 508 = .ok (.iconst 2, 1) := by decide +kernel
theorem dL_law_509 : decode cL_law 509 = .ok (.iadd, 1) := by decide +kernel
theorem dL_law_510 : decode cL_law 510 = .ok (.iaload, 1) := by decide +kernel
theorem dL_law_511 : decode cL_law 511 = .ok (.aload_n 0, 1) := by decide +kernel
theorem dL_law_512 : decode cL_law 512 = .ok (.iload_n 3, 1) := by decide +kernel
theorem dL_law_513 : decode cL_law 513 = .ok (.iconst 3, 1) := by decide +kernel
theorem dL_law_514 : decode cL_law 514 = .ok (.iadd, 1) := by decide +kernel
theorem dL_law_515 : decode cL_law 515 = .ok (.iaload, 1) := by decide +kernel
theorem dL_law_516 : decode cL_law 516 = .ok (.invokevirtual 60, 3) := by decide +kernel
theorem dL_law_519 : decode cL_law 519 = .ok (.aload_n 2, 1) := by decide +kernel
theorem dL_law_520 : decode cL_law 520 = .ok (.aload_n 0, 1) := by decide +kernel
theorem dL_law_521 : decode cL_law 521 = .ok (.iload_n 3, 1) := by decide +kernel
theorem dL_law_522 : decode cL_law 522 = .ok (.iconst 1, 1) := by decide +kernel
theorem dL_law_523 : decode cL_law 523 = .ok (.iadd, 1) := by decide +kernel
theorem dL_law_524 : decode cL_law 524 = .ok (.iaload, 1) := by decide +kernel
theorem dL_law_525 : decode cL_law 525 = .ok (.aload_n 0, 1) := by decide +kernel
theorem dL_law_526 : decode cL_law 526 = .ok (.iload_n 3, 1) := by decide +kernel
theorem dL_law_527 : decode cL_law 527 = .ok (.iconst 2, 1) := by decide +kernel
theorem dL_law_528 : decode cL_law 528 = .ok (.iadd, 1) := by decide +kernel
theorem dL_law_529 : decode cL_law 529 = .ok (.iaload, 1) := by decide +kernel
theorem dL_law_530 : decode cL_law 530 = .ok (.aload_n 0, 1) := by decide +kernel
theorem dL_law_531 : decode cL_law 531 = .ok (.iload_n 3, 1) := by decide +kernel
theorem dL_law_532 : decode cL_law 532 = .ok (.iconst 3, 1) := by decide +kernel
theorem dL_law_533 : decode cL_law 533 = .ok (.iadd, 1) := by decide +kernel
theorem dL_law_534 : decode cL_law 534 = .ok (.iaload, 1) := by decide +kernel
theorem dL_law_535 : decode cL_law 535 = .ok (.invokevirtual 63, 3) := by decide +kernel
theorem dL_law_538 : decode cL_law 538 = .ok (.if_icmp .eq 279, 3) := by decide +kernel
theorem dL_law_541 : decode cL_law 541 = .ok (.iconst 0, 1) := by decide +kernel
theorem dL_law_542 : decode cL_law 542 = .ok (.ireturn, 1) := by decide +kernel
theorem dL_law_543 : decode cL_law 543 = .ok (.aload_n 1, 1) := by decide +kernel
theorem dL_law_544 : decode cL_law 544 = .ok (.aload_n 0, 1) := by decide +kernel
theorem dL_law_545 : decode cL_law 545 = .ok (.iload_n 3, 1) := by decide +kernel
theorem dL_law_546 : decode cL_law 546 = .ok (.iconst 1, 1) := by decide +kernel
theorem dL_law_547 : decode cL_law 547 = .ok (.iadd, 1) := by decide +kernel
theorem dL_law_548 : decode cL_law 548 = .ok (.iaload, 1) := by decide +kernel
theorem dL_law_549 : decode cL_law 549 = .ok (.aload_n 0, 1) := by decide +kernel
theorem dL_law_550 : decode cL_law 550 = .ok (.iload_n 3, 1) := by decide +kernel
theorem dL_law_551 : decode cL_law 551 = .ok (.iconst 2, 1) := by decide +kernel
theorem dL_law_552 : decode cL_law 552 = .ok (.iadd, 1) := by decide +kernel
theorem dL_law_553 : decode cL_law 553 = .ok (.iaload, 1) := by decide +kernel
theorem dL_law_554 : decode cL_law 554 = .ok (.invokevirtual 64, 3) := by decide +kernel
theorem dL_law_557 : decode cL_law 557 = .ok (.aload_n 2, 1) := by decide +kernel
theorem dL_law_558 : decode cL_law 558 = .ok (.aload_n 0, 1) := by decide +kernel
theorem dL_law_559 : decode cL_law 559 = .ok (.iload_n 3, 1) := by decide +kernel
theorem dL_law_560 : decode cL_law 560 = .ok (.iconst 1, 1) := by decide +kernel
theorem dL_law_561 : decode cL_law 561 = .ok (.iadd, 1) := by decide +kernel
theorem dL_law_562 : decode cL_law 562 = .ok (.iaload, 1) := by decide +kernel
theorem dL_law_563 : decode cL_law 563 = .ok (.aload_n 0, 1) := by decide +kernel
theorem dL_law_564 : decode cL_law 564 = .ok (.iload_n 3, 1) := by decide +kernel
theorem dL_law_565 : decode cL_law 565 = .ok (.iconst 2, 1) := by decide +kernel
theorem dL_law_566 : decode cL_law 566 = .ok (.iadd, 1) := by decide +kernel
theorem dL_law_567 : decode cL_law 567 = .ok (.iaload, 1) := by decide +kernel
theorem dL_law_568 : decode cL_law 568 = .ok (.invokevirtual 67, 3) := by decide +kernel
theorem dL_law_571 : decode cL_law 571 = .ok (.if_icmp .eq 246, 3) := by decide +kernel
theorem dL_law_574 : decode cL_law 574 = .ok (.iconst 0, 1) := by decide +kernel
theorem dL_law_575 : decode cL_law 575 = .ok (.ireturn, 1) := by decide +kernel
theorem dL_law_576 : decode cL_law 576 = .ok (.aload_n 1, 1) := by decide +kernel
theorem dL_law_577 : decode cL_law 577 = .ok (.invokevirtual 68, 3) := by decide +kernel
theorem dL_law_580 : decode cL_law 580 = .ok (.aload_n 2, 1) := by decide +kernel
theorem dL_law_581 : decode cL_law 581 = .ok (.invokevirtual 72, 3) := by decide +kernel
theorem dL_law_584 : decode cL_law 584 = .ok (.if_icmp .eq 233, 3) := by decide +kernel
theorem dL_law_587 : decode cL_law 587 = .ok (.iconst 0, 1) := by decide +kernel
theorem dL_law_588 : decode cL_law 588 = .ok (.ireturn, 1) := by decide +kernel
theorem dL_law_589 : decode cL_law 589 = .ok (.aload_n 1, 1) := by decide +kernel
theorem dL_law_590 : decode cL_law 590 = .ok (.aload_n 0, 1) := by decide +kernel
theorem dL_law_591 : decode cL_law 591 = .ok (.iload_n 3, 1) := by decide +kernel
theorem dL_law_592 : decode cL_law 592 = .ok (.iconst 1, 1) := by decide +kernel
theorem dL_law_593 : decode cL_law 593 = .ok (.iadd, 1) := by decide +kernel
theorem dL_law_594 : decode cL_law 594 = .ok (.iaload, 1) := by decide +kernel
theorem dL_law_595 : decode cL_law 595 = .ok (.aload_n 0, 1) := by decide +kernel
theorem dL_law_596 : decode cL_law 596 = .ok (.iload_n 3, 1) := by decide +kernel
theorem dL_law_597 : decode cL_law 597 = .ok (.iconst 2, 1) := by decide +kernel
theorem dL_law_598 : decode cL_law 598 = .ok (.iadd, 1) := by decide +kernel
theorem dL_law_599 : decode cL_law 599 = .ok (.iaload, 1) := by decide +kernel
theorem dL_law_600 : decode cL_law 600 = .ok (.aload_n 0, 1) := by decide +kernel
theorem dL_law_601 : decode cL_law 601 = .ok (.iload_n 3, 1) := by decide +kernel
theorem dL_law_602 : decode cL_law 602 = .ok (.iconst 3, 1) := by decide +kernel
theorem dL_law_603 : decode cL_law 603 = .ok (.iadd, 1) := by decide +kernel
theorem dL_law_604 : decode cL_law 604 = .ok (.iaload, 1) := by decide +kernel
theorem dL_law_605 : decode cL_law 605 = .ok (.invokevirtual 73, 3) := by decide +kernel
theorem dL_law_608 : decode cL_law 608 = .ok (.aload_n 2, 1) := by decide +kernel
theorem dL_law_609 : decode cL_law 609 = .ok (.aload_n 0, 1) := by decide +kernel
theorem dL_law_610 : decode cL_law 610 = .ok (.iload_n 3, 1) := by decide +kernel
theorem dL_law_611 : decode cL_law 611 = .ok (.iconst 1, 1) := by decide +kernel
theorem dL_law_612 : decode cL_law 612 = .ok (.iadd, 1) := by decide +kernel
theorem dL_law_613 : decode cL_law 613 = .ok (.iaload, 1) := by decide +kernel
theorem dL_law_614 : decode cL_law 614 = .ok (.aload_n 0, 1) := by decide +kernel
theorem dL_law_615 : decode cL_law 615 = .ok (.iload_n 3, 1) := by decide +kernel
theorem dL_law_616 : decode cL_law 616 = .ok (.iconst 2, 1) := by decide +kernel
theorem dL_law_617 : decode cL_law 617 = .ok (.iadd, 1) := by decide +kernel
theorem dL_law_618 : decode cL_law 618 = .ok (.iaload, 1) := by decide +kernel
theorem dL_law_619 : decode cL_law 619 = .ok (.aload_n 0, 1) := by decide +kernel
theorem dL_law_620 : decode cL_law 620 = .ok (.iload_n 3, 1) := by decide +kernel
theorem dL_law_621 : decode cL_law 621 = .ok (.iconst 3, 1) := by decide +kernel
theorem dL_law_622 : decode cL_law 622 = .ok (.iadd, 1) := by decide +kernel
theorem dL_law_623 : decode cL_law 623 = .ok (.iaload, 1) := by decide +kernel
theorem dL_law_624 : decode cL_law 624 = .ok (.invokevirtual 76, 3) := by decide +kernel
theorem dL_law_627 : decode cL_law 627 = .ok (.if_icmp .eq 190, 3) := by decide +kernel
theorem dL_law_630 : decode cL_law 630 = .ok (.iconst 0, 1) := by decide +kernel
theorem dL_law_631 : decode cL_law 631 = .ok (.ireturn, 1) := by decide +kernel
theorem dL_law_632 : decode cL_law 632 = .ok (.aload_n 1, 1) := by decide +kernel
theorem dL_law_633 : decode cL_law 633 = .ok (.aload_n 0, 1) := by decide +kernel
theorem dL_law_634 : decode cL_law 634 = .ok (.iload_n 3, 1) := by decide +kernel
theorem dL_law_635 : decode cL_law 635 = .ok (.iconst 1, 1) := by decide +kernel
theorem dL_law_636 : decode cL_law 636 = .ok (.iadd, 1) := by decide +kernel
theorem dL_law_637 : decode cL_law 637 = .ok (.iaload, 1) := by decide +kernel
theorem dL_law_638 : decode cL_law 638 = .ok (.aload_n 0, 1) := by decide +kernel
theorem dL_law_639 : decode cL_law 639 = .ok (.iload_n 3, 1) := by decide +kernel
theorem dL_law_640 : decode cL_law 640 = .ok (.iconst 2, 1) := by decide +kernel
theorem dL_law_641 : decode cL_law 641 = .ok (.iadd, 1) := by decide +kernel
theorem dL_law_642 : decode cL_law 642 = .ok (.iaload, 1) := by decide +kernel
theorem dL_law_643 : decode cL_law 643 = .ok (.aload_n 0, 1) := by decide +kernel
theorem dL_law_644 : decode cL_law 644 = .ok (.iload_n 3, 1) := by decide +kernel
theorem dL_law_645 : decode cL_law 645 = .ok (.iconst 3, 1) := by decide +kernel
theorem dL_law_646 : decode cL_law 646 = .ok (.iadd, 1) := by decide +kernel
theorem dL_law_647 : decode cL_law 647 = .ok (.iaload, 1) := by decide +kernel
theorem dL_law_648 : decode cL_law 648 = .ok (.aload_n 0, 1) := by decide +kernel
theorem dL_law_649 : decode cL_law 649 = .ok (.iload_n 3, 1) := by decide +kernel
theorem dL_law_650 : decode cL_law 650 = .ok (.iconst 4, 1) := by decide +kernel
theorem dL_law_651 : decode cL_law 651 = .ok (.iadd, 1) := by decide +kernel
theorem dL_law_652 : decode cL_law 652 = .ok (.iaload, 1) := by decide +kernel
theorem dL_law_653 : decode cL_law 653 = .ok (.aload_n 0, 1) := by decide +kernel
theorem dL_law_654 : decode cL_law 654 = .ok (.iload_n 3, 1) := by decide +kernel
theorem dL_law_655 : decode cL_law 655 = .ok (.iconst 5, 1) := by decide +kernel
theorem dL_law_656 : decode cL_law 656 = .ok (.iadd, 1) := by decide +kernel
theorem dL_law_657 : decode cL_law 657 = .ok (.iaload, 1) := by decide +kernel
theorem dL_law_658 : decode cL_law 658 = .ok (.invokevirtual 77, 3) := by decide +kernel
theorem dL_law_661 : decode cL_law 661 = .ok (.aload_n 2, 1) := by decide +kernel
theorem dL_law_662 : decode cL_law 662 = .ok (.aload_n 0, 1) := by decide +kernel
theorem dL_law_663 : decode cL_law 663 = .ok (.iload_n 3, 1) := by decide +kernel
theorem dL_law_664 : decode cL_law 664 = .ok (.iconst 1, 1) := by decide +kernel
theorem dL_law_665 : decode cL_law 665 = .ok (.iadd, 1) := by decide +kernel
theorem dL_law_666 : decode cL_law 666 = .ok (.iaload, 1) := by decide +kernel
theorem dL_law_667 : decode cL_law 667 = .ok (.aload_n 0, 1) := by decide +kernel
theorem dL_law_668 : decode cL_law 668 = .ok (.iload_n 3, 1) := by decide +kernel
theorem dL_law_669 : decode cL_law 669 = .ok (.iconst 2, 1) := by decide +kernel
theorem dL_law_670 : decode cL_law 670 = .ok (.iadd, 1) := by decide +kernel
theorem dL_law_671 : decode cL_law 671 = .ok (.iaload, 1) := by decide +kernel
theorem dL_law_672 : decode cL_law 672 = .ok (.aload_n 0, 1) := by decide +kernel
theorem dL_law_673 : decode cL_law 673 = .ok (.iload_n 3, 1) := by decide +kernel
theorem dL_law_674 : decode cL_law 674 = .ok (.iconst 3, 1) := by decide +kernel
theorem dL_law_675 : decode cL_law 675 = .ok (.iadd, 1) := by decide +kernel
theorem dL_law_676 : decode cL_law 676 = .ok (.iaload, 1) := by decide +kernel
theorem dL_law_677 : decode cL_law 677 = .ok (.aload_n 0, 1) := by decide +kernel
theorem dL_law_678 : decode cL_law 678 = .ok (.iload_n 3, 1) := by decide +kernel
theorem dL_law_679 : decode cL_law 679 = .ok (.iconst 4, 1) := by decide +kernel
theorem dL_law_680 : decode cL_law 680 = .ok (.iadd, 1) := by decide +kernel
theorem dL_law_681 : decode cL_law 681 = .ok (.iaload, 1) := by decide +kernel
theorem dL_law_682 : decode cL_law 682 = .ok (.aload_n 0, 1) := by decide +kernel
theorem dL_law_683 : decode cL_law 683 = .ok (.iload_n 3, 1) := by decide +kernel
theorem dL_law_684 : decode cL_law 684 = .ok (.iconst 5, 1) := by decide +kernel
theorem dL_law_685 : decode cL_law 685 = .ok (.iadd, 1) := by decide +kernel
theorem dL_law_686 : decode cL_law 686 = .ok (.iaload, 1) := by decide +kernel
theorem dL_law_687 : decode cL_law 687 = .ok (.invokevirtual 81, 3) := by decide +kernel
theorem dL_law_690 : decode cL_law 690 = .ok (.if_icmp .eq 127, 3) := by decide +kernel
theorem dL_law_693 : decode cL_law 693 = .ok (.iconst 0, 1) := by decide +kernel
theorem dL_law_694 : decode cL_law 694 = .ok (.ireturn, 1) := by decide +kernel
theorem dL_law_695 : decode cL_law 695 = .ok (.aload_n 1, 1) := by decide +kernel
theorem dL_law_696 : decode cL_law 696 = .ok (.aload_n 0, 1) := by decide +kernel
theorem dL_law_697 : decode cL_law 697 = .ok (.iload_n 3, 1) := by decide +kernel
theorem dL_law_698 : decode cL_law 698 = .ok (.iconst 1, 1) := by decide +kernel
theorem dL_law_699 : decode cL_law 699 = .ok (.iadd, 1) := by decide +kernel
theorem dL_law_700 : decode cL_law 700 = .ok (.iaload, 1) := by decide +kernel
theorem dL_law_701 : decode cL_law 701 = .ok (.aload_n 0, 1) := by decide +kernel
theorem dL_law_702 : decode cL_law 702 = .ok (.iload_n 3, 1) := by decide +kernel
theorem dL_law_703 : decode cL_law 703 = .ok (.iconst 2, 1) := by decide +kernel
theorem dL_law_704 : decode cL_law 704 = .ok (.iadd, 1) := by decide +kernel
theorem dL_law_705 : decode cL_law 705 = .ok (.iaload, 1) := by decide +kernel
theorem dL_law_706 : decode cL_law 706 = .ok (.invokevirtual 82, 3) := by decide +kernel
theorem dL_law_709 : decode cL_law 709 = .ok (.aload_n 2, 1) := by decide +kernel
theorem dL_law_710 : decode cL_law 710 = .ok (.aload_n 0, 1) := by decide +kernel
theorem dL_law_711 : decode cL_law 711 = .ok (.iload_n 3, 1) := by decide +kernel
theorem dL_law_712 : decode cL_law 712 = .ok (.iconst 1, 1) := by decide +kernel
theorem dL_law_713 : decode cL_law 713 = .ok (.iadd, 1) := by decide +kernel
theorem dL_law_714 : decode cL_law 714 = .ok (.iaload, 1) := by decide +kernel
theorem dL_law_715 : decode cL_law 715 = .ok (.aload_n 0, 1) := by decide +kernel
theorem dL_law_716 : decode cL_law 716 = .ok (.iload_n 3, 1) := by decide +kernel
theorem dL_law_717 : decode cL_law 717 = .ok (.iconst 2, 1) := by decide +kernel
theorem dL_law_718 : decode cL_law 718 = .ok (.iadd, 1) := by decide +kernel
theorem dL_law_719 : decode cL_law 719 = .ok (.iaload, 1) := by decide +kernel
theorem dL_law_720 : decode cL_law 720 = .ok (.invokevirtual 85, 3) := by decide +kernel
theorem dL_law_723 : decode cL_law 723 = .ok (.if_icmp .eq 94, 3) := by decide +kernel
theorem dL_law_726 : decode cL_law 726 = .ok (.iconst 0, 1) := by decide +kernel
theorem dL_law_727 : decode cL_law 727 = .ok (.ireturn, 1) := by decide +kernel
theorem dL_law_728 : decode cL_law 728 = .ok (.aload_n 1, 1) := by decide +kernel
theorem dL_law_729 : decode cL_law 729 = .ok (.aload_n 0, 1) := by decide +kernel
theorem dL_law_730 : decode cL_law 730 = .ok (.iload_n 3, 1) := by decide +kernel
theorem dL_law_731 : decode cL_law 731 = .ok (.iconst 1, 1) := by decide +kernel
theorem dL_law_732 : decode cL_law 732 = .ok (.iadd, 1) := by decide +kernel
theorem dL_law_733 : decode cL_law 733 = .ok (.iaload, 1) := by decide +kernel
theorem dL_law_734 : decode cL_law 734 = .ok (.aload_n 0, 1) := by decide +kernel
theorem dL_law_735 : decode cL_law 735 = .ok (.iload_n 3, 1) := by decide +kernel
theorem dL_law_736 : decode cL_law 736 = .ok (.iconst 2, 1) := by decide +kernel
theorem dL_law_737 : decode cL_law 737 = .ok (.iadd, 1) := by decide +kernel
theorem dL_law_738 : decode cL_law 738 = .ok (.iaload, 1) := by decide +kernel
theorem dL_law_739 : decode cL_law 739 = .ok (.invokevirtual 86, 3) := by decide +kernel
theorem dL_law_742 : decode cL_law 742 = .ok (.aload_n 2, 1) := by decide +kernel
theorem dL_law_743 : decode cL_law 743 = .ok (.aload_n 0, 1) := by decide +kernel
theorem dL_law_744 : decode cL_law 744 = .ok (.iload_n 3, 1) := by decide +kernel
theorem dL_law_745 : decode cL_law 745 = .ok (.iconst 1, 1) := by decide +kernel
theorem dL_law_746 : decode cL_law 746 = .ok (.iadd, 1) := by decide +kernel
theorem dL_law_747 : decode cL_law 747 = .ok (.iaload, 1) := by decide +kernel
theorem dL_law_748 : decode cL_law 748 = .ok (.aload_n 0, 1) := by decide +kernel
theorem dL_law_749 : decode cL_law 749 = .ok (.iload_n 3, 1) := by decide +kernel
theorem dL_law_750 : decode cL_law 750 = .ok (.iconst 2, 1) := by decide +kernel
theorem dL_law_751 : decode cL_law 751 = .ok (.iadd, 1) := by decide +kernel
theorem dL_law_752 : decode cL_law 752 = .ok (.iaload, 1) := by decide +kernel
theorem dL_law_753 : decode cL_law 753 = .ok (.invokevirtual 89, 3) := by decide +kernel
theorem dL_law_756 : decode cL_law 756 = .ok (.if_icmp .eq 61, 3) := by decide +kernel
theorem dL_law_759 : decode cL_law 759 = .ok (.iconst 0, 1) := by decide +kernel
theorem dL_law_760 : decode cL_law 760 = .ok (.ireturn, 1) := by decide +kernel
theorem dL_law_761 : decode cL_law 761 = .ok (.aload_n 1, 1) := by decide +kernel
theorem dL_law_762 : decode cL_law 762 = .ok (.aload_n 0, 1) := by decide +kernel
theorem dL_law_763 : decode cL_law 763 = .ok (.iload_n 3, 1) := by decide +kernel
theorem dL_law_764 : decode cL_law 764 = .ok (.iconst 1, 1) := by decide +kernel
theorem dL_law_765 : decode cL_law 765 = .ok (.iadd, 1) := by decide +kernel
theorem dL_law_766 : decode cL_law 766 = .ok (.iaload, 1) := by decide +kernel
theorem dL_law_767 : decode cL_law 767 = .ok (.aload_n 0, 1) := by decide +kernel
theorem dL_law_768 : decode cL_law 768 = .ok (.iload_n 3, 1) := by decide +kernel
theorem dL_law_769 : decode cL_law 769 = .ok (.iconst 2, 1) := by decide +kernel
theorem dL_law_770 : decode cL_law 770 = .ok (.iadd, 1) := by decide +kernel
theorem dL_law_771 : decode cL_law 771 = .ok (.iaload, 1) := by decide +kernel
theorem dL_law_772 : decode cL_law 772 = .ok (.invokevirtual 90, 3) := by decide +kernel
theorem dL_law_775 : decode cL_law 775 = .ok (.aload_n 2, 1) := by decide +kernel
theorem dL_law_776 : decode cL_law 776 = .ok (.aload_n 0, 1) := by decide +kernel
theorem dL_law_777 : decode cL_law 777 = .ok (.iload_n 3, 1) := by decide +kernel
theorem dL_law_778 : decode cL_law 778 = .ok (.iconst 1, 1) := by decide +kernel
theorem dL_law_779 : decode cL_law 779 = .ok (.iadd, 1) := by decide +kernel
theorem dL_law_780 : decode cL_law 780 = .ok (.iaload, 1) := by decide +kernel
theorem dL_law_781 : decode cL_law 781 = .ok (.aload_n 0, 1) := by decide +kernel
theorem dL_law_782 : decode cL_law 782 = .ok (.iload_n 3, 1) := by decide +kernel
theorem dL_law_783 : decode cL_law 783 = .ok (.iconst 2, 1) := by decide +kernel
theorem dL_law_784 : decode cL_law 784 = .ok (.iadd, 1) := by decide +kernel
theorem dL_law_785 : decode cL_law 785 = .ok (.iaload, 1) := by decide +kernel
theorem dL_law_786 : decode cL_law 786 = .ok (.invokevirtual 93, 3) := by decide +kernel
theorem dL_law_789 : decode cL_law 789 = .ok (.if_icmp .eq 28, 3) := by decide +kernel
theorem dL_law_792 : decode cL_law 792 = .ok (.iconst 0, 1) := by decide +kernel
theorem dL_law_793 : decode cL_law 793 = .ok (.ireturn, 1) := by decide +kernel
theorem dL_law_794 : decode cL_law 794 = .ok (.aload_n 1, 1) := by decide +kernel
theorem dL_law_795 : decode cL_law 795 = .ok (.aload_n 0, 1) := by decide +kernel
theorem dL_law_796 : decode cL_law 796 = .ok (.iload_n 3, 1) := by decide +kernel
theorem dL_law_797 : decode cL_law 797 = .ok (.iconst 1, 1) := by decide +kernel
theorem dL_law_798 : decode cL_law 798 = .ok (.iadd, 1) := by decide +kernel
theorem dL_law_799 : decode cL_law 799 = .ok (.iaload, 1) := by decide +kernel
theorem dL_law_800 : decode cL_law 800 = .ok (.invokevirtual 94, 3) := by decide +kernel
theorem dL_law_803 : decode cL_law 803 = .ok (.aload_n 2, 1) := by decide +kernel
theorem dL_law_804 : decode cL_law 804 = .ok (.aload_n 0, 1) := by decide +kernel
theorem dL_law_805 : decode cL_law 805 = .ok (.iload_n 3, 1) := by decide +kernel
theorem dL_law_806 : decode cL_law 806 = .ok (.iconst 1, 1) := by decide +kernel
theorem dL_law_807 : decode cL_law 807 = .ok (.iadd, 1) := by decide +kernel
theorem dL_law_808 : decode cL_law 808 = .ok (.iaload, 1) := by decide +kernel
theorem dL_law_809 : decode cL_law 809 = .ok (.invokevirtual 97, 3) := by decide +kernel
theorem dL_law_812 : decode cL_law 812 = .ok (.if_icmp .eq 5, 3) := by decide +kernel
theorem dL_law_815 : decode cL_law 815 = .ok (.iconst 0, 1) := by decide +kernel
theorem dL_law_816 : decode cL_law 816 = .ok (.ireturn, 1) := by decide +kernel
theorem dL_law_817 : decode cL_law 817 = .ok (.iinc 3 6, 3) := by decide +kernel
theorem dL_law_820 : decode cL_law 820 = .ok (.goto (-802), 3) := by decide +kernel
theorem dL_law_823 : decode cL_law 823 = .ok (.iconst 1, 1) := by decide +kernel
theorem dL_law_824 : decode cL_law 824 = .ok (.ireturn, 1) := by decide +kernel
end
section
/-! ===== REF: the reference as numbers i (its int fields by slot) and rows a (its arrays by slot) ===== -/
def b2i (p : Prop) [Decidable p] : Int32 := if p then 1 else 0
theorem b2i_0 {p : Prop} [Decidable p] : b2i p = 0 ↔ ¬ p := by unfold b2i; by_cases h : p <;> simp [h]
theorem b2i_1 {p : Prop} [Decidable p] : b2i p = 1 ↔ p := by unfold b2i; by_cases h : p <;> simp [h]
theorem b2i_t {p : Prop} [Decidable p] (h : p) : b2i p = 1 := b2i_1.mpr h
theorem b2i_f {p : Prop} [Decidable p] (h : ¬ p) : b2i p = 0 := b2i_0.mpr h
theorem b2i_nar (p : Prop) [Decidable p] : narrow .boolean (.int (b2i p)) = .int (b2i p) := by unfold b2i; by_cases h : p <;> simp only [h, if_true, if_false] <;> rfl
def isI (k : Nat) : Bool := (k == 0 || k == 1 || k == 2 || k == 3 || k == 4 || k == 5 || k == 6 || k == 7 || k == 8 || k == 22 || k == 23 || k == 28 || k == 38 || k == 40 || k == 41 || k == 42)
def isA (k : Nat) : Bool := (k == 9 || k == 10 || k == 11 || k == 12 || k == 13 || k == 14 || k == 15 || k == 16 || k == 17 || k == 18 || k == 19 || k == 20 || k == 21 || k == 24 || k == 25 || k == 26 || k == 27 || k == 29 || k == 30 || k == 31 || k == 32 || k == 33 || k == 34 || k == 35 || k == 36 || k == 37 || k == 39 || k == 43)
def isZ (k : Nat) : Bool := (k == 20 || k == 21)
def rlen (N k : Nat) : Nat := if k ≤ 21 then 60 else if k ≤ 27 then N else if k ≤ 30 then 120 else if k ≤ 37 then 40 else if k ≤ 39 then 3720 else 12
def rfs (d : Nat → Nat) (i : Nat → Int32) : List Value := [.int (i 0), .int (i 1), .int (i 2), .int (i 3), .int (i 4), .int (i 5), .int (i 6), .int (i 7), .int (i 8), .ref (d 9), .ref (d 10), .ref (d 11), .ref (d 12), .ref (d 13), .ref (d 14), .ref (d 15), .ref (d 16), .ref (d 17), .ref (d 18), .ref (d 19), .ref (d 20), .ref (d 21), .int (i 22), .int (i 23), .ref (d 24), .ref (d 25), .ref (d 26), .ref (d 27), .int (i 28), .ref (d 29), .ref (d 30), .ref (d 31), .ref (d 32), .ref (d 33), .ref (d 34), .ref (d 35), .ref (d 36), .ref (d 37), .int (i 38), .ref (d 39), .int (i 40), .int (i 41), .int (i 42), .ref (d 43)]
def rty (k : Nat) : Nat := if isZ k = true then 1 else 0
def up2 (a : Nat → Nat → Int32) (k j : Nat) (x : Int32) : Nat → Nat → Int32 := fun k' => if k' = k then upd (a k) j x else a k'
theorem up2_eq (a : Nat → Nat → Int32) (k j : Nat) (x : Int32) : up2 a k j x k = upd (a k) j x := by simp [up2]
theorem up2_ne (a : Nat → Nat → Int32) {k k' : Nat} (j : Nat) (x : Int32) (h : k' ≠ k) : up2 a k j x k' = a k' := by simp [up2, h]
theorem upd_eq (f : Nat → Int32) (k : Nat) (x : Int32) : upd f k x k = x := by simp [upd]
theorem upd_ne (f : Nat → Int32) {k j : Nat} (x : Int32) (h : j ≠ k) : upd f k x j = f j := by simp [upd, h]
def RW (E : En) (o : Nat) (d : Nat → Nat) (N : Nat) (i : Nat → Int32) (a : Nat → Nat → Int32) : HP := fun h =>
  h o = some (.inr (8, rfs d i)) ∧ (∀ k, isA k = true → h (d k) = some (.inl (E.2 (rty k), rlen N k, .inl (a k)))) ∧ ∀ j k, isA j = true → isA k = true → d j = d k → j = k
theorem RW.ne {E : En} {o N : Nat} {d : Nat → Nat} {i : Nat → Int32} {a : Nat → Nat → Int32} {h : HF} (H : RW E o d N i a h) {k : Nat} (hk : isA k = true) : d k ≠ o := fun e => by
  have h1 := H.2.1 k hk
  rw [e, H.1] at h1
  cases h1
theorem isA_lt {k : Nat} (h : isA k = true) : k < 44 := by
  simp only [isA, Bool.or_eq_true, beq_iff_eq] at h
  omega
theorem isI_lt {k : Nat} (h : isI k = true) : k < 44 := by
  simp only [isI, Bool.or_eq_true, beq_iff_eq] at h
  omega
set_option maxRecDepth 20000 in
theorem rfs_set (d : Nat → Nat) (i : Nat → Int32) (v : Int32) : ∀ k, isI k = true → (rfs d i).set k (.int v) = rfs d (upd i k v)
  | 0, _ => rfl
  | 1, _ => rfl
  | 2, _ => rfl
  | 3, _ => rfl
  | 4, _ => rfl
  | 5, _ => rfl
  | 6, _ => rfl
  | 7, _ => rfl
  | 8, _ => rfl
  | 9, h => by cases h
  | 10, h => by cases h
  | 11, h => by cases h
  | 12, h => by cases h
  | 13, h => by cases h
  | 14, h => by cases h
  | 15, h => by cases h
  | 16, h => by cases h
  | 17, h => by cases h
  | 18, h => by cases h
  | 19, h => by cases h
  | 20, h => by cases h
  | 21, h => by cases h
  | 22, _ => rfl
  | 23, _ => rfl
  | 24, h => by cases h
  | 25, h => by cases h
  | 26, h => by cases h
  | 27, h => by cases h
  | 28, _ => rfl
  | 29, h => by cases h
  | 30, h => by cases h
  | 31, h => by cases h
  | 32, h => by cases h
  | 33, h => by cases h
  | 34, h => by cases h
  | 35, h => by cases h
  | 36, h => by cases h
  | 37, h => by cases h
  | 38, _ => rfl
  | 39, h => by cases h
  | 40, _ => rfl
  | 41, _ => rfl
  | 42, _ => rfl
  | 43, h => by cases h
  | k + 44, h => absurd (isI_lt h) (by omega)
set_option maxRecDepth 20000 in
theorem rfs_setA (d : Nat → Nat) (i : Nat → Int32) (q : Nat) : ∀ k, isA k = true → (rfs d i).set k (.ref q) = rfs (va_up d k q) i
  | 0, h => by cases h
  | 1, h => by cases h
  | 2, h => by cases h
  | 3, h => by cases h
  | 4, h => by cases h
  | 5, h => by cases h
  | 6, h => by cases h
  | 7, h => by cases h
  | 8, h => by cases h
  | 9, _ => rfl
  | 10, _ => rfl
  | 11, _ => rfl
  | 12, _ => rfl
  | 13, _ => rfl
  | 14, _ => rfl
  | 15, _ => rfl
  | 16, _ => rfl
  | 17, _ => rfl
  | 18, _ => rfl
  | 19, _ => rfl
  | 20, _ => rfl
  | 21, _ => rfl
  | 22, h => by cases h
  | 23, h => by cases h
  | 24, _ => rfl
  | 25, _ => rfl
  | 26, _ => rfl
  | 27, _ => rfl
  | 28, h => by cases h
  | 29, _ => rfl
  | 30, _ => rfl
  | 31, _ => rfl
  | 32, _ => rfl
  | 33, _ => rfl
  | 34, _ => rfl
  | 35, _ => rfl
  | 36, _ => rfl
  | 37, _ => rfl
  | 38, h => by cases h
  | 39, _ => rfl
  | 40, h => by cases h
  | 41, h => by cases h
  | 42, h => by cases h
  | 43, _ => rfl
  | k + 44, h => absurd (isA_lt h) (by omega)
theorem r_get {l : Launch} {E : En} {cc : ByteArray} {own nm : String} {nL : Nat} {R : Room} {ret : Option FieldType} {Fn : Ft} {J : Jt} (O : Ok l E cc own nm nL R ret Fn J) {pc index : Nat} {k : Nat} {v : Value} {o N : Nat} {d : Nat → Nat} {i : Nat → Int32} {a : Nat → Nat → Int32} {ce sl : Nat} {lv : LV} {st : List Value} (dd : decode cc pc = .ok (.getfield index, 3)) (hl : FD own index 8 k) (hv : (rfs d i)[k]? = some v) (kk : J (RW E o d N i a) ce sl (pc + 3) lv (v :: st)) : J (RW E o d N i a) ce sl pc lv (.ref o :: st) :=
  x_get O dd hl (fun h H => ⟨_, H.1, hv⟩) kk
theorem r_put {l : Launch} {E : En} {cc : ByteArray} {own nm : String} {nL : Nat} {R : Room} {ret : Option FieldType} {Fn : Ft} {J : Jt} (O : Ok l E cc own nm nL R ret Fn J) {pc index : Nat} {k : Nat} {v : Int32} {o N : Nat} {d : Nat → Nat} {i : Nat → Int32} {a : Nat → Nat → Int32} {ce sl : Nat} {lv : LV} {st : List Value} (dd : decode cc pc = .ok (.putfield index, 3)) (hl : FP own index 8 k .int false) (hk : isI k = true) (kk : J (RW E o d N (upd i k v) a) ce sl (pc + 3) lv st) : J (RW E o d N i a) ce sl pc lv (.int v :: .ref o :: st) :=
  x_put O dd hl rfl rfl (fun h H => ⟨_, H.1, by simp only [rfs, List.length_cons, List.length_nil]; exact isI_lt hk, by
    rw [rfs_set d i v k hk]
    exact ⟨hset_same _ _ _, fun j hj => by rw [hset_ne _ _ (H.ne hj)]; exact H.2.1 j hj, H.2.2⟩⟩) kk
theorem r_ald {l : Launch} {E : En} {cc : ByteArray} {own nm : String} {nL : Nat} {R : Room} {ret : Option FieldType} {Fn : Ft} {J : Jt} (O : Ok l E cc own nm nL R ret Fn J) {pc : Nat} {k j : Nat} {x : Int32} {o N : Nat} {d : Nat → Nat} {i : Nat → Int32} {a : Nat → Nat → Int32} {ce sl : Nat} {lv : LV} {st : List Value} (dd : decode cc pc = .ok (.iaload, 1)) (hk : isA k = true) (hz : isZ k = false) (hx : x = nI j) (hj : j < rlen N k) (hj2 : j < 2 ^ 31) (kk : J (RW E o d N i a) ce sl (pc + 1) lv (.int (a k j) :: st)) : J (RW E o d N i a) ce sl pc lv (.int x :: .ref (d k) :: st) := by
  subst hx
  refine x_iald O dd (fun h H => ⟨rlen N k, a k, ?_, ?_, ?_⟩) kk


  · have h1 := H.2.1 k hk
    simpa only [rty, hz, Bool.false_eq_true, if_false] using h1
  · intro h9
    rw [nI_clamp hj2] at h9
    rcases h9 with h9 | h9
    · exact nI_pos hj2 h9
    · omega
  · rw [nI_clamp hj2]
theorem r_zld {l : Launch} {E : En} {cc : ByteArray} {own nm : String} {nL : Nat} {R : Room} {ret : Option FieldType} {Fn : Ft} {J : Jt} (O : Ok l E cc own nm nL R ret Fn J) {pc : Nat} {k j : Nat} {x : Int32} {o N : Nat} {d : Nat → Nat} {i : Nat → Int32} {a : Nat → Nat → Int32} {ce sl : Nat} {lv : LV} {st : List Value} (dd : decode cc pc = .ok (.baload, 1)) (hz : isZ k = true) (hx : x = nI j) (hj : j < 60) (kk : J (RW E o d N i a) ce sl (pc + 1) lv (.int (a k j) :: st)) : J (RW E o d N i a) ce sl pc lv (.int x :: .ref (d k) :: st) := by
  subst hx
  have hk2 : k = 20 ∨ k = 21 := by simpa [isZ] using hz
  have hk : isA k = true := by rcases hk2 with rfl | rfl <;> rfl
  have hr : rlen N k = 60 := by rcases hk2 with rfl | rfl <;> rfl
  refine x_zald O dd (fun h H => ⟨60, a k, ?_, vp_in_nI hj (by decide), by rw [nI_clamp (by omega)]⟩) kk
  have h1 := H.2.1 k hk
  simpa only [rty, hz, if_true, hr] using h1
theorem r_ast {l : Launch} {E : En} {cc : ByteArray} {own nm : String} {nL : Nat} {R : Room} {ret : Option FieldType} {Fn : Ft} {J : Jt} (O : Ok l E cc own nm nL R ret Fn J) {pc : Nat} {k j : Nat} {x v : Int32} {o N : Nat} {d : Nat → Nat} {i : Nat → Int32} {a : Nat → Nat → Int32} {ce sl : Nat} {lv : LV} {st : List Value} (dd : decode cc pc = .ok (.iastore, 1)) (hk : isA k = true) (hz : isZ k = false) (hx : x = nI j) (hj : j < rlen N k) (hj2 : j < 2 ^ 31) (kk : J (RW E o d N i (up2 a k j v)) ce sl (pc + 1) lv st) : J (RW E o d N i a) ce sl pc lv (.int v :: .int x :: .ref (d k) :: st) := by
  subst hx
  refine x_iast O dd (fun h H => ⟨rlen N k, a k, ?_, ?_, ?_⟩) kk
  · have h1 := H.2.1 k hk
    simpa only [rty, hz, Bool.false_eq_true, if_false] using h1
  · intro h9
    rw [nI_clamp hj2] at h9
    rcases h9 with h9 | h9
    · exact nI_pos hj2 h9
    · omega
  · rw [nI_clamp hj2]
    refine ⟨by rw [hset_ne _ _ (H.ne hk).symm]; exact H.1, fun q hq => ?_, H.2.2⟩
    by_cases hqk : q = k
    · subst hqk
      rw [hset_same, up2_eq]
      simp only [rty, hz, Bool.false_eq_true, if_false]
    · rw [hset_ne _ _ (fun e => hqk (H.2.2 q k hq hk e)), up2_ne _ _ _ hqk]
      exact H.2.1 q hq
theorem r_zst {l : Launch} {E : En} {cc : ByteArray} {own nm : String} {nL : Nat} {R : Room} {ret : Option FieldType} {Fn : Ft} {J : Jt} (O : Ok l E cc own nm nL R ret Fn J) {pc : Nat} {k j : Nat} {x v : Int32} {o N : Nat} {d : Nat → Nat} {i : Nat → Int32} {a : Nat → Nat → Int32} {ce sl : Nat} {lv : LV} {st : List Value} (dd : decode cc pc = .ok (.bastore, 1)) (hz : isZ k = true) (hx : x = nI j) (hj : j < 60) (hv : vp_nar .boolean v = v) (kk : J (RW E o d N i (up2 a k j v)) ce sl (pc + 1) lv st) : J (RW E o d N i a) ce sl pc lv (.int v :: .int x :: .ref (d k) :: st) := by
  subst hx
  have hk2 : k = 20 ∨ k = 21 := by simpa [isZ] using hz
  have hk : isA k = true := by rcases hk2 with rfl | rfl <;> rfl
  have hr : rlen N k = 60 := by rcases hk2 with rfl | rfl <;> rfl
  refine x_zast O dd (fun h H => ⟨60, a k, ?_, vp_in_nI hj (by decide), ?_⟩) kk
  · have h1 := H.2.1 k hk
    simpa only [rty, hz, if_true, hr] using h1
  · rw [nI_clamp (by omega), hv]
    refine ⟨by rw [hset_ne _ _ (H.ne hk).symm]; exact H.1, fun q hq => ?_, H.2.2⟩
    by_cases hqk : q = k
    · subst hqk
      rw [hset_same, up2_eq]
      simp only [rty, hz, if_true, hr]
    · rw [hset_ne _ _ (fun e => hqk (H.2.2 q k hq hk e)), up2_ne _ _ _ hqk]
      exact H.2.1 q hq
theorem r_len {l : Launch} {E : En} {cc : ByteArray} {own nm : String} {nL : Nat} {R : Room} {ret : Option FieldType} {Fn : Ft} {J : Jt} (O : Ok l E cc own nm nL R ret Fn J) {pc : Nat} {k : Nat} {o N : Nat} {d : Nat → Nat} {i : Nat → Int32} {a : Nat → Nat → Int32} {ce sl : Nat} {lv : LV} {st : List Value} (dd : decode cc pc = .ok (.arraylength, 1)) (hk : isA k = true) (hz : isZ k = false) (kk : J (RW E o d N i a) ce sl (pc + 1) lv (.int (nI (rlen N k)) :: st)) : J (RW E o d N i a) ce sl pc lv (.ref (d k) :: st) :=
  x_alen (t0 := 0) O dd (fun h H => ⟨E.2 0, _, by
    have h1 := H.2.1 k hk
    simpa only [rty, hz, Bool.false_eq_true, if_false] using h1, rfl⟩) rfl kk
theorem r_aldv {l : Launch} {E : En} {cc : ByteArray} {own nm : String} {nL : Nat} {R : Room} {ret : Option FieldType} {Fn : Ft} {J : Jt} (O : Ok l E cc own nm nL R ret Fn J) {pc : Nat} {k j : Nat} {x v : Int32} {o N : Nat} {d : Nat → Nat} {i : Nat → Int32} {a : Nat → Nat → Int32} {ce sl : Nat} {lv : LV} {st : List Value} (dd : decode cc pc = .ok (.iaload, 1)) (hk : isA k = true) (hz : isZ k = false) (hx : x = nI j) (hj : j < rlen N k) (hj2 : j < 2 ^ 31) (hv : a k j = v) (kk : J (RW E o d N i a) ce sl (pc + 1) lv (.int v :: st)) : J (RW E o d N i a) ce sl pc lv (.int x :: .ref (d k) :: st) := r_ald O dd hk hz hx hj hj2 (by rw [hv]; exact kk)
theorem r_zldv {l : Launch} {E : En} {cc : ByteArray} {own nm : String} {nL : Nat} {R : Room} {ret : Option FieldType} {Fn : Ft} {J : Jt} (O : Ok l E cc own nm nL R ret Fn J) {pc : Nat} {k j : Nat} {x v : Int32} {o N : Nat} {d : Nat → Nat} {i : Nat → Int32} {a : Nat → Nat → Int32} {ce sl : Nat} {lv : LV} {st : List Value} (dd : decode cc pc = .ok (.baload, 1)) (hz : isZ k = true) (hx : x = nI j) (hj : j < 60) (hv : a k j = v) (kk : J (RW E o d N i a) ce sl (pc + 1) lv (.int v :: st)) : J (RW E o d N i a) ce sl pc lv (.int x :: .ref (d k) :: st) := r_zld O dd hz hx hj (by rw [hv]; exact kk)
theorem r_recv {E : En} {o N : Nat} {d : Nat → Nat} {i : Nat → Int32} {a : Nat → Nat → Int32} : ∀ h, RW E o d N i a h → ∃ fs, h o = some (.inr (8, fs)) := fun h H => ⟨_, H.1⟩
theorem b2i_n0 {p : Prop} [Decidable p] (h : ¬ b2i p = 0) : p := Classical.byContradiction fun q => h (b2i_f q)
theorem b2i_z {p : Prop} [Decidable p] (h : b2i p = 0) : ¬ p := b2i_0.mp h
abbrev isP (i : Nat → Int32) (p : Int32) : Prop := 0 ≤ p ∧ p ≤ i 22 - 1
abbrev isS (i : Nat → Int32) (p : Int32) : Prop := 0 ≤ p ∧ p ≤ i 38 - 1
abbrev lvP (i : Nat → Int32) (a : Nat → Nat → Int32) (p : Int32) : Prop := isP i p ∧ ¬ a 20 p.toNatClampNeg = 0
theorem nI_pred1 {m : Nat} (h : 0 < m) : nI m - 1 = nI (m - 1) := by
  obtain ⟨k, rfl⟩ : ∃ k, m = k + 1 := ⟨m - 1, by omega⟩
  rw [nI_pred]
  rfl
theorem in_nat {m : Nat} {x p : Int32} (hm : x = nI m) (h60 : m ≤ 1000000) (h : 0 ≤ p ∧ p ≤ x - 1) : p = nI p.toNatClampNeg ∧ p.toNatClampNeg < m := by
  obtain ⟨h1, h2⟩ := h
  subst hm
  obtain ⟨j, hj, rfl⟩ := nI_of (x := p) (Int32.not_lt.mpr h1)
  rw [nI_clamp hj]
  refine ⟨rfl, ?_⟩
  rcases Nat.eq_zero_or_pos m with rfl | hm
  · exfalso
    rw [Int32.le_iff_toInt_le, nI_toInt hj, show (nI 0 - 1).toInt = -1 from by decide] at h2
    omega
  · rw [nI_pred1 hm, nI_leI hj (by omega)] at h2
    omega
theorem nat_in {m j : Nat} {x : Int32} (hm : x = nI m) (h60 : m ≤ 1000000) (h : j < m) : 0 ≤ nI j ∧ nI j ≤ x - 1 := by
  subst hm
  refine ⟨nI_pos' (by omega), ?_⟩
  rw [nI_pred1 (by omega), nI_leI (by omega) (by omega)]
  omega
theorem up_ind {Φ : Nat → Prop} (M : Nat) (h : ∀ k, k ≤ M → (k < M → Φ (k + 1)) → Φ k) : ∀ k, k ≤ M → Φ k := by
  have key : ∀ t k, k + t = M → Φ k := by
    intro t
    induction t with
    | zero => intro k hk; exact h k (by omega) (fun q => absurd q (by omega))
    | succ t ih => intro k hk; exact h k (by omega) (fun _ => ih (k + 1) (by omega))
  exact fun k hk => key (M - k) k (by omega)
theorem dn_ind {Φ : Nat → Prop} (h0 : Φ 0) (h : ∀ k, Φ k → Φ (k + 1)) : ∀ k, Φ k := fun k => Nat.rec h0 h k
end
section
/-! ===== REFV: the reference's rights as a list for each strip, newest ahead ===== -/
abbrev Rt : Type := Int32 × Int32 × Int32
def isRr (k : Nat) : Bool := (k == 24 || k == 25 || k == 26 || k == 27)
def chainR (a : Nat → Nat → Int32) (s : Nat) : Nat → List Rt
  | 0 => []
  | k + 1 => if a 24 k = nI s then (a 25 k, a 26 k, a 27 k) :: chainR a s k else chainR a s k
def cap (r : Nat) : Nat := if r ≤ 256 then 256 else if r ≤ 512 then 512 else if r ≤ 1024 then 1024 else if r ≤ 2048 then 2048 else if r ≤ 4096 then 4096 else if r ≤ 8192 then 8192 else if r ≤ 16384 then 16384 else if r ≤ 32768 then 32768 else 65536
theorem cap_ge {r : Nat} (h : r ≤ 65536) : r ≤ cap r := by unfold cap; (repeat' split) <;> omega
theorem cap_lo (r : Nat) : 256 ≤ cap r := by unfold cap; (repeat' split) <;> omega
theorem cap_hi (r : Nat) : cap r ≤ 65536 := by unfold cap; (repeat' split) <;> omega
theorem cap_mono {r q : Nat} (h : r ≤ q) : cap r ≤ cap q := by unfold cap; (repeat' split) <;> omega
theorem cap_same {r : Nat} (h : ¬ r = cap r) (h2 : r ≤ 65536) : cap (r + 1) = cap r := by revert h; unfold cap; (repeat' split) <;> omega
theorem cap_next {r : Nat} (h : r = cap r) (h2 : r < 65536) : cap (r + 1) = 2 * cap r := by revert h; unfold cap; (repeat' split) <;> omega
def RC (d d' : Nat → Nat) (i : Nat → Int32) (b a : Nat → Nat → Int32) (ch : Nat → List Rt) (r : Nat) : Prop :=
  (∀ k, isRr k = false → d' k = d k ∧ a k = b k) ∧ i 28 = nI r ∧ r ≤ 61560 ∧ (∀ k, k < r → ∃ s, s < 120 ∧ a 24 k = nI s) ∧ ∀ s, s < 120 → chainR a s r = ch s
def RV (E : En) (o : Nat) (d : Nat → Nat) (i : Nat → Int32) (b : Nat → Nat → Int32) (ch : Nat → List Rt) : HP := fun h => ∃ q : (Nat → Nat) × (Nat → Nat → Int32) × Nat, RC d q.1 i b q.2.1 ch q.2.2 ∧ RW E o q.1 (cap q.2.2) i q.2.1 h
theorem v_open {l : Launch} {E : En} {cc : ByteArray} {own nm : String} {nL : Nat} {R : Room} {ret : Option FieldType} {Fn : Ft} {J : Jt} (O : Ok l E cc own nm nL R ret Fn J) {pc : Nat} {o : Nat} {d : Nat → Nat} {i : Nat → Int32} {a : Nat → Nat → Int32} {ch : Nat → List Rt} {ce sl : Nat} {lv : LV} {st : List Value} (k : ∀ d' a' r, RC d d' i a a' ch r → J (RW E o d' (cap r) i a') ce sl pc lv st) : J (RV E o d i a ch) ce sl pc lv st :=
  x_ex O (fun q => x_pure O (fun hq => k q.1 q.2.1 q.2.2 hq))
theorem v_close {l : Launch} {E : En} {cc : ByteArray} {own nm : String} {nL : Nat} {R : Room} {ret : Option FieldType} {Fn : Ft} {J : Jt} (O : Ok l E cc own nm nL R ret Fn J) {pc : Nat} {o : Nat} {d : Nat → Nat} {i : Nat → Int32} {a : Nat → Nat → Int32} {ch : Nat → List Rt} {ce sl : Nat} {lv : LV} {st : List Value} {d' : Nat → Nat} {a' : Nat → Nat → Int32} {r : Nat} (hq : RC d d' i a a' ch r) (k : J (RV E o d i a ch) ce sl pc lv st) : J (RW E o d' (cap r) i a') ce sl pc lv st :=
  x_imp O (fun h hh => ⟨(d', a', r), hq, hh⟩) k
theorem rfs_rc0 {d d' : Nat → Nat} {i : Nat → Int32} (hd : ∀ k, isRr k = false → d' k = d k) : ∀ k, isRr k = false → (rfs d' i)[k]? = (rfs d i)[k]?
  | 0, _ => rfl
  | 1, _ => rfl
  | 2, _ => rfl
  | 3, _ => rfl
  | 4, _ => rfl
  | 5, _ => rfl
  | 6, _ => rfl
  | 7, _ => rfl
  | 8, _ => rfl
  | 9, _ => by show some (Value.ref (d' 9)) = some (Value.ref (d 9)); rw [hd 9 rfl]
  | 10, _ => by show some (Value.ref (d' 10)) = some (Value.ref (d 10)); rw [hd 10 rfl]
  | 11, _ => by show some (Value.ref (d' 11)) = some (Value.ref (d 11)); rw [hd 11 rfl]
  | 12, _ => by show some (Value.ref (d' 12)) = some (Value.ref (d 12)); rw [hd 12 rfl]
  | 13, _ => by show some (Value.ref (d' 13)) = some (Value.ref (d 13)); rw [hd 13 rfl]
  | 14, _ => by show some (Value.ref (d' 14)) = some (Value.ref (d 14)); rw [hd 14 rfl]
  | 15, _ => by show some (Value.ref (d' 15)) = some (Value.ref (d 15)); rw [hd 15 rfl]
  | 16, _ => by show some (Value.ref (d' 16)) = some (Value.ref (d 16)); rw [hd 16 rfl]
  | 17, _ => by show some (Value.ref (d' 17)) = some (Value.ref (d 17)); rw [hd 17 rfl]
  | 18, _ => by show some (Value.ref (d' 18)) = some (Value.ref (d 18)); rw [hd 18 rfl]
  | 19, _ => by show some (Value.ref (d' 19)) = some (Value.ref (d 19)); rw [hd 19 rfl]
  | 20, _ => by show some (Value.ref (d' 20)) = some (Value.ref (d 20)); rw [hd 20 rfl]
  | 21, _ => by show some (Value.ref (d' 21)) = some (Value.ref (d 21)); rw [hd 21 rfl]
  | 22, _ => rfl
  | 23, _ => rfl
  | 24, h => by cases h
  | 25, h => by cases h
  | 26, h => by cases h
  | 27, h => by cases h
  | 28, _ => rfl
  | 29, _ => by show some (Value.ref (d' 29)) = some (Value.ref (d 29)); rw [hd 29 rfl]
  | 30, _ => by show some (Value.ref (d' 30)) = some (Value.ref (d 30)); rw [hd 30 rfl]
  | 31, _ => by show some (Value.ref (d' 31)) = some (Value.ref (d 31)); rw [hd 31 rfl]
  | 32, _ => by show some (Value.ref (d' 32)) = some (Value.ref (d 32)); rw [hd 32 rfl]
  | 33, _ => by show some (Value.ref (d' 33)) = some (Value.ref (d 33)); rw [hd 33 rfl]
  | 34, _ => by show some (Value.ref (d' 34)) = some (Value.ref (d 34)); rw [hd 34 rfl]
  | 35, _ => by show some (Value.ref (d' 35)) = some (Value.ref (d 35)); rw [hd 35 rfl]
  | 36, _ => by show some (Value.ref (d' 36)) = some (Value.ref (d 36)); rw [hd 36 rfl]
  | 37, _ => by show some (Value.ref (d' 37)) = some (Value.ref (d 37)); rw [hd 37 rfl]
  | 38, _ => rfl
  | 39, _ => by show some (Value.ref (d' 39)) = some (Value.ref (d 39)); rw [hd 39 rfl]
  | 40, _ => rfl
  | 41, _ => rfl
  | 42, _ => rfl
  | 43, _ => by show some (Value.ref (d' 43)) = some (Value.ref (d 43)); rw [hd 43 rfl]
  | k + 44, _ => rfl
theorem rfs_rc {d d' : Nat → Nat} {i : Nat → Int32} {k : Nat} {v : Value} (hd : ∀ k, isRr k = false → d' k = d k) (hk : isRr k = false) (hv : (rfs d i)[k]? = some v) : (rfs d' i)[k]? = some v := (rfs_rc0 hd k hk).trans hv
theorem v_get {l : Launch} {E : En} {cc : ByteArray} {own nm : String} {nL : Nat} {R : Room} {ret : Option FieldType} {Fn : Ft} {J : Jt} (O : Ok l E cc own nm nL R ret Fn J) {pc index : Nat} {k : Nat} {v : Value} {o : Nat} {d : Nat → Nat} {i : Nat → Int32} {a : Nat → Nat → Int32} {ch : Nat → List Rt} {ce sl : Nat} {lv : LV} {st : List Value} (dd : decode cc pc = .ok (.getfield index, 3)) (hl : FD own index 8 k) (hk : isRr k = false) (hv : (rfs d i)[k]? = some v) (kk : J (RV E o d i a ch) ce sl (pc + 3) lv (v :: st)) : J (RV E o d i a ch) ce sl pc lv (.ref o :: st) :=
  v_open O fun d' a' r hq => r_get O dd hl (rfs_rc (fun k hk => (hq.1 k hk).1) hk hv) (v_close O hq kk)
theorem RC.put {d d' : Nat → Nat} {i : Nat → Int32} {b a : Nat → Nat → Int32} {ch : Nat → List Rt} {r k : Nat} {v : Int32} (h : RC d d' i b a ch r) (hk : k ≠ 28) : RC d d' (upd i k v) b a ch r := ⟨h.1, by rw [upd_ne _ _ (fun e => hk e.symm)]; exact h.2.1, h.2.2⟩
theorem v_put {l : Launch} {E : En} {cc : ByteArray} {own nm : String} {nL : Nat} {R : Room} {ret : Option FieldType} {Fn : Ft} {J : Jt} (O : Ok l E cc own nm nL R ret Fn J) {pc index : Nat} {k : Nat} {v : Int32} {o : Nat} {d : Nat → Nat} {i : Nat → Int32} {a : Nat → Nat → Int32} {ch : Nat → List Rt} {ce sl : Nat} {lv : LV} {st : List Value} (dd : decode cc pc = .ok (.putfield index, 3)) (hl : FP own index 8 k .int false) (hk : isI k = true) (hk2 : (k == 28) = false) (kk : J (RV E o d (upd i k v) a ch) ce sl (pc + 3) lv st) : J (RV E o d i a ch) ce sl pc lv (.int v :: .ref o :: st) :=
  v_open O fun d' a' r hq => r_put O dd hl hk (v_close O (hq.put (by simpa using hk2)) kk)
theorem v_ald {l : Launch} {E : En} {cc : ByteArray} {own nm : String} {nL : Nat} {R : Room} {ret : Option FieldType} {Fn : Ft} {J : Jt} (O : Ok l E cc own nm nL R ret Fn J) {pc : Nat} {k j : Nat} {x : Int32} {o : Nat} {d : Nat → Nat} {i : Nat → Int32} {a : Nat → Nat → Int32} {ch : Nat → List Rt} {ce sl : Nat} {lv : LV} {st : List Value} (dd : decode cc pc = .ok (.iaload, 1)) (hr : isRr k = false) (hk : isA k = true) (hz : isZ k = false) (hx : x = nI j) (hj : j < rlen 0 k) (kk : J (RV E o d i a ch) ce sl (pc + 1) lv (.int (a k j) :: st)) : J (RV E o d i a ch) ce sl pc lv (.int x :: .ref (d k) :: st) :=
  v_open O fun d' a' r hq => by
    have h2 : rlen (cap r) k = rlen 0 k ∧ rlen 0 k ≤ 3720 := by
      have q1 : k ≠ 22 := by rintro rfl; cases hk
      have q2 : k ≠ 23 := by rintro rfl; cases hk
      have q3 : k ≤ 23 ∨ 28 ≤ k := by simp [isRr] at hr; omega
      unfold rlen
      constructor <;> ((repeat' split) <;> omega)
    rw [← (hq.1 k hr).1]
    refine r_ald O dd hk hz hx (by omega) (by omega) ?_
    rw [(hq.1 k hr).2]
    exact v_close O hq kk
theorem v_aldv {l : Launch} {E : En} {cc : ByteArray} {own nm : String} {nL : Nat} {R : Room} {ret : Option FieldType} {Fn : Ft} {J : Jt} (O : Ok l E cc own nm nL R ret Fn J) {pc : Nat} {k j : Nat} {x v : Int32} {o : Nat} {d : Nat → Nat} {i : Nat → Int32} {a : Nat → Nat → Int32} {ch : Nat → List Rt} {ce sl : Nat} {lv : LV} {st : List Value} (dd : decode cc pc = .ok (.iaload, 1)) (hr : isRr k = false) (hk : isA k = true) (hz : isZ k = false) (hx : x = nI j) (hj : j < rlen 0 k) (hv : a k j = v) (kk : J (RV E o d i a ch) ce sl (pc + 1) lv (.int v :: st)) : J (RV E o d i a ch) ce sl pc lv (.int x :: .ref (d k) :: st) := v_ald O dd hr hk hz hx hj (by rw [hv]; exact kk)
theorem v_zld {l : Launch} {E : En} {cc : ByteArray} {own nm : String} {nL : Nat} {R : Room} {ret : Option FieldType} {Fn : Ft} {J : Jt} (O : Ok l E cc own nm nL R ret Fn J) {pc : Nat} {k j : Nat} {x : Int32} {o : Nat} {d : Nat → Nat} {i : Nat → Int32} {a : Nat → Nat → Int32} {ch : Nat → List Rt} {ce sl : Nat} {lv : LV} {st : List Value} (dd : decode cc pc = .ok (.baload, 1)) (hz : isZ k = true) (hx : x = nI j) (hj : j < 60) (kk : J (RV E o d i a ch) ce sl (pc + 1) lv (.int (a k j) :: st)) : J (RV E o d i a ch) ce sl pc lv (.int x :: .ref (d k) :: st) :=
  v_open O fun d' a' r hq => by
    have hr : isRr k = false := by
      have hk2 : k = 20 ∨ k = 21 := by simpa [isZ] using hz
      rcases hk2 with rfl | rfl <;> rfl
    rw [← (hq.1 k hr).1]
    refine r_zld O dd hz hx hj ?_
    rw [(hq.1 k hr).2]
    exact v_close O hq kk
theorem v_zldv {l : Launch} {E : En} {cc : ByteArray} {own nm : String} {nL : Nat} {R : Room} {ret : Option FieldType} {Fn : Ft} {J : Jt} (O : Ok l E cc own nm nL R ret Fn J) {pc : Nat} {k j : Nat} {x v : Int32} {o : Nat} {d : Nat → Nat} {i : Nat → Int32} {a : Nat → Nat → Int32} {ch : Nat → List Rt} {ce sl : Nat} {lv : LV} {st : List Value} (dd : decode cc pc = .ok (.baload, 1)) (hz : isZ k = true) (hx : x = nI j) (hj : j < 60) (hv : a k j = v) (kk : J (RV E o d i a ch) ce sl (pc + 1) lv (.int v :: st)) : J (RV E o d i a ch) ce sl pc lv (.int x :: .ref (d k) :: st) := v_zld O dd hz hx hj (by rw [hv]; exact kk)
theorem chainR_congr {a b : Nat → Nat → Int32} (h : a 24 = b 24 ∧ a 25 = b 25 ∧ a 26 = b 26 ∧ a 27 = b 27) (s : Nat) : ∀ k, chainR a s k = chainR b s k
  | 0 => rfl
  | k + 1 => by simp only [chainR, h.1, h.2.1, h.2.2.1, h.2.2.2, chainR_congr h s k]
theorem RC.st {d d' : Nat → Nat} {i : Nat → Int32} {b a : Nat → Nat → Int32} {ch : Nat → List Rt} {r k j : Nat} {v : Int32} (h : RC d d' i b a ch r) (hk : isRr k = false) : RC d d' i (up2 b k j v) (up2 a k j v) ch r := by
  have hk2 : 24 ≠ k ∧ 25 ≠ k ∧ 26 ≠ k ∧ 27 ≠ k := by simp [isRr] at hk; omega
  refine ⟨fun q hq => ⟨(h.1 q hq).1, ?_⟩, h.2.1, h.2.2.1, ?_, ?_⟩
  · by_cases e : q = k
    · subst e; rw [up2_eq, up2_eq, (h.1 q hq).2]
    · rw [up2_ne _ _ _ e, up2_ne _ _ _ e]; exact (h.1 q hq).2
  · rw [up2_ne _ _ _ hk2.1]; exact h.2.2.2.1
  · intro s hs
    rw [chainR_congr (b := a) ⟨up2_ne _ _ _ hk2.1, up2_ne _ _ _ hk2.2.1, up2_ne _ _ _ hk2.2.2.1, up2_ne _ _ _ hk2.2.2.2⟩]
    exact h.2.2.2.2 s hs
theorem v_ast {l : Launch} {E : En} {cc : ByteArray} {own nm : String} {nL : Nat} {R : Room} {ret : Option FieldType} {Fn : Ft} {J : Jt} (O : Ok l E cc own nm nL R ret Fn J) {pc : Nat} {k j : Nat} {x v : Int32} {o : Nat} {d : Nat → Nat} {i : Nat → Int32} {a : Nat → Nat → Int32} {ch : Nat → List Rt} {ce sl : Nat} {lv : LV} {st : List Value} (dd : decode cc pc = .ok (.iastore, 1)) (hr : isRr k = false) (hk : isA k = true) (hz : isZ k = false) (hx : x = nI j) (hj : j < rlen 0 k) (kk : J (RV E o d i (up2 a k j v) ch) ce sl (pc + 1) lv st) : J (RV E o d i a ch) ce sl pc lv (.int v :: .int x :: .ref (d k) :: st) :=
  v_open O fun d' a' r hq => by
    have h2 : rlen (cap r) k = rlen 0 k ∧ rlen 0 k ≤ 3720 := by
      have q1 : k ≠ 22 := by rintro rfl; cases hk
      have q2 : k ≠ 23 := by rintro rfl; cases hk
      have q3 : k ≤ 23 ∨ 28 ≤ k := by simp [isRr] at hr; omega
      unfold rlen
      constructor <;> ((repeat' split) <;> omega)
    rw [← (hq.1 k hr).1]
    refine r_ast O dd hk hz hx (by omega) (by omega) ?_
    exact v_close O (hq.st hr) kk
theorem v_zst {l : Launch} {E : En} {cc : ByteArray} {own nm : String} {nL : Nat} {R : Room} {ret : Option FieldType} {Fn : Ft} {J : Jt} (O : Ok l E cc own nm nL R ret Fn J) {pc : Nat} {k j : Nat} {x v : Int32} {o : Nat} {d : Nat → Nat} {i : Nat → Int32} {a : Nat → Nat → Int32} {ch : Nat → List Rt} {ce sl : Nat} {lv : LV} {st : List Value} (dd : decode cc pc = .ok (.bastore, 1)) (hz : isZ k = true) (hx : x = nI j) (hj : j < 60) (hv : vp_nar .boolean v = v) (kk : J (RV E o d i (up2 a k j v) ch) ce sl (pc + 1) lv st) : J (RV E o d i a ch) ce sl pc lv (.int v :: .int x :: .ref (d k) :: st) :=
  v_open O fun d' a' r hq => by
    have hr : isRr k = false := by
      have hk2 : k = 20 ∨ k = 21 := by simpa [isZ] using hz
      rcases hk2 with rfl | rfl <;> rfl
    rw [← (hq.1 k hr).1]
    refine r_zst O dd hz hx hj hv ?_
    exact v_close O (hq.st hr) kk
theorem v_recv {E : En} {o : Nat} {d : Nat → Nat} {i : Nat → Int32} {a : Nat → Nat → Int32} {ch : Nat → List Rt} : ∀ h, RV E o d i a ch h → ∃ fs, h o = some (.inr (8, fs)) := fun h H => by
  obtain ⟨q, -, H⟩ := H
  exact ⟨_, H.1⟩
end
section
/-! ===== REF 1: small methods of the reference ===== -/
abbrev rmX (f lo c s : Nat) : Room := { frames := f, cells := c, slots := s, locals := lo }
set_option maxRecDepth 100000 in
set_option maxHeartbeats 4000000 in
theorem c_X8_in (l : Launch) (E : En) (P : HP) (v lo hi : Int32)  : Mt l E yX8_in cX8_in 3 (some .boolean) (rmX 0 0 0 0) [.int v, .int lo, .int hi] (P) (fun _ : Unit => some (.int (b2i (lo ≤ v ∧ v ≤ hi)))) (fun _ => P) := by
  refine Mt_of (by decide +kernel) (Nat.le_of_ble_eq_true rfl) (fun J O => ?_)
  show J _ 0 0 0 [some (.int v), some (.int lo), some (.int hi)] []
  refine x_iload_n (pc := 0) O dX8_in_0 rfl ?_
  refine x_iload_n (pc := 1) O dX8_in_1 rfl ?_
  refine x_icmp_lt (pc := 2) O 14 dX8_in_2 (by decide) (fun c2 => ?_) (fun c2 => ?_)
  · refine x_iconst (v := 0) (pc := 14) O dX8_in_14 (by decide) ?_
    exact x_ret (v := some (.int _)) (pc := 15) O dX8_in_15 rfl (rfl) ⟨Nat.le_refl _, Nat.le_refl _, (), congrArg (fun z => some (Value.int z)) ((b2i_f (fun q => Int32.not_lt.mpr q.1 c2)).symm), fun h hh => hh⟩
  · refine x_iload_n (pc := 5) O dX8_in_5 rfl ?_
    refine x_iload_n (pc := 6) O dX8_in_6 rfl ?_
    refine x_icmp_gt (pc := 7) O 14 dX8_in_7 (by decide) (fun c7 => ?_) (fun c7 => ?_)
    · refine x_iconst (v := 0) (pc := 14) O dX8_in_14 (by decide) ?_
      exact x_ret (v := some (.int _)) (pc := 15) O dX8_in_15 rfl (rfl) ⟨Nat.le_refl _, Nat.le_refl _, (), congrArg (fun z => some (Value.int z)) ((b2i_f (fun q => Int32.not_lt.mpr q.2 c7)).symm), fun h hh => hh⟩
    · refine x_iconst (v := 1) (pc := 10) O dX8_in_10 (by decide) ?_
      refine x_goto (pc := 11) O 15 dX8_in_11 (by decide) ?_
      exact x_ret (v := some (.int _)) (pc := 15) O dX8_in_15 rfl (rfl) ⟨Nat.le_refl _, Nat.le_refl _, (), congrArg (fun z => some (Value.int z)) ((b2i_t ⟨Int32.not_lt.mp c2, Int32.not_lt.mp c7⟩).symm), fun h hh => hh⟩
set_option maxRecDepth 100000 in
set_option maxHeartbeats 4000000 in
theorem c_X8_isPerson (l : Launch) (E : En) (o : Nat) (d : Nat → Nat) (i : Nat → Int32) (a : Nat → Nat → Int32) (ch : Nat → List Rt) (p : Int32)  : Mt l E yX8_isPerson cX8_isPerson 2 (some .boolean) (rmX 1 22 0 0) [.ref o, .int p] (RV E o d i a ch) (fun _ : Unit => some (.int (b2i (isP i p)))) (fun _ => RV E o d i a ch) := by
  refine Mt_of (by decide +kernel) (Nat.le_of_ble_eq_true rfl) (fun J O => ?_)
  show J _ 0 0 0 [some (.ref o), some (.int p)] []
  refine x_iload_n (pc := 0) O dX8_isPerson_0 rfl ?_
  refine x_iconst (v := 0) (pc := 1) O dX8_isPerson_1 (by decide) ?_
  refine x_aload_n (pc := 2) O dX8_isPerson_2 rfl rfl ?_
  refine v_get (pc := 3) O dX8_isPerson_3 fdX8_99 rfl rfl ?_
  refine x_iconst (v := 1) (pc := 6) O dX8_isPerson_6 (by decide) ?_
  refine x_isub (pc := 7) O dX8_isPerson_7 ?_
  refine x_callS (pc := 8) (rest := _) O (c_X8_in l E _ _ _ _) dX8_isPerson_8 cbX8_103 sm_yX8_in rfl rfl (Nat.le_of_ble_eq_true rfl) ⟨Nat.le_of_ble_eq_true rfl, Nat.le_of_ble_eq_true rfl⟩ ⟨Nat.le_of_ble_eq_true rfl, Nat.le_of_ble_eq_true rfl⟩ (fun _ => ?_)
  dsimp only [Option.toList, List.append, List.nil_append, List.cons_append, Nat.add_zero, Nat.reduceAdd]
  exact x_ret (v := some (.int _)) (pc := 11) O dX8_isPerson_11 rfl (b2i_nar _) ⟨Nat.le_refl _, Nat.le_refl _, (), rfl, fun h hh => hh⟩
set_option maxRecDepth 100000 in
set_option maxHeartbeats 4000000 in
theorem c_X8_lives (l : Launch) (E : En) (o : Nat) (d : Nat → Nat) (i : Nat → Int32) (a : Nat → Nat → Int32) (ch : Nat → List Rt) (p : Int32) {m : Nat} (hm : i 22 = nI m) (h60 : m ≤ 60) : Mt l E yX8_lives cX8_lives 2 (some .boolean) (rmX 2 43 0 0) [.ref o, .int p] (RV E o d i a ch) (fun _ : Unit => some (.int (b2i (lvP i a p)))) (fun _ => RV E o d i a ch) := by
  refine Mt_of (by decide +kernel) (Nat.le_of_ble_eq_true rfl) (fun J O => ?_)
  show J _ 0 0 0 [some (.ref o), some (.int p)] []
  refine x_aload_n (pc := 0) O dX8_lives_0 rfl rfl ?_
  refine x_iload_n (pc := 1) O dX8_lives_1 rfl ?_
  refine x_callV (pc := 2) (rest := _) (ci := 8) O (c_X8_isPerson l E _ _ _ _ _ _) dX8_lives_2 cbX8_107 im_yX8_isPerson se_yX8_isPerson rfl v_recv rfl rfl (Nat.le_of_ble_eq_true rfl) ⟨Nat.le_of_ble_eq_true rfl, Nat.le_of_ble_eq_true rfl⟩ ⟨Nat.le_of_ble_eq_true rfl, Nat.le_of_ble_eq_true rfl⟩ (fun _ => ?_)
  dsimp only [Option.toList, List.append, List.nil_append, List.cons_append, Nat.add_zero, Nat.reduceAdd]
  refine x_if_eq (pc := 5) O 21 dX8_lives_5 (by decide) (fun c5 => ?_) (fun c5 => ?_)
  · refine x_iconst (v := 0) (pc := 21) O dX8_lives_21 (by decide) ?_
    exact x_ret (v := some (.int _)) (pc := 22) O dX8_lives_22 rfl (rfl) ⟨Nat.le_refl _, Nat.le_refl _, (), congrArg (fun z => some (Value.int z)) ((b2i_f (fun q => b2i_z c5 q.1)).symm), fun h hh => hh⟩
  · have hp := in_nat hm (by omega) (b2i_n0 c5)
    refine x_aload_n (pc := 8) O dX8_lives_8 rfl rfl ?_
    refine v_get (pc := 9) O dX8_lives_9 fdX8_43 rfl rfl ?_
    refine x_iload_n (pc := 12) O dX8_lives_12 rfl ?_
    refine v_zld (k := 20) (pc := 13) O dX8_lives_13 rfl hp.1 (by omega) ?_
    refine x_if_eq (pc := 14) O 21 dX8_lives_14 (by decide) (fun c14 => ?_) (fun c14 => ?_)
    · refine x_iconst (v := 0) (pc := 21) O dX8_lives_21 (by decide) ?_
      exact x_ret (v := some (.int _)) (pc := 22) O dX8_lives_22 rfl (rfl) ⟨Nat.le_refl _, Nat.le_refl _, (), congrArg (fun z => some (Value.int z)) ((b2i_f (fun q => q.2 c14)).symm), fun h hh => hh⟩
    · refine x_iconst (v := 1) (pc := 17) O dX8_lives_17 (by decide) ?_
      refine x_goto (pc := 18) O 22 dX8_lives_18 (by decide) ?_
      exact x_ret (v := some (.int _)) (pc := 22) O dX8_lives_22 rfl (rfl) ⟨Nat.le_refl _, Nat.le_refl _, (), congrArg (fun z => some (Value.int z)) ((b2i_t ⟨b2i_n0 c5, c14⟩).symm), fun h hh => hh⟩
set_option maxRecDepth 100000 in
set_option maxHeartbeats 4000000 in
theorem c_X8_isStrip (l : Launch) (E : En) (o : Nat) (d : Nat → Nat) (i : Nat → Int32) (a : Nat → Nat → Int32) (ch : Nat → List Rt) (g s q : Int32)  : Mt l E yX8_isStrip cX8_isStrip 4 (some .boolean) (rmX 1 22 0 0) [.ref o, .int g, .int s, .int q] (RV E o d i a ch) (fun _ : Unit => some (.int (b2i ((0 ≤ g ∧ g ≤ 9) ∧ (0 ≤ s ∧ s ≤ 11) ∧ 0 ≤ q ∧ q ≤ i 8)))) (fun _ => RV E o d i a ch) := by
  refine Mt_of (by decide +kernel) (Nat.le_of_ble_eq_true rfl) (fun J O => ?_)
  show J _ 0 0 0 [some (.ref o), some (.int g), some (.int s), some (.int q)] []
  refine x_iload_n (pc := 0) O dX8_isStrip_0 rfl ?_
  refine x_iconst (v := 0) (pc := 1) O dX8_isStrip_1 (by decide) ?_
  refine x_bipush (v := 9) (pc := 2) O dX8_isStrip_2 (by decide) ?_
  refine x_callS (pc := 4) (rest := _) O (c_X8_in l E _ _ _ _) dX8_isStrip_4 cbX8_103 sm_yX8_in rfl rfl (Nat.le_of_ble_eq_true rfl) ⟨Nat.le_of_ble_eq_true rfl, Nat.le_of_ble_eq_true rfl⟩ ⟨Nat.le_of_ble_eq_true rfl, Nat.le_of_ble_eq_true rfl⟩ (fun _ => ?_)
  dsimp only [Option.toList, List.append, List.nil_append, List.cons_append, Nat.add_zero, Nat.reduceAdd]
  refine x_if_eq (pc := 7) O 36 dX8_isStrip_7 (by decide) (fun c7 => ?_) (fun c7 => ?_)
  · refine x_iconst (v := 0) (pc := 36) O dX8_isStrip_36 (by decide) ?_
    exact x_ret (v := some (.int _)) (pc := 37) O dX8_isStrip_37 rfl (rfl) ⟨Nat.le_refl _, Nat.le_refl _, (), congrArg (fun z => some (Value.int z)) ((b2i_f (fun q => b2i_z c7 q.1)).symm), fun h hh => hh⟩
  · refine x_iload_n (pc := 10) O dX8_isStrip_10 rfl ?_
    refine x_iconst (v := 0) (pc := 11) O dX8_isStrip_11 (by decide) ?_
    refine x_bipush (v := 11) (pc := 12) O dX8_isStrip_12 (by decide) ?_
    refine x_callS (pc := 14) (rest := _) O (c_X8_in l E _ _ _ _) dX8_isStrip_14 cbX8_103 sm_yX8_in rfl rfl (Nat.le_of_ble_eq_true rfl) ⟨Nat.le_of_ble_eq_true rfl, Nat.le_of_ble_eq_true rfl⟩ ⟨Nat.le_of_ble_eq_true rfl, Nat.le_of_ble_eq_true rfl⟩ (fun _ => ?_)
    dsimp only [Option.toList, List.append, List.nil_append, List.cons_append, Nat.add_zero, Nat.reduceAdd]
    refine x_if_eq (pc := 17) O 36 dX8_isStrip_17 (by decide) (fun c17 => ?_) (fun c17 => ?_)
    · refine x_iconst (v := 0) (pc := 36) O dX8_isStrip_36 (by decide) ?_
      exact x_ret (v := some (.int _)) (pc := 37) O dX8_isStrip_37 rfl (rfl) ⟨Nat.le_refl _, Nat.le_refl _, (), congrArg (fun z => some (Value.int z)) ((b2i_f (fun q => b2i_z c17 q.2.1)).symm), fun h hh => hh⟩
    · refine x_iload_n (pc := 20) O dX8_isStrip_20 rfl ?_
      refine x_iconst (v := 0) (pc := 21) O dX8_isStrip_21 (by decide) ?_
      refine x_aload_n (pc := 22) O dX8_isStrip_22 rfl rfl ?_
      refine v_get (pc := 23) O dX8_isStrip_23 fdX8_118 rfl rfl ?_
      refine x_callS (pc := 26) (rest := _) O (c_X8_in l E _ _ _ _) dX8_isStrip_26 cbX8_103 sm_yX8_in rfl rfl (Nat.le_of_ble_eq_true rfl) ⟨Nat.le_of_ble_eq_true rfl, Nat.le_of_ble_eq_true rfl⟩ ⟨Nat.le_of_ble_eq_true rfl, Nat.le_of_ble_eq_true rfl⟩ (fun _ => ?_)
      dsimp only [Option.toList, List.append, List.nil_append, List.cons_append, Nat.add_zero, Nat.reduceAdd]
      refine x_if_eq (pc := 29) O 36 dX8_isStrip_29 (by decide) (fun c29 => ?_) (fun c29 => ?_)
      · refine x_iconst (v := 0) (pc := 36) O dX8_isStrip_36 (by decide) ?_
        exact x_ret (v := some (.int _)) (pc := 37) O dX8_isStrip_37 rfl (rfl) ⟨Nat.le_refl _, Nat.le_refl _, (), congrArg (fun z => some (Value.int z)) ((b2i_f (fun q => b2i_z c29 q.2.2)).symm), fun h hh => hh⟩
      · refine x_iconst (v := 1) (pc := 32) O dX8_isStrip_32 (by decide) ?_
        refine x_goto (pc := 33) O 37 dX8_isStrip_33 (by decide) ?_
        exact x_ret (v := some (.int _)) (pc := 37) O dX8_isStrip_37 rfl (rfl) ⟨Nat.le_refl _, Nat.le_refl _, (), congrArg (fun z => some (Value.int z)) ((b2i_t ⟨b2i_n0 c7, b2i_n0 c17, b2i_n0 c29⟩).symm), fun h hh => hh⟩
set_option maxRecDepth 100000 in
set_option maxHeartbeats 4000000 in
theorem c_X8_isChild (l : Launch) (E : En) (o : Nat) (d : Nat → Nat) (i : Nat → Int32) (a : Nat → Nat → Int32) (ch : Nat → List Rt) (c p : Nat) (hc : c < 60) : Mt l E yX8_isChild cX8_isChild 3 (some .boolean) (rmX 0 0 0 0) [.ref o, .int (nI c), .int (nI p)] (RV E o d i a ch) (fun _ : Unit => some (.int (b2i (a 10 c = nI p ∨ a 11 c = nI p)))) (fun _ => RV E o d i a ch) := by
  refine Mt_of (by decide +kernel) (Nat.le_of_ble_eq_true rfl) (fun J O => ?_)
  show J _ 0 0 0 [some (.ref o), some (.int (nI c)), some (.int (nI p))] []
  refine x_aload_n (pc := 0) O dX8_isChild_0 rfl rfl ?_
  refine v_get (pc := 1) O dX8_isChild_1 fdX8_13 rfl rfl ?_
  refine x_iload_n (pc := 4) O dX8_isChild_4 rfl ?_
  refine v_ald (k := 10) (pc := 5) O dX8_isChild_5 rfl rfl rfl rfl (by show _ < 60; omega) ?_
  refine x_iload_n (pc := 6) O dX8_isChild_6 rfl ?_
  refine x_icmp_eq (pc := 7) O 20 dX8_isChild_7 (by decide) (fun c7 => ?_) (fun c7 => ?_)
  · refine x_iconst (v := 1) (pc := 20) O dX8_isChild_20 (by decide) ?_
    refine x_goto (pc := 21) O 25 dX8_isChild_21 (by decide) ?_
    exact x_ret (v := some (.int _)) (pc := 25) O dX8_isChild_25 rfl (rfl) ⟨Nat.le_refl _, Nat.le_refl _, (), congrArg (fun z => some (Value.int z)) ((b2i_t (Or.inl c7)).symm), fun h hh => hh⟩
  · refine x_aload_n (pc := 10) O dX8_isChild_10 rfl rfl ?_
    refine v_get (pc := 11) O dX8_isChild_11 fdX8_16 rfl rfl ?_
    refine x_iload_n (pc := 14) O dX8_isChild_14 rfl ?_
    refine v_ald (k := 11) (pc := 15) O dX8_isChild_15 rfl rfl rfl rfl (by show _ < 60; omega) ?_
    refine x_iload_n (pc := 16) O dX8_isChild_16 rfl ?_
    refine x_icmp_ne (pc := 17) O 24 dX8_isChild_17 (by decide) (fun c17 => ?_) (fun c17 => ?_)
    · refine x_iconst (v := 0) (pc := 24) O dX8_isChild_24 (by decide) ?_
      exact x_ret (v := some (.int _)) (pc := 25) O dX8_isChild_25 rfl (rfl) ⟨Nat.le_refl _, Nat.le_refl _, (), congrArg (fun z => some (Value.int z)) ((b2i_f (fun q => q.elim c7 c17)).symm), fun h hh => hh⟩
    · refine x_iconst (v := 1) (pc := 20) O dX8_isChild_20 (by decide) ?_
      refine x_goto (pc := 21) O 25 dX8_isChild_21 (by decide) ?_
      exact x_ret (v := some (.int _)) (pc := 25) O dX8_isChild_25 rfl (rfl) ⟨Nat.le_refl _, Nat.le_refl _, (), congrArg (fun z => some (Value.int z)) ((b2i_t (Or.inr c17)).symm), fun h hh => hh⟩
set_option maxRecDepth 100000 in
set_option maxHeartbeats 4000000 in
theorem c_X8_sick (l : Launch) (E : En) (o : Nat) (d : Nat → Nat) (i : Nat → Int32) (a : Nat → Nat → Int32) (ch : Nat → List Rt) (p x : Int32) {m : Nat} (hm : i 22 = nI m) (h60 : m ≤ 60) : Mt l E yX8_sick cX8_sick 3 (some .boolean) (rmX 3 64 0 0) [.ref o, .int p, .int x] (RV E o d i a ch) (fun _ : Unit => some (.int (b2i (lvP i a p ∧ 0 ≤ x ∧ x ≤ 60)))) (fun _ => RV E o d i (if lvP i a p ∧ 0 ≤ x ∧ x ≤ 60 then up2 a 19 p.toNatClampNeg x else a) ch) := by
  refine Mt_of (by decide +kernel) (Nat.le_of_ble_eq_true rfl) (fun J O => ?_)
  show J _ 0 0 0 [some (.ref o), some (.int p), some (.int x)] []
  refine x_aload_n (pc := 0) O dX8_sick_0 rfl rfl ?_
  refine x_iload_n (pc := 1) O dX8_sick_1 rfl ?_
  refine x_callV (pc := 2) (rest := _) (ci := 8) O (c_X8_lives l E _ _ _ _ _ _ hm h60) dX8_sick_2 cbX8_188 im_yX8_lives se_yX8_lives rfl v_recv rfl rfl (Nat.le_of_ble_eq_true rfl) ⟨Nat.le_of_ble_eq_true rfl, Nat.le_of_ble_eq_true rfl⟩ ⟨Nat.le_of_ble_eq_true rfl, Nat.le_of_ble_eq_true rfl⟩ (fun _ => ?_)
  dsimp only [Option.toList, List.append, List.nil_append, List.cons_append, Nat.add_zero, Nat.reduceAdd]
  refine x_if_eq (pc := 5) O 18 dX8_sick_5 (by decide) (fun c5 => ?_) (fun c5 => ?_)
  · refine x_iconst (v := 0) (pc := 18) O dX8_sick_18 (by decide) ?_
    have hc9 : ¬ (lvP i a p ∧ 0 ≤ x ∧ x ≤ 60) := (fun q => b2i_z c5 q.1)
    refine x_ret (v := some (.int _)) (pc := 19) O dX8_sick_19 rfl rfl ⟨Nat.le_refl _, Nat.le_refl _, (), congrArg (fun z => some (Value.int z)) (b2i_f hc9).symm, fun h hh => ?_⟩
    (try simp only [if_neg hc9]); exact hh
  · have hp := in_nat hm (by omega) (b2i_n0 c5).1
    refine x_iload_n (pc := 8) O dX8_sick_8 rfl ?_
    refine x_iconst (v := 0) (pc := 9) O dX8_sick_9 (by decide) ?_
    refine x_bipush (v := 60) (pc := 10) O dX8_sick_10 (by decide) ?_
    refine x_callS (pc := 12) (rest := _) O (c_X8_in l E _ _ _ _) dX8_sick_12 cbX8_103 sm_yX8_in rfl rfl (Nat.le_of_ble_eq_true rfl) ⟨Nat.le_of_ble_eq_true rfl, Nat.le_of_ble_eq_true rfl⟩ ⟨Nat.le_of_ble_eq_true rfl, Nat.le_of_ble_eq_true rfl⟩ (fun _ => ?_)
    dsimp only [Option.toList, List.append, List.nil_append, List.cons_append, Nat.add_zero, Nat.reduceAdd]
    refine x_if_ne (pc := 15) O 20 dX8_sick_15 (by decide) (fun c15 => ?_) (fun c15 => ?_)
    · refine x_aload_n (pc := 20) O dX8_sick_20 rfl rfl ?_
      refine v_get (pc := 21) O dX8_sick_21 fdX8_40 rfl rfl ?_
      refine x_iload_n (pc := 24) O dX8_sick_24 rfl ?_
      refine x_iload_n (pc := 25) O dX8_sick_25 rfl ?_
      refine v_ast (k := 19) (pc := 26) O dX8_sick_26 rfl rfl rfl hp.1 (by show _ < 60; omega) ?_
      refine x_iconst (v := 1) (pc := 27) O dX8_sick_27 (by decide) ?_
      have hc9 : lvP i a p ∧ 0 ≤ x ∧ x ≤ 60 := ⟨b2i_n0 c5, b2i_n0 c15⟩
      refine x_ret (v := some (.int _)) (pc := 28) O dX8_sick_28 rfl rfl ⟨Nat.le_refl _, Nat.le_refl _, (), congrArg (fun z => some (Value.int z)) (b2i_t hc9).symm, fun h hh => ?_⟩
      (try simp only [if_pos hc9]); exact hh
    · refine x_iconst (v := 0) (pc := 18) O dX8_sick_18 (by decide) ?_
      have hc9 : ¬ (lvP i a p ∧ 0 ≤ x ∧ x ≤ 60) := (fun q => b2i_z c15 q.2)
      refine x_ret (v := some (.int _)) (pc := 19) O dX8_sick_19 rfl rfl ⟨Nat.le_refl _, Nat.le_refl _, (), congrArg (fun z => some (Value.int z)) (b2i_f hc9).symm, fun h hh => ?_⟩
      (try simp only [if_neg hc9]); exact hh
set_option maxRecDepth 100000 in
set_option maxHeartbeats 4000000 in
theorem c_X8_works (l : Launch) (E : En) (o : Nat) (d : Nat → Nat) (i : Nat → Int32) (a : Nat → Nat → Int32) (ch : Nat → List Rt) (p x s : Int32) {m : Nat} (hm : i 22 = nI m) (h60 : m ≤ 60) : Mt l E yX8_works cX8_works 4 (some .int) (rmX 2 43 0 0) [.ref o, .int p, .int x, .int s] (RV E o d i a ch) (fun _ : Unit => some (.int (if isP i p ∧ 1 ≤ x ∧ x ≤ a 15 p.toNatClampNeg then a 15 p.toNatClampNeg - x else -1))) (fun _ => RV E o d i (if isP i p ∧ 1 ≤ x ∧ x ≤ a 15 p.toNatClampNeg then (if s = 0 then up2 (up2 a 15 p.toNatClampNeg (a 15 p.toNatClampNeg - x)) 16 p.toNatClampNeg (a 16 p.toNatClampNeg + x) else up2 (up2 (up2 a 15 p.toNatClampNeg (a 15 p.toNatClampNeg - x)) 17 p.toNatClampNeg (a 17 p.toNatClampNeg + x)) 14 p.toNatClampNeg (a 14 p.toNatClampNeg + x)) else a) ch) := by
  refine Mt_of (by decide +kernel) (Nat.le_of_ble_eq_true rfl) (fun J O => ?_)
  show J _ 0 0 0 [some (.ref o), some (.int p), some (.int x), some (.int s)] []
  refine x_aload_n (pc := 0) O dX8_works_0 rfl rfl ?_
  refine x_iload_n (pc := 1) O dX8_works_1 rfl ?_
  refine x_callV (pc := 2) (rest := _) (ci := 8) O (c_X8_isPerson l E _ _ _ _ _ _) dX8_works_2 cbX8_107 im_yX8_isPerson se_yX8_isPerson rfl v_recv rfl rfl (Nat.le_of_ble_eq_true rfl) ⟨Nat.le_of_ble_eq_true rfl, Nat.le_of_ble_eq_true rfl⟩ ⟨Nat.le_of_ble_eq_true rfl, Nat.le_of_ble_eq_true rfl⟩ (fun _ => ?_)
  dsimp only [Option.toList, List.append, List.nil_append, List.cons_append, Nat.add_zero, Nat.reduceAdd]
  refine x_if_eq (pc := 5) O 22 dX8_works_5 (by decide) (fun c5 => ?_) (fun c5 => ?_)
  · refine x_iconst (v := (-1)) (pc := 22) O dX8_works_22 (by decide) ?_
    have hc9 : ¬ (isP i p ∧ 1 ≤ x ∧ x ≤ a 15 p.toNatClampNeg) := (fun q => b2i_z c5 q.1)
    refine x_ret (v := some (.int _)) (pc := 23) O dX8_works_23 rfl rfl ⟨Nat.le_refl _, Nat.le_refl _, (), congrArg (fun z => some (Value.int z)) (if_neg hc9).symm, fun h hh => ?_⟩
    (try simp only [if_neg hc9]); exact hh
  · have hp := in_nat hm (by omega) (b2i_n0 c5)
    refine x_iload_n (pc := 8) O dX8_works_8 rfl ?_
    refine x_iconst (v := 1) (pc := 9) O dX8_works_9 (by decide) ?_
    refine x_aload_n (pc := 10) O dX8_works_10 rfl rfl ?_
    refine v_get (pc := 11) O dX8_works_11 fdX8_28 rfl rfl ?_
    refine x_iload_n (pc := 14) O dX8_works_14 rfl ?_
    refine v_ald (k := 15) (pc := 15) O dX8_works_15 rfl rfl rfl hp.1 (by show _ < 60; omega) ?_
    refine x_callS (pc := 16) (rest := _) O (c_X8_in l E _ _ _ _) dX8_works_16 cbX8_103 sm_yX8_in rfl rfl (Nat.le_of_ble_eq_true rfl) ⟨Nat.le_of_ble_eq_true rfl, Nat.le_of_ble_eq_true rfl⟩ ⟨Nat.le_of_ble_eq_true rfl, Nat.le_of_ble_eq_true rfl⟩ (fun _ => ?_)
    dsimp only [Option.toList, List.append, List.nil_append, List.cons_append, Nat.add_zero, Nat.reduceAdd]
    refine x_if_ne (pc := 19) O 24 dX8_works_19 (by decide) (fun c19 => ?_) (fun c19 => ?_)
    · refine x_aload_n (pc := 24) O dX8_works_24 rfl rfl ?_
      refine v_get (pc := 25) O dX8_works_25 fdX8_28 rfl rfl ?_
      refine x_iload_n (pc := 28) O dX8_works_28 rfl ?_
      refine x_dup2 (pc := 29) O dX8_works_29 rfl rfl ?_
      refine v_ald (k := 15) (pc := 30) O dX8_works_30 rfl rfl rfl hp.1 (by show _ < 60; omega) ?_
      refine x_iload_n (pc := 31) O dX8_works_31 rfl ?_
      refine x_isub (pc := 32) O dX8_works_32 ?_
      refine v_ast (k := 15) (pc := 33) O dX8_works_33 rfl rfl rfl hp.1 (by show _ < 60; omega) ?_
      refine x_iload_n (pc := 34) O dX8_works_34 rfl ?_
      refine x_if_eq (pc := 35) O 61 dX8_works_35 (by decide) (fun c35 => ?_) (fun c35 => ?_)
      · refine x_aload_n (pc := 61) O dX8_works_61 rfl rfl ?_
        refine v_get (pc := 62) O dX8_works_62 fdX8_31 rfl rfl ?_
        refine x_iload_n (pc := 65) O dX8_works_65 rfl ?_
        refine x_dup2 (pc := 66) O dX8_works_66 rfl rfl ?_
        refine v_aldv (k := 16) (v := a 16 p.toNatClampNeg) (pc := 67) O dX8_works_67 rfl rfl rfl hp.1 (by show _ < 60; omega) (by simp [up2, upd]) ?_
        refine x_iload_n (pc := 68) O dX8_works_68 rfl ?_
        refine x_iadd (pc := 69) O dX8_works_69 ?_
        refine v_ast (k := 16) (pc := 70) O dX8_works_70 rfl rfl rfl hp.1 (by show _ < 60; omega) ?_
        refine x_aload_n (pc := 71) O dX8_works_71 rfl rfl ?_
        refine v_get (pc := 72) O dX8_works_72 fdX8_28 rfl rfl ?_
        refine x_iload_n (pc := 75) O dX8_works_75 rfl ?_
        refine v_aldv (k := 15) (v := a 15 p.toNatClampNeg - x) (pc := 76) O dX8_works_76 rfl rfl rfl hp.1 (by show _ < 60; omega) (by simp [up2, upd]) ?_
        have hc9 : isP i p ∧ 1 ≤ x ∧ x ≤ a 15 p.toNatClampNeg := ⟨b2i_n0 c5, b2i_n0 c19⟩
        refine x_ret (v := some (.int _)) (pc := 77) O dX8_works_77 rfl rfl ⟨Nat.le_refl _, Nat.le_refl _, (), congrArg (fun z => some (Value.int z)) (if_pos hc9).symm, fun h hh => ?_⟩
        (try simp only [if_pos hc9, if_pos c35]); exact hh
      · refine x_aload_n (pc := 38) O dX8_works_38 rfl rfl ?_
        refine v_get (pc := 39) O dX8_works_39 fdX8_34 rfl rfl ?_
        refine x_iload_n (pc := 42) O dX8_works_42 rfl ?_
        refine x_dup2 (pc := 43) O dX8_works_43 rfl rfl ?_
        refine v_aldv (k := 17) (v := a 17 p.toNatClampNeg) (pc := 44) O dX8_works_44 rfl rfl rfl hp.1 (by show _ < 60; omega) (by simp [up2, upd]) ?_
        refine x_iload_n (pc := 45) O dX8_works_45 rfl ?_
        refine x_iadd (pc := 46) O dX8_works_46 ?_
        refine v_ast (k := 17) (pc := 47) O dX8_works_47 rfl rfl rfl hp.1 (by show _ < 60; omega) ?_
        refine x_aload_n (pc := 48) O dX8_works_48 rfl rfl ?_
        refine v_get (pc := 49) O dX8_works_49 fdX8_25 rfl rfl ?_
        refine x_iload_n (pc := 52) O dX8_works_52 rfl ?_
        refine x_dup2 (pc := 53) O dX8_works_53 rfl rfl ?_
        refine v_aldv (k := 14) (v := a 14 p.toNatClampNeg) (pc := 54) O dX8_works_54 rfl rfl rfl hp.1 (by show _ < 60; omega) (by simp [up2, upd]) ?_
        refine x_iload_n (pc := 55) O dX8_works_55 rfl ?_
        refine x_iadd (pc := 56) O dX8_works_56 ?_
        refine v_ast (k := 14) (pc := 57) O dX8_works_57 rfl rfl rfl hp.1 (by show _ < 60; omega) ?_
        refine x_goto (pc := 58) O 71 dX8_works_58 (by decide) ?_
        refine x_aload_n (pc := 71) O dX8_works_71 rfl rfl ?_
        refine v_get (pc := 72) O dX8_works_72 fdX8_28 rfl rfl ?_
        refine x_iload_n (pc := 75) O dX8_works_75 rfl ?_
        refine v_aldv (k := 15) (v := a 15 p.toNatClampNeg - x) (pc := 76) O dX8_works_76 rfl rfl rfl hp.1 (by show _ < 60; omega) (by simp [up2, upd]) ?_
        have hc9 : isP i p ∧ 1 ≤ x ∧ x ≤ a 15 p.toNatClampNeg := ⟨b2i_n0 c5, b2i_n0 c19⟩
        refine x_ret (v := some (.int _)) (pc := 77) O dX8_works_77 rfl rfl ⟨Nat.le_refl _, Nat.le_refl _, (), congrArg (fun z => some (Value.int z)) (if_pos hc9).symm, fun h hh => ?_⟩
        (try simp only [if_pos hc9, if_neg c35]); exact hh
    · refine x_iconst (v := (-1)) (pc := 22) O dX8_works_22 (by decide) ?_
      have hc9 : ¬ (isP i p ∧ 1 ≤ x ∧ x ≤ a 15 p.toNatClampNeg) := (fun q => b2i_z c19 q.2)
      refine x_ret (v := some (.int _)) (pc := 23) O dX8_works_23 rfl rfl ⟨Nat.le_refl _, Nat.le_refl _, (), congrArg (fun z => some (Value.int z)) (if_neg hc9).symm, fun h hh => ?_⟩
      (try simp only [if_neg hc9]); exact hh
set_option maxRecDepth 100000 in
set_option maxHeartbeats 4000000 in
theorem c_X8_pay (l : Launch) (E : En) (o : Nat) (d : Nat → Nat) (i : Nat → Int32) (a : Nat → Nat → Int32) (ch : Nat → List Rt) (p x : Int32) {m : Nat} (hm : i 22 = nI m) (h60 : m ≤ 60) : Mt l E yX8_pay cX8_pay 3 (some .int) (rmX 2 43 0 0) [.ref o, .int p, .int x] (RV E o d i a ch) (fun _ : Unit => some (.int (if isP i p ∧ 1 ≤ x ∧ x ≤ a 14 p.toNatClampNeg then a 14 p.toNatClampNeg - x else -1))) (fun _ => RV E o d (if isP i p ∧ 1 ≤ x ∧ x ≤ a 14 p.toNatClampNeg then upd i 23 (i 23 + x) else i) (if isP i p ∧ 1 ≤ x ∧ x ≤ a 14 p.toNatClampNeg then up2 a 14 p.toNatClampNeg (a 14 p.toNatClampNeg - x) else a) ch) := by
  refine Mt_of (by decide +kernel) (Nat.le_of_ble_eq_true rfl) (fun J O => ?_)
  show J _ 0 0 0 [some (.ref o), some (.int p), some (.int x)] []
  refine x_aload_n (pc := 0) O dX8_pay_0 rfl rfl ?_
  refine x_iload_n (pc := 1) O dX8_pay_1 rfl ?_
  refine x_callV (pc := 2) (rest := _) (ci := 8) O (c_X8_isPerson l E _ _ _ _ _ _) dX8_pay_2 cbX8_107 im_yX8_isPerson se_yX8_isPerson rfl v_recv rfl rfl (Nat.le_of_ble_eq_true rfl) ⟨Nat.le_of_ble_eq_true rfl, Nat.le_of_ble_eq_true rfl⟩ ⟨Nat.le_of_ble_eq_true rfl, Nat.le_of_ble_eq_true rfl⟩ (fun _ => ?_)
  dsimp only [Option.toList, List.append, List.nil_append, List.cons_append, Nat.add_zero, Nat.reduceAdd]
  refine x_if_eq (pc := 5) O 22 dX8_pay_5 (by decide) (fun c5 => ?_) (fun c5 => ?_)
  · refine x_iconst (v := (-1)) (pc := 22) O dX8_pay_22 (by decide) ?_
    have hc9 : ¬ (isP i p ∧ 1 ≤ x ∧ x ≤ a 14 p.toNatClampNeg) := (fun q => b2i_z c5 q.1)
    refine x_ret (v := some (.int _)) (pc := 23) O dX8_pay_23 rfl rfl ⟨Nat.le_refl _, Nat.le_refl _, (), congrArg (fun z => some (Value.int z)) (if_neg hc9).symm, fun h hh => ?_⟩
    (try simp only [if_neg hc9]); exact hh
  · have hp := in_nat hm (by omega) (b2i_n0 c5)
    refine x_iload_n (pc := 8) O dX8_pay_8 rfl ?_
    refine x_iconst (v := 1) (pc := 9) O dX8_pay_9 (by decide) ?_
    refine x_aload_n (pc := 10) O dX8_pay_10 rfl rfl ?_
    refine v_get (pc := 11) O dX8_pay_11 fdX8_25 rfl rfl ?_
    refine x_iload_n (pc := 14) O dX8_pay_14 rfl ?_
    refine v_ald (k := 14) (pc := 15) O dX8_pay_15 rfl rfl rfl hp.1 (by show _ < 60; omega) ?_
    refine x_callS (pc := 16) (rest := _) O (c_X8_in l E _ _ _ _) dX8_pay_16 cbX8_103 sm_yX8_in rfl rfl (Nat.le_of_ble_eq_true rfl) ⟨Nat.le_of_ble_eq_true rfl, Nat.le_of_ble_eq_true rfl⟩ ⟨Nat.le_of_ble_eq_true rfl, Nat.le_of_ble_eq_true rfl⟩ (fun _ => ?_)
    dsimp only [Option.toList, List.append, List.nil_append, List.cons_append, Nat.add_zero, Nat.reduceAdd]
    refine x_if_ne (pc := 19) O 24 dX8_pay_19 (by decide) (fun c19 => ?_) (fun c19 => ?_)
    · refine x_aload_n (pc := 24) O dX8_pay_24 rfl rfl ?_
      refine v_get (pc := 25) O dX8_pay_25 fdX8_25 rfl rfl ?_
      refine x_iload_n (pc := 28) O dX8_pay_28 rfl ?_
      refine x_dup2 (pc := 29) O dX8_pay_29 rfl rfl ?_
      refine v_ald (k := 14) (pc := 30) O dX8_pay_30 rfl rfl rfl hp.1 (by show _ < 60; omega) ?_
      refine x_iload_n (pc := 31) O dX8_pay_31 rfl ?_
      refine x_isub (pc := 32) O dX8_pay_32 ?_
      refine v_ast (k := 14) (pc := 33) O dX8_pay_33 rfl rfl rfl hp.1 (by show _ < 60; omega) ?_
      refine x_aload_n (pc := 34) O dX8_pay_34 rfl rfl ?_
      refine x_dup (pc := 35) O dX8_pay_35 rfl ?_
      refine v_get (pc := 36) O dX8_pay_36 fdX8_206 rfl rfl ?_
      refine x_iload_n (pc := 39) O dX8_pay_39 rfl ?_
      refine x_iadd (pc := 40) O dX8_pay_40 ?_
      refine v_put (pc := 41) O dX8_pay_41 fpX8_206 rfl rfl ?_
      refine x_aload_n (pc := 44) O dX8_pay_44 rfl rfl ?_
      refine v_get (pc := 45) O dX8_pay_45 fdX8_25 rfl rfl ?_
      refine x_iload_n (pc := 48) O dX8_pay_48 rfl ?_
      refine v_aldv (k := 14) (v := a 14 p.toNatClampNeg - x) (pc := 49) O dX8_pay_49 rfl rfl rfl hp.1 (by show _ < 60; omega) (by simp [up2, upd]) ?_
      have hc9 : isP i p ∧ 1 ≤ x ∧ x ≤ a 14 p.toNatClampNeg := ⟨b2i_n0 c5, b2i_n0 c19⟩
      refine x_ret (v := some (.int _)) (pc := 50) O dX8_pay_50 rfl rfl ⟨Nat.le_refl _, Nat.le_refl _, (), congrArg (fun z => some (Value.int z)) (if_pos hc9).symm, fun h hh => ?_⟩
      (try simp only [if_pos hc9]); exact hh
    · refine x_iconst (v := (-1)) (pc := 22) O dX8_pay_22 (by decide) ?_
      have hc9 : ¬ (isP i p ∧ 1 ≤ x ∧ x ≤ a 14 p.toNatClampNeg) := (fun q => b2i_z c19 q.2)
      refine x_ret (v := some (.int _)) (pc := 23) O dX8_pay_23 rfl rfl ⟨Nat.le_refl _, Nat.le_refl _, (), congrArg (fun z => some (Value.int z)) (if_neg hc9).symm, fun h hh => ?_⟩
      (try simp only [if_neg hc9]); exact hh
def rem (x y : Int32) : Int32 := x - x / y * y
set_option maxRecDepth 100000 in
set_option maxHeartbeats 4000000 in
theorem c_X8_custom (l : Launch) (E : En) (o : Nat) (d : Nat → Nat) (i : Nat → Int32) (a : Nat → Nat → Int32) (ch : Nat → List Rt) (what dues : Int32)  : Mt l E yX8_custom cX8_custom 7 (some .int) (rmX 1 22 0 0) [.ref o, .int what, .int dues] (RV E o d i a ch) (fun _ : Unit => some (.int (if what < 0 ∨ ¬ rem what 10 = 0 ∨ 2 < what / 100000 ∨ 12 < rem (what / 1000) 100 ∨ 3 < rem (what / 100) 10 ∨ 3 < rem (what / 10) 10 ∨ ¬ (0 ≤ dues ∧ dues ≤ 999999) then -1 else i 7 + 1))) (fun _ => RV E o d (if what < 0 ∨ ¬ rem what 10 = 0 ∨ 2 < what / 100000 ∨ 12 < rem (what / 1000) 100 ∨ 3 < rem (what / 100) 10 ∨ 3 < rem (what / 10) 10 ∨ ¬ (0 ≤ dues ∧ dues ≤ 999999) then i else upd (upd (upd (upd (upd (upd (upd (upd i 0 (what / 100000)) 1 (rem (what / 1000) 100)) 5 (rem (what / 100) 10)) 6 (rem (what / 10) 10)) 2 (dues / 10000)) 3 (rem (dues / 100) 100)) 4 (rem dues 100)) 7 (i 7 + 1)) a ch) := by
  refine Mt_of (by decide +kernel) (Nat.le_of_ble_eq_true rfl) (fun J O => ?_)
  show J _ 0 0 0 [some (.ref o), some (.int what), some (.int dues), none, none, none, none] []
  refine x_iload_n (pc := 0) O dX8_custom_0 rfl ?_
  refine x_ldc (pc := 1) O dX8_custom_1 cnX8_128 ?_
  refine x_idiv (pc := 3) O dX8_custom_3 (by decide) ?_
  refine x_istore_n (pc := 4) O dX8_custom_4 (by decide) rfl ?_
  refine x_iload_n (pc := 5) O dX8_custom_5 rfl ?_
  refine x_sipush (v := 1000) (pc := 6) O dX8_custom_6 (by decide) ?_
  refine x_idiv (pc := 9) O dX8_custom_9 (by decide) ?_
  refine x_bipush (v := 100) (pc := 10) O dX8_custom_10 (by decide) ?_
  refine x_irem (pc := 12) O dX8_custom_12 (by decide) ?_
  refine x_istore (pc := 13) O dX8_custom_13 (by decide) rfl ?_
  refine x_iload_n (pc := 15) O dX8_custom_15 rfl ?_
  refine x_bipush (v := 100) (pc := 16) O dX8_custom_16 (by decide) ?_
  refine x_idiv (pc := 18) O dX8_custom_18 (by decide) ?_
  refine x_bipush (v := 10) (pc := 19) O dX8_custom_19 (by decide) ?_
  refine x_irem (pc := 21) O dX8_custom_21 (by decide) ?_
  refine x_istore (pc := 22) O dX8_custom_22 (by decide) rfl ?_
  refine x_iload_n (pc := 24) O dX8_custom_24 rfl ?_
  refine x_bipush (v := 10) (pc := 25) O dX8_custom_25 (by decide) ?_
  refine x_idiv (pc := 27) O dX8_custom_27 (by decide) ?_
  refine x_bipush (v := 10) (pc := 28) O dX8_custom_28 (by decide) ?_
  refine x_irem (pc := 30) O dX8_custom_30 (by decide) ?_
  refine x_istore (pc := 31) O dX8_custom_31 (by decide) rfl ?_
  refine x_iload_n (pc := 33) O dX8_custom_33 rfl ?_
  refine x_if_lt (pc := 34) O 78 dX8_custom_34 (by decide) (fun c34 => ?_) (fun c34 => ?_)
  · refine x_iconst (v := (-1)) (pc := 78) O dX8_custom_78 (by decide) ?_
    have hc9 : what < 0 ∨ ¬ rem what 10 = 0 ∨ 2 < what / 100000 ∨ 12 < rem (what / 1000) 100 ∨ 3 < rem (what / 100) 10 ∨ 3 < rem (what / 10) 10 ∨ ¬ (0 ≤ dues ∧ dues ≤ 999999) := Or.inl c34
    refine x_ret (v := some (.int _)) (pc := 79) O dX8_custom_79 rfl rfl ⟨Nat.le_refl _, Nat.le_refl _, (), congrArg (fun z => some (Value.int z)) (if_pos hc9).symm, fun h hh => ?_⟩
    (try simp only [if_pos hc9]); exact hh
  · refine x_iload_n (pc := 37) O dX8_custom_37 rfl ?_
    refine x_bipush (v := 10) (pc := 38) O dX8_custom_38 (by decide) ?_
    refine x_irem (pc := 40) O dX8_custom_40 (by decide) ?_
    refine x_if_ne (pc := 41) O 78 dX8_custom_41 (by decide) (fun c41 => ?_) (fun c41 => ?_)
    · refine x_iconst (v := (-1)) (pc := 78) O dX8_custom_78 (by decide) ?_
      have hc9 : what < 0 ∨ ¬ rem what 10 = 0 ∨ 2 < what / 100000 ∨ 12 < rem (what / 1000) 100 ∨ 3 < rem (what / 100) 10 ∨ 3 < rem (what / 10) 10 ∨ ¬ (0 ≤ dues ∧ dues ≤ 999999) := Or.inr (Or.inl c41)
      refine x_ret (v := some (.int _)) (pc := 79) O dX8_custom_79 rfl rfl ⟨Nat.le_refl _, Nat.le_refl _, (), congrArg (fun z => some (Value.int z)) (if_pos hc9).symm, fun h hh => ?_⟩
      (try simp only [if_pos hc9]); exact hh
    · refine x_iload_n (pc := 44) O dX8_custom_44 rfl ?_
      refine x_iconst (v := 2) (pc := 45) O dX8_custom_45 (by decide) ?_
      refine x_icmp_gt (pc := 46) O 78 dX8_custom_46 (by decide) (fun c46 => ?_) (fun c46 => ?_)
      · refine x_iconst (v := (-1)) (pc := 78) O dX8_custom_78 (by decide) ?_
        have hc9 : what < 0 ∨ ¬ rem what 10 = 0 ∨ 2 < what / 100000 ∨ 12 < rem (what / 1000) 100 ∨ 3 < rem (what / 100) 10 ∨ 3 < rem (what / 10) 10 ∨ ¬ (0 ≤ dues ∧ dues ≤ 999999) := Or.inr (Or.inr (Or.inl c46))
        refine x_ret (v := some (.int _)) (pc := 79) O dX8_custom_79 rfl rfl ⟨Nat.le_refl _, Nat.le_refl _, (), congrArg (fun z => some (Value.int z)) (if_pos hc9).symm, fun h hh => ?_⟩
        (try simp only [if_pos hc9]); exact hh
      · refine x_iload (pc := 49) O dX8_custom_49 rfl ?_
        refine x_bipush (v := 12) (pc := 51) O dX8_custom_51 (by decide) ?_
        refine x_icmp_gt (pc := 53) O 78 dX8_custom_53 (by decide) (fun c53 => ?_) (fun c53 => ?_)
        · refine x_iconst (v := (-1)) (pc := 78) O dX8_custom_78 (by decide) ?_
          have hc9 : what < 0 ∨ ¬ rem what 10 = 0 ∨ 2 < what / 100000 ∨ 12 < rem (what / 1000) 100 ∨ 3 < rem (what / 100) 10 ∨ 3 < rem (what / 10) 10 ∨ ¬ (0 ≤ dues ∧ dues ≤ 999999) := Or.inr (Or.inr (Or.inr (Or.inl c53)))
          refine x_ret (v := some (.int _)) (pc := 79) O dX8_custom_79 rfl rfl ⟨Nat.le_refl _, Nat.le_refl _, (), congrArg (fun z => some (Value.int z)) (if_pos hc9).symm, fun h hh => ?_⟩
          (try simp only [if_pos hc9]); exact hh
        · refine x_iload (pc := 56) O dX8_custom_56 rfl ?_
          refine x_iconst (v := 3) (pc := 58) O dX8_custom_58 (by decide) ?_
          refine x_icmp_gt (pc := 59) O 78 dX8_custom_59 (by decide) (fun c59 => ?_) (fun c59 => ?_)
          · refine x_iconst (v := (-1)) (pc := 78) O dX8_custom_78 (by decide) ?_
            have hc9 : what < 0 ∨ ¬ rem what 10 = 0 ∨ 2 < what / 100000 ∨ 12 < rem (what / 1000) 100 ∨ 3 < rem (what / 100) 10 ∨ 3 < rem (what / 10) 10 ∨ ¬ (0 ≤ dues ∧ dues ≤ 999999) := Or.inr (Or.inr (Or.inr (Or.inr (Or.inl c59))))
            refine x_ret (v := some (.int _)) (pc := 79) O dX8_custom_79 rfl rfl ⟨Nat.le_refl _, Nat.le_refl _, (), congrArg (fun z => some (Value.int z)) (if_pos hc9).symm, fun h hh => ?_⟩
            (try simp only [if_pos hc9]); exact hh
          · refine x_iload (pc := 62) O dX8_custom_62 rfl ?_
            refine x_iconst (v := 3) (pc := 64) O dX8_custom_64 (by decide) ?_
            refine x_icmp_gt (pc := 65) O 78 dX8_custom_65 (by decide) (fun c65 => ?_) (fun c65 => ?_)
            · refine x_iconst (v := (-1)) (pc := 78) O dX8_custom_78 (by decide) ?_
              have hc9 : what < 0 ∨ ¬ rem what 10 = 0 ∨ 2 < what / 100000 ∨ 12 < rem (what / 1000) 100 ∨ 3 < rem (what / 100) 10 ∨ 3 < rem (what / 10) 10 ∨ ¬ (0 ≤ dues ∧ dues ≤ 999999) := Or.inr (Or.inr (Or.inr (Or.inr (Or.inr (Or.inl c65)))))
              refine x_ret (v := some (.int _)) (pc := 79) O dX8_custom_79 rfl rfl ⟨Nat.le_refl _, Nat.le_refl _, (), congrArg (fun z => some (Value.int z)) (if_pos hc9).symm, fun h hh => ?_⟩
              (try simp only [if_pos hc9]); exact hh
            · refine x_iload_n (pc := 68) O dX8_custom_68 rfl ?_
              refine x_iconst (v := 0) (pc := 69) O dX8_custom_69 (by decide) ?_
              refine x_ldc (pc := 70) O dX8_custom_70 cnX8_129 ?_
              refine x_callS (pc := 72) (rest := _) O (c_X8_in l E _ _ _ _) dX8_custom_72 cbX8_103 sm_yX8_in rfl rfl (Nat.le_of_ble_eq_true rfl) ⟨Nat.le_of_ble_eq_true rfl, Nat.le_of_ble_eq_true rfl⟩ ⟨Nat.le_of_ble_eq_true rfl, Nat.le_of_ble_eq_true rfl⟩ (fun _ => ?_)
              dsimp only [Option.toList, List.append, List.nil_append, List.cons_append, Nat.add_zero, Nat.reduceAdd]
              refine x_if_ne (pc := 75) O 80 dX8_custom_75 (by decide) (fun c75 => ?_) (fun c75 => ?_)
              · refine x_aload_n (pc := 80) O dX8_custom_80 rfl rfl ?_
                refine x_iload_n (pc := 81) O dX8_custom_81 rfl ?_
                refine v_put (pc := 82) O dX8_custom_82 fpX8_130 rfl rfl ?_
                refine x_aload_n (pc := 85) O dX8_custom_85 rfl rfl ?_
                refine x_iload (pc := 86) O dX8_custom_86 rfl ?_
                refine v_put (pc := 88) O dX8_custom_88 fpX8_133 rfl rfl ?_
                refine x_aload_n (pc := 91) O dX8_custom_91 rfl rfl ?_
                refine x_iload (pc := 92) O dX8_custom_92 rfl ?_
                refine v_put (pc := 94) O dX8_custom_94 fpX8_136 rfl rfl ?_
                refine x_aload_n (pc := 97) O dX8_custom_97 rfl rfl ?_
                refine x_iload (pc := 98) O dX8_custom_98 rfl ?_
                refine v_put (pc := 100) O dX8_custom_100 fpX8_139 rfl rfl ?_
                refine x_aload_n (pc := 103) O dX8_custom_103 rfl rfl ?_
                refine x_iload_n (pc := 104) O dX8_custom_104 rfl ?_
                refine x_sipush (v := 10000) (pc := 105) O dX8_custom_105 (by decide) ?_
                refine x_idiv (pc := 108) O dX8_custom_108 (by decide) ?_
                refine v_put (pc := 109) O dX8_custom_109 fpX8_142 rfl rfl ?_
                refine x_aload_n (pc := 112) O dX8_custom_112 rfl rfl ?_
                refine x_iload_n (pc := 113) O dX8_custom_113 rfl ?_
                refine x_bipush (v := 100) (pc := 114) O dX8_custom_114 (by decide) ?_
                refine x_idiv (pc := 116) O dX8_custom_116 (by decide) ?_
                refine x_bipush (v := 100) (pc := 117) O dX8_custom_117 (by decide) ?_
                refine x_irem (pc := 119) O dX8_custom_119 (by decide) ?_
                refine v_put (pc := 120) O dX8_custom_120 fpX8_145 rfl rfl ?_
                refine x_aload_n (pc := 123) O dX8_custom_123 rfl rfl ?_
                refine x_iload_n (pc := 124) O dX8_custom_124 rfl ?_
                refine x_bipush (v := 100) (pc := 125) O dX8_custom_125 (by decide) ?_
                refine x_irem (pc := 127) O dX8_custom_127 (by decide) ?_
                refine v_put (pc := 128) O dX8_custom_128 fpX8_148 rfl rfl ?_
                refine x_aload_n (pc := 131) O dX8_custom_131 rfl rfl ?_
                refine x_dup (pc := 132) O dX8_custom_132 rfl ?_
                refine v_get (pc := 133) O dX8_custom_133 fdX8_151 rfl rfl ?_
                refine x_iconst (v := 1) (pc := 136) O dX8_custom_136 (by decide) ?_
                refine x_iadd (pc := 137) O dX8_custom_137 ?_
                refine v_put (pc := 138) O dX8_custom_138 fpX8_151 rfl rfl ?_
                refine x_aload_n (pc := 141) O dX8_custom_141 rfl rfl ?_
                refine v_get (pc := 142) O dX8_custom_142 fdX8_151 rfl rfl ?_
                have hc9 : ¬ (what < 0 ∨ ¬ rem what 10 = 0 ∨ 2 < what / 100000 ∨ 12 < rem (what / 1000) 100 ∨ 3 < rem (what / 100) 10 ∨ 3 < rem (what / 10) 10 ∨ ¬ (0 ≤ dues ∧ dues ≤ 999999)) := fun q => by rcases q with q | q | q | q | q | q | q <;> first | exact c34 q | exact q c41 | exact c46 q | exact c53 q | exact c59 q | exact c65 q | exact q (b2i_n0 c75)
                refine x_ret (v := some (.int _)) (pc := 145) O dX8_custom_145 rfl rfl ⟨Nat.le_refl _, Nat.le_refl _, (), congrArg (fun z => some (Value.int z)) (if_neg hc9).symm, fun h hh => ?_⟩
                (try simp only [if_neg hc9]); exact hh
              · refine x_iconst (v := (-1)) (pc := 78) O dX8_custom_78 (by decide) ?_
                have hc9 : what < 0 ∨ ¬ rem what 10 = 0 ∨ 2 < what / 100000 ∨ 12 < rem (what / 1000) 100 ∨ 3 < rem (what / 100) 10 ∨ 3 < rem (what / 10) 10 ∨ ¬ (0 ≤ dues ∧ dues ≤ 999999) := Or.inr (Or.inr (Or.inr (Or.inr (Or.inr (Or.inr (b2i_z c75))))))
                refine x_ret (v := some (.int _)) (pc := 79) O dX8_custom_79 rfl rfl ⟨Nat.le_refl _, Nat.le_refl _, (), congrArg (fun z => some (Value.int z)) (if_pos hc9).symm, fun h hh => ?_⟩
                (try simp only [if_pos hc9]); exact hh
set_option maxRecDepth 100000 in
set_option maxHeartbeats 4000000 in
theorem c_X8_person (l : Launch) (E : En) (o : Nat) (d : Nat → Nat) (i : Nat → Int32) (a : Nat → Nat → Int32) (ch : Nat → List Rt) (sx f g : Int32) {m : Nat} (hm : i 22 = nI m) (h60 : m ≤ 60) : Mt l E yX8_person cX8_person 4 (some .int) (rmX 2 43 0 0) [.ref o, .int sx, .int f, .int g] (RV E o d i a ch) (fun _ : Unit => some (.int (if (0 ≤ sx ∧ sx ≤ 1) ∧ (f = -1 ∨ isP i f ∧ a 9 f.toNatClampNeg = 0) ∧ (g = -1 ∨ isP i g ∧ a 9 g.toNatClampNeg = 1) ∧ ¬ i 22 = 60 then i 22 else -1))) (fun _ => RV E o d (if (0 ≤ sx ∧ sx ≤ 1) ∧ (f = -1 ∨ isP i f ∧ a 9 f.toNatClampNeg = 0) ∧ (g = -1 ∨ isP i g ∧ a 9 g.toNatClampNeg = 1) ∧ ¬ i 22 = 60 then upd i 22 (i 22 + 1) else i) (if (0 ≤ sx ∧ sx ≤ 1) ∧ (f = -1 ∨ isP i f ∧ a 9 f.toNatClampNeg = 0) ∧ (g = -1 ∨ isP i g ∧ a 9 g.toNatClampNeg = 1) ∧ ¬ i 22 = 60 then up2 (up2 (up2 (up2 (up2 (up2 a 9 m sx) 10 m f) 11 m g) 12 m (-1)) 13 m (i 8)) 20 m 1 else a) ch) := by
  refine Mt_of (by decide +kernel) (Nat.le_of_ble_eq_true rfl) (fun J O => ?_)
  show J _ 0 0 0 [some (.ref o), some (.int sx), some (.int f), some (.int g)] []
  refine x_iload_n (pc := 0) O dX8_person_0 rfl ?_
  refine x_iconst (v := 0) (pc := 1) O dX8_person_1 (by decide) ?_
  refine x_iconst (v := 1) (pc := 2) O dX8_person_2 (by decide) ?_
  refine x_callS (pc := 3) (rest := _) O (c_X8_in l E _ _ _ _) dX8_person_3 cbX8_103 sm_yX8_in rfl rfl (Nat.le_of_ble_eq_true rfl) ⟨Nat.le_of_ble_eq_true rfl, Nat.le_of_ble_eq_true rfl⟩ ⟨Nat.le_of_ble_eq_true rfl, Nat.le_of_ble_eq_true rfl⟩ (fun _ => ?_)
  dsimp only [Option.toList, List.append, List.nil_append, List.cons_append, Nat.add_zero, Nat.reduceAdd]
  refine x_if_eq (pc := 6) O 63 dX8_person_6 (by decide) (fun c6 => ?_) (fun c6 => ?_)
  · refine x_iconst (v := (-1)) (pc := 63) O dX8_person_63 (by decide) ?_
    have hc9 : ¬ ((0 ≤ sx ∧ sx ≤ 1) ∧ (f = -1 ∨ isP i f ∧ a 9 f.toNatClampNeg = 0) ∧ (g = -1 ∨ isP i g ∧ a 9 g.toNatClampNeg = 1) ∧ ¬ i 22 = 60) := fun q => b2i_z c6 q.1
    refine x_ret (v := some (.int _)) (pc := 64) O dX8_person_64 rfl rfl ⟨Nat.le_refl _, Nat.le_refl _, (), congrArg (fun z => some (Value.int z)) (if_neg hc9).symm, fun h hh => ?_⟩
    (try simp only [if_neg hc9]); exact hh
  · refine x_iload_n (pc := 9) O dX8_person_9 rfl ?_
    refine x_iconst (v := (-1)) (pc := 10) O dX8_person_10 (by decide) ?_
    refine x_icmp_eq (pc := 11) O 31 dX8_person_11 (by decide) (fun c11 => ?_) (fun c11 => ?_)
    · refine x_iload_n (pc := 31) O dX8_person_31 rfl ?_
      refine x_iconst (v := (-1)) (pc := 32) O dX8_person_32 (by decide) ?_
      refine x_icmp_eq (pc := 33) O 54 dX8_person_33 (by decide) (fun c33 => ?_) (fun c33 => ?_)
      · refine x_aload_n (pc := 54) O dX8_person_54 rfl rfl ?_
        refine v_get (pc := 55) O dX8_person_55 fdX8_99 rfl rfl ?_
        refine x_bipush (v := 60) (pc := 58) O dX8_person_58 (by decide) ?_
        refine x_icmp_ne (pc := 60) O 65 dX8_person_60 (by decide) (fun c60 => ?_) (fun c60 => ?_)
        · have hm60 : m < 60 := by
            rcases Nat.lt_or_ge m 60 with q | q
            · exact q
            · exact absurd (by rw [hm, show m = 60 by omega]; rfl) c60
          refine x_aload_n (pc := 65) O dX8_person_65 rfl rfl ?_
          refine v_get (pc := 66) O dX8_person_66 fdX8_9 rfl rfl ?_
          refine x_aload_n (pc := 69) O dX8_person_69 rfl rfl ?_
          refine v_get (pc := 70) O dX8_person_70 fdX8_99 rfl rfl ?_
          refine x_iload_n (pc := 73) O dX8_person_73 rfl ?_
          refine v_ast (k := 9) (pc := 74) O dX8_person_74 rfl rfl rfl hm (by show _ < 60; omega) ?_
          refine x_aload_n (pc := 75) O dX8_person_75 rfl rfl ?_
          refine v_get (pc := 76) O dX8_person_76 fdX8_13 rfl rfl ?_
          refine x_aload_n (pc := 79) O dX8_person_79 rfl rfl ?_
          refine v_get (pc := 80) O dX8_person_80 fdX8_99 rfl rfl ?_
          refine x_iload_n (pc := 83) O dX8_person_83 rfl ?_
          refine v_ast (k := 10) (pc := 84) O dX8_person_84 rfl rfl rfl hm (by show _ < 60; omega) ?_
          refine x_aload_n (pc := 85) O dX8_person_85 rfl rfl ?_
          refine v_get (pc := 86) O dX8_person_86 fdX8_16 rfl rfl ?_
          refine x_aload_n (pc := 89) O dX8_person_89 rfl rfl ?_
          refine v_get (pc := 90) O dX8_person_90 fdX8_99 rfl rfl ?_
          refine x_iload_n (pc := 93) O dX8_person_93 rfl ?_
          refine v_ast (k := 11) (pc := 94) O dX8_person_94 rfl rfl rfl hm (by show _ < 60; omega) ?_
          refine x_aload_n (pc := 95) O dX8_person_95 rfl rfl ?_
          refine v_get (pc := 96) O dX8_person_96 fdX8_19 rfl rfl ?_
          refine x_aload_n (pc := 99) O dX8_person_99 rfl rfl ?_
          refine v_get (pc := 100) O dX8_person_100 fdX8_99 rfl rfl ?_
          refine x_iconst (v := (-1)) (pc := 103) O dX8_person_103 (by decide) ?_
          refine v_ast (k := 12) (pc := 104) O dX8_person_104 rfl rfl rfl hm (by show _ < 60; omega) ?_
          refine x_aload_n (pc := 105) O dX8_person_105 rfl rfl ?_
          refine v_get (pc := 106) O dX8_person_106 fdX8_22 rfl rfl ?_
          refine x_aload_n (pc := 109) O dX8_person_109 rfl rfl ?_
          refine v_get (pc := 110) O dX8_person_110 fdX8_99 rfl rfl ?_
          refine x_aload_n (pc := 113) O dX8_person_113 rfl rfl ?_
          refine v_get (pc := 114) O dX8_person_114 fdX8_118 rfl rfl ?_
          refine v_ast (k := 13) (pc := 117) O dX8_person_117 rfl rfl rfl hm (by show _ < 60; omega) ?_
          refine x_aload_n (pc := 118) O dX8_person_118 rfl rfl ?_
          refine v_get (pc := 119) O dX8_person_119 fdX8_43 rfl rfl ?_
          refine x_aload_n (pc := 122) O dX8_person_122 rfl rfl ?_
          refine v_get (pc := 123) O dX8_person_123 fdX8_99 rfl rfl ?_
          refine x_iconst (v := 1) (pc := 126) O dX8_person_126 (by decide) ?_
          refine v_zst (k := 20) (pc := 127) O dX8_person_127 rfl hm (by omega) rfl ?_
          refine x_aload_n (pc := 128) O dX8_person_128 rfl rfl ?_
          refine x_dup (pc := 129) O dX8_person_129 rfl ?_
          refine v_get (pc := 130) O dX8_person_130 fdX8_99 rfl rfl ?_
          refine x_iconst (v := 1) (pc := 133) O dX8_person_133 (by decide) ?_
          refine x_iadd (pc := 134) O dX8_person_134 ?_
          refine v_put (pc := 135) O dX8_person_135 fpX8_99 rfl rfl ?_
          refine x_aload_n (pc := 138) O dX8_person_138 rfl rfl ?_
          refine v_get (pc := 139) O dX8_person_139 fdX8_99 rfl rfl ?_
          rw [upd_eq]
          refine x_iconst (v := 1) (pc := 142) O dX8_person_142 (by decide) ?_
          refine x_isub (pc := 143) O dX8_person_143 ?_
          rw [show i 22 + 1 - 1 = i 22 by rw [hm, show nI m + 1 = nI (m + 1) from (nI_succ m).symm, show (1 : Int32) = 1 from rfl, nI_pred]]
          have hc9 : (0 ≤ sx ∧ sx ≤ 1) ∧ (f = -1 ∨ isP i f ∧ a 9 f.toNatClampNeg = 0) ∧ (g = -1 ∨ isP i g ∧ a 9 g.toNatClampNeg = 1) ∧ ¬ i 22 = 60 := ⟨b2i_n0 c6, Or.inl c11, Or.inl c33, c60⟩
          refine x_ret (v := some (.int _)) (pc := 144) O dX8_person_144 rfl rfl ⟨Nat.le_refl _, Nat.le_refl _, (), congrArg (fun z => some (Value.int z)) (if_pos hc9).symm, fun h hh => ?_⟩
          (try simp only [if_pos hc9]); exact hh
        · refine x_iconst (v := (-1)) (pc := 63) O dX8_person_63 (by decide) ?_
          have hc9 : ¬ ((0 ≤ sx ∧ sx ≤ 1) ∧ (f = -1 ∨ isP i f ∧ a 9 f.toNatClampNeg = 0) ∧ (g = -1 ∨ isP i g ∧ a 9 g.toNatClampNeg = 1) ∧ ¬ i 22 = 60) := fun q => q.2.2.2 c60
          refine x_ret (v := some (.int _)) (pc := 64) O dX8_person_64 rfl rfl ⟨Nat.le_refl _, Nat.le_refl _, (), congrArg (fun z => some (Value.int z)) (if_neg hc9).symm, fun h hh => ?_⟩
          (try simp only [if_neg hc9]); exact hh
      · refine x_aload_n (pc := 36) O dX8_person_36 rfl rfl ?_
        refine x_iload_n (pc := 37) O dX8_person_37 rfl ?_
        refine x_callV (pc := 38) (rest := _) (ci := 8) O (c_X8_isPerson l E _ _ _ _ _ _) dX8_person_38 cbX8_107 im_yX8_isPerson se_yX8_isPerson rfl v_recv rfl rfl (Nat.le_of_ble_eq_true rfl) ⟨Nat.le_of_ble_eq_true rfl, Nat.le_of_ble_eq_true rfl⟩ ⟨Nat.le_of_ble_eq_true rfl, Nat.le_of_ble_eq_true rfl⟩ (fun _ => ?_)
        dsimp only [Option.toList, List.append, List.nil_append, List.cons_append, Nat.add_zero, Nat.reduceAdd]
        refine x_if_eq (pc := 41) O 63 dX8_person_41 (by decide) (fun c41 => ?_) (fun c41 => ?_)
        · refine x_iconst (v := (-1)) (pc := 63) O dX8_person_63 (by decide) ?_
          have hc9 : ¬ ((0 ≤ sx ∧ sx ≤ 1) ∧ (f = -1 ∨ isP i f ∧ a 9 f.toNatClampNeg = 0) ∧ (g = -1 ∨ isP i g ∧ a 9 g.toNatClampNeg = 1) ∧ ¬ i 22 = 60) := fun q => q.2.2.1.elim c33 (fun z => b2i_z c41 z.1)
          refine x_ret (v := some (.int _)) (pc := 64) O dX8_person_64 rfl rfl ⟨Nat.le_refl _, Nat.le_refl _, (), congrArg (fun z => some (Value.int z)) (if_neg hc9).symm, fun h hh => ?_⟩
          (try simp only [if_neg hc9]); exact hh
        · have hg := in_nat hm (by omega) (b2i_n0 c41)
          refine x_aload_n (pc := 44) O dX8_person_44 rfl rfl ?_
          refine v_get (pc := 45) O dX8_person_45 fdX8_9 rfl rfl ?_
          refine x_iload_n (pc := 48) O dX8_person_48 rfl ?_
          refine v_ald (k := 9) (pc := 49) O dX8_person_49 rfl rfl rfl hg.1 (by show _ < 60; omega) ?_
          refine x_iconst (v := 1) (pc := 50) O dX8_person_50 (by decide) ?_
          refine x_icmp_ne (pc := 51) O 63 dX8_person_51 (by decide) (fun c51 => ?_) (fun c51 => ?_)
          · refine x_iconst (v := (-1)) (pc := 63) O dX8_person_63 (by decide) ?_
            have hc9 : ¬ ((0 ≤ sx ∧ sx ≤ 1) ∧ (f = -1 ∨ isP i f ∧ a 9 f.toNatClampNeg = 0) ∧ (g = -1 ∨ isP i g ∧ a 9 g.toNatClampNeg = 1) ∧ ¬ i 22 = 60) := fun q => q.2.2.1.elim c33 (fun z => c51 z.2)
            refine x_ret (v := some (.int _)) (pc := 64) O dX8_person_64 rfl rfl ⟨Nat.le_refl _, Nat.le_refl _, (), congrArg (fun z => some (Value.int z)) (if_neg hc9).symm, fun h hh => ?_⟩
            (try simp only [if_neg hc9]); exact hh
          · refine x_aload_n (pc := 54) O dX8_person_54 rfl rfl ?_
            refine v_get (pc := 55) O dX8_person_55 fdX8_99 rfl rfl ?_
            refine x_bipush (v := 60) (pc := 58) O dX8_person_58 (by decide) ?_
            refine x_icmp_ne (pc := 60) O 65 dX8_person_60 (by decide) (fun c60 => ?_) (fun c60 => ?_)
            · have hm60 : m < 60 := by
                rcases Nat.lt_or_ge m 60 with q | q
                · exact q
                · exact absurd (by rw [hm, show m = 60 by omega]; rfl) c60
              refine x_aload_n (pc := 65) O dX8_person_65 rfl rfl ?_
              refine v_get (pc := 66) O dX8_person_66 fdX8_9 rfl rfl ?_
              refine x_aload_n (pc := 69) O dX8_person_69 rfl rfl ?_
              refine v_get (pc := 70) O dX8_person_70 fdX8_99 rfl rfl ?_
              refine x_iload_n (pc := 73) O dX8_person_73 rfl ?_
              refine v_ast (k := 9) (pc := 74) O dX8_person_74 rfl rfl rfl hm (by show _ < 60; omega) ?_
              refine x_aload_n (pc := 75) O dX8_person_75 rfl rfl ?_
              refine v_get (pc := 76) O dX8_person_76 fdX8_13 rfl rfl ?_
              refine x_aload_n (pc := 79) O dX8_person_79 rfl rfl ?_
              refine v_get (pc := 80) O dX8_person_80 fdX8_99 rfl rfl ?_
              refine x_iload_n (pc := 83) O dX8_person_83 rfl ?_
              refine v_ast (k := 10) (pc := 84) O dX8_person_84 rfl rfl rfl hm (by show _ < 60; omega) ?_
              refine x_aload_n (pc := 85) O dX8_person_85 rfl rfl ?_
              refine v_get (pc := 86) O dX8_person_86 fdX8_16 rfl rfl ?_
              refine x_aload_n (pc := 89) O dX8_person_89 rfl rfl ?_
              refine v_get (pc := 90) O dX8_person_90 fdX8_99 rfl rfl ?_
              refine x_iload_n (pc := 93) O dX8_person_93 rfl ?_
              refine v_ast (k := 11) (pc := 94) O dX8_person_94 rfl rfl rfl hm (by show _ < 60; omega) ?_
              refine x_aload_n (pc := 95) O dX8_person_95 rfl rfl ?_
              refine v_get (pc := 96) O dX8_person_96 fdX8_19 rfl rfl ?_
              refine x_aload_n (pc := 99) O dX8_person_99 rfl rfl ?_
              refine v_get (pc := 100) O dX8_person_100 fdX8_99 rfl rfl ?_
              refine x_iconst (v := (-1)) (pc := 103) O dX8_person_103 (by decide) ?_
              refine v_ast (k := 12) (pc := 104) O dX8_person_104 rfl rfl rfl hm (by show _ < 60; omega) ?_
              refine x_aload_n (pc := 105) O dX8_person_105 rfl rfl ?_
              refine v_get (pc := 106) O dX8_person_106 fdX8_22 rfl rfl ?_
              refine x_aload_n (pc := 109) O dX8_person_109 rfl rfl ?_
              refine v_get (pc := 110) O dX8_person_110 fdX8_99 rfl rfl ?_
              refine x_aload_n (pc := 113) O dX8_person_113 rfl rfl ?_
              refine v_get (pc := 114) O dX8_person_114 fdX8_118 rfl rfl ?_
              refine v_ast (k := 13) (pc := 117) O dX8_person_117 rfl rfl rfl hm (by show _ < 60; omega) ?_
              refine x_aload_n (pc := 118) O dX8_person_118 rfl rfl ?_
              refine v_get (pc := 119) O dX8_person_119 fdX8_43 rfl rfl ?_
              refine x_aload_n (pc := 122) O dX8_person_122 rfl rfl ?_
              refine v_get (pc := 123) O dX8_person_123 fdX8_99 rfl rfl ?_
              refine x_iconst (v := 1) (pc := 126) O dX8_person_126 (by decide) ?_
              refine v_zst (k := 20) (pc := 127) O dX8_person_127 rfl hm (by omega) rfl ?_
              refine x_aload_n (pc := 128) O dX8_person_128 rfl rfl ?_
              refine x_dup (pc := 129) O dX8_person_129 rfl ?_
              refine v_get (pc := 130) O dX8_person_130 fdX8_99 rfl rfl ?_
              refine x_iconst (v := 1) (pc := 133) O dX8_person_133 (by decide) ?_
              refine x_iadd (pc := 134) O dX8_person_134 ?_
              refine v_put (pc := 135) O dX8_person_135 fpX8_99 rfl rfl ?_
              refine x_aload_n (pc := 138) O dX8_person_138 rfl rfl ?_
              refine v_get (pc := 139) O dX8_person_139 fdX8_99 rfl rfl ?_
              rw [upd_eq]
              refine x_iconst (v := 1) (pc := 142) O dX8_person_142 (by decide) ?_
              refine x_isub (pc := 143) O dX8_person_143 ?_
              rw [show i 22 + 1 - 1 = i 22 by rw [hm, show nI m + 1 = nI (m + 1) from (nI_succ m).symm, show (1 : Int32) = 1 from rfl, nI_pred]]
              have hc9 : (0 ≤ sx ∧ sx ≤ 1) ∧ (f = -1 ∨ isP i f ∧ a 9 f.toNatClampNeg = 0) ∧ (g = -1 ∨ isP i g ∧ a 9 g.toNatClampNeg = 1) ∧ ¬ i 22 = 60 := ⟨b2i_n0 c6, Or.inl c11, Or.inr ⟨b2i_n0 c41, c51⟩, c60⟩
              refine x_ret (v := some (.int _)) (pc := 144) O dX8_person_144 rfl rfl ⟨Nat.le_refl _, Nat.le_refl _, (), congrArg (fun z => some (Value.int z)) (if_pos hc9).symm, fun h hh => ?_⟩
              (try simp only [if_pos hc9]); exact hh
            · refine x_iconst (v := (-1)) (pc := 63) O dX8_person_63 (by decide) ?_
              have hc9 : ¬ ((0 ≤ sx ∧ sx ≤ 1) ∧ (f = -1 ∨ isP i f ∧ a 9 f.toNatClampNeg = 0) ∧ (g = -1 ∨ isP i g ∧ a 9 g.toNatClampNeg = 1) ∧ ¬ i 22 = 60) := fun q => q.2.2.2 c60
              refine x_ret (v := some (.int _)) (pc := 64) O dX8_person_64 rfl rfl ⟨Nat.le_refl _, Nat.le_refl _, (), congrArg (fun z => some (Value.int z)) (if_neg hc9).symm, fun h hh => ?_⟩
              (try simp only [if_neg hc9]); exact hh
    · refine x_aload_n (pc := 14) O dX8_person_14 rfl rfl ?_
      refine x_iload_n (pc := 15) O dX8_person_15 rfl ?_
      refine x_callV (pc := 16) (rest := _) (ci := 8) O (c_X8_isPerson l E _ _ _ _ _ _) dX8_person_16 cbX8_107 im_yX8_isPerson se_yX8_isPerson rfl v_recv rfl rfl (Nat.le_of_ble_eq_true rfl) ⟨Nat.le_of_ble_eq_true rfl, Nat.le_of_ble_eq_true rfl⟩ ⟨Nat.le_of_ble_eq_true rfl, Nat.le_of_ble_eq_true rfl⟩ (fun _ => ?_)
      dsimp only [Option.toList, List.append, List.nil_append, List.cons_append, Nat.add_zero, Nat.reduceAdd]
      refine x_if_eq (pc := 19) O 63 dX8_person_19 (by decide) (fun c19 => ?_) (fun c19 => ?_)
      · refine x_iconst (v := (-1)) (pc := 63) O dX8_person_63 (by decide) ?_
        have hc9 : ¬ ((0 ≤ sx ∧ sx ≤ 1) ∧ (f = -1 ∨ isP i f ∧ a 9 f.toNatClampNeg = 0) ∧ (g = -1 ∨ isP i g ∧ a 9 g.toNatClampNeg = 1) ∧ ¬ i 22 = 60) := fun q => q.2.1.elim c11 (fun z => b2i_z c19 z.1)
        refine x_ret (v := some (.int _)) (pc := 64) O dX8_person_64 rfl rfl ⟨Nat.le_refl _, Nat.le_refl _, (), congrArg (fun z => some (Value.int z)) (if_neg hc9).symm, fun h hh => ?_⟩
        (try simp only [if_neg hc9]); exact hh
      · have hf := in_nat hm (by omega) (b2i_n0 c19)
        refine x_aload_n (pc := 22) O dX8_person_22 rfl rfl ?_
        refine v_get (pc := 23) O dX8_person_23 fdX8_9 rfl rfl ?_
        refine x_iload_n (pc := 26) O dX8_person_26 rfl ?_
        refine v_ald (k := 9) (pc := 27) O dX8_person_27 rfl rfl rfl hf.1 (by show _ < 60; omega) ?_
        refine x_if_ne (pc := 28) O 63 dX8_person_28 (by decide) (fun c28 => ?_) (fun c28 => ?_)
        · refine x_iconst (v := (-1)) (pc := 63) O dX8_person_63 (by decide) ?_
          have hc9 : ¬ ((0 ≤ sx ∧ sx ≤ 1) ∧ (f = -1 ∨ isP i f ∧ a 9 f.toNatClampNeg = 0) ∧ (g = -1 ∨ isP i g ∧ a 9 g.toNatClampNeg = 1) ∧ ¬ i 22 = 60) := fun q => q.2.1.elim c11 (fun z => c28 z.2)
          refine x_ret (v := some (.int _)) (pc := 64) O dX8_person_64 rfl rfl ⟨Nat.le_refl _, Nat.le_refl _, (), congrArg (fun z => some (Value.int z)) (if_neg hc9).symm, fun h hh => ?_⟩
          (try simp only [if_neg hc9]); exact hh
        · refine x_iload_n (pc := 31) O dX8_person_31 rfl ?_
          refine x_iconst (v := (-1)) (pc := 32) O dX8_person_32 (by decide) ?_
          refine x_icmp_eq (pc := 33) O 54 dX8_person_33 (by decide) (fun c33 => ?_) (fun c33 => ?_)
          · refine x_aload_n (pc := 54) O dX8_person_54 rfl rfl ?_
            refine v_get (pc := 55) O dX8_person_55 fdX8_99 rfl rfl ?_
            refine x_bipush (v := 60) (pc := 58) O dX8_person_58 (by decide) ?_
            refine x_icmp_ne (pc := 60) O 65 dX8_person_60 (by decide) (fun c60 => ?_) (fun c60 => ?_)
            · have hm60 : m < 60 := by
                rcases Nat.lt_or_ge m 60 with q | q
                · exact q
                · exact absurd (by rw [hm, show m = 60 by omega]; rfl) c60
              refine x_aload_n (pc := 65) O dX8_person_65 rfl rfl ?_
              refine v_get (pc := 66) O dX8_person_66 fdX8_9 rfl rfl ?_
              refine x_aload_n (pc := 69) O dX8_person_69 rfl rfl ?_
              refine v_get (pc := 70) O dX8_person_70 fdX8_99 rfl rfl ?_
              refine x_iload_n (pc := 73) O dX8_person_73 rfl ?_
              refine v_ast (k := 9) (pc := 74) O dX8_person_74 rfl rfl rfl hm (by show _ < 60; omega) ?_
              refine x_aload_n (pc := 75) O dX8_person_75 rfl rfl ?_
              refine v_get (pc := 76) O dX8_person_76 fdX8_13 rfl rfl ?_
              refine x_aload_n (pc := 79) O dX8_person_79 rfl rfl ?_
              refine v_get (pc := 80) O dX8_person_80 fdX8_99 rfl rfl ?_
              refine x_iload_n (pc := 83) O dX8_person_83 rfl ?_
              refine v_ast (k := 10) (pc := 84) O dX8_person_84 rfl rfl rfl hm (by show _ < 60; omega) ?_
              refine x_aload_n (pc := 85) O dX8_person_85 rfl rfl ?_
              refine v_get (pc := 86) O dX8_person_86 fdX8_16 rfl rfl ?_
              refine x_aload_n (pc := 89) O dX8_person_89 rfl rfl ?_
              refine v_get (pc := 90) O dX8_person_90 fdX8_99 rfl rfl ?_
              refine x_iload_n (pc := 93) O dX8_person_93 rfl ?_
              refine v_ast (k := 11) (pc := 94) O dX8_person_94 rfl rfl rfl hm (by show _ < 60; omega) ?_
              refine x_aload_n (pc := 95) O dX8_person_95 rfl rfl ?_
              refine v_get (pc := 96) O dX8_person_96 fdX8_19 rfl rfl ?_
              refine x_aload_n (pc := 99) O dX8_person_99 rfl rfl ?_
              refine v_get (pc := 100) O dX8_person_100 fdX8_99 rfl rfl ?_
              refine x_iconst (v := (-1)) (pc := 103) O dX8_person_103 (by decide) ?_
              refine v_ast (k := 12) (pc := 104) O dX8_person_104 rfl rfl rfl hm (by show _ < 60; omega) ?_
              refine x_aload_n (pc := 105) O dX8_person_105 rfl rfl ?_
              refine v_get (pc := 106) O dX8_person_106 fdX8_22 rfl rfl ?_
              refine x_aload_n (pc := 109) O dX8_person_109 rfl rfl ?_
              refine v_get (pc := 110) O dX8_person_110 fdX8_99 rfl rfl ?_
              refine x_aload_n (pc := 113) O dX8_person_113 rfl rfl ?_
              refine v_get (pc := 114) O dX8_person_114 fdX8_118 rfl rfl ?_
              refine v_ast (k := 13) (pc := 117) O dX8_person_117 rfl rfl rfl hm (by show _ < 60; omega) ?_
              refine x_aload_n (pc := 118) O dX8_person_118 rfl rfl ?_
              refine v_get (pc := 119) O dX8_person_119 fdX8_43 rfl rfl ?_
              refine x_aload_n (pc := 122) O dX8_person_122 rfl rfl ?_
              refine v_get (pc := 123) O dX8_person_123 fdX8_99 rfl rfl ?_
              refine x_iconst (v := 1) (pc := 126) O dX8_person_126 (by decide) ?_
              refine v_zst (k := 20) (pc := 127) O dX8_person_127 rfl hm (by omega) rfl ?_
              refine x_aload_n (pc := 128) O dX8_person_128 rfl rfl ?_
              refine x_dup (pc := 129) O dX8_person_129 rfl ?_
              refine v_get (pc := 130) O dX8_person_130 fdX8_99 rfl rfl ?_
              refine x_iconst (v := 1) (pc := 133) O dX8_person_133 (by decide) ?_
              refine x_iadd (pc := 134) O dX8_person_134 ?_
              refine v_put (pc := 135) O dX8_person_135 fpX8_99 rfl rfl ?_
              refine x_aload_n (pc := 138) O dX8_person_138 rfl rfl ?_
              refine v_get (pc := 139) O dX8_person_139 fdX8_99 rfl rfl ?_
              rw [upd_eq]
              refine x_iconst (v := 1) (pc := 142) O dX8_person_142 (by decide) ?_
              refine x_isub (pc := 143) O dX8_person_143 ?_
              rw [show i 22 + 1 - 1 = i 22 by rw [hm, show nI m + 1 = nI (m + 1) from (nI_succ m).symm, show (1 : Int32) = 1 from rfl, nI_pred]]
              have hc9 : (0 ≤ sx ∧ sx ≤ 1) ∧ (f = -1 ∨ isP i f ∧ a 9 f.toNatClampNeg = 0) ∧ (g = -1 ∨ isP i g ∧ a 9 g.toNatClampNeg = 1) ∧ ¬ i 22 = 60 := ⟨b2i_n0 c6, Or.inr ⟨b2i_n0 c19, c28⟩, Or.inl c33, c60⟩
              refine x_ret (v := some (.int _)) (pc := 144) O dX8_person_144 rfl rfl ⟨Nat.le_refl _, Nat.le_refl _, (), congrArg (fun z => some (Value.int z)) (if_pos hc9).symm, fun h hh => ?_⟩
              (try simp only [if_pos hc9]); exact hh
            · refine x_iconst (v := (-1)) (pc := 63) O dX8_person_63 (by decide) ?_
              have hc9 : ¬ ((0 ≤ sx ∧ sx ≤ 1) ∧ (f = -1 ∨ isP i f ∧ a 9 f.toNatClampNeg = 0) ∧ (g = -1 ∨ isP i g ∧ a 9 g.toNatClampNeg = 1) ∧ ¬ i 22 = 60) := fun q => q.2.2.2 c60
              refine x_ret (v := some (.int _)) (pc := 64) O dX8_person_64 rfl rfl ⟨Nat.le_refl _, Nat.le_refl _, (), congrArg (fun z => some (Value.int z)) (if_neg hc9).symm, fun h hh => ?_⟩
              (try simp only [if_neg hc9]); exact hh
          · refine x_aload_n (pc := 36) O dX8_person_36 rfl rfl ?_
            refine x_iload_n (pc := 37) O dX8_person_37 rfl ?_
            refine x_callV (pc := 38) (rest := _) (ci := 8) O (c_X8_isPerson l E _ _ _ _ _ _) dX8_person_38 cbX8_107 im_yX8_isPerson se_yX8_isPerson rfl v_recv rfl rfl (Nat.le_of_ble_eq_true rfl) ⟨Nat.le_of_ble_eq_true rfl, Nat.le_of_ble_eq_true rfl⟩ ⟨Nat.le_of_ble_eq_true rfl, Nat.le_of_ble_eq_true rfl⟩ (fun _ => ?_)
            dsimp only [Option.toList, List.append, List.nil_append, List.cons_append, Nat.add_zero, Nat.reduceAdd]
            refine x_if_eq (pc := 41) O 63 dX8_person_41 (by decide) (fun c41 => ?_) (fun c41 => ?_)
            · refine x_iconst (v := (-1)) (pc := 63) O dX8_person_63 (by decide) ?_
              have hc9 : ¬ ((0 ≤ sx ∧ sx ≤ 1) ∧ (f = -1 ∨ isP i f ∧ a 9 f.toNatClampNeg = 0) ∧ (g = -1 ∨ isP i g ∧ a 9 g.toNatClampNeg = 1) ∧ ¬ i 22 = 60) := fun q => q.2.2.1.elim c33 (fun z => b2i_z c41 z.1)
              refine x_ret (v := some (.int _)) (pc := 64) O dX8_person_64 rfl rfl ⟨Nat.le_refl _, Nat.le_refl _, (), congrArg (fun z => some (Value.int z)) (if_neg hc9).symm, fun h hh => ?_⟩
              (try simp only [if_neg hc9]); exact hh
            · have hg := in_nat hm (by omega) (b2i_n0 c41)
              refine x_aload_n (pc := 44) O dX8_person_44 rfl rfl ?_
              refine v_get (pc := 45) O dX8_person_45 fdX8_9 rfl rfl ?_
              refine x_iload_n (pc := 48) O dX8_person_48 rfl ?_
              refine v_ald (k := 9) (pc := 49) O dX8_person_49 rfl rfl rfl hg.1 (by show _ < 60; omega) ?_
              refine x_iconst (v := 1) (pc := 50) O dX8_person_50 (by decide) ?_
              refine x_icmp_ne (pc := 51) O 63 dX8_person_51 (by decide) (fun c51 => ?_) (fun c51 => ?_)
              · refine x_iconst (v := (-1)) (pc := 63) O dX8_person_63 (by decide) ?_
                have hc9 : ¬ ((0 ≤ sx ∧ sx ≤ 1) ∧ (f = -1 ∨ isP i f ∧ a 9 f.toNatClampNeg = 0) ∧ (g = -1 ∨ isP i g ∧ a 9 g.toNatClampNeg = 1) ∧ ¬ i 22 = 60) := fun q => q.2.2.1.elim c33 (fun z => c51 z.2)
                refine x_ret (v := some (.int _)) (pc := 64) O dX8_person_64 rfl rfl ⟨Nat.le_refl _, Nat.le_refl _, (), congrArg (fun z => some (Value.int z)) (if_neg hc9).symm, fun h hh => ?_⟩
                (try simp only [if_neg hc9]); exact hh
              · refine x_aload_n (pc := 54) O dX8_person_54 rfl rfl ?_
                refine v_get (pc := 55) O dX8_person_55 fdX8_99 rfl rfl ?_
                refine x_bipush (v := 60) (pc := 58) O dX8_person_58 (by decide) ?_
                refine x_icmp_ne (pc := 60) O 65 dX8_person_60 (by decide) (fun c60 => ?_) (fun c60 => ?_)
                · have hm60 : m < 60 := by
                    rcases Nat.lt_or_ge m 60 with q | q
                    · exact q
                    · exact absurd (by rw [hm, show m = 60 by omega]; rfl) c60
                  refine x_aload_n (pc := 65) O dX8_person_65 rfl rfl ?_
                  refine v_get (pc := 66) O dX8_person_66 fdX8_9 rfl rfl ?_
                  refine x_aload_n (pc := 69) O dX8_person_69 rfl rfl ?_
                  refine v_get (pc := 70) O dX8_person_70 fdX8_99 rfl rfl ?_
                  refine x_iload_n (pc := 73) O dX8_person_73 rfl ?_
                  refine v_ast (k := 9) (pc := 74) O dX8_person_74 rfl rfl rfl hm (by show _ < 60; omega) ?_
                  refine x_aload_n (pc := 75) O dX8_person_75 rfl rfl ?_
                  refine v_get (pc := 76) O dX8_person_76 fdX8_13 rfl rfl ?_
                  refine x_aload_n (pc := 79) O dX8_person_79 rfl rfl ?_
                  refine v_get (pc := 80) O dX8_person_80 fdX8_99 rfl rfl ?_
                  refine x_iload_n (pc := 83) O dX8_person_83 rfl ?_
                  refine v_ast (k := 10) (pc := 84) O dX8_person_84 rfl rfl rfl hm (by show _ < 60; omega) ?_
                  refine x_aload_n (pc := 85) O dX8_person_85 rfl rfl ?_
                  refine v_get (pc := 86) O dX8_person_86 fdX8_16 rfl rfl ?_
                  refine x_aload_n (pc := 89) O dX8_person_89 rfl rfl ?_
                  refine v_get (pc := 90) O dX8_person_90 fdX8_99 rfl rfl ?_
                  refine x_iload_n (pc := 93) O dX8_person_93 rfl ?_
                  refine v_ast (k := 11) (pc := 94) O dX8_person_94 rfl rfl rfl hm (by show _ < 60; omega) ?_
                  refine x_aload_n (pc := 95) O dX8_person_95 rfl rfl ?_
                  refine v_get (pc := 96) O dX8_person_96 fdX8_19 rfl rfl ?_
                  refine x_aload_n (pc := 99) O dX8_person_99 rfl rfl ?_
                  refine v_get (pc := 100) O dX8_person_100 fdX8_99 rfl rfl ?_
                  refine x_iconst (v := (-1)) (pc := 103) O dX8_person_103 (by decide) ?_
                  refine v_ast (k := 12) (pc := 104) O dX8_person_104 rfl rfl rfl hm (by show _ < 60; omega) ?_
                  refine x_aload_n (pc := 105) O dX8_person_105 rfl rfl ?_
                  refine v_get (pc := 106) O dX8_person_106 fdX8_22 rfl rfl ?_
                  refine x_aload_n (pc := 109) O dX8_person_109 rfl rfl ?_
                  refine v_get (pc := 110) O dX8_person_110 fdX8_99 rfl rfl ?_
                  refine x_aload_n (pc := 113) O dX8_person_113 rfl rfl ?_
                  refine v_get (pc := 114) O dX8_person_114 fdX8_118 rfl rfl ?_
                  refine v_ast (k := 13) (pc := 117) O dX8_person_117 rfl rfl rfl hm (by show _ < 60; omega) ?_
                  refine x_aload_n (pc := 118) O dX8_person_118 rfl rfl ?_
                  refine v_get (pc := 119) O dX8_person_119 fdX8_43 rfl rfl ?_
                  refine x_aload_n (pc := 122) O dX8_person_122 rfl rfl ?_
                  refine v_get (pc := 123) O dX8_person_123 fdX8_99 rfl rfl ?_
                  refine x_iconst (v := 1) (pc := 126) O dX8_person_126 (by decide) ?_
                  refine v_zst (k := 20) (pc := 127) O dX8_person_127 rfl hm (by omega) rfl ?_
                  refine x_aload_n (pc := 128) O dX8_person_128 rfl rfl ?_
                  refine x_dup (pc := 129) O dX8_person_129 rfl ?_
                  refine v_get (pc := 130) O dX8_person_130 fdX8_99 rfl rfl ?_
                  refine x_iconst (v := 1) (pc := 133) O dX8_person_133 (by decide) ?_
                  refine x_iadd (pc := 134) O dX8_person_134 ?_
                  refine v_put (pc := 135) O dX8_person_135 fpX8_99 rfl rfl ?_
                  refine x_aload_n (pc := 138) O dX8_person_138 rfl rfl ?_
                  refine v_get (pc := 139) O dX8_person_139 fdX8_99 rfl rfl ?_
                  rw [upd_eq]
                  refine x_iconst (v := 1) (pc := 142) O dX8_person_142 (by decide) ?_
                  refine x_isub (pc := 143) O dX8_person_143 ?_
                  rw [show i 22 + 1 - 1 = i 22 by rw [hm, show nI m + 1 = nI (m + 1) from (nI_succ m).symm, show (1 : Int32) = 1 from rfl, nI_pred]]
                  have hc9 : (0 ≤ sx ∧ sx ≤ 1) ∧ (f = -1 ∨ isP i f ∧ a 9 f.toNatClampNeg = 0) ∧ (g = -1 ∨ isP i g ∧ a 9 g.toNatClampNeg = 1) ∧ ¬ i 22 = 60 := ⟨b2i_n0 c6, Or.inr ⟨b2i_n0 c19, c28⟩, Or.inr ⟨b2i_n0 c41, c51⟩, c60⟩
                  refine x_ret (v := some (.int _)) (pc := 144) O dX8_person_144 rfl rfl ⟨Nat.le_refl _, Nat.le_refl _, (), congrArg (fun z => some (Value.int z)) (if_pos hc9).symm, fun h hh => ?_⟩
                  (try simp only [if_pos hc9]); exact hh
                · refine x_iconst (v := (-1)) (pc := 63) O dX8_person_63 (by decide) ?_
                  have hc9 : ¬ ((0 ≤ sx ∧ sx ≤ 1) ∧ (f = -1 ∨ isP i f ∧ a 9 f.toNatClampNeg = 0) ∧ (g = -1 ∨ isP i g ∧ a 9 g.toNatClampNeg = 1) ∧ ¬ i 22 = 60) := fun q => q.2.2.2 c60
                  refine x_ret (v := some (.int _)) (pc := 64) O dX8_person_64 rfl rfl ⟨Nat.le_refl _, Nat.le_refl _, (), congrArg (fun z => some (Value.int z)) (if_neg hc9).symm, fun h hh => ?_⟩
                  (try simp only [if_neg hc9]); exact hh
end
section
/-! ===== REF 2: suits, counts ===== -/
set_option maxRecDepth 100000 in
set_option maxHeartbeats 4000000 in
theorem c_X8_suit (l : Launch) (E : En) (o : Nat) (d : Nat → Nat) (i : Nat → Int32) (a : Nat → Nat → Int32) (ch : Nat → List Rt) (p q u : Int32) {m : Nat} (hm : i 22 = nI m) (h60 : m ≤ 60) {ns : Nat} (hs : i 38 = nI ns) (h40 : ns ≤ 40) : Mt l E yX8_suit cX8_suit 4 (some .int) (rmX 3 64 0 0) [.ref o, .int p, .int q, .int u] (RV E o d i a ch) (fun _ : Unit => some (.int (if lvP i a p ∧ lvP i a q ∧ lvP i a u ∧ ¬ p = q ∧ ¬ q = u ∧ ¬ p = u ∧ ¬ i 38 = 40 then i 38 else -1))) (fun _ => RV E o d (if lvP i a p ∧ lvP i a q ∧ lvP i a u ∧ ¬ p = q ∧ ¬ q = u ∧ ¬ p = u ∧ ¬ i 38 = 40 then upd i 38 (i 38 + 1) else i) (if lvP i a p ∧ lvP i a q ∧ lvP i a u ∧ ¬ p = q ∧ ¬ q = u ∧ ¬ p = u ∧ ¬ i 38 = 40 then up2 (up2 (up2 a 31 ns p) 32 ns q) 33 ns u else a) ch) := by
  refine Mt_of (by decide +kernel) (Nat.le_of_ble_eq_true rfl) (fun J O => ?_)
  show J _ 0 0 0 [some (.ref o), some (.int p), some (.int q), some (.int u)] []
  refine x_aload_n (pc := 0) O dX8_suit_0 rfl rfl ?_
  refine x_iload_n (pc := 1) O dX8_suit_1 rfl ?_
  refine x_callV (pc := 2) (rest := _) (ci := 8) O (c_X8_lives l E _ _ _ _ _ _ hm h60) dX8_suit_2 cbX8_188 im_yX8_lives se_yX8_lives rfl v_recv rfl rfl (Nat.le_of_ble_eq_true rfl) ⟨Nat.le_of_ble_eq_true rfl, Nat.le_of_ble_eq_true rfl⟩ ⟨Nat.le_of_ble_eq_true rfl, Nat.le_of_ble_eq_true rfl⟩ (fun _ => ?_)
  dsimp only [Option.toList, List.append, List.nil_append, List.cons_append, Nat.add_zero, Nat.reduceAdd]
  refine x_if_eq (pc := 5) O 48 dX8_suit_5 (by decide) (fun c5 => ?_) (fun c5 => ?_)
  · refine x_iconst (v := (-1)) (pc := 48) O dX8_suit_48 (by decide) ?_
    have hc9 : ¬ (lvP i a p ∧ lvP i a q ∧ lvP i a u ∧ ¬ p = q ∧ ¬ q = u ∧ ¬ p = u ∧ ¬ i 38 = 40) := fun z => b2i_z c5 z.1
    refine x_ret (v := some (.int _)) (pc := 49) O dX8_suit_49 rfl rfl ⟨Nat.le_refl _, Nat.le_refl _, (), congrArg (fun z => some (Value.int z)) (if_neg hc9).symm, fun h hh => ?_⟩
    (try simp only [if_neg hc9]); exact hh
  · refine x_aload_n (pc := 8) O dX8_suit_8 rfl rfl ?_
    refine x_iload_n (pc := 9) O dX8_suit_9 rfl ?_
    refine x_callV (pc := 10) (rest := _) (ci := 8) O (c_X8_lives l E _ _ _ _ _ _ hm h60) dX8_suit_10 cbX8_188 im_yX8_lives se_yX8_lives rfl v_recv rfl rfl (Nat.le_of_ble_eq_true rfl) ⟨Nat.le_of_ble_eq_true rfl, Nat.le_of_ble_eq_true rfl⟩ ⟨Nat.le_of_ble_eq_true rfl, Nat.le_of_ble_eq_true rfl⟩ (fun _ => ?_)
    dsimp only [Option.toList, List.append, List.nil_append, List.cons_append, Nat.add_zero, Nat.reduceAdd]
    refine x_if_eq (pc := 13) O 48 dX8_suit_13 (by decide) (fun c13 => ?_) (fun c13 => ?_)
    · refine x_iconst (v := (-1)) (pc := 48) O dX8_suit_48 (by decide) ?_
      have hc9 : ¬ (lvP i a p ∧ lvP i a q ∧ lvP i a u ∧ ¬ p = q ∧ ¬ q = u ∧ ¬ p = u ∧ ¬ i 38 = 40) := fun z => b2i_z c13 z.2.1
      refine x_ret (v := some (.int _)) (pc := 49) O dX8_suit_49 rfl rfl ⟨Nat.le_refl _, Nat.le_refl _, (), congrArg (fun z => some (Value.int z)) (if_neg hc9).symm, fun h hh => ?_⟩
      (try simp only [if_neg hc9]); exact hh
    · refine x_aload_n (pc := 16) O dX8_suit_16 rfl rfl ?_
      refine x_iload_n (pc := 17) O dX8_suit_17 rfl ?_
      refine x_callV (pc := 18) (rest := _) (ci := 8) O (c_X8_lives l E _ _ _ _ _ _ hm h60) dX8_suit_18 cbX8_188 im_yX8_lives se_yX8_lives rfl v_recv rfl rfl (Nat.le_of_ble_eq_true rfl) ⟨Nat.le_of_ble_eq_true rfl, Nat.le_of_ble_eq_true rfl⟩ ⟨Nat.le_of_ble_eq_true rfl, Nat.le_of_ble_eq_true rfl⟩ (fun _ => ?_)
      dsimp only [Option.toList, List.append, List.nil_append, List.cons_append, Nat.add_zero, Nat.reduceAdd]
      refine x_if_eq (pc := 21) O 48 dX8_suit_21 (by decide) (fun c21 => ?_) (fun c21 => ?_)
      · refine x_iconst (v := (-1)) (pc := 48) O dX8_suit_48 (by decide) ?_
        have hc9 : ¬ (lvP i a p ∧ lvP i a q ∧ lvP i a u ∧ ¬ p = q ∧ ¬ q = u ∧ ¬ p = u ∧ ¬ i 38 = 40) := fun z => b2i_z c21 z.2.2.1
        refine x_ret (v := some (.int _)) (pc := 49) O dX8_suit_49 rfl rfl ⟨Nat.le_refl _, Nat.le_refl _, (), congrArg (fun z => some (Value.int z)) (if_neg hc9).symm, fun h hh => ?_⟩
        (try simp only [if_neg hc9]); exact hh
      · refine x_iload_n (pc := 24) O dX8_suit_24 rfl ?_
        refine x_iload_n (pc := 25) O dX8_suit_25 rfl ?_
        refine x_icmp_eq (pc := 26) O 48 dX8_suit_26 (by decide) (fun c26 => ?_) (fun c26 => ?_)
        · refine x_iconst (v := (-1)) (pc := 48) O dX8_suit_48 (by decide) ?_
          have hc9 : ¬ (lvP i a p ∧ lvP i a q ∧ lvP i a u ∧ ¬ p = q ∧ ¬ q = u ∧ ¬ p = u ∧ ¬ i 38 = 40) := fun z => z.2.2.2.1 c26
          refine x_ret (v := some (.int _)) (pc := 49) O dX8_suit_49 rfl rfl ⟨Nat.le_refl _, Nat.le_refl _, (), congrArg (fun z => some (Value.int z)) (if_neg hc9).symm, fun h hh => ?_⟩
          (try simp only [if_neg hc9]); exact hh
        · refine x_iload_n (pc := 29) O dX8_suit_29 rfl ?_
          refine x_iload_n (pc := 30) O dX8_suit_30 rfl ?_
          refine x_icmp_eq (pc := 31) O 48 dX8_suit_31 (by decide) (fun c31 => ?_) (fun c31 => ?_)
          · refine x_iconst (v := (-1)) (pc := 48) O dX8_suit_48 (by decide) ?_
            have hc9 : ¬ (lvP i a p ∧ lvP i a q ∧ lvP i a u ∧ ¬ p = q ∧ ¬ q = u ∧ ¬ p = u ∧ ¬ i 38 = 40) := fun z => z.2.2.2.2.1 c31
            refine x_ret (v := some (.int _)) (pc := 49) O dX8_suit_49 rfl rfl ⟨Nat.le_refl _, Nat.le_refl _, (), congrArg (fun z => some (Value.int z)) (if_neg hc9).symm, fun h hh => ?_⟩
            (try simp only [if_neg hc9]); exact hh
          · refine x_iload_n (pc := 34) O dX8_suit_34 rfl ?_
            refine x_iload_n (pc := 35) O dX8_suit_35 rfl ?_
            refine x_icmp_eq (pc := 36) O 48 dX8_suit_36 (by decide) (fun c36 => ?_) (fun c36 => ?_)
            · refine x_iconst (v := (-1)) (pc := 48) O dX8_suit_48 (by decide) ?_
              have hc9 : ¬ (lvP i a p ∧ lvP i a q ∧ lvP i a u ∧ ¬ p = q ∧ ¬ q = u ∧ ¬ p = u ∧ ¬ i 38 = 40) := fun z => z.2.2.2.2.2.1 c36
              refine x_ret (v := some (.int _)) (pc := 49) O dX8_suit_49 rfl rfl ⟨Nat.le_refl _, Nat.le_refl _, (), congrArg (fun z => some (Value.int z)) (if_neg hc9).symm, fun h hh => ?_⟩
              (try simp only [if_neg hc9]); exact hh
            · refine x_aload_n (pc := 39) O dX8_suit_39 rfl rfl ?_
              refine v_get (pc := 40) O dX8_suit_40 fdX8_209 rfl rfl ?_
              refine x_bipush (v := 40) (pc := 43) O dX8_suit_43 (by decide) ?_
              refine x_icmp_ne (pc := 45) O 50 dX8_suit_45 (by decide) (fun c45 => ?_) (fun c45 => ?_)
              · have hm40 : ns < 40 := by
                  rcases Nat.lt_or_ge ns 40 with q | q
                  · exact q
                  · exact absurd (by rw [hs, show ns = 40 by omega]; rfl) c45
                refine x_aload_n (pc := 50) O dX8_suit_50 rfl rfl ?_
                refine v_get (pc := 51) O dX8_suit_51 fdX8_68 rfl rfl ?_
                refine x_aload_n (pc := 54) O dX8_suit_54 rfl rfl ?_
                refine v_get (pc := 55) O dX8_suit_55 fdX8_209 rfl rfl ?_
                refine x_iload_n (pc := 58) O dX8_suit_58 rfl ?_
                refine v_ast (k := 31) (pc := 59) O dX8_suit_59 rfl rfl rfl hs (by show _ < 40; omega) ?_
                refine x_aload_n (pc := 60) O dX8_suit_60 rfl rfl ?_
                refine v_get (pc := 61) O dX8_suit_61 fdX8_71 rfl rfl ?_
                refine x_aload_n (pc := 64) O dX8_suit_64 rfl rfl ?_
                refine v_get (pc := 65) O dX8_suit_65 fdX8_209 rfl rfl ?_
                refine x_iload_n (pc := 68) O dX8_suit_68 rfl ?_
                refine v_ast (k := 32) (pc := 69) O dX8_suit_69 rfl rfl rfl hs (by show _ < 40; omega) ?_
                refine x_aload_n (pc := 70) O dX8_suit_70 rfl rfl ?_
                refine v_get (pc := 71) O dX8_suit_71 fdX8_74 rfl rfl ?_
                refine x_aload_n (pc := 74) O dX8_suit_74 rfl rfl ?_
                refine v_get (pc := 75) O dX8_suit_75 fdX8_209 rfl rfl ?_
                refine x_iload_n (pc := 78) O dX8_suit_78 rfl ?_
                refine v_ast (k := 33) (pc := 79) O dX8_suit_79 rfl rfl rfl hs (by show _ < 40; omega) ?_
                refine x_aload_n (pc := 80) O dX8_suit_80 rfl rfl ?_
                refine x_dup (pc := 81) O dX8_suit_81 rfl ?_
                refine v_get (pc := 82) O dX8_suit_82 fdX8_209 rfl rfl ?_
                refine x_iconst (v := 1) (pc := 85) O dX8_suit_85 (by decide) ?_
                refine x_iadd (pc := 86) O dX8_suit_86 ?_
                refine v_put (pc := 87) O dX8_suit_87 fpX8_209 rfl rfl ?_
                refine x_aload_n (pc := 90) O dX8_suit_90 rfl rfl ?_
                refine v_get (pc := 91) O dX8_suit_91 fdX8_209 rfl rfl ?_
                rw [upd_eq]
                refine x_iconst (v := 1) (pc := 94) O dX8_suit_94 (by decide) ?_
                refine x_isub (pc := 95) O dX8_suit_95 ?_
                rw [show i 38 + 1 - 1 = i 38 by rw [hs, show nI ns + 1 = nI (ns + 1) from (nI_succ ns).symm, show (1 : Int32) = 1 from rfl, nI_pred]]
                have hc9 : lvP i a p ∧ lvP i a q ∧ lvP i a u ∧ ¬ p = q ∧ ¬ q = u ∧ ¬ p = u ∧ ¬ i 38 = 40 := ⟨b2i_n0 c5, b2i_n0 c13, b2i_n0 c21, c26, c31, c36, c45⟩
                refine x_ret (v := some (.int _)) (pc := 96) O dX8_suit_96 rfl rfl ⟨Nat.le_refl _, Nat.le_refl _, (), congrArg (fun z => some (Value.int z)) (if_pos hc9).symm, fun h hh => ?_⟩
                (try simp only [if_pos hc9]); exact hh
              · refine x_iconst (v := (-1)) (pc := 48) O dX8_suit_48 (by decide) ?_
                have hc9 : ¬ (lvP i a p ∧ lvP i a q ∧ lvP i a u ∧ ¬ p = q ∧ ¬ q = u ∧ ¬ p = u ∧ ¬ i 38 = 40) := fun z => z.2.2.2.2.2.2 c45
                refine x_ret (v := some (.int _)) (pc := 49) O dX8_suit_49 rfl rfl ⟨Nat.le_refl _, Nat.le_refl _, (), congrArg (fun z => some (Value.int z)) (if_neg hc9).symm, fun h hh => ?_⟩
                (try simp only [if_neg hc9]); exact hh
set_option maxRecDepth 100000 in
set_option maxHeartbeats 4000000 in
theorem c_X8_appear (l : Launch) (E : En) (o : Nat) (d : Nat → Nat) (i : Nat → Int32) (a : Nat → Nat → Int32) (ch : Nat → List Rt) (p x : Int32) {ns : Nat} (hs : i 38 = nI ns) (h40 : ns ≤ 40) : Mt l E yX8_appear cX8_appear 3 (some .boolean) (rmX 1 22 0 0) [.ref o, .int p, .int x] (RV E o d i a ch) (fun _ : Unit => some (.int (b2i (isS i p ∧ a 35 p.toNatClampNeg = 0 ∧ 0 ≤ x ∧ x ≤ 3)))) (fun _ => RV E o d i (if isS i p ∧ a 35 p.toNatClampNeg = 0 ∧ 0 ≤ x ∧ x ≤ 3 then up2 a 34 p.toNatClampNeg x else a) ch) := by
  refine Mt_of (by decide +kernel) (Nat.le_of_ble_eq_true rfl) (fun J O => ?_)
  show J _ 0 0 0 [some (.ref o), some (.int p), some (.int x)] []
  refine x_iload_n (pc := 0) O dX8_appear_0 rfl ?_
  refine x_iconst (v := 0) (pc := 1) O dX8_appear_1 (by decide) ?_
  refine x_aload_n (pc := 2) O dX8_appear_2 rfl rfl ?_
  refine v_get (pc := 3) O dX8_appear_3 fdX8_209 rfl rfl ?_
  refine x_iconst (v := 1) (pc := 6) O dX8_appear_6 (by decide) ?_
  refine x_isub (pc := 7) O dX8_appear_7 ?_
  refine x_callS (pc := 8) (rest := _) O (c_X8_in l E _ _ _ _) dX8_appear_8 cbX8_103 sm_yX8_in rfl rfl (Nat.le_of_ble_eq_true rfl) ⟨Nat.le_of_ble_eq_true rfl, Nat.le_of_ble_eq_true rfl⟩ ⟨Nat.le_of_ble_eq_true rfl, Nat.le_of_ble_eq_true rfl⟩ (fun _ => ?_)
  dsimp only [Option.toList, List.append, List.nil_append, List.cons_append, Nat.add_zero, Nat.reduceAdd]
  refine x_if_eq (pc := 11) O 32 dX8_appear_11 (by decide) (fun c11 => ?_) (fun c11 => ?_)
  · refine x_iconst (v := 0) (pc := 32) O dX8_appear_32 (by decide) ?_
    have hc9 : ¬ (isS i p ∧ a 35 p.toNatClampNeg = 0 ∧ 0 ≤ x ∧ x ≤ 3) := fun z => b2i_z c11 z.1
    refine x_ret (v := some (.int _)) (pc := 33) O dX8_appear_33 rfl rfl ⟨Nat.le_refl _, Nat.le_refl _, (), congrArg (fun z => some (Value.int z)) (b2i_f hc9).symm, fun h hh => ?_⟩
    (try simp only [if_neg hc9]); exact hh
  · have hp := in_nat hs (by omega) (b2i_n0 c11)
    refine x_aload_n (pc := 14) O dX8_appear_14 rfl rfl ?_
    refine v_get (pc := 15) O dX8_appear_15 fdX8_80 rfl rfl ?_
    refine x_iload_n (pc := 18) O dX8_appear_18 rfl ?_
    refine v_ald (k := 35) (pc := 19) O dX8_appear_19 rfl rfl rfl hp.1 (by show _ < 40; omega) ?_
    refine x_if_ne (pc := 20) O 32 dX8_appear_20 (by decide) (fun c20 => ?_) (fun c20 => ?_)
    · refine x_iconst (v := 0) (pc := 32) O dX8_appear_32 (by decide) ?_
      have hc9 : ¬ (isS i p ∧ a 35 p.toNatClampNeg = 0 ∧ 0 ≤ x ∧ x ≤ 3) := fun z => c20 z.2.1
      refine x_ret (v := some (.int _)) (pc := 33) O dX8_appear_33 rfl rfl ⟨Nat.le_refl _, Nat.le_refl _, (), congrArg (fun z => some (Value.int z)) (b2i_f hc9).symm, fun h hh => ?_⟩
      (try simp only [if_neg hc9]); exact hh
    · refine x_iload_n (pc := 23) O dX8_appear_23 rfl ?_
      refine x_iconst (v := 0) (pc := 24) O dX8_appear_24 (by decide) ?_
      refine x_iconst (v := 3) (pc := 25) O dX8_appear_25 (by decide) ?_
      refine x_callS (pc := 26) (rest := _) O (c_X8_in l E _ _ _ _) dX8_appear_26 cbX8_103 sm_yX8_in rfl rfl (Nat.le_of_ble_eq_true rfl) ⟨Nat.le_of_ble_eq_true rfl, Nat.le_of_ble_eq_true rfl⟩ ⟨Nat.le_of_ble_eq_true rfl, Nat.le_of_ble_eq_true rfl⟩ (fun _ => ?_)
      dsimp only [Option.toList, List.append, List.nil_append, List.cons_append, Nat.add_zero, Nat.reduceAdd]
      refine x_if_ne (pc := 29) O 34 dX8_appear_29 (by decide) (fun c29 => ?_) (fun c29 => ?_)
      · refine x_aload_n (pc := 34) O dX8_appear_34 rfl rfl ?_
        refine v_get (pc := 35) O dX8_appear_35 fdX8_77 rfl rfl ?_
        refine x_iload_n (pc := 38) O dX8_appear_38 rfl ?_
        refine x_iload_n (pc := 39) O dX8_appear_39 rfl ?_
        refine v_ast (k := 34) (pc := 40) O dX8_appear_40 rfl rfl rfl hp.1 (by show _ < 40; omega) ?_
        refine x_iconst (v := 1) (pc := 41) O dX8_appear_41 (by decide) ?_
        have hc9 : isS i p ∧ a 35 p.toNatClampNeg = 0 ∧ 0 ≤ x ∧ x ≤ 3 := ⟨b2i_n0 c11, c20, b2i_n0 c29⟩
        refine x_ret (v := some (.int _)) (pc := 42) O dX8_appear_42 rfl rfl ⟨Nat.le_refl _, Nat.le_refl _, (), congrArg (fun z => some (Value.int z)) (b2i_t hc9).symm, fun h hh => ?_⟩
        (try simp only [if_pos hc9]); exact hh
      · refine x_iconst (v := 0) (pc := 32) O dX8_appear_32 (by decide) ?_
        have hc9 : ¬ (isS i p ∧ a 35 p.toNatClampNeg = 0 ∧ 0 ≤ x ∧ x ≤ 3) := fun z => b2i_z c29 z.2.2
        refine x_ret (v := some (.int _)) (pc := 33) O dX8_appear_33 rfl rfl ⟨Nat.le_refl _, Nat.le_refl _, (), congrArg (fun z => some (Value.int z)) (b2i_f hc9).symm, fun h hh => ?_⟩
        (try simp only [if_neg hc9]); exact hh
set_option maxRecDepth 100000 in
set_option maxHeartbeats 4000000 in
theorem c_X8_suited (l : Launch) (E : En) (o : Nat) (d : Nat → Nat) (i : Nat → Int32) (a : Nat → Nat → Int32) (ch : Nat → List Rt) (p x : Int32) {ns : Nat} (hs : i 38 = nI ns) (h40 : ns ≤ 40) : Mt l E yX8_suited cX8_suited 3 (some .int) (rmX 1 22 0 0) [.ref o, .int p, .int x] (RV E o d i a ch) (fun _ : Unit => some (.int (if isS i p then (if x = 0 then a 35 p.toNatClampNeg else if x = 1 then a 36 p.toNatClampNeg else if x = 2 then a 37 p.toNatClampNeg else -1) else -1))) (fun _ => RV E o d i a ch) := by
  refine Mt_of (by decide +kernel) (Nat.le_of_ble_eq_true rfl) (fun J O => ?_)
  show J _ 0 0 0 [some (.ref o), some (.int p), some (.int x)] []
  refine x_iload_n (pc := 0) O dX8_suited_0 rfl ?_
  refine x_iconst (v := 0) (pc := 1) O dX8_suited_1 (by decide) ?_
  refine x_aload_n (pc := 2) O dX8_suited_2 rfl rfl ?_
  refine v_get (pc := 3) O dX8_suited_3 fdX8_209 rfl rfl ?_
  refine x_iconst (v := 1) (pc := 6) O dX8_suited_6 (by decide) ?_
  refine x_isub (pc := 7) O dX8_suited_7 ?_
  refine x_callS (pc := 8) (rest := _) O (c_X8_in l E _ _ _ _) dX8_suited_8 cbX8_103 sm_yX8_in rfl rfl (Nat.le_of_ble_eq_true rfl) ⟨Nat.le_of_ble_eq_true rfl, Nat.le_of_ble_eq_true rfl⟩ ⟨Nat.le_of_ble_eq_true rfl, Nat.le_of_ble_eq_true rfl⟩ (fun _ => ?_)
  dsimp only [Option.toList, List.append, List.nil_append, List.cons_append, Nat.add_zero, Nat.reduceAdd]
  refine x_if_ne (pc := 11) O 16 dX8_suited_11 (by decide) (fun c11 => ?_) (fun c11 => ?_)
  · have hp := in_nat hs (by omega) (b2i_n0 c11)
    refine x_iload_n (pc := 16) O dX8_suited_16 rfl ?_
    refine x_if_ne (pc := 17) O 29 dX8_suited_17 (by decide) (fun c17 => ?_) (fun c17 => ?_)
    · refine x_iload_n (pc := 29) O dX8_suited_29 rfl ?_
      refine x_iconst (v := 1) (pc := 30) O dX8_suited_30 (by decide) ?_
      refine x_icmp_ne (pc := 31) O 43 dX8_suited_31 (by decide) (fun c31 => ?_) (fun c31 => ?_)
      · refine x_iload_n (pc := 43) O dX8_suited_43 rfl ?_
        refine x_iconst (v := 2) (pc := 44) O dX8_suited_44 (by decide) ?_
        refine x_icmp_ne (pc := 45) O 57 dX8_suited_45 (by decide) (fun c45 => ?_) (fun c45 => ?_)
        · refine x_iconst (v := (-1)) (pc := 57) O dX8_suited_57 (by decide) ?_
          exact x_ret (v := some (.int _)) (pc := 58) O dX8_suited_58 rfl (rfl) ⟨Nat.le_refl _, Nat.le_refl _, (), congrArg (fun z => some (Value.int z)) (by rw [if_pos (b2i_n0 c11), if_neg c17, if_neg c31, if_neg c45]), fun h hh => hh⟩
        · refine x_aload_n (pc := 48) O dX8_suited_48 rfl rfl ?_
          refine v_get (pc := 49) O dX8_suited_49 fdX8_86 rfl rfl ?_
          refine x_iload_n (pc := 52) O dX8_suited_52 rfl ?_
          refine v_ald (k := 37) (pc := 53) O dX8_suited_53 rfl rfl rfl hp.1 (by show _ < 40; omega) ?_
          refine x_goto (pc := 54) O 58 dX8_suited_54 (by decide) ?_
          exact x_ret (v := some (.int _)) (pc := 58) O dX8_suited_58 rfl (rfl) ⟨Nat.le_refl _, Nat.le_refl _, (), congrArg (fun z => some (Value.int z)) (by rw [if_pos (b2i_n0 c11), if_neg c17, if_neg c31, if_pos c45]), fun h hh => hh⟩
      · refine x_aload_n (pc := 34) O dX8_suited_34 rfl rfl ?_
        refine v_get (pc := 35) O dX8_suited_35 fdX8_83 rfl rfl ?_
        refine x_iload_n (pc := 38) O dX8_suited_38 rfl ?_
        refine v_ald (k := 36) (pc := 39) O dX8_suited_39 rfl rfl rfl hp.1 (by show _ < 40; omega) ?_
        refine x_goto (pc := 40) O 58 dX8_suited_40 (by decide) ?_
        exact x_ret (v := some (.int _)) (pc := 58) O dX8_suited_58 rfl (rfl) ⟨Nat.le_refl _, Nat.le_refl _, (), congrArg (fun z => some (Value.int z)) (by rw [if_pos (b2i_n0 c11), if_neg c17, if_pos c31]), fun h hh => hh⟩
    · refine x_aload_n (pc := 20) O dX8_suited_20 rfl rfl ?_
      refine v_get (pc := 21) O dX8_suited_21 fdX8_80 rfl rfl ?_
      refine x_iload_n (pc := 24) O dX8_suited_24 rfl ?_
      refine v_ald (k := 35) (pc := 25) O dX8_suited_25 rfl rfl rfl hp.1 (by show _ < 40; omega) ?_
      refine x_goto (pc := 26) O 58 dX8_suited_26 (by decide) ?_
      exact x_ret (v := some (.int _)) (pc := 58) O dX8_suited_58 rfl (rfl) ⟨Nat.le_refl _, Nat.le_refl _, (), congrArg (fun z => some (Value.int z)) (by rw [if_pos (b2i_n0 c11), if_pos c17]), fun h hh => hh⟩
  · refine x_iconst (v := (-1)) (pc := 14) O dX8_suited_14 (by decide) ?_
    exact x_ret (v := some (.int _)) (pc := 15) O dX8_suited_15 rfl (rfl) ⟨Nat.le_refl _, Nat.le_refl _, (), congrArg (fun z => some (Value.int z)) ((if_neg (b2i_z c11)).symm), fun h hh => hh⟩
def hcnt (a : Nat → Nat → Int32) (p u : Int32) : Nat → Int32
  | 0 => 0
  | k + 1 => hcnt a p u k + (if a 29 k = p ∧ (u = 0 ∨ ¬ a 30 k = -1) then 1 else 0)
set_option maxRecDepth 100000 in
set_option maxHeartbeats 4000000 in
theorem c_X8_held (l : Launch) (E : En) (o : Nat) (d : Nat → Nat) (i : Nat → Int32) (a : Nat → Nat → Int32) (ch : Nat → List Rt) (p u : Int32)  : Mt l E yX8_held cX8_held 5 (some .int) (rmX 0 0 0 0) [.ref o, .int p, .int u] (RV E o d i a ch) (fun _ : Unit => some (.int (hcnt a p u 120))) (fun _ => RV E o d i a ch) := by
  refine Mt_of (by decide +kernel) (Nat.le_of_ble_eq_true rfl) (fun J O => ?_)
  show J _ 0 0 0 [some (.ref o), some (.int p), some (.int u), none, none] []
  have loop : ∀ k, k ≤ 120 → J (RV E o d i a ch) 0 0 5 [some (.ref o), some (.int p), some (.int u), some (.int (hcnt a p u k)), some (.int (nI k))] [] := by
    refine up_ind 120 (fun k hk ih => ?_)
    refine x_iload (pc := 5) O dX8_held_5 rfl ?_
    refine x_bipush (v := nI 120) (pc := 7) O dX8_held_7 (by decide) ?_
    refine x_icmp_ge (pc := 9) O 52 dX8_held_9 (by decide) (fun c9 => ?_) (fun c9 => ?_)
    · refine x_iload_n (pc := 52) O dX8_held_52 rfl ?_
      have hk2 : k = 120 := by
        rw [nI_leI (by omega) (by omega)] at c9
        omega
      subst hk2
      exact x_ret (v := some (.int _)) (pc := 53) O dX8_held_53 rfl (rfl) ⟨Nat.le_refl _, Nat.le_refl _, (), rfl, fun h hh => hh⟩
    · have hk3 : k < 120 := by
        rw [nI_leI (by omega) (by omega)] at c9
        omega
      refine x_iload_n (pc := 12) O dX8_held_12 rfl ?_
      refine x_aload_n (pc := 13) O dX8_held_13 rfl rfl ?_
      refine v_get (pc := 14) O dX8_held_14 fdX8_62 rfl rfl ?_
      refine x_iload (pc := 17) O dX8_held_17 rfl ?_
      refine v_ald (k := 29) (pc := 19) O dX8_held_19 rfl rfl rfl rfl (by show _ < 120; omega) ?_
      refine x_iload_n (pc := 20) O dX8_held_20 rfl ?_
      refine x_icmp_ne (pc := 21) O 43 dX8_held_21 (by decide) (fun c21 => ?_) (fun c21 => ?_)
      · refine x_iconst (v := 0) (pc := 43) O dX8_held_43 (by decide) ?_
        refine x_iadd (pc := 44) O dX8_held_44 ?_
        refine x_istore_n (pc := 45) O dX8_held_45 (by decide) rfl ?_
        refine x_iinc (v := nI (k + 1)) (pc := 46) O dX8_held_46 rfl (nI_succ k).symm rfl ?_
        refine x_goto (pc := 49) O 5 dX8_held_49 (by decide) ?_
        rw [show hcnt a p u k + 0 = hcnt a p u (k + 1) from by show _ = hcnt a p u k + _; rw [if_neg (fun z => c21 z.1)]]
        exact ih (by omega)
      · refine x_iload_n (pc := 24) O dX8_held_24 rfl ?_
        refine x_if_eq (pc := 25) O 39 dX8_held_25 (by decide) (fun c25 => ?_) (fun c25 => ?_)
        · refine x_iconst (v := 1) (pc := 39) O dX8_held_39 (by decide) ?_
          refine x_goto (pc := 40) O 44 dX8_held_40 (by decide) ?_
          refine x_iadd (pc := 44) O dX8_held_44 ?_
          refine x_istore_n (pc := 45) O dX8_held_45 (by decide) rfl ?_
          refine x_iinc (v := nI (k + 1)) (pc := 46) O dX8_held_46 rfl (nI_succ k).symm rfl ?_
          refine x_goto (pc := 49) O 5 dX8_held_49 (by decide) ?_
          rw [show hcnt a p u k + 1 = hcnt a p u (k + 1) from by show _ = hcnt a p u k + _; rw [if_pos (⟨c21, Or.inl c25⟩)]]
          exact ih (by omega)
        · refine x_aload_n (pc := 28) O dX8_held_28 rfl rfl ?_
          refine v_get (pc := 29) O dX8_held_29 fdX8_65 rfl rfl ?_
          refine x_iload (pc := 32) O dX8_held_32 rfl ?_
          refine v_ald (k := 30) (pc := 34) O dX8_held_34 rfl rfl rfl rfl (by show _ < 120; omega) ?_
          refine x_iconst (v := (-1)) (pc := 35) O dX8_held_35 (by decide) ?_
          refine x_icmp_eq (pc := 36) O 43 dX8_held_36 (by decide) (fun c36 => ?_) (fun c36 => ?_)
          · refine x_iconst (v := 0) (pc := 43) O dX8_held_43 (by decide) ?_
            refine x_iadd (pc := 44) O dX8_held_44 ?_
            refine x_istore_n (pc := 45) O dX8_held_45 (by decide) rfl ?_
            refine x_iinc (v := nI (k + 1)) (pc := 46) O dX8_held_46 rfl (nI_succ k).symm rfl ?_
            refine x_goto (pc := 49) O 5 dX8_held_49 (by decide) ?_
            rw [show hcnt a p u k + 0 = hcnt a p u (k + 1) from by show _ = hcnt a p u k + _; rw [if_neg (fun z => z.2.elim c25 (fun y => y c36))]]
            exact ih (by omega)
          · refine x_iconst (v := 1) (pc := 39) O dX8_held_39 (by decide) ?_
            refine x_goto (pc := 40) O 44 dX8_held_40 (by decide) ?_
            refine x_iadd (pc := 44) O dX8_held_44 ?_
            refine x_istore_n (pc := 45) O dX8_held_45 (by decide) rfl ?_
            refine x_iinc (v := nI (k + 1)) (pc := 46) O dX8_held_46 rfl (nI_succ k).symm rfl ?_
            refine x_goto (pc := 49) O 5 dX8_held_49 (by decide) ?_
            rw [show hcnt a p u k + 1 = hcnt a p u (k + 1) from by show _ = hcnt a p u k + _; rw [if_pos (⟨c21, Or.inr c36⟩)]]
            exact ih (by omega)
  refine x_iconst (v := 0) (pc := 0) O dX8_held_0 (by decide) ?_
  refine x_istore_n (pc := 1) O dX8_held_1 (by decide) rfl ?_
  refine x_iconst (v := nI 0) (pc := 2) O dX8_held_2 (by decide) ?_
  refine x_istore (pc := 3) O dX8_held_3 (by decide) rfl ?_
  exact loop 0 (by omega)
end
section
/-! ===== REF 3: told, count, courts, weeks ===== -/
theorem tb_split (x : Int32) (n : Nat) (hn : n < 2147483648) : (x.toInt < 0 ∨ (n : Int) < x.toInt) ∨ ∃ k : Nat, k ≤ n ∧ x = nI k := by
  by_cases h : x < 0
  · left; left
    rw [Int32.lt_iff_toInt_lt] at h
    simpa using h
  · obtain ⟨j, hj, rfl⟩ := nI_of h
    by_cases h2 : j ≤ n
    · exact Or.inr ⟨j, h2, rfl⟩
    · left; right
      rw [nI_toInt hj]
      omega
theorem tb_ne {x : Int32} {n k : Nat} (h : x.toInt < 0 ∨ (n : Int) < x.toInt) (hk : k ≤ n) (hk2 : k < 2 ^ 31) : ¬ x = nI k := by
  rintro rfl
  rw [nI_toInt hk2] at h
  omega
def toldV (a : Nat → Nat → Int32) (j : Nat) (p x : Int32) : Int32 := if x = nI 0 then a 9 j else if x = nI 1 then a 10 j else if x = nI 2 then a 11 j else if x = nI 3 then (if a 20 j = 0 then 0 else 1) else if x = nI 4 then a 12 j else if x = nI 5 then a 13 j else if x = nI 6 then hcnt a p 0 120 else if x = nI 7 then hcnt a p 1 120 else if x = nI 8 then a 14 j else if x = nI 9 then a 15 j else if x = nI 10 then a 16 j else if x = nI 11 then a 17 j else if x = nI 12 then a 18 j else if x = nI 13 then a 19 j else -2
def osum (a : Nat → Nat → Int32) : Nat → Int32
  | 0 => 0
  | k + 1 => osum a k + a 14 k
def countV (i : Nat → Int32) (a : Nat → Nat → Int32) (m : Nat) (x : Int32) : Int32 := if x = nI 0 then i 8 else if x = nI 1 then i 22 else if x = nI 2 then i 7 else if x = nI 3 then i 38 else if x = nI 4 then hcnt a (-1) 0 120 else if x = nI 5 then osum a m else if x = nI 6 then i 23 else if x = nI 7 then i 28 else -1
set_option maxRecDepth 100000 in
set_option maxHeartbeats 4000000 in
theorem c_X8_told (l : Launch) (E : En) (o : Nat) (d : Nat → Nat) (i : Nat → Int32) (a : Nat → Nat → Int32) (ch : Nat → List Rt) (p x : Int32) {m : Nat} (hm : i 22 = nI m) (h60 : m ≤ 60) : Mt l E yX8_told cX8_told 3 (some .int) (rmX 2 43 0 0) [.ref o, .int p, .int x] (RV E o d i a ch) (fun _ : Unit => some (.int (if isP i p then toldV a p.toNatClampNeg p x else -2))) (fun _ => RV E o d i a ch) := by
  refine Mt_of (by decide +kernel) (Nat.le_of_ble_eq_true rfl) (fun J O => ?_)
  show J _ 0 0 0 [some (.ref o), some (.int p), some (.int x)] []
  refine x_aload_n (pc := 0) O dX8_told_0 rfl rfl ?_
  refine x_iload_n (pc := 1) O dX8_told_1 rfl ?_
  refine x_callV (pc := 2) (rest := _) (ci := 8) O (c_X8_isPerson l E _ _ _ _ _ _) dX8_told_2 cbX8_107 im_yX8_isPerson se_yX8_isPerson rfl v_recv rfl rfl (Nat.le_of_ble_eq_true rfl) ⟨Nat.le_of_ble_eq_true rfl, Nat.le_of_ble_eq_true rfl⟩ ⟨Nat.le_of_ble_eq_true rfl, Nat.le_of_ble_eq_true rfl⟩ (fun _ => ?_)
  dsimp only [Option.toList, List.append, List.nil_append, List.cons_append, Nat.add_zero, Nat.reduceAdd]
  refine x_if_ne (pc := 5) O 11 dX8_told_5 (by decide) (fun c5 => ?_) (fun c5 => ?_)
  · have hp := in_nat hm (by omega) (b2i_n0 c5)
    refine x_iload_n (pc := 11) O dX8_told_11 rfl ?_
    rcases tb_split x 13 (by decide) with hx12 | ⟨k12, hk12, rfl⟩
    · refine x_tout (pc := 12) O 190 dX8_told_12 hx12 (by decide) ?_
      refine x_bipush (v := (-2)) (pc := 190) O dX8_told_190 (by decide) ?_
      exact x_ret (v := some (.int _)) (pc := 192) O dX8_told_192 rfl (rfl) ⟨Nat.le_refl _, Nat.le_refl _, (), congrArg (fun z => some (Value.int z)) (by rw [if_pos (b2i_n0 c5)]; unfold toldV; rw [if_neg (tb_ne hx12 (k := 0) (by decide) (by decide)), if_neg (tb_ne hx12 (k := 1) (by decide) (by decide)), if_neg (tb_ne hx12 (k := 2) (by decide) (by decide)), if_neg (tb_ne hx12 (k := 3) (by decide) (by decide)), if_neg (tb_ne hx12 (k := 4) (by decide) (by decide)), if_neg (tb_ne hx12 (k := 5) (by decide) (by decide)), if_neg (tb_ne hx12 (k := 6) (by decide) (by decide)), if_neg (tb_ne hx12 (k := 7) (by decide) (by decide)), if_neg (tb_ne hx12 (k := 8) (by decide) (by decide)), if_neg (tb_ne hx12 (k := 9) (by decide) (by decide)), if_neg (tb_ne hx12 (k := 10) (by decide) (by decide)), if_neg (tb_ne hx12 (k := 11) (by decide) (by decide)), if_neg (tb_ne hx12 (k := 12) (by decide) (by decide)), if_neg (tb_ne hx12 (k := 13) (by decide) (by decide))]), fun h hh => hh⟩
    · rcases (show k12 = 0 ∨ k12 = 1 ∨ k12 = 2 ∨ k12 = 3 ∨ k12 = 4 ∨ k12 = 5 ∨ k12 = 6 ∨ k12 = 7 ∨ k12 = 8 ∨ k12 = 9 ∨ k12 = 10 ∨ k12 = 11 ∨ k12 = 12 ∨ k12 = 13 by omega) with rfl | rfl | rfl | rfl | rfl | rfl | rfl | rfl | rfl | rfl | rfl | rfl | rfl | rfl
      · refine x_tin (off := 72) (pc := 12) O 84 dX8_told_12 (by decide) (by decide) (by decide) (by decide) ?_
        refine x_aload_n (pc := 84) O dX8_told_84 rfl rfl ?_
        refine v_get (pc := 85) O dX8_told_85 fdX8_9 rfl rfl ?_
        refine x_iload_n (pc := 88) O dX8_told_88 rfl ?_
        refine v_ald (k := 9) (pc := 89) O dX8_told_89 rfl rfl rfl hp.1 (by show _ < 60; omega) ?_
        exact x_ret (v := some (.int _)) (pc := 90) O dX8_told_90 rfl (rfl) ⟨Nat.le_refl _, Nat.le_refl _, (), congrArg (fun z => some (Value.int z)) (by rw [if_pos (b2i_n0 c5)]; rfl), fun h hh => hh⟩
      · refine x_tin (off := 79) (pc := 12) O 91 dX8_told_12 (by decide) (by decide) (by decide) (by decide) ?_
        refine x_aload_n (pc := 91) O dX8_told_91 rfl rfl ?_
        refine v_get (pc := 92) O dX8_told_92 fdX8_13 rfl rfl ?_
        refine x_iload_n (pc := 95) O dX8_told_95 rfl ?_
        refine v_ald (k := 10) (pc := 96) O dX8_told_96 rfl rfl rfl hp.1 (by show _ < 60; omega) ?_
        exact x_ret (v := some (.int _)) (pc := 97) O dX8_told_97 rfl (rfl) ⟨Nat.le_refl _, Nat.le_refl _, (), congrArg (fun z => some (Value.int z)) (by rw [if_pos (b2i_n0 c5)]; rfl), fun h hh => hh⟩
      · refine x_tin (off := 86) (pc := 12) O 98 dX8_told_12 (by decide) (by decide) (by decide) (by decide) ?_
        refine x_aload_n (pc := 98) O dX8_told_98 rfl rfl ?_
        refine v_get (pc := 99) O dX8_told_99 fdX8_16 rfl rfl ?_
        refine x_iload_n (pc := 102) O dX8_told_102 rfl ?_
        refine v_ald (k := 11) (pc := 103) O dX8_told_103 rfl rfl rfl hp.1 (by show _ < 60; omega) ?_
        exact x_ret (v := some (.int _)) (pc := 104) O dX8_told_104 rfl (rfl) ⟨Nat.le_refl _, Nat.le_refl _, (), congrArg (fun z => some (Value.int z)) (by rw [if_pos (b2i_n0 c5)]; rfl), fun h hh => hh⟩
      · refine x_tin (off := 93) (pc := 12) O 105 dX8_told_12 (by decide) (by decide) (by decide) (by decide) ?_
        refine x_aload_n (pc := 105) O dX8_told_105 rfl rfl ?_
        refine v_get (pc := 106) O dX8_told_106 fdX8_43 rfl rfl ?_
        refine x_iload_n (pc := 109) O dX8_told_109 rfl ?_
        refine v_zld (k := 20) (pc := 110) O dX8_told_110 rfl hp.1 (by omega) ?_
        refine x_if_eq (pc := 111) O 118 dX8_told_111 (by decide) (fun c111 => ?_) (fun c111 => ?_)
        · refine x_iconst (v := 0) (pc := 118) O dX8_told_118 (by decide) ?_
          exact x_ret (v := some (.int _)) (pc := 119) O dX8_told_119 rfl (rfl) ⟨Nat.le_refl _, Nat.le_refl _, (), congrArg (fun z => some (Value.int z)) (by rw [if_pos (b2i_n0 c5)]; show _ = if a 20 p.toNatClampNeg = 0 then (0 : Int32) else 1; rw [if_pos c111]), fun h hh => hh⟩
        · refine x_iconst (v := 1) (pc := 114) O dX8_told_114 (by decide) ?_
          refine x_goto (pc := 115) O 119 dX8_told_115 (by decide) ?_
          exact x_ret (v := some (.int _)) (pc := 119) O dX8_told_119 rfl (rfl) ⟨Nat.le_refl _, Nat.le_refl _, (), congrArg (fun z => some (Value.int z)) (by rw [if_pos (b2i_n0 c5)]; show _ = if a 20 p.toNatClampNeg = 0 then (0 : Int32) else 1; rw [if_neg c111]), fun h hh => hh⟩
      · refine x_tin (off := 108) (pc := 12) O 120 dX8_told_12 (by decide) (by decide) (by decide) (by decide) ?_
        refine x_aload_n (pc := 120) O dX8_told_120 rfl rfl ?_
        refine v_get (pc := 121) O dX8_told_121 fdX8_19 rfl rfl ?_
        refine x_iload_n (pc := 124) O dX8_told_124 rfl ?_
        refine v_ald (k := 12) (pc := 125) O dX8_told_125 rfl rfl rfl hp.1 (by show _ < 60; omega) ?_
        exact x_ret (v := some (.int _)) (pc := 126) O dX8_told_126 rfl (rfl) ⟨Nat.le_refl _, Nat.le_refl _, (), congrArg (fun z => some (Value.int z)) (by rw [if_pos (b2i_n0 c5)]; rfl), fun h hh => hh⟩
      · refine x_tin (off := 115) (pc := 12) O 127 dX8_told_12 (by decide) (by decide) (by decide) (by decide) ?_
        refine x_aload_n (pc := 127) O dX8_told_127 rfl rfl ?_
        refine v_get (pc := 128) O dX8_told_128 fdX8_22 rfl rfl ?_
        refine x_iload_n (pc := 131) O dX8_told_131 rfl ?_
        refine v_ald (k := 13) (pc := 132) O dX8_told_132 rfl rfl rfl hp.1 (by show _ < 60; omega) ?_
        exact x_ret (v := some (.int _)) (pc := 133) O dX8_told_133 rfl (rfl) ⟨Nat.le_refl _, Nat.le_refl _, (), congrArg (fun z => some (Value.int z)) (by rw [if_pos (b2i_n0 c5)]; rfl), fun h hh => hh⟩
      · refine x_tin (off := 122) (pc := 12) O 134 dX8_told_12 (by decide) (by decide) (by decide) (by decide) ?_
        refine x_aload_n (pc := 134) O dX8_told_134 rfl rfl ?_
        refine x_iload_n (pc := 135) O dX8_told_135 rfl ?_
        refine x_iconst (v := 0) (pc := 136) O dX8_told_136 (by decide) ?_
        refine x_callV (pc := 137) (rest := _) (ci := 8) O (c_X8_held l E _ _ _ _ _ _ _) dX8_told_137 cbX8_202 im_yX8_held se_yX8_held rfl v_recv rfl rfl (Nat.le_of_ble_eq_true rfl) ⟨Nat.le_of_ble_eq_true rfl, Nat.le_of_ble_eq_true rfl⟩ ⟨Nat.le_of_ble_eq_true rfl, Nat.le_of_ble_eq_true rfl⟩ (fun _ => ?_)
        dsimp only [Option.toList, List.append, List.nil_append, List.cons_append, Nat.add_zero, Nat.reduceAdd]
        exact x_ret (v := some (.int _)) (pc := 140) O dX8_told_140 rfl (rfl) ⟨Nat.le_refl _, Nat.le_refl _, (), congrArg (fun z => some (Value.int z)) (by rw [if_pos (b2i_n0 c5)]; rfl), fun h hh => hh⟩
      · refine x_tin (off := 129) (pc := 12) O 141 dX8_told_12 (by decide) (by decide) (by decide) (by decide) ?_
        refine x_aload_n (pc := 141) O dX8_told_141 rfl rfl ?_
        refine x_iload_n (pc := 142) O dX8_told_142 rfl ?_
        refine x_iconst (v := 1) (pc := 143) O dX8_told_143 (by decide) ?_
        refine x_callV (pc := 144) (rest := _) (ci := 8) O (c_X8_held l E _ _ _ _ _ _ _) dX8_told_144 cbX8_202 im_yX8_held se_yX8_held rfl v_recv rfl rfl (Nat.le_of_ble_eq_true rfl) ⟨Nat.le_of_ble_eq_true rfl, Nat.le_of_ble_eq_true rfl⟩ ⟨Nat.le_of_ble_eq_true rfl, Nat.le_of_ble_eq_true rfl⟩ (fun _ => ?_)
        dsimp only [Option.toList, List.append, List.nil_append, List.cons_append, Nat.add_zero, Nat.reduceAdd]
        exact x_ret (v := some (.int _)) (pc := 147) O dX8_told_147 rfl (rfl) ⟨Nat.le_refl _, Nat.le_refl _, (), congrArg (fun z => some (Value.int z)) (by rw [if_pos (b2i_n0 c5)]; rfl), fun h hh => hh⟩
      · refine x_tin (off := 136) (pc := 12) O 148 dX8_told_12 (by decide) (by decide) (by decide) (by decide) ?_
        refine x_aload_n (pc := 148) O dX8_told_148 rfl rfl ?_
        refine v_get (pc := 149) O dX8_told_149 fdX8_25 rfl rfl ?_
        refine x_iload_n (pc := 152) O dX8_told_152 rfl ?_
        refine v_ald (k := 14) (pc := 153) O dX8_told_153 rfl rfl rfl hp.1 (by show _ < 60; omega) ?_
        exact x_ret (v := some (.int _)) (pc := 154) O dX8_told_154 rfl (rfl) ⟨Nat.le_refl _, Nat.le_refl _, (), congrArg (fun z => some (Value.int z)) (by rw [if_pos (b2i_n0 c5)]; rfl), fun h hh => hh⟩
      · refine x_tin (off := 143) (pc := 12) O 155 dX8_told_12 (by decide) (by decide) (by decide) (by decide) ?_
        refine x_aload_n (pc := 155) O dX8_told_155 rfl rfl ?_
        refine v_get (pc := 156) O dX8_told_156 fdX8_28 rfl rfl ?_
        refine x_iload_n (pc := 159) O dX8_told_159 rfl ?_
        refine v_ald (k := 15) (pc := 160) O dX8_told_160 rfl rfl rfl hp.1 (by show _ < 60; omega) ?_
        exact x_ret (v := some (.int _)) (pc := 161) O dX8_told_161 rfl (rfl) ⟨Nat.le_refl _, Nat.le_refl _, (), congrArg (fun z => some (Value.int z)) (by rw [if_pos (b2i_n0 c5)]; rfl), fun h hh => hh⟩
      · refine x_tin (off := 150) (pc := 12) O 162 dX8_told_12 (by decide) (by decide) (by decide) (by decide) ?_
        refine x_aload_n (pc := 162) O dX8_told_162 rfl rfl ?_
        refine v_get (pc := 163) O dX8_told_163 fdX8_31 rfl rfl ?_
        refine x_iload_n (pc := 166) O dX8_told_166 rfl ?_
        refine v_ald (k := 16) (pc := 167) O dX8_told_167 rfl rfl rfl hp.1 (by show _ < 60; omega) ?_
        exact x_ret (v := some (.int _)) (pc := 168) O dX8_told_168 rfl (rfl) ⟨Nat.le_refl _, Nat.le_refl _, (), congrArg (fun z => some (Value.int z)) (by rw [if_pos (b2i_n0 c5)]; rfl), fun h hh => hh⟩
      · refine x_tin (off := 157) (pc := 12) O 169 dX8_told_12 (by decide) (by decide) (by decide) (by decide) ?_
        refine x_aload_n (pc := 169) O dX8_told_169 rfl rfl ?_
        refine v_get (pc := 170) O dX8_told_170 fdX8_34 rfl rfl ?_
        refine x_iload_n (pc := 173) O dX8_told_173 rfl ?_
        refine v_ald (k := 17) (pc := 174) O dX8_told_174 rfl rfl rfl hp.1 (by show _ < 60; omega) ?_
        exact x_ret (v := some (.int _)) (pc := 175) O dX8_told_175 rfl (rfl) ⟨Nat.le_refl _, Nat.le_refl _, (), congrArg (fun z => some (Value.int z)) (by rw [if_pos (b2i_n0 c5)]; rfl), fun h hh => hh⟩
      · refine x_tin (off := 164) (pc := 12) O 176 dX8_told_12 (by decide) (by decide) (by decide) (by decide) ?_
        refine x_aload_n (pc := 176) O dX8_told_176 rfl rfl ?_
        refine v_get (pc := 177) O dX8_told_177 fdX8_37 rfl rfl ?_
        refine x_iload_n (pc := 180) O dX8_told_180 rfl ?_
        refine v_ald (k := 18) (pc := 181) O dX8_told_181 rfl rfl rfl hp.1 (by show _ < 60; omega) ?_
        exact x_ret (v := some (.int _)) (pc := 182) O dX8_told_182 rfl (rfl) ⟨Nat.le_refl _, Nat.le_refl _, (), congrArg (fun z => some (Value.int z)) (by rw [if_pos (b2i_n0 c5)]; rfl), fun h hh => hh⟩
      · refine x_tin (off := 171) (pc := 12) O 183 dX8_told_12 (by decide) (by decide) (by decide) (by decide) ?_
        refine x_aload_n (pc := 183) O dX8_told_183 rfl rfl ?_
        refine v_get (pc := 184) O dX8_told_184 fdX8_40 rfl rfl ?_
        refine x_iload_n (pc := 187) O dX8_told_187 rfl ?_
        refine v_ald (k := 19) (pc := 188) O dX8_told_188 rfl rfl rfl hp.1 (by show _ < 60; omega) ?_
        exact x_ret (v := some (.int _)) (pc := 189) O dX8_told_189 rfl (rfl) ⟨Nat.le_refl _, Nat.le_refl _, (), congrArg (fun z => some (Value.int z)) (by rw [if_pos (b2i_n0 c5)]; rfl), fun h hh => hh⟩
  · refine x_bipush (v := (-2)) (pc := 8) O dX8_told_8 (by decide) ?_
    exact x_ret (v := some (.int _)) (pc := 10) O dX8_told_10 rfl (rfl) ⟨Nat.le_refl _, Nat.le_refl _, (), congrArg (fun z => some (Value.int z)) ((if_neg (b2i_z c5)).symm), fun h hh => hh⟩
set_option maxRecDepth 100000 in
set_option maxHeartbeats 4000000 in
theorem c_X8_count (l : Launch) (E : En) (o : Nat) (d : Nat → Nat) (i : Nat → Int32) (a : Nat → Nat → Int32) (ch : Nat → List Rt) (x : Int32) {m : Nat} (hm : i 22 = nI m) (h60 : m ≤ 60) : Mt l E yX8_count cX8_count 4 (some .int) (rmX 1 24 0 0) [.ref o, .int x] (RV E o d i a ch) (fun _ : Unit => some (.int (countV i a m x))) (fun _ => RV E o d i a ch) := by
  refine Mt_of (by decide +kernel) (Nat.le_of_ble_eq_true rfl) (fun J O => ?_)
  show J _ 0 0 0 [some (.ref o), some (.int x), none, none] []
  refine x_iload_n (pc := 0) O dX8_count_0 rfl ?_
  rcases tb_split x 7 (by decide) with hx1 | ⟨k1, hk1, rfl⟩
  · refine x_tout (pc := 1) O 114 dX8_count_1 hx1 (by decide) ?_
    refine x_iconst (v := (-1)) (pc := 114) O dX8_count_114 (by decide) ?_
    exact x_ret (v := some (.int _)) (pc := 115) O dX8_count_115 rfl (rfl) ⟨Nat.le_refl _, Nat.le_refl _, (), congrArg (fun z => some (Value.int z)) (by unfold countV; rw [if_neg (tb_ne hx1 (k := 0) (by decide) (by decide)), if_neg (tb_ne hx1 (k := 1) (by decide) (by decide)), if_neg (tb_ne hx1 (k := 2) (by decide) (by decide)), if_neg (tb_ne hx1 (k := 3) (by decide) (by decide)), if_neg (tb_ne hx1 (k := 4) (by decide) (by decide)), if_neg (tb_ne hx1 (k := 5) (by decide) (by decide)), if_neg (tb_ne hx1 (k := 6) (by decide) (by decide)), if_neg (tb_ne hx1 (k := 7) (by decide) (by decide))]), fun h hh => hh⟩
  · rcases (show k1 = 0 ∨ k1 = 1 ∨ k1 = 2 ∨ k1 = 3 ∨ k1 = 4 ∨ k1 = 5 ∨ k1 = 6 ∨ k1 = 7 by omega) with rfl | rfl | rfl | rfl | rfl | rfl | rfl | rfl
    · refine x_tin (off := 47) (pc := 1) O 48 dX8_count_1 (by decide) (by decide) (by decide) (by decide) ?_
      refine x_aload_n (pc := 48) O dX8_count_48 rfl rfl ?_
      refine v_get (pc := 49) O dX8_count_49 fdX8_118 rfl rfl ?_
      exact x_ret (v := some (.int _)) (pc := 52) O dX8_count_52 rfl (rfl) ⟨Nat.le_refl _, Nat.le_refl _, (), rfl, fun h hh => hh⟩
    · refine x_tin (off := 52) (pc := 1) O 53 dX8_count_1 (by decide) (by decide) (by decide) (by decide) ?_
      refine x_aload_n (pc := 53) O dX8_count_53 rfl rfl ?_
      refine v_get (pc := 54) O dX8_count_54 fdX8_99 rfl rfl ?_
      exact x_ret (v := some (.int _)) (pc := 57) O dX8_count_57 rfl (rfl) ⟨Nat.le_refl _, Nat.le_refl _, (), rfl, fun h hh => hh⟩
    · refine x_tin (off := 57) (pc := 1) O 58 dX8_count_1 (by decide) (by decide) (by decide) (by decide) ?_
      refine x_aload_n (pc := 58) O dX8_count_58 rfl rfl ?_
      refine v_get (pc := 59) O dX8_count_59 fdX8_151 rfl rfl ?_
      exact x_ret (v := some (.int _)) (pc := 62) O dX8_count_62 rfl (rfl) ⟨Nat.le_refl _, Nat.le_refl _, (), rfl, fun h hh => hh⟩
    · refine x_tin (off := 62) (pc := 1) O 63 dX8_count_1 (by decide) (by decide) (by decide) (by decide) ?_
      refine x_aload_n (pc := 63) O dX8_count_63 rfl rfl ?_
      refine v_get (pc := 64) O dX8_count_64 fdX8_209 rfl rfl ?_
      exact x_ret (v := some (.int _)) (pc := 67) O dX8_count_67 rfl (rfl) ⟨Nat.le_refl _, Nat.le_refl _, (), rfl, fun h hh => hh⟩
    · refine x_tin (off := 67) (pc := 1) O 68 dX8_count_1 (by decide) (by decide) (by decide) (by decide) ?_
      refine x_aload_n (pc := 68) O dX8_count_68 rfl rfl ?_
      refine x_iconst (v := (-1)) (pc := 69) O dX8_count_69 (by decide) ?_
      refine x_iconst (v := 0) (pc := 70) O dX8_count_70 (by decide) ?_
      refine x_callV (pc := 71) (rest := _) (ci := 8) O (c_X8_held l E _ _ _ _ _ _ _) dX8_count_71 cbX8_202 im_yX8_held se_yX8_held rfl v_recv rfl rfl (Nat.le_of_ble_eq_true rfl) ⟨Nat.le_of_ble_eq_true rfl, Nat.le_of_ble_eq_true rfl⟩ ⟨Nat.le_of_ble_eq_true rfl, Nat.le_of_ble_eq_true rfl⟩ (fun _ => ?_)
      dsimp only [Option.toList, List.append, List.nil_append, List.cons_append, Nat.add_zero, Nat.reduceAdd]
      exact x_ret (v := some (.int _)) (pc := 74) O dX8_count_74 rfl (rfl) ⟨Nat.le_refl _, Nat.le_refl _, (), rfl, fun h hh => hh⟩
    · refine x_tin (off := 74) (pc := 1) O 75 dX8_count_1 (by decide) (by decide) (by decide) (by decide) ?_
      refine x_iconst (v := 0) (pc := 75) O dX8_count_75 (by decide) ?_
      refine x_istore_n (pc := 76) O dX8_count_76 (by decide) rfl ?_
      refine x_iconst (v := nI 0) (pc := 77) O dX8_count_77 (by decide) ?_
      refine x_istore_n (pc := 78) O dX8_count_78 (by decide) rfl ?_
      have loop : ∀ k, k ≤ m → J (RV E o d i a ch) 0 0 79 [some (.ref o), some (.int (nI 5)), some (.int (osum a k)), some (.int (nI k))] [] := by
        refine up_ind m (fun k hk ih => ?_)
        refine x_iload_n (pc := 79) O dX8_count_79 rfl ?_
        refine x_aload_n (pc := 80) O dX8_count_80 rfl rfl ?_
        refine v_get (pc := 81) O dX8_count_81 fdX8_99 rfl rfl ?_
        refine x_icmp_ge (pc := 84) O 102 dX8_count_84 (by decide) (fun c84 => ?_) (fun c84 => ?_)
        · refine x_iload_n (pc := 102) O dX8_count_102 rfl ?_
          have hk2 : k = m := by
            rw [hm, nI_leI (by omega) (by omega)] at c84
            omega
          subst hk2
          exact x_ret (v := some (.int _)) (pc := 103) O dX8_count_103 rfl (rfl) ⟨Nat.le_refl _, Nat.le_refl _, (), rfl, fun h hh => hh⟩
        · have hk3 : k < m := by
            rw [hm, nI_leI (by omega) (by omega)] at c84
            omega
          refine x_iload_n (pc := 87) O dX8_count_87 rfl ?_
          refine x_aload_n (pc := 88) O dX8_count_88 rfl rfl ?_
          refine v_get (pc := 89) O dX8_count_89 fdX8_25 rfl rfl ?_
          refine x_iload_n (pc := 92) O dX8_count_92 rfl ?_
          refine v_ald (k := 14) (pc := 93) O dX8_count_93 rfl rfl rfl rfl (by show _ < 60; omega) ?_
          refine x_iadd (pc := 94) O dX8_count_94 ?_
          refine x_istore_n (pc := 95) O dX8_count_95 (by decide) rfl ?_
          refine x_iinc (v := nI (k + 1)) (pc := 96) O dX8_count_96 rfl (nI_succ k).symm rfl ?_
          refine x_goto (pc := 99) O 79 dX8_count_99 (by decide) ?_
          exact ih (by omega)
      exact loop 0 (by omega)
    · refine x_tin (off := 103) (pc := 1) O 104 dX8_count_1 (by decide) (by decide) (by decide) (by decide) ?_
      refine x_aload_n (pc := 104) O dX8_count_104 rfl rfl ?_
      refine v_get (pc := 105) O dX8_count_105 fdX8_206 rfl rfl ?_
      exact x_ret (v := some (.int _)) (pc := 108) O dX8_count_108 rfl (rfl) ⟨Nat.le_refl _, Nat.le_refl _, (), rfl, fun h hh => hh⟩
    · refine x_tin (off := 108) (pc := 1) O 109 dX8_count_1 (by decide) (by decide) (by decide) (by decide) ?_
      refine x_aload_n (pc := 109) O dX8_count_109 rfl rfl ?_
      refine v_get (pc := 110) O dX8_count_110 fdX8_111 rfl rfl ?_
      exact x_ret (v := some (.int _)) (pc := 113) O dX8_count_113 rfl (rfl) ⟨Nat.le_refl _, Nat.le_refl _, (), rfl, fun h hh => hh⟩
def fallsA (a : Nat → Nat → Int32) (k b1 b2 : Nat) : Nat → Nat → Int32 :=
  let p := if a 20 b2 = 0 then b1 else b2
  let a2 := up2 (up2 a 14 p (a 14 p + 3)) 37 k (a 37 k + 1)
  if 2 ≤ a 37 k + 1 then up2 (up2 a2 35 k 2) 14 b1 ((up2 a2 35 k 2) 14 b1 + 6) else a2
set_option maxRecDepth 100000 in
set_option maxHeartbeats 4000000 in
theorem c_X8_falls (l : Launch) (E : En) (o : Nat) (d : Nat → Nat) (i : Nat → Int32) (a : Nat → Nat → Int32) (ch : Nat → List Rt) (k : Nat) {b1 b2 : Nat} (h32 : a 32 k = nI b1) (h33 : a 33 k = nI b2) (hb1 : b1 < 60) (hb2 : b2 < 60) (hk : k < 40) : Mt l E yX8_falls cX8_falls 3 none (rmX 0 0 0 0) [.ref o, .int (nI k)] (RV E o d i a ch) (fun _ : Unit => none) (fun _ => RV E o d i (fallsA a k b1 b2) ch) := by
  refine Mt_of (by decide +kernel) (Nat.le_of_ble_eq_true rfl) (fun J O => ?_)
  show J _ 0 0 0 [some (.ref o), some (.int (nI k)), none] []
  refine x_aload_n (pc := 0) O dX8_falls_0 rfl rfl ?_
  refine v_get (pc := 1) O dX8_falls_1 fdX8_43 rfl rfl ?_
  refine x_aload_n (pc := 4) O dX8_falls_4 rfl rfl ?_
  refine v_get (pc := 5) O dX8_falls_5 fdX8_74 rfl rfl ?_
  refine x_iload_n (pc := 8) O dX8_falls_8 rfl ?_
  refine v_ald (k := 33) (pc := 9) O dX8_falls_9 rfl rfl rfl rfl (by show _ < 40; omega) ?_
  refine v_zld (k := 20) (pc := 10) O dX8_falls_10 rfl h33 (by omega) ?_
  refine x_if_eq (pc := 11) O 23 dX8_falls_11 (by decide) (fun c11 => ?_) (fun c11 => ?_)
  · refine x_aload_n (pc := 23) O dX8_falls_23 rfl rfl ?_
    refine v_get (pc := 24) O dX8_falls_24 fdX8_71 rfl rfl ?_
    refine x_iload_n (pc := 27) O dX8_falls_27 rfl ?_
    refine v_ald (k := 32) (pc := 28) O dX8_falls_28 rfl rfl rfl rfl (by show _ < 40; omega) ?_
    refine x_istore_n (pc := 29) O dX8_falls_29 (by decide) rfl ?_
    refine x_aload_n (pc := 30) O dX8_falls_30 rfl rfl ?_
    refine v_get (pc := 31) O dX8_falls_31 fdX8_25 rfl rfl ?_
    refine x_iload_n (pc := 34) O dX8_falls_34 rfl ?_
    refine x_dup2 (pc := 35) O dX8_falls_35 rfl rfl ?_
    refine v_ald (k := 14) (pc := 36) O dX8_falls_36 rfl rfl rfl h32 (by show _ < 60; omega) ?_
    refine x_iconst (v := 3) (pc := 37) O dX8_falls_37 (by decide) ?_
    refine x_iadd (pc := 38) O dX8_falls_38 ?_
    refine v_ast (k := 14) (pc := 39) O dX8_falls_39 rfl rfl rfl h32 (by show _ < 60; omega) ?_
    refine x_aload_n (pc := 40) O dX8_falls_40 rfl rfl ?_
    refine v_get (pc := 41) O dX8_falls_41 fdX8_86 rfl rfl ?_
    refine x_iload_n (pc := 44) O dX8_falls_44 rfl ?_
    refine x_dup2 (pc := 45) O dX8_falls_45 rfl rfl ?_
    refine v_aldv (k := 37) (v := a 37 k) (pc := 46) O dX8_falls_46 rfl rfl rfl rfl (by show _ < 40; omega) (by simp [up2, upd]) ?_
    refine x_iconst (v := 1) (pc := 47) O dX8_falls_47 (by decide) ?_
    refine x_iadd (pc := 48) O dX8_falls_48 ?_
    refine v_ast (k := 37) (pc := 49) O dX8_falls_49 rfl rfl rfl rfl (by show _ < 40; omega) ?_
    refine x_aload_n (pc := 50) O dX8_falls_50 rfl rfl ?_
    refine v_get (pc := 51) O dX8_falls_51 fdX8_86 rfl rfl ?_
    refine x_iload_n (pc := 54) O dX8_falls_54 rfl ?_
    refine v_aldv (k := 37) (v := a 37 k + 1) (pc := 55) O dX8_falls_55 rfl rfl rfl rfl (by show _ < 40; omega) (by simp [up2, upd]) ?_
    refine x_iconst (v := 2) (pc := 56) O dX8_falls_56 (by decide) ?_
    refine x_icmp_ge (pc := 57) O 61 dX8_falls_57 (by decide) (fun c57 => ?_) (fun c57 => ?_)
    · refine x_aload_n (pc := 61) O dX8_falls_61 rfl rfl ?_
      refine v_get (pc := 62) O dX8_falls_62 fdX8_80 rfl rfl ?_
      refine x_iload_n (pc := 65) O dX8_falls_65 rfl ?_
      refine x_iconst (v := 2) (pc := 66) O dX8_falls_66 (by decide) ?_
      refine v_ast (k := 35) (pc := 67) O dX8_falls_67 rfl rfl rfl rfl (by show _ < 40; omega) ?_
      refine x_aload_n (pc := 68) O dX8_falls_68 rfl rfl ?_
      refine v_get (pc := 69) O dX8_falls_69 fdX8_25 rfl rfl ?_
      refine x_aload_n (pc := 72) O dX8_falls_72 rfl rfl ?_
      refine v_get (pc := 73) O dX8_falls_73 fdX8_71 rfl rfl ?_
      refine x_iload_n (pc := 76) O dX8_falls_76 rfl ?_
      refine v_aldv (k := 32) (v := a 32 k) (pc := 77) O dX8_falls_77 rfl rfl rfl rfl (by show _ < 40; omega) (by simp [up2, upd]) ?_
      refine x_dup2 (pc := 78) O dX8_falls_78 rfl rfl ?_
      refine v_ald (k := 14) (pc := 79) O dX8_falls_79 rfl rfl rfl h32 (by show _ < 60; omega) ?_
      refine x_bipush (v := 6) (pc := 80) O dX8_falls_80 (by decide) ?_
      refine x_iadd (pc := 82) O dX8_falls_82 ?_
      refine v_ast (k := 14) (pc := 83) O dX8_falls_83 rfl rfl rfl h32 (by show _ < 60; omega) ?_
      exact x_ret (v := none) (pc := 84) O dX8_falls_84 rfl trivial ⟨Nat.le_refl _, Nat.le_refl _, (), rfl, fun h hh => by unfold fallsA; simp only [if_pos c11, if_pos c57]; exact hh⟩
    · exact x_ret (v := none) (pc := 60) O dX8_falls_60 rfl trivial ⟨Nat.le_refl _, Nat.le_refl _, (), rfl, fun h hh => by unfold fallsA; simp only [if_pos c11, if_neg c57]; exact hh⟩
  · refine x_aload_n (pc := 14) O dX8_falls_14 rfl rfl ?_
    refine v_get (pc := 15) O dX8_falls_15 fdX8_74 rfl rfl ?_
    refine x_iload_n (pc := 18) O dX8_falls_18 rfl ?_
    refine v_ald (k := 33) (pc := 19) O dX8_falls_19 rfl rfl rfl rfl (by show _ < 40; omega) ?_
    refine x_goto (pc := 20) O 29 dX8_falls_20 (by decide) ?_
    refine x_istore_n (pc := 29) O dX8_falls_29 (by decide) rfl ?_
    refine x_aload_n (pc := 30) O dX8_falls_30 rfl rfl ?_
    refine v_get (pc := 31) O dX8_falls_31 fdX8_25 rfl rfl ?_
    refine x_iload_n (pc := 34) O dX8_falls_34 rfl ?_
    refine x_dup2 (pc := 35) O dX8_falls_35 rfl rfl ?_
    refine v_ald (k := 14) (pc := 36) O dX8_falls_36 rfl rfl rfl h33 (by show _ < 60; omega) ?_
    refine x_iconst (v := 3) (pc := 37) O dX8_falls_37 (by decide) ?_
    refine x_iadd (pc := 38) O dX8_falls_38 ?_
    refine v_ast (k := 14) (pc := 39) O dX8_falls_39 rfl rfl rfl h33 (by show _ < 60; omega) ?_
    refine x_aload_n (pc := 40) O dX8_falls_40 rfl rfl ?_
    refine v_get (pc := 41) O dX8_falls_41 fdX8_86 rfl rfl ?_
    refine x_iload_n (pc := 44) O dX8_falls_44 rfl ?_
    refine x_dup2 (pc := 45) O dX8_falls_45 rfl rfl ?_
    refine v_aldv (k := 37) (v := a 37 k) (pc := 46) O dX8_falls_46 rfl rfl rfl rfl (by show _ < 40; omega) (by simp [up2, upd]) ?_
    refine x_iconst (v := 1) (pc := 47) O dX8_falls_47 (by decide) ?_
    refine x_iadd (pc := 48) O dX8_falls_48 ?_
    refine v_ast (k := 37) (pc := 49) O dX8_falls_49 rfl rfl rfl rfl (by show _ < 40; omega) ?_
    refine x_aload_n (pc := 50) O dX8_falls_50 rfl rfl ?_
    refine v_get (pc := 51) O dX8_falls_51 fdX8_86 rfl rfl ?_
    refine x_iload_n (pc := 54) O dX8_falls_54 rfl ?_
    refine v_aldv (k := 37) (v := a 37 k + 1) (pc := 55) O dX8_falls_55 rfl rfl rfl rfl (by show _ < 40; omega) (by simp [up2, upd]) ?_
    refine x_iconst (v := 2) (pc := 56) O dX8_falls_56 (by decide) ?_
    refine x_icmp_ge (pc := 57) O 61 dX8_falls_57 (by decide) (fun c57 => ?_) (fun c57 => ?_)
    · refine x_aload_n (pc := 61) O dX8_falls_61 rfl rfl ?_
      refine v_get (pc := 62) O dX8_falls_62 fdX8_80 rfl rfl ?_
      refine x_iload_n (pc := 65) O dX8_falls_65 rfl ?_
      refine x_iconst (v := 2) (pc := 66) O dX8_falls_66 (by decide) ?_
      refine v_ast (k := 35) (pc := 67) O dX8_falls_67 rfl rfl rfl rfl (by show _ < 40; omega) ?_
      refine x_aload_n (pc := 68) O dX8_falls_68 rfl rfl ?_
      refine v_get (pc := 69) O dX8_falls_69 fdX8_25 rfl rfl ?_
      refine x_aload_n (pc := 72) O dX8_falls_72 rfl rfl ?_
      refine v_get (pc := 73) O dX8_falls_73 fdX8_71 rfl rfl ?_
      refine x_iload_n (pc := 76) O dX8_falls_76 rfl ?_
      refine v_aldv (k := 32) (v := a 32 k) (pc := 77) O dX8_falls_77 rfl rfl rfl rfl (by show _ < 40; omega) (by simp [up2, upd]) ?_
      refine x_dup2 (pc := 78) O dX8_falls_78 rfl rfl ?_
      refine v_ald (k := 14) (pc := 79) O dX8_falls_79 rfl rfl rfl h32 (by show _ < 60; omega) ?_
      refine x_bipush (v := 6) (pc := 80) O dX8_falls_80 (by decide) ?_
      refine x_iadd (pc := 82) O dX8_falls_82 ?_
      refine v_ast (k := 14) (pc := 83) O dX8_falls_83 rfl rfl rfl h32 (by show _ < 60; omega) ?_
      exact x_ret (v := none) (pc := 84) O dX8_falls_84 rfl trivial ⟨Nat.le_refl _, Nat.le_refl _, (), rfl, fun h hh => by unfold fallsA; simp only [if_neg c11, if_pos c57]; exact hh⟩
    · exact x_ret (v := none) (pc := 60) O dX8_falls_60 rfl trivial ⟨Nat.le_refl _, Nat.le_refl _, (), rfl, fun h hh => by unfold fallsA; simp only [if_neg c11, if_neg c57]; exact hh⟩
def crtStep (i : Nat → Int32) (a : Nat → Nat → Int32) (k b0 b1 b2 : Nat) : Nat → Nat → Int32 :=
  let a1 := up2 a 34 k 0
  if a 20 b1 = 0 then up2 a1 35 k 1
  else if a 34 k ≤ 1 then (if a 34 k = 1 ∧ a 36 k < i 6 then up2 a1 36 k (a 36 k + 1) else fallsA a1 k b1 b2)
  else (let t := if a 34 k = 2 then b1 else b0
    up2 (up2 a1 35 k (a 34 k)) 14 t (a 14 t + 6))
def crtOne (i : Nat → Int32) (a : Nat → Nat → Int32) (k : Nat) : Nat → Nat → Int32 := if a 35 k = 0 then crtStep i a k (a 31 k).toNatClampNeg (a 32 k).toNatClampNeg (a 33 k).toNatClampNeg else a
def crt (i : Nat → Int32) (a : Nat → Nat → Int32) : Nat → (Nat → Nat → Int32) × Int32
  | 0 => (a, 0)
  | k + 1 => (crtOne i (crt i a k).1 k, (crt i a k).2 + (if (crt i a k).1 35 k = 0 ∧ ¬ crtOne i (crt i a k).1 k 35 k = 0 then 1 else 0))
theorem fallsA_keep (a : Nat → Nat → Int32) (k b1 b2 : Nat) {q : Nat} (h1 : q ≠ 14) (h2 : q ≠ 37) (h3 : q ≠ 35) : fallsA a k b1 b2 q = a q := by
  unfold fallsA
  try dsimp only
  split <;> simp [up2, h1, h2, h3]
theorem crtOne_keep (i : Nat → Int32) (a : Nat → Nat → Int32) (k : Nat) {q : Nat} (h1 : q ≠ 14) (h2 : q ≠ 37) (h3 : q ≠ 35) (h4 : q ≠ 34) (h5 : q ≠ 36) : crtOne i a k q = a q := by
  unfold crtOne crtStep
  try dsimp only
  (repeat' split) <;> first | rfl | (rw [fallsA_keep _ _ _ _ h1 h2 h3]; simp [up2, h4]) | simp [up2, h1, h2, h3, h4, h5]
theorem crt_keep (i : Nat → Int32) (a : Nat → Nat → Int32) {q : Nat} (h1 : q ≠ 14) (h2 : q ≠ 37) (h3 : q ≠ 35) (h4 : q ≠ 34) (h5 : q ≠ 36) : ∀ k, (crt i a k).1 q = a q
  | 0 => rfl
  | k + 1 => by
    show crtOne i (crt i a k).1 k q = a q
    rw [crtOne_keep i _ k h1 h2 h3 h4 h5]
    exact crt_keep i a h1 h2 h3 h4 h5 k
set_option maxRecDepth 100000 in
set_option maxHeartbeats 4000000 in
theorem c_X8_court (l : Launch) (E : En) (o : Nat) (d : Nat → Nat) (i : Nat → Int32) (a : Nat → Nat → Int32) (ch : Nat → List Rt) {ns : Nat} (hs : i 38 = nI ns) (h40 : ns ≤ 40) (hsu : ∀ k, k < ns → ∃ b0 b1 b2, b0 < 60 ∧ b1 < 60 ∧ b2 < 60 ∧ a 31 k = nI b0 ∧ a 32 k = nI b1 ∧ a 33 k = nI b2) : Mt l E yX8_court cX8_court 4 (some .int) (rmX 1 22 0 0) [.ref o] (RV E o d i a ch) (fun _ : Unit => some (.int (crt i a ns).2)) (fun _ => RV E o d i (crt i a ns).1 ch) := by
  refine Mt_of (by decide +kernel) (Nat.le_of_ble_eq_true rfl) (fun J O => ?_)
  show J _ 0 0 0 [some (.ref o), none, none, none] []
  have loop : ∀ k, k ≤ ns → ∀ (A : Nat → Nat → Int32) (n : Int32), A = (crt i a k).1 → n = (crt i a k).2 → J (RV E o d i A ch) 0 0 4 [some (.ref o), some (.int n), some (.int (nI k)), none] [] := by
    refine up_ind (Φ := fun k => ∀ (A : Nat → Nat → Int32) (n : Int32), A = (crt i a k).1 → n = (crt i a k).2 → J (RV E o d i A ch) 0 0 4 [some (.ref o), some (.int n), some (.int (nI k)), none] []) ns (fun k hk ih A n hA hn => ?_)
    refine x_iload_n (pc := 4) O dX8_court_4 rfl ?_
    refine x_aload_n (pc := 5) O dX8_court_5 rfl rfl ?_
    refine v_get (pc := 6) O dX8_court_6 fdX8_209 rfl rfl ?_
    refine x_icmp_ge (pc := 9) O 166 dX8_court_9 (by decide) (fun c9 => ?_) (fun c9 => ?_)
    · refine x_iload_n (pc := 166) O dX8_court_166 rfl ?_
      have hk2 : k = ns := by
        rw [hs, nI_leI (by omega) (by omega)] at c9
        omega
      subst hk2
      exact x_ret (v := some (.int _)) (pc := 167) O dX8_court_167 rfl (rfl) ⟨Nat.le_refl _, Nat.le_refl _, (), congrArg (fun z => some (Value.int z)) (hn), fun h hh => by rw [← hA]; exact hh⟩
    · have hk3 : k < ns := by
        rw [hs, nI_leI (by omega) (by omega)] at c9
        omega
      obtain ⟨b0, b1, b2, g0, g1, g2, e0, e1, e2⟩ := hsu k hk3
      have h31 : A 31 k = nI b0 := by rw [hA, crt_keep i a (by decide) (by decide) (by decide) (by decide) (by decide)]; exact e0
      have h32 : A 32 k = nI b1 := by rw [hA, crt_keep i a (by decide) (by decide) (by decide) (by decide) (by decide)]; exact e1
      have h33 : A 33 k = nI b2 := by rw [hA, crt_keep i a (by decide) (by decide) (by decide) (by decide) (by decide)]; exact e2
      have k31 : (A 31 k).toNatClampNeg = b0 := by rw [h31, nI_clamp (by omega)]
      have k32 : (A 32 k).toNatClampNeg = b1 := by rw [h32, nI_clamp (by omega)]
      have k33 : (A 33 k).toNatClampNeg = b2 := by rw [h33, nI_clamp (by omega)]
      refine x_aload_n (pc := 12) O dX8_court_12 rfl rfl ?_
      refine v_get (pc := 13) O dX8_court_13 fdX8_80 rfl rfl ?_
      refine x_iload_n (pc := 16) O dX8_court_16 rfl ?_
      refine v_ald (k := 35) (pc := 17) O dX8_court_17 rfl rfl rfl rfl (by show _ < 40; omega) ?_
      refine x_if_eq (pc := 18) O 24 dX8_court_18 (by decide) (fun c18 => ?_) (fun c18 => ?_)
      · have tail : ∀ B, B = crtOne i A k → ∀ x3, A 34 k = x3 → J (RV E o d i B ch) 0 0 143 [some (.ref o), some (.int n), some (.int (nI k)), some (.int x3)] [] := by
          intro B hone x3 hx3
          refine x_iload_n (pc := 143) O dX8_court_143 rfl ?_
          refine x_aload_n (pc := 144) O dX8_court_144 rfl rfl ?_
          refine v_get (pc := 145) O dX8_court_145 fdX8_80 rfl rfl ?_
          refine x_iload_n (pc := 148) O dX8_court_148 rfl ?_
          refine v_ald (k := 35) (pc := 149) O dX8_court_149 rfl rfl rfl rfl (by show _ < 40; omega) ?_
          refine x_if_eq (pc := 150) O 157 dX8_court_150 (by decide) (fun c150 => ?_) (fun c150 => ?_)
          · refine x_iconst (v := 0) (pc := 157) O dX8_court_157 (by decide) ?_
            refine x_iadd (pc := 158) O dX8_court_158 ?_
            refine x_istore_n (pc := 159) O dX8_court_159 (by decide) rfl ?_
            refine x_iinc (v := nI (k + 1)) (pc := 160) O dX8_court_160 rfl (nI_succ k).symm rfl ?_
            refine x_goto (pc := 163) O 4 dX8_court_163 (by decide) ?_
            refine x_lv O [some (.ref o), some (.int (n + 0)), some (.int (nI (k + 1))), none] ⟨rfl, rfl, rfl, trivial⟩ ?_
            refine ih (by omega) _ _ ?_ ?_
            · show _ = crtOne i (crt i a k).1 k
              rw [← hA, ← hone]
            · show _ = (crt i a k).2 + _
              rw [← hA, ← hn, ← hone]
              rw [if_neg (fun z => z.2 c150)]
          · refine x_iconst (v := 1) (pc := 153) O dX8_court_153 (by decide) ?_
            refine x_goto (pc := 154) O 158 dX8_court_154 (by decide) ?_
            refine x_iadd (pc := 158) O dX8_court_158 ?_
            refine x_istore_n (pc := 159) O dX8_court_159 (by decide) rfl ?_
            refine x_iinc (v := nI (k + 1)) (pc := 160) O dX8_court_160 rfl (nI_succ k).symm rfl ?_
            refine x_goto (pc := 163) O 4 dX8_court_163 (by decide) ?_
            refine x_lv O [some (.ref o), some (.int (n + 1)), some (.int (nI (k + 1))), none] ⟨rfl, rfl, rfl, trivial⟩ ?_
            refine ih (by omega) _ _ ?_ ?_
            · show _ = crtOne i (crt i a k).1 k
              rw [← hA, ← hone]
            · show _ = (crt i a k).2 + _
              rw [← hA, ← hn, ← hone]
              rw [if_pos ⟨c18, c150⟩]
        refine x_aload_n (pc := 24) O dX8_court_24 rfl rfl ?_
        refine v_get (pc := 25) O dX8_court_25 fdX8_77 rfl rfl ?_
        refine x_iload_n (pc := 28) O dX8_court_28 rfl ?_
        refine v_ald (k := 34) (pc := 29) O dX8_court_29 rfl rfl rfl rfl (by show _ < 40; omega) ?_
        refine x_istore_n (pc := 30) O dX8_court_30 (by decide) rfl ?_
        refine x_aload_n (pc := 31) O dX8_court_31 rfl rfl ?_
        refine v_get (pc := 32) O dX8_court_32 fdX8_77 rfl rfl ?_
        refine x_iload_n (pc := 35) O dX8_court_35 rfl ?_
        refine x_iconst (v := 0) (pc := 36) O dX8_court_36 (by decide) ?_
        refine v_ast (k := 34) (pc := 37) O dX8_court_37 rfl rfl rfl rfl (by show _ < 40; omega) ?_
        refine x_aload_n (pc := 38) O dX8_court_38 rfl rfl ?_
        refine v_get (pc := 39) O dX8_court_39 fdX8_43 rfl rfl ?_
        refine x_aload_n (pc := 42) O dX8_court_42 rfl rfl ?_
        refine v_get (pc := 43) O dX8_court_43 fdX8_71 rfl rfl ?_
        refine x_iload_n (pc := 46) O dX8_court_46 rfl ?_
        refine v_aldv (k := 32) (v := A 32 k) (pc := 47) O dX8_court_47 rfl rfl rfl rfl (by show _ < 40; omega) (by simp [up2, upd]) ?_
        refine v_zldv (k := 20) (v := A 20 b1) (pc := 48) O dX8_court_48 rfl h32 (by omega) (by simp [up2, upd]) ?_
        refine x_if_ne (pc := 49) O 62 dX8_court_49 (by decide) (fun c49 => ?_) (fun c49 => ?_)
        · refine x_iload_n (pc := 62) O dX8_court_62 rfl ?_
          refine x_iconst (v := 1) (pc := 63) O dX8_court_63 (by decide) ?_
          refine x_icmp_le (pc := 64) O 107 dX8_court_64 (by decide) (fun c64 => ?_) (fun c64 => ?_)
          · refine x_iload_n (pc := 107) O dX8_court_107 rfl ?_
            refine x_iconst (v := 1) (pc := 108) O dX8_court_108 (by decide) ?_
            refine x_icmp_ne (pc := 109) O 138 dX8_court_109 (by decide) (fun c109 => ?_) (fun c109 => ?_)
            · refine x_aload_n (pc := 138) O dX8_court_138 rfl rfl ?_
              refine x_iload_n (pc := 139) O dX8_court_139 rfl ?_
              refine x_callV (pc := 140) (rest := _) (ci := 8) O (c_X8_falls l E _ _ _ _ _ k (b1 := b1) (b2 := b2) (by simp only [up2]; exact h32) (by simp only [up2]; exact h33) g1 g2 (by omega)) dX8_court_140 cbX8_212 im_yX8_falls se_yX8_falls rfl v_recv rfl rfl (Nat.le_of_ble_eq_true rfl) ⟨Nat.le_of_ble_eq_true rfl, Nat.le_of_ble_eq_true rfl⟩ ⟨Nat.le_of_ble_eq_true rfl, Nat.le_of_ble_eq_true rfl⟩ (fun _ => ?_)
              dsimp only [Option.toList, List.append, List.nil_append, List.cons_append, Nat.add_zero, Nat.reduceAdd]
              refine tail _ ?_ _ (show A 34 k = A 34 k from rfl)
              unfold crtOne crtStep; rw [k31, k32, k33, if_pos c18]; dsimp only; rw [if_neg c49]; rw [if_pos c64]; rw [if_neg (fun z => c109 z.1)]
            · refine x_aload_n (pc := 112) O dX8_court_112 rfl rfl ?_
              refine v_get (pc := 113) O dX8_court_113 fdX8_83 rfl rfl ?_
              refine x_iload_n (pc := 116) O dX8_court_116 rfl ?_
              refine v_aldv (k := 36) (v := A 36 k) (pc := 117) O dX8_court_117 rfl rfl rfl rfl (by show _ < 40; omega) (by simp [up2, upd]) ?_
              refine x_aload_n (pc := 118) O dX8_court_118 rfl rfl ?_
              refine v_get (pc := 119) O dX8_court_119 fdX8_139 rfl rfl ?_
              refine x_icmp_ge (pc := 122) O 138 dX8_court_122 (by decide) (fun c122 => ?_) (fun c122 => ?_)
              · refine x_aload_n (pc := 138) O dX8_court_138 rfl rfl ?_
                refine x_iload_n (pc := 139) O dX8_court_139 rfl ?_
                refine x_callV (pc := 140) (rest := _) (ci := 8) O (c_X8_falls l E _ _ _ _ _ k (b1 := b1) (b2 := b2) (by simp only [up2]; exact h32) (by simp only [up2]; exact h33) g1 g2 (by omega)) dX8_court_140 cbX8_212 im_yX8_falls se_yX8_falls rfl v_recv rfl rfl (Nat.le_of_ble_eq_true rfl) ⟨Nat.le_of_ble_eq_true rfl, Nat.le_of_ble_eq_true rfl⟩ ⟨Nat.le_of_ble_eq_true rfl, Nat.le_of_ble_eq_true rfl⟩ (fun _ => ?_)
                dsimp only [Option.toList, List.append, List.nil_append, List.cons_append, Nat.add_zero, Nat.reduceAdd]
                refine tail _ ?_ _ (show A 34 k = A 34 k from rfl)
                unfold crtOne crtStep; rw [k31, k32, k33, if_pos c18]; dsimp only; rw [if_neg c49]; rw [if_pos c64]; rw [if_neg (fun z => (Int32.not_lt.mpr c122) z.2)]
              · refine x_aload_n (pc := 125) O dX8_court_125 rfl rfl ?_
                refine v_get (pc := 126) O dX8_court_126 fdX8_83 rfl rfl ?_
                refine x_iload_n (pc := 129) O dX8_court_129 rfl ?_
                refine x_dup2 (pc := 130) O dX8_court_130 rfl rfl ?_
                refine v_aldv (k := 36) (v := A 36 k) (pc := 131) O dX8_court_131 rfl rfl rfl rfl (by show _ < 40; omega) (by simp [up2, upd]) ?_
                refine x_iconst (v := 1) (pc := 132) O dX8_court_132 (by decide) ?_
                refine x_iadd (pc := 133) O dX8_court_133 ?_
                refine v_ast (k := 36) (pc := 134) O dX8_court_134 rfl rfl rfl rfl (by show _ < 40; omega) ?_
                refine x_goto (pc := 135) O 143 dX8_court_135 (by decide) ?_
                refine tail _ ?_ _ (show A 34 k = A 34 k from rfl)
                unfold crtOne crtStep; rw [k31, k32, k33, if_pos c18]; dsimp only; rw [if_neg c49]; rw [if_pos c64]; rw [if_pos ⟨c109, Int32.not_le.mp c122⟩]
          · refine x_aload_n (pc := 67) O dX8_court_67 rfl rfl ?_
            refine v_get (pc := 68) O dX8_court_68 fdX8_80 rfl rfl ?_
            refine x_iload_n (pc := 71) O dX8_court_71 rfl ?_
            refine x_iload_n (pc := 72) O dX8_court_72 rfl ?_
            refine v_ast (k := 35) (pc := 73) O dX8_court_73 rfl rfl rfl rfl (by show _ < 40; omega) ?_
            refine x_aload_n (pc := 74) O dX8_court_74 rfl rfl ?_
            refine v_get (pc := 75) O dX8_court_75 fdX8_25 rfl rfl ?_
            refine x_iload_n (pc := 78) O dX8_court_78 rfl ?_
            refine x_iconst (v := 2) (pc := 79) O dX8_court_79 (by decide) ?_
            refine x_icmp_ne (pc := 80) O 92 dX8_court_80 (by decide) (fun c80 => ?_) (fun c80 => ?_)
            · refine x_aload_n (pc := 92) O dX8_court_92 rfl rfl ?_
              refine v_get (pc := 93) O dX8_court_93 fdX8_68 rfl rfl ?_
              refine x_iload_n (pc := 96) O dX8_court_96 rfl ?_
              refine v_aldv (k := 31) (v := A 31 k) (pc := 97) O dX8_court_97 rfl rfl rfl rfl (by show _ < 40; omega) (by simp [up2, upd]) ?_
              refine x_dup2 (pc := 98) O dX8_court_98 rfl rfl ?_
              refine v_aldv (k := 14) (v := A 14 b0) (pc := 99) O dX8_court_99 rfl rfl rfl h31 (by show _ < 60; omega) (by simp [up2, upd]) ?_
              refine x_bipush (v := 6) (pc := 100) O dX8_court_100 (by decide) ?_
              refine x_iadd (pc := 102) O dX8_court_102 ?_
              refine v_ast (k := 14) (pc := 103) O dX8_court_103 rfl rfl rfl h31 (by show _ < 60; omega) ?_
              refine x_goto (pc := 104) O 143 dX8_court_104 (by decide) ?_
              refine tail _ ?_ _ (show A 34 k = A 34 k from rfl)
              unfold crtOne crtStep; rw [k31, k32, k33, if_pos c18]; dsimp only; rw [if_neg c49]; rw [if_neg c64]; simp only [if_neg c80]
            · refine x_aload_n (pc := 83) O dX8_court_83 rfl rfl ?_
              refine v_get (pc := 84) O dX8_court_84 fdX8_71 rfl rfl ?_
              refine x_iload_n (pc := 87) O dX8_court_87 rfl ?_
              refine v_aldv (k := 32) (v := A 32 k) (pc := 88) O dX8_court_88 rfl rfl rfl rfl (by show _ < 40; omega) (by simp [up2, upd]) ?_
              refine x_goto (pc := 89) O 98 dX8_court_89 (by decide) ?_
              refine x_dup2 (pc := 98) O dX8_court_98 rfl rfl ?_
              refine v_aldv (k := 14) (v := A 14 b1) (pc := 99) O dX8_court_99 rfl rfl rfl h32 (by show _ < 60; omega) (by simp [up2, upd]) ?_
              refine x_bipush (v := 6) (pc := 100) O dX8_court_100 (by decide) ?_
              refine x_iadd (pc := 102) O dX8_court_102 ?_
              refine v_ast (k := 14) (pc := 103) O dX8_court_103 rfl rfl rfl h32 (by show _ < 60; omega) ?_
              refine x_goto (pc := 104) O 143 dX8_court_104 (by decide) ?_
              refine tail _ ?_ _ (show A 34 k = A 34 k from rfl)
              unfold crtOne crtStep; rw [k31, k32, k33, if_pos c18]; dsimp only; rw [if_neg c49]; rw [if_neg c64]; simp only [if_pos c80]
        · refine x_aload_n (pc := 52) O dX8_court_52 rfl rfl ?_
          refine v_get (pc := 53) O dX8_court_53 fdX8_80 rfl rfl ?_
          refine x_iload_n (pc := 56) O dX8_court_56 rfl ?_
          refine x_iconst (v := 1) (pc := 57) O dX8_court_57 (by decide) ?_
          refine v_ast (k := 35) (pc := 58) O dX8_court_58 rfl rfl rfl rfl (by show _ < 40; omega) ?_
          refine x_goto (pc := 59) O 143 dX8_court_59 (by decide) ?_
          refine tail _ ?_ _ (show A 34 k = A 34 k from rfl)
          unfold crtOne crtStep; rw [k31, k32, k33, if_pos c18]; dsimp only; rw [if_pos c49]
      · refine x_goto (pc := 21) O 160 dX8_court_21 (by decide) ?_
        refine x_iinc (v := nI (k + 1)) (pc := 160) O dX8_court_160 rfl (nI_succ k).symm rfl ?_
        refine x_goto (pc := 163) O 4 dX8_court_163 (by decide) ?_
        refine x_lv O [some (.ref o), some (.int n), some (.int (nI (k + 1))), none] ⟨rfl, rfl, rfl, trivial⟩ ?_
        refine ih (by omega) _ _ ?_ ?_
        · show A = crtOne i (crt i a k).1 k
          rw [← hA]; unfold crtOne; rw [if_neg c18]
        · show n = (crt i a k).2 + _
          rw [← hA, ← hn, if_neg (fun z => c18 z.1)]; simp
  refine x_iconst (v := 0) (pc := 0) O dX8_court_0 (by decide) ?_
  refine x_istore_n (pc := 1) O dX8_court_1 (by decide) rfl ?_
  refine x_iconst (v := nI 0) (pc := 2) O dX8_court_2 (by decide) ?_
  refine x_istore_n (pc := 3) O dX8_court_3 (by decide) rfl ?_
  exact loop 0 (by omega) _ _ rfl rfl
end
section
/-! ===== REF 4: weeks ===== -/
def wstep (w0 : Int32) (a : Nat → Nat → Int32) (p : Nat) : Nat → Nat → Int32 :=
  let x := w0 * hcnt a (nI p) 0 120
  let a1 := if a 19 p ≤ 0 then up2 a 15 p (a 15 p + x) else up2 a 18 p (a 18 p + x)
  if a 20 p = 0 then a1 else if a 19 p ≤ 0 then a1 else up2 a1 19 p (a 19 p - 1)
def wrow (w0 : Int32) (a : Nat → Nat → Int32) : Nat → Nat → Nat → Int32
  | 0 => a
  | p + 1 => wstep w0 (wrow w0 a p) p
def wksA (w0 : Int32) (a : Nat → Nat → Int32) (m : Nat) : Nat → Nat → Nat → Int32
  | 0 => a
  | k + 1 => wrow w0 (wksA w0 a m k) m
def wksI (i : Nat → Int32) : Nat → Nat → Int32
  | 0 => i
  | k + 1 => upd (wksI i k) 8 (wksI i k 8 + 7)
theorem wksI_keep (i : Nat → Int32) {q : Nat} (hq : q ≠ 8) : ∀ k, wksI i k q = i q
  | 0 => rfl
  | k + 1 => by
    show upd _ 8 _ q = _
    rw [upd_ne _ _ hq]
    exact wksI_keep i hq k
set_option maxRecDepth 100000 in
set_option maxHeartbeats 4000000 in
theorem c_X8_weeks (l : Launch) (E : En) (o : Nat) (d : Nat → Nat) (i : Nat → Int32) (a : Nat → Nat → Int32) (ch : Nat → List Rt) (n : Int32) {m : Nat} (hm : i 22 = nI m) (h60 : m ≤ 60) : Mt l E yX8_weeks cX8_weeks 5 (some .int) (rmX 1 24 0 0) [.ref o, .int n] (RV E o d i a ch) (fun _ : Unit => some (.int (if (0 ≤ n ∧ n ≤ 60) ∧ i 8 + 7 * n ≤ 40000 then wksI i n.toNatClampNeg 8 else -1))) (fun _ => RV E o d (if (0 ≤ n ∧ n ≤ 60) ∧ i 8 + 7 * n ≤ 40000 then wksI i n.toNatClampNeg else i) (if (0 ≤ n ∧ n ≤ 60) ∧ i 8 + 7 * n ≤ 40000 then wksA (i 5) a m n.toNatClampNeg else a) ch) := by
  refine Mt_of (by decide +kernel) (Nat.le_of_ble_eq_true rfl) (fun J O => ?_)
  show J _ 0 0 0 [some (.ref o), some (.int n), none, none, none] []
  refine x_iload_n (pc := 0) O dX8_weeks_0 rfl ?_
  refine x_iconst (v := 0) (pc := 1) O dX8_weeks_1 (by decide) ?_
  refine x_bipush (v := 60) (pc := 2) O dX8_weeks_2 (by decide) ?_
  refine x_callS (pc := 4) (rest := _) O (c_X8_in l E _ _ _ _) dX8_weeks_4 cbX8_103 sm_yX8_in rfl rfl (Nat.le_of_ble_eq_true rfl) ⟨Nat.le_of_ble_eq_true rfl, Nat.le_of_ble_eq_true rfl⟩ ⟨Nat.le_of_ble_eq_true rfl, Nat.le_of_ble_eq_true rfl⟩ (fun _ => ?_)
  dsimp only [Option.toList, List.append, List.nil_append, List.cons_append, Nat.add_zero, Nat.reduceAdd]
  refine x_if_eq (pc := 7) O 24 dX8_weeks_7 (by decide) (fun c7 => ?_) (fun c7 => ?_)
  · refine x_iconst (v := (-1)) (pc := 24) O dX8_weeks_24 (by decide) ?_
    have hc9 : ¬ ((0 ≤ n ∧ n ≤ 60) ∧ i 8 + 7 * n ≤ 40000) := fun z => b2i_z c7 z.1
    refine x_ret (v := some (.int _)) (pc := 25) O dX8_weeks_25 rfl rfl ⟨Nat.le_refl _, Nat.le_refl _, (), congrArg (fun z => some (Value.int z)) (if_neg hc9).symm, fun h hh => ?_⟩
    (try simp only [if_neg hc9]); exact hh
  · refine x_aload_n (pc := 10) O dX8_weeks_10 rfl rfl ?_
    refine v_get (pc := 11) O dX8_weeks_11 fdX8_118 rfl rfl ?_
    refine x_bipush (v := 7) (pc := 14) O dX8_weeks_14 (by decide) ?_
    refine x_iload_n (pc := 16) O dX8_weeks_16 rfl ?_
    refine x_imul (pc := 17) O dX8_weeks_17 ?_
    refine x_iadd (pc := 18) O dX8_weeks_18 ?_
    refine x_ldc (pc := 19) O dX8_weeks_19 cnX8_201 ?_
    refine x_icmp_le (pc := 21) O 26 dX8_weeks_21 (by decide) (fun c21 => ?_) (fun c21 => ?_)
    · refine x_iconst (v := nI 0) (pc := 26) O dX8_weeks_26 (by decide) ?_
      refine x_istore_n (pc := 27) O dX8_weeks_27 (by decide) rfl ?_
      have hWK : (0 ≤ n ∧ n ≤ 60) ∧ i 8 + 7 * n ≤ 40000 := ⟨b2i_n0 c7, c21⟩
      have hK0 : n = nI n.toNatClampNeg ∧ n.toNatClampNeg < 61 := by
        refine in_nat (x := nI 61) rfl (by decide) ⟨hWK.1.1, ?_⟩
        rw [show nI 61 - 1 = 60 from by decide]
        exact hWK.1.2
      have hK := hK0.1
      have hK61 := hK0.2
      have loop : ∀ k, k ≤ n.toNatClampNeg → ∀ I A, I = wksI i k → A = wksA (i 5) a m k → J (RV E o d I A ch) 0 0 28 [some (.ref o), some (.int n), some (.int (nI k)), none, none] [] := by
        refine up_ind (Φ := fun k => ∀ I A, I = wksI i k → A = wksA (i 5) a m k → J (RV E o d I A ch) 0 0 28 [some (.ref o), some (.int n), some (.int (nI k)), none, none] []) n.toNatClampNeg (fun k hk ih I A hI hA => ?_)
        have hI22 : I 22 = nI m := by rw [hI, wksI_keep i (by decide)]; exact hm
        have hI5 : I 5 = i 5 := by rw [hI, wksI_keep i (by decide)]
        refine x_iload_n (pc := 28) O dX8_weeks_28 rfl ?_
        refine x_iload_n (pc := 29) O dX8_weeks_29 rfl ?_
        refine x_icmp_ge (pc := 30) O 141 dX8_weeks_30 (by decide) (fun c30 => ?_) (fun c30 => ?_)
        · refine x_aload_n (pc := 141) O dX8_weeks_141 rfl rfl ?_
          refine v_get (pc := 142) O dX8_weeks_142 fdX8_118 rfl rfl ?_
          have hk2 : k = n.toNatClampNeg := by
            rw [hK, nI_leI (by omega) (by omega)] at c30
            omega
          subst hk2
          have hc9 : (0 ≤ n ∧ n ≤ 60) ∧ i 8 + 7 * n ≤ 40000 := hWK
          refine x_ret (v := some (.int _)) (pc := 145) O dX8_weeks_145 rfl rfl ⟨Nat.le_refl _, Nat.le_refl _, (), congrArg (fun z => some (Value.int z)) (by rw [if_pos hc9, hI]), fun h hh => ?_⟩
          simp only [if_pos hc9]; rw [← hI, ← hA]; exact hh
        · have hk3 : k < n.toNatClampNeg := by
            rw [hK, nI_leI (by omega) (by omega)] at c30
            omega
          refine x_iconst (v := nI 0) (pc := 33) O dX8_weeks_33 (by decide) ?_
          refine x_istore_n (pc := 34) O dX8_weeks_34 (by decide) rfl ?_
          have loop2 : ∀ q, q ≤ m → ∀ B, B = wrow (i 5) A q → J (RV E o d I B ch) 0 0 35 [some (.ref o), some (.int n), some (.int (nI k)), some (.int (nI q)), none] [] := by
            refine up_ind (Φ := fun q => ∀ B, B = wrow (i 5) A q → J (RV E o d I B ch) 0 0 35 [some (.ref o), some (.int n), some (.int (nI k)), some (.int (nI q)), none] []) m (fun q hq ih2 B hB => ?_)
            refine x_iload_n (pc := 35) O dX8_weeks_35 rfl ?_
            refine x_aload_n (pc := 36) O dX8_weeks_36 rfl rfl ?_
            refine v_get (pc := 37) O dX8_weeks_37 fdX8_99 rfl rfl ?_
            refine x_icmp_ge (pc := 40) O 124 dX8_weeks_40 (by decide) (fun c40 => ?_) (fun c40 => ?_)
            · refine x_aload_n (pc := 124) O dX8_weeks_124 rfl rfl ?_
              refine x_dup (pc := 125) O dX8_weeks_125 rfl ?_
              refine v_get (pc := 126) O dX8_weeks_126 fdX8_118 rfl rfl ?_
              refine x_bipush (v := 7) (pc := 129) O dX8_weeks_129 (by decide) ?_
              refine x_iadd (pc := 131) O dX8_weeks_131 ?_
              refine v_put (pc := 132) O dX8_weeks_132 fpX8_118 rfl rfl ?_
              refine x_iinc (v := nI (k + 1)) (pc := 135) O dX8_weeks_135 rfl (nI_succ k).symm rfl ?_
              refine x_goto (pc := 138) O 28 dX8_weeks_138 (by decide) ?_
              refine x_lv O [some (.ref o), some (.int n), some (.int (nI (k + 1))), none, none] ⟨rfl, rfl, rfl, trivial⟩ ?_
              have hq2 : q = m := by
                rw [hI22, nI_leI (by omega) (by omega)] at c40
                omega
              subst hq2
              refine ih (by omega) _ _ ?_ ?_
              · rw [hI]; rfl
              · rw [hB, hA]; rfl
            · have hq3 : q < m := by
                rw [hI22, nI_leI (by omega) (by omega)] at c40
                omega
              refine x_aload_n (pc := 43) O dX8_weeks_43 rfl rfl ?_
              refine v_get (pc := 44) O dX8_weeks_44 fdX8_136 rfl rfl ?_
              rw [hI5]
              refine x_aload_n (pc := 47) O dX8_weeks_47 rfl rfl ?_
              refine x_iload_n (pc := 48) O dX8_weeks_48 rfl ?_
              refine x_iconst (v := 0) (pc := 49) O dX8_weeks_49 (by decide) ?_
              refine x_callV (pc := 50) (rest := _) (ci := 8) O (c_X8_held l E _ _ _ _ _ _ _) dX8_weeks_50 cbX8_202 im_yX8_held se_yX8_held rfl v_recv rfl rfl (Nat.le_of_ble_eq_true rfl) ⟨Nat.le_of_ble_eq_true rfl, Nat.le_of_ble_eq_true rfl⟩ ⟨Nat.le_of_ble_eq_true rfl, Nat.le_of_ble_eq_true rfl⟩ (fun _ => ?_)
              dsimp only [Option.toList, List.append, List.nil_append, List.cons_append, Nat.add_zero, Nat.reduceAdd]
              refine x_imul (pc := 53) O dX8_weeks_53 ?_
              refine x_istore (pc := 54) O dX8_weeks_54 (by decide) rfl ?_
              refine x_aload_n (pc := 56) O dX8_weeks_56 rfl rfl ?_
              refine v_get (pc := 57) O dX8_weeks_57 fdX8_40 rfl rfl ?_
              refine x_iload_n (pc := 60) O dX8_weeks_60 rfl ?_
              refine v_ald (k := 19) (pc := 61) O dX8_weeks_61 rfl rfl rfl rfl (by show _ < 60; omega) ?_
              refine x_if_le (pc := 62) O 79 dX8_weeks_62 (by decide) (fun c62 => ?_) (fun c62 => ?_)
              · refine x_aload_n (pc := 79) O dX8_weeks_79 rfl rfl ?_
                refine v_get (pc := 80) O dX8_weeks_80 fdX8_28 rfl rfl ?_
                refine x_iload_n (pc := 83) O dX8_weeks_83 rfl ?_
                refine x_dup2 (pc := 84) O dX8_weeks_84 rfl rfl ?_
                refine v_ald (k := 15) (pc := 85) O dX8_weeks_85 rfl rfl rfl rfl (by show _ < 60; omega) ?_
                refine x_iload (pc := 86) O dX8_weeks_86 rfl ?_
                refine x_iadd (pc := 88) O dX8_weeks_88 ?_
                refine v_ast (k := 15) (pc := 89) O dX8_weeks_89 rfl rfl rfl rfl (by show _ < 60; omega) ?_
                refine x_aload_n (pc := 90) O dX8_weeks_90 rfl rfl ?_
                refine v_get (pc := 91) O dX8_weeks_91 fdX8_43 rfl rfl ?_
                refine x_iload_n (pc := 94) O dX8_weeks_94 rfl ?_
                refine v_zldv (k := 20) (v := B 20 q) (pc := 95) O dX8_weeks_95 rfl rfl (by omega) (by simp [up2, upd]) ?_
                refine x_if_eq (pc := 96) O 118 dX8_weeks_96 (by decide) (fun c96 => ?_) (fun c96 => ?_)
                · refine x_iinc (v := nI (q + 1)) (pc := 118) O dX8_weeks_118 rfl (nI_succ q).symm rfl ?_
                  refine x_goto (pc := 121) O 35 dX8_weeks_121 (by decide) ?_
                  refine x_lv O [some (.ref o), some (.int n), some (.int (nI k)), some (.int (nI (q + 1))), none] ⟨rfl, rfl, rfl, rfl, trivial⟩ ?_
                  refine ih2 (by omega) _ ?_
                  show _ = wstep (i 5) (wrow (i 5) A q) q
                  rw [← hB]
                  unfold wstep
                  simp only [if_pos c62, if_pos c96]
                · refine x_aload_n (pc := 99) O dX8_weeks_99 rfl rfl ?_
                  refine v_get (pc := 100) O dX8_weeks_100 fdX8_40 rfl rfl ?_
                  refine x_iload_n (pc := 103) O dX8_weeks_103 rfl ?_
                  refine v_aldv (k := 19) (v := B 19 q) (pc := 104) O dX8_weeks_104 rfl rfl rfl rfl (by show _ < 60; omega) (by simp [up2, upd]) ?_
                  refine x_if_le (pc := 105) O 118 dX8_weeks_105 (by decide) (fun c105 => ?_) (fun c105 => ?_)
                  · refine x_iinc (v := nI (q + 1)) (pc := 118) O dX8_weeks_118 rfl (nI_succ q).symm rfl ?_
                    refine x_goto (pc := 121) O 35 dX8_weeks_121 (by decide) ?_
                    refine x_lv O [some (.ref o), some (.int n), some (.int (nI k)), some (.int (nI (q + 1))), none] ⟨rfl, rfl, rfl, rfl, trivial⟩ ?_
                    refine ih2 (by omega) _ ?_
                    show _ = wstep (i 5) (wrow (i 5) A q) q
                    rw [← hB]
                    unfold wstep
                    simp only [if_pos c62, if_neg c96, if_pos c105]
                  · refine x_aload_n (pc := 108) O dX8_weeks_108 rfl rfl ?_
                    refine v_get (pc := 109) O dX8_weeks_109 fdX8_40 rfl rfl ?_
                    refine x_iload_n (pc := 112) O dX8_weeks_112 rfl ?_
                    refine x_dup2 (pc := 113) O dX8_weeks_113 rfl rfl ?_
                    refine v_aldv (k := 19) (v := B 19 q) (pc := 114) O dX8_weeks_114 rfl rfl rfl rfl (by show _ < 60; omega) (by simp [up2, upd]) ?_
                    refine x_iconst (v := 1) (pc := 115) O dX8_weeks_115 (by decide) ?_
                    refine x_isub (pc := 116) O dX8_weeks_116 ?_
                    refine v_ast (k := 19) (pc := 117) O dX8_weeks_117 rfl rfl rfl rfl (by show _ < 60; omega) ?_
                    refine x_iinc (v := nI (q + 1)) (pc := 118) O dX8_weeks_118 rfl (nI_succ q).symm rfl ?_
                    refine x_goto (pc := 121) O 35 dX8_weeks_121 (by decide) ?_
                    exact absurd c62 c105
              · refine x_aload_n (pc := 65) O dX8_weeks_65 rfl rfl ?_
                refine v_get (pc := 66) O dX8_weeks_66 fdX8_37 rfl rfl ?_
                refine x_iload_n (pc := 69) O dX8_weeks_69 rfl ?_
                refine x_dup2 (pc := 70) O dX8_weeks_70 rfl rfl ?_
                refine v_ald (k := 18) (pc := 71) O dX8_weeks_71 rfl rfl rfl rfl (by show _ < 60; omega) ?_
                refine x_iload (pc := 72) O dX8_weeks_72 rfl ?_
                refine x_iadd (pc := 74) O dX8_weeks_74 ?_
                refine v_ast (k := 18) (pc := 75) O dX8_weeks_75 rfl rfl rfl rfl (by show _ < 60; omega) ?_
                refine x_goto (pc := 76) O 90 dX8_weeks_76 (by decide) ?_
                refine x_aload_n (pc := 90) O dX8_weeks_90 rfl rfl ?_
                refine v_get (pc := 91) O dX8_weeks_91 fdX8_43 rfl rfl ?_
                refine x_iload_n (pc := 94) O dX8_weeks_94 rfl ?_
                refine v_zldv (k := 20) (v := B 20 q) (pc := 95) O dX8_weeks_95 rfl rfl (by omega) (by simp [up2, upd]) ?_
                refine x_if_eq (pc := 96) O 118 dX8_weeks_96 (by decide) (fun c96 => ?_) (fun c96 => ?_)
                · refine x_iinc (v := nI (q + 1)) (pc := 118) O dX8_weeks_118 rfl (nI_succ q).symm rfl ?_
                  refine x_goto (pc := 121) O 35 dX8_weeks_121 (by decide) ?_
                  refine x_lv O [some (.ref o), some (.int n), some (.int (nI k)), some (.int (nI (q + 1))), none] ⟨rfl, rfl, rfl, rfl, trivial⟩ ?_
                  refine ih2 (by omega) _ ?_
                  show _ = wstep (i 5) (wrow (i 5) A q) q
                  rw [← hB]
                  unfold wstep
                  simp only [if_neg c62, if_pos c96]
                · refine x_aload_n (pc := 99) O dX8_weeks_99 rfl rfl ?_
                  refine v_get (pc := 100) O dX8_weeks_100 fdX8_40 rfl rfl ?_
                  refine x_iload_n (pc := 103) O dX8_weeks_103 rfl ?_
                  refine v_aldv (k := 19) (v := B 19 q) (pc := 104) O dX8_weeks_104 rfl rfl rfl rfl (by show _ < 60; omega) (by simp [up2, upd]) ?_
                  refine x_if_le (pc := 105) O 118 dX8_weeks_105 (by decide) (fun c105 => ?_) (fun c105 => ?_)
                  · refine x_iinc (v := nI (q + 1)) (pc := 118) O dX8_weeks_118 rfl (nI_succ q).symm rfl ?_
                    refine x_goto (pc := 121) O 35 dX8_weeks_121 (by decide) ?_
                    exact absurd c105 c62
                  · refine x_aload_n (pc := 108) O dX8_weeks_108 rfl rfl ?_
                    refine v_get (pc := 109) O dX8_weeks_109 fdX8_40 rfl rfl ?_
                    refine x_iload_n (pc := 112) O dX8_weeks_112 rfl ?_
                    refine x_dup2 (pc := 113) O dX8_weeks_113 rfl rfl ?_
                    refine v_aldv (k := 19) (v := B 19 q) (pc := 114) O dX8_weeks_114 rfl rfl rfl rfl (by show _ < 60; omega) (by simp [up2, upd]) ?_
                    refine x_iconst (v := 1) (pc := 115) O dX8_weeks_115 (by decide) ?_
                    refine x_isub (pc := 116) O dX8_weeks_116 ?_
                    refine v_ast (k := 19) (pc := 117) O dX8_weeks_117 rfl rfl rfl rfl (by show _ < 60; omega) ?_
                    refine x_iinc (v := nI (q + 1)) (pc := 118) O dX8_weeks_118 rfl (nI_succ q).symm rfl ?_
                    refine x_goto (pc := 121) O 35 dX8_weeks_121 (by decide) ?_
                    refine x_lv O [some (.ref o), some (.int n), some (.int (nI k)), some (.int (nI (q + 1))), none] ⟨rfl, rfl, rfl, rfl, trivial⟩ ?_
                    refine ih2 (by omega) _ ?_
                    show _ = wstep (i 5) (wrow (i 5) A q) q
                    rw [← hB]
                    unfold wstep
                    simp only [if_neg c62, if_neg c96, if_neg c105]
          exact loop2 0 (by omega) A rfl
      exact loop 0 (by omega) i a rfl rfl
    · refine x_iconst (v := (-1)) (pc := 24) O dX8_weeks_24 (by decide) ?_
      have hc9 : ¬ ((0 ≤ n ∧ n ≤ 60) ∧ i 8 + 7 * n ≤ 40000) := fun z => c21 z.2
      refine x_ret (v := some (.int _)) (pc := 25) O dX8_weeks_25 rfl rfl ⟨Nat.le_refl _, Nat.le_refl _, (), congrArg (fun z => some (Value.int z)) (if_neg hc9).symm, fun h hh => ?_⟩
      (try simp only [if_neg hc9]); exact hh
end
section
/-! ===== PURE: families ===== -/
abbrev Ar : Type := Nat → Nat → Int32
abbrev chd (a : Ar) (c p : Nat) : Prop := a 10 c = nI p ∨ a 11 c = nI p
def alB (a : Ar) (p : Nat) : Bool := decide (¬ a 20 p = 0)
def lnB (a : Ar) (p : Nat) : Bool := decide (¬ a 21 p = 0)
/-- who lasts: is alive, or has somebody below who is (children have greater numbers) -/
def lastsF (a : Ar) (al : Nat → Bool) (m : Nat) : Nat → Nat → Bool
  | 0, _ => false
  | f + 1, p => al p || (List.range m).any (fun c => decide (p < c) && (lastsF a al m f c && decide (chd a c p)))
def lasts (a : Ar) (al : Nat → Bool) (m p : Nat) : Bool := lastsF a al m 60 p
theorem lastsF_iff (a : Ar) (al : Nat → Bool) (m f p : Nat) : lastsF a al m (f + 1) p = true ↔ (al p = true ∨ ∃ c, p < c ∧ c < m ∧ lastsF a al m f c = true ∧ chd a c p) := by
  simp only [lastsF, Bool.or_eq_true, List.any_eq_true, List.mem_range, Bool.and_eq_true, decide_eq_true_eq]
  constructor
  · rintro (h | ⟨c, h1, h2, h3, h4⟩)
    · exact Or.inl h
    · exact Or.inr ⟨c, h2, h1, h3, h4⟩
  · rintro (h | ⟨c, h1, h2, h3, h4⟩)
    · exact Or.inl h
    · exact Or.inr ⟨c, h2, h1, h3, h4⟩
theorem lastsF_more (a : Ar) (al : Nat → Bool) (m : Nat) : ∀ f p, p < m → m ≤ p + f → lastsF a al m (f + 1) p = lastsF a al m f p
  | 0, p, h0, h => absurd h (by omega)
  | f + 1, p, h0, h => by
    have key : lastsF a al m (f + 1 + 1) p = true ↔ lastsF a al m (f + 1) p = true := by
      rw [lastsF_iff, lastsF_iff]
      constructor
      · rintro (h1 | ⟨c, h1, h2, h3, h4⟩)
        · exact Or.inl h1
        · exact Or.inr ⟨c, h1, h2, by rw [← lastsF_more a al m f c h2 (by omega)]; exact h3, h4⟩
      · rintro (h1 | ⟨c, h1, h2, h3, h4⟩)
        · exact Or.inl h1
        · exact Or.inr ⟨c, h1, h2, by rw [lastsF_more a al m f c h2 (by omega)]; exact h3, h4⟩
    exact Bool.eq_iff_iff.mpr key
theorem lasts_iff (a : Ar) (al : Nat → Bool) {m p : Nat} (hm : m ≤ 60) (hp : p < m) : lasts a al m p = true ↔ (al p = true ∨ ∃ c, p < c ∧ c < m ∧ lasts a al m c = true ∧ chd a c p) := by
  unfold lasts
  rw [lastsF_iff]
  constructor
  · rintro (h | ⟨c, h1, h2, h3, h4⟩)
    · exact Or.inl h
    · exact Or.inr ⟨c, h1, h2, by rw [lastsF_more a al m 59 c h2 (by omega)]; exact h3, h4⟩
  · rintro (h | ⟨c, h1, h2, h3, h4⟩)
    · exact Or.inl h
    · exact Or.inr ⟨c, h1, h2, by rw [← lastsF_more a al m 59 c h2 (by omega)]; exact h3, h4⟩
/-- the children of one sex, among those that last, but for one -/
def kidP (a : Ar) (ln : Nat → Bool) (of : Nat) (but s : Int32) (c : Nat) : Prop := ¬ nI c = but ∧ a 9 c = s ∧ ln c = true ∧ chd a c of
def kidB (a : Ar) (ln : Nat → Bool) (of : Nat) (but s : Int32) (c : Nat) : Bool := decide (¬ nI c = but) && (decide (a 9 c = s) && (ln c && decide (chd a c of)))
theorem kidB_iff {a : Ar} {ln : Nat → Bool} {of : Nat} {but s : Int32} {c : Nat} : kidB a ln of but s c = true ↔ kidP a ln of but s c := by
  simp [kidB, kidP]
def kids (a : Ar) (ln : Nat → Bool) (of : Nat) (but s : Int32) (m : Nat) : List Nat := (List.range m).filter (kidB a ln of but s)
theorem kids_t {a : Ar} {ln : Nat → Bool} {of : Nat} {but s : Int32} {m : Nat} (h : kidP a ln of but s m) : kids a ln of but s (m + 1) = kids a ln of but s m ++ [m] := by
  simp [kids, List.range_succ, List.filter_append, kidB_iff.mpr h]
theorem kids_f {a : Ar} {ln : Nat → Bool} {of : Nat} {but s : Int32} {m : Nat} (h : ¬ kidP a ln of but s m) : kids a ln of but s (m + 1) = kids a ln of but s m := by
  have : kidB a ln of but s m = false := by
    cases h2 : kidB a ln of but s m with
    | false => rfl
    | true => exact absurd (kidB_iff.mp h2) h
  simp [kids, List.range_succ, List.filter_append, this]
theorem kids_mem {a : Ar} {ln : Nat → Bool} {of : Nat} {but s : Int32} {m c : Nat} : c ∈ kids a ln of but s m ↔ c < m ∧ kidP a ln of but s c := by
  simp [kids, kidB_iff]
theorem kids_len {a : Ar} {ln : Nat → Bool} {of : Nat} {but s : Int32} {m : Nat} : (kids a ln of but s m).length ≤ m := by
  have := List.length_filter_le (kidB a ln of but s) (List.range m)
  simpa [kids] using this
def hd1 (l : List Nat) : Int32 := match l with
  | [] => -1
  | c :: _ => nI c
def la1 (l : List Nat) : Int32 := match l.getLast? with
  | none => -1
  | some c => nI c
theorem hd1_app (l : List Nat) (c : Nat) : hd1 (l ++ [c]) = if l = [] then nI c else hd1 l := by cases l <;> simp [hd1]
theorem la1_app (l : List Nat) (c : Nat) : la1 (l ++ [c]) = nI c := by simp [la1]
/-- among whom a part is shared -/
def grp (a : Ar) (ln : Nat → Bool) (m : Nat) (ord : Int32) (of : Nat) (but : Int32) : List Nat :=
  let s := kids a ln of but 0 m
  if s = [] then kids a ln of but 1 m
  else if ord < 2 then [if ord = 0 then s.headD 0 else s.getLastD 0] else s
theorem grp_sub {a : Ar} {ln : Nat → Bool} {m : Nat} {ord : Int32} {of : Nat} {but : Int32} {c : Nat} (h : c ∈ grp a ln m ord of but) : c < m ∧ ln c = true ∧ chd a c of ∧ (a 9 c = 0 ∨ a 9 c = 1) ∧ ¬ nI c = but := by
  have key : ∀ s, (s = 0 ∨ s = 1) → c ∈ kids a ln of but s m → c < m ∧ ln c = true ∧ chd a c of ∧ (a 9 c = 0 ∨ a 9 c = 1) ∧ ¬ nI c = but := by
    intro s hs hc
    obtain ⟨h1, h2, h3, h4, h5⟩ := kids_mem.mp hc
    exact ⟨h1, h4, h5, by rw [h3]; exact hs, h2⟩
  unfold grp at h
  dsimp only at h
  split at h
  · exact key 1 (Or.inr rfl) h
  · rename_i hne
    split at h
    · simp only [List.mem_singleton] at h
      refine key 0 (Or.inl rfl) ?_
      obtain ⟨x, r, hx⟩ := List.exists_cons_of_ne_nil hne
      split at h
      · rw [hx] at h ⊢
        simp at h
        subst h
        exact List.mem_cons_self
      · rw [hx] at h ⊢
        subst h
        rw [List.getLastD_cons]
        cases r with
        | nil => simp
        | cons y t => exact List.mem_cons_of_mem _ (by simp [List.getLastD])
    · exact key 0 (Or.inl rfl) h
theorem grp_len {a : Ar} {ln : Nat → Bool} {m : Nat} {ord : Int32} {of : Nat} {but : Int32} (hm : m ≤ 60) : (grp a ln m ord of but).length ≤ 60 := by
  have h0 := kids_len (a := a) (ln := ln) (of := of) (but := but) (s := 0) (m := m)
  have h1 := kids_len (a := a) (ln := ln) (of := of) (but := but) (s := 1) (m := m)
  unfold grp
  dsimp only
  (repeat' split) <;> simp <;> omega
/-- the heirs, in order -/
def heirsF (a : Ar) (al ln : Nat → Bool) (m : Nat) (ord : Int32) : Nat → List Nat → List Nat
  | 0, _ => []
  | f + 1, g => g.flatMap (fun q => if al q = true then [q] else heirsF a al ln m ord f (grp a ln m ord q (-1)))
/-- the takers of n strips, in order -/
def partK (n len k : Nat) : Nat := n / len + (if k < n % len then 1 else 0)
def shareF (a : Ar) (al ln : Nat → Bool) (m : Nat) (ord : Int32) : Nat → List Nat → Nat → List Nat
  | 0, _, _ => []
  | f + 1, g, n => (List.range g.length).flatMap (fun k => if partK n g.length k = 0 then [] else if al (g.getD k 0) = true then List.replicate (partK n g.length k) (g.getD k 0) else shareF a al ln m ord f (grp a ln m ord (g.getD k 0) (-1)) (partK n g.length k))
/-- the first line: one's own, else the father's (but for oneself) -/
def fstG (a : Ar) (ln : Nat → Bool) (m : Nat) (ord : Int32) (p : Nat) : List Nat :=
  let g := grp a ln m ord p (-1)
  if g = [] then (if a 10 p = -1 then [] else grp a ln m ord (a 10 p).toNatClampNeg (nI p)) else g
end
section
/-! ===== REF 5: lines, group, first ===== -/
theorem nar01 {x : Int32} (h : x = 0 ∨ x = 1) : vp_nar .boolean x = x := by rcases h with h | h <;> rw [h] <;> rfl
def lnI (a : Ar) (m k : Nat) (A : Ar) : Prop := (∀ q, q ≠ 21 → A q = a q) ∧ ∀ p, k ≤ p → p < m → ((A 21 p = 0 ∨ A 21 p = 1) ∧ (¬ A 21 p = 0 ↔ lasts a (alB a) m p = true))
def lnJ (a : Ar) (m k c : Nat) (A : Ar) : Prop := lnI a m (k + 1) A ∧ (A 21 k = 0 ∨ A 21 k = 1) ∧ (¬ A 21 k = 0 ↔ (alB a k = true ∨ ∃ c', k < c' ∧ c' < c ∧ lasts a (alB a) m c' = true ∧ chd a c' k))
theorem lnJ_step {a : Ar} {m k c : Nat} {A : Ar} {v : Int32} (h : lnJ a m k c A) (hc : k < c) (hcm : c < m) (hv : v = 0 ∨ v = 1) (hiff : ¬ v = 0 ↔ (¬ A 21 k = 0 ∨ (¬ A 21 c = 0 ∧ chd a c k))) : lnJ a m k (c + 1) (up2 A 21 k v) := by
  obtain ⟨⟨h1, h2⟩, h3, h4⟩ := h
  refine ⟨⟨fun q hq => by rw [up2_ne _ _ _ hq]; exact h1 q hq, fun p hp hpm => ?_⟩, ?_, ?_⟩
  · rw [up2_eq, upd_ne _ _ (by omega)]
    exact h2 p hp hpm
  · rw [up2_eq, upd_eq]; exact hv
  · rw [up2_eq, upd_eq, hiff, h4, (h2 c (by omega) hcm).2]
    constructor
    · rintro ((h | ⟨c', q1, q2, q3, q4⟩) | ⟨q1, q2⟩)
      · exact Or.inl h
      · exact Or.inr ⟨c', q1, by omega, q3, q4⟩
      · exact Or.inr ⟨c, hc, by omega, q1, q2⟩
    · rintro (h | ⟨c', q1, q2, q3, q4⟩)
      · exact Or.inl (Or.inl h)
      · by_cases e : c' = c
        · subst e; exact Or.inr ⟨q3, q4⟩
        · exact Or.inl (Or.inr ⟨c', q1, by omega, q3, q4⟩)
theorem lnJ_end {a : Ar} {m k : Nat} {A : Ar} (hm : m ≤ 60) (hk : k < m) (h : lnJ a m k m A) : lnI a m k A := by
  obtain ⟨⟨h1, h2⟩, h3, h4⟩ := h
  refine ⟨h1, fun p hp hpm => ?_⟩
  by_cases e : p = k
  · subst e
    refine ⟨h3, ?_⟩
    rw [h4, lasts_iff a (alB a) hm hk]
  · exact h2 p (by omega) hpm
theorem lnJ_start {a : Ar} {m k : Nat} {A : Ar} (h : lnI a m (k + 1) A) (hb : a 20 k = 0 ∨ a 20 k = 1) : lnJ a m k (k + 1) (up2 A 21 k (A 20 k)) := by
  obtain ⟨h1, h2⟩ := h
  have e20 : A 20 = a 20 := h1 20 (by decide)
  refine ⟨⟨fun q hq => by rw [up2_ne _ _ _ hq]; exact h1 q hq, fun p hp hpm => ?_⟩, ?_, ?_⟩
  · rw [up2_eq, upd_ne _ _ (by omega)]
    exact h2 p hp hpm
  · rw [up2_eq, upd_eq, e20]; exact hb
  · rw [up2_eq, upd_eq, e20]
    constructor
    · intro h; exact Or.inl (by simp [alB, h])
    · rintro (h | ⟨c', q1, q2, q3, q4⟩)
      · simpa [alB] using h
      · omega
set_option maxRecDepth 100000 in
set_option maxHeartbeats 4000000 in
theorem c_X8_lines (l : Launch) (E : En) (o : Nat) (d : Nat → Nat) (i : Nat → Int32) (a : Nat → Nat → Int32) (ch : Nat → List Rt) {m : Nat} (hm : i 22 = nI m) (h60 : m ≤ 60) (hal : ∀ p, p < 60 → a 20 p = 0 ∨ a 20 p = 1) : Mt l E yX8_lines cX8_lines 3 none (rmX 1 22 0 0) [.ref o] (RV E o d i a ch) (fun _ : Ar => none) (fun A h => ((∀ k, k ≠ 21 → A k = a k) ∧ ∀ p, p < m → (lnB A p = true ↔ lasts a (alB a) m p = true)) ∧ RV E o d i A ch h) := by
  refine Mt_of (by decide +kernel) (Nat.le_of_ble_eq_true rfl) (fun J O => ?_)
  show J _ 0 0 0 [some (.ref o), none, none] []
  have loop : ∀ k, k ≤ m → ∀ A, lnI a m k A → J (RV E o d i A ch) 0 0 7 [some (.ref o), some (.int (nI k - 1)), none] [] := by
    refine dn_ind (Φ := fun k => k ≤ m → ∀ A, lnI a m k A → J (RV E o d i A ch) 0 0 7 [some (.ref o), some (.int (nI k - 1)), none] []) ?_ (fun k ih hk A hA => ?_)
    · intro hk A hA
      refine x_iload_n (pc := 7) O dX8_lines_7 rfl ?_
      refine x_if_lt (pc := 8) O 85 dX8_lines_8 (by decide) (fun c8 => ?_) (fun c8 => ?_)
      · exact x_ret (v := none) (pc := 85) O dX8_lines_85 rfl trivial ⟨Nat.le_refl _, Nat.le_refl _, A, rfl, fun h hh => ⟨⟨fun k hk => hA.1 k hk, fun p hp => by have z := (hA.2 p (Nat.zero_le _) hp).2; rw [← z]; simp [lnB]⟩, hh⟩⟩
      · exact absurd (by decide) c8
    · rw [show nI (k + 1) - 1 = nI k from nI_pred k]
      refine x_iload_n (pc := 7) O dX8_lines_7 rfl ?_
      refine x_if_lt (pc := 8) O 85 dX8_lines_8 (by decide) (fun c8 => ?_) (fun c8 => ?_)
      · exact absurd c8 (nI_pos (by omega))
      · refine x_aload_n (pc := 11) O dX8_lines_11 rfl rfl ?_
        refine v_get (pc := 12) O dX8_lines_12 fdX8_47 rfl rfl ?_
        refine x_iload_n (pc := 15) O dX8_lines_15 rfl ?_
        refine x_aload_n (pc := 16) O dX8_lines_16 rfl rfl ?_
        refine v_get (pc := 17) O dX8_lines_17 fdX8_43 rfl rfl ?_
        refine x_iload_n (pc := 20) O dX8_lines_20 rfl ?_
        refine v_zld (k := 20) (pc := 21) O dX8_lines_21 rfl rfl (by omega) ?_
        refine v_zst (k := 21) (pc := 22) O dX8_lines_22 rfl rfl (by omega) (by rw [hA.1 20 (by decide)]; exact nar01 (hal k (by omega))) ?_
        refine x_iload_n (pc := 23) O dX8_lines_23 rfl ?_
        refine x_iconst (v := 1) (pc := 24) O dX8_lines_24 (by decide) ?_
        refine x_iadd (pc := 25) O dX8_lines_25 ?_
        rw [show nI k + 1 = nI (k + 1) from (nI_succ k).symm]
        refine x_istore_n (pc := 26) O dX8_lines_26 (by decide) rfl ?_
        have loop2 : ∀ c, c ≤ m → k < c → ∀ B, lnJ a m k c B → J (RV E o d i B ch) 0 0 27 [some (.ref o), some (.int (nI k)), some (.int (nI c))] [] := by
          refine up_ind (Φ := fun c => k < c → ∀ B, lnJ a m k c B → J (RV E o d i B ch) 0 0 27 [some (.ref o), some (.int (nI k)), some (.int (nI c))] []) m (fun c hc ih0 hkc B hB => ?_)
          have ih2 : c < m → ∀ B, lnJ a m k (c + 1) B → J (RV E o d i B ch) 0 0 27 [some (.ref o), some (.int (nI k)), some (.int (nI (c + 1)))] [] := fun h => ih0 h (by omega)
          refine x_iload_n (pc := 27) O dX8_lines_27 rfl ?_
          refine x_aload_n (pc := 28) O dX8_lines_28 rfl rfl ?_
          refine v_get (pc := 29) O dX8_lines_29 fdX8_99 rfl rfl ?_
          refine x_icmp_ge (pc := 32) O 79 dX8_lines_32 (by decide) (fun c32 => ?_) (fun c32 => ?_)
          · refine x_iinc (v := nI k - 1) (pc := 79) O dX8_lines_79 rfl (Int32.sub_eq_add_neg (nI k) 1).symm rfl ?_
            refine x_goto (pc := 82) O 7 dX8_lines_82 (by decide) ?_
            refine x_lv O [some (.ref o), some (.int (nI k - 1)), none] ⟨rfl, rfl, trivial⟩ ?_
            have hc2 : c = m := by
              rw [hm, nI_leI (by omega) (by omega)] at c32
              omega
            subst hc2
            exact ih (by omega) B (lnJ_end h60 (by omega) hB)
          · have hc3 : c < m := by
              rw [hm, nI_leI (by omega) (by omega)] at c32
              omega
            refine x_aload_n (pc := 35) O dX8_lines_35 rfl rfl ?_
            refine v_get (pc := 36) O dX8_lines_36 fdX8_47 rfl rfl ?_
            refine x_iload_n (pc := 39) O dX8_lines_39 rfl ?_
            refine x_aload_n (pc := 40) O dX8_lines_40 rfl rfl ?_
            refine v_get (pc := 41) O dX8_lines_41 fdX8_47 rfl rfl ?_
            refine x_iload_n (pc := 44) O dX8_lines_44 rfl ?_
            refine v_zld (k := 21) (pc := 45) O dX8_lines_45 rfl rfl (by omega) ?_
            refine x_if_ne (pc := 46) O 67 dX8_lines_46 (by decide) (fun c46 => ?_) (fun c46 => ?_)
            · refine x_iconst (v := 1) (pc := 67) O dX8_lines_67 (by decide) ?_
              refine x_goto (pc := 68) O 72 dX8_lines_68 (by decide) ?_
              refine v_zst (k := 21) (pc := 72) O dX8_lines_72 rfl rfl (by omega) rfl ?_
              refine x_iinc (v := nI (c + 1)) (pc := 73) O dX8_lines_73 rfl (nI_succ c).symm rfl ?_
              refine x_goto (pc := 76) O 27 dX8_lines_76 (by decide) ?_
              refine ih2 (by omega) _ (lnJ_step hB (by omega) hc3 (Or.inr rfl) (by simp [c46]))
            · refine x_aload_n (pc := 49) O dX8_lines_49 rfl rfl ?_
              refine v_get (pc := 50) O dX8_lines_50 fdX8_47 rfl rfl ?_
              refine x_iload_n (pc := 53) O dX8_lines_53 rfl ?_
              refine v_zld (k := 21) (pc := 54) O dX8_lines_54 rfl rfl (by omega) ?_
              refine x_if_eq (pc := 55) O 71 dX8_lines_55 (by decide) (fun c55 => ?_) (fun c55 => ?_)
              · refine x_iconst (v := 0) (pc := 71) O dX8_lines_71 (by decide) ?_
                refine v_zst (k := 21) (pc := 72) O dX8_lines_72 rfl rfl (by omega) rfl ?_
                refine x_iinc (v := nI (c + 1)) (pc := 73) O dX8_lines_73 rfl (nI_succ c).symm rfl ?_
                refine x_goto (pc := 76) O 27 dX8_lines_76 (by decide) ?_
                refine ih2 (by omega) _ (lnJ_step hB (by omega) hc3 (Or.inl rfl) (by simp only [not_true_eq_false, false_iff]; exact fun z => z.elim (fun z => z c46) (fun z => z.1 c55)))
              · refine x_aload_n (pc := 58) O dX8_lines_58 rfl rfl ?_
                refine x_iload_n (pc := 59) O dX8_lines_59 rfl ?_
                refine x_iload_n (pc := 60) O dX8_lines_60 rfl ?_
                refine x_callV (pc := 61) (rest := _) (ci := 8) O (c_X8_isChild l E _ _ _ _ _ _ _ (by omega)) dX8_lines_61 cbX8_154 im_yX8_isChild se_yX8_isChild rfl v_recv rfl rfl (Nat.le_of_ble_eq_true rfl) ⟨Nat.le_of_ble_eq_true rfl, Nat.le_of_ble_eq_true rfl⟩ ⟨Nat.le_of_ble_eq_true rfl, Nat.le_of_ble_eq_true rfl⟩ (fun _ => ?_)
                dsimp only [Option.toList, List.append, List.nil_append, List.cons_append, Nat.add_zero, Nat.reduceAdd]
                refine x_if_eq (pc := 64) O 71 dX8_lines_64 (by decide) (fun c64 => ?_) (fun c64 => ?_)
                · refine x_iconst (v := 0) (pc := 71) O dX8_lines_71 (by decide) ?_
                  refine v_zst (k := 21) (pc := 72) O dX8_lines_72 rfl rfl (by omega) rfl ?_
                  refine x_iinc (v := nI (c + 1)) (pc := 73) O dX8_lines_73 rfl (nI_succ c).symm rfl ?_
                  refine x_goto (pc := 76) O 27 dX8_lines_76 (by decide) ?_
                  refine ih2 (by omega) _ (lnJ_step hB (by omega) hc3 (Or.inl rfl) (by simp only [not_true_eq_false, false_iff]; exact fun z => z.elim (fun z => z c46) (fun z => b2i_z c64 (by rw [hB.1.1 10 (by decide), hB.1.1 11 (by decide)]; exact z.2))))
                · refine x_iconst (v := 1) (pc := 67) O dX8_lines_67 (by decide) ?_
                  refine x_goto (pc := 68) O 72 dX8_lines_68 (by decide) ?_
                  refine v_zst (k := 21) (pc := 72) O dX8_lines_72 rfl rfl (by omega) rfl ?_
                  refine x_iinc (v := nI (c + 1)) (pc := 73) O dX8_lines_73 rfl (nI_succ c).symm rfl ?_
                  refine x_goto (pc := 76) O 27 dX8_lines_76 (by decide) ?_
                  refine ih2 (by omega) _ (lnJ_step hB (by omega) hc3 (Or.inr rfl) (by refine ⟨fun _ => Or.inr ⟨c55, ?_⟩, fun _ => by decide⟩; have z := b2i_n0 c64; rw [hB.1.1 10 (by decide), hB.1.1 11 (by decide)] at z; exact z))
        exact loop2 (k + 1) (by omega) (by omega) _ (lnJ_start hA (hal k (by omega)))
  refine x_aload_n (pc := 0) O dX8_lines_0 rfl rfl ?_
  refine v_get (pc := 1) O dX8_lines_1 fdX8_99 rfl rfl ?_
  refine x_iconst (v := 1) (pc := 4) O dX8_lines_4 (by decide) ?_
  refine x_isub (pc := 5) O dX8_lines_5 ?_
  rw [hm]
  refine x_istore_n (pc := 6) O dX8_lines_6 (by decide) rfl ?_
  exact loop m (Nat.le_refl m) a ⟨fun _ _ => rfl, fun p h1 h2 => absurd h2 (by omega)⟩
end
section
/-! ===== REF 6: group, first ===== -/
def rowput (a : Ar) (u : Nat) (g : List Nat) : Ar := fun k => if k = 39 then (fun j => if u ≤ j ∧ j < u + g.length then nI (g.getD (j - u) 0) else a 39 j) else a k
theorem rowput_ne (a : Ar) (u : Nat) (g : List Nat) {k : Nat} (h : k ≠ 39) : rowput a u g k = a k := by simp [rowput, h]
theorem rowput_nil (a : Ar) (u : Nat) : rowput a u [] = a := by
  funext k j
  by_cases h : k = 39
  · subst h
    simp [rowput]
    omega
  · simp [rowput, h]
theorem rowput_get (a : Ar) (u : Nat) (g : List Nat) {t : Nat} (h : t < g.length) : rowput a u g 39 (u + t) = nI (g.getD t 0) := by
  simp only [rowput, if_true]
  rw [if_pos ⟨by omega, by omega⟩]
  congr 2
  omega
theorem rowput_out (a : Ar) (u : Nat) (g : List Nat) {j : Nat} (h : j < u) : rowput a u g 39 j = a 39 j := by
  simp only [rowput, if_true]
  rw [if_neg (by omega)]
theorem rowput_app (a : Ar) (u : Nat) (g : List Nat) (c : Nat) : up2 (rowput a u g) 39 (u + g.length) (nI c) = rowput a u (g ++ [c]) := by
  funext k j
  by_cases h : k = 39
  · subst h
    rw [up2_eq]
    by_cases hj : j = u + g.length
    · subst hj
      rw [upd_eq]
      simp [rowput, List.getD]
    · rw [upd_ne _ _ hj]
      simp only [rowput, if_true, List.length_append, List.length_singleton]
      by_cases h2 : u ≤ j ∧ j < u + g.length
      · rw [if_pos h2, if_pos (by omega)]
        simp only [List.getD]
        rw [List.getElem?_append_left (by omega)]
      · rw [if_neg h2, if_neg (by omega)]
  · rw [up2_ne _ _ _ h, rowput_ne _ _ _ h, rowput_ne _ _ _ h]
theorem upd_id {i : Nat → Int32} {k : Nat} {v : Int32} (h : i k = v) : upd i k v = i := by
  funext j
  by_cases e : j = k
  · subst e; rw [upd_eq, h]
  · rw [upd_ne _ _ e]
theorem upd_upd (i : Nat → Int32) (k : Nat) (v x : Int32) : upd (upd i k v) k x = upd i k x := by
  funext j
  by_cases e : j = k
  · subst e; rw [upd_eq, upd_eq]
  · rw [upd_ne _ _ e, upd_ne _ _ e, upd_ne _ _ e]
theorem nI_nm1 {c : Nat} (h : c < 2 ^ 31) : ¬ nI c = -1 := fun e => by
  have h1 := nI_pos h
  rw [e] at h1
  exact h1 (by decide)
theorem hd1_m1 {l : List Nat} (h : ∀ x ∈ l, x < 2 ^ 31) : hd1 l = -1 ↔ l = [] := by
  cases l with
  | nil => simp [hd1]
  | cons x r => simp only [hd1, List.cons_ne_nil, iff_false]; exact nI_nm1 (h x List.mem_cons_self)
def gst (i : Nat → Int32) (a : Ar) (u : Nat) (K : List Nat) (s : Int32) (I : Nat → Int32) (A : Ar) : Prop :=
  (s = 0 ∧ i 0 < 2 → I = i ∧ A = a) ∧ (¬ (s = 0 ∧ i 0 < 2) → I = upd i 40 (nI (u + K.length)) ∧ A = rowput a u K)
theorem gst_A {i : Nat → Int32} {a : Ar} {u : Nat} {K : List Nat} {s : Int32} {I : Nat → Int32} {A : Ar} (h : gst i a u K s I A) : (∀ k, k ≠ 39 → A k = a k) ∧ ∀ k, k ≠ 40 → I k = i k := by
  by_cases c : s = 0 ∧ i 0 < 2
  · obtain ⟨h1, h2⟩ := h.1 c
    subst h1; subst h2
    exact ⟨fun _ _ => rfl, fun _ _ => rfl⟩
  · obtain ⟨h1, h2⟩ := h.2 c
    subst h1; subst h2
    exact ⟨fun k hk => rowput_ne _ _ _ hk, fun k hk => upd_ne _ _ hk⟩
theorem gst_keep {i : Nat → Int32} {a : Ar} {u : Nat} {K K' : List Nat} {s : Int32} {I : Nat → Int32} {A : Ar} (h : gst i a u K s I A) (c : s = 0 ∧ i 0 < 2) : gst i a u K' s I A := ⟨fun _ => h.1 c, fun q => absurd c q⟩
theorem gst_put {i : Nat → Int32} {a : Ar} {u x : Nat} {K : List Nat} {s : Int32} {I : Nat → Int32} {A : Ar} (h : gst i a u K s I A) (c : ¬ (s = 0 ∧ i 0 < 2)) : I 40 = nI (u + K.length) ∧ gst i a u (K ++ [x]) s (upd I 40 (I 40 + 1)) (up2 A 39 (u + K.length) (nI x)) := by
  obtain ⟨h1, h2⟩ := h.2 c
  subst h1; subst h2
  refine ⟨upd_eq _ _ _, fun q => absurd q c, fun _ => ⟨?_, rowput_app _ _ _ _⟩⟩
  rw [upd_eq, upd_upd, show nI (u + K.length) + 1 = nI (u + K.length + 1) from (nI_succ _).symm]
  simp [Nat.add_assoc]
set_option maxRecDepth 100000 in
set_option maxHeartbeats 4000000 in
theorem c_X8_group (l : Launch) (E : En) (o : Nat) (d : Nat → Nat) (i : Nat → Int32) (a : Nat → Nat → Int32) (ch : Nat → List Rt) (of : Nat) (but : Int32) {m : Nat} (hm : i 22 = nI m) (h60 : m ≤ 60) {u : Nat} (hu : i 40 = nI u) (hu2 : u + 60 ≤ 3720) : Mt l E yX8_group cX8_group 8 (some .int) (rmX 1 22 0 0) [.ref o, .int (nI of), .int but] (RV E o d i a ch) (fun _ : Unit => some (.int (nI (grp a (lnB a) m (i 0) of but).length))) (fun _ => RV E o d (upd i 40 (nI (u + (grp a (lnB a) m (i 0) of but).length))) (rowput a u (grp a (lnB a) m (i 0) of but)) ch) := by
  refine Mt_of (by decide +kernel) (Nat.le_of_ble_eq_true rfl) (fun J O => ?_)
  show J _ 0 0 0 [some (.ref o), some (.int (nI of)), some (.int but), none, none, none, none, none] []
  have hgl := grp_len (a := a) (ln := lnB a) (ord := i 0) (of := of) (but := but) h60
  have inner : ∀ s, (∀ I A e y, gst i a u (kids a (lnB a) of but s m) s I A → e = hd1 (kids a (lnB a) of but s m) → y = la1 (kids a (lnB a) of but s m) → J (RV E o d I A ch) 0 0 138 [some (.ref o), some (.int (nI of)), some (.int but), some (.int (nI u)), some (.int (s)), some (.int (e)), some (.int (y)), none] []) → ∀ c, c ≤ m → ∀ I A e y, gst i a u (kids a (lnB a) of but s c) s I A → e = hd1 (kids a (lnB a) of but s c) → y = la1 (kids a (lnB a) of but s c) → J (RV E o d I A ch) 0 0 31 [some (.ref o), some (.int (nI of)), some (.int but), some (.int (nI u)), some (.int (s)), some (.int (e)), some (.int (y)), some (.int (nI c))] [] := by
    intro s kk
    refine up_ind (Φ := fun c => ∀ I A e y, gst i a u (kids a (lnB a) of but s c) s I A → e = hd1 (kids a (lnB a) of but s c) → y = la1 (kids a (lnB a) of but s c) → J (RV E o d I A ch) 0 0 31 [some (.ref o), some (.int (nI of)), some (.int but), some (.int (nI u)), some (.int (s)), some (.int (e)), some (.int (y)), some (.int (nI c))] []) m (fun c hc ih I A e y hst he hy => ?_)
    have hA := (gst_A hst).1
    have hI := (gst_A hst).2
    have hA9 : A 9 c = a 9 c := by rw [hA 9 (by decide)]
    have hA21 : A 21 c = a 21 c := by rw [hA 21 (by decide)]
    have hA10 : A 10 c = a 10 c := by rw [hA 10 (by decide)]
    have hA11 : A 11 c = a 11 c := by rw [hA 11 (by decide)]
    have hI22 : I 22 = nI m := by rw [hI 22 (by decide)]; exact hm
    have hI0 : I 0 = i 0 := hI 0 (by decide)
    refine x_iload (pc := 31) O dX8_group_31 rfl ?_
    refine x_aload_n (pc := 33) O dX8_group_33 rfl rfl ?_
    refine v_get (pc := 34) O dX8_group_34 fdX8_99 rfl rfl ?_
    refine x_icmp_ge (pc := 37) O 138 dX8_group_37 (by decide) (fun c37 => ?_) (fun c37 => ?_)
    · have hc2 : c = m := by
        rw [hI22, nI_leI (by omega) (by omega)] at c37
        omega
      subst hc2
      refine x_lv O [some (.ref o), some (.int (nI of)), some (.int but), some (.int (nI u)), some (.int (s)), some (.int (e)), some (.int (y)), none] ⟨rfl, rfl, rfl, rfl, rfl, rfl, rfl, trivial⟩ ?_
      exact kk I A e y hst he hy
    · have hc3 : c < m := by
        rw [hI22, nI_leI (by omega) (by omega)] at c37
        omega
      refine x_iload (pc := 40) O dX8_group_40 rfl ?_
      refine x_iload_n (pc := 42) O dX8_group_42 rfl ?_
      refine x_icmp_eq (pc := 43) O 132 dX8_group_43 (by decide) (fun c43 => ?_) (fun c43 => ?_)
      · refine x_iinc (v := nI (c + 1)) (pc := 132) O dX8_group_132 rfl (nI_succ c).symm rfl ?_
        refine x_goto (pc := 135) O 31 dX8_group_135 (by decide) ?_
        have hK := kids_f (a := a) (ln := lnB a) (of := of) (but := but) (s := s) (m := c) (fun z => z.1 c43)
        exact ih (by omega) I A e y (by rw [hK]; exact hst) (by rw [hK]; exact he) (by rw [hK]; exact hy)
      · refine x_aload_n (pc := 46) O dX8_group_46 rfl rfl ?_
        refine v_get (pc := 47) O dX8_group_47 fdX8_9 rfl rfl ?_
        refine x_iload (pc := 50) O dX8_group_50 rfl ?_
        refine v_ald (k := 9) (pc := 52) O dX8_group_52 rfl rfl rfl rfl (by show _ < 60; omega) ?_
        refine x_iload (pc := 53) O dX8_group_53 rfl ?_
        refine x_icmp_ne (pc := 55) O 132 dX8_group_55 (by decide) (fun c55 => ?_) (fun c55 => ?_)
        · refine x_iinc (v := nI (c + 1)) (pc := 132) O dX8_group_132 rfl (nI_succ c).symm rfl ?_
          refine x_goto (pc := 135) O 31 dX8_group_135 (by decide) ?_
          have hK := kids_f (a := a) (ln := lnB a) (of := of) (but := but) (s := s) (m := c) (fun z => c55 (by rw [hA9]; exact z.2.1))
          exact ih (by omega) I A e y (by rw [hK]; exact hst) (by rw [hK]; exact he) (by rw [hK]; exact hy)
        · refine x_aload_n (pc := 58) O dX8_group_58 rfl rfl ?_
          refine v_get (pc := 59) O dX8_group_59 fdX8_47 rfl rfl ?_
          refine x_iload (pc := 62) O dX8_group_62 rfl ?_
          refine v_zld (k := 21) (pc := 64) O dX8_group_64 rfl rfl (by omega) ?_
          refine x_if_eq (pc := 65) O 132 dX8_group_65 (by decide) (fun c65 => ?_) (fun c65 => ?_)
          · refine x_iinc (v := nI (c + 1)) (pc := 132) O dX8_group_132 rfl (nI_succ c).symm rfl ?_
            refine x_goto (pc := 135) O 31 dX8_group_135 (by decide) ?_
            have hK := kids_f (a := a) (ln := lnB a) (of := of) (but := but) (s := s) (m := c) (fun z => by have z3 := z.2.2.1; simp only [lnB, decide_eq_true_eq] at z3; exact z3 (by rw [← hA21]; exact c65))
            exact ih (by omega) I A e y (by rw [hK]; exact hst) (by rw [hK]; exact he) (by rw [hK]; exact hy)
          · refine x_aload_n (pc := 68) O dX8_group_68 rfl rfl ?_
            refine x_iload (pc := 69) O dX8_group_69 rfl ?_
            refine x_iload_n (pc := 71) O dX8_group_71 rfl ?_
            refine x_callV (pc := 72) (rest := _) (ci := 8) O (c_X8_isChild l E _ _ _ _ _ _ _ (by omega)) dX8_group_72 cbX8_154 im_yX8_isChild se_yX8_isChild rfl v_recv rfl rfl (Nat.le_of_ble_eq_true rfl) ⟨Nat.le_of_ble_eq_true rfl, Nat.le_of_ble_eq_true rfl⟩ ⟨Nat.le_of_ble_eq_true rfl, Nat.le_of_ble_eq_true rfl⟩ (fun _ => ?_)
            dsimp only [Option.toList, List.append, List.nil_append, List.cons_append, Nat.add_zero, Nat.reduceAdd]
            refine x_if_ne (pc := 75) O 81 dX8_group_75 (by decide) (fun c75 => ?_) (fun c75 => ?_)
            · refine x_iload (pc := 81) O dX8_group_81 rfl ?_
              refine x_iconst (v := (-1)) (pc := 83) O dX8_group_83 (by decide) ?_
              refine x_icmp_ne (pc := 84) O 91 dX8_group_84 (by decide) (fun c84 => ?_) (fun c84 => ?_)
              · refine x_iload (pc := 91) O dX8_group_91 rfl ?_
                refine x_istore (pc := 93) O dX8_group_93 (by decide) rfl ?_
                refine x_iload (pc := 95) O dX8_group_95 rfl ?_
                refine x_if_ne (pc := 97) O 111 dX8_group_97 (by decide) (fun c97 => ?_) (fun c97 => ?_)
                · have hput := gst_put (x := c) hst (fun z => c97 z.1)
                  refine x_aload_n (pc := 111) O dX8_group_111 rfl rfl ?_
                  refine v_get (pc := 112) O dX8_group_112 fdX8_89 rfl rfl ?_
                  refine x_aload_n (pc := 115) O dX8_group_115 rfl rfl ?_
                  refine v_get (pc := 116) O dX8_group_116 fdX8_158 rfl rfl ?_
                  refine x_iload (pc := 119) O dX8_group_119 rfl ?_
                  refine v_ast (k := 39) (pc := 121) O dX8_group_121 rfl rfl rfl hput.1 (by show _ < 3720; have := kids_len (a := a) (ln := lnB a) (of := of) (but := but) (s := s) (m := c); omega) ?_
                  refine x_aload_n (pc := 122) O dX8_group_122 rfl rfl ?_
                  refine x_dup (pc := 123) O dX8_group_123 rfl ?_
                  refine v_get (pc := 124) O dX8_group_124 fdX8_158 rfl rfl ?_
                  refine x_iconst (v := 1) (pc := 127) O dX8_group_127 (by decide) ?_
                  refine x_iadd (pc := 128) O dX8_group_128 ?_
                  refine v_put (pc := 129) O dX8_group_129 fpX8_158 rfl rfl ?_
                  refine x_iinc (v := nI (c + 1)) (pc := 132) O dX8_group_132 rfl (nI_succ c).symm rfl ?_
                  refine x_goto (pc := 135) O 31 dX8_group_135 (by decide) ?_
                  have hKp : kidP a (lnB a) of but s c := ⟨c43, by rw [← hA9]; exact c55, by simp only [lnB, decide_eq_true_eq]; rw [← hA21]; exact c65, by have z := b2i_n0 c75; rw [hA10, hA11] at z; exact z⟩
                  have hK := kids_t hKp
                  exact ih (by omega) _ _ _ _ (by rw [hK]; exact hput.2) (by rw [hK, hd1_app, if_neg (fun z => c84 (by rw [he, z]; rfl))]; exact he) (by rw [hK, la1_app])
                · refine x_aload_n (pc := 100) O dX8_group_100 rfl rfl ?_
                  refine v_get (pc := 101) O dX8_group_101 fdX8_130 rfl rfl ?_
                  refine x_iconst (v := 2) (pc := 104) O dX8_group_104 (by decide) ?_
                  refine x_icmp_ge (pc := 105) O 111 dX8_group_105 (by decide) (fun c105 => ?_) (fun c105 => ?_)
                  · have hput := gst_put (x := c) hst (fun z => (Int32.not_lt.mpr c105) (by rw [hI0]; exact z.2))
                    refine x_aload_n (pc := 111) O dX8_group_111 rfl rfl ?_
                    refine v_get (pc := 112) O dX8_group_112 fdX8_89 rfl rfl ?_
                    refine x_aload_n (pc := 115) O dX8_group_115 rfl rfl ?_
                    refine v_get (pc := 116) O dX8_group_116 fdX8_158 rfl rfl ?_
                    refine x_iload (pc := 119) O dX8_group_119 rfl ?_
                    refine v_ast (k := 39) (pc := 121) O dX8_group_121 rfl rfl rfl hput.1 (by show _ < 3720; have := kids_len (a := a) (ln := lnB a) (of := of) (but := but) (s := s) (m := c); omega) ?_
                    refine x_aload_n (pc := 122) O dX8_group_122 rfl rfl ?_
                    refine x_dup (pc := 123) O dX8_group_123 rfl ?_
                    refine v_get (pc := 124) O dX8_group_124 fdX8_158 rfl rfl ?_
                    refine x_iconst (v := 1) (pc := 127) O dX8_group_127 (by decide) ?_
                    refine x_iadd (pc := 128) O dX8_group_128 ?_
                    refine v_put (pc := 129) O dX8_group_129 fpX8_158 rfl rfl ?_
                    refine x_iinc (v := nI (c + 1)) (pc := 132) O dX8_group_132 rfl (nI_succ c).symm rfl ?_
                    refine x_goto (pc := 135) O 31 dX8_group_135 (by decide) ?_
                    have hKp : kidP a (lnB a) of but s c := ⟨c43, by rw [← hA9]; exact c55, by simp only [lnB, decide_eq_true_eq]; rw [← hA21]; exact c65, by have z := b2i_n0 c75; rw [hA10, hA11] at z; exact z⟩
                    have hK := kids_t hKp
                    exact ih (by omega) _ _ _ _ (by rw [hK]; exact hput.2) (by rw [hK, hd1_app, if_neg (fun z => c84 (by rw [he, z]; rfl))]; exact he) (by rw [hK, la1_app])
                  · refine x_goto (pc := 108) O 132 dX8_group_108 (by decide) ?_
                    refine x_iinc (v := nI (c + 1)) (pc := 132) O dX8_group_132 rfl (nI_succ c).symm rfl ?_
                    refine x_goto (pc := 135) O 31 dX8_group_135 (by decide) ?_
                    have hKp : kidP a (lnB a) of but s c := ⟨c43, by rw [← hA9]; exact c55, by simp only [lnB, decide_eq_true_eq]; rw [← hA21]; exact c65, by have z := b2i_n0 c75; rw [hA10, hA11] at z; exact z⟩
                    have hK := kids_t hKp
                    exact ih (by omega) I A _ _ (gst_keep hst ⟨c97, by rw [← hI0]; exact Int32.not_le.mp c105⟩) (by rw [hK, hd1_app, if_neg (fun z => c84 (by rw [he, z]; rfl))]; exact he) (by rw [hK, la1_app])
              · refine x_iload (pc := 87) O dX8_group_87 rfl ?_
                refine x_istore (pc := 89) O dX8_group_89 (by decide) rfl ?_
                refine x_iload (pc := 91) O dX8_group_91 rfl ?_
                refine x_istore (pc := 93) O dX8_group_93 (by decide) rfl ?_
                refine x_iload (pc := 95) O dX8_group_95 rfl ?_
                refine x_if_ne (pc := 97) O 111 dX8_group_97 (by decide) (fun c97 => ?_) (fun c97 => ?_)
                · have hput := gst_put (x := c) hst (fun z => c97 z.1)
                  refine x_aload_n (pc := 111) O dX8_group_111 rfl rfl ?_
                  refine v_get (pc := 112) O dX8_group_112 fdX8_89 rfl rfl ?_
                  refine x_aload_n (pc := 115) O dX8_group_115 rfl rfl ?_
                  refine v_get (pc := 116) O dX8_group_116 fdX8_158 rfl rfl ?_
                  refine x_iload (pc := 119) O dX8_group_119 rfl ?_
                  refine v_ast (k := 39) (pc := 121) O dX8_group_121 rfl rfl rfl hput.1 (by show _ < 3720; have := kids_len (a := a) (ln := lnB a) (of := of) (but := but) (s := s) (m := c); omega) ?_
                  refine x_aload_n (pc := 122) O dX8_group_122 rfl rfl ?_
                  refine x_dup (pc := 123) O dX8_group_123 rfl ?_
                  refine v_get (pc := 124) O dX8_group_124 fdX8_158 rfl rfl ?_
                  refine x_iconst (v := 1) (pc := 127) O dX8_group_127 (by decide) ?_
                  refine x_iadd (pc := 128) O dX8_group_128 ?_
                  refine v_put (pc := 129) O dX8_group_129 fpX8_158 rfl rfl ?_
                  refine x_iinc (v := nI (c + 1)) (pc := 132) O dX8_group_132 rfl (nI_succ c).symm rfl ?_
                  refine x_goto (pc := 135) O 31 dX8_group_135 (by decide) ?_
                  have hKp : kidP a (lnB a) of but s c := ⟨c43, by rw [← hA9]; exact c55, by simp only [lnB, decide_eq_true_eq]; rw [← hA21]; exact c65, by have z := b2i_n0 c75; rw [hA10, hA11] at z; exact z⟩
                  have hK := kids_t hKp
                  exact ih (by omega) _ _ _ _ (by rw [hK]; exact hput.2) (by rw [hK, hd1_app, if_pos ((hd1_m1 (fun x hx => by have := (kids_mem.mp hx).1; omega)).mp (by rw [← he]; exact c84))]) (by rw [hK, la1_app])
                · refine x_aload_n (pc := 100) O dX8_group_100 rfl rfl ?_
                  refine v_get (pc := 101) O dX8_group_101 fdX8_130 rfl rfl ?_
                  refine x_iconst (v := 2) (pc := 104) O dX8_group_104 (by decide) ?_
                  refine x_icmp_ge (pc := 105) O 111 dX8_group_105 (by decide) (fun c105 => ?_) (fun c105 => ?_)
                  · have hput := gst_put (x := c) hst (fun z => (Int32.not_lt.mpr c105) (by rw [hI0]; exact z.2))
                    refine x_aload_n (pc := 111) O dX8_group_111 rfl rfl ?_
                    refine v_get (pc := 112) O dX8_group_112 fdX8_89 rfl rfl ?_
                    refine x_aload_n (pc := 115) O dX8_group_115 rfl rfl ?_
                    refine v_get (pc := 116) O dX8_group_116 fdX8_158 rfl rfl ?_
                    refine x_iload (pc := 119) O dX8_group_119 rfl ?_
                    refine v_ast (k := 39) (pc := 121) O dX8_group_121 rfl rfl rfl hput.1 (by show _ < 3720; have := kids_len (a := a) (ln := lnB a) (of := of) (but := but) (s := s) (m := c); omega) ?_
                    refine x_aload_n (pc := 122) O dX8_group_122 rfl rfl ?_
                    refine x_dup (pc := 123) O dX8_group_123 rfl ?_
                    refine v_get (pc := 124) O dX8_group_124 fdX8_158 rfl rfl ?_
                    refine x_iconst (v := 1) (pc := 127) O dX8_group_127 (by decide) ?_
                    refine x_iadd (pc := 128) O dX8_group_128 ?_
                    refine v_put (pc := 129) O dX8_group_129 fpX8_158 rfl rfl ?_
                    refine x_iinc (v := nI (c + 1)) (pc := 132) O dX8_group_132 rfl (nI_succ c).symm rfl ?_
                    refine x_goto (pc := 135) O 31 dX8_group_135 (by decide) ?_
                    have hKp : kidP a (lnB a) of but s c := ⟨c43, by rw [← hA9]; exact c55, by simp only [lnB, decide_eq_true_eq]; rw [← hA21]; exact c65, by have z := b2i_n0 c75; rw [hA10, hA11] at z; exact z⟩
                    have hK := kids_t hKp
                    exact ih (by omega) _ _ _ _ (by rw [hK]; exact hput.2) (by rw [hK, hd1_app, if_pos ((hd1_m1 (fun x hx => by have := (kids_mem.mp hx).1; omega)).mp (by rw [← he]; exact c84))]) (by rw [hK, la1_app])
                  · refine x_goto (pc := 108) O 132 dX8_group_108 (by decide) ?_
                    refine x_iinc (v := nI (c + 1)) (pc := 132) O dX8_group_132 rfl (nI_succ c).symm rfl ?_
                    refine x_goto (pc := 135) O 31 dX8_group_135 (by decide) ?_
                    have hKp : kidP a (lnB a) of but s c := ⟨c43, by rw [← hA9]; exact c55, by simp only [lnB, decide_eq_true_eq]; rw [← hA21]; exact c65, by have z := b2i_n0 c75; rw [hA10, hA11] at z; exact z⟩
                    have hK := kids_t hKp
                    exact ih (by omega) I A _ _ (gst_keep hst ⟨c97, by rw [← hI0]; exact Int32.not_le.mp c105⟩) (by rw [hK, hd1_app, if_pos ((hd1_m1 (fun x hx => by have := (kids_mem.mp hx).1; omega)).mp (by rw [← he]; exact c84))]) (by rw [hK, la1_app])
            · refine x_goto (pc := 78) O 132 dX8_group_78 (by decide) ?_
              refine x_iinc (v := nI (c + 1)) (pc := 132) O dX8_group_132 rfl (nI_succ c).symm rfl ?_
              refine x_goto (pc := 135) O 31 dX8_group_135 (by decide) ?_
              have hK := kids_f (a := a) (ln := lnB a) (of := of) (but := but) (s := s) (m := c) (fun z => b2i_z c75 (by rw [hA10, hA11]; exact z.2.2.2))
              exact ih (by omega) I A e y (by rw [hK]; exact hst) (by rw [hK]; exact he) (by rw [hK]; exact hy)
  have fin : ∀ I A, I = upd i 40 (nI (u + (grp a (lnB a) m (i 0) of but).length)) → A = rowput a u (grp a (lnB a) m (i 0) of but) → ∀ s, J (RV E o d I A ch) 0 0 196 [some (.ref o), some (.int (nI of)), some (.int but), some (.int (nI u)), some (.int (s)), none, none, none] [] := by
    intro I A hI hA s
    refine x_aload_n (pc := 196) O dX8_group_196 rfl rfl ?_
    refine v_get (pc := 197) O dX8_group_197 fdX8_158 rfl rfl ?_
    refine x_iload_n (pc := 200) O dX8_group_200 rfl ?_
    refine x_isub (pc := 201) O dX8_group_201 ?_
    exact x_ret (v := some (.int _)) (pc := 202) O dX8_group_202 rfl (rfl) ⟨Nat.le_refl _, Nat.le_refl _, (), congrArg (fun z => some (Value.int z)) (by rw [hI, upd_eq, pk_sub (by omega)]; congr 1; omega), fun h hh => by rw [← hI, ← hA]; exact hh⟩
  have out2 : ∀ I A, I = upd i 40 (nI (u + (grp a (lnB a) m (i 0) of but).length)) → A = rowput a u (grp a (lnB a) m (i 0) of but) → J (RV E o d I A ch) 0 0 8 [some (.ref o), some (.int (nI of)), some (.int but), some (.int (nI u)), some (.int (nI 2)), none, none, none] [] := by
    intro I A hI hA
    refine x_iload (pc := 8) O dX8_group_8 rfl ?_
    refine x_iconst (v := 2) (pc := 10) O dX8_group_10 (by decide) ?_
    refine x_icmp_ge (pc := 11) O 196 dX8_group_11 (by decide) (fun c11 => ?_) (fun c11 => ?_)
    · exact fin I A hI hA _
    · exact absurd (by decide) c11
  have out1f : (grp a (lnB a) m (i 0) of but).length ≠ 0 → ∀ I A, I = upd i 40 (nI (u + (grp a (lnB a) m (i 0) of but).length)) → A = rowput a u (grp a (lnB a) m (i 0) of but) → J (RV E o d I A ch) 0 0 8 [some (.ref o), some (.int (nI of)), some (.int but), some (.int (nI u)), some (.int (nI 1)), none, none, none] [] := by
    intro hne I A hI hA
    refine x_iload (pc := 8) O dX8_group_8 rfl ?_
    refine x_iconst (v := 2) (pc := 10) O dX8_group_10 (by decide) ?_
    refine x_icmp_ge (pc := 11) O 196 dX8_group_11 (by decide) (fun c11 => ?_) (fun c11 => ?_)
    · exact absurd c11 (by decide)
    · refine x_aload_n (pc := 14) O dX8_group_14 rfl rfl ?_
      refine v_get (pc := 15) O dX8_group_15 fdX8_158 rfl rfl ?_
      refine x_iload_n (pc := 18) O dX8_group_18 rfl ?_
      refine x_icmp_ne (pc := 19) O 196 dX8_group_19 (by decide) (fun c19 => ?_) (fun c19 => ?_)
      · exact fin I A hI hA _
      · rw [hI, upd_eq, nI_eq (by omega) (by omega)] at c19
        omega
  have out1 : (grp a (lnB a) m (i 0) of but) = kids a (lnB a) of but (nI 1) m → J (RV E o d i a ch) 0 0 8 [some (.ref o), some (.int (nI of)), some (.int but), some (.int (nI u)), some (.int (nI 1)), none, none, none] [] := by
    intro hG1
    refine x_iload (pc := 8) O dX8_group_8 rfl ?_
    refine x_iconst (v := 2) (pc := 10) O dX8_group_10 (by decide) ?_
    refine x_icmp_ge (pc := 11) O 196 dX8_group_11 (by decide) (fun c11 => ?_) (fun c11 => ?_)
    · exact absurd c11 (by decide)
    · refine x_aload_n (pc := 14) O dX8_group_14 rfl rfl ?_
      refine v_get (pc := 15) O dX8_group_15 fdX8_158 rfl rfl ?_
      refine x_iload_n (pc := 18) O dX8_group_18 rfl ?_
      refine x_icmp_ne (pc := 19) O 196 dX8_group_19 (by decide) (fun c19 => ?_) (fun c19 => ?_)
      · exact absurd hu c19
      · refine x_iconst (v := (-1)) (pc := 22) O dX8_group_22 (by decide) ?_
        refine x_istore (pc := 23) O dX8_group_23 (by decide) rfl ?_
        refine x_iconst (v := (-1)) (pc := 25) O dX8_group_25 (by decide) ?_
        refine x_istore (pc := 26) O dX8_group_26 (by decide) rfl ?_
        refine x_iconst (v := nI 0) (pc := 28) O dX8_group_28 (by decide) ?_
        refine x_istore (pc := 29) O dX8_group_29 (by decide) rfl ?_
        refine inner (nI 1) (fun I A e y hst he hy => ?_) 0 (Nat.zero_le _) i a _ _ ⟨fun z => absurd z.1 (by decide), fun _ => ⟨(upd_id hu).symm, (rowput_nil a u).symm⟩⟩ rfl rfl
        refine x_iload (pc := 138) O dX8_group_138 rfl ?_
        refine x_if_ne (pc := 140) O 190 dX8_group_140 (by decide) (fun c140 => ?_) (fun c140 => ?_)
        · refine x_iinc (v := nI 2) (pc := 190) O dX8_group_190 rfl (by decide) rfl ?_
          refine x_goto (pc := 193) O 8 dX8_group_193 (by decide) ?_
          refine x_lv O [some (.ref o), some (.int (nI of)), some (.int but), some (.int (nI u)), some (.int (nI 2)), none, none, none] ⟨rfl, rfl, rfl, rfl, rfl, trivial⟩ ?_
          obtain ⟨h1, h2⟩ := hst.2 (fun z => absurd z.1 (by decide))
          refine out2 I A ?_ ?_
          · rw [hG1]; exact h1
          · rw [hG1]; exact h2
        · exact absurd c140 (by decide)
  refine x_aload_n (pc := 0) O dX8_group_0 rfl rfl ?_
  refine v_get (pc := 1) O dX8_group_1 fdX8_158 rfl rfl ?_
  rw [hu]
  refine x_istore_n (pc := 4) O dX8_group_4 (by decide) rfl ?_
  refine x_iconst (v := nI 0) (pc := 5) O dX8_group_5 (by decide) ?_
  refine x_istore (pc := 6) O dX8_group_6 (by decide) rfl ?_
  refine x_iload (pc := 8) O dX8_group_8 rfl ?_
  refine x_iconst (v := 2) (pc := 10) O dX8_group_10 (by decide) ?_
  refine x_icmp_ge (pc := 11) O 196 dX8_group_11 (by decide) (fun c11 => ?_) (fun c11 => ?_)
  · exact absurd c11 (by decide)
  · refine x_aload_n (pc := 14) O dX8_group_14 rfl rfl ?_
    refine v_get (pc := 15) O dX8_group_15 fdX8_158 rfl rfl ?_
    refine x_iload_n (pc := 18) O dX8_group_18 rfl ?_
    refine x_icmp_ne (pc := 19) O 196 dX8_group_19 (by decide) (fun c19 => ?_) (fun c19 => ?_)
    · exact absurd hu c19
    · refine x_iconst (v := (-1)) (pc := 22) O dX8_group_22 (by decide) ?_
      refine x_istore (pc := 23) O dX8_group_23 (by decide) rfl ?_
      refine x_iconst (v := (-1)) (pc := 25) O dX8_group_25 (by decide) ?_
      refine x_istore (pc := 26) O dX8_group_26 (by decide) rfl ?_
      refine x_iconst (v := nI 0) (pc := 28) O dX8_group_28 (by decide) ?_
      refine x_istore (pc := 29) O dX8_group_29 (by decide) rfl ?_
      refine inner (nI 0) (fun I A e y hst he hy => ?_) 0 (Nat.zero_le _) i a _ _ ⟨fun _ => ⟨rfl, rfl⟩, fun _ => ⟨(upd_id hu).symm, (rowput_nil a u).symm⟩⟩ rfl rfl
      have hI0 : I 0 = i 0 := (gst_A hst).2 0 (by decide)
      refine x_iload (pc := 138) O dX8_group_138 rfl ?_
      refine x_if_ne (pc := 140) O 190 dX8_group_140 (by decide) (fun c140 => ?_) (fun c140 => ?_)
      · exact absurd (by decide) c140
      · refine x_aload_n (pc := 143) O dX8_group_143 rfl rfl ?_
        refine v_get (pc := 144) O dX8_group_144 fdX8_130 rfl rfl ?_
        refine x_iconst (v := 2) (pc := 147) O dX8_group_147 (by decide) ?_
        refine x_icmp_ge (pc := 148) O 190 dX8_group_148 (by decide) (fun c148 => ?_) (fun c148 => ?_)
        · refine x_iinc (v := nI 1) (pc := 190) O dX8_group_190 rfl (by decide) rfl ?_
          refine x_goto (pc := 193) O 8 dX8_group_193 (by decide) ?_
          refine x_lv O [some (.ref o), some (.int (nI of)), some (.int but), some (.int (nI u)), some (.int (nI 1)), none, none, none] ⟨rfl, rfl, rfl, rfl, rfl, trivial⟩ ?_
          obtain ⟨h1, h2⟩ := hst.2 (fun z => (Int32.not_lt.mpr c148) (by rw [hI0]; exact z.2))
          by_cases hs0 : kids a (lnB a) of but 0 m = []
          · have e1 : I = i := by rw [h1, show nI 0 = 0 from rfl, hs0]; exact upd_id hu
            have e2 : A = a := by rw [h2, show nI 0 = 0 from rfl, hs0]; exact rowput_nil a u
            rw [e1, e2]
            exact out1 (by unfold grp; rw [if_pos hs0]; rfl)
          · have hG : grp a (lnB a) m (i 0) of but = kids a (lnB a) of but (nI 0) m := by
              unfold grp
              rw [if_neg hs0, if_neg (fun z => (Int32.not_lt.mpr c148) (by rw [hI0]; exact z))]
              rfl
            exact out1f (by rw [hG]; intro z; exact hs0 (List.length_eq_zero_iff.mp z)) I A (by rw [hG]; exact h1) (by rw [hG]; exact h2)
        · refine x_iload (pc := 151) O dX8_group_151 rfl ?_
          refine x_iconst (v := (-1)) (pc := 153) O dX8_group_153 (by decide) ?_
          refine x_icmp_eq (pc := 154) O 190 dX8_group_154 (by decide) (fun c154 => ?_) (fun c154 => ?_)
          · refine x_iinc (v := nI 1) (pc := 190) O dX8_group_190 rfl (by decide) rfl ?_
            refine x_goto (pc := 193) O 8 dX8_group_193 (by decide) ?_
            refine x_lv O [some (.ref o), some (.int (nI of)), some (.int but), some (.int (nI u)), some (.int (nI 1)), none, none, none] ⟨rfl, rfl, rfl, rfl, rfl, trivial⟩ ?_
            obtain ⟨h1, h2⟩ := hst.1 ⟨by decide, by rw [← hI0]; exact Int32.not_le.mp c148⟩
            have hs0 : kids a (lnB a) of but 0 m = [] := (hd1_m1 (fun x hx => by have := (kids_mem.mp hx).1; omega)).mp (by rw [show (0 : Int32) = nI 0 from rfl, ← he]; exact c154)
            rw [h1, h2]
            exact out1 (by unfold grp; rw [if_pos hs0]; rfl)
          · refine x_aload_n (pc := 157) O dX8_group_157 rfl rfl ?_
            refine v_get (pc := 158) O dX8_group_158 fdX8_89 rfl rfl ?_
            refine x_aload_n (pc := 161) O dX8_group_161 rfl rfl ?_
            refine v_get (pc := 162) O dX8_group_162 fdX8_158 rfl rfl ?_
            refine x_aload_n (pc := 165) O dX8_group_165 rfl rfl ?_
            refine v_get (pc := 166) O dX8_group_166 fdX8_130 rfl rfl ?_
            refine x_if_ne (pc := 169) O 177 dX8_group_169 (by decide) (fun c169 => ?_) (fun c169 => ?_)
            · refine x_iload (pc := 177) O dX8_group_177 rfl ?_
              refine v_ast (k := 39) (pc := 179) O dX8_group_179 rfl rfl rfl (by rw [(hst.1 ⟨by decide, by rw [← hI0]; exact Int32.not_le.mp c148⟩).1]; exact hu) (by show _ < 3720; omega) ?_
              refine x_aload_n (pc := 180) O dX8_group_180 rfl rfl ?_
              refine x_dup (pc := 181) O dX8_group_181 rfl ?_
              refine v_get (pc := 182) O dX8_group_182 fdX8_158 rfl rfl ?_
              refine x_iconst (v := 1) (pc := 185) O dX8_group_185 (by decide) ?_
              refine x_iadd (pc := 186) O dX8_group_186 ?_
              refine v_put (pc := 187) O dX8_group_187 fpX8_158 rfl rfl ?_
              refine x_iinc (v := nI 1) (pc := 190) O dX8_group_190 rfl (by decide) rfl ?_
              refine x_goto (pc := 193) O 8 dX8_group_193 (by decide) ?_
              refine x_lv O [some (.ref o), some (.int (nI of)), some (.int but), some (.int (nI u)), some (.int (nI 1)), none, none, none] ⟨rfl, rfl, rfl, rfl, rfl, trivial⟩ ?_
              obtain ⟨h1, h2⟩ := hst.1 ⟨by decide, by rw [← hI0]; exact Int32.not_le.mp c148⟩
              have hs0 : ¬ kids a (lnB a) of but 0 m = [] := fun z => c154 (by rw [he, show nI 0 = 0 from rfl, z]; rfl)
              have hG : grp a (lnB a) m (i 0) of but = [if i 0 = 0 then (kids a (lnB a) of but 0 m).headD 0 else (kids a (lnB a) of but 0 m).getLastD 0] := by
                unfold grp
                rw [if_neg hs0, if_pos (by rw [← hI0]; exact Int32.not_le.mp c148)]
              have hv : y = nI (if i 0 = 0 then (kids a (lnB a) of but 0 m).headD 0 else (kids a (lnB a) of but 0 m).getLastD 0) := by
                rw [if_neg (by rw [← hI0]; exact c169), hy, show nI 0 = 0 from rfl]
                obtain ⟨x, r, hx⟩ := List.exists_cons_of_ne_nil hs0
                rw [hx]
                simp [la1, List.getLast?_eq_some_getLast, List.getLastD]
              refine out1f (by rw [hG]; simp) _ _ ?_ ?_
              · rw [hG, h1, hu, show nI u + 1 = nI (u + 1) from (nI_succ u).symm]; rfl
              · rw [hG, h2, hv]
                have := rowput_app a u [] (if i 0 = 0 then (kids a (lnB a) of but 0 m).headD 0 else (kids a (lnB a) of but 0 m).getLastD 0)
                rw [rowput_nil] at this
                simpa using this
            · refine x_iload (pc := 172) O dX8_group_172 rfl ?_
              refine x_goto (pc := 174) O 179 dX8_group_174 (by decide) ?_
              refine v_ast (k := 39) (pc := 179) O dX8_group_179 rfl rfl rfl (by rw [(hst.1 ⟨by decide, by rw [← hI0]; exact Int32.not_le.mp c148⟩).1]; exact hu) (by show _ < 3720; omega) ?_
              refine x_aload_n (pc := 180) O dX8_group_180 rfl rfl ?_
              refine x_dup (pc := 181) O dX8_group_181 rfl ?_
              refine v_get (pc := 182) O dX8_group_182 fdX8_158 rfl rfl ?_
              refine x_iconst (v := 1) (pc := 185) O dX8_group_185 (by decide) ?_
              refine x_iadd (pc := 186) O dX8_group_186 ?_
              refine v_put (pc := 187) O dX8_group_187 fpX8_158 rfl rfl ?_
              refine x_iinc (v := nI 1) (pc := 190) O dX8_group_190 rfl (by decide) rfl ?_
              refine x_goto (pc := 193) O 8 dX8_group_193 (by decide) ?_
              refine x_lv O [some (.ref o), some (.int (nI of)), some (.int but), some (.int (nI u)), some (.int (nI 1)), none, none, none] ⟨rfl, rfl, rfl, rfl, rfl, trivial⟩ ?_
              obtain ⟨h1, h2⟩ := hst.1 ⟨by decide, by rw [← hI0]; exact Int32.not_le.mp c148⟩
              have hs0 : ¬ kids a (lnB a) of but 0 m = [] := fun z => c154 (by rw [he, show nI 0 = 0 from rfl, z]; rfl)
              have hG : grp a (lnB a) m (i 0) of but = [if i 0 = 0 then (kids a (lnB a) of but 0 m).headD 0 else (kids a (lnB a) of but 0 m).getLastD 0] := by
                unfold grp
                rw [if_neg hs0, if_pos (by rw [← hI0]; exact Int32.not_le.mp c148)]
              have hv : e = nI (if i 0 = 0 then (kids a (lnB a) of but 0 m).headD 0 else (kids a (lnB a) of but 0 m).getLastD 0) := by
                rw [if_pos (by rw [← hI0]; exact c169), he, show nI 0 = 0 from rfl]
                obtain ⟨x, r, hx⟩ := List.exists_cons_of_ne_nil hs0
                rw [hx]
                rfl
              refine out1f (by rw [hG]; simp) _ _ ?_ ?_
              · rw [hG, h1, hu, show nI u + 1 = nI (u + 1) from (nI_succ u).symm]; rfl
              · rw [hG, h2, hv]
                have := rowput_app a u [] (if i 0 = 0 then (kids a (lnB a) of but 0 m).headD 0 else (kids a (lnB a) of but 0 m).getLastD 0)
                rw [rowput_nil] at this
                simpa using this
end
section
/-! ===== REF 7: first, listed, heir ===== -/
theorem fstG_len {a : Ar} {ln : Nat → Bool} {m : Nat} {ord : Int32} {p : Nat} (hm : m ≤ 60) : (fstG a ln m ord p).length ≤ 60 := by
  unfold fstG
  dsimp only
  (repeat' split) <;> first | exact grp_len hm | simp
theorem nI_gt0 {n : Nat} (h : n < 2 ^ 31) : 0 < nI n ↔ ¬ n = 0 := by
  rw [show (0 : Int32) = nI 0 from rfl, nI_ltI (by omega) h]
  omega
set_option maxRecDepth 100000 in
set_option maxHeartbeats 4000000 in
theorem c_X8_first (l : Launch) (E : En) (o : Nat) (d : Nat → Nat) (i : Nat → Int32) (a : Nat → Nat → Int32) (ch : Nat → List Rt) (p : Nat) {m : Nat} (hm : i 22 = nI m) (h60 : m ≤ 60) (hu : i 40 = nI 0) (hp : p < 60) (hfa : ¬ a 10 p = -1 → ∃ f, f < 60 ∧ a 10 p = nI f) : Mt l E yX8_first cX8_first 3 (some .int) (rmX 2 49 0 0) [.ref o, .int (nI p)] (RV E o d i a ch) (fun _ : Unit => some (.int (nI (fstG a (lnB a) m (i 0) p).length))) (fun _ => RV E o d (upd i 40 (nI (0 + (fstG a (lnB a) m (i 0) p).length))) (rowput a 0 (fstG a (lnB a) m (i 0) p)) ch) := by
  refine Mt_of (by decide +kernel) (Nat.le_of_ble_eq_true rfl) (fun J O => ?_)
  show J _ 0 0 0 [some (.ref o), some (.int (nI p)), none] []
  have hgl := grp_len (a := a) (ln := lnB a) (ord := i 0) (of := p) (but := -1) h60
  refine x_aload_n (pc := 0) O dX8_first_0 rfl rfl ?_
  refine x_iload_n (pc := 1) O dX8_first_1 rfl ?_
  refine x_iconst (v := (-1)) (pc := 2) O dX8_first_2 (by decide) ?_
  refine x_callV (pc := 3) (rest := _) (ci := 8) O (c_X8_group l E _ _ _ _ _ p (-1) hm h60 (u := 0) hu (by omega)) dX8_first_3 cbX8_161 im_yX8_group se_yX8_group rfl v_recv rfl rfl (Nat.le_of_ble_eq_true rfl) ⟨Nat.le_of_ble_eq_true rfl, Nat.le_of_ble_eq_true rfl⟩ ⟨Nat.le_of_ble_eq_true rfl, Nat.le_of_ble_eq_true rfl⟩ (fun _ => ?_)
  dsimp only [Option.toList, List.append, List.nil_append, List.cons_append, Nat.add_zero, Nat.reduceAdd]
  refine x_istore_n (pc := 6) O dX8_first_6 (by decide) rfl ?_
  refine x_iload_n (pc := 7) O dX8_first_7 rfl ?_
  refine x_if_gt (pc := 8) O 21 dX8_first_8 (by decide) (fun c8 => ?_) (fun c8 => ?_)
  · have hne : ¬ grp a (lnB a) m (i 0) p (-1) = [] := fun z => by
      rw [z] at c8
      exact absurd c8 (by decide)
    refine x_iload_n (pc := 21) O dX8_first_21 rfl ?_
    refine x_goto (pc := 22) O 36 dX8_first_22 (by decide) ?_
    exact x_ret (v := some (.int _)) (pc := 36) O dX8_first_36 rfl (rfl) ⟨Nat.le_refl _, Nat.le_refl _, (), congrArg (fun z => some (Value.int z)) (by unfold fstG; rw [if_neg hne]), fun h hh => by unfold fstG; rw [if_neg hne]; exact hh⟩
  · have h0 : grp a (lnB a) m (i 0) p (-1) = [] := by
      rw [nI_gt0 (by omega)] at c8
      exact List.length_eq_zero_iff.mp (by omega)
    rw [show upd i 40 (nI (0 + (grp a (lnB a) m (i 0) p (-1)).length)) = i from by rw [h0]; exact upd_id hu, show rowput a 0 (grp a (lnB a) m (i 0) p (-1)) = a from by rw [h0]; exact rowput_nil a 0]
    refine x_aload_n (pc := 11) O dX8_first_11 rfl rfl ?_
    refine v_get (pc := 12) O dX8_first_12 fdX8_13 rfl rfl ?_
    refine x_iload_n (pc := 15) O dX8_first_15 rfl ?_
    refine v_ald (k := 10) (pc := 16) O dX8_first_16 rfl rfl rfl rfl (by show _ < 60; omega) ?_
    refine x_iconst (v := (-1)) (pc := 17) O dX8_first_17 (by decide) ?_
    refine x_icmp_ne (pc := 18) O 25 dX8_first_18 (by decide) (fun c18 => ?_) (fun c18 => ?_)
    · obtain ⟨f, hf9, hf⟩ := hfa c18
      refine x_aload_n (pc := 25) O dX8_first_25 rfl rfl ?_
      refine x_aload_n (pc := 26) O dX8_first_26 rfl rfl ?_
      refine v_get (pc := 27) O dX8_first_27 fdX8_13 rfl rfl ?_
      refine x_iload_n (pc := 30) O dX8_first_30 rfl ?_
      refine v_ald (k := 10) (pc := 31) O dX8_first_31 rfl rfl rfl rfl (by show _ < 60; omega) ?_
      rw [hf]
      refine x_iload_n (pc := 32) O dX8_first_32 rfl ?_
      refine x_callV (pc := 33) (rest := _) (ci := 8) O (c_X8_group l E _ _ _ _ _ f _ hm h60 (u := 0) hu (by omega)) dX8_first_33 cbX8_161 im_yX8_group se_yX8_group rfl v_recv rfl rfl (Nat.le_of_ble_eq_true rfl) ⟨Nat.le_of_ble_eq_true rfl, Nat.le_of_ble_eq_true rfl⟩ ⟨Nat.le_of_ble_eq_true rfl, Nat.le_of_ble_eq_true rfl⟩ (fun _ => ?_)
      dsimp only [Option.toList, List.append, List.nil_append, List.cons_append, Nat.add_zero, Nat.reduceAdd]
      exact x_ret (v := some (.int _)) (pc := 36) O dX8_first_36 rfl (rfl) ⟨Nat.le_refl _, Nat.le_refl _, (), congrArg (fun z => some (Value.int z)) (by unfold fstG; rw [if_pos h0, if_neg c18, hf, nI_clamp (by omega)]), fun h hh => by unfold fstG; rw [if_pos h0, if_neg c18, hf, nI_clamp (by omega)]; exact hh⟩
    · refine x_iload_n (pc := 21) O dX8_first_21 rfl ?_
      refine x_goto (pc := 22) O 36 dX8_first_22 (by decide) ?_
      exact x_ret (v := some (.int _)) (pc := 36) O dX8_first_36 rfl (rfl) ⟨Nat.le_refl _, Nat.le_refl _, (), congrArg (fun z => some (Value.int z)) (by unfold fstG; rw [if_pos h0, if_pos c18, h0]), fun h hh => by unfold fstG; rw [if_pos h0, if_pos c18, show nI (0 + ([] : List Nat).length) = nI 0 from rfl, upd_id hu, rowput_nil]; exact hh⟩
end
section
/-! ===== REF 8: listed, heir ===== -/
theorem kids_congr {a A : Ar} {ln ln' : Nat → Bool} {of : Nat} {but s : Int32} {m : Nat} (h9 : ∀ c, c < m → A 9 c = a 9 c) (h10 : ∀ c, c < m → A 10 c = a 10 c) (h11 : ∀ c, c < m → A 11 c = a 11 c) (hl : ∀ c, c < m → ln' c = ln c) : kids A ln' of but s m = kids a ln of but s m := by
  unfold kids
  refine List.filter_congr (fun c hc => ?_)
  have hc := List.mem_range.mp hc
  simp only [kidB, chd, h9 c hc, h10 c hc, h11 c hc, hl c hc]
theorem grp_congr {a A : Ar} {ln ln' : Nat → Bool} {of : Nat} {but ord : Int32} {m : Nat} (h9 : ∀ c, c < m → A 9 c = a 9 c) (h10 : ∀ c, c < m → A 10 c = a 10 c) (h11 : ∀ c, c < m → A 11 c = a 11 c) (hl : ∀ c, c < m → ln' c = ln c) : grp A ln' m ord of but = grp a ln m ord of but := by
  unfold grp
  rw [kids_congr h9 h10 h11 hl, kids_congr h9 h10 h11 hl]
theorem fm_congr {f g : Nat → List Nat} : ∀ (l : List Nat), (∀ q ∈ l, f q = g q) → l.flatMap f = l.flatMap g
  | [], _ => rfl
  | x :: r, h => by rw [List.flatMap_cons, List.flatMap_cons, h x List.mem_cons_self, fm_congr r (fun q hq => h q (List.mem_cons_of_mem _ hq))]
theorem heirsF_congr {a A : Ar} {al al' ln ln' : Nat → Bool} {ord : Int32} {m : Nat} (h9 : ∀ c, c < m → A 9 c = a 9 c) (h10 : ∀ c, c < m → A 10 c = a 10 c) (h11 : ∀ c, c < m → A 11 c = a 11 c) (hl : ∀ c, c < m → ln' c = ln c) (hal : ∀ c, c < m → al' c = al c) : ∀ f g, (∀ q ∈ g, q < m) → heirsF A al' ln' m ord f g = heirsF a al ln m ord f g
  | 0, _, _ => rfl
  | f + 1, g, hg => by
    simp only [heirsF]
    refine fm_congr _ (fun q hq => ?_)
    rw [hal q (hg q hq), grp_congr h9 h10 h11 hl, heirsF_congr h9 h10 h11 hl hal f _ (fun x hx => (grp_sub hx).1)]
theorem heirsF_lt {a : Ar} {al ln : Nat → Bool} {ord : Int32} {m : Nat} : ∀ f g, (∀ q ∈ g, q < m) → ∀ x ∈ heirsF a al ln m ord f g, x < m
  | 0, _, _, x, h => by simp [heirsF] at h
  | f + 1, g, hg, x, h => by
    simp only [heirsF, List.mem_flatMap] at h
    obtain ⟨q, hq, hx⟩ := h
    split at hx
    · simp at hx; subst hx; exact hg _ hq
    · exact heirsF_lt f _ (fun y hy => (grp_sub hy).1) x hx
theorem heirsF_step {a : Ar} {al ln : Nat → Bool} {ord : Int32} {m f k : Nat} {g : List Nat} (hk : k < g.length) : heirsF a al ln m ord (f + 1) (g.take (k + 1)) = heirsF a al ln m ord (f + 1) (g.take k) ++ (if al (g.getD k 0) = true then [g.getD k 0] else heirsF a al ln m ord f (grp a ln m ord (g.getD k 0) (-1))) := by
  have : g.getD k 0 = g[k] := by simp [List.getD, hk]
  simp only [heirsF]
  rw [List.take_succ_eq_append_getElem hk, List.flatMap_append, this]
  simp
theorem heirsF_pre {a : Ar} {al ln : Nat → Bool} {ord : Int32} {m f : Nat} {g : List Nat} (k : Nat) : ∃ r, heirsF a al ln m ord (f + 1) g = heirsF a al ln m ord (f + 1) (g.take k) ++ r := by
  refine ⟨heirsF a al ln m ord (f + 1) (g.drop k), ?_⟩
  simp only [heirsF]
  rw [← List.flatMap_append, List.take_append_drop]
theorem getD_app3 {l1 l2 l3 : List Nat} {t : Nat} (h : t < l2.length) : (l1 ++ l2 ++ l3).getD (l1.length + t) 0 = l2.getD t 0 := by
  simp only [List.getD]
  rw [List.append_assoc, List.getElem?_append_right (by omega), Nat.add_sub_cancel_left, List.getElem?_append_left h]
def LQ (i : Nat → Int32) (a : Ar) (u s0 wn : Nat) (H : List Nat) (x : Int32 × (Nat → Int32) × Ar) : Prop :=
  (∀ k, k ≠ 41 → x.2.1 k = i k) ∧ (∀ k, k ≠ 39 → x.2.2 k = a k) ∧ (∀ j, j < u → x.2.2 39 j = a 39 j) ∧ ((wn < s0 + H.length ∧ x.1 = nI (H.getD (wn - s0) 0) ∧ x.2.1 41 = nI wn) ∨ (s0 + H.length ≤ wn ∧ x.1 = -1 ∧ x.2.1 41 = nI (s0 + H.length)))
def LI (i : Nat → Int32) (a : Ar) (u s0 wn : Nat) (H : List Nat) (I : Nat → Int32) (A : Ar) : Prop :=
  (∀ k, k ≠ 41 → I k = i k) ∧ (∀ k, k ≠ 39 → A k = a k) ∧ (∀ j, j < u → A 39 j = a 39 j) ∧ s0 + H.length ≤ wn ∧ I 41 = nI (s0 + H.length)
def StL (l : Launch) (E : En) (o : Nat) (d : Nat → Nat) (f : Nat) : Prop := ∀ (i : Nat → Int32) (a : Ar) (ch : Nat → List Rt) (m b u s0 wn : Nat) (g : List Nat), i 22 = nI m → m ≤ 60 → i 40 = nI u → u + 60 * f ≤ 3720 → (∀ t, t < g.length → a 39 (b + t) = nI (g.getD t 0)) → (∀ q ∈ g, q < m ∧ 60 ≤ q + f) → b + g.length ≤ u → i 41 = nI s0 → i 42 = nI wn → s0 ≤ wn → wn < 40 → (∀ c p, c < m → chd a c p → p < c) →
  Mt l E yX8_listed cX8_listed 8 (some .int) (rmX (2 + f) (49 + 27 * f) 0 0) [.ref o, .int (nI b), .int (nI g.length)] (RV E o d i a ch) (fun x : Int32 × (Nat → Int32) × Ar => some (.int x.1)) (fun x h => LQ i a u s0 wn (heirsF a (alB a) (lnB a) m (i 0) f g) x ∧ RV E o d x.2.1 x.2.2 ch h)
set_option maxRecDepth 100000 in
set_option maxHeartbeats 4000000 in
theorem c_X8_listed (l : Launch) (E : En) (o : Nat) (d : Nat → Nat) : ∀ f, StL l E o d f := by
  intro f
  induction f with
  | zero =>
    intro i a ch m b u s0 wn g hm h60 hu hu2 hrow hg hbu h41 h42 hsw hw40 hkin
    have hg0 : g = [] := by
      cases g with
      | nil => rfl
      | cons x r => have := hg x List.mem_cons_self; omega
    refine Mt_of (by decide +kernel) (Nat.le_of_ble_eq_true rfl) (fun J O => ?_)
    show J _ 0 0 0 [some (.ref o), some (.int (nI b)), some (.int (nI g.length)), none, none, none, none, none] []
    refine x_iconst (v := nI 0) (pc := 0) O dX8_listed_0 (by decide) ?_
    refine x_istore_n (pc := 1) O dX8_listed_1 (by decide) rfl ?_
    refine x_iload_n (pc := 2) O dX8_listed_2 rfl ?_
    refine x_iload_n (pc := 3) O dX8_listed_3 rfl ?_
    refine x_icmp_ge (pc := 4) O 100 dX8_listed_4 (by decide) (fun c4 => ?_) (fun c4 => ?_)
    · refine x_iconst (v := (-1)) (pc := 100) O dX8_listed_100 (by decide) ?_
      exact x_ret (v := some (.int _)) (pc := 101) O dX8_listed_101 rfl (rfl) ⟨Nat.le_refl _, Nat.le_refl _, (-1, i, a), rfl, fun h hh => ⟨⟨fun _ _ => rfl, fun _ _ => rfl, fun _ _ => rfl, Or.inr ⟨by rw [hg0]; simpa [heirsF] using hsw, rfl, by rw [hg0]; simpa [heirsF] using h41⟩⟩, hh⟩⟩
    · exact absurd (by rw [hg0]; decide) c4
  | succ f ihf =>
    intro i a ch m b u s0 wn g hm h60 hu hu2 hrow hg hbu h41 h42 hsw hw40 hkin
    refine Mt_of (by decide +kernel) (Nat.le_of_ble_eq_true rfl) (fun J O => ?_)
    show J _ 0 0 0 [some (.ref o), some (.int (nI b)), some (.int (nI g.length)), none, none, none, none, none] []
    have loop : ∀ k, k ≤ g.length → ∀ I A, LI i a u s0 wn (heirsF a (alB a) (lnB a) m (i 0) (f + 1) (g.take k)) I A → J (RV E o d I A ch) 0 0 2 [some (.ref o), some (.int (nI b)), some (.int (nI g.length)), some (.int (nI k)), none, none, none, none] [] := by
      refine up_ind (Φ := fun k => ∀ I A, LI i a u s0 wn (heirsF a (alB a) (lnB a) m (i 0) (f + 1) (g.take k)) I A → J (RV E o d I A ch) 0 0 2 [some (.ref o), some (.int (nI b)), some (.int (nI g.length)), some (.int (nI k)), none, none, none, none] []) g.length (fun k hk ih I A hinv => ?_)
      obtain ⟨hI, hA, hAr, hsk, h41k⟩ := hinv
      have hI22 : I 22 = nI m := by rw [hI 22 (by decide)]; exact hm
      have hI40 : I 40 = nI u := by rw [hI 40 (by decide)]; exact hu
      refine x_iload_n (pc := 2) O dX8_listed_2 rfl ?_
      refine x_iload_n (pc := 3) O dX8_listed_3 rfl ?_
      refine x_icmp_ge (pc := 4) O 100 dX8_listed_4 (by decide) (fun c4 => ?_) (fun c4 => ?_)
      · refine x_iconst (v := (-1)) (pc := 100) O dX8_listed_100 (by decide) ?_
        have hk2 : k = g.length := by
          rw [nI_leI (by omega) (by omega)] at c4
          omega
        exact x_ret (v := some (.int _)) (pc := 101) O dX8_listed_101 rfl (rfl) ⟨Nat.le_refl _, Nat.le_refl _, (-1, I, A), rfl, fun h hh => ⟨⟨hI, hA, hAr, Or.inr ⟨by rw [hk2, List.take_length] at hsk; exact hsk, rfl, by rw [hk2, List.take_length] at h41k; exact h41k⟩⟩, hh⟩⟩
      · have hk3 : k < g.length := by
          rw [nI_leI (by omega) (by omega)] at c4
          omega
        obtain ⟨q, hq⟩ : ∃ q, q = g.getD k 0 := ⟨_, rfl⟩
        have hqm : q ∈ g := by
          rw [hq, List.getD_eq_getElem?_getD, List.getElem?_eq_getElem hk3]
          exact List.getElem_mem _
        have hq60 := (hg q hqm).1
        have hstep := heirsF_step (a := a) (al := alB a) (ln := lnB a) (ord := i 0) (m := m) (f := f) hk3
        rw [← hq] at hstep
        refine x_aload_n (pc := 7) O dX8_listed_7 rfl rfl ?_
        refine v_get (pc := 8) O dX8_listed_8 fdX8_89 rfl rfl ?_
        refine x_iload_n (pc := 11) O dX8_listed_11 rfl ?_
        refine x_iload_n (pc := 12) O dX8_listed_12 rfl ?_
        refine x_iadd (pc := 13) O dX8_listed_13 ?_
        refine v_aldv (k := 39) (v := nI q) (pc := 14) O dX8_listed_14 rfl rfl rfl (nI_add b k) (by show _ < 3720; omega) (by rw [hAr _ (by omega), hrow k hk3, hq]) ?_
        refine x_istore (pc := 15) O dX8_listed_15 (by decide) rfl ?_
        refine x_aload_n (pc := 17) O dX8_listed_17 rfl rfl ?_
        refine v_get (pc := 18) O dX8_listed_18 fdX8_43 rfl rfl ?_
        refine x_iload (pc := 21) O dX8_listed_21 rfl ?_
        refine v_zldv (k := 20) (v := a 20 q) (pc := 23) O dX8_listed_23 rfl rfl (by omega) (by rw [hA 20 (by decide)]) ?_
        refine x_if_eq (pc := 24) O 54 dX8_listed_24 (by decide) (fun c24 => ?_) (fun c24 => ?_)
        · have hal9 : ¬ alB a q = true := by simp [alB, c24]
          refine x_aload_n (pc := 54) O dX8_listed_54 rfl rfl ?_
          refine v_get (pc := 55) O dX8_listed_55 fdX8_158 rfl rfl ?_
          rw [hI40]
          refine x_istore (pc := 58) O dX8_listed_58 (by decide) rfl ?_
          refine x_aload_n (pc := 60) O dX8_listed_60 rfl rfl ?_
          refine x_iload (pc := 61) O dX8_listed_61 rfl ?_
          refine x_iconst (v := (-1)) (pc := 63) O dX8_listed_63 (by decide) ?_
          refine x_callV (pc := 64) (rest := _) (ci := 8) O (c_X8_group l E _ _ _ _ _ q (-1) hI22 h60 (u := u) hI40 (by omega)) dX8_listed_64 cbX8_161 im_yX8_group se_yX8_group rfl v_recv rfl rfl (Nat.le_of_ble_eq_true rfl) ⟨by simp only [rmX]; omega, by simp only [rmX]; omega⟩ ⟨Nat.le_of_ble_eq_true rfl, Nat.le_of_ble_eq_true rfl⟩ (fun _ => ?_)
          dsimp only [Option.toList, List.append, List.nil_append, List.cons_append, Nat.add_zero, Nat.reduceAdd]
          refine x_istore (pc := 67) O dX8_listed_67 (by decide) rfl ?_
          refine x_aload_n (pc := 69) O dX8_listed_69 rfl rfl ?_
          refine x_iload (pc := 70) O dX8_listed_70 rfl ?_
          refine x_iload (pc := 72) O dX8_listed_72 rfl ?_
          have hG : grp A (lnB A) m (I 0) q (-1) = grp a (lnB a) m (i 0) q (-1) := by
            rw [hI 0 (by decide)]
            exact grp_congr (fun c _ => by rw [hA 9 (by decide)]) (fun c _ => by rw [hA 10 (by decide)]) (fun c _ => by rw [hA 11 (by decide)]) (fun c _ => by simp only [lnB, hA 21 (by decide)])
          have hgl := grp_len (a := a) (ln := lnB a) (ord := i 0) (of := q) (but := -1) h60
          rw [hG]
          refine x_callV (pc := 74) (rest := _) (ci := 8) O (ihf (upd I 40 (nI (u + (grp a (lnB a) m (i 0) q (-1)).length))) (rowput A u (grp a (lnB a) m (i 0) q (-1))) ch m u (u + (grp a (lnB a) m (i 0) q (-1)).length) (s0 + (heirsF a (alB a) (lnB a) m (i 0) (f + 1) (g.take k)).length) wn (grp a (lnB a) m (i 0) q (-1)) ?_ h60 ?_ ?_ ?_ ?_ ?_ ?_ ?_ ?_ ?_ ?_) dX8_listed_74 cbX8_171 im_yX8_listed se_yX8_listed rfl v_recv rfl rfl (Nat.le_of_ble_eq_true rfl) ⟨by simp only [rmX]; omega, by simp only [rmX]; omega⟩ ⟨Nat.le_of_ble_eq_true rfl, Nat.le_of_ble_eq_true rfl⟩ (fun x => x_pure O (fun hx => ?_))
          · rw [upd_ne _ _ (by decide)]; exact hI22
          · exact upd_eq _ _ _
          · omega
          · intro t ht; exact rowput_get _ _ _ ht
          · intro y hy
            obtain ⟨y1, y2, y3, -⟩ := grp_sub hy
            have := hkin y q y1 y3
            have := (hg q hqm).2
            exact ⟨y1, by omega⟩
          · omega
          · rw [upd_ne _ _ (by decide)]; exact h41k
          · rw [upd_ne _ _ (by decide), hI 42 (by decide)]; exact h42
          · exact hsk
          · exact hw40
          · intro c p hc hch
            simp only [chd, rowput_ne _ _ _ (show (10 : Nat) ≠ 39 by decide), rowput_ne _ _ _ (show (11 : Nat) ≠ 39 by decide), hA 10 (by decide), hA 11 (by decide)] at hch
            exact hkin c p hc hch
          have hH : heirsF (rowput A u (grp a (lnB a) m (i 0) q (-1))) (alB (rowput A u (grp a (lnB a) m (i 0) q (-1)))) (lnB (rowput A u (grp a (lnB a) m (i 0) q (-1)))) m (upd I 40 (nI (u + (grp a (lnB a) m (i 0) q (-1)).length)) 0) f (grp a (lnB a) m (i 0) q (-1)) = heirsF a (alB a) (lnB a) m (i 0) f (grp a (lnB a) m (i 0) q (-1)) := by
            rw [upd_ne _ _ (by decide), hI 0 (by decide)]
            exact heirsF_congr (fun c _ => by rw [rowput_ne _ _ _ (by decide), hA 9 (by decide)]) (fun c _ => by rw [rowput_ne _ _ _ (by decide), hA 10 (by decide)]) (fun c _ => by rw [rowput_ne _ _ _ (by decide), hA 11 (by decide)]) (fun c _ => by simp only [lnB, rowput_ne _ _ _ (show (21 : Nat) ≠ 39 by decide), hA 21 (by decide)]) (fun c _ => by simp only [alB, rowput_ne _ _ _ (show (20 : Nat) ≠ 39 by decide), hA 20 (by decide)]) f _ (fun y hy => (grp_sub hy).1)
          rw [hH] at hx
          obtain ⟨hx1, hx2, hx3, hx4⟩ := hx
          dsimp only [Option.toList, List.append, List.nil_append, List.cons_append, Nat.add_zero, Nat.reduceAdd]
          refine x_istore (pc := 77) O dX8_listed_77 (by decide) rfl ?_
          refine x_aload_n (pc := 79) O dX8_listed_79 rfl rfl ?_
          refine x_iload (pc := 80) O dX8_listed_80 rfl ?_
          refine v_put (pc := 82) O dX8_listed_82 fpX8_158 rfl rfl ?_
          refine x_iload (pc := 85) O dX8_listed_85 rfl ?_
          refine x_iconst (v := (-1)) (pc := 87) O dX8_listed_87 (by decide) ?_
          refine x_icmp_eq (pc := 88) O 94 dX8_listed_88 (by decide) (fun c88 => ?_) (fun c88 => ?_)
          · refine x_iinc (v := nI (k + 1)) (pc := 94) O dX8_listed_94 rfl (nI_succ k).symm rfl ?_
            refine x_goto (pc := 97) O 2 dX8_listed_97 (by decide) ?_
            refine x_lv O [some (.ref o), some (.int (nI b)), some (.int (nI g.length)), some (.int (nI (k + 1))), none, none, none, none] ⟨rfl, rfl, rfl, rfl, trivial⟩ ?_
            rcases hx4 with ⟨q1, q2, q3⟩ | ⟨q1, q2, q3⟩
            · exfalso
              rw [q2] at c88
              have hlt : (heirsF a (alB a) (lnB a) m (i 0) f (grp a (lnB a) m (i 0) q (-1))).getD (wn - (s0 + (heirsF a (alB a) (lnB a) m (i 0) (f + 1) (g.take k)).length)) 0 < m := by
                rw [List.getD_eq_getElem?_getD, List.getElem?_eq_getElem (by omega)]
                exact heirsF_lt f _ (fun y hy => (grp_sub hy).1) _ (List.getElem_mem _)
              exact nI_nm1 (by omega) c88
            · refine ih (by omega) _ _ ⟨fun j hj => ?_, fun j hj => ?_, fun j hj => ?_, ?_, ?_⟩
              · by_cases e : j = 40
                · subst e; rw [upd_eq, hu]
                · rw [upd_ne _ _ e, hx1 j hj, upd_ne _ _ e]; exact hI j hj
              · rw [hx2 j hj, rowput_ne _ _ _ hj]; exact hA j hj
              · rw [hx3 j (by omega), rowput_out _ _ _ hj]; exact hAr j hj
              · rw [hstep, if_neg hal9, List.length_append]; omega
              · rw [upd_ne _ _ (by decide), q3, hstep, if_neg hal9, List.length_append, Nat.add_assoc]
          · refine x_iload (pc := 91) O dX8_listed_91 rfl ?_
            rcases hx4 with ⟨q1, q2, q3⟩ | ⟨q1, q2, q3⟩
            · obtain ⟨r, hr⟩ := heirsF_pre (a := a) (al := alB a) (ln := lnB a) (ord := i 0) (m := m) (f := f) (g := g) (k + 1)
              rw [hstep, if_neg hal9] at hr
              refine x_ret (v := some (.int _)) (pc := 93) O dX8_listed_93 rfl rfl ⟨Nat.le_refl _, Nat.le_refl _, (x.1, upd x.2.1 40 (nI u), x.2.2), rfl, fun h hh => ⟨⟨fun j hj => ?_, fun j hj => ?_, fun j hj => ?_, Or.inl ⟨?_, ?_, ?_⟩⟩, hh⟩⟩
              · show upd x.2.1 40 (nI u) j = i j
                by_cases e : j = 40
                · subst e; rw [upd_eq, hu]
                · rw [upd_ne _ _ e, hx1 j hj, upd_ne _ _ e]; exact hI j hj
              · show x.2.2 j = a j
                rw [hx2 j hj, rowput_ne _ _ _ hj]; exact hA j hj
              · show x.2.2 39 j = a 39 j
                rw [hx3 j (by omega), rowput_out _ _ _ hj]; exact hAr j hj
              · rw [hr]; simp only [List.length_append]; omega
              · show x.1 = _
                rw [q2, hr, show wn - s0 = (heirsF a (alB a) (lnB a) m (i 0) (f + 1) (g.take k)).length + (wn - (s0 + (heirsF a (alB a) (lnB a) m (i 0) (f + 1) (g.take k)).length)) by omega, getD_app3 (by omega)]
              · show upd x.2.1 40 (nI u) 41 = _
                rw [upd_ne _ _ (by decide)]; exact q3
            · exact absurd q2 c88
        · have hal9 : alB a q = true := by simp [alB, c24]
          refine x_aload_n (pc := 27) O dX8_listed_27 rfl rfl ?_
          refine v_get (pc := 28) O dX8_listed_28 fdX8_165 rfl rfl ?_
          refine x_aload_n (pc := 31) O dX8_listed_31 rfl rfl ?_
          refine v_get (pc := 32) O dX8_listed_32 fdX8_168 rfl rfl ?_
          refine x_icmp_ne (pc := 35) O 41 dX8_listed_35 (by decide) (fun c35 => ?_) (fun c35 => ?_)
          · refine x_aload_n (pc := 41) O dX8_listed_41 rfl rfl ?_
            refine x_dup (pc := 42) O dX8_listed_42 rfl ?_
            refine v_get (pc := 43) O dX8_listed_43 fdX8_165 rfl rfl ?_
            refine x_iconst (v := 1) (pc := 46) O dX8_listed_46 (by decide) ?_
            refine x_iadd (pc := 47) O dX8_listed_47 ?_
            refine v_put (pc := 48) O dX8_listed_48 fpX8_165 rfl rfl ?_
            refine x_goto (pc := 51) O 94 dX8_listed_51 (by decide) ?_
            refine x_iinc (v := nI (k + 1)) (pc := 94) O dX8_listed_94 rfl (nI_succ k).symm rfl ?_
            refine x_goto (pc := 97) O 2 dX8_listed_97 (by decide) ?_
            refine x_lv O [some (.ref o), some (.int (nI b)), some (.int (nI g.length)), some (.int (nI (k + 1))), none, none, none, none] ⟨rfl, rfl, rfl, rfl, trivial⟩ ?_
            refine ih (by omega) _ _ ⟨fun j hj => by rw [upd_ne _ _ hj]; exact hI j hj, hA, hAr, ?_, ?_⟩
            · rw [hstep, if_pos hal9]; simp only [List.length_append, List.length_singleton]
              have hne : s0 + (heirsF a (alB a) (lnB a) m (i 0) (f + 1) (g.take k)).length ≠ wn := fun z => c35 (by rw [h41k, hI 42 (by decide), h42, z])
              omega
            · rw [upd_eq, h41k, hstep, if_pos hal9]; simp only [List.length_append, List.length_singleton]; rw [← Nat.add_assoc, nI_succ]
          · refine x_iload (pc := 38) O dX8_listed_38 rfl ?_
            have hne : s0 + (heirsF a (alB a) (lnB a) m (i 0) (f + 1) (g.take k)).length = wn := by
              rw [h41k, hI 42 (by decide), h42, nI_eq (by omega) (by omega)] at c35
              exact c35
            obtain ⟨r, hr⟩ := heirsF_pre (a := a) (al := alB a) (ln := lnB a) (ord := i 0) (m := m) (f := f) (g := g) (k + 1)
            rw [hstep, if_pos hal9] at hr
            exact x_ret (v := some (.int _)) (pc := 40) O dX8_listed_40 rfl (rfl) ⟨Nat.le_refl _, Nat.le_refl _, (nI q, I, A), rfl, fun h hh => ⟨⟨hI, hA, hAr, Or.inl ⟨by rw [hr]; simp only [List.length_append, List.length_singleton]; omega, by rw [hr, show wn - s0 = (heirsF a (alB a) (lnB a) m (i 0) (f + 1) (g.take k)).length + 0 by omega, getD_app3 (by simp)]; rfl, by show I 41 = _; rw [h41k, hne]⟩⟩, hh⟩⟩
    refine x_iconst (v := nI 0) (pc := 0) O dX8_listed_0 (by decide) ?_
    refine x_istore_n (pc := 1) O dX8_listed_1 (by decide) rfl ?_
    exact loop 0 (Nat.zero_le _) i a ⟨fun _ _ => rfl, fun _ _ => rfl, fun _ _ => rfl, by simpa [heirsF] using hsw, by simpa [heirsF] using h41⟩
end
section
/-! ===== REF 9: heir ===== -/
theorem any_congr {f g : Nat → Bool} : ∀ (l : List Nat), (∀ q ∈ l, f q = g q) → l.any f = l.any g
  | [], _ => rfl
  | x :: r, h => by rw [List.any_cons, List.any_cons, h x List.mem_cons_self, any_congr r (fun q hq => h q (List.mem_cons_of_mem _ hq))]
theorem lastsF_congr {a A : Ar} {al al' : Nat → Bool} {m : Nat} (h10 : ∀ c, c < m → A 10 c = a 10 c) (h11 : ∀ c, c < m → A 11 c = a 11 c) (hal : ∀ c, c < m → al' c = al c) : ∀ f p, p < m → lastsF A al' m f p = lastsF a al m f p
  | 0, _, _ => rfl
  | f + 1, p, hp => by
    simp only [lastsF]
    rw [hal p hp]
    congr 1
    refine any_congr _ (fun c hc => ?_)
    have hc := List.mem_range.mp hc
    rw [lastsF_congr h10 h11 hal f c hc]
    simp only [chd, h10 c hc, h11 c hc]
theorem lasts_congr {a A : Ar} {al al' : Nat → Bool} {m : Nat} (h10 : ∀ c, c < m → A 10 c = a 10 c) (h11 : ∀ c, c < m → A 11 c = a 11 c) (hal : ∀ c, c < m → al' c = al c) {p : Nat} (hp : p < m) : lasts A al' m p = lasts a al m p := lastsF_congr h10 h11 hal 60 p hp
theorem fstG_congr {a A : Ar} {ln ln' : Nat → Bool} {ord : Int32} {m p : Nat} (hp : p < m) (h9 : ∀ c, c < m → A 9 c = a 9 c) (h10 : ∀ c, c < m → A 10 c = a 10 c) (h11 : ∀ c, c < m → A 11 c = a 11 c) (hl : ∀ c, c < m → ln' c = ln c) : fstG A ln' m ord p = fstG a ln m ord p := by
  unfold fstG
  rw [grp_congr h9 h10 h11 hl, h10 p hp, grp_congr h9 h10 h11 hl]
theorem fstG_lt {a : Ar} {ln : Nat → Bool} {ord : Int32} {m p : Nat} : ∀ q ∈ fstG a ln m ord p, q < m := by
  intro q hq
  unfold fstG at hq
  dsimp only at hq
  (repeat' split at hq) <;> first | exact (grp_sub hq).1 | simp at hq
def heirsOf (a : Ar) (m : Nat) (ord : Int32) (al : Nat → Bool) (j : Nat) : List Nat := heirsF a al (lasts a al m) m ord 60 (fstG a (lasts a al m) m ord j)
def alx (a : Ar) (j : Nat) : Nat → Bool := fun q => alB a q && decide (q ≠ j)
def hvI (H : List Nat) (n : Nat) : Int32 := if n < H.length then nI (H.getD n 0) else -1
def sEq (i : Nat → Int32) (a : Ar) (x : (Nat → Int32) × Ar) : Prop := (∀ k, k ≠ 40 → k ≠ 41 → k ≠ 42 → x.1 k = i k) ∧ ∀ k, k ≠ 21 → k ≠ 39 → k ≠ 43 → x.2 k = a k
theorem alx_up (a : Ar) (j q : Nat) : alB (up2 a 20 j 0) q = alx a j q := by
  unfold alB alx
  rw [up2_eq]
  by_cases h : q = j
  · subst h; rw [upd_eq]; simp
  · rw [upd_ne _ _ h]; simp [alB, h]
set_option maxRecDepth 100000 in
set_option maxHeartbeats 4000000 in
theorem c_X8_heir (l : Launch) (E : En) (o : Nat) (d : Nat → Nat) (i : Nat → Int32) (a : Nat → Nat → Int32) (ch : Nat → List Rt) (p x : Int32) {m : Nat} (hm : i 22 = nI m) (h60 : m ≤ 60) (hal : ∀ p, p < 60 → a 20 p = 0 ∨ a 20 p = 1) (hfa : ∀ p, p < m → ¬ a 10 p = -1 → ∃ f, f < 60 ∧ a 10 p = nI f) (hkin : ∀ c p, c < m → chd a c p → p < c) : Mt l E yX8_heir cX8_heir 6 (some .int) (rmX 63 1696 0 0) [.ref o, .int p, .int x] (RV E o d i a ch) (fun _ : (Nat → Int32) × Ar => some (.int (if isP i p ∧ 0 ≤ x ∧ x ≤ 39 then hvI (heirsOf a m (i 0) (alx a p.toNatClampNeg) p.toNatClampNeg) x.toNatClampNeg else -1))) (fun y h => sEq i a y ∧ RV E o d y.1 y.2 ch h) := by
  refine Mt_of (by decide +kernel) (Nat.le_of_ble_eq_true rfl) (fun J O => ?_)
  show J _ 0 0 0 [some (.ref o), some (.int p), some (.int x), none, none, none] []
  refine x_aload_n (pc := 0) O dX8_heir_0 rfl rfl ?_
  refine x_iload_n (pc := 1) O dX8_heir_1 rfl ?_
  refine x_callV (pc := 2) (rest := _) (ci := 8) O (c_X8_isPerson l E _ _ _ _ _ _) dX8_heir_2 cbX8_107 im_yX8_isPerson se_yX8_isPerson rfl v_recv rfl rfl (Nat.le_of_ble_eq_true rfl) ⟨Nat.le_of_ble_eq_true rfl, Nat.le_of_ble_eq_true rfl⟩ ⟨Nat.le_of_ble_eq_true rfl, Nat.le_of_ble_eq_true rfl⟩ (fun _ => ?_)
  dsimp only [Option.toList, List.append, List.nil_append, List.cons_append, Nat.add_zero, Nat.reduceAdd]
  refine x_if_eq (pc := 5) O 18 dX8_heir_5 (by decide) (fun c5 => ?_) (fun c5 => ?_)
  · refine x_iconst (v := (-1)) (pc := 18) O dX8_heir_18 (by decide) ?_
    have hc9 : ¬ (isP i p ∧ 0 ≤ x ∧ x ≤ 39) := fun z => b2i_z c5 z.1
    refine x_ret (v := some (.int _)) (pc := 19) O dX8_heir_19 rfl rfl ⟨Nat.le_refl _, Nat.le_refl _, (i, a), congrArg (fun z => some (Value.int z)) (if_neg hc9).symm, fun h hh => ?_⟩
    exact ⟨⟨fun _ _ _ _ => rfl, fun _ _ _ _ => rfl⟩, hh⟩
  · have hp := in_nat hm (by omega) (b2i_n0 c5)
    obtain ⟨j, hjm, rfl⟩ : ∃ j, j < m ∧ p = nI j := ⟨_, hp.2, hp.1⟩
    refine x_iload_n (pc := 8) O dX8_heir_8 rfl ?_
    refine x_iconst (v := 0) (pc := 9) O dX8_heir_9 (by decide) ?_
    refine x_bipush (v := 39) (pc := 10) O dX8_heir_10 (by decide) ?_
    refine x_callS (pc := 12) (rest := _) O (c_X8_in l E _ _ _ _) dX8_heir_12 cbX8_103 sm_yX8_in rfl rfl (Nat.le_of_ble_eq_true rfl) ⟨Nat.le_of_ble_eq_true rfl, Nat.le_of_ble_eq_true rfl⟩ ⟨Nat.le_of_ble_eq_true rfl, Nat.le_of_ble_eq_true rfl⟩ (fun _ => ?_)
    dsimp only [Option.toList, List.append, List.nil_append, List.cons_append, Nat.add_zero, Nat.reduceAdd]
    refine x_if_ne (pc := 15) O 20 dX8_heir_15 (by decide) (fun c15 => ?_) (fun c15 => ?_)
    · obtain ⟨xn, hx40, rfl⟩ : ∃ xn, xn < 40 ∧ x = nI xn := by
        have hx := b2i_n0 c15
        obtain ⟨z, hz, rfl⟩ := nI_of (x := x) (Int32.not_lt.mpr hx.1)
        refine ⟨z, ?_, rfl⟩
        have h2 := hx.2
        rw [show (39 : Int32) = nI 39 from rfl, nI_leI hz (by decide)] at h2
        omega
      have hCO : isP i (nI j) ∧ 0 ≤ nI xn ∧ nI xn ≤ 39 := ⟨b2i_n0 c5, b2i_n0 c15⟩
      refine x_aload_n (pc := 20) O dX8_heir_20 rfl rfl ?_
      refine v_get (pc := 21) O dX8_heir_21 fdX8_43 rfl rfl ?_
      refine x_iload_n (pc := 24) O dX8_heir_24 rfl ?_
      refine v_zld (k := 20) (pc := 25) O dX8_heir_25 rfl rfl (by omega) ?_
      refine x_istore_n (pc := 26) O dX8_heir_26 (by decide) rfl ?_
      refine x_aload_n (pc := 27) O dX8_heir_27 rfl rfl ?_
      refine v_get (pc := 28) O dX8_heir_28 fdX8_43 rfl rfl ?_
      refine x_iload_n (pc := 31) O dX8_heir_31 rfl ?_
      refine x_iconst (v := 0) (pc := 32) O dX8_heir_32 (by decide) ?_
      refine v_zst (k := 20) (pc := 33) O dX8_heir_33 rfl rfl (by omega) rfl ?_
      refine x_aload_n (pc := 34) O dX8_heir_34 rfl rfl ?_
      refine x_callV (pc := 35) (rest := _) (ci := 8) O (c_X8_lines l E _ _ _ _ _ hm h60 (fun p hp => by
        rw [up2_eq]
        by_cases e : p = j
        · subst e; rw [upd_eq]; exact Or.inl rfl
        · rw [upd_ne _ _ e]; exact hal p hp)) dX8_heir_35 cbX8_174 im_yX8_lines se_yX8_lines rfl v_recv rfl rfl (Nat.le_of_ble_eq_true rfl) ⟨Nat.le_of_ble_eq_true rfl, Nat.le_of_ble_eq_true rfl⟩ ⟨Nat.le_of_ble_eq_true rfl, Nat.le_of_ble_eq_true rfl⟩ (fun B => x_pure O (fun hB => ?_))
      dsimp only [Option.toList, List.append, List.nil_append, List.cons_append, Nat.add_zero, Nat.reduceAdd]
      obtain ⟨hB1, hB2⟩ := hB
      refine x_aload_n (pc := 38) O dX8_heir_38 rfl rfl ?_
      refine x_iconst (v := nI 0) (pc := 39) O dX8_heir_39 (by decide) ?_
      refine v_put (pc := 40) O dX8_heir_40 fpX8_158 rfl rfl ?_
      refine x_aload_n (pc := 43) O dX8_heir_43 rfl rfl ?_
      refine x_iconst (v := nI 0) (pc := 44) O dX8_heir_44 (by decide) ?_
      refine v_put (pc := 45) O dX8_heir_45 fpX8_165 rfl rfl ?_
      refine x_aload_n (pc := 48) O dX8_heir_48 rfl rfl ?_
      refine x_iload_n (pc := 49) O dX8_heir_49 rfl ?_
      refine v_put (pc := 50) O dX8_heir_50 fpX8_168 rfl rfl ?_
      refine x_aload_n (pc := 53) O dX8_heir_53 rfl rfl ?_
      refine x_iload_n (pc := 54) O dX8_heir_54 rfl ?_
      refine x_callV (pc := 55) (rest := _) (ci := 8) O (c_X8_first l E _ _ _ _ _ j (m := m) (by rw [upd_ne _ _ (by decide), upd_ne _ _ (by decide), upd_ne _ _ (by decide)]; exact hm) h60 (by rw [upd_ne _ _ (by decide), upd_ne _ _ (by decide), upd_eq]) (by omega) (by rw [hB1 10 (by decide)]; exact hfa j hjm)) dX8_heir_55 cbX8_177 im_yX8_first se_yX8_first rfl v_recv rfl rfl (Nat.le_of_ble_eq_true rfl) ⟨Nat.le_of_ble_eq_true rfl, Nat.le_of_ble_eq_true rfl⟩ ⟨Nat.le_of_ble_eq_true rfl, Nat.le_of_ble_eq_true rfl⟩ (fun _ => ?_)
      dsimp only [Option.toList, List.append, List.nil_append, List.cons_append, Nat.add_zero, Nat.reduceAdd]
      have hln : ∀ c, c < m → lnB B c = lasts a (alx a j) m c := fun c hc => by
        have h1 := hB2 c hc
        rw [lasts_congr (a := a) (al := alx a j) (fun c _ => by rw [up2_ne _ _ _ (by decide)]) (fun c _ => by rw [up2_ne _ _ _ (by decide)]) (fun c _ => alx_up a j c) hc] at h1
        exact Bool.eq_iff_iff.mpr h1
      have hGe : fstG B (lnB B) m (upd (upd (upd i 40 (nI 0)) 41 (nI 0)) 42 (nI xn) 0) j = fstG a (lasts a (alx a j) m) m (i 0) j := by
        rw [upd_ne _ _ (by decide), upd_ne _ _ (by decide), upd_ne _ _ (by decide)]
        exact fstG_congr hjm (fun c _ => by rw [hB1 9 (by decide), up2_ne _ _ _ (by decide)]) (fun c _ => by rw [hB1 10 (by decide), up2_ne _ _ _ (by decide)]) (fun c _ => by rw [hB1 11 (by decide), up2_ne _ _ _ (by decide)]) hln
      rw [hGe]
      obtain ⟨G, hG⟩ : ∃ G, G = fstG a (lasts a (alx a j) m) m (i 0) j := ⟨_, rfl⟩
      rw [← hG]
      have hgl : G.length ≤ 60 := by rw [hG]; exact fstG_len h60
      refine x_istore (pc := 58) O dX8_heir_58 (by decide) rfl ?_
      refine x_aload_n (pc := 60) O dX8_heir_60 rfl rfl ?_
      refine x_iconst (v := nI 0) (pc := 61) O dX8_heir_61 (by decide) ?_
      refine x_iload (pc := 62) O dX8_heir_62 rfl ?_
      refine x_callV (pc := 64) (rest := _) (ci := 8) O (c_X8_listed l E o d 60 _ _ ch m 0 (0 + G.length) 0 xn G (by rw [upd_ne _ _ (by decide), upd_ne _ _ (by decide), upd_ne _ _ (by decide), upd_ne _ _ (by decide)]; exact hm) h60 (upd_eq _ _ _) (by omega) (fun t ht => rowput_get _ _ _ ht) (fun q hq => ⟨by rw [hG] at hq; exact fstG_lt q hq, by omega⟩) (Nat.le_refl _) (by rw [upd_ne _ _ (by decide), upd_ne _ _ (by decide), upd_eq]) (by rw [upd_ne _ _ (by decide), upd_eq]) (Nat.zero_le _) hx40 (fun c p hc hch => by
        simp only [chd, rowput_ne _ _ _ (show (10 : Nat) ≠ 39 by decide), rowput_ne _ _ _ (show (11 : Nat) ≠ 39 by decide), hB1 10 (by decide), hB1 11 (by decide), up2_ne a j 0 (show (10 : Nat) ≠ 20 by decide), up2_ne a j 0 (show (11 : Nat) ≠ 20 by decide)] at hch
        exact hkin c p hc hch)) dX8_heir_64 cbX8_171 im_yX8_listed se_yX8_listed rfl v_recv rfl rfl (Nat.le_of_ble_eq_true rfl) ⟨Nat.le_of_ble_eq_true rfl, Nat.le_of_ble_eq_true rfl⟩ ⟨Nat.le_of_ble_eq_true rfl, Nat.le_of_ble_eq_true rfl⟩ (fun y => x_pure O (fun hy => ?_))
      obtain ⟨hy1, hy2, hy3, hy4⟩ := hy
      rw [upd_ne _ _ (by decide), upd_ne _ _ (by decide), upd_ne _ _ (by decide), upd_ne _ _ (by decide), heirsF_congr (a := a) (al := alx a j) (ln := lasts a (alx a j) m) (fun c _ => by rw [rowput_ne _ _ _ (by decide), hB1 9 (by decide), up2_ne _ _ _ (by decide)]) (fun c _ => by rw [rowput_ne _ _ _ (by decide), hB1 10 (by decide), up2_ne _ _ _ (by decide)]) (fun c _ => by rw [rowput_ne _ _ _ (by decide), hB1 11 (by decide), up2_ne _ _ _ (by decide)]) (fun c hc => by rw [← hln c hc]; simp only [lnB, rowput_ne _ _ _ (show (21 : Nat) ≠ 39 by decide)]) (fun c hc => by rw [← alx_up a j c]; simp only [alB, rowput_ne _ _ _ (show (20 : Nat) ≠ 39 by decide), hB1 20 (by decide)]) 60 G (fun q hq => by rw [hG] at hq; exact fstG_lt q hq), hG] at hy4
      rw [show heirsF a (alx a j) (lasts a (alx a j) m) m (i 0) 60 (fstG a (lasts a (alx a j) m) m (i 0) j) = heirsOf a m (i 0) (alx a j) j from rfl, Nat.zero_add, Nat.sub_zero] at hy4
      dsimp only [Option.toList, List.append, List.nil_append, List.cons_append, Nat.add_zero, Nat.reduceAdd]
      refine x_istore (pc := 67) O dX8_heir_67 (by decide) rfl ?_
      refine x_aload_n (pc := 69) O dX8_heir_69 rfl rfl ?_
      refine v_get (pc := 70) O dX8_heir_70 fdX8_43 rfl rfl ?_
      refine x_iload_n (pc := 73) O dX8_heir_73 rfl ?_
      refine x_iload_n (pc := 74) O dX8_heir_74 rfl ?_
      refine v_zst (k := 20) (pc := 75) O dX8_heir_75 rfl rfl (by omega) (nar01 (hal j (by omega))) ?_
      refine x_iload (pc := 76) O dX8_heir_76 rfl ?_
      refine x_ret (v := some (.int _)) (pc := 78) O dX8_heir_78 rfl rfl ⟨Nat.le_refl _, Nat.le_refl _, (y.2.1, up2 y.2.2 20 j (a 20 j)), congrArg (fun z => some (Value.int z)) ?_, fun h hh => ⟨⟨fun k k1 k2 k3 => ?_, fun k k1 k2 k3 => ?_⟩, hh⟩⟩
      · rw [if_pos hCO, nI_clamp (by omega), nI_clamp (by omega)]
        unfold hvI
        rcases hy4 with ⟨q1, q2, q3⟩ | ⟨q1, q2, q3⟩
        · rw [if_pos (by omega)]; exact q2
        · rw [if_neg (by omega)]; exact q2
      · show y.2.1 k = i k
        rw [hy1 k k2, upd_ne _ _ k1, upd_ne _ _ k3, upd_ne _ _ k2, upd_ne _ _ k1]
      · show up2 y.2.2 20 j (a 20 j) k = a k
        by_cases e : k = 20
        · subst e
          rw [up2_eq, hy2 20 (by decide), rowput_ne _ _ _ (by decide), hB1 20 (by decide), up2_eq]
          funext q
          by_cases e2 : q = j
          · subst e2; rw [upd_eq]
          · rw [upd_ne _ _ e2, upd_ne _ _ e2]
        · rw [up2_ne _ _ _ e, hy2 k k2, rowput_ne _ _ _ k2, hB1 k k1, up2_ne _ _ _ e]
    · refine x_iconst (v := (-1)) (pc := 18) O dX8_heir_18 (by decide) ?_
      have hc9 : ¬ (isP i (nI j) ∧ 0 ≤ x ∧ x ≤ 39) := fun z => b2i_z c15 z.2
      refine x_ret (v := some (.int _)) (pc := 19) O dX8_heir_19 rfl rfl ⟨Nat.le_refl _, Nat.le_refl _, (i, a), congrArg (fun z => some (Value.int z)) (if_neg hc9).symm, fun h hh => ?_⟩
      exact ⟨⟨fun _ _ _ _ => rfl, fun _ _ _ _ => rfl⟩, hh⟩
end
section
/-! ===== REF 10: longer, comes ===== -/
def gup (f : Nat → Int32) (k : Nat) : Nat → Int32 := fun j => if j < k then f j else 0
theorem gup_0 (f : Nat → Int32) : gup f 0 = fun _ => 0 := by funext j; simp [gup]
theorem gup_s (f : Nat → Int32) (k : Nat) : upd (gup f k) k (f k) = gup f (k + 1) := by
  funext j
  by_cases h : j = k
  · subst h; rw [upd_eq]; simp [gup]
  · rw [upd_ne _ _ h]
    unfold gup
    by_cases h2 : j < k
    · rw [if_pos h2, if_pos (by omega)]
    · rw [if_neg h2, if_neg (by omega)]
set_option maxRecDepth 100000 in
set_option maxHeartbeats 4000000 in
theorem c_X8_longer (l : Launch) (E : En) (P : HP) (q n : Nat) (f : Nat → Int32) (hP : ∀ h, P h → h q = some (.inl (E.2 0, n, .inl f))) (hn : n ≤ 32768) : Mt l E yX8_longer cX8_longer 3 (some (.array .int)) (rmX 0 0 1 (2 * n)) [.ref q] (P) (fun r : Nat => some (.ref r)) (fun r h => ∃ h0, P h0 ∧ h0 r = none ∧ h = hset h0 r (.inl (E.2 0, 2 * n, .inl (gup f n)))) := by
  refine Mt_of (by decide +kernel) (Nat.le_of_ble_eq_true rfl) (fun J O => ?_)
  show J _ 0 0 0 [some (.ref q), none, none] []
  refine x_iconst (v := nI 2) (pc := 0) O dX8_longer_0 (by decide) ?_
  refine x_aload_n (pc := 1) O dX8_longer_1 rfl rfl ?_
  refine x_alen (t0 := 0) (ty := .int) (N := n) (pc := 2) O dX8_longer_2 (fun h H => ⟨_, _, hP h H, rfl⟩) rfl ?_
  refine x_imul (pc := 3) O dX8_longer_3 ?_
  rw [show nI 2 * Int32.ofNat n = nI (2 * n) from pk_mul 2 n]
  refine x_newi (N := 2 * n) (pc := 4) O dX8_longer_4 (nI_pos (by omega)) (nI_clamp (by omega)) (by omega) (Nat.le_refl _) (by show 0 + 2 * n ≤ 2 * n; omega) (fun r => ?_)
  rw [← gup_0 f]
  have loop : ∀ k, k ≤ n → J (fun h => ∃ h0, P h0 ∧ h0 r = none ∧ h = hset h0 r (.inl (E.2 0, 2 * n, .inl (gup f k)))) (0 + 1) (0 + 2 * n) 9 [some (.ref q), some (.ref r), some (.int (nI k))] [] := by
    refine up_ind n (fun k hk ih => ?_)
    refine x_iload_n (pc := 9) O dX8_longer_9 rfl ?_
    refine x_aload_n (pc := 10) O dX8_longer_10 rfl rfl ?_
    refine x_alen (t0 := 0) (ty := .int) (N := n) (pc := 11) O dX8_longer_11 (fun h H => ⟨E.2 0, .inl f, (by
        obtain ⟨h0, g1, g2, g3⟩ := H
        have hne : q ≠ r := fun e => by rw [← e, hP h0 g1] at g2; cases g2
        rw [g3, hset_ne _ _ hne]; exact hP h0 g1), rfl⟩) rfl ?_
    refine x_icmp_ge (pc := 12) O 27 dX8_longer_12 (by decide) (fun c12 => ?_) (fun c12 => ?_)
    · refine x_aload_n (pc := 27) O dX8_longer_27 rfl rfl ?_
      have hk2 : k = n := by
        rw [show Int32.ofNat n = nI n from rfl, nI_leI (by omega) (by omega)] at c12
        omega
      subst hk2
      exact x_ret (v := some (.ref r)) (pc := 28) O dX8_longer_28 rfl trivial ⟨Nat.le_of_eq (Nat.zero_add _), Nat.le_of_eq (Nat.zero_add _), r, rfl, fun h hh => hh⟩
    · have hk3 : k < n := by
        rw [show Int32.ofNat n = nI n from rfl, nI_leI (by omega) (by omega)] at c12
        omega
      refine x_aload_n (pc := 15) O dX8_longer_15 rfl rfl ?_
      refine x_iload_n (pc := 16) O dX8_longer_16 rfl ?_
      refine x_aload_n (pc := 17) O dX8_longer_17 rfl rfl ?_
      refine x_iload_n (pc := 18) O dX8_longer_18 rfl ?_
      refine x_iald (v := f k) (pc := 19) O dX8_longer_19 (fun h H => ⟨n, f, (by
          obtain ⟨h0, g1, g2, g3⟩ := H
          have hne : q ≠ r := fun e => by rw [← e, hP h0 g1] at g2; cases g2
          rw [g3, hset_ne _ _ hne]; exact hP h0 g1), vp_in_nI hk3 (by omega), by rw [nI_clamp (by omega)]⟩) ?_
      refine x_iast (P' := (fun h => ∃ h0, P h0 ∧ h0 r = none ∧ h = hset h0 r (.inl (E.2 0, 2 * n, .inl (gup f (k + 1)))))) (pc := 20) O dX8_longer_20 (fun h H => ?_) ?_
      · obtain ⟨h0, g1, g2, g3⟩ := H
        refine ⟨2 * n, gup f k, by rw [g3, hset_same], vp_in_nI (by omega) (by omega), h0, g1, g2, ?_⟩
        rw [nI_clamp (by omega), gup_s, g3]
        funext z
        by_cases e : z = r
        · subst e; rw [hset_same, hset_same]
        · rw [hset_ne _ _ e, hset_ne _ _ e, hset_ne _ _ e]
      refine x_iinc (v := nI (k + 1)) (pc := 21) O dX8_longer_21 rfl (nI_succ k).symm rfl ?_
      refine x_goto (pc := 24) O 9 dX8_longer_24 (by decide) ?_
      exact ih (by omega)
  refine x_astore_n (pc := 6) O dX8_longer_6 (by decide) rfl rfl ?_
  refine x_iconst (v := nI 0) (pc := 7) O dX8_longer_7 (by decide) ?_
  refine x_istore_n (pc := 8) O dX8_longer_8 (by decide) rfl ?_
  exact loop 0 (Nat.zero_le _)
theorem cap_32 {r : Nat} (h : r = cap r) (h2 : r < 65536) : cap r ≤ 32768 := by revert h; unfold cap; (repeat' split) <;> omega
def RWn (E : En) (o : Nat) (d : Nat → Nat) (n : Nat → Nat) (i : Nat → Int32) (a : Ar) : HP := fun h =>
  h o = some (.inr (8, rfs d i)) ∧ (∀ k, isA k = true → h (d k) = some (.inl (E.2 (rty k), n k, .inl (a k)))) ∧ ∀ j k, isA j = true → isA k = true → d j = d k → j = k
theorem RWn.to {E : En} {o N : Nat} {d : Nat → Nat} {n : Nat → Nat} {i : Nat → Int32} {a : Ar} {h : HF} (H : RWn E o d n i a h) (hn : ∀ k, isA k = true → n k = rlen N k) : RW E o d N i a h := ⟨H.1, fun k hk => by rw [← hn k hk]; exact H.2.1 k hk, H.2.2⟩
theorem RWn.grow {E : En} {o : Nat} {d : Nat → Nat} {n : Nat → Nat} {i : Nat → Int32} {a : Ar} {h : HF} {k r N : Nat} {g : Nat → Int32} (hk : isA k = true) (hz : isZ k = false) (H : ∃ h0, RWn E o d n i a h0 ∧ h0 r = none ∧ h = hset h0 r (.inl (E.2 0, N, .inl g))) : ∃ fs, h o = some (.inr (8, fs)) ∧ k < fs.length ∧ RWn E o (va_up d k r) (va_up n k N) i (va_up a k g) (hset h o (.inr (8, fs.set k (.ref r)))) := by
  obtain ⟨h0, ⟨g1, g2, g3⟩, g4, rfl⟩ := H
  have hro : o ≠ r := fun e => by rw [← e, g1] at g4; cases g4
  have hrk : ∀ j, isA j = true → d j ≠ r := fun j hj e => by have := g2 j hj; rw [e, g4] at this; cases this
  have hok : ∀ j, isA j = true → d j ≠ o := fun j hj e => by have := g2 j hj; rw [e, g1] at this; cases this
  refine ⟨rfs d i, by rw [hset_ne _ _ hro]; exact g1, by simp only [rfs, List.length_cons, List.length_nil]; exact isA_lt hk, ?_, ?_, ?_⟩
  · rw [hset_same, rfs_setA d i r k hk]
  · intro j hj
    by_cases e : j = k
    · subst e
      rw [va_up_self, va_up_self, va_up_self, hset_ne _ _ (Ne.symm hro), hset_same]
      simp only [rty, hz, Bool.false_eq_true, if_false]
    · rw [va_up_ne _ _ e, va_up_ne _ _ e, va_up_ne _ _ e, hset_ne _ _ (hok j hj), hset_ne _ _ (hrk j hj)]
      exact g2 j hj
  · intro x y hx hy e
    by_cases ex : x = k
    · subst ex
      by_cases ey : y = x
      · exact ey.symm
      · rw [va_up_self, va_up_ne _ _ ey] at e
        exact absurd e.symm (hrk y hy)
    · by_cases ey : y = k
      · subst ey
        rw [va_up_self, va_up_ne _ _ ex] at e
        exact absurd e (hrk x hx)
      · rw [va_up_ne _ _ ex, va_up_ne _ _ ey] at e
        exact g3 x y hx hy e
theorem rn_get {l : Launch} {E : En} {cc : ByteArray} {own nm : String} {nL : Nat} {R : Room} {ret : Option FieldType} {Fn : Ft} {J : Jt} (O : Ok l E cc own nm nL R ret Fn J) {pc index : Nat} {k : Nat} {v : Value} {o : Nat} {d n : Nat → Nat} {i : Nat → Int32} {a : Ar} {ce sl : Nat} {lv : LV} {st : List Value} (dd : decode cc pc = .ok (.getfield index, 3)) (hl : FD own index 8 k) (hv : (rfs d i)[k]? = some v) (kk : J (RWn E o d n i a) ce sl (pc + 3) lv (v :: st)) : J (RWn E o d n i a) ce sl pc lv (.ref o :: st) :=
  x_get O dd hl (fun h H => ⟨_, H.1, hv⟩) kk
theorem chainR_pre {a b : Ar} {r : Nat} (h : ∀ k, k < r → a 24 k = b 24 k ∧ a 25 k = b 25 k ∧ a 26 k = b 26 k ∧ a 27 k = b 27 k) (s : Nat) : ∀ k, k ≤ r → chainR a s k = chainR b s k
  | 0, _ => rfl
  | k + 1, hk => by
    obtain ⟨h1, h2, h3, h4⟩ := h k (by omega)
    simp only [chainR, h1, h2, h3, h4, chainR_pre h s k (by omega)]
theorem RC.come {d d' D : Nat → Nat} {i : Nat → Int32} {b a A : Ar} {ch : Nat → List Rt} {r s : Nat} {who how : Int32} (h : RC d d' i b a ch r) (hs : s < 120) (hr : r + 1 ≤ 61560) (hD : ∀ k, isRr k = false → D k = d' k) (hA : ∀ k, isRr k = false → A k = a k) (hAr : ∀ k, k < r → A 24 k = a 24 k ∧ A 25 k = a 25 k ∧ A 26 k = a 26 k ∧ A 27 k = a 27 k) :
    RC d D (upd i 28 (i 28 + 1)) (up2 (up2 b 29 s who) 30 s (-1)) (up2 (up2 (up2 (up2 (up2 (up2 A 24 r (nI s)) 25 r who) 26 r how) 27 r (i 8)) 29 s who) 30 s (-1)) (va_up ch s ((who, how, i 8) :: ch s)) (r + 1) := by
  obtain ⟨h1, h2, h3, h4, h5⟩ := h
  have e24 : ∀ k, (up2 (up2 (up2 (up2 (up2 (up2 A 24 r (nI s)) 25 r who) 26 r how) 27 r (i 8)) 29 s who) 30 s (-1)) 24 k = upd (A 24) r (nI s) k := fun k => by simp [up2]
  have e25 : ∀ k, (up2 (up2 (up2 (up2 (up2 (up2 A 24 r (nI s)) 25 r who) 26 r how) 27 r (i 8)) 29 s who) 30 s (-1)) 25 k = upd (A 25) r who k := fun k => by simp [up2]
  have e26 : ∀ k, (up2 (up2 (up2 (up2 (up2 (up2 A 24 r (nI s)) 25 r who) 26 r how) 27 r (i 8)) 29 s who) 30 s (-1)) 26 k = upd (A 26) r how k := fun k => by simp [up2]
  have e27 : ∀ k, (up2 (up2 (up2 (up2 (up2 (up2 A 24 r (nI s)) 25 r who) 26 r how) 27 r (i 8)) 29 s who) 30 s (-1)) 27 k = upd (A 27) r (i 8) k := fun k => by simp [up2]
  refine ⟨fun k hk => ⟨(hD k hk).trans (h1 k hk).1, ?_⟩, ?_, hr, ?_, ?_⟩
  · have hk2 : k ≠ 24 ∧ k ≠ 25 ∧ k ≠ 26 ∧ k ≠ 27 := by simp [isRr] at hk; omega
    by_cases e30 : k = 30
    · subst e30
      rw [up2_eq, up2_eq, up2_ne _ _ _ (by decide), up2_ne _ _ _ (by decide), up2_ne _ _ _ (by decide), up2_ne _ _ _ (by decide), up2_ne _ _ _ (by decide), up2_ne _ _ _ (by decide), hA 30 rfl, (h1 30 rfl).2]
    · rw [up2_ne _ _ _ e30, up2_ne _ _ _ e30]
      by_cases e29 : k = 29
      · subst e29
        rw [up2_eq, up2_eq, up2_ne _ _ _ (by decide), up2_ne _ _ _ (by decide), up2_ne _ _ _ (by decide), up2_ne _ _ _ (by decide), hA 29 rfl, (h1 29 rfl).2]
      · rw [up2_ne _ _ _ e29, up2_ne _ _ _ e29, up2_ne _ _ _ hk2.2.2.2, up2_ne _ _ _ hk2.2.2.1, up2_ne _ _ _ hk2.2.1, up2_ne _ _ _ hk2.1, hA k hk, (h1 k hk).2]
  · rw [upd_eq, h2, show nI r + 1 = nI (r + 1) from (nI_succ r).symm]
  · intro k hk
    rw [e24]
    by_cases e : k = r
    · subst e; exact ⟨s, hs, upd_eq _ _ _⟩
    · rw [upd_ne _ _ e, (hAr k (by omega)).1]
      exact h4 k (by omega)
  · intro t ht
    show (if _ = nI t then _ :: _ else _) = _
    rw [e24, e25, e26, e27, upd_eq, upd_eq, upd_eq, upd_eq, chainR_pre (b := a) (r := r) (fun k hk => ?_) t r (Nat.le_refl r), h5 t ht]
    · by_cases e : t = s
      · subst e; rw [if_pos rfl, va_up_self]
      · rw [if_neg (fun z => e ((nI_eq (by omega) (by omega)).mp z).symm), va_up_ne _ _ e]
    · rw [e24, e25, e26, e27, upd_ne _ _ (by omega), upd_ne _ _ (by omega), upd_ne _ _ (by omega), upd_ne _ _ (by omega)]
      exact hAr k hk
set_option maxRecDepth 100000 in
set_option maxHeartbeats 4000000 in
theorem c_X8_comes (l : Launch) (E : En) (o : Nat) (d : Nat → Nat) (i : Nat → Int32) (a : Nat → Nat → Int32) (ch : Nat → List Rt) (s : Nat) (who how : Int32) {r : Nat} (hs : s < 120) (hr : i 28 = nI r) (hr2 : r + 1 ≤ 61560) : Mt l E yX8_comes cX8_comes 4 none (rmX 1 22 ((cap (r + 1) - cap r) / 64) (8 * (cap (r + 1) - cap r))) [.ref o, .int (nI s), .int who, .int how] (RV E o d i a ch) (fun _ : Unit => none) (fun _ => RV E o d (upd i 28 (i 28 + 1)) (up2 (up2 a 29 s who) 30 s (-1)) (va_up ch s ((who, how, i 8) :: ch s))) := by
  refine Mt_of (by decide +kernel) (Nat.le_of_ble_eq_true rfl) (fun J O => ?_)
  show J _ 0 0 0 [some (.ref o), some (.int (nI s)), some (.int who), some (.int how)] []
  refine v_open O (fun d' a' r' hq => ?_)
  have hrr : r' = r := (nI_eq (by have := hq.2.2.1; omega) (by omega)).mp (hq.2.1.symm.trans hr)
  subst hrr
  have hr65 : r' ≤ 65536 := by omega
  have tail : ∀ ce sl D A, ce ≤ (cap (r' + 1) - cap r') / 64 → sl ≤ 8 * (cap (r' + 1) - cap r') → (∀ k, isRr k = false → D k = d' k) → (∀ k, isRr k = false → A k = a' k) → (∀ k, k < r' → A 24 k = a' 24 k ∧ A 25 k = a' 25 k ∧ A 26 k = a' 26 k ∧ A 27 k = a' 27 k) → J (RW E o D (cap (r' + 1)) i A) ce sl 56 [some (.ref o), some (.int (nI s)), some (.int who), some (.int how)] [] := by
    intro ce sl D A hce hsl hD hA hAr
    have hcap := cap_ge (r := r' + 1) (by omega)
    refine x_aload_n (pc := 56) O dX8_comes_56 rfl rfl ?_
    refine r_get (pc := 57) O dX8_comes_57 fdX8_50 rfl ?_
    refine x_aload_n (pc := 60) O dX8_comes_60 rfl rfl ?_
    refine r_get (pc := 61) O dX8_comes_61 fdX8_111 rfl ?_
    refine x_iload_n (pc := 64) O dX8_comes_64 rfl ?_
    refine r_ast (k := 24) (pc := 65) O dX8_comes_65 rfl rfl hr (by show _ < cap (r' + 1); omega) (by omega) ?_
    refine x_aload_n (pc := 66) O dX8_comes_66 rfl rfl ?_
    refine r_get (pc := 67) O dX8_comes_67 fdX8_53 rfl ?_
    refine x_aload_n (pc := 70) O dX8_comes_70 rfl rfl ?_
    refine r_get (pc := 71) O dX8_comes_71 fdX8_111 rfl ?_
    refine x_iload_n (pc := 74) O dX8_comes_74 rfl ?_
    refine r_ast (k := 25) (pc := 75) O dX8_comes_75 rfl rfl hr (by show _ < cap (r' + 1); omega) (by omega) ?_
    refine x_aload_n (pc := 76) O dX8_comes_76 rfl rfl ?_
    refine r_get (pc := 77) O dX8_comes_77 fdX8_56 rfl ?_
    refine x_aload_n (pc := 80) O dX8_comes_80 rfl rfl ?_
    refine r_get (pc := 81) O dX8_comes_81 fdX8_111 rfl ?_
    refine x_iload_n (pc := 84) O dX8_comes_84 rfl ?_
    refine r_ast (k := 26) (pc := 85) O dX8_comes_85 rfl rfl hr (by show _ < cap (r' + 1); omega) (by omega) ?_
    refine x_aload_n (pc := 86) O dX8_comes_86 rfl rfl ?_
    refine r_get (pc := 87) O dX8_comes_87 fdX8_59 rfl ?_
    refine x_aload_n (pc := 90) O dX8_comes_90 rfl rfl ?_
    refine r_get (pc := 91) O dX8_comes_91 fdX8_111 rfl ?_
    refine x_aload_n (pc := 94) O dX8_comes_94 rfl rfl ?_
    refine r_get (pc := 95) O dX8_comes_95 fdX8_118 rfl ?_
    refine r_ast (k := 27) (pc := 98) O dX8_comes_98 rfl rfl hr (by show _ < cap (r' + 1); omega) (by omega) ?_
    refine x_aload_n (pc := 99) O dX8_comes_99 rfl rfl ?_
    refine x_dup (pc := 100) O dX8_comes_100 rfl ?_
    refine r_get (pc := 101) O dX8_comes_101 fdX8_111 rfl ?_
    refine x_iconst (v := 1) (pc := 104) O dX8_comes_104 (by decide) ?_
    refine x_iadd (pc := 105) O dX8_comes_105 ?_
    refine r_put (pc := 106) O dX8_comes_106 fpX8_111 rfl ?_
    refine x_aload_n (pc := 109) O dX8_comes_109 rfl rfl ?_
    refine r_get (pc := 110) O dX8_comes_110 fdX8_62 rfl ?_
    refine x_iload_n (pc := 113) O dX8_comes_113 rfl ?_
    refine x_iload_n (pc := 114) O dX8_comes_114 rfl ?_
    refine r_ast (k := 29) (pc := 115) O dX8_comes_115 rfl rfl rfl (by show _ < 120; omega) (by omega) ?_
    refine x_aload_n (pc := 116) O dX8_comes_116 rfl rfl ?_
    refine r_get (pc := 117) O dX8_comes_117 fdX8_65 rfl ?_
    refine x_iload_n (pc := 120) O dX8_comes_120 rfl ?_
    refine x_iconst (v := (-1)) (pc := 121) O dX8_comes_121 (by decide) ?_
    refine r_ast (k := 30) (pc := 122) O dX8_comes_122 rfl rfl rfl (by show _ < 120; omega) (by omega) ?_
    exact x_ret (v := none) (pc := 123) O dX8_comes_123 rfl trivial ⟨hce, hsl, (), rfl, fun h hh => ⟨(D, _, r' + 1), hq.come hs hr2 hD hA hAr, hh⟩⟩
  refine x_aload_n (pc := 0) O dX8_comes_0 rfl rfl ?_
  refine r_get (pc := 1) O dX8_comes_1 fdX8_111 rfl ?_
  refine x_aload_n (pc := 4) O dX8_comes_4 rfl rfl ?_
  refine r_get (pc := 5) O dX8_comes_5 fdX8_50 rfl ?_
  refine r_len (k := 24) (pc := 8) O dX8_comes_8 rfl rfl ?_
  refine x_icmp_ne (pc := 9) O 56 dX8_comes_9 (by decide) (fun c9 => ?_) (fun c9 => ?_)
  · rw [hr, nI_eq (by omega) (by show cap r' < _; have := cap_hi r'; omega)] at c9
    rw [← cap_same c9 hr65]
    exact tail 0 0 d' a' (Nat.zero_le _) (Nat.zero_le _) (fun _ _ => rfl) (fun _ _ => rfl) (fun _ _ => ⟨rfl, rfl, rfl, rfl⟩)
  · have hc9 : r' = cap r' := by
      rw [hr, nI_eq (by omega) (by show cap r' < _; have := cap_hi r'; omega)] at c9
      exact c9
    have hcn := cap_next hc9 (by omega)
    have h32 := cap_32 hc9 (by omega)
    have hlo := cap_lo r'
    refine x_imp O (P' := RWn E o d' (rlen (cap r')) i a') (fun h H => H) ?_
    refine x_aload_n (pc := 12) O dX8_comes_12 rfl rfl ?_
    refine x_aload_n (pc := 13) O dX8_comes_13 rfl rfl ?_
    refine rn_get (pc := 14) O dX8_comes_14 fdX8_50 rfl ?_
    refine x_callS (pc := 17) (rest := [.ref o]) O (c_X8_longer l E (RWn E o d' (rlen (cap r')) i a') (d' 24) (cap r') (a' 24) (fun h H => H.2.1 24 rfl) (by omega)) dX8_comes_17 cbX8_114 sm_yX8_longer rfl rfl (Nat.le_of_ble_eq_true rfl) ⟨Nat.le_of_ble_eq_true rfl, Nat.le_of_ble_eq_true rfl⟩ ⟨by show 0 + 1 ≤ (cap (r' + 1) - cap r') / 64; omega, by show 0 + 2 * cap r' ≤ 8 * (cap (r' + 1) - cap r'); omega⟩ (fun q24 => ?_)
    refine x_put (pc := 20) (P' := RWn E o (va_up d' 24 q24) (va_up (rlen (cap r')) 24 (2 * cap r')) i (va_up a' 24 (gup (a' 24) (cap r')))) O dX8_comes_20 fpX8_50 rfl rfl (fun h H => RWn.grow rfl rfl H) ?_
    refine x_aload_n (pc := 23) O dX8_comes_23 rfl rfl ?_
    refine x_aload_n (pc := 24) O dX8_comes_24 rfl rfl ?_
    refine rn_get (pc := 25) O dX8_comes_25 fdX8_53 rfl ?_
    refine x_callS (pc := 28) (rest := [.ref o]) O (c_X8_longer l E (RWn E o (va_up d' 24 q24) (va_up (rlen (cap r')) 24 (2 * cap r')) i (va_up a' 24 (gup (a' 24) (cap r')))) ((va_up d' 24 q24) 25) (cap r') (a' 25) (fun h H => H.2.1 25 rfl) (by omega)) dX8_comes_28 cbX8_114 sm_yX8_longer rfl rfl (Nat.le_of_ble_eq_true rfl) ⟨Nat.le_of_ble_eq_true rfl, Nat.le_of_ble_eq_true rfl⟩ ⟨by show 0 + 1 + 1 ≤ (cap (r' + 1) - cap r') / 64; omega, by show 0 + 2 * cap r' + 2 * cap r' ≤ 8 * (cap (r' + 1) - cap r'); omega⟩ (fun q25 => ?_)
    refine x_put (pc := 31) (P' := RWn E o (va_up (va_up d' 24 q24) 25 q25) (va_up (va_up (rlen (cap r')) 24 (2 * cap r')) 25 (2 * cap r')) i (va_up (va_up a' 24 (gup (a' 24) (cap r'))) 25 (gup (a' 25) (cap r')))) O dX8_comes_31 fpX8_53 rfl rfl (fun h H => RWn.grow rfl rfl H) ?_
    refine x_aload_n (pc := 34) O dX8_comes_34 rfl rfl ?_
    refine x_aload_n (pc := 35) O dX8_comes_35 rfl rfl ?_
    refine rn_get (pc := 36) O dX8_comes_36 fdX8_56 rfl ?_
    refine x_callS (pc := 39) (rest := [.ref o]) O (c_X8_longer l E (RWn E o (va_up (va_up d' 24 q24) 25 q25) (va_up (va_up (rlen (cap r')) 24 (2 * cap r')) 25 (2 * cap r')) i (va_up (va_up a' 24 (gup (a' 24) (cap r'))) 25 (gup (a' 25) (cap r')))) ((va_up (va_up d' 24 q24) 25 q25) 26) (cap r') (a' 26) (fun h H => H.2.1 26 rfl) (by omega)) dX8_comes_39 cbX8_114 sm_yX8_longer rfl rfl (Nat.le_of_ble_eq_true rfl) ⟨Nat.le_of_ble_eq_true rfl, Nat.le_of_ble_eq_true rfl⟩ ⟨by show 0 + 1 + 1 + 1 ≤ (cap (r' + 1) - cap r') / 64; omega, by show 0 + 2 * cap r' + 2 * cap r' + 2 * cap r' ≤ 8 * (cap (r' + 1) - cap r'); omega⟩ (fun q26 => ?_)
    refine x_put (pc := 42) (P' := RWn E o (va_up (va_up (va_up d' 24 q24) 25 q25) 26 q26) (va_up (va_up (va_up (rlen (cap r')) 24 (2 * cap r')) 25 (2 * cap r')) 26 (2 * cap r')) i (va_up (va_up (va_up a' 24 (gup (a' 24) (cap r'))) 25 (gup (a' 25) (cap r'))) 26 (gup (a' 26) (cap r')))) O dX8_comes_42 fpX8_56 rfl rfl (fun h H => RWn.grow rfl rfl H) ?_
    refine x_aload_n (pc := 45) O dX8_comes_45 rfl rfl ?_
    refine x_aload_n (pc := 46) O dX8_comes_46 rfl rfl ?_
    refine rn_get (pc := 47) O dX8_comes_47 fdX8_59 rfl ?_
    refine x_callS (pc := 50) (rest := [.ref o]) O (c_X8_longer l E (RWn E o (va_up (va_up (va_up d' 24 q24) 25 q25) 26 q26) (va_up (va_up (va_up (rlen (cap r')) 24 (2 * cap r')) 25 (2 * cap r')) 26 (2 * cap r')) i (va_up (va_up (va_up a' 24 (gup (a' 24) (cap r'))) 25 (gup (a' 25) (cap r'))) 26 (gup (a' 26) (cap r')))) ((va_up (va_up (va_up d' 24 q24) 25 q25) 26 q26) 27) (cap r') (a' 27) (fun h H => H.2.1 27 rfl) (by omega)) dX8_comes_50 cbX8_114 sm_yX8_longer rfl rfl (Nat.le_of_ble_eq_true rfl) ⟨Nat.le_of_ble_eq_true rfl, Nat.le_of_ble_eq_true rfl⟩ ⟨by show 0 + 1 + 1 + 1 + 1 ≤ (cap (r' + 1) - cap r') / 64; omega, by show 0 + 2 * cap r' + 2 * cap r' + 2 * cap r' + 2 * cap r' ≤ 8 * (cap (r' + 1) - cap r'); omega⟩ (fun q27 => ?_)
    refine x_put (pc := 53) (P' := RWn E o (va_up (va_up (va_up (va_up d' 24 q24) 25 q25) 26 q26) 27 q27) (va_up (va_up (va_up (va_up (rlen (cap r')) 24 (2 * cap r')) 25 (2 * cap r')) 26 (2 * cap r')) 27 (2 * cap r')) i (va_up (va_up (va_up (va_up a' 24 (gup (a' 24) (cap r'))) 25 (gup (a' 25) (cap r'))) 26 (gup (a' 26) (cap r'))) 27 (gup (a' 27) (cap r')))) O dX8_comes_53 fpX8_59 rfl rfl (fun h H => RWn.grow rfl rfl H) ?_
    refine x_imp O (P' := RW E o (va_up (va_up (va_up (va_up d' 24 q24) 25 q25) 26 q26) 27 q27) (cap (r' + 1)) i (va_up (va_up (va_up (va_up a' 24 (gup (a' 24) (cap r'))) 25 (gup (a' 25) (cap r'))) 26 (gup (a' 26) (cap r'))) 27 (gup (a' 27) (cap r')))) (fun h H => H.to (fun k hk => ?_)) ?_
    · rw [hcn]
      by_cases e7 : k = 27
      · subst e7; rw [va_up_self]; rfl
      · rw [va_up_ne _ _ e7]
        by_cases e6 : k = 26
        · subst e6; rw [va_up_self]; rfl
        · rw [va_up_ne _ _ e6]
          by_cases e5 : k = 25
          · subst e5; rw [va_up_self]; rfl
          · rw [va_up_ne _ _ e5]
            by_cases e4 : k = 24
            · subst e4; rw [va_up_self]; rfl
            · rw [va_up_ne _ _ e4]
              have q1 : k ≠ 22 := by rintro rfl; cases hk
              have q2 : k ≠ 23 := by rintro rfl; cases hk
              unfold rlen
              (repeat' split) <;> omega
    refine tail _ _ _ _ ?_ ?_ (fun k hk => ?_) (fun k hk => ?_) (fun k hk => ?_)
    · show 0 + 1 + 1 + 1 + 1 ≤ _
      omega
    · show 0 + 2 * cap r' + 2 * cap r' + 2 * cap r' + 2 * cap r' ≤ _
      omega
    · have hk2 : k ≠ 24 ∧ k ≠ 25 ∧ k ≠ 26 ∧ k ≠ 27 := by simp [isRr] at hk; omega
      rw [va_up_ne _ _ hk2.2.2.2, va_up_ne _ _ hk2.2.2.1, va_up_ne _ _ hk2.2.1, va_up_ne _ _ hk2.1]
    · have hk2 : k ≠ 24 ∧ k ≠ 25 ∧ k ≠ 26 ∧ k ≠ 27 := by simp [isRr] at hk; omega
      rw [va_up_ne _ _ hk2.2.2.2, va_up_ne _ _ hk2.2.2.1, va_up_ne _ _ hk2.2.1, va_up_ne _ _ hk2.1]
    · rw [va_up_ne _ _ (by decide), va_up_ne _ _ (by decide), va_up_ne _ _ (by decide), va_up_self, va_up_ne _ _ (by decide), va_up_ne _ _ (by decide), va_up_self, va_up_ne _ _ (by decide), va_up_self, va_up_self]
      simp only [gup]
      rw [if_pos (by omega), if_pos (by omega), if_pos (by omega), if_pos (by omega)]
      exact ⟨rfl, rfl, rfl, rfl⟩
end
section
/-! ===== REF 11: rightOf, holder, right ===== -/
def flt (day : Int32) (c : List Rt) : List Rt := c.filter (fun e => decide (e.2.2 ≤ day))
def roQ (A : Ar) (s r t : Nat) (day x : Int32) : Prop := (x = -1 ∧ (flt day (chainR A s r))[t]? = none) ∨ ∃ k, k < r ∧ x = nI k ∧ (flt day (chainR A s r))[t]? = some (A 25 k, A 26 k, A 27 k)
theorem flt_s1 {A : Ar} {s j : Nat} {day : Int32} (h : A 24 j = nI s) (h2 : A 27 j ≤ day) : flt day (chainR A s (j + 1)) = (A 25 j, A 26 j, A 27 j) :: flt day (chainR A s j) := by
  simp only [chainR, h, if_true, flt]
  rw [List.filter_cons_of_pos (by simpa using h2)]
theorem flt_s2 {A : Ar} {s j : Nat} {day : Int32} (h : ¬ A 24 j = nI s ∨ ¬ A 27 j ≤ day) : flt day (chainR A s (j + 1)) = flt day (chainR A s j) := by
  simp only [chainR]
  split
  · rename_i h1
    rcases h with h | h
    · exact absurd h1 h
    · simp only [flt]
      rw [List.filter_cons_of_neg (by simpa using h)]
  · rfl
set_option maxRecDepth 100000 in
set_option maxHeartbeats 4000000 in
theorem c_X8_rightOf (l : Launch) (E : En) (o r : Nat) (D : Nat → Nat) (i : Nat → Int32) (A : Ar) (s t : Nat) (day : Int32) (hr : i 28 = nI r) (hr2 : r ≤ 61560) (ht : t < 2 ^ 31) : Mt l E yX8_rightOf cX8_rightOf 6 (some .int) (rmX 0 0 0 0) [.ref o, .int (nI s), .int day, .int (nI t)] (RW E o D (cap r) i A) (fun x : Int32 => some (.int x)) (fun x h => roQ A s r t day x ∧ RW E o D (cap r) i A h) := by
  refine Mt_of (by decide +kernel) (Nat.le_of_ble_eq_true rfl) (fun J O => ?_)
  show J _ 0 0 0 [some (.ref o), some (.int (nI s)), some (.int day), some (.int (nI t)), none, none] []
  have hcap := cap_ge (r := r) (by omega)
  have loop : ∀ j, (fun j => j ≤ r → ∀ t', t' < 2 ^ 31 → (flt day (chainR A s r))[t]? = (flt day (chainR A s j))[t']? → J (RW E o D (cap r) i A) 0 0 11 [some (.ref o), some (.int (nI s)), some (.int day), some (.int (nI t)), some (.int (nI t')), some (.int (nI j - 1))] []) j := by
    refine dn_ind ?_ (fun j ih hj t' ht' he => ?_)
    · intro hj t' ht' he
      refine x_iload (pc := 11) O dX8_rightOf_11 rfl ?_
      refine x_if_lt (pc := 13) O 58 dX8_rightOf_13 (by decide) (fun c13 => ?_) (fun c13 => ?_)
      · refine x_iconst (v := (-1)) (pc := 58) O dX8_rightOf_58 (by decide) ?_
        exact x_ret (v := some (.int _)) (pc := 59) O dX8_rightOf_59 rfl rfl ⟨Nat.le_refl _, Nat.le_refl _, -1, rfl, fun h hh => ⟨Or.inl ⟨rfl, by rw [he]; rfl⟩, hh⟩⟩
      · exact absurd (by decide) c13
    · rw [show nI (j + 1) - 1 = nI j from nI_pred j]
      refine x_iload (pc := 11) O dX8_rightOf_11 rfl ?_
      refine x_if_lt (pc := 13) O 58 dX8_rightOf_13 (by decide) (fun c13 => ?_) (fun c13 => ?_)
      · exact absurd c13 (nI_pos (by omega))
      · refine x_aload_n (pc := 16) O dX8_rightOf_16 rfl rfl ?_
        refine r_get (pc := 17) O dX8_rightOf_17 fdX8_50 rfl ?_
        refine x_iload (pc := 20) O dX8_rightOf_20 rfl ?_
        refine r_ald (k := 24) (pc := 22) O dX8_rightOf_22 rfl rfl rfl (by show _ < cap r; omega) (by omega) ?_
        refine x_iload_n (pc := 23) O dX8_rightOf_23 rfl ?_
        refine x_icmp_ne (pc := 24) O 52 dX8_rightOf_24 (by decide) (fun c24 => ?_) (fun c24 => ?_)
        · refine x_iinc (v := nI j - 1) (pc := 52) O dX8_rightOf_52 rfl (Int32.sub_eq_add_neg (nI j) 1).symm rfl ?_
          refine x_goto (pc := 55) O 11 dX8_rightOf_55 (by decide) ?_
          exact ih (by omega) t' ht' (by rw [he, flt_s2 (Or.inl c24)])
        · refine x_aload_n (pc := 27) O dX8_rightOf_27 rfl rfl ?_
          refine r_get (pc := 28) O dX8_rightOf_28 fdX8_59 rfl ?_
          refine x_iload (pc := 31) O dX8_rightOf_31 rfl ?_
          refine r_ald (k := 27) (pc := 33) O dX8_rightOf_33 rfl rfl rfl (by show _ < cap r; omega) (by omega) ?_
          refine x_iload_n (pc := 34) O dX8_rightOf_34 rfl ?_
          refine x_icmp_le (pc := 35) O 41 dX8_rightOf_35 (by decide) (fun c35 => ?_) (fun c35 => ?_)
          · refine x_iload (pc := 41) O dX8_rightOf_41 rfl ?_
            refine x_if_ne (pc := 43) O 49 dX8_rightOf_43 (by decide) (fun c43 => ?_) (fun c43 => ?_)
            · refine x_iinc (pc := 49) O dX8_rightOf_49 rfl rfl rfl ?_
              refine x_iinc (v := nI j - 1) (pc := 52) O dX8_rightOf_52 rfl (Int32.sub_eq_add_neg (nI j) 1).symm rfl ?_
              refine x_goto (pc := 55) O 11 dX8_rightOf_55 (by decide) ?_
              obtain ⟨t2, rfl⟩ : ∃ t2, t' = t2 + 1 := ⟨t' - 1, by
                have : t' ≠ 0 := fun e => c43 (by rw [e]; rfl)
                omega⟩
              rw [show nI (t2 + 1) + Int32.ofInt (-1) = nI t2 from by rw [nI_succ]; show nI t2 + 1 + (-1) = nI t2; rw [Int32.add_assoc]; simp]
              exact ih (by omega) t2 (by omega) (by rw [he, flt_s1 c24 c35]; rfl)
            · refine x_iload (pc := 46) O dX8_rightOf_46 rfl ?_
              have ht0 : t' = 0 := by
                rw [show (0 : Int32) = nI 0 from rfl, nI_eq ht' (by decide)] at c43
                exact c43
              exact x_ret (v := some (.int _)) (pc := 48) O dX8_rightOf_48 rfl rfl ⟨Nat.le_refl _, Nat.le_refl _, nI j, rfl, fun h hh => ⟨Or.inr ⟨j, by omega, rfl, by rw [he, flt_s1 c24 c35, ht0]; rfl⟩, hh⟩⟩
          · refine x_goto (pc := 38) O 52 dX8_rightOf_38 (by decide) ?_
            refine x_iinc (v := nI j - 1) (pc := 52) O dX8_rightOf_52 rfl (Int32.sub_eq_add_neg (nI j) 1).symm rfl ?_
            refine x_goto (pc := 55) O 11 dX8_rightOf_55 (by decide) ?_
            exact ih (by omega) t' ht' (by rw [he, flt_s2 (Or.inr c35)])
  refine x_iload_n (pc := 0) O dX8_rightOf_0 rfl ?_
  refine x_istore (pc := 1) O dX8_rightOf_1 (by decide) rfl ?_
  refine x_aload_n (pc := 3) O dX8_rightOf_3 rfl rfl ?_
  refine r_get (pc := 4) O dX8_rightOf_4 fdX8_111 rfl ?_
  refine x_iconst (v := 1) (pc := 7) O dX8_rightOf_7 (by decide) ?_
  refine x_isub (pc := 8) O dX8_rightOf_8 ?_
  rw [hr]
  refine x_istore (pc := 9) O dX8_rightOf_9 (by decide) rfl ?_
  exact loop r (Nat.le_refl r) t ht rfl
def hldV (c : List Rt) (day : Int32) : Int32 := match (flt day c)[0]? with
  | none => -2
  | some e => e.1
def rgtV (c : List Rt) (day : Int32) (k : Nat) (x : Int32) : Int32 := match (flt day c)[k]? with
  | none => -2
  | some e => if x = 0 then e.1 else if x = 1 then e.2.1 else if x = 2 then e.2.2 else -2
theorem st12 {g s : Int32} (hg : 0 ≤ g ∧ g ≤ 9) (hs : 0 ≤ s ∧ s ≤ 11) : g = nI g.toNatClampNeg ∧ s = nI s.toNatClampNeg ∧ g.toNatClampNeg < 10 ∧ s.toNatClampNeg < 12 ∧ 12 * g + s = nI (12 * g.toNatClampNeg + s.toNatClampNeg) := by
  have h1 := in_nat (m := 10) (x := nI 10) (p := g) rfl (by decide) ⟨hg.1, by rw [show nI 10 - 1 = 9 from by decide]; exact hg.2⟩
  have h2 := in_nat (m := 12) (x := nI 12) (p := s) rfl (by decide) ⟨hs.1, by rw [show nI 12 - 1 = 11 from by decide]; exact hs.2⟩
  refine ⟨h1.1, h2.1, h1.2, h2.2, ?_⟩
  rw [← nI_add, ← pk_mul, ← h1.1, ← h2.1]
  rfl
set_option maxRecDepth 100000 in
set_option maxHeartbeats 4000000 in
theorem c_X8_holder (l : Launch) (E : En) (o : Nat) (d : Nat → Nat) (i : Nat → Int32) (a : Nat → Nat → Int32) (ch : Nat → List Rt) (g s q : Int32) (hch : ∀ t, t < 120 → ∀ q : Int32, 0 ≤ q → ¬ (flt q (ch t))[0]? = none) : Mt l E yX8_holder cX8_holder 4 (some .int) (rmX 2 45 0 0) [.ref o, .int g, .int s, .int q] (RV E o d i a ch) (fun _ : Unit => some (.int (if (0 ≤ g ∧ g ≤ 9) ∧ (0 ≤ s ∧ s ≤ 11) ∧ 0 ≤ q ∧ q ≤ i 8 then hldV (ch (12 * g.toNatClampNeg + s.toNatClampNeg)) q else -2))) (fun _ => RV E o d i a ch) := by
  refine Mt_of (by decide +kernel) (Nat.le_of_ble_eq_true rfl) (fun J O => ?_)
  show J _ 0 0 0 [some (.ref o), some (.int g), some (.int s), some (.int q)] []
  refine x_aload_n (pc := 0) O dX8_holder_0 rfl rfl ?_
  refine x_iload_n (pc := 1) O dX8_holder_1 rfl ?_
  refine x_iload_n (pc := 2) O dX8_holder_2 rfl ?_
  refine x_iload_n (pc := 3) O dX8_holder_3 rfl ?_
  refine x_callV (pc := 4) (rest := _) (ci := 8) O (c_X8_isStrip l E _ _ _ _ _ _ _ _) dX8_holder_4 cbX8_121 im_yX8_isStrip se_yX8_isStrip rfl v_recv rfl rfl (Nat.le_of_ble_eq_true rfl) ⟨Nat.le_of_ble_eq_true rfl, Nat.le_of_ble_eq_true rfl⟩ ⟨Nat.le_of_ble_eq_true rfl, Nat.le_of_ble_eq_true rfl⟩ (fun _ => ?_)
  dsimp only [Option.toList, List.append, List.nil_append, List.cons_append, Nat.add_zero, Nat.reduceAdd]
  refine x_if_eq (pc := 7) O 30 dX8_holder_7 (by decide) (fun c7 => ?_) (fun c7 => ?_)
  · refine x_bipush (v := (-2)) (pc := 30) O dX8_holder_30 (by decide) ?_
    have hc9 : ¬ ((0 ≤ g ∧ g ≤ 9) ∧ (0 ≤ s ∧ s ≤ 11) ∧ 0 ≤ q ∧ q ≤ i 8) := b2i_z c7
    refine x_ret (v := some (.int _)) (pc := 32) O dX8_holder_32 rfl rfl ⟨Nat.le_refl _, Nat.le_refl _, (), congrArg (fun z => some (Value.int z)) (if_neg hc9).symm, fun h hh => ?_⟩
    (try simp only [if_neg hc9]); exact hh
  · have hST := b2i_n0 c7
    have h12 := st12 hST.1 hST.2.1
    have hlt : (12 * g.toNatClampNeg + s.toNatClampNeg) < 120 := by omega
    have hne : ¬ (flt q (ch (12 * g.toNatClampNeg + s.toNatClampNeg)))[0]? = none := hch _ hlt q hST.2.2.1
    refine v_open O (fun D A r hq => ?_)
    refine x_aload_n (pc := 10) O dX8_holder_10 rfl rfl ?_
    refine r_get (pc := 11) O dX8_holder_11 fdX8_53 rfl ?_
    refine x_aload_n (pc := 14) O dX8_holder_14 rfl rfl ?_
    refine x_bipush (v := 12) (pc := 15) O dX8_holder_15 (by decide) ?_
    refine x_iload_n (pc := 17) O dX8_holder_17 rfl ?_
    refine x_imul (pc := 18) O dX8_holder_18 ?_
    refine x_iload_n (pc := 19) O dX8_holder_19 rfl ?_
    refine x_iadd (pc := 20) O dX8_holder_20 ?_
    rw [h12.2.2.2.2]
    refine x_iload_n (pc := 21) O dX8_holder_21 rfl ?_
    refine x_iconst (v := nI 0) (pc := 22) O dX8_holder_22 (by decide) ?_
    refine x_callV (pc := 23) (rest := [.ref (D 25)]) (ci := 8) O (c_X8_rightOf l E o r D i A (12 * g.toNatClampNeg + s.toNatClampNeg) 0 q hq.2.1 hq.2.2.1 (by decide)) dX8_holder_23 cbX8_124 im_yX8_rightOf se_yX8_rightOf rfl (fun h H => ⟨_, H.1⟩) rfl rfl (Nat.le_of_ble_eq_true rfl) ⟨Nat.le_of_ble_eq_true rfl, Nat.le_of_ble_eq_true rfl⟩ ⟨Nat.le_of_ble_eq_true rfl, Nat.le_of_ble_eq_true rfl⟩ (fun y => x_pure O (fun hy => ?_))
    dsimp only [Option.toList, List.append, List.nil_append, List.cons_append, Nat.add_zero, Nat.reduceAdd]
    rcases hy with ⟨h1, h2⟩ | ⟨k, h1, h2, h3⟩
    · exfalso
      exact hne (by rw [← hq.2.2.2.2 _ hlt]; exact h2)
    have hcap := cap_ge (r := r) (by have := hq.2.2.1; omega)
    refine r_ald (k := 25) (j := k) (pc := 26) O dX8_holder_26 rfl rfl h2 (by show _ < cap r; omega) (by have := hq.2.2.1; omega) ?_
    refine x_goto (pc := 27) O 32 dX8_holder_27 (by decide) ?_
    refine x_ret (v := some (.int _)) (pc := 32) O dX8_holder_32 rfl rfl ⟨Nat.le_refl _, Nat.le_refl _, (), congrArg (fun z => some (Value.int z)) ?_, fun h hh => ⟨(D, A, r), hq, hh⟩⟩
    rw [if_pos hST]
    unfold hldV
    rw [← hq.2.2.2.2 _ hlt, h3]
set_option maxRecDepth 100000 in
set_option maxHeartbeats 4000000 in
theorem c_X8_right (l : Launch) (E : En) (o : Nat) (d : Nat → Nat) (i : Nat → Int32) (a : Nat → Nat → Int32) (ch : Nat → List Rt) (g s q k x : Int32)  : Mt l E yX8_right cX8_right 7 (some .int) (rmX 2 45 0 0) [.ref o, .int g, .int s, .int q, .int k, .int x] (RV E o d i a ch) (fun _ : Unit => some (.int (if ((0 ≤ g ∧ g ≤ 9) ∧ (0 ≤ s ∧ s ≤ 11) ∧ 0 ≤ q ∧ q ≤ i 8) ∧ 0 ≤ k then rgtV (ch (12 * g.toNatClampNeg + s.toNatClampNeg)) q k.toNatClampNeg x else -2))) (fun _ => RV E o d i a ch) := by
  refine Mt_of (by decide +kernel) (Nat.le_of_ble_eq_true rfl) (fun J O => ?_)
  show J _ 0 0 0 [some (.ref o), some (.int g), some (.int s), some (.int q), some (.int k), some (.int x), none] []
  refine x_aload_n (pc := 0) O dX8_right_0 rfl rfl ?_
  refine x_iload_n (pc := 1) O dX8_right_1 rfl ?_
  refine x_iload_n (pc := 2) O dX8_right_2 rfl ?_
  refine x_iload_n (pc := 3) O dX8_right_3 rfl ?_
  refine x_callV (pc := 4) (rest := _) (ci := 8) O (c_X8_isStrip l E _ _ _ _ _ _ _ _) dX8_right_4 cbX8_121 im_yX8_isStrip se_yX8_isStrip rfl v_recv rfl rfl (Nat.le_of_ble_eq_true rfl) ⟨Nat.le_of_ble_eq_true rfl, Nat.le_of_ble_eq_true rfl⟩ ⟨Nat.le_of_ble_eq_true rfl, Nat.le_of_ble_eq_true rfl⟩ (fun _ => ?_)
  dsimp only [Option.toList, List.append, List.nil_append, List.cons_append, Nat.add_zero, Nat.reduceAdd]
  refine x_if_eq (pc := 7) O 15 dX8_right_7 (by decide) (fun c7 => ?_) (fun c7 => ?_)
  · refine x_bipush (v := (-2)) (pc := 15) O dX8_right_15 (by decide) ?_
    have hc9 : ¬ (((0 ≤ g ∧ g ≤ 9) ∧ (0 ≤ s ∧ s ≤ 11) ∧ 0 ≤ q ∧ q ≤ i 8) ∧ 0 ≤ k) := fun z => b2i_z c7 z.1
    refine x_ret (v := some (.int _)) (pc := 17) O dX8_right_17 rfl rfl ⟨Nat.le_refl _, Nat.le_refl _, (), congrArg (fun z => some (Value.int z)) (if_neg hc9).symm, fun h hh => ?_⟩
    (try simp only [if_neg hc9]); exact hh
  · refine x_iload (pc := 10) O dX8_right_10 rfl ?_
    refine x_if_ge (pc := 12) O 18 dX8_right_12 (by decide) (fun c12 => ?_) (fun c12 => ?_)
    · have hST := b2i_n0 c7
      have hCO : ((0 ≤ g ∧ g ≤ 9) ∧ (0 ≤ s ∧ s ≤ 11) ∧ 0 ≤ q ∧ q ≤ i 8) ∧ 0 ≤ k := ⟨hST, c12⟩
      have h12 := st12 hST.1 hST.2.1
      have hlt : (12 * g.toNatClampNeg + s.toNatClampNeg) < 120 := by omega
      obtain ⟨hkn, hk31⟩ : k = nI k.toNatClampNeg ∧ k.toNatClampNeg < 2 ^ 31 := by
        obtain ⟨z, hz, rfl⟩ := nI_of (x := k) (Int32.not_lt.mpr c12)
        rw [nI_clamp hz]
        exact ⟨rfl, hz⟩
      refine v_open O (fun D A r hq => ?_)
      refine x_aload_n (pc := 18) O dX8_right_18 rfl rfl ?_
      refine x_bipush (v := 12) (pc := 19) O dX8_right_19 (by decide) ?_
      refine x_iload_n (pc := 21) O dX8_right_21 rfl ?_
      refine x_imul (pc := 22) O dX8_right_22 ?_
      refine x_iload_n (pc := 23) O dX8_right_23 rfl ?_
      refine x_iadd (pc := 24) O dX8_right_24 ?_
      rw [h12.2.2.2.2]
      refine x_iload_n (pc := 25) O dX8_right_25 rfl ?_
      refine x_iload (pc := 26) O dX8_right_26 rfl ?_
      rw [hkn]
      refine x_callV (pc := 28) (rest := []) (ci := 8) O (c_X8_rightOf l E o r D i A (12 * g.toNatClampNeg + s.toNatClampNeg) k.toNatClampNeg q hq.2.1 hq.2.2.1 hk31) dX8_right_28 cbX8_124 im_yX8_rightOf se_yX8_rightOf rfl (fun h H => ⟨_, H.1⟩) rfl rfl (Nat.le_of_ble_eq_true rfl) ⟨Nat.le_of_ble_eq_true rfl, Nat.le_of_ble_eq_true rfl⟩ ⟨Nat.le_of_ble_eq_true rfl, Nat.le_of_ble_eq_true rfl⟩ (fun y => x_pure O (fun hy => ?_))
      dsimp only [Option.toList, List.append, List.nil_append, List.cons_append, Nat.add_zero, Nat.reduceAdd]
      refine x_istore (pc := 31) O dX8_right_31 (by decide) rfl ?_
      refine x_iload (pc := 33) O dX8_right_33 rfl ?_
      refine x_iconst (v := (-1)) (pc := 35) O dX8_right_35 (by decide) ?_
      refine x_icmp_ne (pc := 36) O 42 dX8_right_36 (by decide) (fun c36 => ?_) (fun c36 => ?_)
      · obtain ⟨j, h1, h2, h3⟩ : ∃ j, j < r ∧ y = nI j ∧ (flt q (chainR A (12 * g.toNatClampNeg + s.toNatClampNeg) r))[k.toNatClampNeg]? = some (A 25 j, A 26 j, A 27 j) := hy.resolve_left (fun z => c36 z.1)
        have hcap := cap_ge (r := r) (by have := hq.2.2.1; omega)
        refine x_iload (pc := 42) O dX8_right_42 rfl ?_
        refine x_if_ne (pc := 44) O 57 dX8_right_44 (by decide) (fun c44 => ?_) (fun c44 => ?_)
        · refine x_iload (pc := 57) O dX8_right_57 rfl ?_
          refine x_iconst (v := 1) (pc := 59) O dX8_right_59 (by decide) ?_
          refine x_icmp_ne (pc := 60) O 73 dX8_right_60 (by decide) (fun c60 => ?_) (fun c60 => ?_)
          · refine x_iload (pc := 73) O dX8_right_73 rfl ?_
            refine x_iconst (v := 2) (pc := 75) O dX8_right_75 (by decide) ?_
            refine x_icmp_ne (pc := 76) O 89 dX8_right_76 (by decide) (fun c76 => ?_) (fun c76 => ?_)
            · refine x_bipush (v := (-2)) (pc := 89) O dX8_right_89 (by decide) ?_
              refine x_ret (v := some (.int _)) (pc := 91) O dX8_right_91 rfl rfl ⟨Nat.le_refl _, Nat.le_refl _, (), congrArg (fun z => some (Value.int z)) ?_, fun h hh => ⟨(D, A, r), hq, hh⟩⟩
              rw [if_pos hCO]
              unfold rgtV
              rw [← hq.2.2.2.2 _ hlt, h3]
              show _ = if x = 0 then _ else if x = 1 then _ else if x = 2 then _ else _
              rw [if_neg c44, if_neg c60, if_neg c76]
            · refine x_aload_n (pc := 79) O dX8_right_79 rfl rfl ?_
              refine r_get (pc := 80) O dX8_right_80 fdX8_59 rfl ?_
              refine x_iload (pc := 83) O dX8_right_83 rfl ?_
              refine r_ald (k := 27) (j := j) (pc := 85) O dX8_right_85 rfl rfl h2 (by show _ < cap r; omega) (by have := hq.2.2.1; omega) ?_
              refine x_goto (pc := 86) O 91 dX8_right_86 (by decide) ?_
              refine x_ret (v := some (.int _)) (pc := 91) O dX8_right_91 rfl rfl ⟨Nat.le_refl _, Nat.le_refl _, (), congrArg (fun z => some (Value.int z)) ?_, fun h hh => ⟨(D, A, r), hq, hh⟩⟩
              rw [if_pos hCO]
              unfold rgtV
              rw [← hq.2.2.2.2 _ hlt, h3]
              show _ = if x = 0 then _ else if x = 1 then _ else if x = 2 then _ else _
              rw [if_neg c44, if_neg c60, if_pos c76]
          · refine x_aload_n (pc := 63) O dX8_right_63 rfl rfl ?_
            refine r_get (pc := 64) O dX8_right_64 fdX8_56 rfl ?_
            refine x_iload (pc := 67) O dX8_right_67 rfl ?_
            refine r_ald (k := 26) (j := j) (pc := 69) O dX8_right_69 rfl rfl h2 (by show _ < cap r; omega) (by have := hq.2.2.1; omega) ?_
            refine x_goto (pc := 70) O 91 dX8_right_70 (by decide) ?_
            refine x_ret (v := some (.int _)) (pc := 91) O dX8_right_91 rfl rfl ⟨Nat.le_refl _, Nat.le_refl _, (), congrArg (fun z => some (Value.int z)) ?_, fun h hh => ⟨(D, A, r), hq, hh⟩⟩
            rw [if_pos hCO]
            unfold rgtV
            rw [← hq.2.2.2.2 _ hlt, h3]
            show _ = if x = 0 then _ else if x = 1 then _ else if x = 2 then _ else _
            rw [if_neg c44, if_pos c60]
        · refine x_aload_n (pc := 47) O dX8_right_47 rfl rfl ?_
          refine r_get (pc := 48) O dX8_right_48 fdX8_53 rfl ?_
          refine x_iload (pc := 51) O dX8_right_51 rfl ?_
          refine r_ald (k := 25) (j := j) (pc := 53) O dX8_right_53 rfl rfl h2 (by show _ < cap r; omega) (by have := hq.2.2.1; omega) ?_
          refine x_goto (pc := 54) O 91 dX8_right_54 (by decide) ?_
          refine x_ret (v := some (.int _)) (pc := 91) O dX8_right_91 rfl rfl ⟨Nat.le_refl _, Nat.le_refl _, (), congrArg (fun z => some (Value.int z)) ?_, fun h hh => ⟨(D, A, r), hq, hh⟩⟩
          rw [if_pos hCO]
          unfold rgtV
          rw [← hq.2.2.2.2 _ hlt, h3]
          show _ = if x = 0 then _ else if x = 1 then _ else if x = 2 then _ else _
          rw [if_pos c44]
      · refine x_bipush (v := (-2)) (pc := 39) O dX8_right_39 (by decide) ?_
        rcases hy with ⟨h1, h2⟩ | ⟨j, h1, h2, h3⟩
        · refine x_ret (v := some (.int _)) (pc := 41) O dX8_right_41 rfl rfl ⟨Nat.le_refl _, Nat.le_refl _, (), congrArg (fun z => some (Value.int z)) ?_, fun h hh => ⟨(D, A, r), hq, hh⟩⟩
          rw [if_pos hCO]
          unfold rgtV
          rw [← hq.2.2.2.2 _ hlt, h2]
        · exact absurd (h2.symm.trans c36) (nI_nm1 (by have := hq.2.2.1; omega))
    · refine x_bipush (v := (-2)) (pc := 15) O dX8_right_15 (by decide) ?_
      have hc9 : ¬ (((0 ≤ g ∧ g ≤ 9) ∧ (0 ≤ s ∧ s ≤ 11) ∧ 0 ≤ q ∧ q ≤ i 8) ∧ 0 ≤ k) := fun z => c12 z.2
      refine x_ret (v := some (.int _)) (pc := 17) O dX8_right_17 rfl rfl ⟨Nat.le_refl _, Nat.le_refl _, (), congrArg (fun z => some (Value.int z)) (if_neg hc9).symm, fun h hh => ?_⟩
      (try simp only [if_neg hc9]); exact hh
end
