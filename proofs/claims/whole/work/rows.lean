section
-- ===== PART A: goes FIRST, ahead of the names: the tables' words, and 'selects' of the private methods out of them =====
/-- a private method of a class that the tables say can be made, by its rows of tables_1 -/
def lw_okq (q : MethodName × Nat) : Prop := (q.1.cls ≠ "java/lang/invoke/MethodHandle" ∧ q.1.cls ≠ "java/lang/invoke/VarHandle") ∧ Cond.instantiable q.1.cls q.2 ∈ tables_1 ∧ Cond.privateMethod q.1 ∈ tables_1 ∧ Cond.instanceMethod q.1 ∈ tables_1
theorem lw_p0 : lw_okq (⟨"ManorRolls$People", "addChildTo", "(III)V"⟩, 2) := ⟨⟨by decide +kernel, by decide +kernel⟩, List.mem_of_getElem? (i := 57) (by decide +kernel), List.mem_of_getElem? (i := 278) (by decide +kernel), List.mem_of_getElem? (i := 279) (by decide +kernel)⟩
theorem lw_p1 : lw_okq (⟨"ManorRolls", "passWidowsParts", "(I)I"⟩, 9) := ⟨⟨by decide +kernel, by decide +kernel⟩, List.mem_of_getElem? (i := 13) (by decide +kernel), List.mem_of_getElem? (i := 294) (by decide +kernel), List.mem_of_getElem? (i := 295) (by decide +kernel)⟩
theorem lw_p2 : lw_okq (⟨"ManorRolls$Land", "find", "(I)LManorRolls$Right;"⟩, 4) := ⟨⟨by decide +kernel, by decide +kernel⟩, List.mem_of_getElem? (i := 74) (by decide +kernel), List.mem_of_getElem? (i := 302) (by decide +kernel), List.mem_of_getElem? (i := 303) (by decide +kernel)⟩
theorem lw_p3 : lw_okq (⟨"ManorRolls", "passPicked", "(II)V"⟩, 9) := ⟨⟨by decide +kernel, by decide +kernel⟩, List.mem_of_getElem? (i := 13) (by decide +kernel), List.mem_of_getElem? (i := 310) (by decide +kernel), List.mem_of_getElem? (i := 311) (by decide +kernel)⟩
theorem lw_p4 : lw_okq (⟨"ManorRolls$Heirs", "look", "(II)V"⟩, 7) := ⟨⟨by decide +kernel, by decide +kernel⟩, List.mem_of_getElem? (i := 124) (by decide +kernel), List.mem_of_getElem? (i := 318) (by decide +kernel), List.mem_of_getElem? (i := 319) (by decide +kernel)⟩
theorem lw_p5 : lw_okq (⟨"ManorRolls$Heirs", "firstLine", "(I)J"⟩, 7) := ⟨⟨by decide +kernel, by decide +kernel⟩, List.mem_of_getElem? (i := 124) (by decide +kernel), List.mem_of_getElem? (i := 323) (by decide +kernel), List.mem_of_getElem? (i := 324) (by decide +kernel)⟩
theorem lw_p6 : lw_okq (⟨"ManorRolls$Heirs", "lineBelow", "(IJ)J"⟩, 7) := ⟨⟨by decide +kernel, by decide +kernel⟩, List.mem_of_getElem? (i := 124) (by decide +kernel), List.mem_of_getElem? (i := 327) (by decide +kernel), List.mem_of_getElem? (i := 328) (by decide +kernel)⟩
theorem lw_p7 : lw_okq (⟨"ManorRolls$Heirs", "shareLine", "(JIII)V"⟩, 7) := ⟨⟨by decide +kernel, by decide +kernel⟩, List.mem_of_getElem? (i := 124) (by decide +kernel), List.mem_of_getElem? (i := 339) (by decide +kernel), List.mem_of_getElem? (i := 340) (by decide +kernel)⟩
theorem lw_p8 : lw_okq (⟨"ManorRolls$Heirs", "give", "(III)V"⟩, 7) := ⟨⟨by decide +kernel, by decide +kernel⟩, List.mem_of_getElem? (i := 124) (by decide +kernel), List.mem_of_getElem? (i := 352) (by decide +kernel), List.mem_of_getElem? (i := 353) (by decide +kernel)⟩
theorem lw_p9 : lw_okq (⟨"ManorRolls", "oweMerchet", "(LManorRolls$Person;)V"⟩, 9) := ⟨⟨by decide +kernel, by decide +kernel⟩, List.mem_of_getElem? (i := 13) (by decide +kernel), List.mem_of_getElem? (i := 364) (by decide +kernel), List.mem_of_getElem? (i := 365) (by decide +kernel)⟩
theorem lw_p10 : lw_okq (⟨"ManorRolls", "passOwnStrips", "(ILManorRolls$Person;)I"⟩, 9) := ⟨⟨by decide +kernel, by decide +kernel⟩, List.mem_of_getElem? (i := 13) (by decide +kernel), List.mem_of_getElem? (i := 372) (by decide +kernel), List.mem_of_getElem? (i := 373) (by decide +kernel)⟩
theorem lw_p11 : lw_okq (⟨"ManorRolls", "findSuit", "(I)LManorRolls$Suit;"⟩, 9) := ⟨⟨by decide +kernel, by decide +kernel⟩, List.mem_of_getElem? (i := 13) (by decide +kernel), List.mem_of_getElem? (i := 454) (by decide +kernel), List.mem_of_getElem? (i := 455) (by decide +kernel)⟩
theorem lw_p12 : lw_okq (⟨"ManorRolls", "hear", "(LManorRolls$Suit;)V"⟩, 9) := ⟨⟨by decide +kernel, by decide +kernel⟩, List.mem_of_getElem? (i := 13) (by decide +kernel), List.mem_of_getElem? (i := 462) (by decide +kernel), List.mem_of_getElem? (i := 463) (by decide +kernel)⟩
theorem lw_p13 : lw_okq (⟨"ManorRolls", "defaultIn", "(LManorRolls$Suit;LManorRolls$Person;)V"⟩, 9) := ⟨⟨by decide +kernel, by decide +kernel⟩, List.mem_of_getElem? (i := 13) (by decide +kernel), List.mem_of_getElem? (i := 470) (by decide +kernel), List.mem_of_getElem? (i := 471) (by decide +kernel)⟩
theorem lw_p14 : lw_okq (⟨"ManorRolls$Heirs", "listLine", "(JI)V"⟩, 7) := ⟨⟨by decide +kernel, by decide +kernel⟩, List.mem_of_getElem? (i := 124) (by decide +kernel), List.mem_of_getElem? (i := 498) (by decide +kernel), List.mem_of_getElem? (i := 499) (by decide +kernel)⟩
theorem lw_p15 : lw_okq (⟨"ManorRollsModel", "comes", "(III)V"⟩, 44) := ⟨⟨by decide +kernel, by decide +kernel⟩, List.mem_of_getElem? (i := 522) (by decide +kernel), List.mem_of_getElem? (i := 528) (by decide +kernel), List.mem_of_getElem? (i := 529) (by decide +kernel)⟩
def lw_privs_1 : List (MethodName × Nat) := [(⟨"ManorRolls$People", "addChildTo", "(III)V"⟩, 2), (⟨"ManorRolls", "passWidowsParts", "(I)I"⟩, 9), (⟨"ManorRolls$Land", "find", "(I)LManorRolls$Right;"⟩, 4), (⟨"ManorRolls", "passPicked", "(II)V"⟩, 9), (⟨"ManorRolls$Heirs", "look", "(II)V"⟩, 7), (⟨"ManorRolls$Heirs", "firstLine", "(I)J"⟩, 7), (⟨"ManorRolls$Heirs", "lineBelow", "(IJ)J"⟩, 7), (⟨"ManorRolls$Heirs", "shareLine", "(JIII)V"⟩, 7), (⟨"ManorRolls$Heirs", "give", "(III)V"⟩, 7), (⟨"ManorRolls", "oweMerchet", "(LManorRolls$Person;)V"⟩, 9), (⟨"ManorRolls", "passOwnStrips", "(ILManorRolls$Person;)I"⟩, 9), (⟨"ManorRolls", "findSuit", "(I)LManorRolls$Suit;"⟩, 9), (⟨"ManorRolls", "hear", "(LManorRolls$Suit;)V"⟩, 9), (⟨"ManorRolls", "defaultIn", "(LManorRolls$Suit;LManorRolls$Person;)V"⟩, 9), (⟨"ManorRolls$Heirs", "listLine", "(JI)V"⟩, 7), (⟨"ManorRollsModel", "comes", "(III)V"⟩, 44)]
theorem lw_r1 : ∀ q ∈ lw_privs_1, lw_okq q := List.forall_mem_cons.mpr ⟨lw_p0, List.forall_mem_cons.mpr ⟨lw_p1, List.forall_mem_cons.mpr ⟨lw_p2, List.forall_mem_cons.mpr ⟨lw_p3, List.forall_mem_cons.mpr ⟨lw_p4, List.forall_mem_cons.mpr ⟨lw_p5, List.forall_mem_cons.mpr ⟨lw_p6, List.forall_mem_cons.mpr ⟨lw_p7, List.forall_mem_cons.mpr ⟨lw_p8, List.forall_mem_cons.mpr ⟨lw_p9, List.forall_mem_cons.mpr ⟨lw_p10, List.forall_mem_cons.mpr ⟨lw_p11, List.forall_mem_cons.mpr ⟨lw_p12, List.forall_mem_cons.mpr ⟨lw_p13, List.forall_mem_cons.mpr ⟨lw_p14, List.forall_mem_cons.mpr ⟨lw_p15, fun _ h => absurd h List.not_mem_nil⟩⟩⟩⟩⟩⟩⟩⟩⟩⟩⟩⟩⟩⟩⟩⟩
theorem lw_p16 : lw_okq (⟨"ManorRollsModel", "isStrip", "(III)Z"⟩, 44) := ⟨⟨by decide +kernel, by decide +kernel⟩, List.mem_of_getElem? (i := 522) (by decide +kernel), List.mem_of_getElem? (i := 673) (by decide +kernel), List.mem_of_getElem? (i := 674) (by decide +kernel)⟩
theorem lw_p17 : lw_okq (⟨"ManorRollsModel", "rightOf", "(III)I"⟩, 44) := ⟨⟨by decide +kernel, by decide +kernel⟩, List.mem_of_getElem? (i := 522) (by decide +kernel), List.mem_of_getElem? (i := 680) (by decide +kernel), List.mem_of_getElem? (i := 681) (by decide +kernel)⟩
theorem lw_p18 : lw_okq (⟨"ManorRollsModel", "isPerson", "(I)Z"⟩, 44) := ⟨⟨by decide +kernel, by decide +kernel⟩, List.mem_of_getElem? (i := 522) (by decide +kernel), List.mem_of_getElem? (i := 698) (by decide +kernel), List.mem_of_getElem? (i := 699) (by decide +kernel)⟩
theorem lw_p19 : lw_okq (⟨"ManorRollsModel", "lines", "()V"⟩, 44) := ⟨⟨by decide +kernel, by decide +kernel⟩, List.mem_of_getElem? (i := 522) (by decide +kernel), List.mem_of_getElem? (i := 706) (by decide +kernel), List.mem_of_getElem? (i := 707) (by decide +kernel)⟩
theorem lw_p20 : lw_okq (⟨"ManorRollsModel", "isChild", "(II)Z"⟩, 44) := ⟨⟨by decide +kernel, by decide +kernel⟩, List.mem_of_getElem? (i := 522) (by decide +kernel), List.mem_of_getElem? (i := 710) (by decide +kernel), List.mem_of_getElem? (i := 711) (by decide +kernel)⟩
theorem lw_p21 : lw_okq (⟨"ManorRollsModel", "first", "(I)I"⟩, 44) := ⟨⟨by decide +kernel, by decide +kernel⟩, List.mem_of_getElem? (i := 522) (by decide +kernel), List.mem_of_getElem? (i := 714) (by decide +kernel), List.mem_of_getElem? (i := 715) (by decide +kernel)⟩
theorem lw_p22 : lw_okq (⟨"ManorRollsModel", "group", "(II)I"⟩, 44) := ⟨⟨by decide +kernel, by decide +kernel⟩, List.mem_of_getElem? (i := 522) (by decide +kernel), List.mem_of_getElem? (i := 718) (by decide +kernel), List.mem_of_getElem? (i := 719) (by decide +kernel)⟩
theorem lw_p23 : lw_okq (⟨"ManorRollsModel", "listed", "(II)I"⟩, 44) := ⟨⟨by decide +kernel, by decide +kernel⟩, List.mem_of_getElem? (i := 522) (by decide +kernel), List.mem_of_getElem? (i := 722) (by decide +kernel), List.mem_of_getElem? (i := 723) (by decide +kernel)⟩
theorem lw_p24 : lw_okq (⟨"ManorRollsModel", "lives", "(I)Z"⟩, 44) := ⟨⟨by decide +kernel, by decide +kernel⟩, List.mem_of_getElem? (i := 522) (by decide +kernel), List.mem_of_getElem? (i := 730) (by decide +kernel), List.mem_of_getElem? (i := 731) (by decide +kernel)⟩
theorem lw_p25 : lw_okq (⟨"ManorRollsModel", "widowPasses", "(II)I"⟩, 44) := ⟨⟨by decide +kernel, by decide +kernel⟩, List.mem_of_getElem? (i := 522) (by decide +kernel), List.mem_of_getElem? (i := 734) (by decide +kernel), List.mem_of_getElem? (i := 735) (by decide +kernel)⟩
theorem lw_p26 : lw_okq (⟨"ManorRollsModel", "passes", "(III)V"⟩, 44) := ⟨⟨by decide +kernel, by decide +kernel⟩, List.mem_of_getElem? (i := 522) (by decide +kernel), List.mem_of_getElem? (i := 738) (by decide +kernel), List.mem_of_getElem? (i := 739) (by decide +kernel)⟩
theorem lw_p27 : lw_okq (⟨"ManorRollsModel", "shares", "(IIII)V"⟩, 44) := ⟨⟨by decide +kernel, by decide +kernel⟩, List.mem_of_getElem? (i := 522) (by decide +kernel), List.mem_of_getElem? (i := 742) (by decide +kernel), List.mem_of_getElem? (i := 743) (by decide +kernel)⟩
theorem lw_p28 : lw_okq (⟨"ManorRollsModel", "own", "(II)I"⟩, 44) := ⟨⟨by decide +kernel, by decide +kernel⟩, List.mem_of_getElem? (i := 522) (by decide +kernel), List.mem_of_getElem? (i := 750) (by decide +kernel), List.mem_of_getElem? (i := 751) (by decide +kernel)⟩
theorem lw_p29 : lw_okq (⟨"ManorRollsModel", "moves", "(IIIII)Z"⟩, 44) := ⟨⟨by decide +kernel, by decide +kernel⟩, List.mem_of_getElem? (i := 522) (by decide +kernel), List.mem_of_getElem? (i := 758) (by decide +kernel), List.mem_of_getElem? (i := 759) (by decide +kernel)⟩
theorem lw_p30 : lw_okq (⟨"ManorRollsModel", "held", "(IZ)I"⟩, 44) := ⟨⟨by decide +kernel, by decide +kernel⟩, List.mem_of_getElem? (i := 522) (by decide +kernel), List.mem_of_getElem? (i := 771) (by decide +kernel), List.mem_of_getElem? (i := 772) (by decide +kernel)⟩
theorem lw_p31 : lw_okq (⟨"ManorRollsModel", "falls", "(I)V"⟩, 44) := ⟨⟨by decide +kernel, by decide +kernel⟩, List.mem_of_getElem? (i := 522) (by decide +kernel), List.mem_of_getElem? (i := 799) (by decide +kernel), List.mem_of_getElem? (i := 800) (by decide +kernel)⟩
def lw_privs_2 : List (MethodName × Nat) := [(⟨"ManorRollsModel", "isStrip", "(III)Z"⟩, 44), (⟨"ManorRollsModel", "rightOf", "(III)I"⟩, 44), (⟨"ManorRollsModel", "isPerson", "(I)Z"⟩, 44), (⟨"ManorRollsModel", "lines", "()V"⟩, 44), (⟨"ManorRollsModel", "isChild", "(II)Z"⟩, 44), (⟨"ManorRollsModel", "first", "(I)I"⟩, 44), (⟨"ManorRollsModel", "group", "(II)I"⟩, 44), (⟨"ManorRollsModel", "listed", "(II)I"⟩, 44), (⟨"ManorRollsModel", "lives", "(I)Z"⟩, 44), (⟨"ManorRollsModel", "widowPasses", "(II)I"⟩, 44), (⟨"ManorRollsModel", "passes", "(III)V"⟩, 44), (⟨"ManorRollsModel", "shares", "(IIII)V"⟩, 44), (⟨"ManorRollsModel", "own", "(II)I"⟩, 44), (⟨"ManorRollsModel", "moves", "(IIIII)Z"⟩, 44), (⟨"ManorRollsModel", "held", "(IZ)I"⟩, 44), (⟨"ManorRollsModel", "falls", "(I)V"⟩, 44)]
theorem lw_r2 : ∀ q ∈ lw_privs_2, lw_okq q := List.forall_mem_cons.mpr ⟨lw_p16, List.forall_mem_cons.mpr ⟨lw_p17, List.forall_mem_cons.mpr ⟨lw_p18, List.forall_mem_cons.mpr ⟨lw_p19, List.forall_mem_cons.mpr ⟨lw_p20, List.forall_mem_cons.mpr ⟨lw_p21, List.forall_mem_cons.mpr ⟨lw_p22, List.forall_mem_cons.mpr ⟨lw_p23, List.forall_mem_cons.mpr ⟨lw_p24, List.forall_mem_cons.mpr ⟨lw_p25, List.forall_mem_cons.mpr ⟨lw_p26, List.forall_mem_cons.mpr ⟨lw_p27, List.forall_mem_cons.mpr ⟨lw_p28, List.forall_mem_cons.mpr ⟨lw_p29, List.forall_mem_cons.mpr ⟨lw_p30, List.forall_mem_cons.mpr ⟨lw_p31, fun _ h => absurd h List.not_mem_nil⟩⟩⟩⟩⟩⟩⟩⟩⟩⟩⟩⟩⟩⟩⟩⟩
def lw_privs : List (MethodName × Nat) := lw_privs_1 ++ (lw_privs_2)
def lw_tbl : List Cond := k2_sels lw_privs ++ tables_1
theorem lw_privs_ok : ∀ q ∈ lw_privs, lw_okq q := by
  show ∀ q ∈ lw_privs_1 ++ (lw_privs_2), lw_okq q
  exact List.forall_mem_append.mpr ⟨lw_r1, lw_r2⟩
end
section
/-! ===== BEGIN words of one list among another's, by their places ===== -/
theorem goodIn_r {big : List Cond} (ws : List Cond) (ps : List Nat) (hp : ws = ps.filterMap (fun i => big[i]?)) (h : ws.all goodWord = true) : GoodIn big ws := by
  intro w hw
  have h1 := List.all_eq_true.mp h w hw
  rw [hp] at hw
  obtain ⟨i, -, hi⟩ := List.mem_filterMap.mp hw
  have hm : w ∈ big := by first | exact List.mem_of_getElem? hi | exact List.getElem?_mem hi
  exact ⟨hm, good_of_word h1⟩
theorem goodIn_app {big a b : List Cond} (ha : GoodIn big a) (hb : GoodIn big b) : GoodIn big (a ++ b) := fun w h => (List.mem_append.mp h).elim (ha w) (hb w)
theorem goodIn_ca {big a b : List Cond} {c : Cond} (ha : GoodIn big (c :: a)) (hb : GoodIn big b) : GoodIn big (c :: (a ++ b)) := fun w h => (List.mem_cons.mp h).elim (fun e => ha w (List.mem_cons.mpr (Or.inl e))) (fun h => (List.mem_append.mp h).elim (fun h => ha w (List.mem_cons.mpr (Or.inr h))) (hb w))
theorem goodIn_sub {big ws : List Cond} (hm : ∀ w ∈ ws, w ∈ big) (h : ws.all goodWord = true) : GoodIn big ws := fun w hw => ⟨hm w hw, good_of_word (List.all_eq_true.mp h w hw)⟩
/-! ===== END ===== -/

/-! ===== BEGIN printed: names, fields, word lists, decode rows ===== -/
def RX0 : String := "ManorRolls$Custom"
def TX0 : u_T := fun k => match k with
  | 0 => ("ManorRolls$Custom", "order", "I", true)
  | 1 => ("ManorRolls$Custom", "widow", "I", true)
  | 2 => ("ManorRolls$Custom", "works", "I", true)
  | 3 => ("ManorRolls$Custom", "essoins", "I", true)
  | 4 => ("ManorRolls$Custom", "heriot", "I", true)
  | 5 => ("ManorRolls$Custom", "entry", "I", true)
  | _ => ("ManorRolls$Custom", "merchet", "I", true)
def tyX0 : Nat → FieldType := fun k => match k with
  | 0 => .int
  | 1 => .int
  | 2 => .int
  | 3 => .int
  | 4 => .int
  | 5 => .int
  | _ => .int
abbrev wsX00 : List Cond := u_ws RX0 TX0 7
theorem nmX0 : ∀ a, a < 7 → ∀ b, b < 7 → a ≠ b → (TX0 a).2.1 ≠ (TX0 b).2.1 := by decide +kernel
theorem tyX0_ok : ∀ k, k < 7 → parseFieldDescriptor (TX0 k).2.2.1 = some (tyX0 k) := by decide +kernel
abbrev cX0_init : ByteArray := prog_2_method_1_code
def yX0_init : MethodName := ⟨RX0, "<init>", "(II)V"⟩
abbrev cX0_canBe : ByteArray := prog_2_method_2_code
def yX0_canBe : MethodName := ⟨RX0, "canBe", "(II)Z"⟩
def RX1 : String := "ManorRolls$Heirs"
def TX1 : u_T := fun k => match k with
  | 0 => ("ManorRolls$Heirs", "list", "[I", true)
  | 1 => ("ManorRolls$Heirs", "listed", "I", false)
  | 2 => ("ManorRolls$Heirs", "takers", "[I", true)
  | 3 => ("ManorRolls$Heirs", "people", "LManorRolls$People;", true)
  | 4 => ("ManorRolls$Heirs", "order", "I", false)
  | 5 => ("ManorRolls$Heirs", "living", "J", false)
  | _ => ("ManorRolls$Heirs", "lasting", "J", false)
def tyX1 : Nat → FieldType := fun k => match k with
  | 0 => .array .int
  | 1 => .int
  | 2 => .array .int
  | 3 => .object "ManorRolls$People"
  | 4 => .int
  | 5 => .long
  | _ => .long
abbrev wsX10 : List Cond := u_ws RX1 TX1 7
theorem nmX1 : ∀ a, a < 7 → ∀ b, b < 7 → a ≠ b → (TX1 a).2.1 ≠ (TX1 b).2.1 := by decide +kernel
theorem tyX1_ok : ∀ k, k < 7 → parseFieldDescriptor (TX1 k).2.2.1 = some (tyX1 k) := by decide +kernel
abbrev cX1_init : ByteArray := prog_3_method_1_code
def yX1_init : MethodName := ⟨RX1, "<init>", "(LManorRolls$People;)V"⟩
abbrev cX1_list : ByteArray := prog_3_method_2_code
def yX1_list : MethodName := ⟨RX1, "list", "(II)V"⟩
abbrev cX1_share : ByteArray := prog_3_method_3_code
def yX1_share : MethodName := ⟨RX1, "share", "(III)V"⟩
abbrev cX1_look : ByteArray := prog_3_method_4_code
def yX1_look : MethodName := ⟨RX1, "look", "(II)V"⟩
abbrev cX1_firstLine : ByteArray := prog_3_method_5_code
def yX1_firstLine : MethodName := ⟨RX1, "firstLine", "(I)J"⟩
abbrev cX1_lineBelow : ByteArray := prog_3_method_6_code
def yX1_lineBelow : MethodName := ⟨RX1, "lineBelow", "(IJ)J"⟩
abbrev cX1_youngestOf : ByteArray := prog_3_method_7_code
def yX1_youngestOf : MethodName := ⟨RX1, "youngestOf", "(J)J"⟩
abbrev cX1_isIn : ByteArray := prog_3_method_8_code
def yX1_isIn : MethodName := ⟨RX1, "isIn", "(JI)Z"⟩
abbrev cX1_listLine : ByteArray := prog_3_method_9_code
def yX1_listLine : MethodName := ⟨RX1, "listLine", "(JI)V"⟩
abbrev cX1_shareLine : ByteArray := prog_3_method_10_code
def yX1_shareLine : MethodName := ⟨RX1, "shareLine", "(JIII)V"⟩
abbrev cX1_give : ByteArray := prog_3_method_11_code
def yX1_give : MethodName := ⟨RX1, "give", "(III)V"⟩
def RX2 : String := "ManorRolls$Land"
def TX2 : u_T := fun k => match k with
  | 0 => ("ManorRolls$Land", "newest", "[LManorRolls$Right;", true)
  | 1 => ("ManorRolls$Land", "rights", "I", false)
  | 2 => ("ManorRolls$Land", "picked", "[I", true)
  | _ => ("ManorRolls$Land", "pickedCount", "I", false)
def tyX2 : Nat → FieldType := fun k => match k with
  | 0 => .array (.object "ManorRolls$Right")
  | 1 => .int
  | 2 => .array .int
  | _ => .int
abbrev wsX20 : List Cond := u_ws RX2 TX2 4
theorem nmX2 : ∀ a, a < 4 → ∀ b, b < 4 → a ≠ b → (TX2 a).2.1 ≠ (TX2 b).2.1 := by decide +kernel
theorem tyX2_ok : ∀ k, k < 4 → parseFieldDescriptor (TX2 k).2.2.1 = some (tyX2 k) := by decide +kernel
abbrev cX2_init : ByteArray := prog_4_method_1_code
def yX2_init : MethodName := ⟨RX2, "<init>", "()V"⟩
abbrev cX2_pick : ByteArray := prog_4_method_2_code
def yX2_pick : MethodName := ⟨RX2, "pick", "(IIZ)V"⟩
abbrev cX2_bringPicked : ByteArray := prog_4_method_3_code
def yX2_bringPicked : MethodName := ⟨RX2, "bringPicked", "(IIIII)V"⟩
abbrev cX2_giverOf : ByteArray := prog_4_method_4_code
def yX2_giverOf : MethodName := ⟨RX2, "giverOf", "(I)I"⟩
abbrev cX2_onDay : ByteArray := prog_4_method_5_code
def yX2_onDay : MethodName := ⟨RX2, "onDay", "(II)LManorRolls$Right;"⟩
abbrev cX2_stepsAhead : ByteArray := prog_4_method_6_code
def yX2_stepsAhead : MethodName := ⟨RX2, "stepsAhead", "(LManorRolls$Right;I)LManorRolls$Right;"⟩
abbrev cX2_heldBy : ByteArray := prog_4_method_7_code
def yX2_heldBy : MethodName := ⟨RX2, "heldBy", "(I)I"⟩
abbrev cX2_partsOf : ByteArray := prog_4_method_8_code
def yX2_partsOf : MethodName := ⟨RX2, "partsOf", "(I)I"⟩
abbrev cX2_find : ByteArray := prog_4_method_9_code
def yX2_find : MethodName := ⟨RX2, "find", "(I)LManorRolls$Right;"⟩
def RX3 : String := "ManorRolls$People"
def TX3 : u_T := fun k => match k with
  | 0 => ("ManorRolls$People", "all", "[LManorRolls$Person;", true)
  | _ => ("ManorRolls$People", "came", "I", false)
def tyX3 : Nat → FieldType := fun k => match k with
  | 0 => .array (.object "ManorRolls$Person")
  | _ => .int
abbrev wsX30 : List Cond := u_ws RX3 TX3 2
theorem nmX3 : ∀ a, a < 2 → ∀ b, b < 2 → a ≠ b → (TX3 a).2.1 ≠ (TX3 b).2.1 := by decide +kernel
theorem tyX3_ok : ∀ k, k < 2 → parseFieldDescriptor (TX3 k).2.2.1 = some (tyX3 k) := by decide +kernel
abbrev cX3_init : ByteArray := prog_5_method_1_code
def yX3_init : MethodName := ⟨RX3, "<init>", "()V"⟩
abbrev cX3_find : ByteArray := prog_5_method_2_code
def yX3_find : MethodName := ⟨RX3, "find", "(I)LManorRolls$Person;"⟩
abbrev cX3_findAlive : ByteArray := prog_5_method_3_code
def yX3_findAlive : MethodName := ⟨RX3, "findAlive", "(I)LManorRolls$Person;"⟩
abbrev cX3_mayBeParent : ByteArray := prog_5_method_4_code
def yX3_mayBeParent : MethodName := ⟨RX3, "mayBeParent", "(II)Z"⟩
abbrev cX3_add : ByteArray := prog_5_method_5_code
def yX3_add : MethodName := ⟨RX3, "add", "(LManorRolls$Person;)I"⟩
abbrev cX3_addChildTo : ByteArray := prog_5_method_6_code
def yX3_addChildTo : MethodName := ⟨RX3, "addChildTo", "(III)V"⟩
abbrev cX3_owe : ByteArray := prog_5_method_7_code
def yX3_owe : MethodName := ⟨RX3, "owe", "(II)V"⟩
abbrev cX3_allOwed : ByteArray := prog_5_method_8_code
def yX3_allOwed : MethodName := ⟨RX3, "allOwed", "()I"⟩
def RX4 : String := "ManorRolls$Person"
def TX4 : u_T := fun k => match k with
  | 0 => ("ManorRolls$Person", "sex", "I", true)
  | 1 => ("ManorRolls$Person", "father", "I", true)
  | 2 => ("ManorRolls$Person", "mother", "I", true)
  | 3 => ("ManorRolls$Person", "born", "I", true)
  | 4 => ("ManorRolls$Person", "alive", "Z", false)
  | 5 => ("ManorRolls$Person", "marriedTo", "I", false)
  | 6 => ("ManorRolls$Person", "owed", "I", false)
  | 7 => ("ManorRolls$Person", "worksDue", "I", false)
  | 8 => ("ManorRolls$Person", "worksDone", "I", false)
  | 9 => ("ManorRolls$Person", "worksSold", "I", false)
  | 10 => ("ManorRolls$Person", "worksExcused", "I", false)
  | 11 => ("ManorRolls$Person", "weeksSick", "I", false)
  | 12 => ("ManorRolls$Person", "sons", "J", false)
  | _ => ("ManorRolls$Person", "daughters", "J", false)
def tyX4 : Nat → FieldType := fun k => match k with
  | 0 => .int
  | 1 => .int
  | 2 => .int
  | 3 => .int
  | 4 => .boolean
  | 5 => .int
  | 6 => .int
  | 7 => .int
  | 8 => .int
  | 9 => .int
  | 10 => .int
  | 11 => .int
  | 12 => .long
  | _ => .long
abbrev wsX40 : List Cond := u_ws RX4 TX4 14
theorem nmX4 : ∀ a, a < 14 → ∀ b, b < 14 → a ≠ b → (TX4 a).2.1 ≠ (TX4 b).2.1 := by decide +kernel
theorem tyX4_ok : ∀ k, k < 14 → parseFieldDescriptor (TX4 k).2.2.1 = some (tyX4 k) := by decide +kernel
abbrev cX4_init : ByteArray := prog_6_method_1_code
def yX4_init : MethodName := ⟨RX4, "<init>", "(IIII)V"⟩
abbrev cX4_addChild : ByteArray := prog_6_method_2_code
def yX4_addChild : MethodName := ⟨RX4, "addChild", "(II)V"⟩
abbrev cX4_spendWeeks : ByteArray := prog_6_method_3_code
def yX4_spendWeeks : MethodName := ⟨RX4, "spendWeeks", "(II)V"⟩
def RX5 : String := "ManorRolls$Right"
def TX5 : u_T := fun k => match k with
  | 0 => ("ManorRolls$Right", "holder", "I", true)
  | 1 => ("ManorRolls$Right", "how", "I", true)
  | 2 => ("ManorRolls$Right", "day", "I", true)
  | _ => ("ManorRolls$Right", "ahead", "LManorRolls$Right;", true)
def tyX5 : Nat → FieldType := fun k => match k with
  | 0 => .int
  | 1 => .int
  | 2 => .int
  | _ => .object "ManorRolls$Right"
abbrev wsX50 : List Cond := u_ws RX5 TX5 4
theorem nmX5 : ∀ a, a < 4 → ∀ b, b < 4 → a ≠ b → (TX5 a).2.1 ≠ (TX5 b).2.1 := by decide +kernel
theorem tyX5_ok : ∀ k, k < 4 → parseFieldDescriptor (TX5 k).2.2.1 = some (tyX5 k) := by decide +kernel
abbrev cX5_init : ByteArray := prog_7_method_1_code
def yX5_init : MethodName := ⟨RX5, "<init>", "(IIILManorRolls$Right;)V"⟩
def RX6 : String := "ManorRolls$Suit"
def TX6 : u_T := fun k => match k with
  | 0 => ("ManorRolls$Suit", "one", "I", true)
  | 1 => ("ManorRolls$Suit", "against", "I", true)
  | 2 => ("ManorRolls$Suit", "pledge", "I", true)
  | 3 => ("ManorRolls$Suit", "state", "I", false)
  | 4 => ("ManorRolls$Suit", "next", "I", false)
  | 5 => ("ManorRolls$Suit", "essoins", "I", false)
  | _ => ("ManorRolls$Suit", "defaults", "I", false)
def tyX6 : Nat → FieldType := fun k => match k with
  | 0 => .int
  | 1 => .int
  | 2 => .int
  | 3 => .int
  | 4 => .int
  | 5 => .int
  | _ => .int
abbrev wsX60 : List Cond := u_ws RX6 TX6 7
theorem nmX6 : ∀ a, a < 7 → ∀ b, b < 7 → a ≠ b → (TX6 a).2.1 ≠ (TX6 b).2.1 := by decide +kernel
theorem tyX6_ok : ∀ k, k < 7 → parseFieldDescriptor (TX6 k).2.2.1 = some (tyX6 k) := by decide +kernel
abbrev cX6_init : ByteArray := prog_8_method_1_code
def yX6_init : MethodName := ⟨RX6, "<init>", "(III)V"⟩
def RX7 : String := "ManorRolls"
def TX7 : u_T := fun k => match k with
  | 0 => ("ManorRolls", "now", "I", false)
  | 1 => ("ManorRolls", "inForce", "LManorRolls$Custom;", false)
  | 2 => ("ManorRolls", "customsFound", "I", false)
  | 3 => ("ManorRolls", "people", "LManorRolls$People;", true)
  | 4 => ("ManorRolls", "land", "LManorRolls$Land;", true)
  | 5 => ("ManorRolls", "heirs", "LManorRolls$Heirs;", true)
  | 6 => ("ManorRolls", "suits", "[LManorRolls$Suit;", true)
  | 7 => ("ManorRolls", "suitsBrought", "I", false)
  | _ => ("ManorRolls", "coinsPaid", "I", false)
def tyX7 : Nat → FieldType := fun k => match k with
  | 0 => .int
  | 1 => .object "ManorRolls$Custom"
  | 2 => .int
  | 3 => .object "ManorRolls$People"
  | 4 => .object "ManorRolls$Land"
  | 5 => .object "ManorRolls$Heirs"
  | 6 => .array (.object "ManorRolls$Suit")
  | 7 => .int
  | _ => .int
abbrev wsX70 : List Cond := u_ws RX7 TX7 9
theorem nmX7 : ∀ a, a < 9 → ∀ b, b < 9 → a ≠ b → (TX7 a).2.1 ≠ (TX7 b).2.1 := by decide +kernel
theorem tyX7_ok : ∀ k, k < 9 → parseFieldDescriptor (TX7 k).2.2.1 = some (tyX7 k) := by decide +kernel
abbrev cX7_init : ByteArray := prog_1_method_1_code
def yX7_init : MethodName := ⟨RX7, "<init>", "()V"⟩
abbrev cX7_custom : ByteArray := prog_1_method_2_code
def yX7_custom : MethodName := ⟨RX7, "custom", "(II)I"⟩
abbrev cX7_person : ByteArray := prog_1_method_3_code
def yX7_person : MethodName := ⟨RX7, "person", "(III)I"⟩
abbrev cX7_marry : ByteArray := prog_1_method_4_code
def yX7_marry : MethodName := ⟨RX7, "marry", "(II)Z"⟩
abbrev cX7_die : ByteArray := prog_1_method_5_code
def yX7_die : MethodName := ⟨RX7, "die", "(I)I"⟩
abbrev cX7_grant : ByteArray := prog_1_method_6_code
def yX7_grant : MethodName := ⟨RX7, "grant", "(III)Z"⟩
abbrev cX7_rod : ByteArray := prog_1_method_7_code
def yX7_rod : MethodName := ⟨RX7, "rod", "(IIII)Z"⟩
abbrev cX7_weeks : ByteArray := prog_1_method_8_code
def yX7_weeks : MethodName := ⟨RX7, "weeks", "(I)I"⟩
abbrev cX7_sick : ByteArray := prog_1_method_9_code
def yX7_sick : MethodName := ⟨RX7, "sick", "(II)Z"⟩
abbrev cX7_works : ByteArray := prog_1_method_10_code
def yX7_works : MethodName := ⟨RX7, "works", "(IIZ)I"⟩
abbrev cX7_pay : ByteArray := prog_1_method_11_code
def yX7_pay : MethodName := ⟨RX7, "pay", "(II)I"⟩
abbrev cX7_suit : ByteArray := prog_1_method_12_code
def yX7_suit : MethodName := ⟨RX7, "suit", "(III)I"⟩
abbrev cX7_appear : ByteArray := prog_1_method_13_code
def yX7_appear : MethodName := ⟨RX7, "appear", "(II)Z"⟩
abbrev cX7_court : ByteArray := prog_1_method_14_code
def yX7_court : MethodName := ⟨RX7, "court", "()I"⟩
abbrev cX7_holder : ByteArray := prog_1_method_15_code
def yX7_holder : MethodName := ⟨RX7, "holder", "(III)I"⟩
abbrev cX7_right : ByteArray := prog_1_method_16_code
def yX7_right : MethodName := ⟨RX7, "right", "(IIIII)I"⟩
abbrev cX7_heir : ByteArray := prog_1_method_17_code
def yX7_heir : MethodName := ⟨RX7, "heir", "(II)I"⟩
abbrev cX7_told : ByteArray := prog_1_method_18_code
def yX7_told : MethodName := ⟨RX7, "told", "(II)I"⟩
abbrev cX7_suited : ByteArray := prog_1_method_19_code
def yX7_suited : MethodName := ⟨RX7, "suited", "(II)I"⟩
abbrev cX7_count : ByteArray := prog_1_method_20_code
def yX7_count : MethodName := ⟨RX7, "count", "(I)I"⟩
abbrev cX7_isHolding : ByteArray := prog_1_method_21_code
def yX7_isHolding : MethodName := ⟨RX7, "isHolding", "(I)Z"⟩
abbrev cX7_findSuit : ByteArray := prog_1_method_22_code
def yX7_findSuit : MethodName := ⟨RX7, "findSuit", "(I)LManorRolls$Suit;"⟩
abbrev cX7_oweMerchet : ByteArray := prog_1_method_23_code
def yX7_oweMerchet : MethodName := ⟨RX7, "oweMerchet", "(LManorRolls$Person;)V"⟩
abbrev cX7_passOwnStrips : ByteArray := prog_1_method_24_code
def yX7_passOwnStrips : MethodName := ⟨RX7, "passOwnStrips", "(ILManorRolls$Person;)I"⟩
abbrev cX7_passWidowsParts : ByteArray := prog_1_method_25_code
def yX7_passWidowsParts : MethodName := ⟨RX7, "passWidowsParts", "(I)I"⟩
abbrev cX7_passPicked : ByteArray := prog_1_method_26_code
def yX7_passPicked : MethodName := ⟨RX7, "passPicked", "(II)V"⟩
abbrev cX7_hear : ByteArray := prog_1_method_27_code
def yX7_hear : MethodName := ⟨RX7, "hear", "(LManorRolls$Suit;)V"⟩
abbrev cX7_defaultIn : ByteArray := prog_1_method_28_code
def yX7_defaultIn : MethodName := ⟨RX7, "defaultIn", "(LManorRolls$Suit;LManorRolls$Person;)V"⟩
def RX8 : String := "ManorRollsModel"
def TX8 : u_T := fun k => match k with
  | 0 => ("ManorRollsModel", "order", "I", false)
  | 1 => ("ManorRollsModel", "widow", "I", false)
  | 2 => ("ManorRollsModel", "heriot", "I", false)
  | 3 => ("ManorRollsModel", "entry", "I", false)
  | 4 => ("ManorRollsModel", "merchet", "I", false)
  | 5 => ("ManorRollsModel", "works", "I", false)
  | 6 => ("ManorRollsModel", "essoins", "I", false)
  | 7 => ("ManorRollsModel", "customs", "I", false)
  | 8 => ("ManorRollsModel", "now", "I", false)
  | 9 => ("ManorRollsModel", "sex", "[I", true)
  | 10 => ("ManorRollsModel", "father", "[I", true)
  | 11 => ("ManorRollsModel", "mother", "[I", true)
  | 12 => ("ManorRollsModel", "spouse", "[I", true)
  | 13 => ("ManorRollsModel", "born", "[I", true)
  | 14 => ("ManorRollsModel", "owed", "[I", true)
  | 15 => ("ManorRollsModel", "due", "[I", true)
  | 16 => ("ManorRollsModel", "done", "[I", true)
  | 17 => ("ManorRollsModel", "sold", "[I", true)
  | 18 => ("ManorRollsModel", "excused", "[I", true)
  | 19 => ("ManorRollsModel", "sick", "[I", true)
  | 20 => ("ManorRollsModel", "isAlive", "[Z", true)
  | 21 => ("ManorRollsModel", "isLine", "[Z", true)
  | 22 => ("ManorRollsModel", "many", "I", false)
  | 23 => ("ManorRollsModel", "paid", "I", false)
  | 24 => ("ManorRollsModel", "rStrip", "[I", false)
  | 25 => ("ManorRollsModel", "rWho", "[I", false)
  | 26 => ("ManorRollsModel", "rHow", "[I", false)
  | 27 => ("ManorRollsModel", "rDay", "[I", false)
  | 28 => ("ManorRollsModel", "rights", "I", false)
  | 29 => ("ManorRollsModel", "holds", "[I", true)
  | 30 => ("ManorRollsModel", "widowOf", "[I", true)
  | 31 => ("ManorRollsModel", "one", "[I", true)
  | 32 => ("ManorRollsModel", "against", "[I", true)
  | 33 => ("ManorRollsModel", "pledge", "[I", true)
  | 34 => ("ManorRollsModel", "will", "[I", true)
  | 35 => ("ManorRollsModel", "state", "[I", true)
  | 36 => ("ManorRollsModel", "essoined", "[I", true)
  | 37 => ("ManorRollsModel", "defaults", "[I", true)
  | 38 => ("ManorRollsModel", "suits", "I", false)
  | 39 => ("ManorRollsModel", "row", "[I", true)
  | 40 => ("ManorRollsModel", "used", "I", false)
  | 41 => ("ManorRollsModel", "seen", "I", false)
  | 42 => ("ManorRollsModel", "wanted", "I", false)
  | _ => ("ManorRollsModel", "heap", "[I", true)
def tyX8 : Nat → FieldType := fun k => match k with
  | 0 => .int
  | 1 => .int
  | 2 => .int
  | 3 => .int
  | 4 => .int
  | 5 => .int
  | 6 => .int
  | 7 => .int
  | 8 => .int
  | 9 => .array .int
  | 10 => .array .int
  | 11 => .array .int
  | 12 => .array .int
  | 13 => .array .int
  | 14 => .array .int
  | 15 => .array .int
  | 16 => .array .int
  | 17 => .array .int
  | 18 => .array .int
  | 19 => .array .int
  | 20 => .array .boolean
  | 21 => .array .boolean
  | 22 => .int
  | 23 => .int
  | 24 => .array .int
  | 25 => .array .int
  | 26 => .array .int
  | 27 => .array .int
  | 28 => .int
  | 29 => .array .int
  | 30 => .array .int
  | 31 => .array .int
  | 32 => .array .int
  | 33 => .array .int
  | 34 => .array .int
  | 35 => .array .int
  | 36 => .array .int
  | 37 => .array .int
  | 38 => .int
  | 39 => .array .int
  | 40 => .int
  | 41 => .int
  | 42 => .int
  | _ => .array .int
abbrev wsX80 : List Cond := u_ws RX8 TX8 44
theorem nmX8 : ∀ a, a < 44 → ∀ b, b < 44 → a ≠ b → (TX8 a).2.1 ≠ (TX8 b).2.1 := by decide +kernel
theorem tyX8_ok : ∀ k, k < 44 → parseFieldDescriptor (TX8 k).2.2.1 = some (tyX8 k) := by decide +kernel
abbrev cX8_init : ByteArray := prog_10_method_1_code
def yX8_init : MethodName := ⟨RX8, "<init>", "()V"⟩
abbrev cX8_in : ByteArray := prog_10_method_2_code
def yX8_in : MethodName := ⟨RX8, "in", "(III)Z"⟩
abbrev cX8_isPerson : ByteArray := prog_10_method_3_code
def yX8_isPerson : MethodName := ⟨RX8, "isPerson", "(I)Z"⟩
abbrev cX8_lives : ByteArray := prog_10_method_4_code
def yX8_lives : MethodName := ⟨RX8, "lives", "(I)Z"⟩
abbrev cX8_longer : ByteArray := prog_10_method_5_code
def yX8_longer : MethodName := ⟨RX8, "longer", "([I)[I"⟩
abbrev cX8_comes : ByteArray := prog_10_method_6_code
def yX8_comes : MethodName := ⟨RX8, "comes", "(III)V"⟩
abbrev cX8_rightOf : ByteArray := prog_10_method_7_code
def yX8_rightOf : MethodName := ⟨RX8, "rightOf", "(III)I"⟩
abbrev cX8_isStrip : ByteArray := prog_10_method_8_code
def yX8_isStrip : MethodName := ⟨RX8, "isStrip", "(III)Z"⟩
abbrev cX8_holder : ByteArray := prog_10_method_9_code
def yX8_holder : MethodName := ⟨RX8, "holder", "(III)I"⟩
abbrev cX8_right : ByteArray := prog_10_method_10_code
def yX8_right : MethodName := ⟨RX8, "right", "(IIIII)I"⟩
abbrev cX8_custom : ByteArray := prog_10_method_11_code
def yX8_custom : MethodName := ⟨RX8, "custom", "(II)I"⟩
abbrev cX8_person : ByteArray := prog_10_method_12_code
def yX8_person : MethodName := ⟨RX8, "person", "(III)I"⟩
abbrev cX8_lines : ByteArray := prog_10_method_13_code
def yX8_lines : MethodName := ⟨RX8, "lines", "()V"⟩
abbrev cX8_isChild : ByteArray := prog_10_method_14_code
def yX8_isChild : MethodName := ⟨RX8, "isChild", "(II)Z"⟩
abbrev cX8_group : ByteArray := prog_10_method_15_code
def yX8_group : MethodName := ⟨RX8, "group", "(II)I"⟩
abbrev cX8_first : ByteArray := prog_10_method_16_code
def yX8_first : MethodName := ⟨RX8, "first", "(I)I"⟩
abbrev cX8_listed : ByteArray := prog_10_method_17_code
def yX8_listed : MethodName := ⟨RX8, "listed", "(II)I"⟩
abbrev cX8_heir : ByteArray := prog_10_method_18_code
def yX8_heir : MethodName := ⟨RX8, "heir", "(II)I"⟩
abbrev cX8_shares : ByteArray := prog_10_method_19_code
def yX8_shares : MethodName := ⟨RX8, "shares", "(IIII)V"⟩
abbrev cX8_passes : ByteArray := prog_10_method_20_code
def yX8_passes : MethodName := ⟨RX8, "passes", "(III)V"⟩
abbrev cX8_widowPasses : ByteArray := prog_10_method_21_code
def yX8_widowPasses : MethodName := ⟨RX8, "widowPasses", "(II)I"⟩
abbrev cX8_own : ByteArray := prog_10_method_22_code
def yX8_own : MethodName := ⟨RX8, "own", "(II)I"⟩
abbrev cX8_marry : ByteArray := prog_10_method_23_code
def yX8_marry : MethodName := ⟨RX8, "marry", "(II)Z"⟩
abbrev cX8_die : ByteArray := prog_10_method_24_code
def yX8_die : MethodName := ⟨RX8, "die", "(I)I"⟩
abbrev cX8_moves : ByteArray := prog_10_method_25_code
def yX8_moves : MethodName := ⟨RX8, "moves", "(IIIII)Z"⟩
abbrev cX8_grant : ByteArray := prog_10_method_26_code
def yX8_grant : MethodName := ⟨RX8, "grant", "(III)Z"⟩
abbrev cX8_rod : ByteArray := prog_10_method_27_code
def yX8_rod : MethodName := ⟨RX8, "rod", "(IIII)Z"⟩
abbrev cX8_held : ByteArray := prog_10_method_28_code
def yX8_held : MethodName := ⟨RX8, "held", "(IZ)I"⟩
abbrev cX8_weeks : ByteArray := prog_10_method_29_code
def yX8_weeks : MethodName := ⟨RX8, "weeks", "(I)I"⟩
abbrev cX8_sick : ByteArray := prog_10_method_30_code
def yX8_sick : MethodName := ⟨RX8, "sick", "(II)Z"⟩
abbrev cX8_works : ByteArray := prog_10_method_31_code
def yX8_works : MethodName := ⟨RX8, "works", "(IIZ)I"⟩
abbrev cX8_pay : ByteArray := prog_10_method_32_code
def yX8_pay : MethodName := ⟨RX8, "pay", "(II)I"⟩
abbrev cX8_suit : ByteArray := prog_10_method_33_code
def yX8_suit : MethodName := ⟨RX8, "suit", "(III)I"⟩
abbrev cX8_appear : ByteArray := prog_10_method_34_code
def yX8_appear : MethodName := ⟨RX8, "appear", "(II)Z"⟩
abbrev cX8_falls : ByteArray := prog_10_method_35_code
def yX8_falls : MethodName := ⟨RX8, "falls", "(I)V"⟩
abbrev cX8_court : ByteArray := prog_10_method_36_code
def yX8_court : MethodName := ⟨RX8, "court", "()I"⟩
abbrev cX8_suited : ByteArray := prog_10_method_37_code
def yX8_suited : MethodName := ⟨RX8, "suited", "(II)I"⟩
abbrev cX8_told : ByteArray := prog_10_method_38_code
def yX8_told : MethodName := ⟨RX8, "told", "(II)I"⟩
abbrev cX8_count : ByteArray := prog_10_method_39_code
def yX8_count : MethodName := ⟨RX8, "count", "(I)I"⟩
def RJ13 : String := "java/lang/Long"
def TJ13 : u_T := fun k => match k with
  | _ => ("", "", "", false)
def tyJ13 : Nat → FieldType := fun k => match k with
  | _ => .int
abbrev wsJ130 : List Cond := u_ws RJ13 TJ13 0
theorem nmJ13 : ∀ a, a < 0 → ∀ b, b < 0 → a ≠ b → (TJ13 a).2.1 ≠ (TJ13 b).2.1 := by decide +kernel
theorem tyJ13_ok : ∀ k, k < 0 → parseFieldDescriptor (TJ13 k).2.2.1 = some (tyJ13 k) := by decide +kernel
abbrev cJ13_bitCount_95d88 : ByteArray := prog_11_method_50_code
def yJ13_bitCount_95d88 : MethodName := ⟨RJ13, "bitCount", "(J)I"⟩
def RJ9 : String := "java/lang/Math"
def TJ9 : u_T := fun k => match k with
  | _ => ("", "", "", false)
def tyJ9 : Nat → FieldType := fun k => match k with
  | _ => .int
abbrev wsJ90 : List Cond := u_ws RJ9 TJ9 0
theorem nmJ9 : ∀ a, a < 0 → ∀ b, b < 0 → a ≠ b → (TJ9 a).2.1 ≠ (TJ9 b).2.1 := by decide +kernel
theorem tyJ9_ok : ∀ k, k < 0 → parseFieldDescriptor (TJ9 k).2.2.1 = some (tyJ9 k) := by decide +kernel
abbrev cJ9_max_7cf53 : ByteArray := prog_12_method_65_code
def yJ9_max_7cf53 : MethodName := ⟨RJ9, "max", "(II)I"⟩
abbrev cJ9_min_7cf53 : ByteArray := prog_12_method_69_code
def yJ9_min_7cf53 : MethodName := ⟨RJ9, "min", "(II)I"⟩
def RL : String := "ManorRollsLaw"
abbrev cL_law : ByteArray := code
def yL_law : MethodName := ⟨RL, "law", "([I)Z"⟩
def wsL_law_r1 : List Cond := [Cond.classLink RL 7 RX7, Cond.instantiable RX7 9, Cond.initialized RX7, Cond.classLink RL 10 RX8, Cond.instantiable RX8 44, Cond.initialized RX8, Cond.methodLink RL 9 yX7_init, Cond.instanceMethod yX7_init, Cond.code yX7_init cX7_init 1 none, Cond.methodLink RX7 3 objectInit, Cond.instanceMethod objectInit, Cond.code objectInit ⟨#[0xb1]⟩ 1 none, Cond.fieldLink RX7 9 "ManorRolls" "now" "I", Cond.classLink RX7 13 RX0, Cond.instantiable RX0 7, Cond.initialized RX0, Cond.fieldLink RX7 18 "ManorRolls" "inForce" "LManorRolls$Custom;", Cond.fieldLink RX7 22 "ManorRolls" "customsFound" "I", Cond.classLink RX7 25 RX3, Cond.instantiable RX3 2, Cond.initialized RX3, Cond.fieldLink RX7 28 "ManorRolls" "people" "LManorRolls$People;", Cond.classLink RX7 32 RX2, Cond.instantiable RX2 4]
def wsL_law_r2 : List Cond := [Cond.initialized RX2, Cond.fieldLink RX7 35 "ManorRolls" "land" "LManorRolls$Land;", Cond.classLink RX7 39 RX1, Cond.instantiable RX1 7, Cond.initialized RX1, Cond.fieldLink RX7 44 "ManorRolls" "heirs" "LManorRolls$Heirs;", Cond.classLink RX7 48 RX6, Cond.fieldLink RX7 50 "ManorRolls" "suits" "[LManorRolls$Suit;", Cond.fieldLink RX7 54 "ManorRolls" "suitsBrought" "I", Cond.fieldLink RX7 57 "ManorRolls" "coinsPaid" "I", Cond.methodLink RX7 15 yX0_init, Cond.instanceMethod yX0_init, Cond.code yX0_init cX0_init 3 none, Cond.methodLink RX0 3 objectInit, Cond.constant RX0 9 (100000), Cond.fieldLink RX0 10 "ManorRolls$Custom" "order" "I", Cond.fieldLink RX0 16 "ManorRolls$Custom" "widow" "I", Cond.fieldLink RX0 19 "ManorRolls$Custom" "works" "I", Cond.fieldLink RX0 22 "ManorRolls$Custom" "essoins" "I", Cond.fieldLink RX0 25 "ManorRolls$Custom" "heriot" "I", Cond.fieldLink RX0 28 "ManorRolls$Custom" "entry" "I", Cond.fieldLink RX0 31 "ManorRolls$Custom" "merchet" "I", Cond.instanceMethod yX3_init, Cond.code yX3_init cX3_init 1 none]
def wsL_law_r3 : List Cond := [Cond.methodLink RX3 3 objectInit, Cond.classLink RX3 9 RX4, Cond.fieldLink RX3 11 "ManorRolls$People" "all" "[LManorRolls$Person;", Cond.methodLink RX7 34 yX2_init, Cond.instanceMethod yX2_init, Cond.code yX2_init cX2_init 3 none, Cond.methodLink RX2 3 objectInit, Cond.classLink RX2 9 RX5, Cond.fieldLink RX2 11 "ManorRolls$Land" "newest" "[LManorRolls$Right;", Cond.fieldLink RX2 17 "ManorRolls$Land" "rights" "I", Cond.arrayClass .int, Cond.fieldLink RX2 21 "ManorRolls$Land" "picked" "[I", Cond.instantiable RX5 4, Cond.initialized RX5, Cond.methodLink RX2 25 yX5_init, Cond.instanceMethod yX5_init, Cond.code yX5_init cX5_init 5 none, Cond.methodLink RX5 1 objectInit, Cond.fieldLink RX5 7 "ManorRolls$Right" "holder" "I", Cond.fieldLink RX5 13 "ManorRolls$Right" "how" "I", Cond.fieldLink RX5 16 "ManorRolls$Right" "day" "I", Cond.fieldLink RX5 19 "ManorRolls$Right" "ahead" "LManorRolls$Right;", Cond.methodLink RX7 41 yX1_init, Cond.instanceMethod yX1_init]
def wsL_law_r4 : List Cond := [Cond.code yX1_init cX1_init 2 none, Cond.methodLink RX1 3 objectInit, Cond.fieldLink RX1 9 "ManorRolls$Heirs" "list" "[I", Cond.fieldLink RX1 15 "ManorRolls$Heirs" "takers" "[I", Cond.fieldLink RX1 18 "ManorRolls$Heirs" "people" "LManorRolls$People;", Cond.methodLink RL 12 yX8_init, Cond.instanceMethod yX8_init, Cond.code yX8_init cX8_init 2 none, Cond.methodLink RX8 3 objectInit, Cond.fieldLink RX8 9 "ManorRollsModel" "sex" "[I", Cond.fieldLink RX8 13 "ManorRollsModel" "father" "[I", Cond.fieldLink RX8 16 "ManorRollsModel" "mother" "[I", Cond.fieldLink RX8 19 "ManorRollsModel" "spouse" "[I", Cond.fieldLink RX8 22 "ManorRollsModel" "born" "[I", Cond.fieldLink RX8 25 "ManorRollsModel" "owed" "[I", Cond.fieldLink RX8 28 "ManorRollsModel" "due" "[I", Cond.fieldLink RX8 31 "ManorRollsModel" "done" "[I", Cond.fieldLink RX8 34 "ManorRollsModel" "sold" "[I", Cond.fieldLink RX8 37 "ManorRollsModel" "excused" "[I", Cond.fieldLink RX8 40 "ManorRollsModel" "sick" "[I", Cond.arrayClass .boolean, Cond.fieldLink RX8 43 "ManorRollsModel" "isAlive" "[Z", Cond.fieldLink RX8 47 "ManorRollsModel" "isLine" "[Z", Cond.fieldLink RX8 50 "ManorRollsModel" "rStrip" "[I"]
def wsL_law_r5 : List Cond := [Cond.fieldLink RX8 53 "ManorRollsModel" "rWho" "[I", Cond.fieldLink RX8 56 "ManorRollsModel" "rHow" "[I", Cond.fieldLink RX8 59 "ManorRollsModel" "rDay" "[I", Cond.fieldLink RX8 62 "ManorRollsModel" "holds" "[I", Cond.fieldLink RX8 65 "ManorRollsModel" "widowOf" "[I", Cond.fieldLink RX8 68 "ManorRollsModel" "one" "[I", Cond.fieldLink RX8 71 "ManorRollsModel" "against" "[I", Cond.fieldLink RX8 74 "ManorRollsModel" "pledge" "[I", Cond.fieldLink RX8 77 "ManorRollsModel" "will" "[I", Cond.fieldLink RX8 80 "ManorRollsModel" "state" "[I", Cond.fieldLink RX8 83 "ManorRollsModel" "essoined" "[I", Cond.fieldLink RX8 86 "ManorRollsModel" "defaults" "[I", Cond.fieldLink RX8 89 "ManorRollsModel" "row" "[I", Cond.fieldLink RX8 92 "ManorRollsModel" "heap" "[I", Cond.methodLink RX8 95 yX8_comes, Cond.instanceMethod yX8_comes, Cond.selects RX8 yX8_comes yX8_comes, Cond.code yX8_comes cX8_comes 4 none, Cond.fieldLink RX8 111 "ManorRollsModel" "rights" "I", Cond.fieldLink RX8 118 "ManorRollsModel" "now" "I", Cond.methodLink RX8 114 yX8_longer, Cond.static yX8_longer, Cond.code yX8_longer cX8_longer 3 (some (.array .int)), Cond.methodLink RL 13 yX7_custom]
def wsL_law_r6 : List Cond := [Cond.instanceMethod yX7_custom, Cond.selects RX7 yX7_custom yX7_custom, Cond.code yX7_custom cX7_custom 3 (some .int), Cond.methodLink RX7 60 yX0_canBe, Cond.static yX0_canBe, Cond.code yX0_canBe cX0_canBe 3 (some .boolean), Cond.constant RX0 34 (999999), Cond.classLink RX0 11 RX0, Cond.methodLink RX0 35 yX0_init, Cond.methodLink RL 17 yX8_custom, Cond.instanceMethod yX8_custom, Cond.selects RX8 yX8_custom yX8_custom, Cond.code yX8_custom cX8_custom 7 (some .int), Cond.constant RX8 128 (100000), Cond.constant RX8 129 (999999), Cond.fieldLink RX8 130 "ManorRollsModel" "order" "I", Cond.fieldLink RX8 133 "ManorRollsModel" "widow" "I", Cond.fieldLink RX8 136 "ManorRollsModel" "works" "I", Cond.fieldLink RX8 139 "ManorRollsModel" "essoins" "I", Cond.fieldLink RX8 142 "ManorRollsModel" "heriot" "I", Cond.fieldLink RX8 145 "ManorRollsModel" "entry" "I", Cond.fieldLink RX8 148 "ManorRollsModel" "merchet" "I", Cond.fieldLink RX8 151 "ManorRollsModel" "customs" "I", Cond.methodLink RX8 103 yX8_in]
def wsL_law_r7 : List Cond := [Cond.static yX8_in, Cond.code yX8_in cX8_in 3 (some .boolean), Cond.methodLink RL 18 yX7_person, Cond.instanceMethod yX7_person, Cond.selects RX7 yX7_person yX7_person, Cond.code yX7_person cX7_person 4 (some .int), Cond.fieldLink RX7 64 "ManorRolls$People" "came" "I", Cond.classLink RX7 70 RX4, Cond.instantiable RX4 14, Cond.initialized RX4, Cond.methodLink RX7 67 yX3_mayBeParent, Cond.instanceMethod yX3_mayBeParent, Cond.selects RX3 yX3_mayBeParent yX3_mayBeParent, Cond.code yX3_mayBeParent cX3_mayBeParent 4 (some .boolean), Cond.fieldLink RX3 29 "ManorRolls$Person" "sex" "I", Cond.methodLink RX3 21 yX3_find, Cond.instanceMethod yX3_find, Cond.selects RX3 yX3_find yX3_find, Cond.code yX3_find cX3_find 2 (some (.object "ManorRolls$Person")), Cond.fieldLink RX3 17 "ManorRolls$People" "came" "I", Cond.methodLink RX7 72 yX4_init, Cond.instanceMethod yX4_init, Cond.code yX4_init cX4_init 5 none, Cond.methodLink RX4 3 objectInit]
def wsL_law_r8 : List Cond := [Cond.fieldLink RX4 9 "ManorRolls$Person" "sex" "I", Cond.fieldLink RX4 15 "ManorRolls$Person" "father" "I", Cond.fieldLink RX4 18 "ManorRolls$Person" "mother" "I", Cond.fieldLink RX4 21 "ManorRolls$Person" "born" "I", Cond.fieldLink RX4 24 "ManorRolls$Person" "alive" "Z", Cond.fieldLink RX4 28 "ManorRolls$Person" "marriedTo" "I", Cond.methodLink RX7 75 yX3_add, Cond.instanceMethod yX3_add, Cond.selects RX3 yX3_add yX3_add, Cond.code yX3_add cX3_add 3 (some .int), Cond.fieldLink RX3 32 "ManorRolls$Person" "father" "I", Cond.fieldLink RX3 39 "ManorRolls$Person" "mother" "I", Cond.methodLink RX3 35 yX3_addChildTo, Cond.instanceMethod yX3_addChildTo, Cond.selects RX3 yX3_addChildTo yX3_addChildTo, Cond.code yX3_addChildTo cX3_addChildTo 5 none, Cond.methodLink RX3 42 yX4_addChild, Cond.instanceMethod yX4_addChild, Cond.selects RX4 yX4_addChild yX4_addChild, Cond.code yX4_addChild cX4_addChild 3 none, Cond.fieldLink RX4 31 "ManorRolls$Person" "sons" "J", Cond.fieldLink RX4 35 "ManorRolls$Person" "daughters" "J", Cond.methodLink RL 22 yX8_person, Cond.instanceMethod yX8_person]
def wsL_law_r9 : List Cond := [Cond.selects RX8 yX8_person yX8_person, Cond.code yX8_person cX8_person 4 (some .int), Cond.fieldLink RX8 99 "ManorRollsModel" "many" "I", Cond.methodLink RX8 107 yX8_isPerson, Cond.instanceMethod yX8_isPerson, Cond.selects RX8 yX8_isPerson yX8_isPerson, Cond.code yX8_isPerson cX8_isPerson 2 (some .boolean), Cond.methodLink RL 23 yX7_marry, Cond.instanceMethod yX7_marry, Cond.selects RX7 yX7_marry yX7_marry, Cond.code yX7_marry cX7_marry 5 (some .boolean), Cond.fieldLink RX7 83 "ManorRolls$Person" "sex" "I", Cond.fieldLink RX7 86 "ManorRolls$Person" "marriedTo" "I", Cond.methodLink RX7 79 yX3_findAlive, Cond.instanceMethod yX3_findAlive, Cond.selects RX3 yX3_findAlive yX3_findAlive, Cond.code yX3_findAlive cX3_findAlive 3 (some (.object "ManorRolls$Person")), Cond.fieldLink RX3 25 "ManorRolls$Person" "alive" "Z", Cond.methodLink RX7 89 yX7_passWidowsParts, Cond.instanceMethod yX7_passWidowsParts, Cond.selects RX7 yX7_passWidowsParts yX7_passWidowsParts, Cond.code yX7_passWidowsParts cX7_passWidowsParts 4 (some .int), Cond.fieldLink RX7 116 "ManorRolls$Land" "pickedCount" "I", Cond.fieldLink RX7 243 "ManorRolls$Land" "picked" "[I"]
def wsL_law_r10 : List Cond := [Cond.methodLink RX7 112 yX2_pick, Cond.instanceMethod yX2_pick, Cond.selects RX2 yX2_pick yX2_pick, Cond.code yX2_pick cX2_pick 7 none, Cond.fieldLink RX2 28 "ManorRolls$Land" "pickedCount" "I", Cond.fieldLink RX2 35 "ManorRolls$Right" "holder" "I", Cond.fieldLink RX2 38 "ManorRolls$Right" "how" "I", Cond.methodLink RX2 31 yX2_find, Cond.instanceMethod yX2_find, Cond.selects RX2 yX2_find yX2_find, Cond.code yX2_find cX2_find 2 (some (.object "ManorRolls$Right")), Cond.methodLink RX7 246 yX2_giverOf, Cond.instanceMethod yX2_giverOf, Cond.selects RX2 yX2_giverOf yX2_giverOf, Cond.code yX2_giverOf cX2_giverOf 3 (some .int), Cond.fieldLink RX2 48 "ManorRolls$Right" "ahead" "LManorRolls$Right;", Cond.methodLink RX7 237 yX7_passPicked, Cond.instanceMethod yX7_passPicked, Cond.selects RX7 yX7_passPicked yX7_passPicked, Cond.code yX7_passPicked cX7_passPicked 5 none, Cond.fieldLink RX7 191 "ManorRolls$Custom" "order" "I", Cond.fieldLink RX7 252 "ManorRolls$Heirs" "takers" "[I", Cond.methodLink RX7 249 yX1_share, Cond.instanceMethod yX1_share]
def wsL_law_r11 : List Cond := [Cond.selects RX1 yX1_share yX1_share, Cond.code yX1_share cX1_share 5 none, Cond.methodLink RX1 38 Lib.Math.min.name, Cond.static Lib.Math.min.name, Cond.initialized "java/lang/Math", Cond.code Lib.Math.min.name Lib.Math.min.code 2 (some .int), Cond.methodLink RX1 22 yX1_look, Cond.instanceMethod yX1_look, Cond.selects RX1 yX1_look yX1_look, Cond.code yX1_look cX1_look 6 none, Cond.fieldLink RX1 48 "ManorRolls$Heirs" "order" "I", Cond.fieldLink RX1 51 "ManorRolls$Heirs" "living" "J", Cond.fieldLink RX1 55 "ManorRolls$Heirs" "lasting" "J", Cond.fieldLink RX1 58 "ManorRolls$People" "came" "I", Cond.fieldLink RX1 67 "ManorRolls$Person" "alive" "Z", Cond.fieldLink RX1 73 "ManorRolls$Person" "sons" "J", Cond.fieldLink RX1 76 "ManorRolls$Person" "daughters" "J", Cond.methodLink RX1 63 yX3_find, Cond.methodLink RX1 30 yX1_firstLine, Cond.instanceMethod yX1_firstLine, Cond.selects RX1 yX1_firstLine yX1_firstLine, Cond.code yX1_firstLine cX1_firstLine 5 (some .long), Cond.fieldLink RX1 83 "ManorRolls$Person" "father" "I", Cond.methodLink RX1 79 yX1_lineBelow]
def wsL_law_r12 : List Cond := [Cond.instanceMethod yX1_lineBelow, Cond.selects RX1 yX1_lineBelow yX1_lineBelow, Cond.code yX1_lineBelow cX1_lineBelow 7 (some .long), Cond.constantLong RX1 86 (-1), Cond.methodLink RX1 88 yX1_youngestOf, Cond.static yX1_youngestOf, Cond.code yX1_youngestOf cX1_youngestOf 4 (some .long), Cond.constantLong RX1 92 (576460752303423488), Cond.methodLink RX1 44 yX1_shareLine, Cond.instanceMethod yX1_shareLine, Cond.selects RX1 yX1_shareLine yX1_shareLine, Cond.code yX1_shareLine cX1_shareLine 13 none, Cond.methodLink RX1 98 yJ13_bitCount_95d88, Cond.static yJ13_bitCount_95d88, Cond.initialized RJ13, Cond.code yJ13_bitCount_95d88 cJ13_bitCount_95d88 2 (some .int), Cond.constantLong RJ13 314 (6148914691236517205), Cond.constantLong RJ13 316 (3689348814741910323), Cond.constantLong RJ13 318 (1085102592571150095), Cond.methodLink RX1 94 yX1_isIn, Cond.static yX1_isIn, Cond.code yX1_isIn cX1_isIn 3 (some .boolean), Cond.methodLink RX1 104 yX1_give, Cond.instanceMethod yX1_give]
def wsL_law_r13 : List Cond := [Cond.selects RX1 yX1_give yX1_give, Cond.code yX1_give cX1_give 5 none, Cond.methodLink RX7 119 yX2_bringPicked, Cond.instanceMethod yX2_bringPicked, Cond.selects RX2 yX2_bringPicked yX2_bringPicked, Cond.code yX2_bringPicked cX2_bringPicked 9 none, Cond.methodLink RX2 41 Lib.Math.max.name, Cond.static Lib.Math.max.name, Cond.code Lib.Math.max.name Lib.Math.max.code 2 (some .int), Cond.constant RX2 47 (61560), Cond.methodLink RX7 93 yX7_oweMerchet, Cond.instanceMethod yX7_oweMerchet, Cond.selects RX7 yX7_oweMerchet yX7_oweMerchet, Cond.code yX7_oweMerchet cX7_oweMerchet 4 none, Cond.fieldLink RX7 203 "ManorRolls$Person" "father" "I", Cond.fieldLink RX7 123 "ManorRolls$Person" "owed" "I", Cond.fieldLink RX7 231 "ManorRolls$Custom" "merchet" "I", Cond.methodLink RL 27 yX8_marry, Cond.instanceMethod yX8_marry, Cond.selects RX8 yX8_marry yX8_marry, Cond.code yX8_marry cX8_marry 6 (some .boolean), Cond.methodLink RX8 188 yX8_lives, Cond.instanceMethod yX8_lives, Cond.selects RX8 yX8_lives yX8_lives]
def wsL_law_r14 : List Cond := [Cond.code yX8_lives cX8_lives 2 (some .boolean), Cond.methodLink RX8 191 yX8_widowPasses, Cond.instanceMethod yX8_widowPasses, Cond.selects RX8 yX8_widowPasses yX8_widowPasses, Cond.code yX8_widowPasses cX8_widowPasses 7 (some .int), Cond.methodLink RX8 185 yX8_passes, Cond.instanceMethod yX8_passes, Cond.selects RX8 yX8_passes yX8_passes, Cond.code yX8_passes cX8_passes 6 none, Cond.fieldLink RX8 158 "ManorRollsModel" "used" "I", Cond.methodLink RX8 174 yX8_lines, Cond.instanceMethod yX8_lines, Cond.selects RX8 yX8_lines yX8_lines, Cond.code yX8_lines cX8_lines 3 none, Cond.methodLink RX8 154 yX8_isChild, Cond.instanceMethod yX8_isChild, Cond.selects RX8 yX8_isChild yX8_isChild, Cond.code yX8_isChild cX8_isChild 3 (some .boolean), Cond.methodLink RX8 177 yX8_first, Cond.instanceMethod yX8_first, Cond.selects RX8 yX8_first yX8_first, Cond.code yX8_first cX8_first 3 (some .int), Cond.methodLink RX8 161 yX8_group, Cond.instanceMethod yX8_group]
def wsL_law_r15 : List Cond := [Cond.selects RX8 yX8_group yX8_group, Cond.code yX8_group cX8_group 8 (some .int), Cond.methodLink RX8 181 yX8_shares, Cond.instanceMethod yX8_shares, Cond.selects RX8 yX8_shares yX8_shares, Cond.code yX8_shares cX8_shares 11 none, Cond.methodLink RL 28 yX7_die, Cond.instanceMethod yX7_die, Cond.selects RX7 yX7_die yX7_die, Cond.code yX7_die cX7_die 5 (some .int), Cond.fieldLink RX7 97 "ManorRolls$Person" "alive" "Z", Cond.methodLink RX7 101 yX7_passOwnStrips, Cond.instanceMethod yX7_passOwnStrips, Cond.selects RX7 yX7_passOwnStrips yX7_passOwnStrips, Cond.code yX7_passOwnStrips cX7_passOwnStrips 7 (some .int), Cond.fieldLink RX7 234 "ManorRolls$Custom" "widow" "I", Cond.fieldLink RX7 240 "ManorRolls$Custom" "heriot" "I", Cond.methodLink RX7 105 yX3_find, Cond.methodLink RL 32 yX8_die, Cond.instanceMethod yX8_die, Cond.selects RX8 yX8_die yX8_die, Cond.code yX8_die cX8_die 8 (some .int), Cond.methodLink RX8 194 yX8_own, Cond.instanceMethod yX8_own]
def wsL_law_r16 : List Cond := [Cond.selects RX8 yX8_own yX8_own, Cond.code yX8_own cX8_own 5 (some .int), Cond.methodLink RL 33 yX7_grant, Cond.instanceMethod yX7_grant, Cond.selects RX7 yX7_grant yX7_grant, Cond.code yX7_grant cX7_grant 4 (some .boolean), Cond.methodLink RX7 108 yX7_isHolding, Cond.static yX7_isHolding, Cond.code yX7_isHolding cX7_isHolding 1 (some .boolean), Cond.methodLink RL 37 yX8_grant, Cond.instanceMethod yX8_grant, Cond.selects RX8 yX8_grant yX8_grant, Cond.code yX8_grant cX8_grant 4 (some .boolean), Cond.methodLink RX8 197 yX8_moves, Cond.instanceMethod yX8_moves, Cond.selects RX8 yX8_moves yX8_moves, Cond.code yX8_moves cX8_moves 8 (some .boolean), Cond.methodLink RL 38 yX7_rod, Cond.instanceMethod yX7_rod, Cond.selects RX7 yX7_rod yX7_rod, Cond.code yX7_rod cX7_rod 6 (some .boolean), Cond.fieldLink RX7 126 "ManorRolls$Custom" "entry" "I", Cond.methodLink RL 42 yX8_rod, Cond.instanceMethod yX8_rod]
def wsL_law_r17 : List Cond := [Cond.selects RX8 yX8_rod yX8_rod, Cond.code yX8_rod cX8_rod 5 (some .boolean), Cond.methodLink RL 43 yX7_weeks, Cond.instanceMethod yX7_weeks, Cond.selects RX7 yX7_weeks yX7_weeks, Cond.code yX7_weeks cX7_weeks 4 (some .int), Cond.constant RX7 129 (40000), Cond.fieldLink RX7 133 "ManorRolls$Custom" "works" "I", Cond.methodLink RX7 130 yX2_heldBy, Cond.instanceMethod yX2_heldBy, Cond.selects RX2 yX2_heldBy yX2_heldBy, Cond.code yX2_heldBy cX2_heldBy 5 (some .int), Cond.methodLink RX7 136 yX4_spendWeeks, Cond.instanceMethod yX4_spendWeeks, Cond.selects RX4 yX4_spendWeeks yX4_spendWeeks, Cond.code yX4_spendWeeks cX4_spendWeeks 4 none, Cond.fieldLink RX4 38 "ManorRolls$Person" "weeksSick" "I", Cond.methodLink RX4 41 Lib.Math.min.name, Cond.fieldLink RX4 47 "ManorRolls$Person" "worksExcused" "I", Cond.fieldLink RX4 50 "ManorRolls$Person" "worksDue" "I", Cond.methodLink RL 46 yX8_weeks, Cond.instanceMethod yX8_weeks, Cond.selects RX8 yX8_weeks yX8_weeks, Cond.code yX8_weeks cX8_weeks 5 (some .int)]
def wsL_law_r18 : List Cond := [Cond.constant RX8 201 (40000), Cond.methodLink RX8 202 yX8_held, Cond.instanceMethod yX8_held, Cond.selects RX8 yX8_held yX8_held, Cond.code yX8_held cX8_held 5 (some .int), Cond.methodLink RL 47 yX7_sick, Cond.instanceMethod yX7_sick, Cond.selects RX7 yX7_sick yX7_sick, Cond.code yX7_sick cX7_sick 4 (some .boolean), Cond.fieldLink RX7 139 "ManorRolls$Person" "weeksSick" "I", Cond.methodLink RL 50 yX8_sick, Cond.instanceMethod yX8_sick, Cond.selects RX8 yX8_sick yX8_sick, Cond.code yX8_sick cX8_sick 3 (some .boolean), Cond.methodLink RL 51 yX7_works, Cond.instanceMethod yX7_works, Cond.selects RX7 yX7_works yX7_works, Cond.code yX7_works cX7_works 5 (some .int), Cond.fieldLink RX7 142 "ManorRolls$Person" "worksDue" "I", Cond.fieldLink RX7 145 "ManorRolls$Person" "worksSold" "I", Cond.fieldLink RX7 148 "ManorRolls$Person" "worksDone" "I", Cond.methodLink RL 55 yX8_works, Cond.instanceMethod yX8_works, Cond.selects RX8 yX8_works yX8_works]
def wsL_law_r19 : List Cond := [Cond.code yX8_works cX8_works 4 (some .int), Cond.methodLink RL 56 yX7_pay, Cond.instanceMethod yX7_pay, Cond.selects RX7 yX7_pay yX7_pay, Cond.code yX7_pay cX7_pay 4 (some .int), Cond.methodLink RL 59 yX8_pay, Cond.instanceMethod yX8_pay, Cond.selects RX8 yX8_pay yX8_pay, Cond.code yX8_pay cX8_pay 3 (some .int), Cond.fieldLink RX8 206 "ManorRollsModel" "paid" "I", Cond.methodLink RL 60 yX7_suit, Cond.instanceMethod yX7_suit, Cond.selects RX7 yX7_suit yX7_suit, Cond.code yX7_suit cX7_suit 5 (some .int), Cond.instantiable RX6 7, Cond.initialized RX6, Cond.methodLink RX7 151 yX6_init, Cond.instanceMethod yX6_init, Cond.code yX6_init cX6_init 4 none, Cond.methodLink RX6 3 objectInit, Cond.fieldLink RX6 9 "ManorRolls$Suit" "one" "I", Cond.fieldLink RX6 15 "ManorRolls$Suit" "against" "I", Cond.fieldLink RX6 18 "ManorRolls$Suit" "pledge" "I", Cond.fieldLink RX6 21 "ManorRolls$Suit" "state" "I"]
def wsL_law_r20 : List Cond := [Cond.fieldLink RX6 24 "ManorRolls$Suit" "next" "I", Cond.methodLink RL 63 yX8_suit, Cond.instanceMethod yX8_suit, Cond.selects RX8 yX8_suit yX8_suit, Cond.code yX8_suit cX8_suit 4 (some .int), Cond.fieldLink RX8 209 "ManorRollsModel" "suits" "I", Cond.methodLink RL 64 yX7_appear, Cond.instanceMethod yX7_appear, Cond.selects RX7 yX7_appear yX7_appear, Cond.code yX7_appear cX7_appear 4 (some .boolean), Cond.fieldLink RX7 158 "ManorRolls$Suit" "state" "I", Cond.fieldLink RX7 161 "ManorRolls$Suit" "next" "I", Cond.methodLink RX7 154 yX7_findSuit, Cond.instanceMethod yX7_findSuit, Cond.selects RX7 yX7_findSuit yX7_findSuit, Cond.code yX7_findSuit cX7_findSuit 2 (some (.object "ManorRolls$Suit")), Cond.methodLink RL 67 yX8_appear, Cond.instanceMethod yX8_appear, Cond.selects RX8 yX8_appear yX8_appear, Cond.code yX8_appear cX8_appear 3 (some .boolean), Cond.methodLink RL 68 yX7_court, Cond.instanceMethod yX7_court, Cond.selects RX7 yX7_court yX7_court, Cond.code yX7_court cX7_court 4 (some .int)]
def wsL_law_r21 : List Cond := [Cond.methodLink RX7 164 yX7_hear, Cond.instanceMethod yX7_hear, Cond.selects RX7 yX7_hear yX7_hear, Cond.code yX7_hear cX7_hear 3 none, Cond.fieldLink RX7 255 "ManorRolls$Suit" "against" "I", Cond.fieldLink RX7 258 "ManorRolls$Suit" "one" "I", Cond.fieldLink RX7 218 "ManorRolls$Suit" "essoins" "I", Cond.fieldLink RX7 264 "ManorRolls$Custom" "essoins" "I", Cond.methodLink RX7 261 yX3_owe, Cond.instanceMethod yX3_owe, Cond.selects RX3 yX3_owe yX3_owe, Cond.code yX3_owe cX3_owe 4 none, Cond.fieldLink RX3 46 "ManorRolls$Person" "owed" "I", Cond.methodLink RX7 265 yX7_defaultIn, Cond.instanceMethod yX7_defaultIn, Cond.selects RX7 yX7_defaultIn yX7_defaultIn, Cond.code yX7_defaultIn cX7_defaultIn 5 none, Cond.fieldLink RX7 269 "ManorRolls$Suit" "pledge" "I", Cond.fieldLink RX7 221 "ManorRolls$Suit" "defaults" "I", Cond.methodLink RL 72 yX8_court, Cond.instanceMethod yX8_court, Cond.selects RX8 yX8_court yX8_court, Cond.code yX8_court cX8_court 4 (some .int), Cond.methodLink RX8 212 yX8_falls]
def wsL_law_r22 : List Cond := [Cond.instanceMethod yX8_falls, Cond.selects RX8 yX8_falls yX8_falls, Cond.code yX8_falls cX8_falls 3 none, Cond.methodLink RL 73 yX7_holder, Cond.instanceMethod yX7_holder, Cond.selects RX7 yX7_holder yX7_holder, Cond.code yX7_holder cX7_holder 4 (some .int), Cond.methodLink RX7 168 yX7_right, Cond.instanceMethod yX7_right, Cond.selects RX7 yX7_right yX7_right, Cond.code yX7_right cX7_right 7 (some .int), Cond.fieldLink RX7 180 "ManorRolls$Right" "holder" "I", Cond.fieldLink RX7 185 "ManorRolls$Right" "how" "I", Cond.fieldLink RX7 188 "ManorRolls$Right" "day" "I", Cond.methodLink RX7 172 yX2_onDay, Cond.instanceMethod yX2_onDay, Cond.selects RX2 yX2_onDay yX2_onDay, Cond.code yX2_onDay cX2_onDay 4 (some (.object "ManorRolls$Right")), Cond.fieldLink RX2 52 "ManorRolls$Right" "day" "I", Cond.methodLink RX7 176 yX2_stepsAhead, Cond.static yX2_stepsAhead, Cond.code yX2_stepsAhead cX2_stepsAhead 4 (some (.object "ManorRolls$Right")), Cond.methodLink RL 76 yX8_holder, Cond.instanceMethod yX8_holder]
def wsL_law_r23 : List Cond := [Cond.selects RX8 yX8_holder yX8_holder, Cond.code yX8_holder cX8_holder 4 (some .int), Cond.methodLink RX8 121 yX8_isStrip, Cond.instanceMethod yX8_isStrip, Cond.selects RX8 yX8_isStrip yX8_isStrip, Cond.code yX8_isStrip cX8_isStrip 4 (some .boolean), Cond.methodLink RX8 124 yX8_rightOf, Cond.instanceMethod yX8_rightOf, Cond.selects RX8 yX8_rightOf yX8_rightOf, Cond.code yX8_rightOf cX8_rightOf 6 (some .int), Cond.methodLink RL 77 yX7_right, Cond.methodLink RL 81 yX8_right, Cond.instanceMethod yX8_right, Cond.selects RX8 yX8_right yX8_right, Cond.code yX8_right cX8_right 7 (some .int), Cond.methodLink RL 82 yX7_heir, Cond.instanceMethod yX7_heir, Cond.selects RX7 yX7_heir yX7_heir, Cond.code yX7_heir cX7_heir 3 (some .int), Cond.fieldLink RX7 197 "ManorRolls$Heirs" "listed" "I", Cond.fieldLink RX7 200 "ManorRolls$Heirs" "list" "[I", Cond.methodLink RX7 194 yX1_list, Cond.instanceMethod yX1_list, Cond.selects RX1 yX1_list yX1_list]
def wsL_law_r24 : List Cond := [Cond.code yX1_list cX1_list 3 none, Cond.fieldLink RX1 26 "ManorRolls$Heirs" "listed" "I", Cond.methodLink RX1 34 yX1_listLine, Cond.instanceMethod yX1_listLine, Cond.selects RX1 yX1_listLine yX1_listLine, Cond.code yX1_listLine cX1_listLine 5 none, Cond.methodLink RL 85 yX8_heir, Cond.instanceMethod yX8_heir, Cond.selects RX8 yX8_heir yX8_heir, Cond.code yX8_heir cX8_heir 6 (some .int), Cond.fieldLink RX8 165 "ManorRollsModel" "seen" "I", Cond.fieldLink RX8 168 "ManorRollsModel" "wanted" "I", Cond.methodLink RX8 171 yX8_listed, Cond.instanceMethod yX8_listed, Cond.selects RX8 yX8_listed yX8_listed, Cond.code yX8_listed cX8_listed 8 (some .int), Cond.methodLink RL 86 yX7_told, Cond.instanceMethod yX7_told, Cond.selects RX7 yX7_told yX7_told, Cond.code yX7_told cX7_told 4 (some .int), Cond.fieldLink RX7 206 "ManorRolls$Person" "mother" "I", Cond.fieldLink RX7 209 "ManorRolls$Person" "born" "I", Cond.fieldLink RX7 215 "ManorRolls$Person" "worksExcused" "I", Cond.methodLink RX7 212 yX2_partsOf]
def wsL_law_r25 : List Cond := [Cond.instanceMethod yX2_partsOf, Cond.selects RX2 yX2_partsOf yX2_partsOf, Cond.code yX2_partsOf cX2_partsOf 5 (some .int), Cond.methodLink RL 89 yX8_told, Cond.instanceMethod yX8_told, Cond.selects RX8 yX8_told yX8_told, Cond.code yX8_told cX8_told 3 (some .int), Cond.methodLink RL 90 yX7_suited, Cond.instanceMethod yX7_suited, Cond.selects RX7 yX7_suited yX7_suited, Cond.code yX7_suited cX7_suited 4 (some .int), Cond.methodLink RL 93 yX8_suited, Cond.instanceMethod yX8_suited, Cond.selects RX8 yX8_suited yX8_suited, Cond.code yX8_suited cX8_suited 3 (some .int), Cond.methodLink RL 94 yX7_count, Cond.instanceMethod yX7_count, Cond.selects RX7 yX7_count yX7_count, Cond.code yX7_count cX7_count 2 (some .int), Cond.fieldLink RX7 228 "ManorRolls$Land" "rights" "I", Cond.methodLink RX7 224 yX3_allOwed, Cond.instanceMethod yX3_allOwed, Cond.selects RX3 yX3_allOwed yX3_allOwed, Cond.code yX3_allOwed cX3_allOwed 4 (some .int)]
def wsL_law_r26 : List Cond := [Cond.methodLink RL 97 yX8_count, Cond.instanceMethod yX8_count, Cond.selects RX8 yX8_count yX8_count, Cond.code yX8_count cX8_count 4 (some .int)]
def wsL_law : List Cond := (wsL_law_r1 ++ (wsL_law_r2 ++ (wsL_law_r3 ++ (wsL_law_r4 ++ (wsL_law_r5 ++ (wsL_law_r6 ++ (wsL_law_r7 ++ (wsL_law_r8 ++ (wsL_law_r9 ++ (wsL_law_r10 ++ (wsL_law_r11 ++ (wsL_law_r12 ++ (wsL_law_r13 ++ (wsL_law_r14 ++ (wsL_law_r15 ++ (wsL_law_r16 ++ (wsL_law_r17 ++ (wsL_law_r18 ++ (wsL_law_r19 ++ (wsL_law_r20 ++ (wsL_law_r21 ++ (wsL_law_r22 ++ (wsL_law_r23 ++ (wsL_law_r24 ++ (wsL_law_r25 ++ wsL_law_r26))))))))))))))))))))))))) ++ wsX70 ++ wsX80 ++ wsX00 ++ wsX30 ++ wsX20 ++ wsX10 ++ wsX50 ++ wsX40 ++ wsX60 ++ ([] : List Cond)
set_option maxRecDepth 20000 in
theorem wsL_law_gw : wsL_law.all goodWord = true := by decide +kernel
theorem inlX0 : ∀ w ∈ wsX00, w ∈ wsL_law := fun _ h => List.mem_append_left _ (List.mem_append_left _ (List.mem_append_left _ (List.mem_append_left _ (List.mem_append_left _ (List.mem_append_left _ (List.mem_append_left _ (List.mem_append_right _ h)))))))
theorem inlX1 : ∀ w ∈ wsX10, w ∈ wsL_law := fun _ h => List.mem_append_left _ (List.mem_append_left _ (List.mem_append_left _ (List.mem_append_left _ (List.mem_append_right _ h))))
theorem inlX2 : ∀ w ∈ wsX20, w ∈ wsL_law := fun _ h => List.mem_append_left _ (List.mem_append_left _ (List.mem_append_left _ (List.mem_append_left _ (List.mem_append_left _ (List.mem_append_right _ h)))))
theorem inlX3 : ∀ w ∈ wsX30, w ∈ wsL_law := fun _ h => List.mem_append_left _ (List.mem_append_left _ (List.mem_append_left _ (List.mem_append_left _ (List.mem_append_left _ (List.mem_append_left _ (List.mem_append_right _ h))))))
theorem inlX4 : ∀ w ∈ wsX40, w ∈ wsL_law := fun _ h => List.mem_append_left _ (List.mem_append_left _ (List.mem_append_right _ h))
theorem inlX5 : ∀ w ∈ wsX50, w ∈ wsL_law := fun _ h => List.mem_append_left _ (List.mem_append_left _ (List.mem_append_left _ (List.mem_append_right _ h)))
theorem inlX6 : ∀ w ∈ wsX60, w ∈ wsL_law := fun _ h => List.mem_append_left _ (List.mem_append_right _ h)
theorem inlX7 : ∀ w ∈ wsX70, w ∈ wsL_law := fun _ h => List.mem_append_left _ (List.mem_append_left _ (List.mem_append_left _ (List.mem_append_left _ (List.mem_append_left _ (List.mem_append_left _ (List.mem_append_left _ (List.mem_append_left _ (List.mem_append_left _ (List.mem_append_right _ h)))))))))
theorem inlX8 : ∀ w ∈ wsX80, w ∈ wsL_law := fun _ h => List.mem_append_left _ (List.mem_append_left _ (List.mem_append_left _ (List.mem_append_left _ (List.mem_append_left _ (List.mem_append_left _ (List.mem_append_left _ (List.mem_append_left _ (List.mem_append_right _ h))))))))
abbrev vwCl : List vw_C := [(RX0, TX0, 7), (RX1, TX1, 7), (RX2, TX2, 4), (RX3, TX3, 2), (RX4, TX4, 14), (RX5, TX5, 4), (RX6, TX6, 7), (RX7, TX7, 9), (RX8, TX8, 44)]
end
section
/-! ===== BASE: worlds as functions from addresses to cells; the judgement J; contracts Mt ===== -/
abbrev HF : Type := Nat → Option va_E
abbrev LV : Type := List (Option Value)
abbrev En : Type := va_G × (Nat → ClassId)
abbrev HP : Type := HF → Prop
def e_tys (E : En) : List (ClassId × FieldType) := [(E.2 0, .int), (E.2 1, .boolean), (E.2 2, .object "ManorRolls$Person"), (E.2 3, .object "ManorRolls$Right"), (E.2 4, .object "ManorRolls$Suit")]
abbrev e_K (E : En) (U : State) : Prop := va_K E.1 vwCl (e_tys E) U ∧ va_AO "ManorRolls$Person" U ∧ va_AO "ManorRolls$Right" U ∧ va_AO "ManorRolls$Suit" U ∧ va_Nw (.methodLinkNest RX7 27 yX3_init "ManorRolls") U
def hf (ws : va_W) : HF := fun a => (ws.find? (fun q => q.1 == a)).map (fun q => q.2)
def hset (h : HF) (a : Nat) (e : va_E) : HF := fun b => if b = a then some e else h b
theorem hset_same (h : HF) (a : Nat) (e : va_E) : hset h a e a = some e := by simp [hset]
theorem hset_ne (h : HF) {a b : Nat} (e : va_E) (hn : b ≠ a) : hset h a e b = h b := by simp [hset, hn]
theorem hf_mem {ws : va_W} {a : Nat} {e : va_E} (h : hf ws a = some e) : ∃ k : Nat, ws[k]? = some (a, e) := by
  unfold hf at h
  cases hq : ws.find? (fun q => q.1 == a) with
  | none => rw [hq] at h; cases h
  | some q =>
    rw [hq] at h
    have h1 := List.mem_of_find?_eq_some hq
    have h2 := List.find?_some hq
    obtain ⟨k, hk⟩ := List.getElem?_of_mem h1
    have h3 : q.1 = a := by simpa using h2
    have h4 : q.2 = e := by simpa using h
    exact ⟨k, by rw [hk, ← h3, ← h4]⟩
theorem hf_of {A : Nat → Prop} {ws : va_W} {a k : Nat} {e : va_E} (hD : va_D A ws) (hk : ws[k]? = some (a, e)) : hf ws a = some e := by
  cases hq : hf ws a with
  | none =>
    exfalso
    have hm : (a, e) ∈ ws := List.mem_of_getElem? hk
    unfold hf at hq
    rw [Option.map_eq_none_iff, List.find?_eq_none] at hq
    exact hq _ hm (by simp)
  | some e' =>
    obtain ⟨k', hk'⟩ := hf_mem hq
    have := hD.1 k k' _ _ hk hk' rfl
    subst this
    rw [hk] at hk'
    cases hk'
    rfl
theorem hf_ext {ws ws' : va_W} {A A' : Nat → Prop} {b : Nat} (hD : va_D A ws) (hD' : va_D A' ws') (h : ∀ e, (∃ j : Nat, ws[j]? = some (b, e)) ↔ ∃ j : Nat, ws'[j]? = some (b, e)) : hf ws b = hf ws' b := by
  cases hq : hf ws b with
  | some e =>
    obtain ⟨j, hj⟩ := (h e).mp (hf_mem hq)
    exact (hf_of hD' hj).symm
  | none =>
    cases hq' : hf ws' b with
    | none => rfl
    | some e =>
      obtain ⟨j, hj⟩ := (h e).mpr (hf_mem hq')
      rw [hf_of hD hj] at hq
      cases hq
theorem hf_set {A : Nat → Prop} {ws : va_W} {a k : Nat} {e0 e : va_E} (hD : va_D A ws) (hk : ws[k]? = some (a, e0)) : hf (ws.set k (a, e)) = hset (hf ws) a e := by
  have hl := (List.getElem?_eq_some_iff.mp hk).1
  funext b
  by_cases hb : b = a
  · subst hb
    rw [hset_same]
    exact hf_of (hD.set hk) (List.getElem?_set_self hl)
  · rw [hset_ne _ _ hb]
    refine hf_ext (hD.set hk) hD (fun e' => ⟨fun ⟨j, hj⟩ => ?_, fun ⟨j, hj⟩ => ?_⟩)
    · by_cases hjk : j = k
      · subst hjk
        rw [List.getElem?_set_self hl] at hj
        cases hj
        exact absurd rfl hb
      · rw [List.getElem?_set_ne (Ne.symm hjk)] at hj
        exact ⟨j, hj⟩
    · by_cases hjk : j = k
      · subst hjk
        rw [hk] at hj
        cases hj
        exact absurd rfl hb
      · exact ⟨j, by rw [List.getElem?_set_ne (Ne.symm hjk)]; exact hj⟩
theorem hf_push {A : Nat → Prop} {ws : va_W} {a : Nat} {e : va_E} (hD : va_D A ws) (hD' : va_D A (ws ++ [(a, e)])) : hf (ws ++ [(a, e)]) = hset (hf ws) a e := by
  funext b
  by_cases hb : b = a
  · subst hb
    rw [hset_same]
    exact hf_of (k := ws.length) hD' (by simp)
  · rw [hset_ne _ _ hb]
    refine hf_ext hD' hD (fun e' => ⟨fun ⟨j, hj⟩ => ?_, fun ⟨j, hj⟩ => ?_⟩)
    · by_cases hjk : j < ws.length
      · rw [List.getElem?_append_left hjk] at hj
        exact ⟨j, hj⟩
      · rw [List.getElem?_append_right (Nat.le_of_not_lt hjk)] at hj
        have hz : j - ws.length < 1 := (List.getElem?_eq_some_iff.mp hj).1
        rw [show j - ws.length = 0 by omega] at hj
        cases hj
        exact absurd rfl hb
    · have hjk := (List.getElem?_eq_some_iff.mp hj).1
      exact ⟨j, by rw [List.getElem?_append_left hjk]; exact hj⟩
theorem hf_fresh {A : Nat → Prop} {ws : va_W} {a : Nat} {e : va_E} (hD' : va_D A (ws ++ [(a, e)])) : hf ws a = none := by
  cases hq : hf ws a with
  | none => rfl
  | some e' =>
    exfalso
    obtain ⟨k, hk⟩ := hf_mem hq
    have hl := (List.getElem?_eq_some_iff.mp hk).1
    have h1 : (ws ++ [(a, e)])[k]? = some (a, e') := by rw [List.getElem?_append_left hl]; exact hk
    have h2 : (ws ++ [(a, e)])[ws.length]? = some (a, e) := by simp
    have := hD'.1 _ _ _ _ h1 h2 rfl
    omega
/-! locals as a list by places -/
def lvs (ls : Array Slot) (nL : Nat) (lv : LV) : Prop := lv.length = nL ∧ ls.size = nL ∧ lv_wf ls ∧ ∀ (i : Nat) (v : Value), lv[i]? = some (some v) → ls[i]? = some (.val v)
def lva (lv : LV) : List (Nat × Value) := (List.range lv.length).filterMap (fun i => match lv[i]? with
  | some (some v) => some (i, v)
  | _ => none)
theorem lva_mem {lv : LV} {q : Nat × Value} : q ∈ lva lv ↔ lv[q.1]? = some (some q.2) := by
  unfold lva
  rw [List.mem_filterMap]
  constructor
  · rintro ⟨i, -, hi⟩
    cases hv : lv[i]? with
    | none => rw [hv] at hi; cases hi
    | some ov =>
      rw [hv] at hi
      cases ov with
      | none => cases hi
      | some v => cases hi; exact hv
  · intro h
    have hl := (List.getElem?_eq_some_iff.mp h).1
    exact ⟨q.1, List.mem_range.mpr hl, by rw [h]⟩
theorem lvs_has {ls : Array Slot} {nL : Nat} {lv : LV} (h : lvs ls nL lv) : lv_has ls nL (lva lv) := ⟨h.2.1, h.2.2.1, fun q hq => h.2.2.2 _ _ (lva_mem.mp hq)⟩
def ok1 (lv : LV) (i : Nat) : Bool := match i with
  | 0 => true
  | k + 1 => match lv[k]? with
    | some (some v) => v.category == 1
    | _ => true
theorem ok1_spec {lv : LV} {i j : Nat} {v : Value} (h : ok1 lv i = true) (hj : j + 1 = i) (hv : lv[j]? = some (some v)) : v.category = 1 := by
  subst hj
  simpa [ok1, hv] using h
theorem lvs_set1 {ls' : Array Slot} {nL i : Nat} {lv : LV} {v : Value} (h0 : lv.length = nL) (h : lv_has ls' nL ((i, v) :: (lva lv).filter (fun q => !(q.1 == i) && !(q.1 + 1 == i && q.2.category == 2)))) (hk : ok1 lv i = true) : lvs ls' nL (lv.set i (some v)) := by
  refine ⟨by rw [List.length_set]; exact h0, h.1, h.2.1, fun j w hj => ?_⟩
  by_cases hji : j = i
  · subst hji
    have hl := (List.getElem?_eq_some_iff.mp hj).1
    rw [List.length_set] at hl
    rw [List.getElem?_set_self hl] at hj
    cases hj
    exact h.2.2 (j, v) List.mem_cons_self
  · rw [List.getElem?_set_ne (Ne.symm hji)] at hj
    refine h.2.2 (j, w) (List.mem_cons_of_mem _ (List.mem_filter.mpr ⟨lva_mem.mpr hj, ?_⟩))
    by_cases hj1 : j + 1 = i
    · have := ok1_spec hk hj1 hj
      simp [hji, this]
    · simp [hji, hj1]
theorem lvs_set2 {ls' : Array Slot} {nL i : Nat} {lv : LV} {v : Value} (h0 : lv.length = nL) (h : lv_has ls' nL ((i, v) :: (lva lv).filter (fun q => !(q.1 == i) && (!(q.1 == i + 1) && !(q.1 + 1 == i && q.2.category == 2))))) (hk : ok1 lv i = true) : lvs ls' nL ((lv.set i (some v)).set (i + 1) none) := by
  refine ⟨by rw [List.length_set, List.length_set]; exact h0, h.1, h.2.1, fun j w hj => ?_⟩
  have hl := (List.getElem?_eq_some_iff.mp hj).1
  by_cases hji : j = i + 1
  · subst hji
    rw [List.length_set] at hl
    rw [List.getElem?_set_self hl] at hj
    cases hj
  · rw [List.getElem?_set_ne (Ne.symm hji)] at hj
    by_cases hji2 : j = i
    · subst hji2
      rw [List.length_set, List.length_set] at hl
      rw [List.getElem?_set_self hl] at hj
      cases hj
      exact h.2.2 (j, v) List.mem_cons_self
    · rw [List.getElem?_set_ne (Ne.symm hji2)] at hj
      refine h.2.2 (j, w) (List.mem_cons_of_mem _ (List.mem_filter.mpr ⟨lva_mem.mpr hj, ?_⟩))
      by_cases hj1 : j + 1 = i
      · have := ok1_spec hk hj1 hj
        simp [hji, hji2, this]
      · simp [hji, hji2, hj1]
/-- fewer locals known -/
def lvle (a b : LV) : Prop := a.length = b.length ∧ ∀ (i : Nat) (v : Value), a[i]? = some (some v) → b[i]? = some (some v)
theorem lvs_le {ls : Array Slot} {nL : Nat} {a b : LV} (h : lvs ls nL b) (hab : lvle a b) : lvs ls nL a := ⟨hab.1.trans h.1, h.2.1, h.2.2.1, fun i v hv => h.2.2.2 i v (hab.2 i v hv)⟩
def lvleB : LV → LV → Prop
  | [], [] => True
  | none :: a, _ :: b => lvleB a b
  | some v :: a, x :: b => x = some v ∧ lvleB a b
  | _, _ => False
theorem lvle_of : ∀ {a b : LV}, lvleB a b → lvle a b
  | [], [], _ => ⟨rfl, fun i v h => by simp at h⟩
  | none :: a, _ :: b, h => by
    have h2 := lvle_of (a := a) (b := b) h
    refine ⟨by simp [h2.1], fun i v hv => ?_⟩
    cases i with
    | zero => simp at hv
    | succ i => simp only [List.getElem?_cons_succ] at hv ⊢; exact h2.2 i v hv
  | some v :: a, x :: b, h => by
    obtain ⟨hx, h⟩ := h
    have h2 := lvle_of (a := a) (b := b) h
    refine ⟨by simp [h2.1], fun i v hv => ?_⟩
    cases i with
    | zero => simp at hv; simp [hx, hv]
    | succ i => simp only [List.getElem?_cons_succ] at hv ⊢; exact h2.2 i v hv
  | [], _ :: _, h => absurd h id
  | none :: _, [], h => absurd h id
  | some _ :: _, [], h => absurd h id
/-! the judgement -/
def J0 (p : Program) (l : Launch) (e : Env) (R : Room) (s : State) (m : MethodId) (args : Array Value) (below : List Frame) (meth : Method) (c : Code) (E : En) (A : Nat → Prop) (nL : Nat) (Q : State → Prop) (P : HP) (ce sl pc : Nat) (lv : LV) (st : List Value) : Prop :=
  ∀ (H : Heap) (locs : List Loc) (ls : Array Slot) (ws : va_W), va_P E.1 vwCl ws H → va_D A ws → P (hf ws) → va_S A s.heap H locs → lvs ls nL lv → W p l e R s m args below meth c H locs ce sl Q (F0 m pc ls st)
abbrev Jt : Type := HP → Nat → Nat → Nat → LV → List Value → Prop
abbrev Ft : Type := Option Value → HP → Nat → Nat → Prop
def retI : Option Value → Instr
  | none => .return_
  | some (.int _) => .ireturn
  | some (.long _) => .lreturn
  | _ => .areturn
def retOk (ret : Option FieldType) (v : Option Value) : Prop := match v, ret with
  | none, none => True
  | some (.int x), some ty => narrow ty (.int x) = .int x
  | some (.long _), some .long => True
  | some (.ref _), some (.object _) => True
  | some (.ref _), some (.array _) => True
  | some .null, some (.object _) => True
  | _, _ => False
def Ok (l : Launch) (E : En) (cc : ByteArray) (own nm : String) (nL : Nat) (R : Room) (ret : Option FieldType) (Fn : Ft) (J : Jt) : Prop :=
  ∃ (p : Program) (e : Env) (s : State) (m : MethodId) (args : Array Value) (below : List Frame) (meth : Method) (c : Code) (A : Nat → Prop) (Q : State → Prop),
    J = J0 p l e R s m args below meth c E A nL Q ∧ p.tables.exec = Jvm.exec ∧ c.code = cc ∧ c.maxLocals = nL ∧ s.vm.findClass own = some m.cls ∧ (∀ w ∈ wsL_law, w.before args s = true) ∧ e_K E s ∧ (∀ q, s.heap.size ≤ q → A q) ∧ meth.name = nm ∧
    (∀ (v : Option Value) (P : HP) (ce sl pc : Nat) (lv : LV), Fn v P ce sl → retOk ret v → decode cc pc = .ok (retI v, 1) → J0 p l e R s m args below meth c E A nL Q P ce sl pc lv v.toList)

theorem x_iconst {l : Launch} {E : En} {cc : ByteArray} {own nm : String} {nL : Nat} {R : Room} {ret : Option FieldType} {Fn : Ft} {J : Jt} (O : Ok l E cc own nm nL R ret Fn J) {pc : Nat} {n : Int} {v : Int32} {P : HP} {ce sl : Nat} {lv : LV} {st : List Value} (d : decode cc pc = .ok (.iconst n, 1)) (hv : Int32.ofInt n = v) (k : J P ce sl (pc + 1) lv (.int v :: st)) : J P ce sl pc lv st := by
  obtain ⟨p, e, s, m, args, below, meth, c, A, Q, rfl, hx, hb, C⟩ := O
  intro H locs ls ws h1 h2 h3 h4 h5
  exact lv_iconst hx hb d hv (k H locs ls ws h1 h2 h3 h4 h5)
theorem x_bipush {l : Launch} {E : En} {cc : ByteArray} {own nm : String} {nL : Nat} {R : Room} {ret : Option FieldType} {Fn : Ft} {J : Jt} (O : Ok l E cc own nm nL R ret Fn J) {pc : Nat} {n : Int} {v : Int32} {P : HP} {ce sl : Nat} {lv : LV} {st : List Value} (d : decode cc pc = .ok (.bipush n, 2)) (hv : (Int8.ofInt n).toInt32 = v) (k : J P ce sl (pc + 2) lv (.int v :: st)) : J P ce sl pc lv st := by
  obtain ⟨p, e, s, m, args, below, meth, c, A, Q, rfl, hx, hb, C⟩ := O
  intro H locs ls ws h1 h2 h3 h4 h5
  exact lv_bipush hx hb d hv (k H locs ls ws h1 h2 h3 h4 h5)
theorem x_sipush {l : Launch} {E : En} {cc : ByteArray} {own nm : String} {nL : Nat} {R : Room} {ret : Option FieldType} {Fn : Ft} {J : Jt} (O : Ok l E cc own nm nL R ret Fn J) {pc : Nat} {n : Int} {v : Int32} {P : HP} {ce sl : Nat} {lv : LV} {st : List Value} (d : decode cc pc = .ok (.sipush n, 3)) (hv : (Int16.ofInt n).toInt32 = v) (k : J P ce sl (pc + 3) lv (.int v :: st)) : J P ce sl pc lv st := by
  obtain ⟨p, e, s, m, args, below, meth, c, A, Q, rfl, hx, hb, C⟩ := O
  intro H locs ls ws h1 h2 h3 h4 h5
  exact lv_sipush hx hb d hv (k H locs ls ws h1 h2 h3 h4 h5)
theorem x_lconst {l : Launch} {E : En} {cc : ByteArray} {own nm : String} {nL : Nat} {R : Room} {ret : Option FieldType} {Fn : Ft} {J : Jt} (O : Ok l E cc own nm nL R ret Fn J) {pc : Nat} {n : Fin 2} {v : Int64} {P : HP} {ce sl : Nat} {lv : LV} {st : List Value} (d : decode cc pc = .ok (.lconst n, 1)) (hv : Int64.ofNat (n : Nat) = v) (k : J P ce sl (pc + 1) lv (.long v :: st)) : J P ce sl pc lv st := by
  obtain ⟨p, e, s, m, args, below, meth, c, A, Q, rfl, hx, hb, C⟩ := O
  intro H locs ls ws h1 h2 h3 h4 h5
  exact lv_lconst hx hb d hv (k H locs ls ws h1 h2 h3 h4 h5)
theorem x_null {l : Launch} {E : En} {cc : ByteArray} {own nm : String} {nL : Nat} {R : Room} {ret : Option FieldType} {Fn : Ft} {J : Jt} (O : Ok l E cc own nm nL R ret Fn J) {pc : Nat}  {P : HP} {ce sl : Nat} {lv : LV} {st : List Value} (d : decode cc pc = .ok (.aconst_null, 1))  (k : J P ce sl (pc + 1) lv (.null :: st)) : J P ce sl pc lv st := by
  obtain ⟨p, e, s, m, args, below, meth, c, A, Q, rfl, hx, hb, C⟩ := O
  intro H locs ls ws h1 h2 h3 h4 h5
  exact lv_null hx hb d  (k H locs ls ws h1 h2 h3 h4 h5)
theorem x_iadd {l : Launch} {E : En} {cc : ByteArray} {own nm : String} {nL : Nat} {R : Room} {ret : Option FieldType} {Fn : Ft} {J : Jt} (O : Ok l E cc own nm nL R ret Fn J) {pc : Nat} {x y : Int32} {P : HP} {ce sl : Nat} {lv : LV} {st : List Value} (d : decode cc pc = .ok (.iadd, 1))  (k : J P ce sl (pc + 1) lv (.int (x + y) :: st)) : J P ce sl pc lv (.int y :: .int x :: st) := by
  obtain ⟨p, e, s, m, args, below, meth, c, A, Q, rfl, hx, hb, C⟩ := O
  intro H locs ls ws h1 h2 h3 h4 h5
  exact lv_iadd hx hb d  (k H locs ls ws h1 h2 h3 h4 h5)
theorem x_isub {l : Launch} {E : En} {cc : ByteArray} {own nm : String} {nL : Nat} {R : Room} {ret : Option FieldType} {Fn : Ft} {J : Jt} (O : Ok l E cc own nm nL R ret Fn J) {pc : Nat} {x y : Int32} {P : HP} {ce sl : Nat} {lv : LV} {st : List Value} (d : decode cc pc = .ok (.isub, 1))  (k : J P ce sl (pc + 1) lv (.int (x - y) :: st)) : J P ce sl pc lv (.int y :: .int x :: st) := by
  obtain ⟨p, e, s, m, args, below, meth, c, A, Q, rfl, hx, hb, C⟩ := O
  intro H locs ls ws h1 h2 h3 h4 h5
  exact lv_isub hx hb d  (k H locs ls ws h1 h2 h3 h4 h5)
theorem x_imul {l : Launch} {E : En} {cc : ByteArray} {own nm : String} {nL : Nat} {R : Room} {ret : Option FieldType} {Fn : Ft} {J : Jt} (O : Ok l E cc own nm nL R ret Fn J) {pc : Nat} {x y : Int32} {P : HP} {ce sl : Nat} {lv : LV} {st : List Value} (d : decode cc pc = .ok (.imul, 1))  (k : J P ce sl (pc + 1) lv (.int (x * y) :: st)) : J P ce sl pc lv (.int y :: .int x :: st) := by
  obtain ⟨p, e, s, m, args, below, meth, c, A, Q, rfl, hx, hb, C⟩ := O
  intro H locs ls ws h1 h2 h3 h4 h5
  exact lv_imul hx hb d  (k H locs ls ws h1 h2 h3 h4 h5)
theorem x_iand {l : Launch} {E : En} {cc : ByteArray} {own nm : String} {nL : Nat} {R : Room} {ret : Option FieldType} {Fn : Ft} {J : Jt} (O : Ok l E cc own nm nL R ret Fn J) {pc : Nat} {x y : Int32} {P : HP} {ce sl : Nat} {lv : LV} {st : List Value} (d : decode cc pc = .ok (.iand, 1))  (k : J P ce sl (pc + 1) lv (.int (x &&& y) :: st)) : J P ce sl pc lv (.int y :: .int x :: st) := by
  obtain ⟨p, e, s, m, args, below, meth, c, A, Q, rfl, hx, hb, C⟩ := O
  intro H locs ls ws h1 h2 h3 h4 h5
  exact lv_iand hx hb d  (k H locs ls ws h1 h2 h3 h4 h5)
theorem x_ladd {l : Launch} {E : En} {cc : ByteArray} {own nm : String} {nL : Nat} {R : Room} {ret : Option FieldType} {Fn : Ft} {J : Jt} (O : Ok l E cc own nm nL R ret Fn J) {pc : Nat} {x y : Int64} {P : HP} {ce sl : Nat} {lv : LV} {st : List Value} (d : decode cc pc = .ok (.ladd, 1))  (k : J P ce sl (pc + 1) lv (.long (x + y) :: st)) : J P ce sl pc lv (.long y :: .long x :: st) := by
  obtain ⟨p, e, s, m, args, below, meth, c, A, Q, rfl, hx, hb, C⟩ := O
  intro H locs ls ws h1 h2 h3 h4 h5
  exact lv_ladd hx hb d  (k H locs ls ws h1 h2 h3 h4 h5)
theorem x_lsub {l : Launch} {E : En} {cc : ByteArray} {own nm : String} {nL : Nat} {R : Room} {ret : Option FieldType} {Fn : Ft} {J : Jt} (O : Ok l E cc own nm nL R ret Fn J) {pc : Nat} {x y : Int64} {P : HP} {ce sl : Nat} {lv : LV} {st : List Value} (d : decode cc pc = .ok (.lsub, 1))  (k : J P ce sl (pc + 1) lv (.long (x - y) :: st)) : J P ce sl pc lv (.long y :: .long x :: st) := by
  obtain ⟨p, e, s, m, args, below, meth, c, A, Q, rfl, hx, hb, C⟩ := O
  intro H locs ls ws h1 h2 h3 h4 h5
  exact lv_lsub hx hb d  (k H locs ls ws h1 h2 h3 h4 h5)
theorem x_land {l : Launch} {E : En} {cc : ByteArray} {own nm : String} {nL : Nat} {R : Room} {ret : Option FieldType} {Fn : Ft} {J : Jt} (O : Ok l E cc own nm nL R ret Fn J) {pc : Nat} {x y : Int64} {P : HP} {ce sl : Nat} {lv : LV} {st : List Value} (d : decode cc pc = .ok (.land, 1))  (k : J P ce sl (pc + 1) lv (.long (x &&& y) :: st)) : J P ce sl pc lv (.long y :: .long x :: st) := by
  obtain ⟨p, e, s, m, args, below, meth, c, A, Q, rfl, hx, hb, C⟩ := O
  intro H locs ls ws h1 h2 h3 h4 h5
  exact lv_land hx hb d  (k H locs ls ws h1 h2 h3 h4 h5)
theorem x_lor {l : Launch} {E : En} {cc : ByteArray} {own nm : String} {nL : Nat} {R : Room} {ret : Option FieldType} {Fn : Ft} {J : Jt} (O : Ok l E cc own nm nL R ret Fn J) {pc : Nat} {x y : Int64} {P : HP} {ce sl : Nat} {lv : LV} {st : List Value} (d : decode cc pc = .ok (.lor, 1))  (k : J P ce sl (pc + 1) lv (.long (x ||| y) :: st)) : J P ce sl pc lv (.long y :: .long x :: st) := by
  obtain ⟨p, e, s, m, args, below, meth, c, A, Q, rfl, hx, hb, C⟩ := O
  intro H locs ls ws h1 h2 h3 h4 h5
  exact lv_lor hx hb d  (k H locs ls ws h1 h2 h3 h4 h5)
theorem x_lxor {l : Launch} {E : En} {cc : ByteArray} {own nm : String} {nL : Nat} {R : Room} {ret : Option FieldType} {Fn : Ft} {J : Jt} (O : Ok l E cc own nm nL R ret Fn J) {pc : Nat} {x y : Int64} {P : HP} {ce sl : Nat} {lv : LV} {st : List Value} (d : decode cc pc = .ok (.lxor, 1))  (k : J P ce sl (pc + 1) lv (.long (x ^^^ y) :: st)) : J P ce sl pc lv (.long y :: .long x :: st) := by
  obtain ⟨p, e, s, m, args, below, meth, c, A, Q, rfl, hx, hb, C⟩ := O
  intro H locs ls ws h1 h2 h3 h4 h5
  exact lv_lxor hx hb d  (k H locs ls ws h1 h2 h3 h4 h5)
theorem x_idiv {l : Launch} {E : En} {cc : ByteArray} {own nm : String} {nL : Nat} {R : Room} {ret : Option FieldType} {Fn : Ft} {J : Jt} (O : Ok l E cc own nm nL R ret Fn J) {pc : Nat} {x y : Int32} {P : HP} {ce sl : Nat} {lv : LV} {st : List Value} (d : decode cc pc = .ok (.idiv, 1)) (hne : ¬ y = 0) (k : J P ce sl (pc + 1) lv (.int (x / y) :: st)) : J P ce sl pc lv (.int y :: .int x :: st) := by
  obtain ⟨p, e, s, m, args, below, meth, c, A, Q, rfl, hx, hb, C⟩ := O
  intro H locs ls ws h1 h2 h3 h4 h5
  exact lv_idiv hx hb d hne (k H locs ls ws h1 h2 h3 h4 h5)
theorem x_irem {l : Launch} {E : En} {cc : ByteArray} {own nm : String} {nL : Nat} {R : Room} {ret : Option FieldType} {Fn : Ft} {J : Jt} (O : Ok l E cc own nm nL R ret Fn J) {pc : Nat} {x y : Int32} {P : HP} {ce sl : Nat} {lv : LV} {st : List Value} (d : decode cc pc = .ok (.irem, 1)) (hne : ¬ y = 0) (k : J P ce sl (pc + 1) lv (.int (x - x / y * y) :: st)) : J P ce sl pc lv (.int y :: .int x :: st) := by
  obtain ⟨p, e, s, m, args, below, meth, c, A, Q, rfl, hx, hb, C⟩ := O
  intro H locs ls ws h1 h2 h3 h4 h5
  exact lv_irem hx hb d hne (k H locs ls ws h1 h2 h3 h4 h5)
theorem x_lneg {l : Launch} {E : En} {cc : ByteArray} {own nm : String} {nL : Nat} {R : Room} {ret : Option FieldType} {Fn : Ft} {J : Jt} (O : Ok l E cc own nm nL R ret Fn J) {pc : Nat} {x : Int64} {P : HP} {ce sl : Nat} {lv : LV} {st : List Value} (d : decode cc pc = .ok (.lneg, 1))  (k : J P ce sl (pc + 1) lv (.long (-x) :: st)) : J P ce sl pc lv (.long x :: st) := by
  obtain ⟨p, e, s, m, args, below, meth, c, A, Q, rfl, hx, hb, C⟩ := O
  intro H locs ls ws h1 h2 h3 h4 h5
  exact lv_lneg hx hb d  (k H locs ls ws h1 h2 h3 h4 h5)
theorem x_lshl {l : Launch} {E : En} {cc : ByteArray} {own nm : String} {nL : Nat} {R : Room} {ret : Option FieldType} {Fn : Ft} {J : Jt} (O : Ok l E cc own nm nL R ret Fn J) {pc : Nat} {x : Int64} {y : Int32} {P : HP} {ce sl : Nat} {lv : LV} {st : List Value} (d : decode cc pc = .ok (.lshl, 1))  (k : J P ce sl (pc + 1) lv (.long (x <<< (y.toInt64 &&& 63)) :: st)) : J P ce sl pc lv (.int y :: .long x :: st) := by
  obtain ⟨p, e, s, m, args, below, meth, c, A, Q, rfl, hx, hb, C⟩ := O
  intro H locs ls ws h1 h2 h3 h4 h5
  exact lv_lshl hx hb d rfl (k H locs ls ws h1 h2 h3 h4 h5)
theorem x_lshr {l : Launch} {E : En} {cc : ByteArray} {own nm : String} {nL : Nat} {R : Room} {ret : Option FieldType} {Fn : Ft} {J : Jt} (O : Ok l E cc own nm nL R ret Fn J) {pc : Nat} {x : Int64} {y : Int32} {P : HP} {ce sl : Nat} {lv : LV} {st : List Value} (d : decode cc pc = .ok (.lshr, 1))  (k : J P ce sl (pc + 1) lv (.long (x >>> (y.toInt64 &&& 63)) :: st)) : J P ce sl pc lv (.int y :: .long x :: st) := by
  obtain ⟨p, e, s, m, args, below, meth, c, A, Q, rfl, hx, hb, C⟩ := O
  intro H locs ls ws h1 h2 h3 h4 h5
  exact lv_lshr hx hb d rfl (k H locs ls ws h1 h2 h3 h4 h5)
theorem x_lushr {l : Launch} {E : En} {cc : ByteArray} {own nm : String} {nL : Nat} {R : Room} {ret : Option FieldType} {Fn : Ft} {J : Jt} (O : Ok l E cc own nm nL R ret Fn J) {pc : Nat} {x : Int64} {y : Int32} {P : HP} {ce sl : Nat} {lv : LV} {st : List Value} (d : decode cc pc = .ok (.lushr, 1))  (k : J P ce sl (pc + 1) lv (.long ((x.toUInt64 >>> (y.toInt64.toUInt64 &&& Int64.toUInt64 63)).toInt64) :: st)) : J P ce sl pc lv (.int y :: .long x :: st) := by
  obtain ⟨p, e, s, m, args, below, meth, c, A, Q, rfl, hx, hb, C⟩ := O
  intro H locs ls ws h1 h2 h3 h4 h5
  exact lv_lushr hx hb d rfl (k H locs ls ws h1 h2 h3 h4 h5)
theorem x_l2i {l : Launch} {E : En} {cc : ByteArray} {own nm : String} {nL : Nat} {R : Room} {ret : Option FieldType} {Fn : Ft} {J : Jt} (O : Ok l E cc own nm nL R ret Fn J) {pc : Nat} {x : Int64} {P : HP} {ce sl : Nat} {lv : LV} {st : List Value} (d : decode cc pc = .ok (.l2i, 1))  (k : J P ce sl (pc + 1) lv (.int x.toInt32 :: st)) : J P ce sl pc lv (.long x :: st) := by
  obtain ⟨p, e, s, m, args, below, meth, c, A, Q, rfl, hx, hb, C⟩ := O
  intro H locs ls ws h1 h2 h3 h4 h5
  exact lv_l2i hx hb d rfl (k H locs ls ws h1 h2 h3 h4 h5)
theorem x_lcmp {l : Launch} {E : En} {cc : ByteArray} {own nm : String} {nL : Nat} {R : Room} {ret : Option FieldType} {Fn : Ft} {J : Jt} (O : Ok l E cc own nm nL R ret Fn J) {pc : Nat} {x y : Int64} {P : HP} {ce sl : Nat} {lv : LV} {st : List Value} (d : decode cc pc = .ok (.lcmp, 1))  (k : J P ce sl (pc + 1) lv (.int (lg_cmp x y) :: st)) : J P ce sl pc lv (.long y :: .long x :: st) := by
  obtain ⟨p, e, s, m, args, below, meth, c, A, Q, rfl, hx, hb, C⟩ := O
  intro H locs ls ws h1 h2 h3 h4 h5
  exact W.lcmp hx hb d  (k H locs ls ws h1 h2 h3 h4 h5)
theorem x_dup {l : Launch} {E : En} {cc : ByteArray} {own nm : String} {nL : Nat} {R : Room} {ret : Option FieldType} {Fn : Ft} {J : Jt} (O : Ok l E cc own nm nL R ret Fn J) {pc : Nat} {v : Value} {P : HP} {ce sl : Nat} {lv : LV} {st : List Value} (d : decode cc pc = .ok (.dup, 1)) (hv : v.category = 1) (k : J P ce sl (pc + 1) lv (v :: v :: st)) : J P ce sl pc lv (v :: st) := by
  obtain ⟨p, e, s, m, args, below, meth, c, A, Q, rfl, hx, hb, C⟩ := O
  intro H locs ls ws h1 h2 h3 h4 h5
  exact lv_dup hx hb d hv (k H locs ls ws h1 h2 h3 h4 h5)
theorem x_pop {l : Launch} {E : En} {cc : ByteArray} {own nm : String} {nL : Nat} {R : Room} {ret : Option FieldType} {Fn : Ft} {J : Jt} (O : Ok l E cc own nm nL R ret Fn J) {pc : Nat} {v : Value} {P : HP} {ce sl : Nat} {lv : LV} {st : List Value} (d : decode cc pc = .ok (.pop, 1)) (hv : v.category = 1) (k : J P ce sl (pc + 1) lv st) : J P ce sl pc lv (v :: st) := by
  obtain ⟨p, e, s, m, args, below, meth, c, A, Q, rfl, hx, hb, C⟩ := O
  intro H locs ls ws h1 h2 h3 h4 h5
  exact lv_pop hx hb d hv (k H locs ls ws h1 h2 h3 h4 h5)
theorem x_dup2 {l : Launch} {E : En} {cc : ByteArray} {own nm : String} {nL : Nat} {R : Room} {ret : Option FieldType} {Fn : Ft} {J : Jt} (O : Ok l E cc own nm nL R ret Fn J) {pc : Nat} {v u : Value} {P : HP} {ce sl : Nat} {lv : LV} {st : List Value} (d : decode cc pc = .ok (.dup2, 1)) (hv : v.category = 1) (hu : u.category = 1) (k : J P ce sl (pc + 1) lv (v :: u :: v :: u :: st)) : J P ce sl pc lv (v :: u :: st) := by
  obtain ⟨p, e, s, m, args, below, meth, c, A, Q, rfl, hx, hb, C⟩ := O
  intro H locs ls ws h1 h2 h3 h4 h5
  exact lv_dup2_11 hx hb d hv hu (k H locs ls ws h1 h2 h3 h4 h5)
theorem x_dup2l {l : Launch} {E : En} {cc : ByteArray} {own nm : String} {nL : Nat} {R : Room} {ret : Option FieldType} {Fn : Ft} {J : Jt} (O : Ok l E cc own nm nL R ret Fn J) {pc : Nat} {v : Value} {P : HP} {ce sl : Nat} {lv : LV} {st : List Value} (d : decode cc pc = .ok (.dup2, 1)) (hv : v.category = 2) (k : J P ce sl (pc + 1) lv (v :: v :: st)) : J P ce sl pc lv (v :: st) := by
  obtain ⟨p, e, s, m, args, below, meth, c, A, Q, rfl, hx, hb, C⟩ := O
  intro H locs ls ws h1 h2 h3 h4 h5
  exact lv_dup2_2 hx hb d hv (k H locs ls ws h1 h2 h3 h4 h5)
theorem x_iload_n {l : Launch} {E : En} {cc : ByteArray} {own nm : String} {nL : Nat} {R : Room} {ret : Option FieldType} {Fn : Ft} {J : Jt} (O : Ok l E cc own nm nL R ret Fn J) {pc : Nat} {j : Fin 4} {x : Int32} {P : HP} {ce sl : Nat} {lv : LV} {st : List Value} (d : decode cc pc = .ok (.iload_n j, 1)) (hl : lv[(j : Nat)]? = some (some (.int x))) (k : J P ce sl (pc + 1) lv (.int x :: st)) : J P ce sl pc lv st := by
  obtain ⟨p, e, s, m, args, below, meth, c, A, Q, rfl, hx, hb, C⟩ := O
  intro H locs ls ws h1 h2 h3 h4 h5
  exact lv_iload_n hx hb d rfl (h5.2.2.2 _ _ hl) (k H locs ls ws h1 h2 h3 h4 h5)
theorem x_iload {l : Launch} {E : En} {cc : ByteArray} {own nm : String} {nL : Nat} {R : Room} {ret : Option FieldType} {Fn : Ft} {J : Jt} (O : Ok l E cc own nm nL R ret Fn J) {pc : Nat} {j : Nat} {x : Int32} {P : HP} {ce sl : Nat} {lv : LV} {st : List Value} (d : decode cc pc = .ok (.iload j, 2)) (hl : lv[j]? = some (some (.int x))) (k : J P ce sl (pc + 2) lv (.int x :: st)) : J P ce sl pc lv st := by
  obtain ⟨p, e, s, m, args, below, meth, c, A, Q, rfl, hx, hb, C⟩ := O
  intro H locs ls ws h1 h2 h3 h4 h5
  exact lv_iload hx hb d (h5.2.2.2 _ _ hl) (k H locs ls ws h1 h2 h3 h4 h5)
theorem x_lload_n {l : Launch} {E : En} {cc : ByteArray} {own nm : String} {nL : Nat} {R : Room} {ret : Option FieldType} {Fn : Ft} {J : Jt} (O : Ok l E cc own nm nL R ret Fn J) {pc : Nat} {j : Fin 4} {x : Int64} {P : HP} {ce sl : Nat} {lv : LV} {st : List Value} (d : decode cc pc = .ok (.lload_n j, 1)) (hl : lv[(j : Nat)]? = some (some (.long x))) (k : J P ce sl (pc + 1) lv (.long x :: st)) : J P ce sl pc lv st := by
  obtain ⟨p, e, s, m, args, below, meth, c, A, Q, rfl, hx, hb, C⟩ := O
  intro H locs ls ws h1 h2 h3 h4 h5
  exact lv_lload_n hx hb d rfl (h5.2.2.2 _ _ hl) (k H locs ls ws h1 h2 h3 h4 h5)
theorem x_lload {l : Launch} {E : En} {cc : ByteArray} {own nm : String} {nL : Nat} {R : Room} {ret : Option FieldType} {Fn : Ft} {J : Jt} (O : Ok l E cc own nm nL R ret Fn J) {pc : Nat} {j : Nat} {x : Int64} {P : HP} {ce sl : Nat} {lv : LV} {st : List Value} (d : decode cc pc = .ok (.lload j, 2)) (hl : lv[j]? = some (some (.long x))) (k : J P ce sl (pc + 2) lv (.long x :: st)) : J P ce sl pc lv st := by
  obtain ⟨p, e, s, m, args, below, meth, c, A, Q, rfl, hx, hb, C⟩ := O
  intro H locs ls ws h1 h2 h3 h4 h5
  exact lv_lload hx hb d (h5.2.2.2 _ _ hl) (k H locs ls ws h1 h2 h3 h4 h5)
def rfv : Value → Bool
  | .ref _ => true
  | .null => true
  | _ => false
theorem x_aload_n {l : Launch} {E : En} {cc : ByteArray} {own nm : String} {nL : Nat} {R : Room} {ret : Option FieldType} {Fn : Ft} {J : Jt} (O : Ok l E cc own nm nL R ret Fn J) {pc : Nat} {j : Fin 4} {v : Value} {P : HP} {ce sl : Nat} {lv : LV} {st : List Value} (d : decode cc pc = .ok (.aload_n j, 1)) (hl : lv[((j : Nat))]? = some (some v)) (hv : rfv v = true) (k : J P ce sl (pc + 1) lv (v :: st)) : J P ce sl pc lv st := by
  obtain ⟨p, e, s, m, args, below, meth, c, A, Q, rfl, hx, hb, C⟩ := O
  intro H locs ls ws h1 h2 h3 h4 h5
  cases v <;> first | (cases hv; done) | exact lv_aload_n hx hb d rfl (h5.2.2.2 _ _ hl) (k H locs ls ws h1 h2 h3 h4 h5) | exact lv_aload_nN hx hb d rfl (h5.2.2.2 _ _ hl) (k H locs ls ws h1 h2 h3 h4 h5)
theorem x_aload {l : Launch} {E : En} {cc : ByteArray} {own nm : String} {nL : Nat} {R : Room} {ret : Option FieldType} {Fn : Ft} {J : Jt} (O : Ok l E cc own nm nL R ret Fn J) {pc : Nat} {j : Nat} {v : Value} {P : HP} {ce sl : Nat} {lv : LV} {st : List Value} (d : decode cc pc = .ok (.aload j, 2)) (hl : lv[(j)]? = some (some v)) (hv : rfv v = true) (k : J P ce sl (pc + 2) lv (v :: st)) : J P ce sl pc lv st := by
  obtain ⟨p, e, s, m, args, below, meth, c, A, Q, rfl, hx, hb, C⟩ := O
  intro H locs ls ws h1 h2 h3 h4 h5
  cases v <;> first | (cases hv; done) | exact lv_aload hx hb d (h5.2.2.2 _ _ hl) (k H locs ls ws h1 h2 h3 h4 h5) | exact lv_aloadN hx hb d (h5.2.2.2 _ _ hl) (k H locs ls ws h1 h2 h3 h4 h5)
theorem x_istore_n {l : Launch} {E : En} {cc : ByteArray} {own nm : String} {nL : Nat} {R : Room} {ret : Option FieldType} {Fn : Ft} {J : Jt} (O : Ok l E cc own nm nL R ret Fn J) {pc : Nat} {j : Fin 4} {x : Int32} {P : HP} {ce sl : Nat} {lv : LV} {st : List Value} (d : decode cc pc = .ok (.istore_n j, 1)) (hj : (j : Nat) < nL) (ho : ok1 lv (j : Nat) = true) (k : J P ce sl (pc + 1) (lv.set (j : Nat) (some (.int x))) st) : J P ce sl pc lv (.int x :: st) := by
  obtain ⟨p, e, s, m, args, below, meth, c, A, Q, rfl, hx, hb, C⟩ := O
  intro H locs ls ws h1 h2 h3 h4 h5
  exact lv_istore_n hx hb d rfl (lvs_has h5) hj rfl (fun ls' h6 => k H locs ls' ws h1 h2 h3 h4 (lvs_set1 h5.1 h6 ho))
theorem x_istore {l : Launch} {E : En} {cc : ByteArray} {own nm : String} {nL : Nat} {R : Room} {ret : Option FieldType} {Fn : Ft} {J : Jt} (O : Ok l E cc own nm nL R ret Fn J) {pc : Nat} {j : Nat} {x : Int32} {P : HP} {ce sl : Nat} {lv : LV} {st : List Value} (d : decode cc pc = .ok (.istore j, 2)) (hj : j < nL) (ho : ok1 lv j = true) (k : J P ce sl (pc + 2) (lv.set j (some (.int x))) st) : J P ce sl pc lv (.int x :: st) := by
  obtain ⟨p, e, s, m, args, below, meth, c, A, Q, rfl, hx, hb, C⟩ := O
  intro H locs ls ws h1 h2 h3 h4 h5
  exact lv_istore hx hb d (lvs_has h5) hj rfl (fun ls' h6 => k H locs ls' ws h1 h2 h3 h4 (lvs_set1 h5.1 h6 ho))
theorem x_lstore_n {l : Launch} {E : En} {cc : ByteArray} {own nm : String} {nL : Nat} {R : Room} {ret : Option FieldType} {Fn : Ft} {J : Jt} (O : Ok l E cc own nm nL R ret Fn J) {pc : Nat} {j : Fin 4} {x : Int64} {P : HP} {ce sl : Nat} {lv : LV} {st : List Value} (d : decode cc pc = .ok (.lstore_n j, 1)) (hj : (j : Nat) + 1 < nL) (ho : ok1 lv (j : Nat) = true) (k : J P ce sl (pc + 1) ((lv.set (j : Nat) (some (.long x))).set ((j : Nat) + 1) none) st) : J P ce sl pc lv (.long x :: st) := by
  obtain ⟨p, e, s, m, args, below, meth, c, A, Q, rfl, hx, hb, C⟩ := O
  intro H locs ls ws h1 h2 h3 h4 h5
  exact lv_lstore_n hx hb d rfl (lvs_has h5) hj rfl (fun ls' h6 => k H locs ls' ws h1 h2 h3 h4 (lvs_set2 h5.1 h6 ho))
theorem x_lstore {l : Launch} {E : En} {cc : ByteArray} {own nm : String} {nL : Nat} {R : Room} {ret : Option FieldType} {Fn : Ft} {J : Jt} (O : Ok l E cc own nm nL R ret Fn J) {pc : Nat} {j : Nat} {x : Int64} {P : HP} {ce sl : Nat} {lv : LV} {st : List Value} (d : decode cc pc = .ok (.lstore j, 2)) (hj : j + 1 < nL) (ho : ok1 lv j = true) (k : J P ce sl (pc + 2) ((lv.set j (some (.long x))).set (j + 1) none) st) : J P ce sl pc lv (.long x :: st) := by
  obtain ⟨p, e, s, m, args, below, meth, c, A, Q, rfl, hx, hb, C⟩ := O
  intro H locs ls ws h1 h2 h3 h4 h5
  exact lv_lstore hx hb d (lvs_has h5) hj rfl (fun ls' h6 => k H locs ls' ws h1 h2 h3 h4 (lvs_set2 h5.1 h6 ho))
theorem x_astore_n {l : Launch} {E : En} {cc : ByteArray} {own nm : String} {nL : Nat} {R : Room} {ret : Option FieldType} {Fn : Ft} {J : Jt} (O : Ok l E cc own nm nL R ret Fn J) {pc : Nat} {j : Fin 4} {v : Value} {P : HP} {ce sl : Nat} {lv : LV} {st : List Value} (d : decode cc pc = .ok (.astore_n j, 1)) (hj : (j : Nat) < nL) (ho : ok1 lv (j : Nat) = true) (hv : rfv v = true) (k : J P ce sl (pc + 1) (lv.set (j : Nat) (some v)) st) : J P ce sl pc lv (v :: st) := by
  obtain ⟨p, e, s, m, args, below, meth, c, A, Q, rfl, hx, hb, C⟩ := O
  intro H locs ls ws h1 h2 h3 h4 h5
  cases v <;> first | (cases hv; done) | exact lv_astore_n hx hb d rfl (lvs_has h5) hj rfl (fun ls' h6 => k H locs ls' ws h1 h2 h3 h4 (lvs_set1 h5.1 h6 ho)) | exact lv_astore_nN hx hb d rfl (lvs_has h5) hj rfl (fun ls' h6 => k H locs ls' ws h1 h2 h3 h4 (lvs_set1 h5.1 h6 ho))
theorem x_astore {l : Launch} {E : En} {cc : ByteArray} {own nm : String} {nL : Nat} {R : Room} {ret : Option FieldType} {Fn : Ft} {J : Jt} (O : Ok l E cc own nm nL R ret Fn J) {pc : Nat} {j : Nat} {v : Value} {P : HP} {ce sl : Nat} {lv : LV} {st : List Value} (d : decode cc pc = .ok (.astore j, 2)) (hj : j < nL) (ho : ok1 lv j = true) (hv : rfv v = true) (k : J P ce sl (pc + 2) (lv.set j (some v)) st) : J P ce sl pc lv (v :: st) := by
  obtain ⟨p, e, s, m, args, below, meth, c, A, Q, rfl, hx, hb, C⟩ := O
  intro H locs ls ws h1 h2 h3 h4 h5
  cases v <;> first | (cases hv; done) | exact lv_astore hx hb d (lvs_has h5) hj rfl (fun ls' h6 => k H locs ls' ws h1 h2 h3 h4 (lvs_set1 h5.1 h6 ho)) | exact lv_astoreN hx hb d (lvs_has h5) hj rfl (fun ls' h6 => k H locs ls' ws h1 h2 h3 h4 (lvs_set1 h5.1 h6 ho))
theorem x_iinc {l : Launch} {E : En} {cc : ByteArray} {own nm : String} {nL : Nat} {R : Room} {ret : Option FieldType} {Fn : Ft} {J : Jt} (O : Ok l E cc own nm nL R ret Fn J) {pc j : Nat} {n : Int} {x v : Int32} {P : HP} {ce sl : Nat} {lv : LV} {st : List Value} (d : decode cc pc = .ok (.iinc j n, 3)) (hl : lv[j]? = some (some (.int x))) (hv : x + Int32.ofInt n = v) (ho : ok1 lv j = true) (k : J P ce sl (pc + 3) (lv.set j (some (.int v))) st) : J P ce sl pc lv st := by
  obtain ⟨p, e, s, m, args, below, meth, c, A, Q, rfl, hx, hb, C⟩ := O
  intro H locs ls ws h1 h2 h3 h4 h5
  obtain ⟨i, hi⟩ := List.getElem?_of_mem (lva_mem.mpr (show lv[((j, Value.int x) : Nat × Value).1]? = some (some (.int x)) from hl))
  have hj : j < nL := by rw [← h5.1]; exact (List.getElem?_eq_some_iff.mp hl).1
  exact lv_iinc hx hb d (lvs_has h5) hi hv hj rfl (fun ls' h6 => k H locs ls' ws h1 h2 h3 h4 (lvs_set1 h5.1 h6 ho))
theorem x_if_eq {l : Launch} {E : En} {cc : ByteArray} {own nm : String} {nL : Nat} {R : Room} {ret : Option FieldType} {Fn : Ft} {J : Jt} (O : Ok l E cc own nm nL R ret Fn J) {pc : Nat} {x : Int32} {off : Int} (tgt : Nat) {P : HP} {ce sl : Nat} {lv : LV} {st : List Value} (d : decode cc pc = .ok (.ifCond .eq off, 3)) (ht : (pc : Int) + off = (tgt : Int)) (kt : x = 0 → J P ce sl tgt lv st) (kf : ¬ x = 0 → J P ce sl (pc + 3) lv st) : J P ce sl pc lv (.int x :: st) := by
  obtain ⟨p, e, s, m, args, below, meth, c, A, Q, rfl, hx, hb, C⟩ := O
  intro H locs ls ws h1 h2 h3 h4 h5
  exact lv_if_eq hx hb d ht (fun q => kt q H locs ls ws h1 h2 h3 h4 h5) (fun q => kf q H locs ls ws h1 h2 h3 h4 h5)
theorem x_icmp_eq {l : Launch} {E : En} {cc : ByteArray} {own nm : String} {nL : Nat} {R : Room} {ret : Option FieldType} {Fn : Ft} {J : Jt} (O : Ok l E cc own nm nL R ret Fn J) {pc : Nat} {x y : Int32} {off : Int} (tgt : Nat) {P : HP} {ce sl : Nat} {lv : LV} {st : List Value} (d : decode cc pc = .ok (.if_icmp .eq off, 3)) (ht : (pc : Int) + off = (tgt : Int)) (kt : x = y → J P ce sl tgt lv st) (kf : ¬ x = y → J P ce sl (pc + 3) lv st) : J P ce sl pc lv (.int y :: .int x :: st) := by
  obtain ⟨p, e, s, m, args, below, meth, c, A, Q, rfl, hx, hb, C⟩ := O
  intro H locs ls ws h1 h2 h3 h4 h5
  exact lv_icmp_eq hx hb d ht (fun q => kt q H locs ls ws h1 h2 h3 h4 h5) (fun q => kf q H locs ls ws h1 h2 h3 h4 h5)
theorem x_if_ne {l : Launch} {E : En} {cc : ByteArray} {own nm : String} {nL : Nat} {R : Room} {ret : Option FieldType} {Fn : Ft} {J : Jt} (O : Ok l E cc own nm nL R ret Fn J) {pc : Nat} {x : Int32} {off : Int} (tgt : Nat) {P : HP} {ce sl : Nat} {lv : LV} {st : List Value} (d : decode cc pc = .ok (.ifCond .ne off, 3)) (ht : (pc : Int) + off = (tgt : Int)) (kt : ¬ x = 0 → J P ce sl tgt lv st) (kf : x = 0 → J P ce sl (pc + 3) lv st) : J P ce sl pc lv (.int x :: st) := by
  obtain ⟨p, e, s, m, args, below, meth, c, A, Q, rfl, hx, hb, C⟩ := O
  intro H locs ls ws h1 h2 h3 h4 h5
  exact lv_if_ne hx hb d ht (fun q => kt q H locs ls ws h1 h2 h3 h4 h5) (fun q => kf q H locs ls ws h1 h2 h3 h4 h5)
theorem x_icmp_ne {l : Launch} {E : En} {cc : ByteArray} {own nm : String} {nL : Nat} {R : Room} {ret : Option FieldType} {Fn : Ft} {J : Jt} (O : Ok l E cc own nm nL R ret Fn J) {pc : Nat} {x y : Int32} {off : Int} (tgt : Nat) {P : HP} {ce sl : Nat} {lv : LV} {st : List Value} (d : decode cc pc = .ok (.if_icmp .ne off, 3)) (ht : (pc : Int) + off = (tgt : Int)) (kt : ¬ x = y → J P ce sl tgt lv st) (kf : x = y → J P ce sl (pc + 3) lv st) : J P ce sl pc lv (.int y :: .int x :: st) := by
  obtain ⟨p, e, s, m, args, below, meth, c, A, Q, rfl, hx, hb, C⟩ := O
  intro H locs ls ws h1 h2 h3 h4 h5
  exact lv_icmp_ne hx hb d ht (fun q => kt q H locs ls ws h1 h2 h3 h4 h5) (fun q => kf q H locs ls ws h1 h2 h3 h4 h5)
theorem x_if_lt {l : Launch} {E : En} {cc : ByteArray} {own nm : String} {nL : Nat} {R : Room} {ret : Option FieldType} {Fn : Ft} {J : Jt} (O : Ok l E cc own nm nL R ret Fn J) {pc : Nat} {x : Int32} {off : Int} (tgt : Nat) {P : HP} {ce sl : Nat} {lv : LV} {st : List Value} (d : decode cc pc = .ok (.ifCond .lt off, 3)) (ht : (pc : Int) + off = (tgt : Int)) (kt : x < 0 → J P ce sl tgt lv st) (kf : ¬ x < 0 → J P ce sl (pc + 3) lv st) : J P ce sl pc lv (.int x :: st) := by
  obtain ⟨p, e, s, m, args, below, meth, c, A, Q, rfl, hx, hb, C⟩ := O
  intro H locs ls ws h1 h2 h3 h4 h5
  exact lv_if_lt hx hb d ht (fun q => kt q H locs ls ws h1 h2 h3 h4 h5) (fun q => kf q H locs ls ws h1 h2 h3 h4 h5)
theorem x_icmp_lt {l : Launch} {E : En} {cc : ByteArray} {own nm : String} {nL : Nat} {R : Room} {ret : Option FieldType} {Fn : Ft} {J : Jt} (O : Ok l E cc own nm nL R ret Fn J) {pc : Nat} {x y : Int32} {off : Int} (tgt : Nat) {P : HP} {ce sl : Nat} {lv : LV} {st : List Value} (d : decode cc pc = .ok (.if_icmp .lt off, 3)) (ht : (pc : Int) + off = (tgt : Int)) (kt : x < y → J P ce sl tgt lv st) (kf : ¬ x < y → J P ce sl (pc + 3) lv st) : J P ce sl pc lv (.int y :: .int x :: st) := by
  obtain ⟨p, e, s, m, args, below, meth, c, A, Q, rfl, hx, hb, C⟩ := O
  intro H locs ls ws h1 h2 h3 h4 h5
  exact lv_icmp_lt hx hb d ht (fun q => kt q H locs ls ws h1 h2 h3 h4 h5) (fun q => kf q H locs ls ws h1 h2 h3 h4 h5)
theorem x_if_ge {l : Launch} {E : En} {cc : ByteArray} {own nm : String} {nL : Nat} {R : Room} {ret : Option FieldType} {Fn : Ft} {J : Jt} (O : Ok l E cc own nm nL R ret Fn J) {pc : Nat} {x : Int32} {off : Int} (tgt : Nat) {P : HP} {ce sl : Nat} {lv : LV} {st : List Value} (d : decode cc pc = .ok (.ifCond .ge off, 3)) (ht : (pc : Int) + off = (tgt : Int)) (kt : 0 ≤ x → J P ce sl tgt lv st) (kf : ¬ 0 ≤ x → J P ce sl (pc + 3) lv st) : J P ce sl pc lv (.int x :: st) := by
  obtain ⟨p, e, s, m, args, below, meth, c, A, Q, rfl, hx, hb, C⟩ := O
  intro H locs ls ws h1 h2 h3 h4 h5
  exact lv_if_ge hx hb d ht (fun q => kt q H locs ls ws h1 h2 h3 h4 h5) (fun q => kf q H locs ls ws h1 h2 h3 h4 h5)
theorem x_icmp_ge {l : Launch} {E : En} {cc : ByteArray} {own nm : String} {nL : Nat} {R : Room} {ret : Option FieldType} {Fn : Ft} {J : Jt} (O : Ok l E cc own nm nL R ret Fn J) {pc : Nat} {x y : Int32} {off : Int} (tgt : Nat) {P : HP} {ce sl : Nat} {lv : LV} {st : List Value} (d : decode cc pc = .ok (.if_icmp .ge off, 3)) (ht : (pc : Int) + off = (tgt : Int)) (kt : y ≤ x → J P ce sl tgt lv st) (kf : ¬ y ≤ x → J P ce sl (pc + 3) lv st) : J P ce sl pc lv (.int y :: .int x :: st) := by
  obtain ⟨p, e, s, m, args, below, meth, c, A, Q, rfl, hx, hb, C⟩ := O
  intro H locs ls ws h1 h2 h3 h4 h5
  exact lv_icmp_ge hx hb d ht (fun q => kt q H locs ls ws h1 h2 h3 h4 h5) (fun q => kf q H locs ls ws h1 h2 h3 h4 h5)
theorem x_if_gt {l : Launch} {E : En} {cc : ByteArray} {own nm : String} {nL : Nat} {R : Room} {ret : Option FieldType} {Fn : Ft} {J : Jt} (O : Ok l E cc own nm nL R ret Fn J) {pc : Nat} {x : Int32} {off : Int} (tgt : Nat) {P : HP} {ce sl : Nat} {lv : LV} {st : List Value} (d : decode cc pc = .ok (.ifCond .gt off, 3)) (ht : (pc : Int) + off = (tgt : Int)) (kt : 0 < x → J P ce sl tgt lv st) (kf : ¬ 0 < x → J P ce sl (pc + 3) lv st) : J P ce sl pc lv (.int x :: st) := by
  obtain ⟨p, e, s, m, args, below, meth, c, A, Q, rfl, hx, hb, C⟩ := O
  intro H locs ls ws h1 h2 h3 h4 h5
  exact lv_if_gt hx hb d ht (fun q => kt q H locs ls ws h1 h2 h3 h4 h5) (fun q => kf q H locs ls ws h1 h2 h3 h4 h5)
theorem x_icmp_gt {l : Launch} {E : En} {cc : ByteArray} {own nm : String} {nL : Nat} {R : Room} {ret : Option FieldType} {Fn : Ft} {J : Jt} (O : Ok l E cc own nm nL R ret Fn J) {pc : Nat} {x y : Int32} {off : Int} (tgt : Nat) {P : HP} {ce sl : Nat} {lv : LV} {st : List Value} (d : decode cc pc = .ok (.if_icmp .gt off, 3)) (ht : (pc : Int) + off = (tgt : Int)) (kt : y < x → J P ce sl tgt lv st) (kf : ¬ y < x → J P ce sl (pc + 3) lv st) : J P ce sl pc lv (.int y :: .int x :: st) := by
  obtain ⟨p, e, s, m, args, below, meth, c, A, Q, rfl, hx, hb, C⟩ := O
  intro H locs ls ws h1 h2 h3 h4 h5
  exact lv_icmp_gt hx hb d ht (fun q => kt q H locs ls ws h1 h2 h3 h4 h5) (fun q => kf q H locs ls ws h1 h2 h3 h4 h5)
theorem x_if_le {l : Launch} {E : En} {cc : ByteArray} {own nm : String} {nL : Nat} {R : Room} {ret : Option FieldType} {Fn : Ft} {J : Jt} (O : Ok l E cc own nm nL R ret Fn J) {pc : Nat} {x : Int32} {off : Int} (tgt : Nat) {P : HP} {ce sl : Nat} {lv : LV} {st : List Value} (d : decode cc pc = .ok (.ifCond .le off, 3)) (ht : (pc : Int) + off = (tgt : Int)) (kt : x ≤ 0 → J P ce sl tgt lv st) (kf : ¬ x ≤ 0 → J P ce sl (pc + 3) lv st) : J P ce sl pc lv (.int x :: st) := by
  obtain ⟨p, e, s, m, args, below, meth, c, A, Q, rfl, hx, hb, C⟩ := O
  intro H locs ls ws h1 h2 h3 h4 h5
  exact lv_if_le hx hb d ht (fun q => kt q H locs ls ws h1 h2 h3 h4 h5) (fun q => kf q H locs ls ws h1 h2 h3 h4 h5)
theorem x_icmp_le {l : Launch} {E : En} {cc : ByteArray} {own nm : String} {nL : Nat} {R : Room} {ret : Option FieldType} {Fn : Ft} {J : Jt} (O : Ok l E cc own nm nL R ret Fn J) {pc : Nat} {x y : Int32} {off : Int} (tgt : Nat) {P : HP} {ce sl : Nat} {lv : LV} {st : List Value} (d : decode cc pc = .ok (.if_icmp .le off, 3)) (ht : (pc : Int) + off = (tgt : Int)) (kt : x ≤ y → J P ce sl tgt lv st) (kf : ¬ x ≤ y → J P ce sl (pc + 3) lv st) : J P ce sl pc lv (.int y :: .int x :: st) := by
  obtain ⟨p, e, s, m, args, below, meth, c, A, Q, rfl, hx, hb, C⟩ := O
  intro H locs ls ws h1 h2 h3 h4 h5
  exact lv_icmp_le hx hb d ht (fun q => kt q H locs ls ws h1 h2 h3 h4 h5) (fun q => kf q H locs ls ws h1 h2 h3 h4 h5)
theorem x_goto {l : Launch} {E : En} {cc : ByteArray} {own nm : String} {nL : Nat} {R : Room} {ret : Option FieldType} {Fn : Ft} {J : Jt} (O : Ok l E cc own nm nL R ret Fn J) {pc : Nat}  {off : Int} (tgt : Nat) {P : HP} {ce sl : Nat} {lv : LV} {st : List Value} (d : decode cc pc = .ok (.goto off, 3)) (ht : (pc : Int) + off = (tgt : Int)) (k : J P ce sl tgt lv st) : J P ce sl pc lv st := by
  obtain ⟨p, e, s, m, args, below, meth, c, A, Q, rfl, hx, hb, C⟩ := O
  intro H locs ls ws h1 h2 h3 h4 h5
  exact lv_goto hx hb d ht (k H locs ls ws h1 h2 h3 h4 h5)
theorem x_ifnull {l : Launch} {E : En} {cc : ByteArray} {own nm : String} {nL : Nat} {R : Room} {ret : Option FieldType} {Fn : Ft} {J : Jt} (O : Ok l E cc own nm nL R ret Fn J) {pc : Nat} {x : Nat} {off : Int} {P : HP} {ce sl : Nat} {lv : LV} {st : List Value} (d : decode cc pc = .ok (.ifnull off, 3)) (k : J P ce sl (pc + 3) lv st) : J P ce sl pc lv (.ref x :: st) := by
  obtain ⟨p, e, s, m, args, below, meth, c, A, Q, rfl, hx, hb, C⟩ := O
  intro H locs ls ws h1 h2 h3 h4 h5
  exact lv_ifnull hx hb d (k H locs ls ws h1 h2 h3 h4 h5)
theorem x_ifnullN {l : Launch} {E : En} {cc : ByteArray} {own nm : String} {nL : Nat} {R : Room} {ret : Option FieldType} {Fn : Ft} {J : Jt} (O : Ok l E cc own nm nL R ret Fn J) {pc : Nat}  {off : Int} (tgt : Nat) {P : HP} {ce sl : Nat} {lv : LV} {st : List Value} (d : decode cc pc = .ok (.ifnull off, 3)) (ht : (pc : Int) + off = (tgt : Int)) (k : J P ce sl tgt lv st) : J P ce sl pc lv (.null :: st) := by
  obtain ⟨p, e, s, m, args, below, meth, c, A, Q, rfl, hx, hb, C⟩ := O
  intro H locs ls ws h1 h2 h3 h4 h5
  exact lv_ifnullN hx hb d ht (k H locs ls ws h1 h2 h3 h4 h5)
theorem x_ifnonnull {l : Launch} {E : En} {cc : ByteArray} {own nm : String} {nL : Nat} {R : Room} {ret : Option FieldType} {Fn : Ft} {J : Jt} (O : Ok l E cc own nm nL R ret Fn J) {pc : Nat} {x : Nat} {off : Int} (tgt : Nat) {P : HP} {ce sl : Nat} {lv : LV} {st : List Value} (d : decode cc pc = .ok (.ifnonnull off, 3)) (ht : (pc : Int) + off = (tgt : Int)) (k : J P ce sl tgt lv st) : J P ce sl pc lv (.ref x :: st) := by
  obtain ⟨p, e, s, m, args, below, meth, c, A, Q, rfl, hx, hb, C⟩ := O
  intro H locs ls ws h1 h2 h3 h4 h5
  exact lv_ifnonnull hx hb d ht (k H locs ls ws h1 h2 h3 h4 h5)
theorem x_ifnonnullN {l : Launch} {E : En} {cc : ByteArray} {own nm : String} {nL : Nat} {R : Room} {ret : Option FieldType} {Fn : Ft} {J : Jt} (O : Ok l E cc own nm nL R ret Fn J) {pc : Nat}  {off : Int} {P : HP} {ce sl : Nat} {lv : LV} {st : List Value} (d : decode cc pc = .ok (.ifnonnull off, 3)) (k : J P ce sl (pc + 3) lv st) : J P ce sl pc lv (.null :: st) := by
  obtain ⟨p, e, s, m, args, below, meth, c, A, Q, rfl, hx, hb, C⟩ := O
  intro H locs ls ws h1 h2 h3 h4 h5
  exact lv_ifnonnullN hx hb d (k H locs ls ws h1 h2 h3 h4 h5)
theorem x_tout {l : Launch} {E : En} {cc : ByteArray} {own nm : String} {nL : Nat} {R : Room} {ret : Option FieldType} {Fn : Ft} {J : Jt} (O : Ok l E cc own nm nL R ret Fn J) {pc len : Nat} {dflt lo hi : Int} {offs : Array Int} {x : Int32} (tgt : Nat) {P : HP} {ce sl : Nat} {lv : LV} {st : List Value} (d : decode cc pc = .ok (.tableswitch dflt lo hi offs, len)) (h : x.toInt < lo ∨ hi < x.toInt) (ht : (pc : Int) + dflt = (tgt : Int)) (k : J P ce sl tgt lv st) : J P ce sl pc lv (.int x :: st) := by
  obtain ⟨p, e, s, m, args, below, meth, c, A, Q, rfl, hx, hb, C⟩ := O
  intro H locs ls ws h1 h2 h3 h4 h5
  exact lv_tableOut hx hb d h ht (k H locs ls ws h1 h2 h3 h4 h5)
theorem x_tin {l : Launch} {E : En} {cc : ByteArray} {own nm : String} {nL : Nat} {R : Room} {ret : Option FieldType} {Fn : Ft} {J : Jt} (O : Ok l E cc own nm nL R ret Fn J) {pc len : Nat} {dflt lo hi : Int} {offs : Array Int} {x : Int32} {off : Int} (tgt : Nat) {P : HP} {ce sl : Nat} {lv : LV} {st : List Value} (d : decode cc pc = .ok (.tableswitch dflt lo hi offs, len)) (q1 : ¬ x.toInt < lo) (q2 : ¬ hi < x.toInt) (ho : offs[(x.toInt - lo).toNat]? = some off) (ht : (pc : Int) + off = (tgt : Int)) (k : J P ce sl tgt lv st) : J P ce sl pc lv (.int x :: st) := by
  obtain ⟨p, e, s, m, args, below, meth, c, A, Q, rfl, hx, hb, C⟩ := O
  intro H locs ls ws h1 h2 h3 h4 h5
  exact lv_tableIn hx hb d q1 q2 ho ht (k H locs ls ws h1 h2 h3 h4 h5)
theorem x_ldc {l : Launch} {E : En} {cc : ByteArray} {own nm : String} {nL : Nat} {R : Room} {ret : Option FieldType} {Fn : Ft} {J : Jt} (O : Ok l E cc own nm nL R ret Fn J) {pc index : Nat} {v : Int32} {P : HP} {ce sl : Nat} {lv : LV} {st : List Value} (d : decode cc pc = .ok (.ldc index, 2)) (hc : Cond.constant own index v ∈ wsL_law) (k : J P ce sl (pc + 2) lv (.int v :: st)) : J P ce sl pc lv st := by
  obtain ⟨p, e, s, m, args, below, meth, c, A, Q, rfl, hx, hb, hml, hown, hts, C⟩ := O
  intro H locs ls ws h1 h2 h3 h4 h5
  exact lv_ldc hx hb hown (hts _ hc) d (k H locs ls ws h1 h2 h3 h4 h5)
theorem x_ldc2 {l : Launch} {E : En} {cc : ByteArray} {own nm : String} {nL : Nat} {R : Room} {ret : Option FieldType} {Fn : Ft} {J : Jt} (O : Ok l E cc own nm nL R ret Fn J) {pc index : Nat} {v : Int64} {P : HP} {ce sl : Nat} {lv : LV} {st : List Value} (d : decode cc pc = .ok (.ldc2_w index, 3)) (hc : Cond.constantLong own index v ∈ wsL_law) (k : J P ce sl (pc + 3) lv (.long v :: st)) : J P ce sl pc lv st := by
  obtain ⟨p, e, s, m, args, below, meth, c, A, Q, rfl, hx, hb, hml, hown, hts, C⟩ := O
  intro H locs ls ws h1 h2 h3 h4 h5
  exact lv_ldc2 hx hb hown (hts _ hc) d (k H locs ls ws h1 h2 h3 h4 h5)
theorem x_ret {l : Launch} {E : En} {cc : ByteArray} {own nm : String} {nL : Nat} {R : Room} {ret : Option FieldType} {Fn : Ft} {J : Jt} (O : Ok l E cc own nm nL R ret Fn J) {pc : Nat} {v : Option Value} {P : HP} {ce sl : Nat} {lv : LV} {st : List Value} (d : decode cc pc = .ok (retI v, 1)) (hst : st = v.toList) (hr : retOk ret v) (k : Fn v P ce sl) : J P ce sl pc lv st := by
  obtain ⟨p, e, s, m, args, below, meth, c, A, Q, rfl, hx, hb, hml, hown, hts, hK, hA, hnm, hret⟩ := O
  subst hst
  exact hret v P ce sl pc lv k hr d
theorem x_mono {l : Launch} {E : En} {cc : ByteArray} {own nm : String} {nL : Nat} {R : Room} {ret : Option FieldType} {Fn : Ft} {J : Jt} (O : Ok l E cc own nm nL R ret Fn J) {pc : Nat} {P P' : HP} {ce sl ce' sl' : Nat} {lv lv' : LV} {st : List Value} (k : J P' ce' sl' pc lv' st) (hP : ∀ h, P h → P' h) (hl : lvle lv' lv) (hc : ce ≤ ce') (hs : sl ≤ sl') : J P ce sl pc lv st := by
  obtain ⟨p, e, s, m, args, below, meth, c, A, Q, rfl, C⟩ := O
  intro H locs ls ws h1 h2 h3 h4 h5
  exact W.widen hc hs (k H locs ls ws h1 h2 (hP _ h3) h4 (lvs_le h5 hl))
theorem x_imp {l : Launch} {E : En} {cc : ByteArray} {own nm : String} {nL : Nat} {R : Room} {ret : Option FieldType} {Fn : Ft} {J : Jt} (O : Ok l E cc own nm nL R ret Fn J) {pc : Nat} {P P' : HP} {ce sl : Nat} {lv : LV} {st : List Value} (hP : ∀ h, P h → P' h) (k : J P' ce sl pc lv st) : J P ce sl pc lv st := by
  obtain ⟨p, e, s, m, args, below, meth, c, A, Q, rfl, C⟩ := O
  intro H locs ls ws h1 h2 h3 h4 h5
  exact k H locs ls ws h1 h2 (hP _ h3) h4 h5
theorem x_pure {l : Launch} {E : En} {cc : ByteArray} {own nm : String} {nL : Nat} {R : Room} {ret : Option FieldType} {Fn : Ft} {J : Jt} (O : Ok l E cc own nm nL R ret Fn J) {pc : Nat} {φ : Prop} {P : HP} {ce sl : Nat} {lv : LV} {st : List Value} (k : φ → J P ce sl pc lv st) : J (fun h => φ ∧ P h) ce sl pc lv st := by
  obtain ⟨p, e, s, m, args, below, meth, c, A, Q, rfl, C⟩ := O
  intro H locs ls ws h1 h2 h3 h4 h5
  exact k h3.1 H locs ls ws h1 h2 h3.2 h4 h5
theorem x_ex {l : Launch} {E : En} {cc : ByteArray} {own nm : String} {nL : Nat} {R : Room} {ret : Option FieldType} {Fn : Ft} {J : Jt} (O : Ok l E cc own nm nL R ret Fn J) {pc : Nat} {X : Type} {P : X → HP} {ce sl : Nat} {lv : LV} {st : List Value} (k : ∀ x, J (P x) ce sl pc lv st) : J (fun h => ∃ x, P x h) ce sl pc lv st := by
  obtain ⟨p, e, s, m, args, below, meth, c, A, Q, rfl, C⟩ := O
  intro H locs ls ws h1 h2 h3 h4 h5
  obtain ⟨x, h3⟩ := h3
  exact k x H locs ls ws h1 h2 h3 h4 h5
theorem x_fact {l : Launch} {E : En} {cc : ByteArray} {own nm : String} {nL : Nat} {R : Room} {ret : Option FieldType} {Fn : Ft} {J : Jt} (O : Ok l E cc own nm nL R ret Fn J) {pc : Nat} {φ : Prop} {P : HP} {ce sl : Nat} {lv : LV} {st : List Value} (hφ : ∀ h, P h → φ) (k : φ → J P ce sl pc lv st) : J P ce sl pc lv st := by
  obtain ⟨p, e, s, m, args, below, meth, c, A, Q, rfl, C⟩ := O
  intro H locs ls ws h1 h2 h3 h4 h5
  exact k (hφ _ h3) H locs ls ws h1 h2 h3 h4 h5
theorem x_widen {l : Launch} {E : En} {cc : ByteArray} {own nm : String} {nL : Nat} {R : Room} {ret : Option FieldType} {Fn : Ft} {J : Jt} (O : Ok l E cc own nm nL R ret Fn J) {pc : Nat} {P : HP} {ce sl ce' sl' : Nat} {lv : LV} {st : List Value} (hc : ce ≤ ce') (hs : sl ≤ sl') (k : J P ce' sl' pc lv st) : J P ce sl pc lv st := by
  obtain ⟨p, e, s, m, args, below, meth, c, A, Q, rfl, C⟩ := O
  intro H locs ls ws h1 h2 h3 h4 h5
  exact W.widen hc hs (k H locs ls ws h1 h2 h3 h4 h5)
theorem x_lv {l : Launch} {E : En} {cc : ByteArray} {own nm : String} {nL : Nat} {R : Room} {ret : Option FieldType} {Fn : Ft} {J : Jt} (O : Ok l E cc own nm nL R ret Fn J) {pc : Nat} {P : HP} {ce sl : Nat} {lv : LV} (lv' : LV) {st : List Value} (hl : lvleB lv' lv) (k : J P ce sl pc lv' st) : J P ce sl pc lv st := by
  obtain ⟨p, e, s, m, args, below, meth, c, A, Q, rfl, C⟩ := O
  intro H locs ls ws h1 h2 h3 h4 h5
  exact k H locs ls ws h1 h2 h3 h4 (lvs_le h5 (lvle_of hl))
end
section
/-! ===== LINKS: where each word stands in wsL_law ===== -/
def lw_core : List Cond := (wsL_law_r1 ++ (wsL_law_r2 ++ (wsL_law_r3 ++ (wsL_law_r4 ++ (wsL_law_r5 ++ (wsL_law_r6 ++ (wsL_law_r7 ++ (wsL_law_r8 ++ (wsL_law_r9 ++ (wsL_law_r10 ++ (wsL_law_r11 ++ (wsL_law_r12 ++ (wsL_law_r13 ++ (wsL_law_r14 ++ (wsL_law_r15 ++ (wsL_law_r16 ++ (wsL_law_r17 ++ (wsL_law_r18 ++ (wsL_law_r19 ++ (wsL_law_r20 ++ (wsL_law_r21 ++ (wsL_law_r22 ++ (wsL_law_r23 ++ (wsL_law_r24 ++ (wsL_law_r25 ++ wsL_law_r26)))))))))))))))))))))))))
theorem lw_core_in : ∀ w ∈ lw_core, w ∈ wsL_law := fun _ h => List.mem_append_left _ (List.mem_append_left _ (List.mem_append_left _ (List.mem_append_left _ (List.mem_append_left _ (List.mem_append_left _ (List.mem_append_left _ (List.mem_append_left _ (List.mem_append_left _ (List.mem_append_left _ (h))))))))))
theorem lr_1 : ∀ w ∈ wsL_law_r1, w ∈ wsL_law := fun w h => lw_core_in w (List.mem_append_left _ h)
theorem lr_2 : ∀ w ∈ wsL_law_r2, w ∈ wsL_law := fun w h => lw_core_in w (List.mem_append_right _ (List.mem_append_left _ h))
theorem lr_3 : ∀ w ∈ wsL_law_r3, w ∈ wsL_law := fun w h => lw_core_in w (List.mem_append_right _ (List.mem_append_right _ (List.mem_append_left _ h)))
theorem lr_4 : ∀ w ∈ wsL_law_r4, w ∈ wsL_law := fun w h => lw_core_in w (List.mem_append_right _ (List.mem_append_right _ (List.mem_append_right _ (List.mem_append_left _ h))))
theorem lr_5 : ∀ w ∈ wsL_law_r5, w ∈ wsL_law := fun w h => lw_core_in w (List.mem_append_right _ (List.mem_append_right _ (List.mem_append_right _ (List.mem_append_right _ (List.mem_append_left _ h)))))
theorem lr_6 : ∀ w ∈ wsL_law_r6, w ∈ wsL_law := fun w h => lw_core_in w (List.mem_append_right _ (List.mem_append_right _ (List.mem_append_right _ (List.mem_append_right _ (List.mem_append_right _ (List.mem_append_left _ h))))))
theorem lr_7 : ∀ w ∈ wsL_law_r7, w ∈ wsL_law := fun w h => lw_core_in w (List.mem_append_right _ (List.mem_append_right _ (List.mem_append_right _ (List.mem_append_right _ (List.mem_append_right _ (List.mem_append_right _ (List.mem_append_left _ h)))))))
theorem lr_8 : ∀ w ∈ wsL_law_r8, w ∈ wsL_law := fun w h => lw_core_in w (List.mem_append_right _ (List.mem_append_right _ (List.mem_append_right _ (List.mem_append_right _ (List.mem_append_right _ (List.mem_append_right _ (List.mem_append_right _ (List.mem_append_left _ h))))))))
theorem lr_9 : ∀ w ∈ wsL_law_r9, w ∈ wsL_law := fun w h => lw_core_in w (List.mem_append_right _ (List.mem_append_right _ (List.mem_append_right _ (List.mem_append_right _ (List.mem_append_right _ (List.mem_append_right _ (List.mem_append_right _ (List.mem_append_right _ (List.mem_append_left _ h)))))))))
theorem lr_10 : ∀ w ∈ wsL_law_r10, w ∈ wsL_law := fun w h => lw_core_in w (List.mem_append_right _ (List.mem_append_right _ (List.mem_append_right _ (List.mem_append_right _ (List.mem_append_right _ (List.mem_append_right _ (List.mem_append_right _ (List.mem_append_right _ (List.mem_append_right _ (List.mem_append_left _ h))))))))))
theorem lr_11 : ∀ w ∈ wsL_law_r11, w ∈ wsL_law := fun w h => lw_core_in w (List.mem_append_right _ (List.mem_append_right _ (List.mem_append_right _ (List.mem_append_right _ (List.mem_append_right _ (List.mem_append_right _ (List.mem_append_right _ (List.mem_append_right _ (List.mem_append_right _ (List.mem_append_right _ (List.mem_append_left _ h)))))))))))
theorem lr_12 : ∀ w ∈ wsL_law_r12, w ∈ wsL_law := fun w h => lw_core_in w (List.mem_append_right _ (List.mem_append_right _ (List.mem_append_right _ (List.mem_append_right _ (List.mem_append_right _ (List.mem_append_right _ (List.mem_append_right _ (List.mem_append_right _ (List.mem_append_right _ (List.mem_append_right _ (List.mem_append_right _ (List.mem_append_left _ h))))))))))))
theorem lr_13 : ∀ w ∈ wsL_law_r13, w ∈ wsL_law := fun w h => lw_core_in w (List.mem_append_right _ (List.mem_append_right _ (List.mem_append_right _ (List.mem_append_right _ (List.mem_append_right _ (List.mem_append_right _ (List.mem_append_right _ (List.mem_append_right _ (List.mem_append_right _ (List.mem_append_right _ (List.mem_append_right _ (List.mem_append_right _ (List.mem_append_left _ h)))))))))))))
theorem lr_14 : ∀ w ∈ wsL_law_r14, w ∈ wsL_law := fun w h => lw_core_in w (List.mem_append_right _ (List.mem_append_right _ (List.mem_append_right _ (List.mem_append_right _ (List.mem_append_right _ (List.mem_append_right _ (List.mem_append_right _ (List.mem_append_right _ (List.mem_append_right _ (List.mem_append_right _ (List.mem_append_right _ (List.mem_append_right _ (List.mem_append_right _ (List.mem_append_left _ h))))))))))))))
theorem lr_15 : ∀ w ∈ wsL_law_r15, w ∈ wsL_law := fun w h => lw_core_in w (List.mem_append_right _ (List.mem_append_right _ (List.mem_append_right _ (List.mem_append_right _ (List.mem_append_right _ (List.mem_append_right _ (List.mem_append_right _ (List.mem_append_right _ (List.mem_append_right _ (List.mem_append_right _ (List.mem_append_right _ (List.mem_append_right _ (List.mem_append_right _ (List.mem_append_right _ (List.mem_append_left _ h)))))))))))))))
theorem lr_16 : ∀ w ∈ wsL_law_r16, w ∈ wsL_law := fun w h => lw_core_in w (List.mem_append_right _ (List.mem_append_right _ (List.mem_append_right _ (List.mem_append_right _ (List.mem_append_right _ (List.mem_append_right _ (List.mem_append_right _ (List.mem_append_right _ (List.mem_append_right _ (List.mem_append_right _ (List.mem_append_right _ (List.mem_append_right _ (List.mem_append_right _ (List.mem_append_right _ (List.mem_append_right _ (List.mem_append_left _ h))))))))))))))))
theorem lr_17 : ∀ w ∈ wsL_law_r17, w ∈ wsL_law := fun w h => lw_core_in w (List.mem_append_right _ (List.mem_append_right _ (List.mem_append_right _ (List.mem_append_right _ (List.mem_append_right _ (List.mem_append_right _ (List.mem_append_right _ (List.mem_append_right _ (List.mem_append_right _ (List.mem_append_right _ (List.mem_append_right _ (List.mem_append_right _ (List.mem_append_right _ (List.mem_append_right _ (List.mem_append_right _ (List.mem_append_right _ (List.mem_append_left _ h)))))))))))))))))
theorem lr_18 : ∀ w ∈ wsL_law_r18, w ∈ wsL_law := fun w h => lw_core_in w (List.mem_append_right _ (List.mem_append_right _ (List.mem_append_right _ (List.mem_append_right _ (List.mem_append_right _ (List.mem_append_right _ (List.mem_append_right _ (List.mem_append_right _ (List.mem_append_right _ (List.mem_append_right _ (List.mem_append_right _ (List.mem_append_right _ (List.mem_append_right _ (List.mem_append_right _ (List.mem_append_right _ (List.mem_append_right _ (List.mem_append_right _ (List.mem_append_left _ h))))))))))))))))))
theorem lr_19 : ∀ w ∈ wsL_law_r19, w ∈ wsL_law := fun w h => lw_core_in w (List.mem_append_right _ (List.mem_append_right _ (List.mem_append_right _ (List.mem_append_right _ (List.mem_append_right _ (List.mem_append_right _ (List.mem_append_right _ (List.mem_append_right _ (List.mem_append_right _ (List.mem_append_right _ (List.mem_append_right _ (List.mem_append_right _ (List.mem_append_right _ (List.mem_append_right _ (List.mem_append_right _ (List.mem_append_right _ (List.mem_append_right _ (List.mem_append_right _ (List.mem_append_left _ h)))))))))))))))))))
theorem lr_20 : ∀ w ∈ wsL_law_r20, w ∈ wsL_law := fun w h => lw_core_in w (List.mem_append_right _ (List.mem_append_right _ (List.mem_append_right _ (List.mem_append_right _ (List.mem_append_right _ (List.mem_append_right _ (List.mem_append_right _ (List.mem_append_right _ (List.mem_append_right _ (List.mem_append_right _ (List.mem_append_right _ (List.mem_append_right _ (List.mem_append_right _ (List.mem_append_right _ (List.mem_append_right _ (List.mem_append_right _ (List.mem_append_right _ (List.mem_append_right _ (List.mem_append_right _ (List.mem_append_left _ h))))))))))))))))))))
theorem lr_21 : ∀ w ∈ wsL_law_r21, w ∈ wsL_law := fun w h => lw_core_in w (List.mem_append_right _ (List.mem_append_right _ (List.mem_append_right _ (List.mem_append_right _ (List.mem_append_right _ (List.mem_append_right _ (List.mem_append_right _ (List.mem_append_right _ (List.mem_append_right _ (List.mem_append_right _ (List.mem_append_right _ (List.mem_append_right _ (List.mem_append_right _ (List.mem_append_right _ (List.mem_append_right _ (List.mem_append_right _ (List.mem_append_right _ (List.mem_append_right _ (List.mem_append_right _ (List.mem_append_right _ (List.mem_append_left _ h)))))))))))))))))))))
theorem lr_22 : ∀ w ∈ wsL_law_r22, w ∈ wsL_law := fun w h => lw_core_in w (List.mem_append_right _ (List.mem_append_right _ (List.mem_append_right _ (List.mem_append_right _ (List.mem_append_right _ (List.mem_append_right _ (List.mem_append_right _ (List.mem_append_right _ (List.mem_append_right _ (List.mem_append_right _ (List.mem_append_right _ (List.mem_append_right _ (List.mem_append_right _ (List.mem_append_right _ (List.mem_append_right _ (List.mem_append_right _ (List.mem_append_right _ (List.mem_append_right _ (List.mem_append_right _ (List.mem_append_right _ (List.mem_append_right _ (List.mem_append_left _ h))))))))))))))))))))))
theorem lr_23 : ∀ w ∈ wsL_law_r23, w ∈ wsL_law := fun w h => lw_core_in w (List.mem_append_right _ (List.mem_append_right _ (List.mem_append_right _ (List.mem_append_right _ (List.mem_append_right _ (List.mem_append_right _ (List.mem_append_right _ (List.mem_append_right _ (List.mem_append_right _ (List.mem_append_right _ (List.mem_append_right _ (List.mem_append_right _ (List.mem_append_right _ (List.mem_append_right _ (List.mem_append_right _ (List.mem_append_right _ (List.mem_append_right _ (List.mem_append_right _ (List.mem_append_right _ (List.mem_append_right _ (List.mem_append_right _ (List.mem_append_right _ (List.mem_append_left _ h)))))))))))))))))))))))
theorem lr_24 : ∀ w ∈ wsL_law_r24, w ∈ wsL_law := fun w h => lw_core_in w (List.mem_append_right _ (List.mem_append_right _ (List.mem_append_right _ (List.mem_append_right _ (List.mem_append_right _ (List.mem_append_right _ (List.mem_append_right _ (List.mem_append_right _ (List.mem_append_right _ (List.mem_append_right _ (List.mem_append_right _ (List.mem_append_right _ (List.mem_append_right _ (List.mem_append_right _ (List.mem_append_right _ (List.mem_append_right _ (List.mem_append_right _ (List.mem_append_right _ (List.mem_append_right _ (List.mem_append_right _ (List.mem_append_right _ (List.mem_append_right _ (List.mem_append_right _ (List.mem_append_left _ h))))))))))))))))))))))))
theorem lr_25 : ∀ w ∈ wsL_law_r25, w ∈ wsL_law := fun w h => lw_core_in w (List.mem_append_right _ (List.mem_append_right _ (List.mem_append_right _ (List.mem_append_right _ (List.mem_append_right _ (List.mem_append_right _ (List.mem_append_right _ (List.mem_append_right _ (List.mem_append_right _ (List.mem_append_right _ (List.mem_append_right _ (List.mem_append_right _ (List.mem_append_right _ (List.mem_append_right _ (List.mem_append_right _ (List.mem_append_right _ (List.mem_append_right _ (List.mem_append_right _ (List.mem_append_right _ (List.mem_append_right _ (List.mem_append_right _ (List.mem_append_right _ (List.mem_append_right _ (List.mem_append_right _ (List.mem_append_left _ h)))))))))))))))))))))))))
theorem lr_26 : ∀ w ∈ wsL_law_r26, w ∈ wsL_law := fun w h => lw_core_in w (List.mem_append_right _ (List.mem_append_right _ (List.mem_append_right _ (List.mem_append_right _ (List.mem_append_right _ (List.mem_append_right _ (List.mem_append_right _ (List.mem_append_right _ (List.mem_append_right _ (List.mem_append_right _ (List.mem_append_right _ (List.mem_append_right _ (List.mem_append_right _ (List.mem_append_right _ (List.mem_append_right _ (List.mem_append_right _ (List.mem_append_right _ (List.mem_append_right _ (List.mem_append_right _ (List.mem_append_right _ (List.mem_append_right _ (List.mem_append_right _ (List.mem_append_right _ (List.mem_append_right _ (List.mem_append_right _ (h))))))))))))))))))))))))))
def FD (own : String) (index ci k : Nat) : Prop := ∃ (C : String) (T : u_T) (N : Nat), vwCl[ci]? = some (C, T, N) ∧ k < N ∧ Cond.fieldLink own index (T k).1 (T k).2.1 (T k).2.2.1 ∈ wsL_law ∧ ∀ w ∈ u_ws C T N, w ∈ wsL_law
def FP (own : String) (index ci k : Nat) (ty : FieldType) (fin : Bool) : Prop := ∃ (C : String) (T : u_T) (N : Nat) (ty0 : Nat → FieldType), vwCl[ci]? = some (C, T, N) ∧ k < N ∧ Cond.fieldLink own index (T k).1 (T k).2.1 (T k).2.2.1 ∈ wsL_law ∧ (∀ w ∈ u_ws C T N, w ∈ wsL_law) ∧ (∀ k, k < N → parseFieldDescriptor (T k).2.2.1 = some (ty0 k)) ∧ (∀ a, a < N → ∀ b, b < N → a ≠ b → (T a).2.1 ≠ (T b).2.1) ∧ (T k).2.2.2 = fin ∧ parseFieldDescriptor (T k).2.2.1 = some ty ∧ (fin = true → (T k).1 = own)
def CB (own : String) (index : Nat) (y : MethodName) (bytes : ByteArray) (maxL : Nat) (ret : Option FieldType) (n : Nat) : Prop := Cond.methodLink own index y ∈ wsL_law ∧ Cond.initialized y.cls ∈ wsL_law ∧ Cond.code y bytes maxL ret ∈ wsL_law ∧ y.cls ≠ "java/lang/invoke/MethodHandle" ∧ y.cls ≠ "java/lang/invoke/VarHandle" ∧ (parseMethodDescriptor y.desc).map (fun d => d.parameters.length) = some n
theorem fdX7_9 : FD RX7 9 7 0 := ⟨RX7, TX7, 9, rfl, by decide, (lr_1 _ (List.mem_of_getElem? (i := 12) rfl)), inlX7⟩
theorem fpX7_9 : FP RX7 9 7 0 (.int) false := ⟨RX7, TX7, 9, tyX7, rfl, by decide, (lr_1 _ (List.mem_of_getElem? (i := 12) rfl)), inlX7, tyX7_ok, nmX7, rfl, by decide +kernel, fun h => by cases h⟩
theorem fdX7_18 : FD RX7 18 7 1 := ⟨RX7, TX7, 9, rfl, by decide, (lr_1 _ (List.mem_of_getElem? (i := 16) rfl)), inlX7⟩
theorem fpX7_18 : FP RX7 18 7 1 (.object "ManorRolls$Custom") false := ⟨RX7, TX7, 9, tyX7, rfl, by decide, (lr_1 _ (List.mem_of_getElem? (i := 16) rfl)), inlX7, tyX7_ok, nmX7, rfl, by decide +kernel, fun h => by cases h⟩
theorem fdX7_22 : FD RX7 22 7 2 := ⟨RX7, TX7, 9, rfl, by decide, (lr_1 _ (List.mem_of_getElem? (i := 17) rfl)), inlX7⟩
theorem fpX7_22 : FP RX7 22 7 2 (.int) false := ⟨RX7, TX7, 9, tyX7, rfl, by decide, (lr_1 _ (List.mem_of_getElem? (i := 17) rfl)), inlX7, tyX7_ok, nmX7, rfl, by decide +kernel, fun h => by cases h⟩
theorem fdX7_28 : FD RX7 28 7 3 := ⟨RX7, TX7, 9, rfl, by decide, (lr_1 _ (List.mem_of_getElem? (i := 21) rfl)), inlX7⟩
theorem fpX7_28 : FP RX7 28 7 3 (.object "ManorRolls$People") true := ⟨RX7, TX7, 9, tyX7, rfl, by decide, (lr_1 _ (List.mem_of_getElem? (i := 21) rfl)), inlX7, tyX7_ok, nmX7, rfl, by decide +kernel, fun _ => rfl⟩
theorem fdX7_35 : FD RX7 35 7 4 := ⟨RX7, TX7, 9, rfl, by decide, (lr_2 _ (List.mem_of_getElem? (i := 1) rfl)), inlX7⟩
theorem fpX7_35 : FP RX7 35 7 4 (.object "ManorRolls$Land") true := ⟨RX7, TX7, 9, tyX7, rfl, by decide, (lr_2 _ (List.mem_of_getElem? (i := 1) rfl)), inlX7, tyX7_ok, nmX7, rfl, by decide +kernel, fun _ => rfl⟩
theorem fdX7_44 : FD RX7 44 7 5 := ⟨RX7, TX7, 9, rfl, by decide, (lr_2 _ (List.mem_of_getElem? (i := 5) rfl)), inlX7⟩
theorem fpX7_44 : FP RX7 44 7 5 (.object "ManorRolls$Heirs") true := ⟨RX7, TX7, 9, tyX7, rfl, by decide, (lr_2 _ (List.mem_of_getElem? (i := 5) rfl)), inlX7, tyX7_ok, nmX7, rfl, by decide +kernel, fun _ => rfl⟩
theorem fdX7_50 : FD RX7 50 7 6 := ⟨RX7, TX7, 9, rfl, by decide, (lr_2 _ (List.mem_of_getElem? (i := 7) rfl)), inlX7⟩
theorem fpX7_50 : FP RX7 50 7 6 (.array (.object "ManorRolls$Suit")) true := ⟨RX7, TX7, 9, tyX7, rfl, by decide, (lr_2 _ (List.mem_of_getElem? (i := 7) rfl)), inlX7, tyX7_ok, nmX7, rfl, by decide +kernel, fun _ => rfl⟩
theorem fdX7_54 : FD RX7 54 7 7 := ⟨RX7, TX7, 9, rfl, by decide, (lr_2 _ (List.mem_of_getElem? (i := 8) rfl)), inlX7⟩
theorem fpX7_54 : FP RX7 54 7 7 (.int) false := ⟨RX7, TX7, 9, tyX7, rfl, by decide, (lr_2 _ (List.mem_of_getElem? (i := 8) rfl)), inlX7, tyX7_ok, nmX7, rfl, by decide +kernel, fun h => by cases h⟩
theorem fdX7_57 : FD RX7 57 7 8 := ⟨RX7, TX7, 9, rfl, by decide, (lr_2 _ (List.mem_of_getElem? (i := 9) rfl)), inlX7⟩
theorem fpX7_57 : FP RX7 57 7 8 (.int) false := ⟨RX7, TX7, 9, tyX7, rfl, by decide, (lr_2 _ (List.mem_of_getElem? (i := 9) rfl)), inlX7, tyX7_ok, nmX7, rfl, by decide +kernel, fun h => by cases h⟩
theorem fdX0_10 : FD RX0 10 0 0 := ⟨RX0, TX0, 7, rfl, by decide, (lr_2 _ (List.mem_of_getElem? (i := 15) rfl)), inlX0⟩
theorem fpX0_10 : FP RX0 10 0 0 (.int) true := ⟨RX0, TX0, 7, tyX0, rfl, by decide, (lr_2 _ (List.mem_of_getElem? (i := 15) rfl)), inlX0, tyX0_ok, nmX0, rfl, by decide +kernel, fun _ => rfl⟩
theorem fdX0_16 : FD RX0 16 0 1 := ⟨RX0, TX0, 7, rfl, by decide, (lr_2 _ (List.mem_of_getElem? (i := 16) rfl)), inlX0⟩
theorem fpX0_16 : FP RX0 16 0 1 (.int) true := ⟨RX0, TX0, 7, tyX0, rfl, by decide, (lr_2 _ (List.mem_of_getElem? (i := 16) rfl)), inlX0, tyX0_ok, nmX0, rfl, by decide +kernel, fun _ => rfl⟩
theorem fdX0_19 : FD RX0 19 0 2 := ⟨RX0, TX0, 7, rfl, by decide, (lr_2 _ (List.mem_of_getElem? (i := 17) rfl)), inlX0⟩
theorem fpX0_19 : FP RX0 19 0 2 (.int) true := ⟨RX0, TX0, 7, tyX0, rfl, by decide, (lr_2 _ (List.mem_of_getElem? (i := 17) rfl)), inlX0, tyX0_ok, nmX0, rfl, by decide +kernel, fun _ => rfl⟩
theorem fdX0_22 : FD RX0 22 0 3 := ⟨RX0, TX0, 7, rfl, by decide, (lr_2 _ (List.mem_of_getElem? (i := 18) rfl)), inlX0⟩
theorem fpX0_22 : FP RX0 22 0 3 (.int) true := ⟨RX0, TX0, 7, tyX0, rfl, by decide, (lr_2 _ (List.mem_of_getElem? (i := 18) rfl)), inlX0, tyX0_ok, nmX0, rfl, by decide +kernel, fun _ => rfl⟩
theorem fdX0_25 : FD RX0 25 0 4 := ⟨RX0, TX0, 7, rfl, by decide, (lr_2 _ (List.mem_of_getElem? (i := 19) rfl)), inlX0⟩
theorem fpX0_25 : FP RX0 25 0 4 (.int) true := ⟨RX0, TX0, 7, tyX0, rfl, by decide, (lr_2 _ (List.mem_of_getElem? (i := 19) rfl)), inlX0, tyX0_ok, nmX0, rfl, by decide +kernel, fun _ => rfl⟩
theorem fdX0_28 : FD RX0 28 0 5 := ⟨RX0, TX0, 7, rfl, by decide, (lr_2 _ (List.mem_of_getElem? (i := 20) rfl)), inlX0⟩
theorem fpX0_28 : FP RX0 28 0 5 (.int) true := ⟨RX0, TX0, 7, tyX0, rfl, by decide, (lr_2 _ (List.mem_of_getElem? (i := 20) rfl)), inlX0, tyX0_ok, nmX0, rfl, by decide +kernel, fun _ => rfl⟩
theorem fdX0_31 : FD RX0 31 0 6 := ⟨RX0, TX0, 7, rfl, by decide, (lr_2 _ (List.mem_of_getElem? (i := 21) rfl)), inlX0⟩
theorem fpX0_31 : FP RX0 31 0 6 (.int) true := ⟨RX0, TX0, 7, tyX0, rfl, by decide, (lr_2 _ (List.mem_of_getElem? (i := 21) rfl)), inlX0, tyX0_ok, nmX0, rfl, by decide +kernel, fun _ => rfl⟩
theorem fdX3_11 : FD RX3 11 3 0 := ⟨RX3, TX3, 2, rfl, by decide, (lr_3 _ (List.mem_of_getElem? (i := 2) rfl)), inlX3⟩
theorem fpX3_11 : FP RX3 11 3 0 (.array (.object "ManorRolls$Person")) true := ⟨RX3, TX3, 2, tyX3, rfl, by decide, (lr_3 _ (List.mem_of_getElem? (i := 2) rfl)), inlX3, tyX3_ok, nmX3, rfl, by decide +kernel, fun _ => rfl⟩
theorem fdX2_11 : FD RX2 11 2 0 := ⟨RX2, TX2, 4, rfl, by decide, (lr_3 _ (List.mem_of_getElem? (i := 8) rfl)), inlX2⟩
theorem fpX2_11 : FP RX2 11 2 0 (.array (.object "ManorRolls$Right")) true := ⟨RX2, TX2, 4, tyX2, rfl, by decide, (lr_3 _ (List.mem_of_getElem? (i := 8) rfl)), inlX2, tyX2_ok, nmX2, rfl, by decide +kernel, fun _ => rfl⟩
theorem fdX2_17 : FD RX2 17 2 1 := ⟨RX2, TX2, 4, rfl, by decide, (lr_3 _ (List.mem_of_getElem? (i := 9) rfl)), inlX2⟩
theorem fpX2_17 : FP RX2 17 2 1 (.int) false := ⟨RX2, TX2, 4, tyX2, rfl, by decide, (lr_3 _ (List.mem_of_getElem? (i := 9) rfl)), inlX2, tyX2_ok, nmX2, rfl, by decide +kernel, fun h => by cases h⟩
theorem fdX2_21 : FD RX2 21 2 2 := ⟨RX2, TX2, 4, rfl, by decide, (lr_3 _ (List.mem_of_getElem? (i := 11) rfl)), inlX2⟩
theorem fpX2_21 : FP RX2 21 2 2 (.array .int) true := ⟨RX2, TX2, 4, tyX2, rfl, by decide, (lr_3 _ (List.mem_of_getElem? (i := 11) rfl)), inlX2, tyX2_ok, nmX2, rfl, by decide +kernel, fun _ => rfl⟩
theorem fdX5_7 : FD RX5 7 5 0 := ⟨RX5, TX5, 4, rfl, by decide, (lr_3 _ (List.mem_of_getElem? (i := 18) rfl)), inlX5⟩
theorem fpX5_7 : FP RX5 7 5 0 (.int) true := ⟨RX5, TX5, 4, tyX5, rfl, by decide, (lr_3 _ (List.mem_of_getElem? (i := 18) rfl)), inlX5, tyX5_ok, nmX5, rfl, by decide +kernel, fun _ => rfl⟩
theorem fdX5_13 : FD RX5 13 5 1 := ⟨RX5, TX5, 4, rfl, by decide, (lr_3 _ (List.mem_of_getElem? (i := 19) rfl)), inlX5⟩
theorem fpX5_13 : FP RX5 13 5 1 (.int) true := ⟨RX5, TX5, 4, tyX5, rfl, by decide, (lr_3 _ (List.mem_of_getElem? (i := 19) rfl)), inlX5, tyX5_ok, nmX5, rfl, by decide +kernel, fun _ => rfl⟩
theorem fdX5_16 : FD RX5 16 5 2 := ⟨RX5, TX5, 4, rfl, by decide, (lr_3 _ (List.mem_of_getElem? (i := 20) rfl)), inlX5⟩
theorem fpX5_16 : FP RX5 16 5 2 (.int) true := ⟨RX5, TX5, 4, tyX5, rfl, by decide, (lr_3 _ (List.mem_of_getElem? (i := 20) rfl)), inlX5, tyX5_ok, nmX5, rfl, by decide +kernel, fun _ => rfl⟩
theorem fdX5_19 : FD RX5 19 5 3 := ⟨RX5, TX5, 4, rfl, by decide, (lr_3 _ (List.mem_of_getElem? (i := 21) rfl)), inlX5⟩
theorem fpX5_19 : FP RX5 19 5 3 (.object "ManorRolls$Right") true := ⟨RX5, TX5, 4, tyX5, rfl, by decide, (lr_3 _ (List.mem_of_getElem? (i := 21) rfl)), inlX5, tyX5_ok, nmX5, rfl, by decide +kernel, fun _ => rfl⟩
theorem fdX1_9 : FD RX1 9 1 0 := ⟨RX1, TX1, 7, rfl, by decide, (lr_4 _ (List.mem_of_getElem? (i := 2) rfl)), inlX1⟩
theorem fpX1_9 : FP RX1 9 1 0 (.array .int) true := ⟨RX1, TX1, 7, tyX1, rfl, by decide, (lr_4 _ (List.mem_of_getElem? (i := 2) rfl)), inlX1, tyX1_ok, nmX1, rfl, by decide +kernel, fun _ => rfl⟩
theorem fdX1_15 : FD RX1 15 1 2 := ⟨RX1, TX1, 7, rfl, by decide, (lr_4 _ (List.mem_of_getElem? (i := 3) rfl)), inlX1⟩
theorem fpX1_15 : FP RX1 15 1 2 (.array .int) true := ⟨RX1, TX1, 7, tyX1, rfl, by decide, (lr_4 _ (List.mem_of_getElem? (i := 3) rfl)), inlX1, tyX1_ok, nmX1, rfl, by decide +kernel, fun _ => rfl⟩
theorem fdX1_18 : FD RX1 18 1 3 := ⟨RX1, TX1, 7, rfl, by decide, (lr_4 _ (List.mem_of_getElem? (i := 4) rfl)), inlX1⟩
theorem fpX1_18 : FP RX1 18 1 3 (.object "ManorRolls$People") true := ⟨RX1, TX1, 7, tyX1, rfl, by decide, (lr_4 _ (List.mem_of_getElem? (i := 4) rfl)), inlX1, tyX1_ok, nmX1, rfl, by decide +kernel, fun _ => rfl⟩
theorem fdX8_9 : FD RX8 9 8 9 := ⟨RX8, TX8, 44, rfl, by decide, (lr_4 _ (List.mem_of_getElem? (i := 9) rfl)), inlX8⟩
theorem fpX8_9 : FP RX8 9 8 9 (.array .int) true := ⟨RX8, TX8, 44, tyX8, rfl, by decide, (lr_4 _ (List.mem_of_getElem? (i := 9) rfl)), inlX8, tyX8_ok, nmX8, rfl, by decide +kernel, fun _ => rfl⟩
theorem fdX8_13 : FD RX8 13 8 10 := ⟨RX8, TX8, 44, rfl, by decide, (lr_4 _ (List.mem_of_getElem? (i := 10) rfl)), inlX8⟩
theorem fpX8_13 : FP RX8 13 8 10 (.array .int) true := ⟨RX8, TX8, 44, tyX8, rfl, by decide, (lr_4 _ (List.mem_of_getElem? (i := 10) rfl)), inlX8, tyX8_ok, nmX8, rfl, by decide +kernel, fun _ => rfl⟩
theorem fdX8_16 : FD RX8 16 8 11 := ⟨RX8, TX8, 44, rfl, by decide, (lr_4 _ (List.mem_of_getElem? (i := 11) rfl)), inlX8⟩
theorem fpX8_16 : FP RX8 16 8 11 (.array .int) true := ⟨RX8, TX8, 44, tyX8, rfl, by decide, (lr_4 _ (List.mem_of_getElem? (i := 11) rfl)), inlX8, tyX8_ok, nmX8, rfl, by decide +kernel, fun _ => rfl⟩
theorem fdX8_19 : FD RX8 19 8 12 := ⟨RX8, TX8, 44, rfl, by decide, (lr_4 _ (List.mem_of_getElem? (i := 12) rfl)), inlX8⟩
theorem fpX8_19 : FP RX8 19 8 12 (.array .int) true := ⟨RX8, TX8, 44, tyX8, rfl, by decide, (lr_4 _ (List.mem_of_getElem? (i := 12) rfl)), inlX8, tyX8_ok, nmX8, rfl, by decide +kernel, fun _ => rfl⟩
theorem fdX8_22 : FD RX8 22 8 13 := ⟨RX8, TX8, 44, rfl, by decide, (lr_4 _ (List.mem_of_getElem? (i := 13) rfl)), inlX8⟩
theorem fpX8_22 : FP RX8 22 8 13 (.array .int) true := ⟨RX8, TX8, 44, tyX8, rfl, by decide, (lr_4 _ (List.mem_of_getElem? (i := 13) rfl)), inlX8, tyX8_ok, nmX8, rfl, by decide +kernel, fun _ => rfl⟩
theorem fdX8_25 : FD RX8 25 8 14 := ⟨RX8, TX8, 44, rfl, by decide, (lr_4 _ (List.mem_of_getElem? (i := 14) rfl)), inlX8⟩
theorem fpX8_25 : FP RX8 25 8 14 (.array .int) true := ⟨RX8, TX8, 44, tyX8, rfl, by decide, (lr_4 _ (List.mem_of_getElem? (i := 14) rfl)), inlX8, tyX8_ok, nmX8, rfl, by decide +kernel, fun _ => rfl⟩
theorem fdX8_28 : FD RX8 28 8 15 := ⟨RX8, TX8, 44, rfl, by decide, (lr_4 _ (List.mem_of_getElem? (i := 15) rfl)), inlX8⟩
theorem fpX8_28 : FP RX8 28 8 15 (.array .int) true := ⟨RX8, TX8, 44, tyX8, rfl, by decide, (lr_4 _ (List.mem_of_getElem? (i := 15) rfl)), inlX8, tyX8_ok, nmX8, rfl, by decide +kernel, fun _ => rfl⟩
theorem fdX8_31 : FD RX8 31 8 16 := ⟨RX8, TX8, 44, rfl, by decide, (lr_4 _ (List.mem_of_getElem? (i := 16) rfl)), inlX8⟩
theorem fpX8_31 : FP RX8 31 8 16 (.array .int) true := ⟨RX8, TX8, 44, tyX8, rfl, by decide, (lr_4 _ (List.mem_of_getElem? (i := 16) rfl)), inlX8, tyX8_ok, nmX8, rfl, by decide +kernel, fun _ => rfl⟩
theorem fdX8_34 : FD RX8 34 8 17 := ⟨RX8, TX8, 44, rfl, by decide, (lr_4 _ (List.mem_of_getElem? (i := 17) rfl)), inlX8⟩
theorem fpX8_34 : FP RX8 34 8 17 (.array .int) true := ⟨RX8, TX8, 44, tyX8, rfl, by decide, (lr_4 _ (List.mem_of_getElem? (i := 17) rfl)), inlX8, tyX8_ok, nmX8, rfl, by decide +kernel, fun _ => rfl⟩
theorem fdX8_37 : FD RX8 37 8 18 := ⟨RX8, TX8, 44, rfl, by decide, (lr_4 _ (List.mem_of_getElem? (i := 18) rfl)), inlX8⟩
theorem fpX8_37 : FP RX8 37 8 18 (.array .int) true := ⟨RX8, TX8, 44, tyX8, rfl, by decide, (lr_4 _ (List.mem_of_getElem? (i := 18) rfl)), inlX8, tyX8_ok, nmX8, rfl, by decide +kernel, fun _ => rfl⟩
theorem fdX8_40 : FD RX8 40 8 19 := ⟨RX8, TX8, 44, rfl, by decide, (lr_4 _ (List.mem_of_getElem? (i := 19) rfl)), inlX8⟩
theorem fpX8_40 : FP RX8 40 8 19 (.array .int) true := ⟨RX8, TX8, 44, tyX8, rfl, by decide, (lr_4 _ (List.mem_of_getElem? (i := 19) rfl)), inlX8, tyX8_ok, nmX8, rfl, by decide +kernel, fun _ => rfl⟩
theorem fdX8_43 : FD RX8 43 8 20 := ⟨RX8, TX8, 44, rfl, by decide, (lr_4 _ (List.mem_of_getElem? (i := 21) rfl)), inlX8⟩
theorem fpX8_43 : FP RX8 43 8 20 (.array .boolean) true := ⟨RX8, TX8, 44, tyX8, rfl, by decide, (lr_4 _ (List.mem_of_getElem? (i := 21) rfl)), inlX8, tyX8_ok, nmX8, rfl, by decide +kernel, fun _ => rfl⟩
theorem fdX8_47 : FD RX8 47 8 21 := ⟨RX8, TX8, 44, rfl, by decide, (lr_4 _ (List.mem_of_getElem? (i := 22) rfl)), inlX8⟩
theorem fpX8_47 : FP RX8 47 8 21 (.array .boolean) true := ⟨RX8, TX8, 44, tyX8, rfl, by decide, (lr_4 _ (List.mem_of_getElem? (i := 22) rfl)), inlX8, tyX8_ok, nmX8, rfl, by decide +kernel, fun _ => rfl⟩
theorem fdX8_50 : FD RX8 50 8 24 := ⟨RX8, TX8, 44, rfl, by decide, (lr_4 _ (List.mem_of_getElem? (i := 23) rfl)), inlX8⟩
theorem fpX8_50 : FP RX8 50 8 24 (.array .int) false := ⟨RX8, TX8, 44, tyX8, rfl, by decide, (lr_4 _ (List.mem_of_getElem? (i := 23) rfl)), inlX8, tyX8_ok, nmX8, rfl, by decide +kernel, fun h => by cases h⟩
theorem fdX8_53 : FD RX8 53 8 25 := ⟨RX8, TX8, 44, rfl, by decide, (lr_5 _ (List.mem_of_getElem? (i := 0) rfl)), inlX8⟩
theorem fpX8_53 : FP RX8 53 8 25 (.array .int) false := ⟨RX8, TX8, 44, tyX8, rfl, by decide, (lr_5 _ (List.mem_of_getElem? (i := 0) rfl)), inlX8, tyX8_ok, nmX8, rfl, by decide +kernel, fun h => by cases h⟩
theorem fdX8_56 : FD RX8 56 8 26 := ⟨RX8, TX8, 44, rfl, by decide, (lr_5 _ (List.mem_of_getElem? (i := 1) rfl)), inlX8⟩
theorem fpX8_56 : FP RX8 56 8 26 (.array .int) false := ⟨RX8, TX8, 44, tyX8, rfl, by decide, (lr_5 _ (List.mem_of_getElem? (i := 1) rfl)), inlX8, tyX8_ok, nmX8, rfl, by decide +kernel, fun h => by cases h⟩
theorem fdX8_59 : FD RX8 59 8 27 := ⟨RX8, TX8, 44, rfl, by decide, (lr_5 _ (List.mem_of_getElem? (i := 2) rfl)), inlX8⟩
theorem fpX8_59 : FP RX8 59 8 27 (.array .int) false := ⟨RX8, TX8, 44, tyX8, rfl, by decide, (lr_5 _ (List.mem_of_getElem? (i := 2) rfl)), inlX8, tyX8_ok, nmX8, rfl, by decide +kernel, fun h => by cases h⟩
theorem fdX8_62 : FD RX8 62 8 29 := ⟨RX8, TX8, 44, rfl, by decide, (lr_5 _ (List.mem_of_getElem? (i := 3) rfl)), inlX8⟩
theorem fpX8_62 : FP RX8 62 8 29 (.array .int) true := ⟨RX8, TX8, 44, tyX8, rfl, by decide, (lr_5 _ (List.mem_of_getElem? (i := 3) rfl)), inlX8, tyX8_ok, nmX8, rfl, by decide +kernel, fun _ => rfl⟩
theorem fdX8_65 : FD RX8 65 8 30 := ⟨RX8, TX8, 44, rfl, by decide, (lr_5 _ (List.mem_of_getElem? (i := 4) rfl)), inlX8⟩
theorem fpX8_65 : FP RX8 65 8 30 (.array .int) true := ⟨RX8, TX8, 44, tyX8, rfl, by decide, (lr_5 _ (List.mem_of_getElem? (i := 4) rfl)), inlX8, tyX8_ok, nmX8, rfl, by decide +kernel, fun _ => rfl⟩
theorem fdX8_68 : FD RX8 68 8 31 := ⟨RX8, TX8, 44, rfl, by decide, (lr_5 _ (List.mem_of_getElem? (i := 5) rfl)), inlX8⟩
theorem fpX8_68 : FP RX8 68 8 31 (.array .int) true := ⟨RX8, TX8, 44, tyX8, rfl, by decide, (lr_5 _ (List.mem_of_getElem? (i := 5) rfl)), inlX8, tyX8_ok, nmX8, rfl, by decide +kernel, fun _ => rfl⟩
theorem fdX8_71 : FD RX8 71 8 32 := ⟨RX8, TX8, 44, rfl, by decide, (lr_5 _ (List.mem_of_getElem? (i := 6) rfl)), inlX8⟩
theorem fpX8_71 : FP RX8 71 8 32 (.array .int) true := ⟨RX8, TX8, 44, tyX8, rfl, by decide, (lr_5 _ (List.mem_of_getElem? (i := 6) rfl)), inlX8, tyX8_ok, nmX8, rfl, by decide +kernel, fun _ => rfl⟩
theorem fdX8_74 : FD RX8 74 8 33 := ⟨RX8, TX8, 44, rfl, by decide, (lr_5 _ (List.mem_of_getElem? (i := 7) rfl)), inlX8⟩
theorem fpX8_74 : FP RX8 74 8 33 (.array .int) true := ⟨RX8, TX8, 44, tyX8, rfl, by decide, (lr_5 _ (List.mem_of_getElem? (i := 7) rfl)), inlX8, tyX8_ok, nmX8, rfl, by decide +kernel, fun _ => rfl⟩
theorem fdX8_77 : FD RX8 77 8 34 := ⟨RX8, TX8, 44, rfl, by decide, (lr_5 _ (List.mem_of_getElem? (i := 8) rfl)), inlX8⟩
theorem fpX8_77 : FP RX8 77 8 34 (.array .int) true := ⟨RX8, TX8, 44, tyX8, rfl, by decide, (lr_5 _ (List.mem_of_getElem? (i := 8) rfl)), inlX8, tyX8_ok, nmX8, rfl, by decide +kernel, fun _ => rfl⟩
theorem fdX8_80 : FD RX8 80 8 35 := ⟨RX8, TX8, 44, rfl, by decide, (lr_5 _ (List.mem_of_getElem? (i := 9) rfl)), inlX8⟩
theorem fpX8_80 : FP RX8 80 8 35 (.array .int) true := ⟨RX8, TX8, 44, tyX8, rfl, by decide, (lr_5 _ (List.mem_of_getElem? (i := 9) rfl)), inlX8, tyX8_ok, nmX8, rfl, by decide +kernel, fun _ => rfl⟩
theorem fdX8_83 : FD RX8 83 8 36 := ⟨RX8, TX8, 44, rfl, by decide, (lr_5 _ (List.mem_of_getElem? (i := 10) rfl)), inlX8⟩
theorem fpX8_83 : FP RX8 83 8 36 (.array .int) true := ⟨RX8, TX8, 44, tyX8, rfl, by decide, (lr_5 _ (List.mem_of_getElem? (i := 10) rfl)), inlX8, tyX8_ok, nmX8, rfl, by decide +kernel, fun _ => rfl⟩
theorem fdX8_86 : FD RX8 86 8 37 := ⟨RX8, TX8, 44, rfl, by decide, (lr_5 _ (List.mem_of_getElem? (i := 11) rfl)), inlX8⟩
theorem fpX8_86 : FP RX8 86 8 37 (.array .int) true := ⟨RX8, TX8, 44, tyX8, rfl, by decide, (lr_5 _ (List.mem_of_getElem? (i := 11) rfl)), inlX8, tyX8_ok, nmX8, rfl, by decide +kernel, fun _ => rfl⟩
theorem fdX8_89 : FD RX8 89 8 39 := ⟨RX8, TX8, 44, rfl, by decide, (lr_5 _ (List.mem_of_getElem? (i := 12) rfl)), inlX8⟩
theorem fpX8_89 : FP RX8 89 8 39 (.array .int) true := ⟨RX8, TX8, 44, tyX8, rfl, by decide, (lr_5 _ (List.mem_of_getElem? (i := 12) rfl)), inlX8, tyX8_ok, nmX8, rfl, by decide +kernel, fun _ => rfl⟩
theorem fdX8_92 : FD RX8 92 8 43 := ⟨RX8, TX8, 44, rfl, by decide, (lr_5 _ (List.mem_of_getElem? (i := 13) rfl)), inlX8⟩
theorem fpX8_92 : FP RX8 92 8 43 (.array .int) true := ⟨RX8, TX8, 44, tyX8, rfl, by decide, (lr_5 _ (List.mem_of_getElem? (i := 13) rfl)), inlX8, tyX8_ok, nmX8, rfl, by decide +kernel, fun _ => rfl⟩
theorem fdX8_111 : FD RX8 111 8 28 := ⟨RX8, TX8, 44, rfl, by decide, (lr_5 _ (List.mem_of_getElem? (i := 18) rfl)), inlX8⟩
theorem fpX8_111 : FP RX8 111 8 28 (.int) false := ⟨RX8, TX8, 44, tyX8, rfl, by decide, (lr_5 _ (List.mem_of_getElem? (i := 18) rfl)), inlX8, tyX8_ok, nmX8, rfl, by decide +kernel, fun h => by cases h⟩
theorem fdX8_118 : FD RX8 118 8 8 := ⟨RX8, TX8, 44, rfl, by decide, (lr_5 _ (List.mem_of_getElem? (i := 19) rfl)), inlX8⟩
theorem fpX8_118 : FP RX8 118 8 8 (.int) false := ⟨RX8, TX8, 44, tyX8, rfl, by decide, (lr_5 _ (List.mem_of_getElem? (i := 19) rfl)), inlX8, tyX8_ok, nmX8, rfl, by decide +kernel, fun h => by cases h⟩
theorem fdX8_130 : FD RX8 130 8 0 := ⟨RX8, TX8, 44, rfl, by decide, (lr_6 _ (List.mem_of_getElem? (i := 15) rfl)), inlX8⟩
theorem fpX8_130 : FP RX8 130 8 0 (.int) false := ⟨RX8, TX8, 44, tyX8, rfl, by decide, (lr_6 _ (List.mem_of_getElem? (i := 15) rfl)), inlX8, tyX8_ok, nmX8, rfl, by decide +kernel, fun h => by cases h⟩
theorem fdX8_133 : FD RX8 133 8 1 := ⟨RX8, TX8, 44, rfl, by decide, (lr_6 _ (List.mem_of_getElem? (i := 16) rfl)), inlX8⟩
theorem fpX8_133 : FP RX8 133 8 1 (.int) false := ⟨RX8, TX8, 44, tyX8, rfl, by decide, (lr_6 _ (List.mem_of_getElem? (i := 16) rfl)), inlX8, tyX8_ok, nmX8, rfl, by decide +kernel, fun h => by cases h⟩
theorem fdX8_136 : FD RX8 136 8 5 := ⟨RX8, TX8, 44, rfl, by decide, (lr_6 _ (List.mem_of_getElem? (i := 17) rfl)), inlX8⟩
theorem fpX8_136 : FP RX8 136 8 5 (.int) false := ⟨RX8, TX8, 44, tyX8, rfl, by decide, (lr_6 _ (List.mem_of_getElem? (i := 17) rfl)), inlX8, tyX8_ok, nmX8, rfl, by decide +kernel, fun h => by cases h⟩
theorem fdX8_139 : FD RX8 139 8 6 := ⟨RX8, TX8, 44, rfl, by decide, (lr_6 _ (List.mem_of_getElem? (i := 18) rfl)), inlX8⟩
theorem fpX8_139 : FP RX8 139 8 6 (.int) false := ⟨RX8, TX8, 44, tyX8, rfl, by decide, (lr_6 _ (List.mem_of_getElem? (i := 18) rfl)), inlX8, tyX8_ok, nmX8, rfl, by decide +kernel, fun h => by cases h⟩
theorem fdX8_142 : FD RX8 142 8 2 := ⟨RX8, TX8, 44, rfl, by decide, (lr_6 _ (List.mem_of_getElem? (i := 19) rfl)), inlX8⟩
theorem fpX8_142 : FP RX8 142 8 2 (.int) false := ⟨RX8, TX8, 44, tyX8, rfl, by decide, (lr_6 _ (List.mem_of_getElem? (i := 19) rfl)), inlX8, tyX8_ok, nmX8, rfl, by decide +kernel, fun h => by cases h⟩
theorem fdX8_145 : FD RX8 145 8 3 := ⟨RX8, TX8, 44, rfl, by decide, (lr_6 _ (List.mem_of_getElem? (i := 20) rfl)), inlX8⟩
theorem fpX8_145 : FP RX8 145 8 3 (.int) false := ⟨RX8, TX8, 44, tyX8, rfl, by decide, (lr_6 _ (List.mem_of_getElem? (i := 20) rfl)), inlX8, tyX8_ok, nmX8, rfl, by decide +kernel, fun h => by cases h⟩
theorem fdX8_148 : FD RX8 148 8 4 := ⟨RX8, TX8, 44, rfl, by decide, (lr_6 _ (List.mem_of_getElem? (i := 21) rfl)), inlX8⟩
theorem fpX8_148 : FP RX8 148 8 4 (.int) false := ⟨RX8, TX8, 44, tyX8, rfl, by decide, (lr_6 _ (List.mem_of_getElem? (i := 21) rfl)), inlX8, tyX8_ok, nmX8, rfl, by decide +kernel, fun h => by cases h⟩
theorem fdX8_151 : FD RX8 151 8 7 := ⟨RX8, TX8, 44, rfl, by decide, (lr_6 _ (List.mem_of_getElem? (i := 22) rfl)), inlX8⟩
theorem fpX8_151 : FP RX8 151 8 7 (.int) false := ⟨RX8, TX8, 44, tyX8, rfl, by decide, (lr_6 _ (List.mem_of_getElem? (i := 22) rfl)), inlX8, tyX8_ok, nmX8, rfl, by decide +kernel, fun h => by cases h⟩
theorem fdX7_64 : FD RX7 64 3 1 := ⟨RX3, TX3, 2, rfl, by decide, (lr_7 _ (List.mem_of_getElem? (i := 6) rfl)), inlX3⟩
theorem fpX7_64 : FP RX7 64 3 1 (.int) false := ⟨RX3, TX3, 2, tyX3, rfl, by decide, (lr_7 _ (List.mem_of_getElem? (i := 6) rfl)), inlX3, tyX3_ok, nmX3, rfl, by decide +kernel, fun h => by cases h⟩
theorem fdX3_29 : FD RX3 29 4 0 := ⟨RX4, TX4, 14, rfl, by decide, (lr_7 _ (List.mem_of_getElem? (i := 14) rfl)), inlX4⟩
theorem fdX3_17 : FD RX3 17 3 1 := ⟨RX3, TX3, 2, rfl, by decide, (lr_7 _ (List.mem_of_getElem? (i := 19) rfl)), inlX3⟩
theorem fpX3_17 : FP RX3 17 3 1 (.int) false := ⟨RX3, TX3, 2, tyX3, rfl, by decide, (lr_7 _ (List.mem_of_getElem? (i := 19) rfl)), inlX3, tyX3_ok, nmX3, rfl, by decide +kernel, fun h => by cases h⟩
theorem fdX4_9 : FD RX4 9 4 0 := ⟨RX4, TX4, 14, rfl, by decide, (lr_8 _ (List.mem_of_getElem? (i := 0) rfl)), inlX4⟩
theorem fpX4_9 : FP RX4 9 4 0 (.int) true := ⟨RX4, TX4, 14, tyX4, rfl, by decide, (lr_8 _ (List.mem_of_getElem? (i := 0) rfl)), inlX4, tyX4_ok, nmX4, rfl, by decide +kernel, fun _ => rfl⟩
theorem fdX4_15 : FD RX4 15 4 1 := ⟨RX4, TX4, 14, rfl, by decide, (lr_8 _ (List.mem_of_getElem? (i := 1) rfl)), inlX4⟩
theorem fpX4_15 : FP RX4 15 4 1 (.int) true := ⟨RX4, TX4, 14, tyX4, rfl, by decide, (lr_8 _ (List.mem_of_getElem? (i := 1) rfl)), inlX4, tyX4_ok, nmX4, rfl, by decide +kernel, fun _ => rfl⟩
theorem fdX4_18 : FD RX4 18 4 2 := ⟨RX4, TX4, 14, rfl, by decide, (lr_8 _ (List.mem_of_getElem? (i := 2) rfl)), inlX4⟩
theorem fpX4_18 : FP RX4 18 4 2 (.int) true := ⟨RX4, TX4, 14, tyX4, rfl, by decide, (lr_8 _ (List.mem_of_getElem? (i := 2) rfl)), inlX4, tyX4_ok, nmX4, rfl, by decide +kernel, fun _ => rfl⟩
theorem fdX4_21 : FD RX4 21 4 3 := ⟨RX4, TX4, 14, rfl, by decide, (lr_8 _ (List.mem_of_getElem? (i := 3) rfl)), inlX4⟩
theorem fpX4_21 : FP RX4 21 4 3 (.int) true := ⟨RX4, TX4, 14, tyX4, rfl, by decide, (lr_8 _ (List.mem_of_getElem? (i := 3) rfl)), inlX4, tyX4_ok, nmX4, rfl, by decide +kernel, fun _ => rfl⟩
theorem fdX4_24 : FD RX4 24 4 4 := ⟨RX4, TX4, 14, rfl, by decide, (lr_8 _ (List.mem_of_getElem? (i := 4) rfl)), inlX4⟩
theorem fpX4_24 : FP RX4 24 4 4 (.boolean) false := ⟨RX4, TX4, 14, tyX4, rfl, by decide, (lr_8 _ (List.mem_of_getElem? (i := 4) rfl)), inlX4, tyX4_ok, nmX4, rfl, by decide +kernel, fun h => by cases h⟩
theorem fdX4_28 : FD RX4 28 4 5 := ⟨RX4, TX4, 14, rfl, by decide, (lr_8 _ (List.mem_of_getElem? (i := 5) rfl)), inlX4⟩
theorem fpX4_28 : FP RX4 28 4 5 (.int) false := ⟨RX4, TX4, 14, tyX4, rfl, by decide, (lr_8 _ (List.mem_of_getElem? (i := 5) rfl)), inlX4, tyX4_ok, nmX4, rfl, by decide +kernel, fun h => by cases h⟩
theorem fdX3_32 : FD RX3 32 4 1 := ⟨RX4, TX4, 14, rfl, by decide, (lr_8 _ (List.mem_of_getElem? (i := 10) rfl)), inlX4⟩
theorem fdX3_39 : FD RX3 39 4 2 := ⟨RX4, TX4, 14, rfl, by decide, (lr_8 _ (List.mem_of_getElem? (i := 11) rfl)), inlX4⟩
theorem fdX4_31 : FD RX4 31 4 12 := ⟨RX4, TX4, 14, rfl, by decide, (lr_8 _ (List.mem_of_getElem? (i := 20) rfl)), inlX4⟩
theorem fpX4_31 : FP RX4 31 4 12 (.long) false := ⟨RX4, TX4, 14, tyX4, rfl, by decide, (lr_8 _ (List.mem_of_getElem? (i := 20) rfl)), inlX4, tyX4_ok, nmX4, rfl, by decide +kernel, fun h => by cases h⟩
theorem fdX4_35 : FD RX4 35 4 13 := ⟨RX4, TX4, 14, rfl, by decide, (lr_8 _ (List.mem_of_getElem? (i := 21) rfl)), inlX4⟩
theorem fpX4_35 : FP RX4 35 4 13 (.long) false := ⟨RX4, TX4, 14, tyX4, rfl, by decide, (lr_8 _ (List.mem_of_getElem? (i := 21) rfl)), inlX4, tyX4_ok, nmX4, rfl, by decide +kernel, fun h => by cases h⟩
theorem fdX8_99 : FD RX8 99 8 22 := ⟨RX8, TX8, 44, rfl, by decide, (lr_9 _ (List.mem_of_getElem? (i := 2) rfl)), inlX8⟩
theorem fpX8_99 : FP RX8 99 8 22 (.int) false := ⟨RX8, TX8, 44, tyX8, rfl, by decide, (lr_9 _ (List.mem_of_getElem? (i := 2) rfl)), inlX8, tyX8_ok, nmX8, rfl, by decide +kernel, fun h => by cases h⟩
theorem fdX7_83 : FD RX7 83 4 0 := ⟨RX4, TX4, 14, rfl, by decide, (lr_9 _ (List.mem_of_getElem? (i := 11) rfl)), inlX4⟩
theorem fdX7_86 : FD RX7 86 4 5 := ⟨RX4, TX4, 14, rfl, by decide, (lr_9 _ (List.mem_of_getElem? (i := 12) rfl)), inlX4⟩
theorem fpX7_86 : FP RX7 86 4 5 (.int) false := ⟨RX4, TX4, 14, tyX4, rfl, by decide, (lr_9 _ (List.mem_of_getElem? (i := 12) rfl)), inlX4, tyX4_ok, nmX4, rfl, by decide +kernel, fun h => by cases h⟩
theorem fdX3_25 : FD RX3 25 4 4 := ⟨RX4, TX4, 14, rfl, by decide, (lr_9 _ (List.mem_of_getElem? (i := 17) rfl)), inlX4⟩
theorem fpX3_25 : FP RX3 25 4 4 (.boolean) false := ⟨RX4, TX4, 14, tyX4, rfl, by decide, (lr_9 _ (List.mem_of_getElem? (i := 17) rfl)), inlX4, tyX4_ok, nmX4, rfl, by decide +kernel, fun h => by cases h⟩
theorem fdX7_116 : FD RX7 116 2 3 := ⟨RX2, TX2, 4, rfl, by decide, (lr_9 _ (List.mem_of_getElem? (i := 22) rfl)), inlX2⟩
theorem fpX7_116 : FP RX7 116 2 3 (.int) false := ⟨RX2, TX2, 4, tyX2, rfl, by decide, (lr_9 _ (List.mem_of_getElem? (i := 22) rfl)), inlX2, tyX2_ok, nmX2, rfl, by decide +kernel, fun h => by cases h⟩
theorem fdX7_243 : FD RX7 243 2 2 := ⟨RX2, TX2, 4, rfl, by decide, (lr_9 _ (List.mem_of_getElem? (i := 23) rfl)), inlX2⟩
theorem fdX2_28 : FD RX2 28 2 3 := ⟨RX2, TX2, 4, rfl, by decide, (lr_10 _ (List.mem_of_getElem? (i := 4) rfl)), inlX2⟩
theorem fpX2_28 : FP RX2 28 2 3 (.int) false := ⟨RX2, TX2, 4, tyX2, rfl, by decide, (lr_10 _ (List.mem_of_getElem? (i := 4) rfl)), inlX2, tyX2_ok, nmX2, rfl, by decide +kernel, fun h => by cases h⟩
theorem fdX2_35 : FD RX2 35 5 0 := ⟨RX5, TX5, 4, rfl, by decide, (lr_10 _ (List.mem_of_getElem? (i := 5) rfl)), inlX5⟩
theorem fdX2_38 : FD RX2 38 5 1 := ⟨RX5, TX5, 4, rfl, by decide, (lr_10 _ (List.mem_of_getElem? (i := 6) rfl)), inlX5⟩
theorem fdX2_48 : FD RX2 48 5 3 := ⟨RX5, TX5, 4, rfl, by decide, (lr_10 _ (List.mem_of_getElem? (i := 15) rfl)), inlX5⟩
theorem fdX7_191 : FD RX7 191 0 0 := ⟨RX0, TX0, 7, rfl, by decide, (lr_10 _ (List.mem_of_getElem? (i := 20) rfl)), inlX0⟩
theorem fdX7_252 : FD RX7 252 1 2 := ⟨RX1, TX1, 7, rfl, by decide, (lr_10 _ (List.mem_of_getElem? (i := 21) rfl)), inlX1⟩
theorem fdX1_48 : FD RX1 48 1 4 := ⟨RX1, TX1, 7, rfl, by decide, (lr_11 _ (List.mem_of_getElem? (i := 10) rfl)), inlX1⟩
theorem fpX1_48 : FP RX1 48 1 4 (.int) false := ⟨RX1, TX1, 7, tyX1, rfl, by decide, (lr_11 _ (List.mem_of_getElem? (i := 10) rfl)), inlX1, tyX1_ok, nmX1, rfl, by decide +kernel, fun h => by cases h⟩
theorem fdX1_51 : FD RX1 51 1 5 := ⟨RX1, TX1, 7, rfl, by decide, (lr_11 _ (List.mem_of_getElem? (i := 11) rfl)), inlX1⟩
theorem fpX1_51 : FP RX1 51 1 5 (.long) false := ⟨RX1, TX1, 7, tyX1, rfl, by decide, (lr_11 _ (List.mem_of_getElem? (i := 11) rfl)), inlX1, tyX1_ok, nmX1, rfl, by decide +kernel, fun h => by cases h⟩
theorem fdX1_55 : FD RX1 55 1 6 := ⟨RX1, TX1, 7, rfl, by decide, (lr_11 _ (List.mem_of_getElem? (i := 12) rfl)), inlX1⟩
theorem fpX1_55 : FP RX1 55 1 6 (.long) false := ⟨RX1, TX1, 7, tyX1, rfl, by decide, (lr_11 _ (List.mem_of_getElem? (i := 12) rfl)), inlX1, tyX1_ok, nmX1, rfl, by decide +kernel, fun h => by cases h⟩
theorem fdX1_58 : FD RX1 58 3 1 := ⟨RX3, TX3, 2, rfl, by decide, (lr_11 _ (List.mem_of_getElem? (i := 13) rfl)), inlX3⟩
theorem fpX1_58 : FP RX1 58 3 1 (.int) false := ⟨RX3, TX3, 2, tyX3, rfl, by decide, (lr_11 _ (List.mem_of_getElem? (i := 13) rfl)), inlX3, tyX3_ok, nmX3, rfl, by decide +kernel, fun h => by cases h⟩
theorem fdX1_67 : FD RX1 67 4 4 := ⟨RX4, TX4, 14, rfl, by decide, (lr_11 _ (List.mem_of_getElem? (i := 14) rfl)), inlX4⟩
theorem fpX1_67 : FP RX1 67 4 4 (.boolean) false := ⟨RX4, TX4, 14, tyX4, rfl, by decide, (lr_11 _ (List.mem_of_getElem? (i := 14) rfl)), inlX4, tyX4_ok, nmX4, rfl, by decide +kernel, fun h => by cases h⟩
theorem fdX1_73 : FD RX1 73 4 12 := ⟨RX4, TX4, 14, rfl, by decide, (lr_11 _ (List.mem_of_getElem? (i := 15) rfl)), inlX4⟩
theorem fpX1_73 : FP RX1 73 4 12 (.long) false := ⟨RX4, TX4, 14, tyX4, rfl, by decide, (lr_11 _ (List.mem_of_getElem? (i := 15) rfl)), inlX4, tyX4_ok, nmX4, rfl, by decide +kernel, fun h => by cases h⟩
theorem fdX1_76 : FD RX1 76 4 13 := ⟨RX4, TX4, 14, rfl, by decide, (lr_11 _ (List.mem_of_getElem? (i := 16) rfl)), inlX4⟩
theorem fpX1_76 : FP RX1 76 4 13 (.long) false := ⟨RX4, TX4, 14, tyX4, rfl, by decide, (lr_11 _ (List.mem_of_getElem? (i := 16) rfl)), inlX4, tyX4_ok, nmX4, rfl, by decide +kernel, fun h => by cases h⟩
theorem fdX1_83 : FD RX1 83 4 1 := ⟨RX4, TX4, 14, rfl, by decide, (lr_11 _ (List.mem_of_getElem? (i := 22) rfl)), inlX4⟩
theorem fdX7_203 : FD RX7 203 4 1 := ⟨RX4, TX4, 14, rfl, by decide, (lr_13 _ (List.mem_of_getElem? (i := 14) rfl)), inlX4⟩
theorem fdX7_123 : FD RX7 123 4 6 := ⟨RX4, TX4, 14, rfl, by decide, (lr_13 _ (List.mem_of_getElem? (i := 15) rfl)), inlX4⟩
theorem fpX7_123 : FP RX7 123 4 6 (.int) false := ⟨RX4, TX4, 14, tyX4, rfl, by decide, (lr_13 _ (List.mem_of_getElem? (i := 15) rfl)), inlX4, tyX4_ok, nmX4, rfl, by decide +kernel, fun h => by cases h⟩
theorem fdX7_231 : FD RX7 231 0 6 := ⟨RX0, TX0, 7, rfl, by decide, (lr_13 _ (List.mem_of_getElem? (i := 16) rfl)), inlX0⟩
theorem fdX8_158 : FD RX8 158 8 40 := ⟨RX8, TX8, 44, rfl, by decide, (lr_14 _ (List.mem_of_getElem? (i := 9) rfl)), inlX8⟩
theorem fpX8_158 : FP RX8 158 8 40 (.int) false := ⟨RX8, TX8, 44, tyX8, rfl, by decide, (lr_14 _ (List.mem_of_getElem? (i := 9) rfl)), inlX8, tyX8_ok, nmX8, rfl, by decide +kernel, fun h => by cases h⟩
theorem fdX7_97 : FD RX7 97 4 4 := ⟨RX4, TX4, 14, rfl, by decide, (lr_15 _ (List.mem_of_getElem? (i := 10) rfl)), inlX4⟩
theorem fpX7_97 : FP RX7 97 4 4 (.boolean) false := ⟨RX4, TX4, 14, tyX4, rfl, by decide, (lr_15 _ (List.mem_of_getElem? (i := 10) rfl)), inlX4, tyX4_ok, nmX4, rfl, by decide +kernel, fun h => by cases h⟩
theorem fdX7_234 : FD RX7 234 0 1 := ⟨RX0, TX0, 7, rfl, by decide, (lr_15 _ (List.mem_of_getElem? (i := 15) rfl)), inlX0⟩
theorem fdX7_240 : FD RX7 240 0 4 := ⟨RX0, TX0, 7, rfl, by decide, (lr_15 _ (List.mem_of_getElem? (i := 16) rfl)), inlX0⟩
theorem fdX7_126 : FD RX7 126 0 5 := ⟨RX0, TX0, 7, rfl, by decide, (lr_16 _ (List.mem_of_getElem? (i := 21) rfl)), inlX0⟩
theorem fdX7_133 : FD RX7 133 0 2 := ⟨RX0, TX0, 7, rfl, by decide, (lr_17 _ (List.mem_of_getElem? (i := 7) rfl)), inlX0⟩
theorem fdX4_38 : FD RX4 38 4 11 := ⟨RX4, TX4, 14, rfl, by decide, (lr_17 _ (List.mem_of_getElem? (i := 16) rfl)), inlX4⟩
theorem fpX4_38 : FP RX4 38 4 11 (.int) false := ⟨RX4, TX4, 14, tyX4, rfl, by decide, (lr_17 _ (List.mem_of_getElem? (i := 16) rfl)), inlX4, tyX4_ok, nmX4, rfl, by decide +kernel, fun h => by cases h⟩
theorem fdX4_47 : FD RX4 47 4 10 := ⟨RX4, TX4, 14, rfl, by decide, (lr_17 _ (List.mem_of_getElem? (i := 18) rfl)), inlX4⟩
theorem fpX4_47 : FP RX4 47 4 10 (.int) false := ⟨RX4, TX4, 14, tyX4, rfl, by decide, (lr_17 _ (List.mem_of_getElem? (i := 18) rfl)), inlX4, tyX4_ok, nmX4, rfl, by decide +kernel, fun h => by cases h⟩
theorem fdX4_50 : FD RX4 50 4 7 := ⟨RX4, TX4, 14, rfl, by decide, (lr_17 _ (List.mem_of_getElem? (i := 19) rfl)), inlX4⟩
theorem fpX4_50 : FP RX4 50 4 7 (.int) false := ⟨RX4, TX4, 14, tyX4, rfl, by decide, (lr_17 _ (List.mem_of_getElem? (i := 19) rfl)), inlX4, tyX4_ok, nmX4, rfl, by decide +kernel, fun h => by cases h⟩
theorem fdX7_139 : FD RX7 139 4 11 := ⟨RX4, TX4, 14, rfl, by decide, (lr_18 _ (List.mem_of_getElem? (i := 9) rfl)), inlX4⟩
theorem fpX7_139 : FP RX7 139 4 11 (.int) false := ⟨RX4, TX4, 14, tyX4, rfl, by decide, (lr_18 _ (List.mem_of_getElem? (i := 9) rfl)), inlX4, tyX4_ok, nmX4, rfl, by decide +kernel, fun h => by cases h⟩
theorem fdX7_142 : FD RX7 142 4 7 := ⟨RX4, TX4, 14, rfl, by decide, (lr_18 _ (List.mem_of_getElem? (i := 18) rfl)), inlX4⟩
theorem fpX7_142 : FP RX7 142 4 7 (.int) false := ⟨RX4, TX4, 14, tyX4, rfl, by decide, (lr_18 _ (List.mem_of_getElem? (i := 18) rfl)), inlX4, tyX4_ok, nmX4, rfl, by decide +kernel, fun h => by cases h⟩
theorem fdX7_145 : FD RX7 145 4 9 := ⟨RX4, TX4, 14, rfl, by decide, (lr_18 _ (List.mem_of_getElem? (i := 19) rfl)), inlX4⟩
theorem fpX7_145 : FP RX7 145 4 9 (.int) false := ⟨RX4, TX4, 14, tyX4, rfl, by decide, (lr_18 _ (List.mem_of_getElem? (i := 19) rfl)), inlX4, tyX4_ok, nmX4, rfl, by decide +kernel, fun h => by cases h⟩
theorem fdX7_148 : FD RX7 148 4 8 := ⟨RX4, TX4, 14, rfl, by decide, (lr_18 _ (List.mem_of_getElem? (i := 20) rfl)), inlX4⟩
theorem fpX7_148 : FP RX7 148 4 8 (.int) false := ⟨RX4, TX4, 14, tyX4, rfl, by decide, (lr_18 _ (List.mem_of_getElem? (i := 20) rfl)), inlX4, tyX4_ok, nmX4, rfl, by decide +kernel, fun h => by cases h⟩
theorem fdX8_206 : FD RX8 206 8 23 := ⟨RX8, TX8, 44, rfl, by decide, (lr_19 _ (List.mem_of_getElem? (i := 9) rfl)), inlX8⟩
theorem fpX8_206 : FP RX8 206 8 23 (.int) false := ⟨RX8, TX8, 44, tyX8, rfl, by decide, (lr_19 _ (List.mem_of_getElem? (i := 9) rfl)), inlX8, tyX8_ok, nmX8, rfl, by decide +kernel, fun h => by cases h⟩
theorem fdX6_9 : FD RX6 9 6 0 := ⟨RX6, TX6, 7, rfl, by decide, (lr_19 _ (List.mem_of_getElem? (i := 20) rfl)), inlX6⟩
theorem fpX6_9 : FP RX6 9 6 0 (.int) true := ⟨RX6, TX6, 7, tyX6, rfl, by decide, (lr_19 _ (List.mem_of_getElem? (i := 20) rfl)), inlX6, tyX6_ok, nmX6, rfl, by decide +kernel, fun _ => rfl⟩
theorem fdX6_15 : FD RX6 15 6 1 := ⟨RX6, TX6, 7, rfl, by decide, (lr_19 _ (List.mem_of_getElem? (i := 21) rfl)), inlX6⟩
theorem fpX6_15 : FP RX6 15 6 1 (.int) true := ⟨RX6, TX6, 7, tyX6, rfl, by decide, (lr_19 _ (List.mem_of_getElem? (i := 21) rfl)), inlX6, tyX6_ok, nmX6, rfl, by decide +kernel, fun _ => rfl⟩
theorem fdX6_18 : FD RX6 18 6 2 := ⟨RX6, TX6, 7, rfl, by decide, (lr_19 _ (List.mem_of_getElem? (i := 22) rfl)), inlX6⟩
theorem fpX6_18 : FP RX6 18 6 2 (.int) true := ⟨RX6, TX6, 7, tyX6, rfl, by decide, (lr_19 _ (List.mem_of_getElem? (i := 22) rfl)), inlX6, tyX6_ok, nmX6, rfl, by decide +kernel, fun _ => rfl⟩
theorem fdX6_21 : FD RX6 21 6 3 := ⟨RX6, TX6, 7, rfl, by decide, (lr_19 _ (List.mem_of_getElem? (i := 23) rfl)), inlX6⟩
theorem fpX6_21 : FP RX6 21 6 3 (.int) false := ⟨RX6, TX6, 7, tyX6, rfl, by decide, (lr_19 _ (List.mem_of_getElem? (i := 23) rfl)), inlX6, tyX6_ok, nmX6, rfl, by decide +kernel, fun h => by cases h⟩
theorem fdX6_24 : FD RX6 24 6 4 := ⟨RX6, TX6, 7, rfl, by decide, (lr_20 _ (List.mem_of_getElem? (i := 0) rfl)), inlX6⟩
theorem fpX6_24 : FP RX6 24 6 4 (.int) false := ⟨RX6, TX6, 7, tyX6, rfl, by decide, (lr_20 _ (List.mem_of_getElem? (i := 0) rfl)), inlX6, tyX6_ok, nmX6, rfl, by decide +kernel, fun h => by cases h⟩
theorem fdX8_209 : FD RX8 209 8 38 := ⟨RX8, TX8, 44, rfl, by decide, (lr_20 _ (List.mem_of_getElem? (i := 5) rfl)), inlX8⟩
theorem fpX8_209 : FP RX8 209 8 38 (.int) false := ⟨RX8, TX8, 44, tyX8, rfl, by decide, (lr_20 _ (List.mem_of_getElem? (i := 5) rfl)), inlX8, tyX8_ok, nmX8, rfl, by decide +kernel, fun h => by cases h⟩
theorem fdX7_158 : FD RX7 158 6 3 := ⟨RX6, TX6, 7, rfl, by decide, (lr_20 _ (List.mem_of_getElem? (i := 10) rfl)), inlX6⟩
theorem fpX7_158 : FP RX7 158 6 3 (.int) false := ⟨RX6, TX6, 7, tyX6, rfl, by decide, (lr_20 _ (List.mem_of_getElem? (i := 10) rfl)), inlX6, tyX6_ok, nmX6, rfl, by decide +kernel, fun h => by cases h⟩
theorem fdX7_161 : FD RX7 161 6 4 := ⟨RX6, TX6, 7, rfl, by decide, (lr_20 _ (List.mem_of_getElem? (i := 11) rfl)), inlX6⟩
theorem fpX7_161 : FP RX7 161 6 4 (.int) false := ⟨RX6, TX6, 7, tyX6, rfl, by decide, (lr_20 _ (List.mem_of_getElem? (i := 11) rfl)), inlX6, tyX6_ok, nmX6, rfl, by decide +kernel, fun h => by cases h⟩
theorem fdX7_255 : FD RX7 255 6 1 := ⟨RX6, TX6, 7, rfl, by decide, (lr_21 _ (List.mem_of_getElem? (i := 4) rfl)), inlX6⟩
theorem fdX7_258 : FD RX7 258 6 0 := ⟨RX6, TX6, 7, rfl, by decide, (lr_21 _ (List.mem_of_getElem? (i := 5) rfl)), inlX6⟩
theorem fdX7_218 : FD RX7 218 6 5 := ⟨RX6, TX6, 7, rfl, by decide, (lr_21 _ (List.mem_of_getElem? (i := 6) rfl)), inlX6⟩
theorem fpX7_218 : FP RX7 218 6 5 (.int) false := ⟨RX6, TX6, 7, tyX6, rfl, by decide, (lr_21 _ (List.mem_of_getElem? (i := 6) rfl)), inlX6, tyX6_ok, nmX6, rfl, by decide +kernel, fun h => by cases h⟩
theorem fdX7_264 : FD RX7 264 0 3 := ⟨RX0, TX0, 7, rfl, by decide, (lr_21 _ (List.mem_of_getElem? (i := 7) rfl)), inlX0⟩
theorem fdX3_46 : FD RX3 46 4 6 := ⟨RX4, TX4, 14, rfl, by decide, (lr_21 _ (List.mem_of_getElem? (i := 12) rfl)), inlX4⟩
theorem fpX3_46 : FP RX3 46 4 6 (.int) false := ⟨RX4, TX4, 14, tyX4, rfl, by decide, (lr_21 _ (List.mem_of_getElem? (i := 12) rfl)), inlX4, tyX4_ok, nmX4, rfl, by decide +kernel, fun h => by cases h⟩
theorem fdX7_269 : FD RX7 269 6 2 := ⟨RX6, TX6, 7, rfl, by decide, (lr_21 _ (List.mem_of_getElem? (i := 17) rfl)), inlX6⟩
theorem fdX7_221 : FD RX7 221 6 6 := ⟨RX6, TX6, 7, rfl, by decide, (lr_21 _ (List.mem_of_getElem? (i := 18) rfl)), inlX6⟩
theorem fpX7_221 : FP RX7 221 6 6 (.int) false := ⟨RX6, TX6, 7, tyX6, rfl, by decide, (lr_21 _ (List.mem_of_getElem? (i := 18) rfl)), inlX6, tyX6_ok, nmX6, rfl, by decide +kernel, fun h => by cases h⟩
theorem fdX7_180 : FD RX7 180 5 0 := ⟨RX5, TX5, 4, rfl, by decide, (lr_22 _ (List.mem_of_getElem? (i := 11) rfl)), inlX5⟩
theorem fdX7_185 : FD RX7 185 5 1 := ⟨RX5, TX5, 4, rfl, by decide, (lr_22 _ (List.mem_of_getElem? (i := 12) rfl)), inlX5⟩
theorem fdX7_188 : FD RX7 188 5 2 := ⟨RX5, TX5, 4, rfl, by decide, (lr_22 _ (List.mem_of_getElem? (i := 13) rfl)), inlX5⟩
theorem fdX2_52 : FD RX2 52 5 2 := ⟨RX5, TX5, 4, rfl, by decide, (lr_22 _ (List.mem_of_getElem? (i := 18) rfl)), inlX5⟩
theorem fdX7_197 : FD RX7 197 1 1 := ⟨RX1, TX1, 7, rfl, by decide, (lr_23 _ (List.mem_of_getElem? (i := 19) rfl)), inlX1⟩
theorem fpX7_197 : FP RX7 197 1 1 (.int) false := ⟨RX1, TX1, 7, tyX1, rfl, by decide, (lr_23 _ (List.mem_of_getElem? (i := 19) rfl)), inlX1, tyX1_ok, nmX1, rfl, by decide +kernel, fun h => by cases h⟩
theorem fdX7_200 : FD RX7 200 1 0 := ⟨RX1, TX1, 7, rfl, by decide, (lr_23 _ (List.mem_of_getElem? (i := 20) rfl)), inlX1⟩
theorem fdX1_26 : FD RX1 26 1 1 := ⟨RX1, TX1, 7, rfl, by decide, (lr_24 _ (List.mem_of_getElem? (i := 1) rfl)), inlX1⟩
theorem fpX1_26 : FP RX1 26 1 1 (.int) false := ⟨RX1, TX1, 7, tyX1, rfl, by decide, (lr_24 _ (List.mem_of_getElem? (i := 1) rfl)), inlX1, tyX1_ok, nmX1, rfl, by decide +kernel, fun h => by cases h⟩
theorem fdX8_165 : FD RX8 165 8 41 := ⟨RX8, TX8, 44, rfl, by decide, (lr_24 _ (List.mem_of_getElem? (i := 10) rfl)), inlX8⟩
theorem fpX8_165 : FP RX8 165 8 41 (.int) false := ⟨RX8, TX8, 44, tyX8, rfl, by decide, (lr_24 _ (List.mem_of_getElem? (i := 10) rfl)), inlX8, tyX8_ok, nmX8, rfl, by decide +kernel, fun h => by cases h⟩
theorem fdX8_168 : FD RX8 168 8 42 := ⟨RX8, TX8, 44, rfl, by decide, (lr_24 _ (List.mem_of_getElem? (i := 11) rfl)), inlX8⟩
theorem fpX8_168 : FP RX8 168 8 42 (.int) false := ⟨RX8, TX8, 44, tyX8, rfl, by decide, (lr_24 _ (List.mem_of_getElem? (i := 11) rfl)), inlX8, tyX8_ok, nmX8, rfl, by decide +kernel, fun h => by cases h⟩
theorem fdX7_206 : FD RX7 206 4 2 := ⟨RX4, TX4, 14, rfl, by decide, (lr_24 _ (List.mem_of_getElem? (i := 20) rfl)), inlX4⟩
theorem fdX7_209 : FD RX7 209 4 3 := ⟨RX4, TX4, 14, rfl, by decide, (lr_24 _ (List.mem_of_getElem? (i := 21) rfl)), inlX4⟩
theorem fdX7_215 : FD RX7 215 4 10 := ⟨RX4, TX4, 14, rfl, by decide, (lr_24 _ (List.mem_of_getElem? (i := 22) rfl)), inlX4⟩
theorem fpX7_215 : FP RX7 215 4 10 (.int) false := ⟨RX4, TX4, 14, tyX4, rfl, by decide, (lr_24 _ (List.mem_of_getElem? (i := 22) rfl)), inlX4, tyX4_ok, nmX4, rfl, by decide +kernel, fun h => by cases h⟩
theorem fdX7_228 : FD RX7 228 2 1 := ⟨RX2, TX2, 4, rfl, by decide, (lr_25 _ (List.mem_of_getElem? (i := 19) rfl)), inlX2⟩
theorem fpX7_228 : FP RX7 228 2 1 (.int) false := ⟨RX2, TX2, 4, tyX2, rfl, by decide, (lr_25 _ (List.mem_of_getElem? (i := 19) rfl)), inlX2, tyX2_ok, nmX2, rfl, by decide +kernel, fun h => by cases h⟩
theorem clL_7 : Cond.classLink RL 7 RX7 ∈ wsL_law := (lr_1 _ (List.mem_of_getElem? (i := 0) rfl))
theorem in_RX7 : Cond.instantiable RX7 9 ∈ wsL_law := (lr_1 _ (List.mem_of_getElem? (i := 1) rfl))
theorem ini_RX7 : Cond.initialized RX7 ∈ wsL_law := (lr_1 _ (List.mem_of_getElem? (i := 2) rfl))
theorem clL_10 : Cond.classLink RL 10 RX8 ∈ wsL_law := (lr_1 _ (List.mem_of_getElem? (i := 3) rfl))
theorem in_RX8 : Cond.instantiable RX8 44 ∈ wsL_law := (lr_1 _ (List.mem_of_getElem? (i := 4) rfl))
theorem ini_RX8 : Cond.initialized RX8 ∈ wsL_law := (lr_1 _ (List.mem_of_getElem? (i := 5) rfl))
theorem cbL_9 : CB RL 9 yX7_init cX7_init 1 none 0 := ⟨(lr_1 _ (List.mem_of_getElem? (i := 6) rfl)), (lr_1 _ (List.mem_of_getElem? (i := 2) rfl)), (lr_1 _ (List.mem_of_getElem? (i := 8) rfl)), by decide +kernel, by decide +kernel, by decide +kernel⟩
theorem im_yX7_init : Cond.instanceMethod yX7_init ∈ wsL_law := (lr_1 _ (List.mem_of_getElem? (i := 7) rfl))
theorem clX7_13 : Cond.classLink RX7 13 RX0 ∈ wsL_law := (lr_1 _ (List.mem_of_getElem? (i := 13) rfl))
theorem in_RX0 : Cond.instantiable RX0 7 ∈ wsL_law := (lr_1 _ (List.mem_of_getElem? (i := 14) rfl))
theorem ini_RX0 : Cond.initialized RX0 ∈ wsL_law := (lr_1 _ (List.mem_of_getElem? (i := 15) rfl))
theorem clX7_25 : Cond.classLink RX7 25 RX3 ∈ wsL_law := (lr_1 _ (List.mem_of_getElem? (i := 18) rfl))
theorem in_RX3 : Cond.instantiable RX3 2 ∈ wsL_law := (lr_1 _ (List.mem_of_getElem? (i := 19) rfl))
theorem ini_RX3 : Cond.initialized RX3 ∈ wsL_law := (lr_1 _ (List.mem_of_getElem? (i := 20) rfl))
theorem clX7_32 : Cond.classLink RX7 32 RX2 ∈ wsL_law := (lr_1 _ (List.mem_of_getElem? (i := 22) rfl))
theorem in_RX2 : Cond.instantiable RX2 4 ∈ wsL_law := (lr_1 _ (List.mem_of_getElem? (i := 23) rfl))
theorem ini_RX2 : Cond.initialized RX2 ∈ wsL_law := (lr_2 _ (List.mem_of_getElem? (i := 0) rfl))
theorem clX7_39 : Cond.classLink RX7 39 RX1 ∈ wsL_law := (lr_2 _ (List.mem_of_getElem? (i := 2) rfl))
theorem in_RX1 : Cond.instantiable RX1 7 ∈ wsL_law := (lr_2 _ (List.mem_of_getElem? (i := 3) rfl))
theorem ini_RX1 : Cond.initialized RX1 ∈ wsL_law := (lr_2 _ (List.mem_of_getElem? (i := 4) rfl))
theorem clX7_48 : Cond.classLink RX7 48 RX6 ∈ wsL_law := (lr_2 _ (List.mem_of_getElem? (i := 6) rfl))
theorem cbX7_15 : CB RX7 15 yX0_init cX0_init 3 none 2 := ⟨(lr_2 _ (List.mem_of_getElem? (i := 10) rfl)), (lr_1 _ (List.mem_of_getElem? (i := 15) rfl)), (lr_2 _ (List.mem_of_getElem? (i := 12) rfl)), by decide +kernel, by decide +kernel, by decide +kernel⟩
theorem im_yX0_init : Cond.instanceMethod yX0_init ∈ wsL_law := (lr_2 _ (List.mem_of_getElem? (i := 11) rfl))
theorem cnX0_9 : Cond.constant RX0 9 (100000) ∈ wsL_law := (lr_2 _ (List.mem_of_getElem? (i := 14) rfl))
theorem im_yX3_init : Cond.instanceMethod yX3_init ∈ wsL_law := (lr_2 _ (List.mem_of_getElem? (i := 22) rfl))
theorem clX3_9 : Cond.classLink RX3 9 RX4 ∈ wsL_law := (lr_3 _ (List.mem_of_getElem? (i := 1) rfl))
theorem cbX7_34 : CB RX7 34 yX2_init cX2_init 3 none 0 := ⟨(lr_3 _ (List.mem_of_getElem? (i := 3) rfl)), (lr_2 _ (List.mem_of_getElem? (i := 0) rfl)), (lr_3 _ (List.mem_of_getElem? (i := 5) rfl)), by decide +kernel, by decide +kernel, by decide +kernel⟩
theorem im_yX2_init : Cond.instanceMethod yX2_init ∈ wsL_law := (lr_3 _ (List.mem_of_getElem? (i := 4) rfl))
theorem clX2_9 : Cond.classLink RX2 9 RX5 ∈ wsL_law := (lr_3 _ (List.mem_of_getElem? (i := 7) rfl))
theorem ac_int : Cond.arrayClass .int ∈ wsL_law := (lr_3 _ (List.mem_of_getElem? (i := 10) rfl))
theorem in_RX5 : Cond.instantiable RX5 4 ∈ wsL_law := (lr_3 _ (List.mem_of_getElem? (i := 12) rfl))
theorem ini_RX5 : Cond.initialized RX5 ∈ wsL_law := (lr_3 _ (List.mem_of_getElem? (i := 13) rfl))
theorem cbX2_25 : CB RX2 25 yX5_init cX5_init 5 none 4 := ⟨(lr_3 _ (List.mem_of_getElem? (i := 14) rfl)), (lr_3 _ (List.mem_of_getElem? (i := 13) rfl)), (lr_3 _ (List.mem_of_getElem? (i := 16) rfl)), by decide +kernel, by decide +kernel, by decide +kernel⟩
theorem im_yX5_init : Cond.instanceMethod yX5_init ∈ wsL_law := (lr_3 _ (List.mem_of_getElem? (i := 15) rfl))
theorem cbX7_41 : CB RX7 41 yX1_init cX1_init 2 none 1 := ⟨(lr_3 _ (List.mem_of_getElem? (i := 22) rfl)), (lr_2 _ (List.mem_of_getElem? (i := 4) rfl)), (lr_4 _ (List.mem_of_getElem? (i := 0) rfl)), by decide +kernel, by decide +kernel, by decide +kernel⟩
theorem im_yX1_init : Cond.instanceMethod yX1_init ∈ wsL_law := (lr_3 _ (List.mem_of_getElem? (i := 23) rfl))
theorem cbL_12 : CB RL 12 yX8_init cX8_init 2 none 0 := ⟨(lr_4 _ (List.mem_of_getElem? (i := 5) rfl)), (lr_1 _ (List.mem_of_getElem? (i := 5) rfl)), (lr_4 _ (List.mem_of_getElem? (i := 7) rfl)), by decide +kernel, by decide +kernel, by decide +kernel⟩
theorem im_yX8_init : Cond.instanceMethod yX8_init ∈ wsL_law := (lr_4 _ (List.mem_of_getElem? (i := 6) rfl))
theorem ac_boolean : Cond.arrayClass .boolean ∈ wsL_law := (lr_4 _ (List.mem_of_getElem? (i := 20) rfl))
theorem cbX8_95 : CB RX8 95 yX8_comes cX8_comes 4 none 3 := ⟨(lr_5 _ (List.mem_of_getElem? (i := 14) rfl)), (lr_1 _ (List.mem_of_getElem? (i := 5) rfl)), (lr_5 _ (List.mem_of_getElem? (i := 17) rfl)), by decide +kernel, by decide +kernel, by decide +kernel⟩
theorem im_yX8_comes : Cond.instanceMethod yX8_comes ∈ wsL_law := (lr_5 _ (List.mem_of_getElem? (i := 15) rfl))
theorem se_yX8_comes : Cond.selects RX8 yX8_comes yX8_comes ∈ wsL_law := (lr_5 _ (List.mem_of_getElem? (i := 16) rfl))
theorem cbX8_114 : CB RX8 114 yX8_longer cX8_longer 3 (some (.array .int)) 1 := ⟨(lr_5 _ (List.mem_of_getElem? (i := 20) rfl)), (lr_1 _ (List.mem_of_getElem? (i := 5) rfl)), (lr_5 _ (List.mem_of_getElem? (i := 22) rfl)), by decide +kernel, by decide +kernel, by decide +kernel⟩
theorem sm_yX8_longer : Cond.static yX8_longer ∈ wsL_law := (lr_5 _ (List.mem_of_getElem? (i := 21) rfl))
theorem cbL_13 : CB RL 13 yX7_custom cX7_custom 3 (some .int) 2 := ⟨(lr_5 _ (List.mem_of_getElem? (i := 23) rfl)), (lr_1 _ (List.mem_of_getElem? (i := 2) rfl)), (lr_6 _ (List.mem_of_getElem? (i := 2) rfl)), by decide +kernel, by decide +kernel, by decide +kernel⟩
theorem im_yX7_custom : Cond.instanceMethod yX7_custom ∈ wsL_law := (lr_6 _ (List.mem_of_getElem? (i := 0) rfl))
theorem se_yX7_custom : Cond.selects RX7 yX7_custom yX7_custom ∈ wsL_law := (lr_6 _ (List.mem_of_getElem? (i := 1) rfl))
theorem cbX7_60 : CB RX7 60 yX0_canBe cX0_canBe 3 (some .boolean) 2 := ⟨(lr_6 _ (List.mem_of_getElem? (i := 3) rfl)), (lr_1 _ (List.mem_of_getElem? (i := 15) rfl)), (lr_6 _ (List.mem_of_getElem? (i := 5) rfl)), by decide +kernel, by decide +kernel, by decide +kernel⟩
theorem sm_yX0_canBe : Cond.static yX0_canBe ∈ wsL_law := (lr_6 _ (List.mem_of_getElem? (i := 4) rfl))
theorem cnX0_34 : Cond.constant RX0 34 (999999) ∈ wsL_law := (lr_6 _ (List.mem_of_getElem? (i := 6) rfl))
theorem clX0_11 : Cond.classLink RX0 11 RX0 ∈ wsL_law := (lr_6 _ (List.mem_of_getElem? (i := 7) rfl))
theorem cbX0_35 : CB RX0 35 yX0_init cX0_init 3 none 2 := ⟨(lr_6 _ (List.mem_of_getElem? (i := 8) rfl)), (lr_1 _ (List.mem_of_getElem? (i := 15) rfl)), (lr_2 _ (List.mem_of_getElem? (i := 12) rfl)), by decide +kernel, by decide +kernel, by decide +kernel⟩
theorem cbL_17 : CB RL 17 yX8_custom cX8_custom 7 (some .int) 2 := ⟨(lr_6 _ (List.mem_of_getElem? (i := 9) rfl)), (lr_1 _ (List.mem_of_getElem? (i := 5) rfl)), (lr_6 _ (List.mem_of_getElem? (i := 12) rfl)), by decide +kernel, by decide +kernel, by decide +kernel⟩
theorem im_yX8_custom : Cond.instanceMethod yX8_custom ∈ wsL_law := (lr_6 _ (List.mem_of_getElem? (i := 10) rfl))
theorem se_yX8_custom : Cond.selects RX8 yX8_custom yX8_custom ∈ wsL_law := (lr_6 _ (List.mem_of_getElem? (i := 11) rfl))
theorem cnX8_128 : Cond.constant RX8 128 (100000) ∈ wsL_law := (lr_6 _ (List.mem_of_getElem? (i := 13) rfl))
theorem cnX8_129 : Cond.constant RX8 129 (999999) ∈ wsL_law := (lr_6 _ (List.mem_of_getElem? (i := 14) rfl))
theorem cbX8_103 : CB RX8 103 yX8_in cX8_in 3 (some .boolean) 3 := ⟨(lr_6 _ (List.mem_of_getElem? (i := 23) rfl)), (lr_1 _ (List.mem_of_getElem? (i := 5) rfl)), (lr_7 _ (List.mem_of_getElem? (i := 1) rfl)), by decide +kernel, by decide +kernel, by decide +kernel⟩
theorem sm_yX8_in : Cond.static yX8_in ∈ wsL_law := (lr_7 _ (List.mem_of_getElem? (i := 0) rfl))
theorem cbL_18 : CB RL 18 yX7_person cX7_person 4 (some .int) 3 := ⟨(lr_7 _ (List.mem_of_getElem? (i := 2) rfl)), (lr_1 _ (List.mem_of_getElem? (i := 2) rfl)), (lr_7 _ (List.mem_of_getElem? (i := 5) rfl)), by decide +kernel, by decide +kernel, by decide +kernel⟩
theorem im_yX7_person : Cond.instanceMethod yX7_person ∈ wsL_law := (lr_7 _ (List.mem_of_getElem? (i := 3) rfl))
theorem se_yX7_person : Cond.selects RX7 yX7_person yX7_person ∈ wsL_law := (lr_7 _ (List.mem_of_getElem? (i := 4) rfl))
theorem clX7_70 : Cond.classLink RX7 70 RX4 ∈ wsL_law := (lr_7 _ (List.mem_of_getElem? (i := 7) rfl))
theorem in_RX4 : Cond.instantiable RX4 14 ∈ wsL_law := (lr_7 _ (List.mem_of_getElem? (i := 8) rfl))
theorem ini_RX4 : Cond.initialized RX4 ∈ wsL_law := (lr_7 _ (List.mem_of_getElem? (i := 9) rfl))
theorem cbX7_67 : CB RX7 67 yX3_mayBeParent cX3_mayBeParent 4 (some .boolean) 2 := ⟨(lr_7 _ (List.mem_of_getElem? (i := 10) rfl)), (lr_1 _ (List.mem_of_getElem? (i := 20) rfl)), (lr_7 _ (List.mem_of_getElem? (i := 13) rfl)), by decide +kernel, by decide +kernel, by decide +kernel⟩
theorem im_yX3_mayBeParent : Cond.instanceMethod yX3_mayBeParent ∈ wsL_law := (lr_7 _ (List.mem_of_getElem? (i := 11) rfl))
theorem se_yX3_mayBeParent : Cond.selects RX3 yX3_mayBeParent yX3_mayBeParent ∈ wsL_law := (lr_7 _ (List.mem_of_getElem? (i := 12) rfl))
theorem cbX3_21 : CB RX3 21 yX3_find cX3_find 2 (some (.object "ManorRolls$Person")) 1 := ⟨(lr_7 _ (List.mem_of_getElem? (i := 15) rfl)), (lr_1 _ (List.mem_of_getElem? (i := 20) rfl)), (lr_7 _ (List.mem_of_getElem? (i := 18) rfl)), by decide +kernel, by decide +kernel, by decide +kernel⟩
theorem im_yX3_find : Cond.instanceMethod yX3_find ∈ wsL_law := (lr_7 _ (List.mem_of_getElem? (i := 16) rfl))
theorem se_yX3_find : Cond.selects RX3 yX3_find yX3_find ∈ wsL_law := (lr_7 _ (List.mem_of_getElem? (i := 17) rfl))
theorem cbX7_72 : CB RX7 72 yX4_init cX4_init 5 none 4 := ⟨(lr_7 _ (List.mem_of_getElem? (i := 20) rfl)), (lr_7 _ (List.mem_of_getElem? (i := 9) rfl)), (lr_7 _ (List.mem_of_getElem? (i := 22) rfl)), by decide +kernel, by decide +kernel, by decide +kernel⟩
theorem im_yX4_init : Cond.instanceMethod yX4_init ∈ wsL_law := (lr_7 _ (List.mem_of_getElem? (i := 21) rfl))
theorem cbX7_75 : CB RX7 75 yX3_add cX3_add 3 (some .int) 1 := ⟨(lr_8 _ (List.mem_of_getElem? (i := 6) rfl)), (lr_1 _ (List.mem_of_getElem? (i := 20) rfl)), (lr_8 _ (List.mem_of_getElem? (i := 9) rfl)), by decide +kernel, by decide +kernel, by decide +kernel⟩
theorem im_yX3_add : Cond.instanceMethod yX3_add ∈ wsL_law := (lr_8 _ (List.mem_of_getElem? (i := 7) rfl))
theorem se_yX3_add : Cond.selects RX3 yX3_add yX3_add ∈ wsL_law := (lr_8 _ (List.mem_of_getElem? (i := 8) rfl))
theorem cbX3_35 : CB RX3 35 yX3_addChildTo cX3_addChildTo 5 none 3 := ⟨(lr_8 _ (List.mem_of_getElem? (i := 12) rfl)), (lr_1 _ (List.mem_of_getElem? (i := 20) rfl)), (lr_8 _ (List.mem_of_getElem? (i := 15) rfl)), by decide +kernel, by decide +kernel, by decide +kernel⟩
theorem im_yX3_addChildTo : Cond.instanceMethod yX3_addChildTo ∈ wsL_law := (lr_8 _ (List.mem_of_getElem? (i := 13) rfl))
theorem se_yX3_addChildTo : Cond.selects RX3 yX3_addChildTo yX3_addChildTo ∈ wsL_law := (lr_8 _ (List.mem_of_getElem? (i := 14) rfl))
theorem cbX3_42 : CB RX3 42 yX4_addChild cX4_addChild 3 none 2 := ⟨(lr_8 _ (List.mem_of_getElem? (i := 16) rfl)), (lr_7 _ (List.mem_of_getElem? (i := 9) rfl)), (lr_8 _ (List.mem_of_getElem? (i := 19) rfl)), by decide +kernel, by decide +kernel, by decide +kernel⟩
theorem im_yX4_addChild : Cond.instanceMethod yX4_addChild ∈ wsL_law := (lr_8 _ (List.mem_of_getElem? (i := 17) rfl))
theorem se_yX4_addChild : Cond.selects RX4 yX4_addChild yX4_addChild ∈ wsL_law := (lr_8 _ (List.mem_of_getElem? (i := 18) rfl))
theorem cbL_22 : CB RL 22 yX8_person cX8_person 4 (some .int) 3 := ⟨(lr_8 _ (List.mem_of_getElem? (i := 22) rfl)), (lr_1 _ (List.mem_of_getElem? (i := 5) rfl)), (lr_9 _ (List.mem_of_getElem? (i := 1) rfl)), by decide +kernel, by decide +kernel, by decide +kernel⟩
theorem im_yX8_person : Cond.instanceMethod yX8_person ∈ wsL_law := (lr_8 _ (List.mem_of_getElem? (i := 23) rfl))
theorem se_yX8_person : Cond.selects RX8 yX8_person yX8_person ∈ wsL_law := (lr_9 _ (List.mem_of_getElem? (i := 0) rfl))
theorem cbX8_107 : CB RX8 107 yX8_isPerson cX8_isPerson 2 (some .boolean) 1 := ⟨(lr_9 _ (List.mem_of_getElem? (i := 3) rfl)), (lr_1 _ (List.mem_of_getElem? (i := 5) rfl)), (lr_9 _ (List.mem_of_getElem? (i := 6) rfl)), by decide +kernel, by decide +kernel, by decide +kernel⟩
theorem im_yX8_isPerson : Cond.instanceMethod yX8_isPerson ∈ wsL_law := (lr_9 _ (List.mem_of_getElem? (i := 4) rfl))
theorem se_yX8_isPerson : Cond.selects RX8 yX8_isPerson yX8_isPerson ∈ wsL_law := (lr_9 _ (List.mem_of_getElem? (i := 5) rfl))
theorem cbL_23 : CB RL 23 yX7_marry cX7_marry 5 (some .boolean) 2 := ⟨(lr_9 _ (List.mem_of_getElem? (i := 7) rfl)), (lr_1 _ (List.mem_of_getElem? (i := 2) rfl)), (lr_9 _ (List.mem_of_getElem? (i := 10) rfl)), by decide +kernel, by decide +kernel, by decide +kernel⟩
theorem im_yX7_marry : Cond.instanceMethod yX7_marry ∈ wsL_law := (lr_9 _ (List.mem_of_getElem? (i := 8) rfl))
theorem se_yX7_marry : Cond.selects RX7 yX7_marry yX7_marry ∈ wsL_law := (lr_9 _ (List.mem_of_getElem? (i := 9) rfl))
theorem cbX7_79 : CB RX7 79 yX3_findAlive cX3_findAlive 3 (some (.object "ManorRolls$Person")) 1 := ⟨(lr_9 _ (List.mem_of_getElem? (i := 13) rfl)), (lr_1 _ (List.mem_of_getElem? (i := 20) rfl)), (lr_9 _ (List.mem_of_getElem? (i := 16) rfl)), by decide +kernel, by decide +kernel, by decide +kernel⟩
theorem im_yX3_findAlive : Cond.instanceMethod yX3_findAlive ∈ wsL_law := (lr_9 _ (List.mem_of_getElem? (i := 14) rfl))
theorem se_yX3_findAlive : Cond.selects RX3 yX3_findAlive yX3_findAlive ∈ wsL_law := (lr_9 _ (List.mem_of_getElem? (i := 15) rfl))
theorem cbX7_89 : CB RX7 89 yX7_passWidowsParts cX7_passWidowsParts 4 (some .int) 1 := ⟨(lr_9 _ (List.mem_of_getElem? (i := 18) rfl)), (lr_1 _ (List.mem_of_getElem? (i := 2) rfl)), (lr_9 _ (List.mem_of_getElem? (i := 21) rfl)), by decide +kernel, by decide +kernel, by decide +kernel⟩
theorem im_yX7_passWidowsParts : Cond.instanceMethod yX7_passWidowsParts ∈ wsL_law := (lr_9 _ (List.mem_of_getElem? (i := 19) rfl))
theorem se_yX7_passWidowsParts : Cond.selects RX7 yX7_passWidowsParts yX7_passWidowsParts ∈ wsL_law := (lr_9 _ (List.mem_of_getElem? (i := 20) rfl))
theorem cbX7_112 : CB RX7 112 yX2_pick cX2_pick 7 none 3 := ⟨(lr_10 _ (List.mem_of_getElem? (i := 0) rfl)), (lr_2 _ (List.mem_of_getElem? (i := 0) rfl)), (lr_10 _ (List.mem_of_getElem? (i := 3) rfl)), by decide +kernel, by decide +kernel, by decide +kernel⟩
theorem im_yX2_pick : Cond.instanceMethod yX2_pick ∈ wsL_law := (lr_10 _ (List.mem_of_getElem? (i := 1) rfl))
theorem se_yX2_pick : Cond.selects RX2 yX2_pick yX2_pick ∈ wsL_law := (lr_10 _ (List.mem_of_getElem? (i := 2) rfl))
theorem cbX2_31 : CB RX2 31 yX2_find cX2_find 2 (some (.object "ManorRolls$Right")) 1 := ⟨(lr_10 _ (List.mem_of_getElem? (i := 7) rfl)), (lr_2 _ (List.mem_of_getElem? (i := 0) rfl)), (lr_10 _ (List.mem_of_getElem? (i := 10) rfl)), by decide +kernel, by decide +kernel, by decide +kernel⟩
theorem im_yX2_find : Cond.instanceMethod yX2_find ∈ wsL_law := (lr_10 _ (List.mem_of_getElem? (i := 8) rfl))
theorem se_yX2_find : Cond.selects RX2 yX2_find yX2_find ∈ wsL_law := (lr_10 _ (List.mem_of_getElem? (i := 9) rfl))
theorem cbX7_246 : CB RX7 246 yX2_giverOf cX2_giverOf 3 (some .int) 1 := ⟨(lr_10 _ (List.mem_of_getElem? (i := 11) rfl)), (lr_2 _ (List.mem_of_getElem? (i := 0) rfl)), (lr_10 _ (List.mem_of_getElem? (i := 14) rfl)), by decide +kernel, by decide +kernel, by decide +kernel⟩
theorem im_yX2_giverOf : Cond.instanceMethod yX2_giverOf ∈ wsL_law := (lr_10 _ (List.mem_of_getElem? (i := 12) rfl))
theorem se_yX2_giverOf : Cond.selects RX2 yX2_giverOf yX2_giverOf ∈ wsL_law := (lr_10 _ (List.mem_of_getElem? (i := 13) rfl))
theorem cbX7_237 : CB RX7 237 yX7_passPicked cX7_passPicked 5 none 2 := ⟨(lr_10 _ (List.mem_of_getElem? (i := 16) rfl)), (lr_1 _ (List.mem_of_getElem? (i := 2) rfl)), (lr_10 _ (List.mem_of_getElem? (i := 19) rfl)), by decide +kernel, by decide +kernel, by decide +kernel⟩
theorem im_yX7_passPicked : Cond.instanceMethod yX7_passPicked ∈ wsL_law := (lr_10 _ (List.mem_of_getElem? (i := 17) rfl))
theorem se_yX7_passPicked : Cond.selects RX7 yX7_passPicked yX7_passPicked ∈ wsL_law := (lr_10 _ (List.mem_of_getElem? (i := 18) rfl))
theorem cbX7_249 : CB RX7 249 yX1_share cX1_share 5 none 3 := ⟨(lr_10 _ (List.mem_of_getElem? (i := 22) rfl)), (lr_2 _ (List.mem_of_getElem? (i := 4) rfl)), (lr_11 _ (List.mem_of_getElem? (i := 1) rfl)), by decide +kernel, by decide +kernel, by decide +kernel⟩
theorem im_yX1_share : Cond.instanceMethod yX1_share ∈ wsL_law := (lr_10 _ (List.mem_of_getElem? (i := 23) rfl))
theorem se_yX1_share : Cond.selects RX1 yX1_share yX1_share ∈ wsL_law := (lr_11 _ (List.mem_of_getElem? (i := 0) rfl))
theorem cbX1_22 : CB RX1 22 yX1_look cX1_look 6 none 2 := ⟨(lr_11 _ (List.mem_of_getElem? (i := 6) rfl)), (lr_2 _ (List.mem_of_getElem? (i := 4) rfl)), (lr_11 _ (List.mem_of_getElem? (i := 9) rfl)), by decide +kernel, by decide +kernel, by decide +kernel⟩
theorem im_yX1_look : Cond.instanceMethod yX1_look ∈ wsL_law := (lr_11 _ (List.mem_of_getElem? (i := 7) rfl))
theorem se_yX1_look : Cond.selects RX1 yX1_look yX1_look ∈ wsL_law := (lr_11 _ (List.mem_of_getElem? (i := 8) rfl))
theorem cbX1_63 : CB RX1 63 yX3_find cX3_find 2 (some (.object "ManorRolls$Person")) 1 := ⟨(lr_11 _ (List.mem_of_getElem? (i := 17) rfl)), (lr_1 _ (List.mem_of_getElem? (i := 20) rfl)), (lr_7 _ (List.mem_of_getElem? (i := 18) rfl)), by decide +kernel, by decide +kernel, by decide +kernel⟩
theorem cbX1_30 : CB RX1 30 yX1_firstLine cX1_firstLine 5 (some .long) 1 := ⟨(lr_11 _ (List.mem_of_getElem? (i := 18) rfl)), (lr_2 _ (List.mem_of_getElem? (i := 4) rfl)), (lr_11 _ (List.mem_of_getElem? (i := 21) rfl)), by decide +kernel, by decide +kernel, by decide +kernel⟩
theorem im_yX1_firstLine : Cond.instanceMethod yX1_firstLine ∈ wsL_law := (lr_11 _ (List.mem_of_getElem? (i := 19) rfl))
theorem se_yX1_firstLine : Cond.selects RX1 yX1_firstLine yX1_firstLine ∈ wsL_law := (lr_11 _ (List.mem_of_getElem? (i := 20) rfl))
theorem cbX1_79 : CB RX1 79 yX1_lineBelow cX1_lineBelow 7 (some .long) 2 := ⟨(lr_11 _ (List.mem_of_getElem? (i := 23) rfl)), (lr_2 _ (List.mem_of_getElem? (i := 4) rfl)), (lr_12 _ (List.mem_of_getElem? (i := 2) rfl)), by decide +kernel, by decide +kernel, by decide +kernel⟩
theorem im_yX1_lineBelow : Cond.instanceMethod yX1_lineBelow ∈ wsL_law := (lr_12 _ (List.mem_of_getElem? (i := 0) rfl))
theorem se_yX1_lineBelow : Cond.selects RX1 yX1_lineBelow yX1_lineBelow ∈ wsL_law := (lr_12 _ (List.mem_of_getElem? (i := 1) rfl))
theorem cnX1_86 : Cond.constantLong RX1 86 (-1) ∈ wsL_law := (lr_12 _ (List.mem_of_getElem? (i := 3) rfl))
theorem cbX1_88 : CB RX1 88 yX1_youngestOf cX1_youngestOf 4 (some .long) 1 := ⟨(lr_12 _ (List.mem_of_getElem? (i := 4) rfl)), (lr_2 _ (List.mem_of_getElem? (i := 4) rfl)), (lr_12 _ (List.mem_of_getElem? (i := 6) rfl)), by decide +kernel, by decide +kernel, by decide +kernel⟩
theorem sm_yX1_youngestOf : Cond.static yX1_youngestOf ∈ wsL_law := (lr_12 _ (List.mem_of_getElem? (i := 5) rfl))
theorem cnX1_92 : Cond.constantLong RX1 92 (576460752303423488) ∈ wsL_law := (lr_12 _ (List.mem_of_getElem? (i := 7) rfl))
theorem cbX1_44 : CB RX1 44 yX1_shareLine cX1_shareLine 13 none 4 := ⟨(lr_12 _ (List.mem_of_getElem? (i := 8) rfl)), (lr_2 _ (List.mem_of_getElem? (i := 4) rfl)), (lr_12 _ (List.mem_of_getElem? (i := 11) rfl)), by decide +kernel, by decide +kernel, by decide +kernel⟩
theorem im_yX1_shareLine : Cond.instanceMethod yX1_shareLine ∈ wsL_law := (lr_12 _ (List.mem_of_getElem? (i := 9) rfl))
theorem se_yX1_shareLine : Cond.selects RX1 yX1_shareLine yX1_shareLine ∈ wsL_law := (lr_12 _ (List.mem_of_getElem? (i := 10) rfl))
theorem cbX1_98 : CB RX1 98 yJ13_bitCount_95d88 cJ13_bitCount_95d88 2 (some .int) 1 := ⟨(lr_12 _ (List.mem_of_getElem? (i := 12) rfl)), (lr_12 _ (List.mem_of_getElem? (i := 14) rfl)), (lr_12 _ (List.mem_of_getElem? (i := 15) rfl)), by decide +kernel, by decide +kernel, by decide +kernel⟩
theorem sm_yJ13_bitCount_95d88 : Cond.static yJ13_bitCount_95d88 ∈ wsL_law := (lr_12 _ (List.mem_of_getElem? (i := 13) rfl))
theorem ini_RJ13 : Cond.initialized RJ13 ∈ wsL_law := (lr_12 _ (List.mem_of_getElem? (i := 14) rfl))
theorem cnJ13_314 : Cond.constantLong RJ13 314 (6148914691236517205) ∈ wsL_law := (lr_12 _ (List.mem_of_getElem? (i := 16) rfl))
theorem cnJ13_316 : Cond.constantLong RJ13 316 (3689348814741910323) ∈ wsL_law := (lr_12 _ (List.mem_of_getElem? (i := 17) rfl))
theorem cnJ13_318 : Cond.constantLong RJ13 318 (1085102592571150095) ∈ wsL_law := (lr_12 _ (List.mem_of_getElem? (i := 18) rfl))
theorem cbX1_94 : CB RX1 94 yX1_isIn cX1_isIn 3 (some .boolean) 2 := ⟨(lr_12 _ (List.mem_of_getElem? (i := 19) rfl)), (lr_2 _ (List.mem_of_getElem? (i := 4) rfl)), (lr_12 _ (List.mem_of_getElem? (i := 21) rfl)), by decide +kernel, by decide +kernel, by decide +kernel⟩
theorem sm_yX1_isIn : Cond.static yX1_isIn ∈ wsL_law := (lr_12 _ (List.mem_of_getElem? (i := 20) rfl))
theorem cbX1_104 : CB RX1 104 yX1_give cX1_give 5 none 3 := ⟨(lr_12 _ (List.mem_of_getElem? (i := 22) rfl)), (lr_2 _ (List.mem_of_getElem? (i := 4) rfl)), (lr_13 _ (List.mem_of_getElem? (i := 1) rfl)), by decide +kernel, by decide +kernel, by decide +kernel⟩
theorem im_yX1_give : Cond.instanceMethod yX1_give ∈ wsL_law := (lr_12 _ (List.mem_of_getElem? (i := 23) rfl))
theorem se_yX1_give : Cond.selects RX1 yX1_give yX1_give ∈ wsL_law := (lr_13 _ (List.mem_of_getElem? (i := 0) rfl))
theorem cbX7_119 : CB RX7 119 yX2_bringPicked cX2_bringPicked 9 none 5 := ⟨(lr_13 _ (List.mem_of_getElem? (i := 2) rfl)), (lr_2 _ (List.mem_of_getElem? (i := 0) rfl)), (lr_13 _ (List.mem_of_getElem? (i := 5) rfl)), by decide +kernel, by decide +kernel, by decide +kernel⟩
theorem im_yX2_bringPicked : Cond.instanceMethod yX2_bringPicked ∈ wsL_law := (lr_13 _ (List.mem_of_getElem? (i := 3) rfl))
theorem se_yX2_bringPicked : Cond.selects RX2 yX2_bringPicked yX2_bringPicked ∈ wsL_law := (lr_13 _ (List.mem_of_getElem? (i := 4) rfl))
theorem cnX2_47 : Cond.constant RX2 47 (61560) ∈ wsL_law := (lr_13 _ (List.mem_of_getElem? (i := 9) rfl))
theorem cbX7_93 : CB RX7 93 yX7_oweMerchet cX7_oweMerchet 4 none 1 := ⟨(lr_13 _ (List.mem_of_getElem? (i := 10) rfl)), (lr_1 _ (List.mem_of_getElem? (i := 2) rfl)), (lr_13 _ (List.mem_of_getElem? (i := 13) rfl)), by decide +kernel, by decide +kernel, by decide +kernel⟩
theorem im_yX7_oweMerchet : Cond.instanceMethod yX7_oweMerchet ∈ wsL_law := (lr_13 _ (List.mem_of_getElem? (i := 11) rfl))
theorem se_yX7_oweMerchet : Cond.selects RX7 yX7_oweMerchet yX7_oweMerchet ∈ wsL_law := (lr_13 _ (List.mem_of_getElem? (i := 12) rfl))
theorem cbL_27 : CB RL 27 yX8_marry cX8_marry 6 (some .boolean) 2 := ⟨(lr_13 _ (List.mem_of_getElem? (i := 17) rfl)), (lr_1 _ (List.mem_of_getElem? (i := 5) rfl)), (lr_13 _ (List.mem_of_getElem? (i := 20) rfl)), by decide +kernel, by decide +kernel, by decide +kernel⟩
theorem im_yX8_marry : Cond.instanceMethod yX8_marry ∈ wsL_law := (lr_13 _ (List.mem_of_getElem? (i := 18) rfl))
theorem se_yX8_marry : Cond.selects RX8 yX8_marry yX8_marry ∈ wsL_law := (lr_13 _ (List.mem_of_getElem? (i := 19) rfl))
theorem cbX8_188 : CB RX8 188 yX8_lives cX8_lives 2 (some .boolean) 1 := ⟨(lr_13 _ (List.mem_of_getElem? (i := 21) rfl)), (lr_1 _ (List.mem_of_getElem? (i := 5) rfl)), (lr_14 _ (List.mem_of_getElem? (i := 0) rfl)), by decide +kernel, by decide +kernel, by decide +kernel⟩
theorem im_yX8_lives : Cond.instanceMethod yX8_lives ∈ wsL_law := (lr_13 _ (List.mem_of_getElem? (i := 22) rfl))
theorem se_yX8_lives : Cond.selects RX8 yX8_lives yX8_lives ∈ wsL_law := (lr_13 _ (List.mem_of_getElem? (i := 23) rfl))
theorem cbX8_191 : CB RX8 191 yX8_widowPasses cX8_widowPasses 7 (some .int) 2 := ⟨(lr_14 _ (List.mem_of_getElem? (i := 1) rfl)), (lr_1 _ (List.mem_of_getElem? (i := 5) rfl)), (lr_14 _ (List.mem_of_getElem? (i := 4) rfl)), by decide +kernel, by decide +kernel, by decide +kernel⟩
theorem im_yX8_widowPasses : Cond.instanceMethod yX8_widowPasses ∈ wsL_law := (lr_14 _ (List.mem_of_getElem? (i := 2) rfl))
theorem se_yX8_widowPasses : Cond.selects RX8 yX8_widowPasses yX8_widowPasses ∈ wsL_law := (lr_14 _ (List.mem_of_getElem? (i := 3) rfl))
theorem cbX8_185 : CB RX8 185 yX8_passes cX8_passes 6 none 3 := ⟨(lr_14 _ (List.mem_of_getElem? (i := 5) rfl)), (lr_1 _ (List.mem_of_getElem? (i := 5) rfl)), (lr_14 _ (List.mem_of_getElem? (i := 8) rfl)), by decide +kernel, by decide +kernel, by decide +kernel⟩
theorem im_yX8_passes : Cond.instanceMethod yX8_passes ∈ wsL_law := (lr_14 _ (List.mem_of_getElem? (i := 6) rfl))
theorem se_yX8_passes : Cond.selects RX8 yX8_passes yX8_passes ∈ wsL_law := (lr_14 _ (List.mem_of_getElem? (i := 7) rfl))
theorem cbX8_174 : CB RX8 174 yX8_lines cX8_lines 3 none 0 := ⟨(lr_14 _ (List.mem_of_getElem? (i := 10) rfl)), (lr_1 _ (List.mem_of_getElem? (i := 5) rfl)), (lr_14 _ (List.mem_of_getElem? (i := 13) rfl)), by decide +kernel, by decide +kernel, by decide +kernel⟩
theorem im_yX8_lines : Cond.instanceMethod yX8_lines ∈ wsL_law := (lr_14 _ (List.mem_of_getElem? (i := 11) rfl))
theorem se_yX8_lines : Cond.selects RX8 yX8_lines yX8_lines ∈ wsL_law := (lr_14 _ (List.mem_of_getElem? (i := 12) rfl))
theorem cbX8_154 : CB RX8 154 yX8_isChild cX8_isChild 3 (some .boolean) 2 := ⟨(lr_14 _ (List.mem_of_getElem? (i := 14) rfl)), (lr_1 _ (List.mem_of_getElem? (i := 5) rfl)), (lr_14 _ (List.mem_of_getElem? (i := 17) rfl)), by decide +kernel, by decide +kernel, by decide +kernel⟩
theorem im_yX8_isChild : Cond.instanceMethod yX8_isChild ∈ wsL_law := (lr_14 _ (List.mem_of_getElem? (i := 15) rfl))
theorem se_yX8_isChild : Cond.selects RX8 yX8_isChild yX8_isChild ∈ wsL_law := (lr_14 _ (List.mem_of_getElem? (i := 16) rfl))
theorem cbX8_177 : CB RX8 177 yX8_first cX8_first 3 (some .int) 1 := ⟨(lr_14 _ (List.mem_of_getElem? (i := 18) rfl)), (lr_1 _ (List.mem_of_getElem? (i := 5) rfl)), (lr_14 _ (List.mem_of_getElem? (i := 21) rfl)), by decide +kernel, by decide +kernel, by decide +kernel⟩
theorem im_yX8_first : Cond.instanceMethod yX8_first ∈ wsL_law := (lr_14 _ (List.mem_of_getElem? (i := 19) rfl))
theorem se_yX8_first : Cond.selects RX8 yX8_first yX8_first ∈ wsL_law := (lr_14 _ (List.mem_of_getElem? (i := 20) rfl))
theorem cbX8_161 : CB RX8 161 yX8_group cX8_group 8 (some .int) 2 := ⟨(lr_14 _ (List.mem_of_getElem? (i := 22) rfl)), (lr_1 _ (List.mem_of_getElem? (i := 5) rfl)), (lr_15 _ (List.mem_of_getElem? (i := 1) rfl)), by decide +kernel, by decide +kernel, by decide +kernel⟩
theorem im_yX8_group : Cond.instanceMethod yX8_group ∈ wsL_law := (lr_14 _ (List.mem_of_getElem? (i := 23) rfl))
theorem se_yX8_group : Cond.selects RX8 yX8_group yX8_group ∈ wsL_law := (lr_15 _ (List.mem_of_getElem? (i := 0) rfl))
theorem cbX8_181 : CB RX8 181 yX8_shares cX8_shares 11 none 4 := ⟨(lr_15 _ (List.mem_of_getElem? (i := 2) rfl)), (lr_1 _ (List.mem_of_getElem? (i := 5) rfl)), (lr_15 _ (List.mem_of_getElem? (i := 5) rfl)), by decide +kernel, by decide +kernel, by decide +kernel⟩
theorem im_yX8_shares : Cond.instanceMethod yX8_shares ∈ wsL_law := (lr_15 _ (List.mem_of_getElem? (i := 3) rfl))
theorem se_yX8_shares : Cond.selects RX8 yX8_shares yX8_shares ∈ wsL_law := (lr_15 _ (List.mem_of_getElem? (i := 4) rfl))
theorem cbL_28 : CB RL 28 yX7_die cX7_die 5 (some .int) 1 := ⟨(lr_15 _ (List.mem_of_getElem? (i := 6) rfl)), (lr_1 _ (List.mem_of_getElem? (i := 2) rfl)), (lr_15 _ (List.mem_of_getElem? (i := 9) rfl)), by decide +kernel, by decide +kernel, by decide +kernel⟩
theorem im_yX7_die : Cond.instanceMethod yX7_die ∈ wsL_law := (lr_15 _ (List.mem_of_getElem? (i := 7) rfl))
theorem se_yX7_die : Cond.selects RX7 yX7_die yX7_die ∈ wsL_law := (lr_15 _ (List.mem_of_getElem? (i := 8) rfl))
theorem cbX7_101 : CB RX7 101 yX7_passOwnStrips cX7_passOwnStrips 7 (some .int) 2 := ⟨(lr_15 _ (List.mem_of_getElem? (i := 11) rfl)), (lr_1 _ (List.mem_of_getElem? (i := 2) rfl)), (lr_15 _ (List.mem_of_getElem? (i := 14) rfl)), by decide +kernel, by decide +kernel, by decide +kernel⟩
theorem im_yX7_passOwnStrips : Cond.instanceMethod yX7_passOwnStrips ∈ wsL_law := (lr_15 _ (List.mem_of_getElem? (i := 12) rfl))
theorem se_yX7_passOwnStrips : Cond.selects RX7 yX7_passOwnStrips yX7_passOwnStrips ∈ wsL_law := (lr_15 _ (List.mem_of_getElem? (i := 13) rfl))
theorem cbX7_105 : CB RX7 105 yX3_find cX3_find 2 (some (.object "ManorRolls$Person")) 1 := ⟨(lr_15 _ (List.mem_of_getElem? (i := 17) rfl)), (lr_1 _ (List.mem_of_getElem? (i := 20) rfl)), (lr_7 _ (List.mem_of_getElem? (i := 18) rfl)), by decide +kernel, by decide +kernel, by decide +kernel⟩
theorem cbL_32 : CB RL 32 yX8_die cX8_die 8 (some .int) 1 := ⟨(lr_15 _ (List.mem_of_getElem? (i := 18) rfl)), (lr_1 _ (List.mem_of_getElem? (i := 5) rfl)), (lr_15 _ (List.mem_of_getElem? (i := 21) rfl)), by decide +kernel, by decide +kernel, by decide +kernel⟩
theorem im_yX8_die : Cond.instanceMethod yX8_die ∈ wsL_law := (lr_15 _ (List.mem_of_getElem? (i := 19) rfl))
theorem se_yX8_die : Cond.selects RX8 yX8_die yX8_die ∈ wsL_law := (lr_15 _ (List.mem_of_getElem? (i := 20) rfl))
theorem cbX8_194 : CB RX8 194 yX8_own cX8_own 5 (some .int) 2 := ⟨(lr_15 _ (List.mem_of_getElem? (i := 22) rfl)), (lr_1 _ (List.mem_of_getElem? (i := 5) rfl)), (lr_16 _ (List.mem_of_getElem? (i := 1) rfl)), by decide +kernel, by decide +kernel, by decide +kernel⟩
theorem im_yX8_own : Cond.instanceMethod yX8_own ∈ wsL_law := (lr_15 _ (List.mem_of_getElem? (i := 23) rfl))
theorem se_yX8_own : Cond.selects RX8 yX8_own yX8_own ∈ wsL_law := (lr_16 _ (List.mem_of_getElem? (i := 0) rfl))
theorem cbL_33 : CB RL 33 yX7_grant cX7_grant 4 (some .boolean) 3 := ⟨(lr_16 _ (List.mem_of_getElem? (i := 2) rfl)), (lr_1 _ (List.mem_of_getElem? (i := 2) rfl)), (lr_16 _ (List.mem_of_getElem? (i := 5) rfl)), by decide +kernel, by decide +kernel, by decide +kernel⟩
theorem im_yX7_grant : Cond.instanceMethod yX7_grant ∈ wsL_law := (lr_16 _ (List.mem_of_getElem? (i := 3) rfl))
theorem se_yX7_grant : Cond.selects RX7 yX7_grant yX7_grant ∈ wsL_law := (lr_16 _ (List.mem_of_getElem? (i := 4) rfl))
theorem cbX7_108 : CB RX7 108 yX7_isHolding cX7_isHolding 1 (some .boolean) 1 := ⟨(lr_16 _ (List.mem_of_getElem? (i := 6) rfl)), (lr_1 _ (List.mem_of_getElem? (i := 2) rfl)), (lr_16 _ (List.mem_of_getElem? (i := 8) rfl)), by decide +kernel, by decide +kernel, by decide +kernel⟩
theorem sm_yX7_isHolding : Cond.static yX7_isHolding ∈ wsL_law := (lr_16 _ (List.mem_of_getElem? (i := 7) rfl))
theorem cbL_37 : CB RL 37 yX8_grant cX8_grant 4 (some .boolean) 3 := ⟨(lr_16 _ (List.mem_of_getElem? (i := 9) rfl)), (lr_1 _ (List.mem_of_getElem? (i := 5) rfl)), (lr_16 _ (List.mem_of_getElem? (i := 12) rfl)), by decide +kernel, by decide +kernel, by decide +kernel⟩
theorem im_yX8_grant : Cond.instanceMethod yX8_grant ∈ wsL_law := (lr_16 _ (List.mem_of_getElem? (i := 10) rfl))
theorem se_yX8_grant : Cond.selects RX8 yX8_grant yX8_grant ∈ wsL_law := (lr_16 _ (List.mem_of_getElem? (i := 11) rfl))
theorem cbX8_197 : CB RX8 197 yX8_moves cX8_moves 8 (some .boolean) 5 := ⟨(lr_16 _ (List.mem_of_getElem? (i := 13) rfl)), (lr_1 _ (List.mem_of_getElem? (i := 5) rfl)), (lr_16 _ (List.mem_of_getElem? (i := 16) rfl)), by decide +kernel, by decide +kernel, by decide +kernel⟩
theorem im_yX8_moves : Cond.instanceMethod yX8_moves ∈ wsL_law := (lr_16 _ (List.mem_of_getElem? (i := 14) rfl))
theorem se_yX8_moves : Cond.selects RX8 yX8_moves yX8_moves ∈ wsL_law := (lr_16 _ (List.mem_of_getElem? (i := 15) rfl))
theorem cbL_38 : CB RL 38 yX7_rod cX7_rod 6 (some .boolean) 4 := ⟨(lr_16 _ (List.mem_of_getElem? (i := 17) rfl)), (lr_1 _ (List.mem_of_getElem? (i := 2) rfl)), (lr_16 _ (List.mem_of_getElem? (i := 20) rfl)), by decide +kernel, by decide +kernel, by decide +kernel⟩
theorem im_yX7_rod : Cond.instanceMethod yX7_rod ∈ wsL_law := (lr_16 _ (List.mem_of_getElem? (i := 18) rfl))
theorem se_yX7_rod : Cond.selects RX7 yX7_rod yX7_rod ∈ wsL_law := (lr_16 _ (List.mem_of_getElem? (i := 19) rfl))
theorem cbL_42 : CB RL 42 yX8_rod cX8_rod 5 (some .boolean) 4 := ⟨(lr_16 _ (List.mem_of_getElem? (i := 22) rfl)), (lr_1 _ (List.mem_of_getElem? (i := 5) rfl)), (lr_17 _ (List.mem_of_getElem? (i := 1) rfl)), by decide +kernel, by decide +kernel, by decide +kernel⟩
theorem im_yX8_rod : Cond.instanceMethod yX8_rod ∈ wsL_law := (lr_16 _ (List.mem_of_getElem? (i := 23) rfl))
theorem se_yX8_rod : Cond.selects RX8 yX8_rod yX8_rod ∈ wsL_law := (lr_17 _ (List.mem_of_getElem? (i := 0) rfl))
theorem cbL_43 : CB RL 43 yX7_weeks cX7_weeks 4 (some .int) 1 := ⟨(lr_17 _ (List.mem_of_getElem? (i := 2) rfl)), (lr_1 _ (List.mem_of_getElem? (i := 2) rfl)), (lr_17 _ (List.mem_of_getElem? (i := 5) rfl)), by decide +kernel, by decide +kernel, by decide +kernel⟩
theorem im_yX7_weeks : Cond.instanceMethod yX7_weeks ∈ wsL_law := (lr_17 _ (List.mem_of_getElem? (i := 3) rfl))
theorem se_yX7_weeks : Cond.selects RX7 yX7_weeks yX7_weeks ∈ wsL_law := (lr_17 _ (List.mem_of_getElem? (i := 4) rfl))
theorem cnX7_129 : Cond.constant RX7 129 (40000) ∈ wsL_law := (lr_17 _ (List.mem_of_getElem? (i := 6) rfl))
theorem cbX7_130 : CB RX7 130 yX2_heldBy cX2_heldBy 5 (some .int) 1 := ⟨(lr_17 _ (List.mem_of_getElem? (i := 8) rfl)), (lr_2 _ (List.mem_of_getElem? (i := 0) rfl)), (lr_17 _ (List.mem_of_getElem? (i := 11) rfl)), by decide +kernel, by decide +kernel, by decide +kernel⟩
theorem im_yX2_heldBy : Cond.instanceMethod yX2_heldBy ∈ wsL_law := (lr_17 _ (List.mem_of_getElem? (i := 9) rfl))
theorem se_yX2_heldBy : Cond.selects RX2 yX2_heldBy yX2_heldBy ∈ wsL_law := (lr_17 _ (List.mem_of_getElem? (i := 10) rfl))
theorem cbX7_136 : CB RX7 136 yX4_spendWeeks cX4_spendWeeks 4 none 2 := ⟨(lr_17 _ (List.mem_of_getElem? (i := 12) rfl)), (lr_7 _ (List.mem_of_getElem? (i := 9) rfl)), (lr_17 _ (List.mem_of_getElem? (i := 15) rfl)), by decide +kernel, by decide +kernel, by decide +kernel⟩
theorem im_yX4_spendWeeks : Cond.instanceMethod yX4_spendWeeks ∈ wsL_law := (lr_17 _ (List.mem_of_getElem? (i := 13) rfl))
theorem se_yX4_spendWeeks : Cond.selects RX4 yX4_spendWeeks yX4_spendWeeks ∈ wsL_law := (lr_17 _ (List.mem_of_getElem? (i := 14) rfl))
theorem cbL_46 : CB RL 46 yX8_weeks cX8_weeks 5 (some .int) 1 := ⟨(lr_17 _ (List.mem_of_getElem? (i := 20) rfl)), (lr_1 _ (List.mem_of_getElem? (i := 5) rfl)), (lr_17 _ (List.mem_of_getElem? (i := 23) rfl)), by decide +kernel, by decide +kernel, by decide +kernel⟩
theorem im_yX8_weeks : Cond.instanceMethod yX8_weeks ∈ wsL_law := (lr_17 _ (List.mem_of_getElem? (i := 21) rfl))
theorem se_yX8_weeks : Cond.selects RX8 yX8_weeks yX8_weeks ∈ wsL_law := (lr_17 _ (List.mem_of_getElem? (i := 22) rfl))
theorem cnX8_201 : Cond.constant RX8 201 (40000) ∈ wsL_law := (lr_18 _ (List.mem_of_getElem? (i := 0) rfl))
theorem cbX8_202 : CB RX8 202 yX8_held cX8_held 5 (some .int) 2 := ⟨(lr_18 _ (List.mem_of_getElem? (i := 1) rfl)), (lr_1 _ (List.mem_of_getElem? (i := 5) rfl)), (lr_18 _ (List.mem_of_getElem? (i := 4) rfl)), by decide +kernel, by decide +kernel, by decide +kernel⟩
theorem im_yX8_held : Cond.instanceMethod yX8_held ∈ wsL_law := (lr_18 _ (List.mem_of_getElem? (i := 2) rfl))
theorem se_yX8_held : Cond.selects RX8 yX8_held yX8_held ∈ wsL_law := (lr_18 _ (List.mem_of_getElem? (i := 3) rfl))
theorem cbL_47 : CB RL 47 yX7_sick cX7_sick 4 (some .boolean) 2 := ⟨(lr_18 _ (List.mem_of_getElem? (i := 5) rfl)), (lr_1 _ (List.mem_of_getElem? (i := 2) rfl)), (lr_18 _ (List.mem_of_getElem? (i := 8) rfl)), by decide +kernel, by decide +kernel, by decide +kernel⟩
theorem im_yX7_sick : Cond.instanceMethod yX7_sick ∈ wsL_law := (lr_18 _ (List.mem_of_getElem? (i := 6) rfl))
theorem se_yX7_sick : Cond.selects RX7 yX7_sick yX7_sick ∈ wsL_law := (lr_18 _ (List.mem_of_getElem? (i := 7) rfl))
theorem cbL_50 : CB RL 50 yX8_sick cX8_sick 3 (some .boolean) 2 := ⟨(lr_18 _ (List.mem_of_getElem? (i := 10) rfl)), (lr_1 _ (List.mem_of_getElem? (i := 5) rfl)), (lr_18 _ (List.mem_of_getElem? (i := 13) rfl)), by decide +kernel, by decide +kernel, by decide +kernel⟩
theorem im_yX8_sick : Cond.instanceMethod yX8_sick ∈ wsL_law := (lr_18 _ (List.mem_of_getElem? (i := 11) rfl))
theorem se_yX8_sick : Cond.selects RX8 yX8_sick yX8_sick ∈ wsL_law := (lr_18 _ (List.mem_of_getElem? (i := 12) rfl))
theorem cbL_51 : CB RL 51 yX7_works cX7_works 5 (some .int) 3 := ⟨(lr_18 _ (List.mem_of_getElem? (i := 14) rfl)), (lr_1 _ (List.mem_of_getElem? (i := 2) rfl)), (lr_18 _ (List.mem_of_getElem? (i := 17) rfl)), by decide +kernel, by decide +kernel, by decide +kernel⟩
theorem im_yX7_works : Cond.instanceMethod yX7_works ∈ wsL_law := (lr_18 _ (List.mem_of_getElem? (i := 15) rfl))
theorem se_yX7_works : Cond.selects RX7 yX7_works yX7_works ∈ wsL_law := (lr_18 _ (List.mem_of_getElem? (i := 16) rfl))
theorem cbL_55 : CB RL 55 yX8_works cX8_works 4 (some .int) 3 := ⟨(lr_18 _ (List.mem_of_getElem? (i := 21) rfl)), (lr_1 _ (List.mem_of_getElem? (i := 5) rfl)), (lr_19 _ (List.mem_of_getElem? (i := 0) rfl)), by decide +kernel, by decide +kernel, by decide +kernel⟩
theorem im_yX8_works : Cond.instanceMethod yX8_works ∈ wsL_law := (lr_18 _ (List.mem_of_getElem? (i := 22) rfl))
theorem se_yX8_works : Cond.selects RX8 yX8_works yX8_works ∈ wsL_law := (lr_18 _ (List.mem_of_getElem? (i := 23) rfl))
theorem cbL_56 : CB RL 56 yX7_pay cX7_pay 4 (some .int) 2 := ⟨(lr_19 _ (List.mem_of_getElem? (i := 1) rfl)), (lr_1 _ (List.mem_of_getElem? (i := 2) rfl)), (lr_19 _ (List.mem_of_getElem? (i := 4) rfl)), by decide +kernel, by decide +kernel, by decide +kernel⟩
theorem im_yX7_pay : Cond.instanceMethod yX7_pay ∈ wsL_law := (lr_19 _ (List.mem_of_getElem? (i := 2) rfl))
theorem se_yX7_pay : Cond.selects RX7 yX7_pay yX7_pay ∈ wsL_law := (lr_19 _ (List.mem_of_getElem? (i := 3) rfl))
theorem cbL_59 : CB RL 59 yX8_pay cX8_pay 3 (some .int) 2 := ⟨(lr_19 _ (List.mem_of_getElem? (i := 5) rfl)), (lr_1 _ (List.mem_of_getElem? (i := 5) rfl)), (lr_19 _ (List.mem_of_getElem? (i := 8) rfl)), by decide +kernel, by decide +kernel, by decide +kernel⟩
theorem im_yX8_pay : Cond.instanceMethod yX8_pay ∈ wsL_law := (lr_19 _ (List.mem_of_getElem? (i := 6) rfl))
theorem se_yX8_pay : Cond.selects RX8 yX8_pay yX8_pay ∈ wsL_law := (lr_19 _ (List.mem_of_getElem? (i := 7) rfl))
theorem cbL_60 : CB RL 60 yX7_suit cX7_suit 5 (some .int) 3 := ⟨(lr_19 _ (List.mem_of_getElem? (i := 10) rfl)), (lr_1 _ (List.mem_of_getElem? (i := 2) rfl)), (lr_19 _ (List.mem_of_getElem? (i := 13) rfl)), by decide +kernel, by decide +kernel, by decide +kernel⟩
theorem im_yX7_suit : Cond.instanceMethod yX7_suit ∈ wsL_law := (lr_19 _ (List.mem_of_getElem? (i := 11) rfl))
theorem se_yX7_suit : Cond.selects RX7 yX7_suit yX7_suit ∈ wsL_law := (lr_19 _ (List.mem_of_getElem? (i := 12) rfl))
theorem in_RX6 : Cond.instantiable RX6 7 ∈ wsL_law := (lr_19 _ (List.mem_of_getElem? (i := 14) rfl))
theorem ini_RX6 : Cond.initialized RX6 ∈ wsL_law := (lr_19 _ (List.mem_of_getElem? (i := 15) rfl))
theorem cbX7_151 : CB RX7 151 yX6_init cX6_init 4 none 3 := ⟨(lr_19 _ (List.mem_of_getElem? (i := 16) rfl)), (lr_19 _ (List.mem_of_getElem? (i := 15) rfl)), (lr_19 _ (List.mem_of_getElem? (i := 18) rfl)), by decide +kernel, by decide +kernel, by decide +kernel⟩
theorem im_yX6_init : Cond.instanceMethod yX6_init ∈ wsL_law := (lr_19 _ (List.mem_of_getElem? (i := 17) rfl))
theorem cbL_63 : CB RL 63 yX8_suit cX8_suit 4 (some .int) 3 := ⟨(lr_20 _ (List.mem_of_getElem? (i := 1) rfl)), (lr_1 _ (List.mem_of_getElem? (i := 5) rfl)), (lr_20 _ (List.mem_of_getElem? (i := 4) rfl)), by decide +kernel, by decide +kernel, by decide +kernel⟩
theorem im_yX8_suit : Cond.instanceMethod yX8_suit ∈ wsL_law := (lr_20 _ (List.mem_of_getElem? (i := 2) rfl))
theorem se_yX8_suit : Cond.selects RX8 yX8_suit yX8_suit ∈ wsL_law := (lr_20 _ (List.mem_of_getElem? (i := 3) rfl))
theorem cbL_64 : CB RL 64 yX7_appear cX7_appear 4 (some .boolean) 2 := ⟨(lr_20 _ (List.mem_of_getElem? (i := 6) rfl)), (lr_1 _ (List.mem_of_getElem? (i := 2) rfl)), (lr_20 _ (List.mem_of_getElem? (i := 9) rfl)), by decide +kernel, by decide +kernel, by decide +kernel⟩
theorem im_yX7_appear : Cond.instanceMethod yX7_appear ∈ wsL_law := (lr_20 _ (List.mem_of_getElem? (i := 7) rfl))
theorem se_yX7_appear : Cond.selects RX7 yX7_appear yX7_appear ∈ wsL_law := (lr_20 _ (List.mem_of_getElem? (i := 8) rfl))
theorem cbX7_154 : CB RX7 154 yX7_findSuit cX7_findSuit 2 (some (.object "ManorRolls$Suit")) 1 := ⟨(lr_20 _ (List.mem_of_getElem? (i := 12) rfl)), (lr_1 _ (List.mem_of_getElem? (i := 2) rfl)), (lr_20 _ (List.mem_of_getElem? (i := 15) rfl)), by decide +kernel, by decide +kernel, by decide +kernel⟩
theorem im_yX7_findSuit : Cond.instanceMethod yX7_findSuit ∈ wsL_law := (lr_20 _ (List.mem_of_getElem? (i := 13) rfl))
theorem se_yX7_findSuit : Cond.selects RX7 yX7_findSuit yX7_findSuit ∈ wsL_law := (lr_20 _ (List.mem_of_getElem? (i := 14) rfl))
theorem cbL_67 : CB RL 67 yX8_appear cX8_appear 3 (some .boolean) 2 := ⟨(lr_20 _ (List.mem_of_getElem? (i := 16) rfl)), (lr_1 _ (List.mem_of_getElem? (i := 5) rfl)), (lr_20 _ (List.mem_of_getElem? (i := 19) rfl)), by decide +kernel, by decide +kernel, by decide +kernel⟩
theorem im_yX8_appear : Cond.instanceMethod yX8_appear ∈ wsL_law := (lr_20 _ (List.mem_of_getElem? (i := 17) rfl))
theorem se_yX8_appear : Cond.selects RX8 yX8_appear yX8_appear ∈ wsL_law := (lr_20 _ (List.mem_of_getElem? (i := 18) rfl))
theorem cbL_68 : CB RL 68 yX7_court cX7_court 4 (some .int) 0 := ⟨(lr_20 _ (List.mem_of_getElem? (i := 20) rfl)), (lr_1 _ (List.mem_of_getElem? (i := 2) rfl)), (lr_20 _ (List.mem_of_getElem? (i := 23) rfl)), by decide +kernel, by decide +kernel, by decide +kernel⟩
theorem im_yX7_court : Cond.instanceMethod yX7_court ∈ wsL_law := (lr_20 _ (List.mem_of_getElem? (i := 21) rfl))
theorem se_yX7_court : Cond.selects RX7 yX7_court yX7_court ∈ wsL_law := (lr_20 _ (List.mem_of_getElem? (i := 22) rfl))
theorem cbX7_164 : CB RX7 164 yX7_hear cX7_hear 3 none 1 := ⟨(lr_21 _ (List.mem_of_getElem? (i := 0) rfl)), (lr_1 _ (List.mem_of_getElem? (i := 2) rfl)), (lr_21 _ (List.mem_of_getElem? (i := 3) rfl)), by decide +kernel, by decide +kernel, by decide +kernel⟩
theorem im_yX7_hear : Cond.instanceMethod yX7_hear ∈ wsL_law := (lr_21 _ (List.mem_of_getElem? (i := 1) rfl))
theorem se_yX7_hear : Cond.selects RX7 yX7_hear yX7_hear ∈ wsL_law := (lr_21 _ (List.mem_of_getElem? (i := 2) rfl))
theorem cbX7_261 : CB RX7 261 yX3_owe cX3_owe 4 none 2 := ⟨(lr_21 _ (List.mem_of_getElem? (i := 8) rfl)), (lr_1 _ (List.mem_of_getElem? (i := 20) rfl)), (lr_21 _ (List.mem_of_getElem? (i := 11) rfl)), by decide +kernel, by decide +kernel, by decide +kernel⟩
theorem im_yX3_owe : Cond.instanceMethod yX3_owe ∈ wsL_law := (lr_21 _ (List.mem_of_getElem? (i := 9) rfl))
theorem se_yX3_owe : Cond.selects RX3 yX3_owe yX3_owe ∈ wsL_law := (lr_21 _ (List.mem_of_getElem? (i := 10) rfl))
theorem cbX7_265 : CB RX7 265 yX7_defaultIn cX7_defaultIn 5 none 2 := ⟨(lr_21 _ (List.mem_of_getElem? (i := 13) rfl)), (lr_1 _ (List.mem_of_getElem? (i := 2) rfl)), (lr_21 _ (List.mem_of_getElem? (i := 16) rfl)), by decide +kernel, by decide +kernel, by decide +kernel⟩
theorem im_yX7_defaultIn : Cond.instanceMethod yX7_defaultIn ∈ wsL_law := (lr_21 _ (List.mem_of_getElem? (i := 14) rfl))
theorem se_yX7_defaultIn : Cond.selects RX7 yX7_defaultIn yX7_defaultIn ∈ wsL_law := (lr_21 _ (List.mem_of_getElem? (i := 15) rfl))
theorem cbL_72 : CB RL 72 yX8_court cX8_court 4 (some .int) 0 := ⟨(lr_21 _ (List.mem_of_getElem? (i := 19) rfl)), (lr_1 _ (List.mem_of_getElem? (i := 5) rfl)), (lr_21 _ (List.mem_of_getElem? (i := 22) rfl)), by decide +kernel, by decide +kernel, by decide +kernel⟩
theorem im_yX8_court : Cond.instanceMethod yX8_court ∈ wsL_law := (lr_21 _ (List.mem_of_getElem? (i := 20) rfl))
theorem se_yX8_court : Cond.selects RX8 yX8_court yX8_court ∈ wsL_law := (lr_21 _ (List.mem_of_getElem? (i := 21) rfl))
theorem cbX8_212 : CB RX8 212 yX8_falls cX8_falls 3 none 1 := ⟨(lr_21 _ (List.mem_of_getElem? (i := 23) rfl)), (lr_1 _ (List.mem_of_getElem? (i := 5) rfl)), (lr_22 _ (List.mem_of_getElem? (i := 2) rfl)), by decide +kernel, by decide +kernel, by decide +kernel⟩
theorem im_yX8_falls : Cond.instanceMethod yX8_falls ∈ wsL_law := (lr_22 _ (List.mem_of_getElem? (i := 0) rfl))
theorem se_yX8_falls : Cond.selects RX8 yX8_falls yX8_falls ∈ wsL_law := (lr_22 _ (List.mem_of_getElem? (i := 1) rfl))
theorem cbL_73 : CB RL 73 yX7_holder cX7_holder 4 (some .int) 3 := ⟨(lr_22 _ (List.mem_of_getElem? (i := 3) rfl)), (lr_1 _ (List.mem_of_getElem? (i := 2) rfl)), (lr_22 _ (List.mem_of_getElem? (i := 6) rfl)), by decide +kernel, by decide +kernel, by decide +kernel⟩
theorem im_yX7_holder : Cond.instanceMethod yX7_holder ∈ wsL_law := (lr_22 _ (List.mem_of_getElem? (i := 4) rfl))
theorem se_yX7_holder : Cond.selects RX7 yX7_holder yX7_holder ∈ wsL_law := (lr_22 _ (List.mem_of_getElem? (i := 5) rfl))
theorem cbX7_168 : CB RX7 168 yX7_right cX7_right 7 (some .int) 5 := ⟨(lr_22 _ (List.mem_of_getElem? (i := 7) rfl)), (lr_1 _ (List.mem_of_getElem? (i := 2) rfl)), (lr_22 _ (List.mem_of_getElem? (i := 10) rfl)), by decide +kernel, by decide +kernel, by decide +kernel⟩
theorem im_yX7_right : Cond.instanceMethod yX7_right ∈ wsL_law := (lr_22 _ (List.mem_of_getElem? (i := 8) rfl))
theorem se_yX7_right : Cond.selects RX7 yX7_right yX7_right ∈ wsL_law := (lr_22 _ (List.mem_of_getElem? (i := 9) rfl))
theorem cbX7_172 : CB RX7 172 yX2_onDay cX2_onDay 4 (some (.object "ManorRolls$Right")) 2 := ⟨(lr_22 _ (List.mem_of_getElem? (i := 14) rfl)), (lr_2 _ (List.mem_of_getElem? (i := 0) rfl)), (lr_22 _ (List.mem_of_getElem? (i := 17) rfl)), by decide +kernel, by decide +kernel, by decide +kernel⟩
theorem im_yX2_onDay : Cond.instanceMethod yX2_onDay ∈ wsL_law := (lr_22 _ (List.mem_of_getElem? (i := 15) rfl))
theorem se_yX2_onDay : Cond.selects RX2 yX2_onDay yX2_onDay ∈ wsL_law := (lr_22 _ (List.mem_of_getElem? (i := 16) rfl))
theorem cbX7_176 : CB RX7 176 yX2_stepsAhead cX2_stepsAhead 4 (some (.object "ManorRolls$Right")) 2 := ⟨(lr_22 _ (List.mem_of_getElem? (i := 19) rfl)), (lr_2 _ (List.mem_of_getElem? (i := 0) rfl)), (lr_22 _ (List.mem_of_getElem? (i := 21) rfl)), by decide +kernel, by decide +kernel, by decide +kernel⟩
theorem sm_yX2_stepsAhead : Cond.static yX2_stepsAhead ∈ wsL_law := (lr_22 _ (List.mem_of_getElem? (i := 20) rfl))
theorem cbL_76 : CB RL 76 yX8_holder cX8_holder 4 (some .int) 3 := ⟨(lr_22 _ (List.mem_of_getElem? (i := 22) rfl)), (lr_1 _ (List.mem_of_getElem? (i := 5) rfl)), (lr_23 _ (List.mem_of_getElem? (i := 1) rfl)), by decide +kernel, by decide +kernel, by decide +kernel⟩
theorem im_yX8_holder : Cond.instanceMethod yX8_holder ∈ wsL_law := (lr_22 _ (List.mem_of_getElem? (i := 23) rfl))
theorem se_yX8_holder : Cond.selects RX8 yX8_holder yX8_holder ∈ wsL_law := (lr_23 _ (List.mem_of_getElem? (i := 0) rfl))
theorem cbX8_121 : CB RX8 121 yX8_isStrip cX8_isStrip 4 (some .boolean) 3 := ⟨(lr_23 _ (List.mem_of_getElem? (i := 2) rfl)), (lr_1 _ (List.mem_of_getElem? (i := 5) rfl)), (lr_23 _ (List.mem_of_getElem? (i := 5) rfl)), by decide +kernel, by decide +kernel, by decide +kernel⟩
theorem im_yX8_isStrip : Cond.instanceMethod yX8_isStrip ∈ wsL_law := (lr_23 _ (List.mem_of_getElem? (i := 3) rfl))
theorem se_yX8_isStrip : Cond.selects RX8 yX8_isStrip yX8_isStrip ∈ wsL_law := (lr_23 _ (List.mem_of_getElem? (i := 4) rfl))
theorem cbX8_124 : CB RX8 124 yX8_rightOf cX8_rightOf 6 (some .int) 3 := ⟨(lr_23 _ (List.mem_of_getElem? (i := 6) rfl)), (lr_1 _ (List.mem_of_getElem? (i := 5) rfl)), (lr_23 _ (List.mem_of_getElem? (i := 9) rfl)), by decide +kernel, by decide +kernel, by decide +kernel⟩
theorem im_yX8_rightOf : Cond.instanceMethod yX8_rightOf ∈ wsL_law := (lr_23 _ (List.mem_of_getElem? (i := 7) rfl))
theorem se_yX8_rightOf : Cond.selects RX8 yX8_rightOf yX8_rightOf ∈ wsL_law := (lr_23 _ (List.mem_of_getElem? (i := 8) rfl))
theorem cbL_77 : CB RL 77 yX7_right cX7_right 7 (some .int) 5 := ⟨(lr_23 _ (List.mem_of_getElem? (i := 10) rfl)), (lr_1 _ (List.mem_of_getElem? (i := 2) rfl)), (lr_22 _ (List.mem_of_getElem? (i := 10) rfl)), by decide +kernel, by decide +kernel, by decide +kernel⟩
theorem cbL_81 : CB RL 81 yX8_right cX8_right 7 (some .int) 5 := ⟨(lr_23 _ (List.mem_of_getElem? (i := 11) rfl)), (lr_1 _ (List.mem_of_getElem? (i := 5) rfl)), (lr_23 _ (List.mem_of_getElem? (i := 14) rfl)), by decide +kernel, by decide +kernel, by decide +kernel⟩
theorem im_yX8_right : Cond.instanceMethod yX8_right ∈ wsL_law := (lr_23 _ (List.mem_of_getElem? (i := 12) rfl))
theorem se_yX8_right : Cond.selects RX8 yX8_right yX8_right ∈ wsL_law := (lr_23 _ (List.mem_of_getElem? (i := 13) rfl))
theorem cbL_82 : CB RL 82 yX7_heir cX7_heir 3 (some .int) 2 := ⟨(lr_23 _ (List.mem_of_getElem? (i := 15) rfl)), (lr_1 _ (List.mem_of_getElem? (i := 2) rfl)), (lr_23 _ (List.mem_of_getElem? (i := 18) rfl)), by decide +kernel, by decide +kernel, by decide +kernel⟩
theorem im_yX7_heir : Cond.instanceMethod yX7_heir ∈ wsL_law := (lr_23 _ (List.mem_of_getElem? (i := 16) rfl))
theorem se_yX7_heir : Cond.selects RX7 yX7_heir yX7_heir ∈ wsL_law := (lr_23 _ (List.mem_of_getElem? (i := 17) rfl))
theorem cbX7_194 : CB RX7 194 yX1_list cX1_list 3 none 2 := ⟨(lr_23 _ (List.mem_of_getElem? (i := 21) rfl)), (lr_2 _ (List.mem_of_getElem? (i := 4) rfl)), (lr_24 _ (List.mem_of_getElem? (i := 0) rfl)), by decide +kernel, by decide +kernel, by decide +kernel⟩
theorem im_yX1_list : Cond.instanceMethod yX1_list ∈ wsL_law := (lr_23 _ (List.mem_of_getElem? (i := 22) rfl))
theorem se_yX1_list : Cond.selects RX1 yX1_list yX1_list ∈ wsL_law := (lr_23 _ (List.mem_of_getElem? (i := 23) rfl))
theorem cbX1_34 : CB RX1 34 yX1_listLine cX1_listLine 5 none 2 := ⟨(lr_24 _ (List.mem_of_getElem? (i := 2) rfl)), (lr_2 _ (List.mem_of_getElem? (i := 4) rfl)), (lr_24 _ (List.mem_of_getElem? (i := 5) rfl)), by decide +kernel, by decide +kernel, by decide +kernel⟩
theorem im_yX1_listLine : Cond.instanceMethod yX1_listLine ∈ wsL_law := (lr_24 _ (List.mem_of_getElem? (i := 3) rfl))
theorem se_yX1_listLine : Cond.selects RX1 yX1_listLine yX1_listLine ∈ wsL_law := (lr_24 _ (List.mem_of_getElem? (i := 4) rfl))
theorem cbL_85 : CB RL 85 yX8_heir cX8_heir 6 (some .int) 2 := ⟨(lr_24 _ (List.mem_of_getElem? (i := 6) rfl)), (lr_1 _ (List.mem_of_getElem? (i := 5) rfl)), (lr_24 _ (List.mem_of_getElem? (i := 9) rfl)), by decide +kernel, by decide +kernel, by decide +kernel⟩
theorem im_yX8_heir : Cond.instanceMethod yX8_heir ∈ wsL_law := (lr_24 _ (List.mem_of_getElem? (i := 7) rfl))
theorem se_yX8_heir : Cond.selects RX8 yX8_heir yX8_heir ∈ wsL_law := (lr_24 _ (List.mem_of_getElem? (i := 8) rfl))
theorem cbX8_171 : CB RX8 171 yX8_listed cX8_listed 8 (some .int) 2 := ⟨(lr_24 _ (List.mem_of_getElem? (i := 12) rfl)), (lr_1 _ (List.mem_of_getElem? (i := 5) rfl)), (lr_24 _ (List.mem_of_getElem? (i := 15) rfl)), by decide +kernel, by decide +kernel, by decide +kernel⟩
theorem im_yX8_listed : Cond.instanceMethod yX8_listed ∈ wsL_law := (lr_24 _ (List.mem_of_getElem? (i := 13) rfl))
theorem se_yX8_listed : Cond.selects RX8 yX8_listed yX8_listed ∈ wsL_law := (lr_24 _ (List.mem_of_getElem? (i := 14) rfl))
theorem cbL_86 : CB RL 86 yX7_told cX7_told 4 (some .int) 2 := ⟨(lr_24 _ (List.mem_of_getElem? (i := 16) rfl)), (lr_1 _ (List.mem_of_getElem? (i := 2) rfl)), (lr_24 _ (List.mem_of_getElem? (i := 19) rfl)), by decide +kernel, by decide +kernel, by decide +kernel⟩
theorem im_yX7_told : Cond.instanceMethod yX7_told ∈ wsL_law := (lr_24 _ (List.mem_of_getElem? (i := 17) rfl))
theorem se_yX7_told : Cond.selects RX7 yX7_told yX7_told ∈ wsL_law := (lr_24 _ (List.mem_of_getElem? (i := 18) rfl))
theorem cbX7_212 : CB RX7 212 yX2_partsOf cX2_partsOf 5 (some .int) 1 := ⟨(lr_24 _ (List.mem_of_getElem? (i := 23) rfl)), (lr_2 _ (List.mem_of_getElem? (i := 0) rfl)), (lr_25 _ (List.mem_of_getElem? (i := 2) rfl)), by decide +kernel, by decide +kernel, by decide +kernel⟩
theorem im_yX2_partsOf : Cond.instanceMethod yX2_partsOf ∈ wsL_law := (lr_25 _ (List.mem_of_getElem? (i := 0) rfl))
theorem se_yX2_partsOf : Cond.selects RX2 yX2_partsOf yX2_partsOf ∈ wsL_law := (lr_25 _ (List.mem_of_getElem? (i := 1) rfl))
theorem cbL_89 : CB RL 89 yX8_told cX8_told 3 (some .int) 2 := ⟨(lr_25 _ (List.mem_of_getElem? (i := 3) rfl)), (lr_1 _ (List.mem_of_getElem? (i := 5) rfl)), (lr_25 _ (List.mem_of_getElem? (i := 6) rfl)), by decide +kernel, by decide +kernel, by decide +kernel⟩
theorem im_yX8_told : Cond.instanceMethod yX8_told ∈ wsL_law := (lr_25 _ (List.mem_of_getElem? (i := 4) rfl))
theorem se_yX8_told : Cond.selects RX8 yX8_told yX8_told ∈ wsL_law := (lr_25 _ (List.mem_of_getElem? (i := 5) rfl))
theorem cbL_90 : CB RL 90 yX7_suited cX7_suited 4 (some .int) 2 := ⟨(lr_25 _ (List.mem_of_getElem? (i := 7) rfl)), (lr_1 _ (List.mem_of_getElem? (i := 2) rfl)), (lr_25 _ (List.mem_of_getElem? (i := 10) rfl)), by decide +kernel, by decide +kernel, by decide +kernel⟩
theorem im_yX7_suited : Cond.instanceMethod yX7_suited ∈ wsL_law := (lr_25 _ (List.mem_of_getElem? (i := 8) rfl))
theorem se_yX7_suited : Cond.selects RX7 yX7_suited yX7_suited ∈ wsL_law := (lr_25 _ (List.mem_of_getElem? (i := 9) rfl))
theorem cbL_93 : CB RL 93 yX8_suited cX8_suited 3 (some .int) 2 := ⟨(lr_25 _ (List.mem_of_getElem? (i := 11) rfl)), (lr_1 _ (List.mem_of_getElem? (i := 5) rfl)), (lr_25 _ (List.mem_of_getElem? (i := 14) rfl)), by decide +kernel, by decide +kernel, by decide +kernel⟩
theorem im_yX8_suited : Cond.instanceMethod yX8_suited ∈ wsL_law := (lr_25 _ (List.mem_of_getElem? (i := 12) rfl))
theorem se_yX8_suited : Cond.selects RX8 yX8_suited yX8_suited ∈ wsL_law := (lr_25 _ (List.mem_of_getElem? (i := 13) rfl))
theorem cbL_94 : CB RL 94 yX7_count cX7_count 2 (some .int) 1 := ⟨(lr_25 _ (List.mem_of_getElem? (i := 15) rfl)), (lr_1 _ (List.mem_of_getElem? (i := 2) rfl)), (lr_25 _ (List.mem_of_getElem? (i := 18) rfl)), by decide +kernel, by decide +kernel, by decide +kernel⟩
theorem im_yX7_count : Cond.instanceMethod yX7_count ∈ wsL_law := (lr_25 _ (List.mem_of_getElem? (i := 16) rfl))
theorem se_yX7_count : Cond.selects RX7 yX7_count yX7_count ∈ wsL_law := (lr_25 _ (List.mem_of_getElem? (i := 17) rfl))
theorem cbX7_224 : CB RX7 224 yX3_allOwed cX3_allOwed 4 (some .int) 0 := ⟨(lr_25 _ (List.mem_of_getElem? (i := 20) rfl)), (lr_1 _ (List.mem_of_getElem? (i := 20) rfl)), (lr_25 _ (List.mem_of_getElem? (i := 23) rfl)), by decide +kernel, by decide +kernel, by decide +kernel⟩
theorem im_yX3_allOwed : Cond.instanceMethod yX3_allOwed ∈ wsL_law := (lr_25 _ (List.mem_of_getElem? (i := 21) rfl))
theorem se_yX3_allOwed : Cond.selects RX3 yX3_allOwed yX3_allOwed ∈ wsL_law := (lr_25 _ (List.mem_of_getElem? (i := 22) rfl))
theorem cbL_97 : CB RL 97 yX8_count cX8_count 4 (some .int) 1 := ⟨(lr_26 _ (List.mem_of_getElem? (i := 0) rfl)), (lr_1 _ (List.mem_of_getElem? (i := 5) rfl)), (lr_26 _ (List.mem_of_getElem? (i := 3) rfl)), by decide +kernel, by decide +kernel, by decide +kernel⟩
theorem im_yX8_count : Cond.instanceMethod yX8_count ∈ wsL_law := (lr_26 _ (List.mem_of_getElem? (i := 1) rfl))
theorem se_yX8_count : Cond.selects RX8 yX8_count yX8_count ∈ wsL_law := (lr_26 _ (List.mem_of_getElem? (i := 2) rfl))
theorem oi_inst : Cond.instanceMethod objectInit ∈ wsL_law := (lr_1 _ (List.mem_of_getElem? (i := 10) rfl))
theorem oi_code : Cond.code objectInit ⟨#[0xb1]⟩ 1 none ∈ wsL_law := (lr_1 _ (List.mem_of_getElem? (i := 11) rfl))
theorem oi_X7_3 : Cond.methodLink RX7 3 objectInit ∈ wsL_law := (lr_1 _ (List.mem_of_getElem? (i := 9) rfl))
theorem oi_X0_3 : Cond.methodLink RX0 3 objectInit ∈ wsL_law := (lr_2 _ (List.mem_of_getElem? (i := 13) rfl))
theorem oi_X3_3 : Cond.methodLink RX3 3 objectInit ∈ wsL_law := (lr_3 _ (List.mem_of_getElem? (i := 0) rfl))
theorem oi_X2_3 : Cond.methodLink RX2 3 objectInit ∈ wsL_law := (lr_3 _ (List.mem_of_getElem? (i := 6) rfl))
theorem oi_X5_1 : Cond.methodLink RX5 1 objectInit ∈ wsL_law := (lr_3 _ (List.mem_of_getElem? (i := 17) rfl))
theorem oi_X1_3 : Cond.methodLink RX1 3 objectInit ∈ wsL_law := (lr_4 _ (List.mem_of_getElem? (i := 1) rfl))
theorem oi_X8_3 : Cond.methodLink RX8 3 objectInit ∈ wsL_law := (lr_4 _ (List.mem_of_getElem? (i := 8) rfl))
theorem oi_X4_3 : Cond.methodLink RX4 3 objectInit ∈ wsL_law := (lr_7 _ (List.mem_of_getElem? (i := 23) rfl))
theorem oi_X6_3 : Cond.methodLink RX6 3 objectInit ∈ wsL_law := (lr_19 _ (List.mem_of_getElem? (i := 19) rfl))
theorem mi_X1_38 : Cond.methodLink RX1 38 Lib.Math.min.name ∈ wsL_law := (lr_11 _ (List.mem_of_getElem? (i := 2) rfl))
theorem mi_X4_41 : Cond.methodLink RX4 41 Lib.Math.min.name ∈ wsL_law := (lr_17 _ (List.mem_of_getElem? (i := 17) rfl))
theorem mi_st : Cond.static Lib.Math.min.name ∈ wsL_law := (lr_11 _ (List.mem_of_getElem? (i := 3) rfl))
theorem mi_code : Cond.code Lib.Math.min.name Lib.Math.min.code 2 (some .int) ∈ wsL_law := (lr_11 _ (List.mem_of_getElem? (i := 5) rfl))
theorem mx_X2_41 : Cond.methodLink RX2 41 Lib.Math.max.name ∈ wsL_law := (lr_13 _ (List.mem_of_getElem? (i := 6) rfl))
theorem mx_st : Cond.static Lib.Math.max.name ∈ wsL_law := (lr_13 _ (List.mem_of_getElem? (i := 7) rfl))
theorem mx_code : Cond.code Lib.Math.max.name Lib.Math.max.code 2 (some .int) ∈ wsL_law := (lr_13 _ (List.mem_of_getElem? (i := 8) rfl))
theorem mm_ini : Cond.initialized "java/lang/Math" ∈ wsL_law := (lr_11 _ (List.mem_of_getElem? (i := 4) rfl))
end
section
/-! ===== HEAP: fields, arrays, makings, calls ===== -/
theorem x_get {l : Launch} {E : En} {cc : ByteArray} {own nm : String} {nL : Nat} {R : Room} {ret : Option FieldType} {Fn : Ft} {J : Jt} (O : Ok l E cc own nm nL R ret Fn J) {pc index : Nat} {ci k a : Nat} {v : Value} {P : HP} {ce sl : Nat} {lv : LV} {st : List Value} (d : decode cc pc = .ok (.getfield index, 3)) (hl : FD own index ci k) (hv : ∀ h, P h → ∃ fs, h a = some (.inr (ci, fs)) ∧ fs[k]? = some v) (kk : J P ce sl (pc + 3) lv (v :: st)) : J P ce sl pc lv (.ref a :: st) := by
  obtain ⟨p, e, s, m, args, below, meth, c, A, Q, rfl, hx, hb, hml, hown, hts, hK, hA, hnm, hret⟩ := O
  intro H locs ls ws h1 h2 h3 h4 h5
  obtain ⟨C, T, N, g1, g2, g3, g4⟩ := hl
  obtain ⟨fs, f1, f2⟩ := hv _ h3
  obtain ⟨q0, f3⟩ := hf_mem f1
  exact va_get (C := C) (T := T) (N := N) hx hb hts g4 hown hK.1 h1 q0 f3 g1 k g2 (hts _ g3) (fun _ h9 => h9) f2 d (kk H locs ls ws h1 h2 h3 h4 h5)
theorem x_put {l : Launch} {E : En} {cc : ByteArray} {own nm : String} {nL : Nat} {R : Room} {ret : Option FieldType} {Fn : Ft} {J : Jt} (O : Ok l E cc own nm nL R ret Fn J) {pc index : Nat} {ci k a : Nat} {ty : FieldType} {v : Value} {P P' : HP} {ce sl : Nat} {lv : LV} {st : List Value} (d : decode cc pc = .ok (.putfield index, 3)) (hl : FP own index ci k ty false) (hn : narrow ty v = v) (hfit : fits ty v = true) (hv : ∀ h, P h → ∃ fs, h a = some (.inr (ci, fs)) ∧ k < fs.length ∧ P' (hset h a (.inr (ci, fs.set k v)))) (kk : J P' ce sl (pc + 3) lv st) : J P ce sl pc lv (v :: .ref a :: st) := by
  obtain ⟨p, e, s, m, args, below, meth, c, A, Q, rfl, hx, hb, hml, hown, hts, hK, hA, hnm, hret⟩ := O
  intro H locs ls ws h1 h2 h3 h4 h5
  obtain ⟨C, T, N, ty0, g1, g2, g3, g4, g5, g6, g7, g8, -⟩ := hl
  obtain ⟨fs, f1, f2, f5⟩ := hv _ h3
  obtain ⟨q0, f3⟩ := hf_mem f1
  refine va_put (C := C) (T := T) (N := N) hx hb hts g4 ty0 g5 g6 hown hK.1 h1 h2 h4 q0 f3 g1 k g2 (hts _ g3) (fun _ h9 => h9) g7 g8 hn hfit f2 d (fun H1 locs1 q1 q2 q3 => ?_)
  exact kk H1 locs1 ls _ q1 q2 (by rw [hf_set h2 f3]; exact f5) q3 h5
theorem x_putF {l : Launch} {E : En} {cc : ByteArray} {own nm : String} {nL : Nat} {R : Room} {ret : Option FieldType} {Fn : Ft} {J : Jt} (O : Ok l E cc own nm nL R ret Fn J) {pc index : Nat} {ci k a : Nat} {ty : FieldType} {v : Value} {P P' : HP} {ce sl : Nat} {lv : LV} {st : List Value} (hi : nm = "<init>") (d : decode cc pc = .ok (.putfield index, 3)) (hl : FP own index ci k ty true) (hn : narrow ty v = v) (hfit : fits ty v = true) (hv : ∀ h, P h → ∃ fs, h a = some (.inr (ci, fs)) ∧ k < fs.length ∧ P' (hset h a (.inr (ci, fs.set k v)))) (kk : J P' ce sl (pc + 3) lv st) : J P ce sl pc lv (v :: .ref a :: st) := by
  obtain ⟨p, e, s, m, args, below, meth, c, A, Q, rfl, hx, hb, hml, hown, hts, hK, hA, hnm, hret⟩ := O
  intro H locs ls ws h1 h2 h3 h4 h5
  obtain ⟨C, T, N, ty0, g1, g2, g3, g4, g5, g6, g7, g8, g9⟩ := hl
  obtain ⟨fs, f1, f2, f5⟩ := hv _ h3
  obtain ⟨q0, f3⟩ := hf_mem f1
  refine va_putF (C := C) (T := T) (N := N) hx hb hts g4 ty0 g5 g6 hown hK.1 h1 h2 h4 q0 f3 g1 k g2 (hts _ g3) (fun _ h9 => h9) g7 (hnm.trans hi) (g9 rfl) g8 hn hfit f2 d (fun H1 locs1 q1 q2 q3 => ?_)
  exact kk H1 locs1 ls _ q1 q2 (by rw [hf_set h2 f3]; exact f5) q3 h5
theorem x_iald {l : Launch} {E : En} {cc : ByteArray} {own nm : String} {nL : Nat} {R : Room} {ret : Option FieldType} {Fn : Ft} {J : Jt} (O : Ok l E cc own nm nL R ret Fn J) {pc : Nat} {a : Nat} {i v : Int32} {P : HP} {ce sl : Nat} {lv : LV} {st : List Value} (d : decode cc pc = .ok (.iaload, 1)) (hv : ∀ h, P h → ∃ N f, h a = some (.inl (E.2 0, N, .inl f)) ∧ vp_in i N ∧ f i.toNatClampNeg = v) (kk : J P ce sl (pc + 1) lv (.int v :: st)) : J P ce sl pc lv (.int i :: .ref a :: st) := by
  obtain ⟨p, e, s, m, args, below, meth, c, A, Q, rfl, hx, hb, hml, hown, hts, hK, hA, hnm, hret⟩ := O
  intro H locs ls ws h1 h2 h3 h4 h5
  obtain ⟨N, f, f1, f2, f4⟩ := hv _ h3
  obtain ⟨q0, f3⟩ := hf_mem f1
  subst f4
  exact va_iald hx hb hK.1 h1 q0 0 f3 rfl f2 d (kk H locs ls ws h1 h2 h3 h4 h5)
theorem x_zald {l : Launch} {E : En} {cc : ByteArray} {own nm : String} {nL : Nat} {R : Room} {ret : Option FieldType} {Fn : Ft} {J : Jt} (O : Ok l E cc own nm nL R ret Fn J) {pc : Nat} {a : Nat} {i v : Int32} {P : HP} {ce sl : Nat} {lv : LV} {st : List Value} (d : decode cc pc = .ok (.baload, 1)) (hv : ∀ h, P h → ∃ N f, h a = some (.inl (E.2 1, N, .inl f)) ∧ vp_in i N ∧ f i.toNatClampNeg = v) (kk : J P ce sl (pc + 1) lv (.int v :: st)) : J P ce sl pc lv (.int i :: .ref a :: st) := by
  obtain ⟨p, e, s, m, args, below, meth, c, A, Q, rfl, hx, hb, hml, hown, hts, hK, hA, hnm, hret⟩ := O
  intro H locs ls ws h1 h2 h3 h4 h5
  obtain ⟨N, f, f1, f2, f4⟩ := hv _ h3
  obtain ⟨q0, f3⟩ := hf_mem f1
  subst f4
  exact va_zald hx hb hK.1 h1 q0 1 f3 rfl f2 d (kk H locs ls ws h1 h2 h3 h4 h5)
theorem x_iast {l : Launch} {E : En} {cc : ByteArray} {own nm : String} {nL : Nat} {R : Room} {ret : Option FieldType} {Fn : Ft} {J : Jt} (O : Ok l E cc own nm nL R ret Fn J) {pc : Nat} {a : Nat} {i x : Int32} {P P' : HP} {ce sl : Nat} {lv : LV} {st : List Value} (d : decode cc pc = .ok (.iastore, 1)) (hv : ∀ h, P h → ∃ N f, h a = some (.inl (E.2 0, N, .inl f)) ∧ vp_in i N ∧ P' (hset h a (.inl (E.2 0, N, .inl (upd f i.toNatClampNeg x))))) (kk : J P' ce sl (pc + 1) lv st) : J P ce sl pc lv (.int x :: .int i :: .ref a :: st) := by
  obtain ⟨p, e, s, m, args, below, meth, c, A, Q, rfl, hx, hb, hml, hown, hts, hK, hA, hnm, hret⟩ := O
  intro H locs ls ws h1 h2 h3 h4 h5
  obtain ⟨N, f, f1, f2, f5⟩ := hv _ h3
  obtain ⟨q0, f3⟩ := hf_mem f1
  refine va_iast hx hb hK.1 h1 h2 h4 q0 0 f3 rfl f2 d (fun H1 locs1 q1 q2 q3 => ?_)
  exact kk H1 locs1 ls _ q1 q2 (by rw [hf_set h2 f3]; exact f5) q3 h5
theorem x_zast {l : Launch} {E : En} {cc : ByteArray} {own nm : String} {nL : Nat} {R : Room} {ret : Option FieldType} {Fn : Ft} {J : Jt} (O : Ok l E cc own nm nL R ret Fn J) {pc : Nat} {a : Nat} {i x : Int32} {P P' : HP} {ce sl : Nat} {lv : LV} {st : List Value} (d : decode cc pc = .ok (.bastore, 1)) (hv : ∀ h, P h → ∃ N f, h a = some (.inl (E.2 1, N, .inl f)) ∧ vp_in i N ∧ P' (hset h a (.inl (E.2 1, N, .inl (upd f i.toNatClampNeg (vp_nar .boolean x)))))) (kk : J P' ce sl (pc + 1) lv st) : J P ce sl pc lv (.int x :: .int i :: .ref a :: st) := by
  obtain ⟨p, e, s, m, args, below, meth, c, A, Q, rfl, hx, hb, hml, hown, hts, hK, hA, hnm, hret⟩ := O
  intro H locs ls ws h1 h2 h3 h4 h5
  obtain ⟨N, f, f1, f2, f5⟩ := hv _ h3
  obtain ⟨q0, f3⟩ := hf_mem f1
  refine va_zast hx hb hK.1 h1 h2 h4 q0 1 f3 rfl f2 d (fun H1 locs1 q1 q2 q3 => ?_)
  exact kk H1 locs1 ls _ q1 q2 (by rw [hf_set h2 f3]; exact f5) q3 h5
theorem x_alen {l : Launch} {E : En} {cc : ByteArray} {own nm : String} {nL : Nat} {R : Room} {ret : Option FieldType} {Fn : Ft} {J : Jt} (O : Ok l E cc own nm nL R ret Fn J) {pc : Nat} {a N t0 : Nat} {ty : FieldType} {v : Int32} {P : HP} {ce sl : Nat} {lv : LV} {st : List Value} (d : decode cc pc = .ok (.arraylength, 1)) (hv : ∀ h, P h → ∃ cA f, h a = some (.inl (cA, N, f)) ∧ (e_tys E)[t0]? = some (cA, ty)) (hN : Int32.ofNat N = v) (kk : J P ce sl (pc + 1) lv (.int v :: st)) : J P ce sl pc lv (.ref a :: st) := by
  obtain ⟨p, e, s, m, args, below, meth, c, A, Q, rfl, hx, hb, hml, hown, hts, hK, hA, hnm, hret⟩ := O
  intro H locs ls ws h1 h2 h3 h4 h5
  obtain ⟨cA, f, f1, f2⟩ := hv _ h3
  obtain ⟨q0, f3⟩ := hf_mem f1
  exact va_alen hx hb hK.1 h1 q0 t0 f3 f2 hN d (kk H locs ls ws h1 h2 h3 h4 h5)
theorem x_aald {l : Launch} {E : En} {cc : ByteArray} {own nm : String} {nL : Nat} {R : Room} {ret : Option FieldType} {Fn : Ft} {J : Jt} (O : Ok l E cc own nm nL R ret Fn J) {pc : Nat} {a t0 : Nat} {C : String} {i : Int32} {v : Option Nat} {P : HP} {ce sl : Nat} {lv : LV} {st : List Value} (d : decode cc pc = .ok (.aaload, 1)) (ht : (e_tys E)[t0]? = some (E.2 t0, .object C)) (hv : ∀ h, P h → ∃ N f, h a = some (.inl (E.2 t0, N, .inr (.inr (.inr (.inr f))))) ∧ vp_in i N ∧ f i.toNatClampNeg = v) (kk : J P ce sl (pc + 1) lv (va_rf v :: st)) : J P ce sl pc lv (.int i :: .ref a :: st) := by
  obtain ⟨p, e, s, m, args, below, meth, c, A, Q, rfl, hx, hb, hml, hown, hts, hK, hA, hnm, hret⟩ := O
  intro H locs ls ws h1 h2 h3 h4 h5
  obtain ⟨N, f, f1, f2, f4⟩ := hv _ h3
  obtain ⟨q0, f3⟩ := hf_mem f1
  subst f4
  exact va_aldq hx hb hK.1 h1 q0 t0 f3 ht f2 d (kk H locs ls ws h1 h2 h3 h4 h5)
theorem x_aast {l : Launch} {E : En} {cc : ByteArray} {own nm : String} {nL : Nat} {R : Room} {ret : Option FieldType} {Fn : Ft} {J : Jt} (O : Ok l E cc own nm nL R ret Fn J) {pc : Nat} {a b t0 ci : Nat} {r : vw_C} {i : Int32} {P P' : HP} {ce sl : Nat} {lv : LV} {st : List Value} (d : decode cc pc = .ok (.aastore, 1)) (ht : (e_tys E)[t0]? = some (E.2 t0, .object r.1)) (hc : vwCl[ci]? = some r) (hv : ∀ h, P h → ∃ N f fs, h a = some (.inl (E.2 t0, N, .inr (.inr (.inr (.inr f))))) ∧ h b = some (.inr (ci, fs)) ∧ vp_in i N ∧ P' (hset h a (.inl (E.2 t0, N, .inr (.inr (.inr (.inr (va_up f i.toNatClampNeg (some b))))))))) (kk : J P' ce sl (pc + 1) lv st) : J P ce sl pc lv (.ref b :: .int i :: .ref a :: st) := by
  obtain ⟨p, e, s, m, args, below, meth, c, A, Q, rfl, hx, hb, hml, hown, hts, hK, hA, hnm, hret⟩ := O
  intro H locs ls ws h1 h2 h3 h4 h5
  obtain ⟨N, f, fs, f1, f6, f2, f5⟩ := hv _ h3
  obtain ⟨q0, f3⟩ := hf_mem f1
  obtain ⟨qk, f7⟩ := hf_mem f6
  refine va_astq hx hb hK.1 h1 h2 h4 q0 t0 qk ci f3 ht f7 hc f2 d (fun H1 locs1 q1 q2 q3 => ?_)
  exact kk H1 locs1 ls _ q1 q2 (by rw [hf_set h2 f3]; exact f5) q3 h5
theorem x_new {l : Launch} {E : En} {cc : ByteArray} {own nm : String} {nL : Nat} {R : Room} {ret : Option FieldType} {Fn : Ft} {J : Jt} (O : Ok l E cc own nm nL R ret Fn J) {pc index : Nat} {ci N : Nat} {C : String} {T : u_T} {fs : List Value} {P P' : HP} {ce sl : Nat} {lv : LV} {st : List Value} (ty0 : Nat → FieldType) (d : decode cc pc = .ok (.new index, 3)) (hc : vwCl[ci]? = some (C, T, N)) (hin : ∀ w ∈ u_ws C T N, w ∈ wsL_law) (hty : ∀ k, k < N → parseFieldDescriptor (T k).2.2.1 = some (ty0 k)) (hl : Cond.classLink own index C ∈ wsL_law) (hi : Cond.instantiable C N ∈ wsL_law) (hini : Cond.initialized C ∈ wsL_law) (hfs : ∀ j, j < N → defaultValue (ty0 j) = vp_V fs j) (hce : ce + 1 ≤ R.cells) (hsl : sl + N ≤ R.slots) (kk : ∀ q, J (fun h => ∃ h0, P h0 ∧ h0 q = none ∧ h = hset h0 q (.inr (ci, fs))) (ce + 1) (sl + N) (pc + 3) lv (.ref q :: st)) : J P ce sl pc lv st := by
  obtain ⟨p, e, s, m, args, below, meth, c, A, Q, rfl, hx, hb, hml, hown, hts, hK, hA, hnm, hret⟩ := O
  intro H locs ls ws h1 h2 h3 h4 h5
  refine va_new (ci := ci) (fs := fs) (C := C) (T := T) (N := N) hx hb hts hin ty0 hty hown (hts _ hl) (hts _ hi) (hts _ hini) hK.1 h1 h2 h4 hA hc hfs hce hsl d (fun q H1 q1 q2 q3 => ?_)
  exact kk q H1 locs ls _ q1 q2 ⟨hf ws, h3, hf_fresh q2, hf_push h2 q2⟩ q3 h5
theorem x_newi {l : Launch} {E : En} {cc : ByteArray} {own nm : String} {nL : Nat} {R : Room} {ret : Option FieldType} {Fn : Ft} {J : Jt} (O : Ok l E cc own nm nL R ret Fn J) {pc : Nat} {i : Int32} {N : Nat} {P : HP} {ce sl : Nat} {lv : LV} {st : List Value} (d : decode cc pc = .ok (.newarray .int, 2)) (hn : ¬ i < 0) (hN : i.toNatClampNeg = N) (hN2 : N ≤ 131072) (hce : ce + 1 ≤ R.cells) (hsl : sl + N ≤ R.slots) (kk : ∀ q, J (fun h => ∃ h0, P h0 ∧ h0 q = none ∧ h = hset h0 q (.inl (E.2 0, N, .inl (fun _ => 0)))) (ce + 1) (sl + N) (pc + 2) lv (.ref q :: st)) : J P ce sl pc lv (.int i :: st) := by
  obtain ⟨p, e, s, m, args, below, meth, c, A, Q, rfl, hx, hb, hml, hown, hts, hK, hA, hnm, hret⟩ := O
  intro H locs ls ws h1 h2 h3 h4 h5
  refine va_newa (atype := .int) (a0 := (N, .inl (fun _ => 0))) (ty := .int) hx hb (hts _ ac_int) rfl hK.1 h1 h2 h4 hA (fun cA => rfl) hn hN (by simp only [componentBytes]; omega) hce hsl d (fun q cA H1 q0 q1 q2 q3 => ?_)
  have e1 := (q0.2 5 (cA, .int) rfl).2
  have e2 := (hK.1.2 0 (E.2 0, .int) rfl).2
  have e3 : cA = E.2 0 := Option.some.inj (e1.symm.trans e2)
  subst e3
  exact kk q H1 locs ls _ q1 q2 ⟨hf ws, h3, hf_fresh q2, hf_push h2 q2⟩ q3 h5
theorem x_newz {l : Launch} {E : En} {cc : ByteArray} {own nm : String} {nL : Nat} {R : Room} {ret : Option FieldType} {Fn : Ft} {J : Jt} (O : Ok l E cc own nm nL R ret Fn J) {pc : Nat} {i : Int32} {N : Nat} {P : HP} {ce sl : Nat} {lv : LV} {st : List Value} (d : decode cc pc = .ok (.newarray .boolean, 2)) (hn : ¬ i < 0) (hN : i.toNatClampNeg = N) (hN2 : N ≤ 131072) (hce : ce + 1 ≤ R.cells) (hsl : sl + N ≤ R.slots) (kk : ∀ q, J (fun h => ∃ h0, P h0 ∧ h0 q = none ∧ h = hset h0 q (.inl (E.2 1, N, .inl (fun _ => 0)))) (ce + 1) (sl + N) (pc + 2) lv (.ref q :: st)) : J P ce sl pc lv (.int i :: st) := by
  obtain ⟨p, e, s, m, args, below, meth, c, A, Q, rfl, hx, hb, hml, hown, hts, hK, hA, hnm, hret⟩ := O
  intro H locs ls ws h1 h2 h3 h4 h5
  refine va_newa (atype := .boolean) (a0 := (N, .inl (fun _ => 0))) (ty := .boolean) hx hb (hts _ ac_boolean) rfl hK.1 h1 h2 h4 hA (fun cA => rfl) hn hN (by simp only [componentBytes]; omega) hce hsl d (fun q cA H1 q0 q1 q2 q3 => ?_)
  have e1 := (q0.2 5 (cA, .boolean) rfl).2
  have e2 := (hK.1.2 1 (E.2 1, .boolean) rfl).2
  have e3 : cA = E.2 1 := Option.some.inj (e1.symm.trans e2)
  subst e3
  exact kk q H1 locs ls _ q1 q2 ⟨hf ws, h3, hf_fresh q2, hf_push h2 q2⟩ q3 h5
theorem x_newq {l : Launch} {E : En} {cc : ByteArray} {own nm : String} {nL : Nat} {R : Room} {ret : Option FieldType} {Fn : Ft} {J : Jt} (O : Ok l E cc own nm nL R ret Fn J) {pc index : Nat} {i : Int32} {N t0 : Nat} {C : String} {P : HP} {ce sl : Nat} {lv : LV} {st : List Value} (d : decode cc pc = .ok (.anewarray index, 3)) (ht : (e_tys E)[t0]? = some (E.2 t0, .object C)) (hao : ∀ U, e_K E U → va_AO C U) (hl : Cond.classLink own index C ∈ wsL_law) (hn : ¬ i < 0) (hN : i.toNatClampNeg = N) (hN2 : N ≤ 131072) (hce : ce + 1 ≤ R.cells) (hsl : sl + N ≤ R.slots) (kk : ∀ q, J (fun h => ∃ h0, P h0 ∧ h0 q = none ∧ h = hset h0 q (.inl (E.2 t0, N, .inr (.inr (.inr (.inr (fun _ => none))))))) (ce + 1) (sl + N) (pc + 3) lv (.ref q :: st)) : J P ce sl pc lv (.int i :: st) := by
  obtain ⟨p, e, s, m, args, below, meth, c, A, Q, rfl, hx, hb, hml, hown, hts, hK, hA, hnm, hret⟩ := O
  intro H locs ls ws h1 h2 h3 h4 h5
  refine va_newq (C := C) hx hb hown (hts _ hl) (hao s hK) hK.1 h1 h2 h4 hA hn hN (by omega) hce hsl d (fun q cA H1 q0 q1 q2 q3 => ?_)
  obtain ⟨-, -, -, -, -, e1⟩ := (q0.2 5 (cA, .object C) rfl).2
  obtain ⟨-, -, -, -, -, e2⟩ := (hK.1.2 t0 (E.2 t0, .object C) ht).2
  have e3 : cA = E.2 t0 := Option.some.inj (e1.symm.trans e2)
  subst e3
  exact kk q H1 locs ls _ q1 q2 ⟨hf ws, h3, hf_fresh q2, hf_push h2 q2⟩ q3 h5
theorem x_obj {l : Launch} {E : En} {cc : ByteArray} {own nm : String} {nL : Nat} {R : Room} {ret : Option FieldType} {Fn : Ft} {J : Jt} (O : Ok l E cc own nm nL R ret Fn J) {pc index a : Nat} {P : HP} {ce sl : Nat} {lv : LV} {st : List Value} (d : decode cc pc = .ok (.invokespecial index, 3)) (hl : Cond.methodLink own index objectInit ∈ wsL_law) (hf1 : 1 ≤ R.frames) (hf2 : (st.map fun v => v.category).sum + 12 ≤ R.locals) (kk : J P ce sl (pc + 3) lv st) : J P ce sl pc lv (.ref a :: st) := by
  obtain ⟨p, e, s, m, args, below, meth, c, A, Q, rfl, hx, hb, hml, hown, hts, hK, hA, hnm, hret⟩ := O
  intro H locs ls ws h1 h2 h3 h4 h5
  exact W.objInit hx hb hown (hts _ hl) (hts _ oi_inst) (hts _ oi_code) rfl (by rw [hml]; exact h5.2.1) rfl d hf1 (by show 2 * 0 + _ + 12 ≤ _; omega) (kk H locs ls ws h1 h2 h3 h4 h5)
theorem x_min {l : Launch} {E : En} {cc : ByteArray} {own nm : String} {nL : Nat} {R : Room} {ret : Option FieldType} {Fn : Ft} {J : Jt} (O : Ok l E cc own nm nL R ret Fn J) {pc index : Nat} {x y : Int32} {P : HP} {ce sl : Nat} {lv : LV} {st : List Value} (d : decode cc pc = .ok (.invokestatic index, 3)) (hl : Cond.methodLink own index Lib.Math.min.name ∈ wsL_law) (hf1 : 1 ≤ R.frames) (hf2 : (st.map fun v => v.category).sum + 13 ≤ R.locals) (hce : ce ≤ R.cells) (hsl : sl ≤ R.slots) (kk : J P ce sl (pc + 3) lv (.int (if y < x then y else x) :: st)) : J P ce sl pc lv (.int y :: .int x :: st) := by
  obtain ⟨p, e, s, m, args, below, meth, c, A, Q, rfl, hx, hb, hml, hown, hts, hK, hA, hnm, hret⟩ := O
  intro H locs ls ws h1 h2 h3 h4 h5
  exact va_mmin hx hb (by rw [hml]; exact h5.2.1.symm) hown (hts _ hl) (hts _ mi_st) (hts _ mm_ini) (hts _ mi_code) hf1 hf2 hce hsl d (kk H locs ls ws h1 h2 h3 h4 h5)
theorem x_max {l : Launch} {E : En} {cc : ByteArray} {own nm : String} {nL : Nat} {R : Room} {ret : Option FieldType} {Fn : Ft} {J : Jt} (O : Ok l E cc own nm nL R ret Fn J) {pc index : Nat} {x y : Int32} {P : HP} {ce sl : Nat} {lv : LV} {st : List Value} (d : decode cc pc = .ok (.invokestatic index, 3)) (hl : Cond.methodLink own index Lib.Math.max.name ∈ wsL_law) (hf1 : 1 ≤ R.frames) (hf2 : (st.map fun v => v.category).sum + 13 ≤ R.locals) (hce : ce ≤ R.cells) (hsl : sl ≤ R.slots) (kk : J P ce sl (pc + 3) lv (.int (if x < y then y else x) :: st)) : J P ce sl pc lv (.int y :: .int x :: st) := by
  obtain ⟨p, e, s, m, args, below, meth, c, A, Q, rfl, hx, hb, hml, hown, hts, hK, hA, hnm, hret⟩ := O
  intro H locs ls ws h1 h2 h3 h4 h5
  exact va_mmax hx hb (by rw [hml]; exact h5.2.1.symm) hown (hts _ hl) (hts _ mx_st) (hts _ mm_ini) (hts _ mx_code) hf1 hf2 hce hsl d (kk H locs ls ws h1 h2 h3 h4 h5)
/-! ===== contracts ===== -/
def mtPc (E : En) (ws : va_W) (sz : Nat) (av : List Value) : Array Value → State → Prop := va_Pc av (fun U => U.heap.size = sz ∧ va_P E.1 vwCl ws U.heap ∧ e_K E U ∧ va_D (fun _ => True) ws)
def mtQc {X : Type} (E : En) (ws : va_W) (sz : Nat) (val : X → Option Value) (P' : X → HP) : Array Value → State → Outcome → State → Prop := fun _ st oc t => (∃ (x : X) (ws' : va_W), oc = .returned (val x) ∧ P' x (hf ws') ∧ va_P E.1 vwCl ws' t.heap ∧ va_D (va_A ws sz) ws') ∧ va_F (va_A ws sz) st t
def Mt {X : Type} (l : Launch) (E : En) (y : MethodName) (bytes : ByteArray) (maxL : Nat) (ret : Option FieldType) (rm : Room) (av : List Value) (P : HP) (val : X → Option Value) (P' : X → HP) : Prop :=
  ∀ (ws : va_W) (sz : Nat), P (hf ws) → Met l y (.code y bytes maxL ret :: wsL_law) rm (mtPc E ws sz av) (mtQc E ws sz val P') rm.cells rm.slots (va_A ws sz)
theorem e_K_warm {E : En} {s U : State} (hW : s.WarmedH U.vm) (h : e_K E s) : e_K E U := ⟨va_K.moved hW.alike h.1, h.2.1.moved hW.alike, h.2.2.1.moved hW.alike, h.2.2.2.1.moved hW.alike, va_Nw.warmM hW h.2.2.2.2⟩
theorem e_K_same {E : En} {u U : State} (hvm : u.vm = U.vm) (h : e_K E u) : e_K E U := by
  have ha : u.vm.Alike U.vm := by rw [hvm]; exact Vm.Alike.refl _
  exact ⟨va_K.moved ha h.1, h.2.1.moved ha, h.2.2.1.moved ha, h.2.2.2.1.moved ha, va_Nw.same rfl hvm h.2.2.2.2⟩
theorem lawgood : ∀ w ∈ wsL_law, ((w.onTables && w.keeps) = true ∨ ∃ ty, w = .arrayClass ty) := fun w h => good_of_word (List.all_eq_true.mp wsL_law_gw w h)
theorem callB_law {R : Room} {s : State} {args : Array Value} {own : String} {index : Nat} {y : MethodName} {bytes : ByteArray} {maxL n : Nat} {ret : Option FieldType} {rm : Room} (hts : ∀ w ∈ wsL_law, w.before args s = true) (hc : CB own index y bytes maxL ret n) (hR : rm.frames + 1 ≤ R.frames ∧ 8 + (maxL + 11) + rm.locals ≤ R.locals) : CallB R s args own index y bytes maxL ret (.code y bytes maxL ret :: wsL_law) rm rm.cells rm.slots n :=
  callB_of (Ts := wsL_law) (ws' := wsL_law) n hts (fun w h => by
    rcases List.mem_cons.mp h with rfl | h
    · exact ⟨hc.2.2.1, lawgood _ hc.2.2.1⟩
    · exact ⟨h, lawgood _ h⟩) rfl rfl rfl (hts _ hc.2.1) (hts _ hc.1) hc.2.2.2 hR
section CALLX
variable {p : Program} {l : Launch} {e : Env} {R : Room} {s : State} {m : MethodId} {args : Array Value} {below : List Frame} {meth : Method} {c : Code} {H : Heap} {locs : List Loc} {cells slots : Nat} {Q : State → Prop}
variable {pc : Nat} {ls : Array Slot} {rest st0 : List Value} {a : Array Value} {A0 : Nat → Prop} {mc ms : Nat}
theorem x_back {X : Type} {E : En} {ws : va_W} {val : X → Option Value} {P' : X → HP} (hr : va_Run p l e R s m args below meth c H locs cells slots mc ms (F0 m pc ls st0) rest (mtQc E ws H.size val P' a) (va_A ws H.size)) (hD : va_D A0 ws) (hS : va_S A0 s.heap H locs) (hA : ∀ q, s.heap.size ≤ q → A0 q)
    (kk : ∀ (x : X) (ws' : va_W) (H1 : Heap) (locs1 : List Loc), P' x (hf ws') → va_P E.1 vwCl ws' H1 → va_D A0 ws' → va_S A0 s.heap H1 locs1 → W p l e R s m args below meth c H1 locs1 (cells + mc) (slots + ms) Q (F0 m (pc + 3) ls ((val x).toList ++ rest))) : W p l e R s m args below meth c H locs cells slots Q (F0 m pc ls st0) := by
  have hf : ∀ q, va_A ws H.size q → A0 q := fun q h => by
    rcases h with ⟨k, e, h⟩ | h
    · exact hD.2 k (q, e) h
    · exact hA q (Nat.le_trans hS.1 h)
  intro T hT X
  obtain ⟨v, st₀, t, T', L, h0, X', hL, e1, e2, ⟨⟨x, ws', hv, hp, hb, hd⟩, hz, hk⟩, st⟩ := hr T hT X
  cases hv
  rw [h0] at hz hk
  obtain ⟨t2, a1, b1⟩ := kk x ws' T'.heap (locs ++ L) hp (by rw [e1]; exact hb) (hd.weaken (fun _ _ _ h => hf _ h))
    ⟨Nat.le_trans hS.1 (by rw [e1]; exact hz), fun q h1 h2 => by rw [e1, hk q (Nat.lt_of_lt_of_le h1 hS.1) (fun z => h2 (hf q z))]; exact hS.2.1 q h1 h2, fun q hq => by
      rcases List.mem_append.mp hq with h | h
      · exact hS.2.2 q h
      · exact hf _ (hL q h)⟩ T' rfl X'
  exact ⟨t2, st t2 a1, b1⟩
end CALLX
theorem mt_pre {E : En} {s : State} {H : Heap} {ws : va_W} {A : Nat → Prop} {av : List Value} (hK : e_K E s) (hP : va_P E.1 vwCl ws H) (hD : va_D A ws) : PreS s H (mtPc E ws H.size av) av := ⟨fun a U g mk q => by
    obtain ⟨q0, q1, qP, qK, qD⟩ := q
    exact ⟨q0, q1, qP, e_K_same (u := U) (U := U.calling g mk a) rfl qK, qD⟩, fun U hU hW => ⟨rfl, by rw [hU], by rw [hU]; exact hP, e_K_warm hW hK, hD.weaken (fun _ _ _ _ => trivial)⟩⟩
theorem x_callV {l : Launch} {E : En} {cc : ByteArray} {own nm : String} {nL : Nat} {R : Room} {ret : Option FieldType} {Fn : Ft} {J : Jt} (O : Ok l E cc own nm nL R ret Fn J) {pc index : Nat} {X : Type} {y : MethodName} {bytes : ByteArray} {maxL n : Nat} {ret' : Option FieldType} {rm : Room} {val : X → Option Value} {P' : X → HP} {P : HP} {ce sl : Nat} {lv : LV} {st : List Value} {b : Nat} {As : List Value} (rest : List Value) (ci : Nat) (hM : Mt l E y bytes maxL ret' rm (.ref b :: As) P val P') (d : decode cc pc = .ok (.invokevirtual index, 3)) (hc : CB own index y bytes maxL ret' n) (him : Cond.instanceMethod y ∈ wsL_law) (hse : Cond.selects y.cls y y ∈ wsL_law) (hci : (vwCl[ci]?).map (fun q => q.1) = some y.cls) (hb0 : ∀ h, P h → ∃ fs, h b = some (.inr (ci, fs))) (hst : st = As.reverse ++ .ref b :: rest) (hn : As.length = n) (hw : (rest.map fun v => v.category).sum ≤ 8) (hR : rm.frames + 1 ≤ R.frames ∧ 8 + (maxL + 11) + rm.locals ≤ R.locals) (hce : ce + rm.cells ≤ R.cells ∧ sl + rm.slots ≤ R.slots) (kk : ∀ x, J (P' x) (ce + rm.cells) (sl + rm.slots) (pc + 3) lv ((val x).toList ++ rest)) : J P ce sl pc lv st := by
  obtain ⟨p, e, s, m, args, below, meth, c, A, Q, rfl, hx, hb, hml, hown, hts, hK, hA, hnm, hret⟩ := O
  intro H locs ls ws h1 h2 h3 h4 h5
  subst hst
  obtain ⟨fs, f1⟩ := hb0 _ h3
  obtain ⟨q0, f2⟩ := hf_mem f1
  cases hq : vwCl[ci]? with
  | none => rw [hq] at hci; cases hci
  | some q =>
    rw [hq] at hci
    have hq1 : q.1 = y.cls := Option.some.inj hci
    have hrec := va_recv hK.1 h1 hq f2
    rw [hq1] at hrec
    have hps := mt_pre (av := .ref b :: As) hK h1 h2
    exact x_back (va_runV (As := As) (rest := rest) ⟨hx, hb, hml, hown, hts⟩ (hM ws H.size h3) ⟨callB_law hts hc hR, hts _ him, hts _ hse⟩ ⟨hps.1, hrec, hps.2⟩ rfl hn h5.2.1 rfl (lv_room hw) d hce) h2 h4 hA (fun x ws' H1 locs1 g1 g2 g3 g4 => kk x H1 locs1 ls ws' g2 g3 g1 g4 h5)
theorem x_callS {l : Launch} {E : En} {cc : ByteArray} {own nm : String} {nL : Nat} {R : Room} {ret : Option FieldType} {Fn : Ft} {J : Jt} (O : Ok l E cc own nm nL R ret Fn J) {pc index : Nat} {X : Type} {y : MethodName} {bytes : ByteArray} {maxL n : Nat} {ret' : Option FieldType} {rm : Room} {val : X → Option Value} {P' : X → HP} {P : HP} {ce sl : Nat} {lv : LV} {st : List Value} {As : List Value} (rest : List Value) (hM : Mt l E y bytes maxL ret' rm As P val P') (d : decode cc pc = .ok (.invokestatic index, 3)) (hc : CB own index y bytes maxL ret' n) (him : Cond.static y ∈ wsL_law) (hst : st = As.reverse ++ rest) (hn : As.length = n) (hw : (rest.map fun v => v.category).sum ≤ 8) (hR : rm.frames + 1 ≤ R.frames ∧ 8 + (maxL + 11) + rm.locals ≤ R.locals) (hce : ce + rm.cells ≤ R.cells ∧ sl + rm.slots ≤ R.slots) (kk : ∀ x, J (P' x) (ce + rm.cells) (sl + rm.slots) (pc + 3) lv ((val x).toList ++ rest)) : J P ce sl pc lv st := by
  obtain ⟨p, e, s, m, args, below, meth, c, A, Q, rfl, hx, hb, hml, hown, hts, hK, hA, hnm, hret⟩ := O
  intro H locs ls ws h1 h2 h3 h4 h5
  subst hst
  exact x_back (va_runS (As := As) (rest := rest) ⟨hx, hb, hml, hown, hts⟩ (hM ws H.size h3) ⟨callB_law hts hc hR, hts _ him⟩ (mt_pre hK h1 h2) rfl hn h5.2.1 rfl (lv_room hw) d hce) h2 h4 hA (fun x ws' H1 locs1 g1 g2 g3 g4 => kk x H1 locs1 ls ws' g2 g3 g1 g4 h5)
theorem x_callI {l : Launch} {E : En} {cc : ByteArray} {own nm : String} {nL : Nat} {R : Room} {ret : Option FieldType} {Fn : Ft} {J : Jt} (O : Ok l E cc own nm nL R ret Fn J) {pc index : Nat} {X : Type} {y : MethodName} {bytes : ByteArray} {maxL n : Nat} {rm : Room} {val : X → Option Value} {P' : X → HP} {P : HP} {ce sl : Nat} {lv : LV} {st : List Value} {b : Nat} {As : List Value} (rest : List Value) (hM : Mt l E y bytes maxL none rm (.ref b :: As) P val P') (hy : y.name = "<init>") (d : decode cc pc = .ok (.invokespecial index, 3)) (hc : CB own index y bytes maxL none n) (him : Cond.instanceMethod y ∈ wsL_law) (hst : st = As.reverse ++ .ref b :: rest) (hn : As.length = n) (hw : (rest.map fun v => v.category).sum ≤ 8) (hR : rm.frames + 1 ≤ R.frames ∧ 8 + (maxL + 11) + rm.locals ≤ R.locals) (hce : ce + rm.cells ≤ R.cells ∧ sl + rm.slots ≤ R.slots) (kk : ∀ x, J (P' x) (ce + rm.cells) (sl + rm.slots) (pc + 3) lv ((val x).toList ++ rest)) : J P ce sl pc lv st := by
  obtain ⟨p, e, s, m, args, below, meth, c, A, Q, rfl, hx, hb, hml, hown, hts, hK, hA, hnm, hret⟩ := O
  intro H locs ls ws h1 h2 h3 h4 h5
  subst hst
  exact x_back (va_runI (As := As) (rest := rest) ⟨hx, hb, hml, hown, hts⟩ (hM ws H.size h3) ⟨callB_law hts hc hR, hy, hts _ him⟩ (mt_pre hK h1 h2) rfl hn h5.2.1 rfl (lv_room hw) d hce) h2 h4 hA (fun x ws' H1 locs1 g1 g2 g3 g4 => kk x H1 locs1 ls ws' g2 g3 g1 g4 h5)
theorem x_callP {l : Launch} {E : En} {cc : ByteArray} {own nm : String} {nL : Nat} {R : Room} {ret : Option FieldType} {Fn : Ft} {J : Jt} (O : Ok l E cc RX7 nm nL R ret Fn J) {pc : Nat} {X : Type} {bytes : ByteArray} {maxL : Nat} {rm : Room} {val : X → Option Value} {P' : X → HP} {P : HP} {ce sl : Nat} {lv : LV} {st : List Value} {b : Nat} (rest : List Value) (hM : Mt l E yX3_init bytes maxL none rm [.ref b] P val P') (d : decode cc pc = .ok (.invokespecial 27, 3)) (hcode : Cond.code yX3_init bytes maxL none ∈ wsL_law) (him : Cond.instanceMethod yX3_init ∈ wsL_law) (hst : st = .ref b :: rest) (hw : (rest.map fun v => v.category).sum ≤ 8) (hR : rm.frames + 1 ≤ R.frames ∧ 8 + (maxL + 11) + rm.locals ≤ R.locals) (hce : ce + rm.cells ≤ R.cells ∧ sl + rm.slots ≤ R.slots) (kk : ∀ x, J (P' x) (ce + rm.cells) (sl + rm.slots) (pc + 3) lv ((val x).toList ++ rest)) : J P ce sl pc lv st := by
  obtain ⟨p, e, s, m, args, below, meth, c, A, Q, rfl, hx, hb, hml, hown, hts, hK, hA, hnm, hret⟩ := O
  intro H locs ls ws h1 h2 h3 h4 h5
  subst hst
  exact x_back (va_runIN (As := []) (rest := rest) ⟨hx, hb, hml, hown, hts⟩ (hM ws H.size h3) ⟨va_cnB (Ts := wsL_law) (ws' := wsL_law) 0 hts (fun w h => by
    rcases List.mem_cons.mp h with rfl | h
    · exact ⟨hcode, lawgood _ hcode⟩
    · exact ⟨h, lawgood _ h⟩) rfl rfl rfl hK.2.2.2.2 (hts _ ini_RX3) (by decide +kernel) hR, rfl, hts _ him⟩ (mt_pre hK h1 h2) rfl rfl h5.2.1 rfl (lv_room hw) d hce) h2 h4 hA (fun x ws' H1 locs1 g1 g2 g3 g4 => kk x H1 locs1 ls ws' g2 g3 g1 g4 h5)
/-! ===== a contract out of its body ===== -/
def ent1 : List Value → LV
  | [] => []
  | .long x :: r => some (.long x) :: none :: ent1 r
  | .double x :: r => some (.double x) :: none :: ent1 r
  | v :: r => some v :: ent1 r
def ent (vs : List Value) (n : Nat) : LV := ent1 vs ++ List.replicate (n - (ent1 vs).length) none
theorem ent1_len : ∀ vs : List Value, (ent1 vs).length = (lg_sl vs).length
  | [] => rfl
  | v :: r => by
    have ih := ent1_len r
    cases v <;> simp [ent1, lg_sl, Value.category] at ih ⊢ <;> omega
theorem ent1_mem : ∀ (vs : List Value) (i j : Nat) (v : Value), (ent1 vs)[j]? = some (some v) → (i + j, v) ∈ lv_args i vs
  | [], i, j, v, h => by simp [ent1] at h
  | u :: r, i, j, v, h => by
    have ih := fun i j v => ent1_mem r i j v
    by_cases hc : u.category = 2
    · have he : ent1 (u :: r) = some u :: none :: ent1 r := by cases u <;> first | rfl | (simp [Value.category] at hc)
      rw [he] at h
      simp only [lv_args, hc, if_true]
      rcases j with _ | _ | j
      · simp at h; subst h; exact List.mem_cons_self
      · simp at h
      · simp only [List.getElem?_cons_succ] at h
        have := ih (i + 2) j v h
        refine List.mem_cons_of_mem _ ?_
        rw [show i + (j + 1 + 1) = i + 2 + j by omega]
        exact this
    · have he : ent1 (u :: r) = some u :: ent1 r := by cases u <;> first | rfl | (simp [Value.category] at hc)
      rw [he] at h
      simp only [lv_args, hc, if_false]
      rcases j with _ | j
      · simp at h; subst h; exact List.mem_cons_self
      · simp only [List.getElem?_cons_succ] at h
        have := ih (i + 1) j v h
        refine List.mem_cons_of_mem _ ?_
        rw [show i + (j + 1) = i + 1 + j by omega]
        exact this
theorem ent_lvs (vs : List Value) (n : Nat) (h : (ent1 vs).length ≤ n) : lvs ((lg_sl vs ++ List.replicate (n - (lg_sl vs).length) Slot.unset).toArray) n (ent vs n) := by
  have hl := lv_entry vs (n := n) (by rw [← ent1_len]; exact h)
  refine ⟨by simp [ent]; omega, hl.1, hl.2.1, fun i v hv => ?_⟩
  unfold ent at hv
  by_cases hi : i < (ent1 vs).length
  · rw [List.getElem?_append_left hi] at hv
    have := ent1_mem vs 0 i v hv
    rw [Nat.zero_add] at this
    exact hl.2.2 _ this
  · rw [List.getElem?_append_right (Nat.le_of_not_lt hi), List.getElem?_replicate] at hv
    split at hv <;> cases hv
def mtFin {X : Type} (rm : Room) (val : X → Option Value) (P' : X → HP) : Ft := fun v P ce sl => ce ≤ rm.cells ∧ sl ≤ rm.slots ∧ ∃ x, v = val x ∧ ∀ h, P h → P' x h
theorem Mt_of {X : Type} {l : Launch} {E : En} {y : MethodName} {bytes : ByteArray} {maxL : Nat} {ret : Option FieldType} {rm : Room} {av : List Value} {P : HP} {val : X → Option Value} {P' : X → HP} (hy : plainName y.cls = true) (hlen : (ent1 av).length ≤ maxL) (body : ∀ J, Ok l E bytes y.cls y.name maxL rm ret (mtFin rm val P') J → J P 0 0 0 (ent av maxL) []) : Mt l E y bytes maxL ret rm av P val P' := by
  intro ws sz hP
  refine Met.ofW (cc := bytes) (maxL := maxL) (ret := ret) hy rfl ?_
  intro p e s m args below meth c s₁ B hml hv
  obtain ⟨rfl, rfl, hP0, hK, hD0⟩ := hv
  have hx := B.exec
  have hb := B.bytes
  have hr := B.returns
  have hlocks := B.notSynchronized
  have hts := atoms_spec (ws := .code y bytes maxL ret :: wsL_law) B.pre
  have hown : s.vm.findClass y.cls = some m.cls := findClass_of_methodNamed B.named
  have hnm : meth.name = y.name := (name_of_methodNamed B.named B.method).1
  have hD := hD0.self (sz := s.heap.size)
  have hA : ∀ q : Nat, s.heap.size ≤ q → va_A ws s.heap.size q := fun q h => Or.inr h
  rw [lg_entry_eq]
  refine body _ ⟨p, e, s, m, av.toArray, below, meth, c, va_A ws s.heap.size, MQ below (mtQc E ws s.heap.size val P') av.toArray s rm.cells rm.slots (va_A ws s.heap.size), rfl, hx, hb, hml, hown, fun w h => hts w (List.mem_cons_of_mem _ h), hK, hA, hnm, ?_⟩ s.heap [] _ ws hP0 hD hP va_S.rf (ent_lvs av maxL hlen)
  intro v P2 ce sl pc lv hF hrt hd H locs ls ws' g1 g2 g3 g4 g5
  obtain ⟨hc, hs, x, rfl, hx9⟩ := hF
  have hq : ∀ t : State, t.heap = H → s.WarmedH t.vm → mtQc E ws s.heap.size val P' av.toArray s (.returned (val x)) t := fun t ht hW => ⟨⟨x, ws', rfl, hx9 _ g3, by rw [ht]; exact g1, g2⟩, g4.F ht⟩
  refine W.widen hc hs ?_
  cases hv : val x with
  | none =>
    rw [hv] at hq hd hrt
    cases ret with
    | none => exact W.vret hx hb hr hq g4.2.2 hd
    | some ty => cases hrt
  | some u =>
    rw [hv] at hq hd hrt
    cases ret with
    | none => cases u <;> cases hrt
    | some ty =>
      cases u with
      | int z => exact W.zret hx hb hr hrt hq g4.2.2 hd
      | long z =>
        cases ty <;> first | (cases hrt; done) | exact W.lret hx hb hr hq g4.2.2 hd
      | ref z =>
        cases ty <;> first | (cases hrt; done) | exact W.aret hx hb hr (Or.inl ⟨_, rfl⟩) (Or.inr ⟨_, rfl⟩) hq g4.2.2 hd | exact W.aret hx hb hr (Or.inr ⟨_, rfl⟩) (Or.inr ⟨_, rfl⟩) hq g4.2.2 hd
      | null =>
        cases ty <;> first | (cases hrt; done) | exact W.aret hx hb hr (Or.inl ⟨_, rfl⟩) (Or.inl rfl) hq g4.2.2 hd
      | _ => cases ty <;> cases hrt
end
